theorem c_X7_ends (l : Launch) (S : q_St) (pm : Nat) (hpm : S 112 5 = nI pm) (hpm8 : pm ≤ 8) (x : Int32) : q_Fi l yX7_ends kX7_ends 1 [.ref 112, .int x] S ((uM_ends (x, S) pm).1) ((uM_ends (x, S) pm).2) := by
  refine q_Fi_of (maxL := 2) rfl (by decide +kernel) (fun ad => Nat.le_of_ble_eq_true rfl) rfl ?_
  intro K C hret
  have C : q_Cx K cX7_ends RX7 1 2 := C
  show q_V l K 0 [(0, .ref 112), (1, .int x)] [] S
  refine q_aload_n C dX7_ends_0 rfl rfl ?_
  refine q_getI (x := S 112 6) C flX7_36 q_s112 rfl dX7_ends_1 rfl ?_
  refine q_if_le (tgt := 25) C dX7_ends_4 (by decide)  (fun c_4 => ?_) (fun c_4 => ?_)
  · refine q_aload_n C dX7_ends_25 rfl rfl ?_
    refine q_getI (x := nI pm) C flX7_45 q_s112 rfl dX7_ends_26 hpm ?_
    refine q_bipush (v := 8) C dX7_ends_29 (by decide) ?_
    refine q_icmp_neN (a := pm) (b := 8) (tgt := 62) C dX7_ends_31 (by decide) rfl rfl (by omega) (by omega) (fun c_31 => ?_) (fun c_31 => ?_)
    · refine q_aload_n C dX7_ends_62 rfl rfl ?_
      refine q_getR C flX7_13 q_s112 rfl dX7_ends_63 ?_
      refine q_iconst (v := 0) C dX7_ends_66 (by decide) ?_
      refine q_aload_n C dX7_ends_67 rfl rfl ?_
      refine q_getR C flX7_19 q_s112 rfl dX7_ends_68 ?_
      refine q_sipush (v := 144) C dX7_ends_71 (by decide) ?_
      refine q_aload_n C dX7_ends_74 rfl rfl ?_
      refine q_getI (x := nI pm) C flX7_45 q_s112 rfl dX7_ends_75 hpm ?_
      refine q_imulN (a := 144) (b := pm) C dX7_ends_78 rfl rfl ?_
      refine q_sipush (v := 144) C dX7_ends_79 (by decide) ?_
      refine q_copyV (n := 144) (dp := 144 * pm) (sp := 0) (f := (va_cpy (S 114) (S 116) 0 (144 * pm) 144)) C q_s114 q_s116  rfl rfl rfl mlX7_39 w_copyN w_copyS w_copyI (by omega) (by omega) (by decide) (by decide) (by decide) (Nat.le_of_ble_eq_true rfl) dX7_ends_82 rfl ?_
      refine q_aload_n C dX7_ends_85 rfl rfl ?_
      refine q_dup C rfl dX7_ends_86 ?_
      refine q_getI (x := nI pm) C flX7_45 q_s112 rfl dX7_ends_87 hpm ?_
      refine q_iconst (v := 1) C dX7_ends_90 (by decide) ?_
      refine q_iaddN (a := pm) (b := 1) C dX7_ends_91 rfl rfl ?_
      refine q_put (ty9 := .int) C flX7_45 q_s112 rfl (fun _ _ _ h => by cases h; exact ⟨rfl, by decide +kernel⟩) rfl rfl dX7_ends_92 ?_
      refine q_iload_n C dX7_ends_95 rfl rfl ?_
      exact hret _ _ _ _ dX7_ends_96 (by simp [uM_ends, c_4, Int32.not_lt.mpr c_4, if_neg (Int32.not_lt.mpr c_4), c_31]) (by simp [uM_ends, uM_push, uM_back, c_4, Int32.not_lt.mpr c_4, if_neg (Int32.not_lt.mpr c_4), c_31])
    · refine q_aload_n C dX7_ends_34 rfl rfl ?_
      refine q_getR C flX7_19 q_s112 rfl dX7_ends_35 ?_
      refine q_sipush (v := 144) C dX7_ends_38 (by decide) ?_
      refine q_aload_n C dX7_ends_41 rfl rfl ?_
      refine q_getR C flX7_19 q_s112 rfl dX7_ends_42 ?_
      refine q_iconst (v := 0) C dX7_ends_45 (by decide) ?_
      refine q_sipush (v := 1008) C dX7_ends_46 (by decide) ?_
      refine q_copyV (n := 1008) (dp := 0) (sp := 144) (f := (va_cpy (S 116) (S 116) 144 0 1008)) C q_s116 q_s116  rfl rfl rfl mlX7_39 w_copyN w_copyS w_copyI (by omega) (by omega) (by decide) (by decide) (by decide) (Nat.le_of_ble_eq_true rfl) dX7_ends_49 rfl ?_
      refine q_aload_n C dX7_ends_52 rfl rfl ?_
      refine q_dup C rfl dX7_ends_53 ?_
      refine q_getI (x := nI pm) C flX7_45 q_s112 rfl dX7_ends_54 hpm ?_
      refine q_iconst (v := 1) C dX7_ends_57 (by decide) ?_
      refine q_isubN (a := pm) (b := 1) C dX7_ends_58 rfl rfl (by omega) ?_
      refine q_put (ty9 := .int) C flX7_45 q_s112 rfl (fun _ _ _ h => by cases h; exact ⟨rfl, by decide +kernel⟩) rfl rfl dX7_ends_59 ?_
      refine q_aload_n C dX7_ends_62 rfl rfl ?_
      refine q_getR C flX7_13 q_s112 rfl dX7_ends_63 ?_
      refine q_iconst (v := 0) C dX7_ends_66 (by decide) ?_
      refine q_aload_n C dX7_ends_67 rfl rfl ?_
      refine q_getR C flX7_19 q_s112 rfl dX7_ends_68 ?_
      refine q_sipush (v := 144) C dX7_ends_71 (by decide) ?_
      refine q_aload_n C dX7_ends_74 rfl rfl ?_
      refine q_getI (x := nI (pm - 1)) C flX7_45 q_s112 rfl dX7_ends_75 rfl ?_
      refine q_imulN (a := 144) (b := pm - 1) C dX7_ends_78 rfl rfl ?_
      refine q_sipush (v := 144) C dX7_ends_79 (by decide) ?_
      refine q_copyV (n := 144) (dp := 144 * (pm - 1)) (sp := 0) (f := (va_cpy (S 114) ((va_cpy (S 116) (S 116) 144 0 1008)) 0 (144 * (pm - 1)) 144)) C q_s114 q_s116  rfl rfl rfl mlX7_39 w_copyN w_copyS w_copyI (by omega) (by omega) (by decide) (by decide) (by decide) (Nat.le_of_ble_eq_true rfl) dX7_ends_82 rfl ?_
      refine q_aload_n C dX7_ends_85 rfl rfl ?_
      refine q_dup C rfl dX7_ends_86 ?_
      refine q_getI (x := nI (pm - 1)) C flX7_45 q_s112 rfl dX7_ends_87 rfl ?_
      refine q_iconst (v := 1) C dX7_ends_90 (by decide) ?_
      refine q_iaddN (a := pm - 1) (b := 1) C dX7_ends_91 rfl rfl ?_
      refine q_put (ty9 := .int) C flX7_45 q_s112 rfl (fun _ _ _ h => by cases h; exact ⟨rfl, by decide +kernel⟩) rfl rfl dX7_ends_92 ?_
      refine q_iload_n C dX7_ends_95 rfl rfl ?_
      exact hret _ _ _ _ dX7_ends_96 (by have e9 := c_31; subst e9; simp [uM_ends, c_4, Int32.not_lt.mpr c_4, if_neg (Int32.not_lt.mpr c_4), c_31]) (by have e9 := c_31; subst e9; simp [uM_ends, uM_push, c_4, Int32.not_lt.mpr c_4, if_neg (Int32.not_lt.mpr c_4), c_31])
  · refine q_aload_n C dX7_ends_7 rfl rfl ?_
    refine q_getR C flX7_13 q_s112 rfl dX7_ends_8 ?_
    refine q_iconst (v := 0) C dX7_ends_11 (by decide) ?_
    refine q_aload_n C dX7_ends_12 rfl rfl ?_
    refine q_getR C flX7_9 q_s112 rfl dX7_ends_13 ?_
    refine q_iconst (v := 0) C dX7_ends_16 (by decide) ?_
    refine q_sipush (v := 144) C dX7_ends_17 (by decide) ?_
    refine q_copyV (n := 144) (dp := 0) (sp := 0) (f := (va_cpy (S 114) (S 113) 0 0 144)) C q_s114 q_s113  rfl rfl rfl mlX7_39 w_copyN w_copyS w_copyI (by omega) (by omega) (by decide) (by decide) (by decide) (Nat.le_of_ble_eq_true rfl) dX7_ends_20 rfl ?_
    refine q_iconst (v := 0) C dX7_ends_23 (by decide) ?_
    exact hret _ _ _ _ dX7_ends_24 (by simp [uM_ends, c_4, Int32.not_le.mpr c_4, if_pos c_4]) (by simp [uM_ends, uM_push, uM_back, c_4, Int32.not_le.mpr c_4, if_pos c_4])
theorem c_X7_hears1 (l : Launch) (S : q_St) (m : Nat) (hm : m < 8) (g : Nat) (hg : g < 6) : q_Fv l yX7_hears kX7_hears 2 [.ref 112, .int (nI m), .int (nI g), .int 1] S (uM_hear1 S m g) := by
  refine q_Fv_of (maxL := 4) rfl (by decide +kernel) (fun ad => Nat.le_of_ble_eq_true rfl) ?_
  intro K C hret
  have C : q_Cx K cX7_hears RX7 2 4 := C
  show q_V l K 0 [(0, .ref 112), (1, .int (nI m)), (2, .int (nI g)), (3, .int 1)] [] S
  refine q_aload_n C dX7_hears_0 rfl rfl ?_
  refine q_iload_n C dX7_hears_1 rfl rfl ?_
  refine q_iload_n C dX7_hears_2 rfl rfl ?_
  refine q_iload_n C dX7_hears_3 rfl rfl ?_
  refine q_if_eq (tgt := 11) C dX7_hears_4 (by decide) (fun h9 => absurd h9 (by decide)) (fun _ => ?_)
  refine q_iconst (v := 3) C dX7_hears_7 (by decide) ?_
  refine q_goto (tgt := 12) C dX7_hears_8 (by decide) ?_
  refine q_cv3 C (c_X7_answers l S m (by omega) g (by omega) 3) myX7_answers mlX7_119 q_s112 ⟨by decide, by decide⟩ (Nat.le_of_ble_eq_true rfl) dX7_hears_12 ?_
  refine q_aload_n C dX7_hears_15 rfl rfl ?_
  refine q_getR C flX7_9 q_s112 rfl dX7_hears_16 ?_
  refine q_bipush (v := 6) C dX7_hears_19 (by decide) ?_
  refine q_iload_n C dX7_hears_21 rfl rfl ?_
  refine q_iaddN (a := 6) (b := g) C dX7_hears_22 rfl rfl ?_
  refine q_dup2 C rfl rfl dX7_hears_23 ?_
  refine q_ialdN (i := 6 + g) (x := S 113 (6 + g)) C rfl q_s113 (by omega) (by decide) dX7_hears_24 (q_p_ne S 113 (32 + 14 * m + 8 + g) 3 (6 + g) (by omega)) ?_
  refine q_iload_n C dX7_hears_25 rfl rfl ?_
  refine q_if_eq (tgt := 38) C dX7_hears_26 (by decide) (fun h9 => absurd h9 (by decide)) (fun _ => ?_)
  refine q_aload_n C dX7_hears_29 rfl rfl ?_
  refine q_iload_n C dX7_hears_30 rfl rfl ?_
  refine q_iload_n C dX7_hears_31 rfl rfl ?_
  refine q_ci2 C (q_Fi.cv (v' := S 113 (32 + 14 * m + 2 + g)) (q_p_ne S 113 (32 + 14 * m + 8 + g) 3 (32 + 14 * m + 2 + g) (by omega)) (c_X7_amountOf l (q_p S 113 (32 + 14 * m + 8 + g) 3) m (by omega) g (by omega))) myX7_amountOf mlX7_62 q_s112 ⟨by decide, by decide⟩ (Nat.le_of_ble_eq_true rfl) dX7_hears_32 ?_
  refine q_goto (tgt := 39) C dX7_hears_35 (by decide) ?_
  refine q_iadd C dX7_hears_39 ?_
  refine q_iastN (i := 6 + g) C rfl q_s113 (by omega) (by decide) dX7_hears_40 ?_
  exact hret _ _ _ dX7_hears_41 rfl
theorem c_X7_hears0 (l : Launch) (S : q_St) (m : Nat) (hm : m < 8) (g : Nat) (hg : g < 6) : q_Fv l yX7_hears kX7_hears 2 [.ref 112, .int (nI m), .int (nI g), .int 0] S (uM_hear0 S m g) := by
  refine q_Fv_of (maxL := 4) rfl (by decide +kernel) (fun ad => Nat.le_of_ble_eq_true rfl) ?_
  intro K C hret
  have C : q_Cx K cX7_hears RX7 2 4 := C
  show q_V l K 0 [(0, .ref 112), (1, .int (nI m)), (2, .int (nI g)), (3, .int 0)] [] S
  refine q_aload_n C dX7_hears_0 rfl rfl ?_
  refine q_iload_n C dX7_hears_1 rfl rfl ?_
  refine q_iload_n C dX7_hears_2 rfl rfl ?_
  refine q_iload_n C dX7_hears_3 rfl rfl ?_
  refine q_if_eq (tgt := 11) C dX7_hears_4 (by decide) (fun _ => ?_) (fun h9 => absurd h9 (by decide))
  refine q_iconst (v := 4) C dX7_hears_11 (by decide) ?_
  refine q_cv3 C (c_X7_answers l S m (by omega) g (by omega) 4) myX7_answers mlX7_119 q_s112 ⟨by decide, by decide⟩ (Nat.le_of_ble_eq_true rfl) dX7_hears_12 ?_
  refine q_aload_n C dX7_hears_15 rfl rfl ?_
  refine q_getR C flX7_9 q_s112 rfl dX7_hears_16 ?_
  refine q_bipush (v := 6) C dX7_hears_19 (by decide) ?_
  refine q_iload_n C dX7_hears_21 rfl rfl ?_
  refine q_iaddN (a := 6) (b := g) C dX7_hears_22 rfl rfl ?_
  refine q_dup2 C rfl rfl dX7_hears_23 ?_
  refine q_ialdN (i := 6 + g) (x := S 113 (6 + g)) C rfl q_s113 (by omega) (by decide) dX7_hears_24 (q_p_ne S 113 (32 + 14 * m + 8 + g) 4 (6 + g) (by omega)) ?_
  refine q_iload_n C dX7_hears_25 rfl rfl ?_
  refine q_if_eq (tgt := 38) C dX7_hears_26 (by decide) (fun _ => ?_) (fun h9 => absurd h9 (by decide))
  refine q_iconst (v := 0) C dX7_hears_38 (by decide) ?_
  refine q_iadd C dX7_hears_39 ?_
  refine q_iastN (i := 6 + g) C rfl q_s113 (by omega) (by decide) dX7_hears_40 ?_
  exact hret _ _ _ dX7_hears_41 rfl
theorem c_X7_decides (l : Launch) (S : q_St) (N : Nat) (hN : S 113 5 = nI N) (hN8 : N < 8) (m : Nat) (hm : m < 8) (v : Int32) : q_Fv l yX7_decides kX7_decides 1 [.ref 112, .int (nI m), .int v] S (uM_book S m N v) := by
  refine q_Fv_of (maxL := 3) rfl (by decide +kernel) (fun ad => Nat.le_of_ble_eq_true rfl) ?_
  intro K C hret
  have C : q_Cx K cX7_decides RX7 1 3 := C
  show q_V l K 0 [(0, .ref 112), (1, .int (nI m)), (2, .int v)] [] S
  refine q_aload_n C dX7_decides_0 rfl rfl ?_
  refine q_getR C flX7_9 q_s112 rfl dX7_decides_1 ?_
  refine q_bipush (v := 32) C dX7_decides_4 (by decide) ?_
  refine q_bipush (v := 14) C dX7_decides_6 (by decide) ?_
  refine q_iload_n C dX7_decides_8 rfl rfl ?_
  refine q_imulN (a := 14) (b := m) C dX7_decides_9 rfl rfl ?_
  refine q_iaddN (a := 32) (b := 14 * m) C dX7_decides_10 rfl rfl ?_
  refine q_iconst (v := 0) C dX7_decides_11 (by decide) ?_
  refine q_iaddN (a := 32 + (14 * m)) (b := 0) C dX7_decides_12 rfl rfl ?_
  refine q_iload_n C dX7_decides_13 rfl rfl ?_
  refine q_iastN (i := 32 + (14 * m)) C rfl q_s113 (by omega) (by decide) dX7_decides_14 ?_
  refine q_aload_n C dX7_decides_15 rfl rfl ?_
  refine q_getR C flX7_9 q_s112 rfl dX7_decides_16 ?_
  refine q_bipush (v := 24) C dX7_decides_19 (by decide) ?_
  refine q_aload_n C dX7_decides_21 rfl rfl ?_
  refine q_getR C flX7_9 q_s112 rfl dX7_decides_22 ?_
  refine q_iconst (v := 5) C dX7_decides_25 (by decide) ?_
  refine q_ialdN (i := 5) (x := nI N) C rfl q_s113 (by omega) (by decide) dX7_decides_26 ((q_p_ne S 113 (32 + (14 * m)) v 5 (by omega)).trans hN) ?_
  refine q_iaddN (a := 24) (b := N) C dX7_decides_27 rfl rfl ?_
  refine q_iload_n C dX7_decides_28 rfl rfl ?_
  refine q_iastN (i := 24 + N) C rfl q_s113 (by omega) (by decide) dX7_decides_29 ?_
  refine q_aload_n C dX7_decides_30 rfl rfl ?_
  refine q_getR C flX7_9 q_s112 rfl dX7_decides_31 ?_
  refine q_iconst (v := 5) C dX7_decides_34 (by decide) ?_
  refine q_dup2 C rfl rfl dX7_decides_35 ?_
  refine q_ialdN (i := 5) (x := nI N) C rfl q_s113 (by omega) (by decide) dX7_decides_36 (((q_p_ne (q_p S 113 (32 + (14 * m)) v) 113 (24 + N) (nI m) 5 (by omega)).trans (q_p_ne S 113 (32 + (14 * m)) v 5 (by omega))).trans hN) ?_
  refine q_iconst (v := 1) C dX7_decides_37 (by decide) ?_
  refine q_iaddN (a := N) (b := 1) C dX7_decides_38 rfl rfl ?_
  refine q_iastN (i := 5) C rfl q_s113 (by omega) (by decide) dX7_decides_39 ?_
  exact hret _ _ _ dX7_decides_40 rfl
theorem c_X7_doMatter (l : Launch) (S : q_St) (M : Nat) (hM : S 113 0 = nI M) (hM8 : M ≤ 8) : q_Fi l yX7_doMatter kX7_doMatter 2 [.ref 112] S ((uMd_matter S M).1) ((uMd_matter S M).2) := by
  refine q_Fi_of (maxL := 3) rfl (by decide +kernel) (fun ad => Nat.le_of_ble_eq_true rfl) rfl ?_
  intro K C hret
  have C : q_Cx K cX7_doMatter RX7 2 3 := C
  show q_V l K 0 [(0, .ref 112)] [] S
  refine q_aload_n C dX7_doMatter_0 rfl rfl ?_
  refine q_getR C flX7_9 q_s112 rfl dX7_doMatter_1 ?_
  refine q_iconst (v := 0) C dX7_doMatter_4 (by decide) ?_
  refine q_ialdN (i := 0) (x := nI M) C rfl q_s113 (by omega) (by decide) dX7_doMatter_5 hM ?_
  refine q_istore_n (lv' := [(1, .int (nI M)), (0, .ref 112)]) C dX7_doMatter_6 rfl (by decide) rfl ?_
  refine q_iload_n C dX7_doMatter_7 rfl rfl ?_
  refine q_bipush (v := 8) C dX7_doMatter_8 (by decide) ?_
  refine q_icmp_neN (a := M) (b := 8) (tgt := 22) C dX7_doMatter_10 (by decide) rfl rfl (by omega) (by omega) (fun c_10 => ?_) (fun c_10 => ?_)
  · refine q_iconst (v := 0) C dX7_doMatter_22 (by decide) ?_
    refine q_istore_n (lv' := [(2, .int 0), (1, .int (nI M)), (0, .ref 112)]) C dX7_doMatter_23 rfl (by decide) rfl ?_
    have loop_24 : ∀ (n_24 i_24 : Nat), i_24 + n_24 = 14 → q_V l K 24 [(0, .ref 112), (1, .int (nI M)), (2, .int (nI i_24))] [] (uM_z S M i_24) := by
      intro n_24
      induction n_24 with
      | zero =>
        intro i_24 hi_24
        have e_24 : i_24 = 14 := by omega
        refine q_iload_n C dX7_doMatter_24 rfl rfl ?_
        refine q_bipush (v := 14) C dX7_doMatter_25 (by decide) ?_
        refine q_icmp_geN (a := i_24) (b := 14) (tgt := 51) C dX7_doMatter_27 (by decide) rfl rfl (by omega) (by omega) (fun c_27 => ?_) (fun c_27 => absurd c_27 (by omega))
        refine q_aload_n C dX7_doMatter_51 rfl rfl ?_
        refine q_getR C flX7_9 q_s112 rfl dX7_doMatter_52 ?_
        refine q_bipush (v := 32) C dX7_doMatter_55 (by decide) ?_
        refine q_bipush (v := 14) C dX7_doMatter_57 (by decide) ?_
        refine q_iload_n C dX7_doMatter_59 rfl rfl ?_
        refine q_imulN (a := 14) (b := M) C dX7_doMatter_60 rfl rfl ?_
        refine q_iaddN (a := 32) (b := 14 * M) C dX7_doMatter_61 rfl rfl ?_
        refine q_iconst (v := 1) C dX7_doMatter_62 (by decide) ?_
        refine q_iaddN (a := 32 + (14 * M)) (b := 1) C dX7_doMatter_63 rfl rfl ?_
        refine q_aload_n C dX7_doMatter_64 rfl rfl ?_
        refine q_getR C flX7_9 q_s112 rfl dX7_doMatter_65 ?_
        refine q_iconst (v := 2) C dX7_doMatter_68 (by decide) ?_
        refine q_ialdN (i := 2) (x := S 113 2) C rfl q_s113 (by omega) (by decide) dX7_doMatter_69 (uM_z_out S M 113 2 (Or.inr (Or.inl (by omega))) _ (by omega)) ?_
        refine q_iastN (i := 32 + (14 * M) + 1) C rfl q_s113 (by omega) (by decide) dX7_doMatter_70 ?_
        refine q_aload_n C dX7_doMatter_71 rfl rfl ?_
        refine q_getR C flX7_9 q_s112 rfl dX7_doMatter_72 ?_
        refine q_iconst (v := 0) C dX7_doMatter_75 (by decide) ?_
        refine q_dup2 C rfl rfl dX7_doMatter_76 ?_
        refine q_ialdN (i := 0) (x := nI M) C rfl q_s113 (by omega) (by decide) dX7_doMatter_77 ((q_p_ne _ _ _ _ _ (by omega)).trans ((uM_z_out S M 113 0 (Or.inr (Or.inl (by omega))) _ (by omega)).trans hM)) ?_
        refine q_iconst (v := 1) C dX7_doMatter_78 (by decide) ?_
        refine q_iaddN (a := M) (b := 1) C dX7_doMatter_79 rfl rfl ?_
        refine q_iastN (i := 0) C rfl q_s113 (by omega) (by decide) dX7_doMatter_80 ?_
        refine q_iload_n C dX7_doMatter_81 rfl rfl ?_
        exact hret _ _ _ _ dX7_doMatter_82 (by simp [uMd_matter, uM_out, uMr_matter, c_10, c_27, Nat.not_lt.mpr c_27]) (by rw [e_24]; simp [uMd_matter, uM_out, uMr_matter, uM_newm, c_10, c_27, Nat.not_lt.mpr c_27])
      | succ n_24 ih_24 =>
        intro i_24 hi_24
        refine q_iload_n C dX7_doMatter_24 rfl rfl ?_
        refine q_bipush (v := 14) C dX7_doMatter_25 (by decide) ?_
        refine q_icmp_geN (a := i_24) (b := 14) (tgt := 51) C dX7_doMatter_27 (by decide) rfl rfl (by omega) (by omega) (fun c_27 => absurd c_27 (by omega)) (fun c_27 => ?_)
        refine q_aload_n C dX7_doMatter_30 rfl rfl ?_
        refine q_getR C flX7_9 q_s112 rfl dX7_doMatter_31 ?_
        refine q_bipush (v := 32) C dX7_doMatter_34 (by decide) ?_
        refine q_bipush (v := 14) C dX7_doMatter_36 (by decide) ?_
        refine q_iload_n C dX7_doMatter_38 rfl rfl ?_
        refine q_imulN (a := 14) (b := M) C dX7_doMatter_39 rfl rfl ?_
        refine q_iaddN (a := 32) (b := 14 * M) C dX7_doMatter_40 rfl rfl ?_
        refine q_iload_n C dX7_doMatter_41 rfl rfl ?_
        refine q_iaddN (a := 32 + (14 * M)) (b := i_24) C dX7_doMatter_42 rfl rfl ?_
        refine q_iconst (v := 0) C dX7_doMatter_43 (by decide) ?_
        refine q_iastN (i := 32 + (14 * M) + i_24) C rfl q_s113 (by omega) (by decide) dX7_doMatter_44 ?_
        refine q_iinc (v := nI (i_24 + 1)) (lv' := [(2, .int (nI (i_24 + 1))), (0, .ref 112), (1, .int (nI M))]) C dX7_doMatter_45 rfl (nI_add _ _) (by decide) rfl ?_
        refine q_goto (tgt := 24) C dX7_doMatter_48 (by decide) ?_
        exact q_V_to (ih_24 (i_24 + 1) (by omega)) ⟨rfl, rfl, rfl, trivial⟩ rfl
    exact q_V_to (loop_24 (14 - 0) 0 (by omega)) ⟨rfl, rfl, rfl, trivial⟩ rfl
  · refine q_aload_n C dX7_doMatter_13 rfl rfl ?_
    refine q_iconst (v := 1) C dX7_doMatter_14 (by decide) ?_
    refine q_iconst (v := 1) C dX7_doMatter_15 (by decide) ?_
    refine q_bipush (v := 8) C dX7_doMatter_16 (by decide) ?_
    refine q_ci3 C (c_X7_refuse l S 1 1 8) myX7_refuse mlX7_77 q_s112 ⟨by decide, by decide⟩ (Nat.le_of_ble_eq_true rfl) dX7_doMatter_18 ?_
    exact hret _ _ _ _ dX7_doMatter_21 (by have e9 : M = 8 := c_10; subst e9; rfl) (by have e9 : M = 8 := c_10; subst e9; rfl)
theorem c_X7_doSet (l : Launch) (S : q_St) (M : Nat) (hM : S 113 0 = nI M) (hM8 : M ≤ 8) (x : Int32) (y : Int32) (a : Int32) : q_Fi l yX7_doSet kX7_doSet 4 [.ref 112, .int x, .int y, .int a] S ((uMd_set S M x y a).1) ((uMd_set S M x y a).2) := by
  refine q_Fi_of (maxL := 4) rfl (by decide +kernel) (fun ad => Nat.le_of_ble_eq_true rfl) rfl ?_
  intro K C hret
  have C : q_Cx K cX7_doSet RX7 4 4 := C
  show q_V l K 0 [(0, .ref 112), (1, .int x), (2, .int y), (3, .int a)] [] S
  refine q_aload_n C dX7_doSet_0 rfl rfl ?_
  refine q_iload_n C dX7_doSet_1 rfl rfl ?_
  by_cases h_2 : 0 ≤ x ∧ x < nI M
  · refine q_ci1 C (q_Fi.cv (if_pos h_2) (c_X7_isMatter l S M hM hM8 x)) myX7_isMatter mlX7_91 q_s112 ⟨by decide, by decide⟩ (Nat.le_of_ble_eq_true rfl) dX7_doSet_2 ?_
    obtain ⟨m, hmM, rfl⟩ := uK_okM (X := nI M) rfl hM8 h_2
    refine q_if_eq (tgt := 15) C dX7_doSet_5 (by decide) (fun h9 => absurd h9 (by decide)) (fun _ => ?_)
    refine q_iload_n C dX7_doSet_8 rfl rfl ?_
    by_cases h_9 : 0 ≤ y ∧ y < 6
    · refine q_si1 C (q_Fi.cv (if_pos h_9) (c_X7_isGuild l S y)) msX7_isGuild rfl mlX7_95 ⟨by decide, by decide⟩ (Nat.le_of_ble_eq_true rfl) dX7_doSet_9 ?_
      obtain ⟨g, hg6, rfl⟩ := uK_okG h_9
      refine q_if_ne (tgt := 21) C dX7_doSet_12 (by decide) (fun _ => ?_) (fun h9 => absurd h9 (by decide))
      refine q_iload_n C dX7_doSet_21 rfl rfl ?_
      refine q_bipush (v := (-50)) C dX7_doSet_22 (by decide) ?_
      refine q_bipush (v := 50) C dX7_doSet_24 (by decide) ?_
      by_cases h_26 : (-50) ≤ a ∧ a ≤ 50
      · refine q_si3 C (q_Fi.cv (if_pos h_26) (c_X7_in l S a (-50) 50)) msX7_in rfl mlX7_58 ⟨by decide, by decide⟩ (Nat.le_of_ble_eq_true rfl) dX7_doSet_26 ?_
        refine q_if_ne (tgt := 38) C dX7_doSet_29 (by decide) (fun _ => ?_) (fun h9 => absurd h9 (by decide))
        refine q_aload_n C dX7_doSet_38 rfl rfl ?_
        refine q_iload_n C dX7_doSet_39 rfl rfl ?_
        refine q_ci1 C (c_X7_how l S m (by omega)) myX7_how mlX7_73 q_s112 ⟨by decide, by decide⟩ (Nat.le_of_ble_eq_true rfl) dX7_doSet_40 ?_
        refine q_if_eq (tgt := 58) C dX7_doSet_43 (by decide)  (fun c_43 => ?_) (fun c_43 => ?_)
        · refine q_aload_n C dX7_doSet_58 rfl rfl ?_
          refine q_iload_n C dX7_doSet_59 rfl rfl ?_
          refine q_iconst (v := 1) C dX7_doSet_60 (by decide) ?_
          refine q_iconst (v := 4) C dX7_doSet_61 (by decide) ?_
          refine q_ci3 C (c_X7_count l S m (by omega) 1 4) myX7_count mlX7_101 q_s112 ⟨by decide, by decide⟩ (Nat.le_of_ble_eq_true rfl) dX7_doSet_62 ?_
          refine q_if_le (tgt := 83) C dX7_doSet_65 (by decide)  (fun c_65 => ?_) (fun c_65 => ?_)
          · refine q_aload_n C dX7_doSet_83 rfl rfl ?_
            refine q_iload_n C dX7_doSet_84 rfl rfl ?_
            refine q_iload_n C dX7_doSet_85 rfl rfl ?_
            refine q_ci2 C (c_X7_amountOf l S m (by omega) g (by omega)) myX7_amountOf mlX7_62 q_s112 ⟨by decide, by decide⟩ (Nat.le_of_ble_eq_true rfl) dX7_doSet_86 ?_
            refine q_iload_n C dX7_doSet_89 rfl rfl ?_
            refine q_icmp_ne (tgt := 102) C dX7_doSet_90 (by decide)  (fun c_90 => ?_) (fun c_90 => ?_)
            · refine q_aload_n C dX7_doSet_102 rfl rfl ?_
              refine q_getR C flX7_9 q_s112 rfl dX7_doSet_103 ?_
              refine q_bipush (v := 32) C dX7_doSet_106 (by decide) ?_
              refine q_bipush (v := 14) C dX7_doSet_108 (by decide) ?_
              refine q_iload_n C dX7_doSet_110 rfl rfl ?_
              refine q_imulN (a := 14) (b := m) C dX7_doSet_111 rfl rfl ?_
              refine q_iaddN (a := 32) (b := 14 * m) C dX7_doSet_112 rfl rfl ?_
              refine q_iconst (v := 2) C dX7_doSet_113 (by decide) ?_
              refine q_iaddN (a := 32 + (14 * m)) (b := 2) C dX7_doSet_114 rfl rfl ?_
              refine q_iload_n C dX7_doSet_115 rfl rfl ?_
              refine q_iaddN (a := 32 + (14 * m) + 2) (b := g) C dX7_doSet_116 rfl rfl ?_
              refine q_iload_n C dX7_doSet_117 rfl rfl ?_
              refine q_iastN (i := 32 + (14 * m) + 2 + g) C rfl q_s113 (by omega) (by decide) dX7_doSet_118 ?_
              refine q_aload_n C dX7_doSet_119 rfl rfl ?_
              refine q_iload_n C dX7_doSet_120 rfl rfl ?_
              refine q_iconst (v := 0) C dX7_doSet_121 (by decide) ?_
              refine q_iconst (v := 4) C dX7_doSet_122 (by decide) ?_
              refine q_ci3 C (c_X7_count l (q_p S 113 (32 + (14 * m) + 2 + g) a) m (by omega) 0 4) myX7_count mlX7_101 q_s112 ⟨by decide, by decide⟩ (Nat.le_of_ble_eq_true rfl) dX7_doSet_123 ?_
              exact hret _ _ _ _ dX7_doSet_126 (by simp [uMd_set, uM_out, uM_bad, uMr_set, if_pos h_2, h_2, uN_nI (show m < 2 ^ 31 by omega), if_pos h_9, h_9, uN_nI (show g < 2 ^ 31 by omega), if_pos h_26, h_26, c_43, c_65, Int32.not_lt.mpr c_65, if_neg (Int32.not_lt.mpr c_65), c_90]) (by simp [uMd_set, uM_out, uM_bad, uMr_set, if_pos h_2, h_2, uN_nI (show m < 2 ^ 31 by omega), if_pos h_9, h_9, uN_nI (show g < 2 ^ 31 by omega), if_pos h_26, h_26, c_43, c_65, Int32.not_lt.mpr c_65, if_neg (Int32.not_lt.mpr c_65), c_90])
            · refine q_aload_n C dX7_doSet_93 rfl rfl ?_
              refine q_iconst (v := 3) C dX7_doSet_94 (by decide) ?_
              refine q_bipush (v := 10) C dX7_doSet_95 (by decide) ?_
              refine q_iload_n C dX7_doSet_97 rfl rfl ?_
              refine q_ci3 C (c_X7_refuse l S 3 10 a) myX7_refuse mlX7_77 q_s112 ⟨by decide, by decide⟩ (Nat.le_of_ble_eq_true rfl) dX7_doSet_98 ?_
              exact hret _ _ _ _ dX7_doSet_101 (by simp [uMd_set, uM_out, uM_bad, uMr_set, if_pos h_2, h_2, uN_nI (show m < 2 ^ 31 by omega), if_pos h_9, h_9, uN_nI (show g < 2 ^ 31 by omega), if_pos h_26, h_26, c_43, c_65, Int32.not_lt.mpr c_65, if_neg (Int32.not_lt.mpr c_65), c_90]) (by simp [uMd_set, uM_out, uM_bad, uMr_set, if_pos h_2, h_2, uN_nI (show m < 2 ^ 31 by omega), if_pos h_9, h_9, uN_nI (show g < 2 ^ 31 by omega), if_pos h_26, h_26, c_43, c_65, Int32.not_lt.mpr c_65, if_neg (Int32.not_lt.mpr c_65), c_90])
          · refine q_aload_n C dX7_doSet_68 rfl rfl ?_
            refine q_iconst (v := 3) C dX7_doSet_69 (by decide) ?_
            refine q_bipush (v := 6) C dX7_doSet_70 (by decide) ?_
            refine q_aload_n C dX7_doSet_72 rfl rfl ?_
            refine q_iload_n C dX7_doSet_73 rfl rfl ?_
            refine q_iconst (v := 1) C dX7_doSet_74 (by decide) ?_
            refine q_iconst (v := 4) C dX7_doSet_75 (by decide) ?_
            refine q_ci3 C (c_X7_count l S m (by omega) 1 4) myX7_count mlX7_101 q_s112 ⟨by decide, by decide⟩ (Nat.le_of_ble_eq_true rfl) dX7_doSet_76 ?_
            refine q_ci3 C (c_X7_refuse l S 3 6 (uM_cnt S m 1 4)) myX7_refuse mlX7_77 q_s112 ⟨by decide, by decide⟩ (Nat.le_of_ble_eq_true rfl) dX7_doSet_79 ?_
            exact hret _ _ _ _ dX7_doSet_82 (by simp [uMd_set, uM_out, uM_bad, uMr_set, if_pos h_2, h_2, uN_nI (show m < 2 ^ 31 by omega), if_pos h_9, h_9, uN_nI (show g < 2 ^ 31 by omega), if_pos h_26, h_26, c_43, c_65, Int32.not_le.mpr c_65, if_pos c_65]) (by simp [uMd_set, uM_out, uM_bad, uMr_set, if_pos h_2, h_2, uN_nI (show m < 2 ^ 31 by omega), if_pos h_9, h_9, uN_nI (show g < 2 ^ 31 by omega), if_pos h_26, h_26, c_43, c_65, Int32.not_le.mpr c_65, if_pos c_65])
        · refine q_aload_n C dX7_doSet_46 rfl rfl ?_
          refine q_iconst (v := 3) C dX7_doSet_47 (by decide) ?_
          refine q_iconst (v := 3) C dX7_doSet_48 (by decide) ?_
          refine q_aload_n C dX7_doSet_49 rfl rfl ?_
          refine q_iload_n C dX7_doSet_50 rfl rfl ?_
          refine q_ci1 C (c_X7_how l S m (by omega)) myX7_how mlX7_73 q_s112 ⟨by decide, by decide⟩ (Nat.le_of_ble_eq_true rfl) dX7_doSet_51 ?_
          refine q_ci3 C (c_X7_refuse l S 3 3 (S 113 (32 + 14 * m))) myX7_refuse mlX7_77 q_s112 ⟨by decide, by decide⟩ (Nat.le_of_ble_eq_true rfl) dX7_doSet_54 ?_
          exact hret _ _ _ _ dX7_doSet_57 (by simp [uMd_set, uM_out, uM_bad, uMr_set, if_pos h_2, h_2, uN_nI (show m < 2 ^ 31 by omega), if_pos h_9, h_9, uN_nI (show g < 2 ^ 31 by omega), if_pos h_26, h_26, c_43]) (by simp [uMd_set, uM_out, uM_bad, uMr_set, if_pos h_2, h_2, uN_nI (show m < 2 ^ 31 by omega), if_pos h_9, h_9, uN_nI (show g < 2 ^ 31 by omega), if_pos h_26, h_26, c_43])
      · refine q_si3 C (q_Fi.cv (if_neg h_26) (c_X7_in l S a (-50) 50)) msX7_in rfl mlX7_58 ⟨by decide, by decide⟩ (Nat.le_of_ble_eq_true rfl) dX7_doSet_26 ?_
        refine q_if_ne (tgt := 38) C dX7_doSet_29 (by decide) (fun h9 => absurd h9 (by decide)) (fun _ => ?_)
        refine q_aload_n C dX7_doSet_32 rfl rfl ?_
        refine q_iconst (v := 2) C dX7_doSet_33 (by decide) ?_
        refine q_ci1 C (c_X7_fails l S 2) myX7_fails mlX7_98 q_s112 ⟨by decide, by decide⟩ (Nat.le_of_ble_eq_true rfl) dX7_doSet_34 ?_
        exact hret _ _ _ _ dX7_doSet_37 (by simp [uMd_set, uM_out, uM_bad, uMr_set, if_pos h_2, h_2, uN_nI (show m < 2 ^ 31 by omega), if_pos h_9, h_9, uN_nI (show g < 2 ^ 31 by omega), if_neg h_26, h_26]) (by simp [uMd_set, uM_out, uM_bad, uMr_set, if_pos h_2, h_2, uN_nI (show m < 2 ^ 31 by omega), if_pos h_9, h_9, uN_nI (show g < 2 ^ 31 by omega), if_neg h_26, h_26])
    · refine q_si1 C (q_Fi.cv (if_neg h_9) (c_X7_isGuild l S y)) msX7_isGuild rfl mlX7_95 ⟨by decide, by decide⟩ (Nat.le_of_ble_eq_true rfl) dX7_doSet_9 ?_
      refine q_if_ne (tgt := 21) C dX7_doSet_12 (by decide) (fun h9 => absurd h9 (by decide)) (fun _ => ?_)
      refine q_aload_n C dX7_doSet_15 rfl rfl ?_
      refine q_iconst (v := 1) C dX7_doSet_16 (by decide) ?_
      refine q_ci1 C (c_X7_fails l S 1) myX7_fails mlX7_98 q_s112 ⟨by decide, by decide⟩ (Nat.le_of_ble_eq_true rfl) dX7_doSet_17 ?_
      exact hret _ _ _ _ dX7_doSet_20 (by simp [uMd_set, uM_out, uM_bad, uMr_set, if_pos h_2, h_2, uN_nI (show m < 2 ^ 31 by omega), if_neg h_9, h_9]) (by simp [uMd_set, uM_out, uM_bad, uMr_set, if_pos h_2, h_2, uN_nI (show m < 2 ^ 31 by omega), if_neg h_9, h_9])
  · refine q_ci1 C (q_Fi.cv (if_neg h_2) (c_X7_isMatter l S M hM hM8 x)) myX7_isMatter mlX7_91 q_s112 ⟨by decide, by decide⟩ (Nat.le_of_ble_eq_true rfl) dX7_doSet_2 ?_
    refine q_if_eq (tgt := 15) C dX7_doSet_5 (by decide) (fun _ => ?_) (fun h9 => absurd h9 (by decide))
    refine q_aload_n C dX7_doSet_15 rfl rfl ?_
    refine q_iconst (v := 1) C dX7_doSet_16 (by decide) ?_
    refine q_ci1 C (c_X7_fails l S 1) myX7_fails mlX7_98 q_s112 ⟨by decide, by decide⟩ (Nat.le_of_ble_eq_true rfl) dX7_doSet_17 ?_
    exact hret _ _ _ _ dX7_doSet_20 (by simp [uMd_set, uM_out, uM_bad, uMr_set, if_neg h_2, h_2]) (by simp [uMd_set, uM_out, uM_bad, uMr_set, if_neg h_2, h_2])
theorem c_X7_doAsk (l : Launch) (S : q_St) (M : Nat) (hM : S 113 0 = nI M) (hM8 : M ≤ 8) (x : Int32) (y : Int32) : q_Fi l yX7_doAsk kX7_doAsk 5 [.ref 112, .int x, .int y] S ((uMd_ask S M x y).1) ((uMd_ask S M x y).2) := by
  refine q_Fi_of (maxL := 3) rfl (by decide +kernel) (fun ad => Nat.le_of_ble_eq_true rfl) rfl ?_
  intro K C hret
  have C : q_Cx K cX7_doAsk RX7 5 3 := C
  show q_V l K 0 [(0, .ref 112), (1, .int x), (2, .int y)] [] S
  refine q_aload_n C dX7_doAsk_0 rfl rfl ?_
  refine q_iload_n C dX7_doAsk_1 rfl rfl ?_
  by_cases h_2 : 0 ≤ x ∧ x < nI M
  · refine q_ci1 C (q_Fi.cv (if_pos h_2) (c_X7_isMatter l S M hM hM8 x)) myX7_isMatter mlX7_91 q_s112 ⟨by decide, by decide⟩ (Nat.le_of_ble_eq_true rfl) dX7_doAsk_2 ?_
    obtain ⟨m, hmM, rfl⟩ := uK_okM (X := nI M) rfl hM8 h_2
    refine q_if_ne (tgt := 14) C dX7_doAsk_5 (by decide) (fun _ => ?_) (fun h9 => absurd h9 (by decide))
    refine q_iload_n C dX7_doAsk_14 rfl rfl ?_
    by_cases h_15 : 0 ≤ y ∧ y < 6
    · refine q_si1 C (q_Fi.cv (if_pos h_15) (c_X7_isGuild l S y)) msX7_isGuild rfl mlX7_95 ⟨by decide, by decide⟩ (Nat.le_of_ble_eq_true rfl) dX7_doAsk_15 ?_
      obtain ⟨g, hg6, rfl⟩ := uK_okG h_15
      refine q_if_ne (tgt := 27) C dX7_doAsk_18 (by decide) (fun _ => ?_) (fun h9 => absurd h9 (by decide))
      refine q_aload_n C dX7_doAsk_27 rfl rfl ?_
      refine q_getR C flX7_9 q_s112 rfl dX7_doAsk_28 ?_
      refine q_iconst (v := 1) C dX7_doAsk_31 (by decide) ?_
      refine q_ialdN (i := 1) (x := S 113 1) C rfl q_s113 (by omega) (by decide) dX7_doAsk_32 rfl ?_
      refine q_iconst (v := 1) C dX7_doAsk_33 (by decide) ?_
      refine q_icmp_ne (tgt := 49) C dX7_doAsk_34 (by decide)  (fun c_34 => ?_) (fun c_34 => ?_)
      · refine q_aload_n C dX7_doAsk_49 rfl rfl ?_
        refine q_iload_n C dX7_doAsk_50 rfl rfl ?_
        refine q_ci1 C (c_X7_how l S m (by omega)) myX7_how mlX7_73 q_s112 ⟨by decide, by decide⟩ (Nat.le_of_ble_eq_true rfl) dX7_doAsk_51 ?_
        refine q_if_eq (tgt := 69) C dX7_doAsk_54 (by decide)  (fun c_54 => ?_) (fun c_54 => ?_)
        · refine q_aload_n C dX7_doAsk_69 rfl rfl ?_
          refine q_iload_n C dX7_doAsk_70 rfl rfl ?_
          refine q_iload_n C dX7_doAsk_71 rfl rfl ?_
          by_cases h_72 : S 113 (32 + 14 * m + 2 + g) ≠ 0
          · refine q_ci2 C (q_Fi.cv (if_pos h_72) (c_X7_isOf l S m (by omega) g (by omega))) myX7_isOf mlX7_66 q_s112 ⟨by decide, by decide⟩ (Nat.le_of_ble_eq_true rfl) dX7_doAsk_72 ?_
            refine q_if_ne (tgt := 86) C dX7_doAsk_75 (by decide) (fun _ => ?_) (fun h9 => absurd h9 (by decide))
            refine q_aload_n C dX7_doAsk_86 rfl rfl ?_
            refine q_iload_n C dX7_doAsk_87 rfl rfl ?_
            by_cases h_88 : S 113 (12 + g) = 1
            · refine q_ci1 C (q_Fi.cv (if_pos h_88) (c_X7_isAsleep l S g (by omega))) myX7_isAsleep mlX7_113 q_s112 ⟨by decide, by decide⟩ (Nat.le_of_ble_eq_true rfl) dX7_doAsk_88 ?_
              refine q_if_eq (tgt := 102) C dX7_doAsk_91 (by decide) (fun h9 => absurd h9 (by decide)) (fun _ => ?_)
              refine q_aload_n C dX7_doAsk_94 rfl rfl ?_
              refine q_iconst (v := 3) C dX7_doAsk_95 (by decide) ?_
              refine q_iconst (v := 5) C dX7_doAsk_96 (by decide) ?_
              refine q_iload_n C dX7_doAsk_97 rfl rfl ?_
              refine q_ci3 C (c_X7_refuse l S 3 5 (nI g)) myX7_refuse mlX7_77 q_s112 ⟨by decide, by decide⟩ (Nat.le_of_ble_eq_true rfl) dX7_doAsk_98 ?_
              exact hret _ _ _ _ dX7_doAsk_101 (by simp [uMd_ask, uM_out, uM_bad, uMr_ask, if_pos h_2, h_2, uN_nI (show m < 2 ^ 31 by omega), if_pos h_15, h_15, uN_nI (show g < 2 ^ 31 by omega), c_34, c_54, if_pos h_72, h_72, if_pos h_88, h_88]) (by simp [uMd_ask, uM_out, uM_bad, uMr_ask, uM_ask, if_pos h_2, h_2, uN_nI (show m < 2 ^ 31 by omega), if_pos h_15, h_15, uN_nI (show g < 2 ^ 31 by omega), c_34, c_54, if_pos h_72, h_72, if_pos h_88, h_88])
            · refine q_ci1 C (q_Fi.cv (if_neg h_88) (c_X7_isAsleep l S g (by omega))) myX7_isAsleep mlX7_113 q_s112 ⟨by decide, by decide⟩ (Nat.le_of_ble_eq_true rfl) dX7_doAsk_88 ?_
              refine q_if_eq (tgt := 102) C dX7_doAsk_91 (by decide) (fun _ => ?_) (fun h9 => absurd h9 (by decide))
              refine q_aload_n C dX7_doAsk_102 rfl rfl ?_
              refine q_iload_n C dX7_doAsk_103 rfl rfl ?_
              refine q_iload_n C dX7_doAsk_104 rfl rfl ?_
              refine q_ci2 C (c_X7_answerOf l S m (by omega) g (by omega)) myX7_answerOf mlX7_70 q_s112 ⟨by decide, by decide⟩ (Nat.le_of_ble_eq_true rfl) dX7_doAsk_105 ?_
              refine q_if_eq (tgt := 125) C dX7_doAsk_108 (by decide)  (fun c_108 => ?_) (fun c_108 => ?_)
              · refine q_aload_n C dX7_doAsk_125 rfl rfl ?_
                refine q_iload_n C dX7_doAsk_126 rfl rfl ?_
                refine q_iload_n C dX7_doAsk_127 rfl rfl ?_
                refine q_aload_n C dX7_doAsk_128 rfl rfl ?_
                refine q_iload_n C dX7_doAsk_129 rfl rfl ?_
                refine q_iload_n C dX7_doAsk_130 rfl rfl ?_
                by_cases h_131 : uM_would S M m g
                · refine q_ci2 C (q_Fi.cv (if_pos h_131) (c_X7_wouldBeReady l S M hM hM8 m (by omega) g (by omega))) myX7_wouldBeReady mlX7_116 q_s112 ⟨by decide, by decide⟩ (Nat.le_of_ble_eq_true rfl) dX7_doAsk_131 ?_
                  refine q_if_eq (tgt := 141) C dX7_doAsk_134 (by decide) (fun h9 => absurd h9 (by decide)) (fun _ => ?_)
                  refine q_iconst (v := 1) C dX7_doAsk_137 (by decide) ?_
                  refine q_goto (tgt := 142) C dX7_doAsk_138 (by decide) ?_
                  refine q_cv3 C (c_X7_answers l S m (by omega) g (by omega) 1) myX7_answers mlX7_119 q_s112 ⟨by decide, by decide⟩ (Nat.le_of_ble_eq_true rfl) dX7_doAsk_142 ?_
                  refine q_aload_n C dX7_doAsk_145 rfl rfl ?_
                  refine q_iload_n C dX7_doAsk_146 rfl rfl ?_
                  refine q_iload_n C dX7_doAsk_147 rfl rfl ?_
                  refine q_ci2 C (q_Fi.cv (v' := 1) (q_p_eq S 113 (32 + 14 * m + 8 + g) 1) (c_X7_answerOf l (q_p S 113 (32 + 14 * m + 8 + g) 1) m (by omega) g (by omega))) myX7_answerOf mlX7_70 q_s112 ⟨by decide, by decide⟩ (Nat.le_of_ble_eq_true rfl) dX7_doAsk_148 ?_
                  exact hret _ _ _ _ dX7_doAsk_151 (by simp [uMd_ask, uM_out, uM_bad, uMr_ask, if_pos h_2, h_2, uN_nI (show m < 2 ^ 31 by omega), if_pos h_15, h_15, uN_nI (show g < 2 ^ 31 by omega), c_34, c_54, if_pos h_72, h_72, if_neg h_88, h_88, c_108, if_pos h_131, h_131]) (by simp [uMd_ask, uM_out, uM_bad, uMr_ask, uM_ask, if_pos h_2, h_2, uN_nI (show m < 2 ^ 31 by omega), if_pos h_15, h_15, uN_nI (show g < 2 ^ 31 by omega), c_34, c_54, if_pos h_72, h_72, if_neg h_88, h_88, c_108, if_pos h_131, h_131])
                · refine q_ci2 C (q_Fi.cv (if_neg h_131) (c_X7_wouldBeReady l S M hM hM8 m (by omega) g (by omega))) myX7_wouldBeReady mlX7_116 q_s112 ⟨by decide, by decide⟩ (Nat.le_of_ble_eq_true rfl) dX7_doAsk_131 ?_
                  refine q_if_eq (tgt := 141) C dX7_doAsk_134 (by decide) (fun _ => ?_) (fun h9 => absurd h9 (by decide))
                  refine q_iconst (v := 2) C dX7_doAsk_141 (by decide) ?_
                  refine q_cv3 C (c_X7_answers l S m (by omega) g (by omega) 2) myX7_answers mlX7_119 q_s112 ⟨by decide, by decide⟩ (Nat.le_of_ble_eq_true rfl) dX7_doAsk_142 ?_
                  refine q_aload_n C dX7_doAsk_145 rfl rfl ?_
                  refine q_iload_n C dX7_doAsk_146 rfl rfl ?_
                  refine q_iload_n C dX7_doAsk_147 rfl rfl ?_
                  refine q_ci2 C (q_Fi.cv (v' := 2) (q_p_eq S 113 (32 + 14 * m + 8 + g) 2) (c_X7_answerOf l (q_p S 113 (32 + 14 * m + 8 + g) 2) m (by omega) g (by omega))) myX7_answerOf mlX7_70 q_s112 ⟨by decide, by decide⟩ (Nat.le_of_ble_eq_true rfl) dX7_doAsk_148 ?_
                  exact hret _ _ _ _ dX7_doAsk_151 (by simp [uMd_ask, uM_out, uM_bad, uMr_ask, if_pos h_2, h_2, uN_nI (show m < 2 ^ 31 by omega), if_pos h_15, h_15, uN_nI (show g < 2 ^ 31 by omega), c_34, c_54, if_pos h_72, h_72, if_neg h_88, h_88, c_108, if_neg h_131, h_131]) (by simp [uMd_ask, uM_out, uM_bad, uMr_ask, uM_ask, if_pos h_2, h_2, uN_nI (show m < 2 ^ 31 by omega), if_pos h_15, h_15, uN_nI (show g < 2 ^ 31 by omega), c_34, c_54, if_pos h_72, h_72, if_neg h_88, h_88, c_108, if_neg h_131, h_131])
              · refine q_aload_n C dX7_doAsk_111 rfl rfl ?_
                refine q_iconst (v := 3) C dX7_doAsk_112 (by decide) ?_
                refine q_bipush (v := 9) C dX7_doAsk_113 (by decide) ?_
                refine q_aload_n C dX7_doAsk_115 rfl rfl ?_
                refine q_iload_n C dX7_doAsk_116 rfl rfl ?_
                refine q_iload_n C dX7_doAsk_117 rfl rfl ?_
                refine q_ci2 C (c_X7_answerOf l S m (by omega) g (by omega)) myX7_answerOf mlX7_70 q_s112 ⟨by decide, by decide⟩ (Nat.le_of_ble_eq_true rfl) dX7_doAsk_118 ?_
                refine q_ci3 C (c_X7_refuse l S 3 9 (S 113 (32 + 14 * m + 8 + g))) myX7_refuse mlX7_77 q_s112 ⟨by decide, by decide⟩ (Nat.le_of_ble_eq_true rfl) dX7_doAsk_121 ?_
                exact hret _ _ _ _ dX7_doAsk_124 (by simp [uMd_ask, uM_out, uM_bad, uMr_ask, if_pos h_2, h_2, uN_nI (show m < 2 ^ 31 by omega), if_pos h_15, h_15, uN_nI (show g < 2 ^ 31 by omega), c_34, c_54, if_pos h_72, h_72, if_neg h_88, h_88, c_108]) (by simp [uMd_ask, uM_out, uM_bad, uMr_ask, uM_ask, if_pos h_2, h_2, uN_nI (show m < 2 ^ 31 by omega), if_pos h_15, h_15, uN_nI (show g < 2 ^ 31 by omega), c_34, c_54, if_pos h_72, h_72, if_neg h_88, h_88, c_108])
          · refine q_ci2 C (q_Fi.cv (if_neg h_72) (c_X7_isOf l S m (by omega) g (by omega))) myX7_isOf mlX7_66 q_s112 ⟨by decide, by decide⟩ (Nat.le_of_ble_eq_true rfl) dX7_doAsk_72 ?_
            refine q_if_ne (tgt := 86) C dX7_doAsk_75 (by decide) (fun h9 => absurd h9 (by decide)) (fun _ => ?_)
            refine q_aload_n C dX7_doAsk_78 rfl rfl ?_
            refine q_iconst (v := 3) C dX7_doAsk_79 (by decide) ?_
            refine q_iconst (v := 4) C dX7_doAsk_80 (by decide) ?_
            refine q_iload_n C dX7_doAsk_81 rfl rfl ?_
            refine q_ci3 C (c_X7_refuse l S 3 4 (nI g)) myX7_refuse mlX7_77 q_s112 ⟨by decide, by decide⟩ (Nat.le_of_ble_eq_true rfl) dX7_doAsk_82 ?_
            exact hret _ _ _ _ dX7_doAsk_85 (by simp [uMd_ask, uM_out, uM_bad, uMr_ask, if_pos h_2, h_2, uN_nI (show m < 2 ^ 31 by omega), if_pos h_15, h_15, uN_nI (show g < 2 ^ 31 by omega), c_34, c_54, if_neg h_72, h_72, Decidable.not_not.mp h_72]) (by simp [uMd_ask, uM_out, uM_bad, uMr_ask, uM_ask, if_pos h_2, h_2, uN_nI (show m < 2 ^ 31 by omega), if_pos h_15, h_15, uN_nI (show g < 2 ^ 31 by omega), c_34, c_54, if_neg h_72, h_72, Decidable.not_not.mp h_72])
        · refine q_aload_n C dX7_doAsk_57 rfl rfl ?_
          refine q_iconst (v := 3) C dX7_doAsk_58 (by decide) ?_
          refine q_iconst (v := 3) C dX7_doAsk_59 (by decide) ?_
          refine q_aload_n C dX7_doAsk_60 rfl rfl ?_
          refine q_iload_n C dX7_doAsk_61 rfl rfl ?_
          refine q_ci1 C (c_X7_how l S m (by omega)) myX7_how mlX7_73 q_s112 ⟨by decide, by decide⟩ (Nat.le_of_ble_eq_true rfl) dX7_doAsk_62 ?_
          refine q_ci3 C (c_X7_refuse l S 3 3 (S 113 (32 + 14 * m))) myX7_refuse mlX7_77 q_s112 ⟨by decide, by decide⟩ (Nat.le_of_ble_eq_true rfl) dX7_doAsk_65 ?_
          exact hret _ _ _ _ dX7_doAsk_68 (by simp [uMd_ask, uM_out, uM_bad, uMr_ask, if_pos h_2, h_2, uN_nI (show m < 2 ^ 31 by omega), if_pos h_15, h_15, uN_nI (show g < 2 ^ 31 by omega), c_34, c_54]) (by simp [uMd_ask, uM_out, uM_bad, uMr_ask, uM_ask, if_pos h_2, h_2, uN_nI (show m < 2 ^ 31 by omega), if_pos h_15, h_15, uN_nI (show g < 2 ^ 31 by omega), c_34, c_54])
      · refine q_aload_n C dX7_doAsk_37 rfl rfl ?_
        refine q_iconst (v := 3) C dX7_doAsk_38 (by decide) ?_
        refine q_iconst (v := 2) C dX7_doAsk_39 (by decide) ?_
        refine q_aload_n C dX7_doAsk_40 rfl rfl ?_
        refine q_iconst (v := 0) C dX7_doAsk_41 (by decide) ?_
        refine q_ci1 C (c_X7_matters l S M hM hM8 0) myX7_matters mlX7_110 q_s112 ⟨by decide, by decide⟩ (Nat.le_of_ble_eq_true rfl) dX7_doAsk_42 ?_
        refine q_ci3 C (c_X7_refuse l S 3 2 (uM_matters S M 0)) myX7_refuse mlX7_77 q_s112 ⟨by decide, by decide⟩ (Nat.le_of_ble_eq_true rfl) dX7_doAsk_45 ?_
        exact hret _ _ _ _ dX7_doAsk_48 (by simp [uMd_ask, uM_out, uM_bad, uMr_ask, if_pos h_2, h_2, uN_nI (show m < 2 ^ 31 by omega), if_pos h_15, h_15, uN_nI (show g < 2 ^ 31 by omega), c_34]) (by simp [uMd_ask, uM_out, uM_bad, uMr_ask, uM_ask, if_pos h_2, h_2, uN_nI (show m < 2 ^ 31 by omega), if_pos h_15, h_15, uN_nI (show g < 2 ^ 31 by omega), c_34])
    · refine q_si1 C (q_Fi.cv (if_neg h_15) (c_X7_isGuild l S y)) msX7_isGuild rfl mlX7_95 ⟨by decide, by decide⟩ (Nat.le_of_ble_eq_true rfl) dX7_doAsk_15 ?_
      refine q_if_ne (tgt := 27) C dX7_doAsk_18 (by decide) (fun h9 => absurd h9 (by decide)) (fun _ => ?_)
      refine q_aload_n C dX7_doAsk_21 rfl rfl ?_
      refine q_iconst (v := 2) C dX7_doAsk_22 (by decide) ?_
      refine q_ci1 C (c_X7_fails l S 2) myX7_fails mlX7_98 q_s112 ⟨by decide, by decide⟩ (Nat.le_of_ble_eq_true rfl) dX7_doAsk_23 ?_
      exact hret _ _ _ _ dX7_doAsk_26 (by simp [uMd_ask, uM_out, uM_bad, uMr_ask, if_pos h_2, h_2, uN_nI (show m < 2 ^ 31 by omega), if_neg h_15, h_15]) (by simp [uMd_ask, uM_out, uM_bad, uMr_ask, uM_ask, if_pos h_2, h_2, uN_nI (show m < 2 ^ 31 by omega), if_neg h_15, h_15])
  · refine q_ci1 C (q_Fi.cv (if_neg h_2) (c_X7_isMatter l S M hM hM8 x)) myX7_isMatter mlX7_91 q_s112 ⟨by decide, by decide⟩ (Nat.le_of_ble_eq_true rfl) dX7_doAsk_2 ?_
    refine q_if_ne (tgt := 14) C dX7_doAsk_5 (by decide) (fun h9 => absurd h9 (by decide)) (fun _ => ?_)
    refine q_aload_n C dX7_doAsk_8 rfl rfl ?_
    refine q_iconst (v := 1) C dX7_doAsk_9 (by decide) ?_
    refine q_ci1 C (c_X7_fails l S 1) myX7_fails mlX7_98 q_s112 ⟨by decide, by decide⟩ (Nat.le_of_ble_eq_true rfl) dX7_doAsk_10 ?_
    exact hret _ _ _ _ dX7_doAsk_13 (by simp [uMd_ask, uM_out, uM_bad, uMr_ask, if_neg h_2, h_2]) (by simp [uMd_ask, uM_out, uM_bad, uMr_ask, uM_ask, if_neg h_2, h_2])
theorem c_X7_doDecide (l : Launch) (S : q_St) (M : Nat) (hM : S 113 0 = nI M) (hM8 : M ≤ 8) (N : Nat) (hN : S 113 5 = nI N) (hNd : ∀ m, m < M → S 113 (32 + 14 * m) = 0 → N < 8) (x : Int32) : q_Fi l yX7_doDecide kX7_doDecide 4 [.ref 112, .int x] S ((uMd_decide S M N x).1) ((uMd_decide S M N x).2) := by
  refine q_Fi_of (maxL := 3) rfl (by decide +kernel) (fun ad => Nat.le_of_ble_eq_true rfl) rfl ?_
  intro K C hret
  have C : q_Cx K cX7_doDecide RX7 4 3 := C
  show q_V l K 0 [(0, .ref 112), (1, .int x)] [] S
  refine q_aload_n C dX7_doDecide_0 rfl rfl ?_
  refine q_iload_n C dX7_doDecide_1 rfl rfl ?_
  by_cases h_2 : 0 ≤ x ∧ x < nI M
  · refine q_ci1 C (q_Fi.cv (if_pos h_2) (c_X7_isMatter l S M hM hM8 x)) myX7_isMatter mlX7_91 q_s112 ⟨by decide, by decide⟩ (Nat.le_of_ble_eq_true rfl) dX7_doDecide_2 ?_
    obtain ⟨m, hmM, rfl⟩ := uK_okM (X := nI M) rfl hM8 h_2
    refine q_if_ne (tgt := 14) C dX7_doDecide_5 (by decide) (fun _ => ?_) (fun h9 => absurd h9 (by decide))
    refine q_aload_n C dX7_doDecide_14 rfl rfl ?_
    refine q_getR C flX7_9 q_s112 rfl dX7_doDecide_15 ?_
    refine q_iconst (v := 1) C dX7_doDecide_18 (by decide) ?_
    refine q_ialdN (i := 1) (x := S 113 1) C rfl q_s113 (by omega) (by decide) dX7_doDecide_19 rfl ?_
    refine q_iconst (v := 1) C dX7_doDecide_20 (by decide) ?_
    refine q_icmp_ne (tgt := 36) C dX7_doDecide_21 (by decide)  (fun c_21 => ?_) (fun c_21 => ?_)
    · refine q_aload_n C dX7_doDecide_36 rfl rfl ?_
      refine q_iload_n C dX7_doDecide_37 rfl rfl ?_
      refine q_ci1 C (c_X7_how l S m (by omega)) myX7_how mlX7_73 q_s112 ⟨by decide, by decide⟩ (Nat.le_of_ble_eq_true rfl) dX7_doDecide_38 ?_
      refine q_if_eq (tgt := 56) C dX7_doDecide_41 (by decide)  (fun c_41 => ?_) (fun c_41 => ?_)
      · refine q_aload_n C dX7_doDecide_56 rfl rfl ?_
        refine q_iload_n C dX7_doDecide_57 rfl rfl ?_
        refine q_iconst (v := 2) C dX7_doDecide_58 (by decide) ?_
        refine q_iconst (v := 2) C dX7_doDecide_59 (by decide) ?_
        refine q_ci3 C (c_X7_count l S m (by omega) 2 2) myX7_count mlX7_101 q_s112 ⟨by decide, by decide⟩ (Nat.le_of_ble_eq_true rfl) dX7_doDecide_60 ?_
        refine q_aload_n C dX7_doDecide_63 rfl rfl ?_
        refine q_iload_n C dX7_doDecide_64 rfl rfl ?_
        refine q_iconst (v := 4) C dX7_doDecide_65 (by decide) ?_
        refine q_iconst (v := 4) C dX7_doDecide_66 (by decide) ?_
        refine q_ci3 C (c_X7_count l S m (by omega) 4 4) myX7_count mlX7_101 q_s112 ⟨by decide, by decide⟩ (Nat.le_of_ble_eq_true rfl) dX7_doDecide_67 ?_
        refine q_iadd C dX7_doDecide_70 ?_
        refine q_if_le (tgt := 82) C dX7_doDecide_71 (by decide)  (fun c_71 => ?_) (fun c_71 => ?_)
        · refine q_iconst (v := 0) C dX7_doDecide_82 (by decide) ?_
          refine q_istore_n (lv' := [(2, .int 0), (0, .ref 112), (1, .int (nI m))]) C dX7_doDecide_83 rfl (by decide) rfl ?_
          have loop_84 : ∀ (n_84 i_84 : Nat), i_84 + n_84 = 6 → q_first (uM_pF S m) n_84 i_84 = uM_first S m → q_V l K 84 [(0, .ref 112), (1, .int (nI m)), (2, .int (nI i_84))] [] S := by
            intro n_84
            induction n_84 with
            | zero =>
              intro i_84 hi_84 hr_84
              have e_84 : i_84 = 6 := by omega
              refine q_iload_n C dX7_doDecide_84 rfl rfl ?_
              refine q_bipush (v := 6) C dX7_doDecide_85 (by decide) ?_
              refine q_icmp_geN (a := i_84) (b := 6) (tgt := 114) C dX7_doDecide_87 (by decide) rfl rfl (by omega) (by omega) (fun c_87 => ?_) (fun c_87 => absurd c_87 (by omega))
              refine q_V_to (lv' := [(0, .ref 112), (1, .int (nI m)), (2, .int (nI (uM_first S m)))]) ?_ ⟨rfl, rfl, q_iv (by rw [← hr_84]; rfl), trivial⟩ rfl
              have h9 := uM_first_le S m
              refine q_iload_n C dX7_doDecide_114 rfl rfl ?_
              refine q_bipush (v := 6) C dX7_doDecide_115 (by decide) ?_
              refine q_icmp_ltN (a := uM_first S m) (b := 6) (tgt := 130) C dX7_doDecide_117 (by decide) rfl rfl (by omega) (by omega) (fun c_117 => ?_) (fun c_117 => ?_)
              · refine q_aload_n C dX7_doDecide_130 rfl rfl ?_
                refine q_iconst (v := 2) C dX7_doDecide_131 (by decide) ?_
                refine q_bipush (v := 7) C dX7_doDecide_132 (by decide) ?_
                refine q_iload_n C dX7_doDecide_134 rfl rfl ?_
                refine q_ci3 C (c_X7_refuse l S 2 7 (nI (uM_first S m))) myX7_refuse mlX7_77 q_s112 ⟨by decide, by decide⟩ (Nat.le_of_ble_eq_true rfl) dX7_doDecide_135 ?_
                exact hret _ _ _ _ dX7_doDecide_138 (by simp [uMd_decide, uM_out, uM_bad, uMr_decide, uM_dec, if_pos h_2, h_2, uN_nI (show m < 2 ^ 31 by omega), c_21, c_41, c_71, Int32.not_lt.mpr c_71, if_neg (Int32.not_lt.mpr c_71), c_87, Nat.not_lt.mpr c_87, c_117, Nat.not_le.mpr c_117]) (by simp [uMd_decide, uM_out, uM_bad, uMr_decide, uM_dec, if_pos h_2, h_2, uN_nI (show m < 2 ^ 31 by omega), c_21, c_41, c_71, Int32.not_lt.mpr c_71, if_neg (Int32.not_lt.mpr c_71), c_87, Nat.not_lt.mpr c_87, c_117, Nat.not_le.mpr c_117])
              · refine q_aload_n C dX7_doDecide_120 rfl rfl ?_
                refine q_iload_n C dX7_doDecide_121 rfl rfl ?_
                refine q_iconst (v := 0) C dX7_doDecide_122 (by decide) ?_
                refine q_iconst (v := 4) C dX7_doDecide_123 (by decide) ?_
                refine q_ci3 C (c_X7_count l S m (by omega) 0 4) myX7_count mlX7_101 q_s112 ⟨by decide, by decide⟩ (Nat.le_of_ble_eq_true rfl) dX7_doDecide_124 ?_
                refine q_if_ne (tgt := 139) C dX7_doDecide_127 (by decide)  (fun c_127 => ?_) (fun c_127 => ?_)
                · refine q_aload_n C dX7_doDecide_139 rfl rfl ?_
                  refine q_iload_n C dX7_doDecide_140 rfl rfl ?_
                  refine q_iconst (v := 1) C dX7_doDecide_141 (by decide) ?_
                  refine q_cv2 C (c_X7_decides l S N hN (hNd m hmM (by first | assumption | exact Decidable.not_not.mp ‹_›)) m (by omega) 1) myX7_decides mlX7_126 q_s112 ⟨by decide, by decide⟩ (Nat.le_of_ble_eq_true rfl) dX7_doDecide_142 ?_
                  refine q_iconst (v := 1) C dX7_doDecide_145 (by decide) ?_
                  exact hret _ _ _ _ dX7_doDecide_146 (by simp [uMd_decide, uM_out, uM_bad, uMr_decide, uM_dec, if_pos h_2, h_2, uN_nI (show m < 2 ^ 31 by omega), c_21, c_41, c_71, Int32.not_lt.mpr c_71, if_neg (Int32.not_lt.mpr c_71), c_87, Nat.not_lt.mpr c_87, c_117, Nat.not_lt.mpr c_117, c_127]) (by simp [uMd_decide, uM_out, uM_bad, uMr_decide, uM_dec, if_pos h_2, h_2, uN_nI (show m < 2 ^ 31 by omega), c_21, c_41, c_71, Int32.not_lt.mpr c_71, if_neg (Int32.not_lt.mpr c_71), c_87, Nat.not_lt.mpr c_87, c_117, Nat.not_lt.mpr c_117, c_127])
                · refine q_aload_n C dX7_doDecide_130 rfl rfl ?_
                  refine q_iconst (v := 2) C dX7_doDecide_131 (by decide) ?_
                  refine q_bipush (v := 7) C dX7_doDecide_132 (by decide) ?_
                  refine q_iload_n C dX7_doDecide_134 rfl rfl ?_
                  refine q_ci3 C (c_X7_refuse l S 2 7 (nI (uM_first S m))) myX7_refuse mlX7_77 q_s112 ⟨by decide, by decide⟩ (Nat.le_of_ble_eq_true rfl) dX7_doDecide_135 ?_
                  exact hret _ _ _ _ dX7_doDecide_138 (by simp [uMd_decide, uM_out, uM_bad, uMr_decide, uM_dec, if_pos h_2, h_2, uN_nI (show m < 2 ^ 31 by omega), c_21, c_41, c_71, Int32.not_lt.mpr c_71, if_neg (Int32.not_lt.mpr c_71), c_87, Nat.not_lt.mpr c_87, c_117, Nat.not_lt.mpr c_117, c_127]) (by simp [uMd_decide, uM_out, uM_bad, uMr_decide, uM_dec, if_pos h_2, h_2, uN_nI (show m < 2 ^ 31 by omega), c_21, c_41, c_71, Int32.not_lt.mpr c_71, if_neg (Int32.not_lt.mpr c_71), c_87, Nat.not_lt.mpr c_87, c_117, Nat.not_lt.mpr c_117, c_127])
            | succ n_84 ih_84 =>
              intro i_84 hi_84 hr_84
              refine q_iload_n C dX7_doDecide_84 rfl rfl ?_
              refine q_bipush (v := 6) C dX7_doDecide_85 (by decide) ?_
              refine q_icmp_geN (a := i_84) (b := 6) (tgt := 114) C dX7_doDecide_87 (by decide) rfl rfl (by omega) (by omega) (fun c_87 => absurd c_87 (by omega)) (fun c_87 => ?_)
              refine q_aload_n C dX7_doDecide_90 rfl rfl ?_
              refine q_iload_n C dX7_doDecide_91 rfl rfl ?_
              refine q_iload_n C dX7_doDecide_92 rfl rfl ?_
              by_cases h_93 : S 113 (32 + 14 * m + 2 + i_84) ≠ 0
              · refine q_ci2 C (q_Fi.cv (if_pos h_93) (c_X7_isOf l S m (by omega) i_84 (by omega))) myX7_isOf mlX7_66 q_s112 ⟨by decide, by decide⟩ (Nat.le_of_ble_eq_true rfl) dX7_doDecide_93 ?_
                refine q_if_eq (tgt := 108) C dX7_doDecide_96 (by decide) (fun h9 => absurd h9 (by decide)) (fun _ => ?_)
                refine q_aload_n C dX7_doDecide_99 rfl rfl ?_
                refine q_iload_n C dX7_doDecide_100 rfl rfl ?_
                refine q_iload_n C dX7_doDecide_101 rfl rfl ?_
                refine q_ci2 C (c_X7_answerOf l S m (by omega) i_84 (by omega)) myX7_answerOf mlX7_70 q_s112 ⟨by decide, by decide⟩ (Nat.le_of_ble_eq_true rfl) dX7_doDecide_102 ?_
                refine q_if_eq (tgt := 114) C dX7_doDecide_105 (by decide)  (fun c_105 => ?_) (fun c_105 => ?_)
                · refine q_V_to (lv' := [(0, .ref 112), (1, .int (nI m)), (2, .int (nI (uM_first S m)))]) ?_ ⟨rfl, rfl, q_iv (by rw [← hr_84]; simp [q_first, uM_pF, if_pos h_2, h_2, uN_nI (show m < 2 ^ 31 by omega), c_21, c_41, c_71, Int32.not_lt.mpr c_71, if_neg (Int32.not_lt.mpr c_71), c_87, Nat.not_le.mpr c_87, if_pos h_93, h_93, c_105]), trivial⟩ rfl
                  have h9 := uM_first_le S m
                  refine q_iload_n C dX7_doDecide_114 rfl rfl ?_
                  refine q_bipush (v := 6) C dX7_doDecide_115 (by decide) ?_
                  refine q_icmp_ltN (a := uM_first S m) (b := 6) (tgt := 130) C dX7_doDecide_117 (by decide) rfl rfl (by omega) (by omega) (fun c_117 => ?_) (fun c_117 => ?_)
                  · refine q_aload_n C dX7_doDecide_130 rfl rfl ?_
                    refine q_iconst (v := 2) C dX7_doDecide_131 (by decide) ?_
                    refine q_bipush (v := 7) C dX7_doDecide_132 (by decide) ?_
                    refine q_iload_n C dX7_doDecide_134 rfl rfl ?_
                    refine q_ci3 C (c_X7_refuse l S 2 7 (nI (uM_first S m))) myX7_refuse mlX7_77 q_s112 ⟨by decide, by decide⟩ (Nat.le_of_ble_eq_true rfl) dX7_doDecide_135 ?_
                    exact hret _ _ _ _ dX7_doDecide_138 (by simp [uMd_decide, uM_out, uM_bad, uMr_decide, uM_dec, if_pos h_2, h_2, uN_nI (show m < 2 ^ 31 by omega), c_21, c_41, c_71, Int32.not_lt.mpr c_71, if_neg (Int32.not_lt.mpr c_71), c_87, Nat.not_le.mpr c_87, if_pos h_93, h_93, c_105, c_117, Nat.not_le.mpr c_117]) (by simp [uMd_decide, uM_out, uM_bad, uMr_decide, uM_dec, if_pos h_2, h_2, uN_nI (show m < 2 ^ 31 by omega), c_21, c_41, c_71, Int32.not_lt.mpr c_71, if_neg (Int32.not_lt.mpr c_71), c_87, Nat.not_le.mpr c_87, if_pos h_93, h_93, c_105, c_117, Nat.not_le.mpr c_117])
                  · refine q_aload_n C dX7_doDecide_120 rfl rfl ?_
                    refine q_iload_n C dX7_doDecide_121 rfl rfl ?_
                    refine q_iconst (v := 0) C dX7_doDecide_122 (by decide) ?_
                    refine q_iconst (v := 4) C dX7_doDecide_123 (by decide) ?_
                    refine q_ci3 C (c_X7_count l S m (by omega) 0 4) myX7_count mlX7_101 q_s112 ⟨by decide, by decide⟩ (Nat.le_of_ble_eq_true rfl) dX7_doDecide_124 ?_
                    refine q_if_ne (tgt := 139) C dX7_doDecide_127 (by decide)  (fun c_127 => ?_) (fun c_127 => ?_)
                    · refine q_aload_n C dX7_doDecide_139 rfl rfl ?_
                      refine q_iload_n C dX7_doDecide_140 rfl rfl ?_
                      refine q_iconst (v := 1) C dX7_doDecide_141 (by decide) ?_
                      refine q_cv2 C (c_X7_decides l S N hN (hNd m hmM (by first | assumption | exact Decidable.not_not.mp ‹_›)) m (by omega) 1) myX7_decides mlX7_126 q_s112 ⟨by decide, by decide⟩ (Nat.le_of_ble_eq_true rfl) dX7_doDecide_142 ?_
                      refine q_iconst (v := 1) C dX7_doDecide_145 (by decide) ?_
                      exact hret _ _ _ _ dX7_doDecide_146 (by simp [uMd_decide, uM_out, uM_bad, uMr_decide, uM_dec, if_pos h_2, h_2, uN_nI (show m < 2 ^ 31 by omega), c_21, c_41, c_71, Int32.not_lt.mpr c_71, if_neg (Int32.not_lt.mpr c_71), c_87, Nat.not_le.mpr c_87, if_pos h_93, h_93, c_105, c_117, Nat.not_lt.mpr c_117, c_127]) (by simp [uMd_decide, uM_out, uM_bad, uMr_decide, uM_dec, if_pos h_2, h_2, uN_nI (show m < 2 ^ 31 by omega), c_21, c_41, c_71, Int32.not_lt.mpr c_71, if_neg (Int32.not_lt.mpr c_71), c_87, Nat.not_le.mpr c_87, if_pos h_93, h_93, c_105, c_117, Nat.not_lt.mpr c_117, c_127])
                    · refine q_aload_n C dX7_doDecide_130 rfl rfl ?_
                      refine q_iconst (v := 2) C dX7_doDecide_131 (by decide) ?_
                      refine q_bipush (v := 7) C dX7_doDecide_132 (by decide) ?_
                      refine q_iload_n C dX7_doDecide_134 rfl rfl ?_
                      refine q_ci3 C (c_X7_refuse l S 2 7 (nI (uM_first S m))) myX7_refuse mlX7_77 q_s112 ⟨by decide, by decide⟩ (Nat.le_of_ble_eq_true rfl) dX7_doDecide_135 ?_
                      exact hret _ _ _ _ dX7_doDecide_138 (by simp [uMd_decide, uM_out, uM_bad, uMr_decide, uM_dec, if_pos h_2, h_2, uN_nI (show m < 2 ^ 31 by omega), c_21, c_41, c_71, Int32.not_lt.mpr c_71, if_neg (Int32.not_lt.mpr c_71), c_87, Nat.not_le.mpr c_87, if_pos h_93, h_93, c_105, c_117, Nat.not_lt.mpr c_117, c_127]) (by simp [uMd_decide, uM_out, uM_bad, uMr_decide, uM_dec, if_pos h_2, h_2, uN_nI (show m < 2 ^ 31 by omega), c_21, c_41, c_71, Int32.not_lt.mpr c_71, if_neg (Int32.not_lt.mpr c_71), c_87, Nat.not_le.mpr c_87, if_pos h_93, h_93, c_105, c_117, Nat.not_lt.mpr c_117, c_127])
                · refine q_iinc (v := nI (i_84 + 1)) (lv' := [(2, .int (nI (i_84 + 1))), (0, .ref 112), (1, .int (nI m))]) C dX7_doDecide_108 rfl (nI_add _ _) (by decide) rfl ?_
                  refine q_goto (tgt := 84) C dX7_doDecide_111 (by decide) ?_
                  exact q_V_to (ih_84 (i_84 + 1) (by omega) (by rw [← hr_84]; simp [q_first, uM_pF, if_pos h_2, h_2, uN_nI (show m < 2 ^ 31 by omega), c_21, c_41, c_71, Int32.not_lt.mpr c_71, if_neg (Int32.not_lt.mpr c_71), c_87, Nat.not_le.mpr c_87, if_pos h_93, h_93, c_105])) ⟨rfl, rfl, rfl, trivial⟩ rfl
              · refine q_ci2 C (q_Fi.cv (if_neg h_93) (c_X7_isOf l S m (by omega) i_84 (by omega))) myX7_isOf mlX7_66 q_s112 ⟨by decide, by decide⟩ (Nat.le_of_ble_eq_true rfl) dX7_doDecide_93 ?_
                refine q_if_eq (tgt := 108) C dX7_doDecide_96 (by decide) (fun _ => ?_) (fun h9 => absurd h9 (by decide))
                refine q_iinc (v := nI (i_84 + 1)) (lv' := [(2, .int (nI (i_84 + 1))), (0, .ref 112), (1, .int (nI m))]) C dX7_doDecide_108 rfl (nI_add _ _) (by decide) rfl ?_
                refine q_goto (tgt := 84) C dX7_doDecide_111 (by decide) ?_
                exact q_V_to (ih_84 (i_84 + 1) (by omega) (by rw [← hr_84]; simp [q_first, uM_pF, if_pos h_2, h_2, uN_nI (show m < 2 ^ 31 by omega), c_21, c_41, c_71, Int32.not_lt.mpr c_71, if_neg (Int32.not_lt.mpr c_71), c_87, Nat.not_le.mpr c_87, if_neg h_93, h_93, Decidable.not_not.mp h_93])) ⟨rfl, rfl, rfl, trivial⟩ rfl
          exact q_V_to (loop_84 (6 - 0) 0 (by omega) rfl) ⟨rfl, rfl, rfl, trivial⟩ rfl
        · refine q_aload_n C dX7_doDecide_74 rfl rfl ?_
          refine q_iload_n C dX7_doDecide_75 rfl rfl ?_
          refine q_iconst (v := 2) C dX7_doDecide_76 (by decide) ?_
          refine q_cv2 C (c_X7_decides l S N hN (hNd m hmM (by first | assumption | exact Decidable.not_not.mp ‹_›)) m (by omega) 2) myX7_decides mlX7_126 q_s112 ⟨by decide, by decide⟩ (Nat.le_of_ble_eq_true rfl) dX7_doDecide_77 ?_
          refine q_iconst (v := 2) C dX7_doDecide_80 (by decide) ?_
          exact hret _ _ _ _ dX7_doDecide_81 (by simp [uMd_decide, uM_out, uM_bad, uMr_decide, uM_dec, if_pos h_2, h_2, uN_nI (show m < 2 ^ 31 by omega), c_21, c_41, c_71, Int32.not_le.mpr c_71, if_pos c_71]) (by simp [uMd_decide, uM_out, uM_bad, uMr_decide, uM_dec, if_pos h_2, h_2, uN_nI (show m < 2 ^ 31 by omega), c_21, c_41, c_71, Int32.not_le.mpr c_71, if_pos c_71])
      · refine q_aload_n C dX7_doDecide_44 rfl rfl ?_
        refine q_iconst (v := 2) C dX7_doDecide_45 (by decide) ?_
        refine q_iconst (v := 3) C dX7_doDecide_46 (by decide) ?_
        refine q_aload_n C dX7_doDecide_47 rfl rfl ?_
        refine q_iload_n C dX7_doDecide_48 rfl rfl ?_
        refine q_ci1 C (c_X7_how l S m (by omega)) myX7_how mlX7_73 q_s112 ⟨by decide, by decide⟩ (Nat.le_of_ble_eq_true rfl) dX7_doDecide_49 ?_
        refine q_ci3 C (c_X7_refuse l S 2 3 (S 113 (32 + 14 * m))) myX7_refuse mlX7_77 q_s112 ⟨by decide, by decide⟩ (Nat.le_of_ble_eq_true rfl) dX7_doDecide_52 ?_
        exact hret _ _ _ _ dX7_doDecide_55 (by simp [uMd_decide, uM_out, uM_bad, uMr_decide, uM_dec, if_pos h_2, h_2, uN_nI (show m < 2 ^ 31 by omega), c_21, c_41]) (by simp [uMd_decide, uM_out, uM_bad, uMr_decide, uM_dec, if_pos h_2, h_2, uN_nI (show m < 2 ^ 31 by omega), c_21, c_41])
    · refine q_aload_n C dX7_doDecide_24 rfl rfl ?_
      refine q_iconst (v := 2) C dX7_doDecide_25 (by decide) ?_
      refine q_iconst (v := 2) C dX7_doDecide_26 (by decide) ?_
      refine q_aload_n C dX7_doDecide_27 rfl rfl ?_
      refine q_iconst (v := 0) C dX7_doDecide_28 (by decide) ?_
      refine q_ci1 C (c_X7_matters l S M hM hM8 0) myX7_matters mlX7_110 q_s112 ⟨by decide, by decide⟩ (Nat.le_of_ble_eq_true rfl) dX7_doDecide_29 ?_
      refine q_ci3 C (c_X7_refuse l S 2 2 (uM_matters S M 0)) myX7_refuse mlX7_77 q_s112 ⟨by decide, by decide⟩ (Nat.le_of_ble_eq_true rfl) dX7_doDecide_32 ?_
      exact hret _ _ _ _ dX7_doDecide_35 (by simp [uMd_decide, uM_out, uM_bad, uMr_decide, uM_dec, if_pos h_2, h_2, uN_nI (show m < 2 ^ 31 by omega), c_21]) (by simp [uMd_decide, uM_out, uM_bad, uMr_decide, uM_dec, if_pos h_2, h_2, uN_nI (show m < 2 ^ 31 by omega), c_21])
  · refine q_ci1 C (q_Fi.cv (if_neg h_2) (c_X7_isMatter l S M hM hM8 x)) myX7_isMatter mlX7_91 q_s112 ⟨by decide, by decide⟩ (Nat.le_of_ble_eq_true rfl) dX7_doDecide_2 ?_
    refine q_if_ne (tgt := 14) C dX7_doDecide_5 (by decide) (fun h9 => absurd h9 (by decide)) (fun _ => ?_)
    refine q_aload_n C dX7_doDecide_8 rfl rfl ?_
    refine q_iconst (v := 1) C dX7_doDecide_9 (by decide) ?_
    refine q_ci1 C (c_X7_fails l S 1) myX7_fails mlX7_98 q_s112 ⟨by decide, by decide⟩ (Nat.le_of_ble_eq_true rfl) dX7_doDecide_10 ?_
    exact hret _ _ _ _ dX7_doDecide_13 (by simp [uMd_decide, uM_out, uM_bad, uMr_decide, uM_dec, if_neg h_2, h_2]) (by simp [uMd_decide, uM_out, uM_bad, uMr_decide, uM_dec, if_neg h_2, h_2])
theorem c_X7_doTell (l : Launch) (S : q_St) (M : Nat) (hM : S 113 0 = nI M) (hM8 : M ≤ 8) (x : Int32) (y : Int32) : q_Fi l yX7_doTell kX7_doTell 4 [.ref 112, .int x, .int y] S ((uMd_tell S M x y).1) ((uMd_tell S M x y).2) := by
  refine q_Fi_of (maxL := 3) rfl (by decide +kernel) (fun ad => Nat.le_of_ble_eq_true rfl) rfl ?_
  intro K C hret
  have C : q_Cx K cX7_doTell RX7 4 3 := C
  show q_V l K 0 [(0, .ref 112), (1, .int x), (2, .int y)] [] S
  refine q_aload_n C dX7_doTell_0 rfl rfl ?_
  refine q_iload_n C dX7_doTell_1 rfl rfl ?_
  by_cases h_2 : 0 ≤ x ∧ x < nI M
  · refine q_ci1 C (q_Fi.cv (if_pos h_2) (c_X7_isMatter l S M hM hM8 x)) myX7_isMatter mlX7_91 q_s112 ⟨by decide, by decide⟩ (Nat.le_of_ble_eq_true rfl) dX7_doTell_2 ?_
    obtain ⟨m, hmM, rfl⟩ := uK_okM (X := nI M) rfl hM8 h_2
    refine q_if_ne (tgt := 14) C dX7_doTell_5 (by decide) (fun _ => ?_) (fun h9 => absurd h9 (by decide))
    refine q_iload_n C dX7_doTell_14 rfl rfl ?_
    by_cases h_15 : 0 ≤ y ∧ y < 6
    · refine q_si1 C (q_Fi.cv (if_pos h_15) (c_X7_isGuild l S y)) msX7_isGuild rfl mlX7_95 ⟨by decide, by decide⟩ (Nat.le_of_ble_eq_true rfl) dX7_doTell_15 ?_
      obtain ⟨g, hg6, rfl⟩ := uK_okG h_15
      refine q_if_ne (tgt := 27) C dX7_doTell_18 (by decide) (fun _ => ?_) (fun h9 => absurd h9 (by decide))
      refine q_aload_n C dX7_doTell_27 rfl rfl ?_
      refine q_getR C flX7_9 q_s112 rfl dX7_doTell_28 ?_
      refine q_iconst (v := 1) C dX7_doTell_31 (by decide) ?_
      refine q_ialdN (i := 1) (x := S 113 1) C rfl q_s113 (by omega) (by decide) dX7_doTell_32 rfl ?_
      refine q_iconst (v := 1) C dX7_doTell_33 (by decide) ?_
      refine q_icmp_ne (tgt := 49) C dX7_doTell_34 (by decide)  (fun c_34 => ?_) (fun c_34 => ?_)
      · refine q_aload_n C dX7_doTell_49 rfl rfl ?_
        refine q_iload_n C dX7_doTell_50 rfl rfl ?_
        refine q_ci1 C (c_X7_how l S m (by omega)) myX7_how mlX7_73 q_s112 ⟨by decide, by decide⟩ (Nat.le_of_ble_eq_true rfl) dX7_doTell_51 ?_
        refine q_if_ne (tgt := 66) C dX7_doTell_54 (by decide)  (fun c_54 => ?_) (fun c_54 => ?_)
        · refine q_aload_n C dX7_doTell_66 rfl rfl ?_
          refine q_iload_n C dX7_doTell_67 rfl rfl ?_
          refine q_iload_n C dX7_doTell_68 rfl rfl ?_
          by_cases h_69 : S 113 (32 + 14 * m + 2 + g) ≠ 0
          · refine q_ci2 C (q_Fi.cv (if_pos h_69) (c_X7_isOf l S m (by omega) g (by omega))) myX7_isOf mlX7_66 q_s112 ⟨by decide, by decide⟩ (Nat.le_of_ble_eq_true rfl) dX7_doTell_69 ?_
            refine q_if_ne (tgt := 83) C dX7_doTell_72 (by decide) (fun _ => ?_) (fun h9 => absurd h9 (by decide))
            refine q_aload_n C dX7_doTell_83 rfl rfl ?_
            refine q_iload_n C dX7_doTell_84 rfl rfl ?_
            by_cases h_85 : S 113 (12 + g) = 1
            · refine q_ci1 C (q_Fi.cv (if_pos h_85) (c_X7_isAsleep l S g (by omega))) myX7_isAsleep mlX7_113 q_s112 ⟨by decide, by decide⟩ (Nat.le_of_ble_eq_true rfl) dX7_doTell_85 ?_
              refine q_if_eq (tgt := 99) C dX7_doTell_88 (by decide) (fun h9 => absurd h9 (by decide)) (fun _ => ?_)
              refine q_aload_n C dX7_doTell_91 rfl rfl ?_
              refine q_iconst (v := 3) C dX7_doTell_92 (by decide) ?_
              refine q_iconst (v := 5) C dX7_doTell_93 (by decide) ?_
              refine q_iload_n C dX7_doTell_94 rfl rfl ?_
              refine q_ci3 C (c_X7_refuse l S 3 5 (nI g)) myX7_refuse mlX7_77 q_s112 ⟨by decide, by decide⟩ (Nat.le_of_ble_eq_true rfl) dX7_doTell_95 ?_
              exact hret _ _ _ _ dX7_doTell_98 (by simp [uMd_tell, uM_out, uM_bad, uMr_tell, uM_tell, if_pos h_2, h_2, uN_nI (show m < 2 ^ 31 by omega), if_pos h_15, h_15, uN_nI (show g < 2 ^ 31 by omega), c_34, c_54, if_pos h_69, h_69, if_pos h_85, h_85]) (by simp [uMd_tell, uM_out, uM_bad, uMr_tell, uM_tell, if_pos h_2, h_2, uN_nI (show m < 2 ^ 31 by omega), if_pos h_15, h_15, uN_nI (show g < 2 ^ 31 by omega), c_34, c_54, if_pos h_69, h_69, if_pos h_85, h_85])
            · refine q_ci1 C (q_Fi.cv (if_neg h_85) (c_X7_isAsleep l S g (by omega))) myX7_isAsleep mlX7_113 q_s112 ⟨by decide, by decide⟩ (Nat.le_of_ble_eq_true rfl) dX7_doTell_85 ?_
              refine q_if_eq (tgt := 99) C dX7_doTell_88 (by decide) (fun _ => ?_) (fun h9 => absurd h9 (by decide))
              refine q_aload_n C dX7_doTell_99 rfl rfl ?_
              refine q_iload_n C dX7_doTell_100 rfl rfl ?_
              refine q_iload_n C dX7_doTell_101 rfl rfl ?_
              refine q_ci2 C (c_X7_answerOf l S m (by omega) g (by omega)) myX7_answerOf mlX7_70 q_s112 ⟨by decide, by decide⟩ (Nat.le_of_ble_eq_true rfl) dX7_doTell_102 ?_
              refine q_iconst (v := 3) C dX7_doTell_105 (by decide) ?_
              refine q_icmp_lt (tgt := 123) C dX7_doTell_106 (by decide)  (fun c_106 => ?_) (fun c_106 => ?_)
              · refine q_aload_n C dX7_doTell_123 rfl rfl ?_
                refine q_iload_n C dX7_doTell_124 rfl rfl ?_
                refine q_iload_n C dX7_doTell_125 rfl rfl ?_
                refine q_aload_n C dX7_doTell_126 rfl rfl ?_
                refine q_iload_n C dX7_doTell_127 rfl rfl ?_
                refine q_ci1 C (c_X7_how l S m (by omega)) myX7_how mlX7_73 q_s112 ⟨by decide, by decide⟩ (Nat.le_of_ble_eq_true rfl) dX7_doTell_128 ?_
                refine q_iconst (v := 1) C dX7_doTell_131 (by decide) ?_
                refine q_icmp_ne (tgt := 139) C dX7_doTell_132 (by decide)  (fun c_132 => ?_) (fun c_132 => ?_)
                · refine q_iconst (v := 0) C dX7_doTell_139 (by decide) ?_
                  refine q_cv3 C (c_X7_hears0 l S m (by omega) g (by omega)) myX7_hears mlX7_133 q_s112 ⟨by decide, by decide⟩ (Nat.le_of_ble_eq_true rfl) dX7_doTell_140 ?_
                  refine q_aload_n C dX7_doTell_143 rfl rfl ?_
                  refine q_getR C flX7_9 q_s112 rfl dX7_doTell_144 ?_
                  refine q_bipush (v := 6) C dX7_doTell_147 (by decide) ?_
                  refine q_iload_n C dX7_doTell_149 rfl rfl ?_
                  refine q_iaddN (a := 6) (b := g) C dX7_doTell_150 rfl rfl ?_
                  refine q_ialdN (i := 6 + g) (x := (uM_hear0 S m g) 113 (6 + g)) C rfl q_s113 (by omega) (by decide) dX7_doTell_151 rfl ?_
                  exact hret _ _ _ _ dX7_doTell_152 (by simp [uMd_tell, uM_out, uM_bad, uMr_tell, uM_tell, if_pos h_2, h_2, uN_nI (show m < 2 ^ 31 by omega), if_pos h_15, h_15, uN_nI (show g < 2 ^ 31 by omega), c_34, c_54, if_pos h_69, h_69, if_neg h_85, h_85, c_106, Int32.not_le.mpr c_106, if_pos c_106, c_132]) (by simp [uMd_tell, uM_out, uM_bad, uMr_tell, uM_tell, if_pos h_2, h_2, uN_nI (show m < 2 ^ 31 by omega), if_pos h_15, h_15, uN_nI (show g < 2 ^ 31 by omega), c_34, c_54, if_pos h_69, h_69, if_neg h_85, h_85, c_106, Int32.not_le.mpr c_106, if_pos c_106, c_132])
                · refine q_iconst (v := 1) C dX7_doTell_135 (by decide) ?_
                  refine q_goto (tgt := 140) C dX7_doTell_136 (by decide) ?_
                  refine q_cv3 C (c_X7_hears1 l S m (by omega) g (by omega)) myX7_hears mlX7_133 q_s112 ⟨by decide, by decide⟩ (Nat.le_of_ble_eq_true rfl) dX7_doTell_140 ?_
                  refine q_aload_n C dX7_doTell_143 rfl rfl ?_
                  refine q_getR C flX7_9 q_s112 rfl dX7_doTell_144 ?_
                  refine q_bipush (v := 6) C dX7_doTell_147 (by decide) ?_
                  refine q_iload_n C dX7_doTell_149 rfl rfl ?_
                  refine q_iaddN (a := 6) (b := g) C dX7_doTell_150 rfl rfl ?_
                  refine q_ialdN (i := 6 + g) (x := (uM_hear1 S m g) 113 (6 + g)) C rfl q_s113 (by omega) (by decide) dX7_doTell_151 rfl ?_
                  exact hret _ _ _ _ dX7_doTell_152 (by simp [uMd_tell, uM_out, uM_bad, uMr_tell, uM_tell, if_pos h_2, h_2, uN_nI (show m < 2 ^ 31 by omega), if_pos h_15, h_15, uN_nI (show g < 2 ^ 31 by omega), c_34, c_54, if_pos h_69, h_69, if_neg h_85, h_85, c_106, Int32.not_le.mpr c_106, if_pos c_106, c_132]) (by simp [uMd_tell, uM_out, uM_bad, uMr_tell, uM_tell, if_pos h_2, h_2, uN_nI (show m < 2 ^ 31 by omega), if_pos h_15, h_15, uN_nI (show g < 2 ^ 31 by omega), c_34, c_54, if_pos h_69, h_69, if_neg h_85, h_85, c_106, Int32.not_le.mpr c_106, if_pos c_106, c_132])
              · refine q_aload_n C dX7_doTell_109 rfl rfl ?_
                refine q_iconst (v := 3) C dX7_doTell_110 (by decide) ?_
                refine q_bipush (v := 9) C dX7_doTell_111 (by decide) ?_
                refine q_aload_n C dX7_doTell_113 rfl rfl ?_
                refine q_iload_n C dX7_doTell_114 rfl rfl ?_
                refine q_iload_n C dX7_doTell_115 rfl rfl ?_
                refine q_ci2 C (c_X7_answerOf l S m (by omega) g (by omega)) myX7_answerOf mlX7_70 q_s112 ⟨by decide, by decide⟩ (Nat.le_of_ble_eq_true rfl) dX7_doTell_116 ?_
                refine q_ci3 C (c_X7_refuse l S 3 9 (S 113 (32 + 14 * m + 8 + g))) myX7_refuse mlX7_77 q_s112 ⟨by decide, by decide⟩ (Nat.le_of_ble_eq_true rfl) dX7_doTell_119 ?_
                exact hret _ _ _ _ dX7_doTell_122 (by simp [uMd_tell, uM_out, uM_bad, uMr_tell, uM_tell, if_pos h_2, h_2, uN_nI (show m < 2 ^ 31 by omega), if_pos h_15, h_15, uN_nI (show g < 2 ^ 31 by omega), c_34, c_54, if_pos h_69, h_69, if_neg h_85, h_85, c_106, Int32.not_lt.mpr c_106, if_neg (Int32.not_lt.mpr c_106)]) (by simp [uMd_tell, uM_out, uM_bad, uMr_tell, uM_tell, if_pos h_2, h_2, uN_nI (show m < 2 ^ 31 by omega), if_pos h_15, h_15, uN_nI (show g < 2 ^ 31 by omega), c_34, c_54, if_pos h_69, h_69, if_neg h_85, h_85, c_106, Int32.not_lt.mpr c_106, if_neg (Int32.not_lt.mpr c_106)])
          · refine q_ci2 C (q_Fi.cv (if_neg h_69) (c_X7_isOf l S m (by omega) g (by omega))) myX7_isOf mlX7_66 q_s112 ⟨by decide, by decide⟩ (Nat.le_of_ble_eq_true rfl) dX7_doTell_69 ?_
            refine q_if_ne (tgt := 83) C dX7_doTell_72 (by decide) (fun h9 => absurd h9 (by decide)) (fun _ => ?_)
            refine q_aload_n C dX7_doTell_75 rfl rfl ?_
            refine q_iconst (v := 3) C dX7_doTell_76 (by decide) ?_
            refine q_iconst (v := 4) C dX7_doTell_77 (by decide) ?_
            refine q_iload_n C dX7_doTell_78 rfl rfl ?_
            refine q_ci3 C (c_X7_refuse l S 3 4 (nI g)) myX7_refuse mlX7_77 q_s112 ⟨by decide, by decide⟩ (Nat.le_of_ble_eq_true rfl) dX7_doTell_79 ?_
            exact hret _ _ _ _ dX7_doTell_82 (by simp [uMd_tell, uM_out, uM_bad, uMr_tell, uM_tell, if_pos h_2, h_2, uN_nI (show m < 2 ^ 31 by omega), if_pos h_15, h_15, uN_nI (show g < 2 ^ 31 by omega), c_34, c_54, if_neg h_69, h_69, Decidable.not_not.mp h_69]) (by simp [uMd_tell, uM_out, uM_bad, uMr_tell, uM_tell, if_pos h_2, h_2, uN_nI (show m < 2 ^ 31 by omega), if_pos h_15, h_15, uN_nI (show g < 2 ^ 31 by omega), c_34, c_54, if_neg h_69, h_69, Decidable.not_not.mp h_69])
        · refine q_aload_n C dX7_doTell_57 rfl rfl ?_
          refine q_iconst (v := 3) C dX7_doTell_58 (by decide) ?_
          refine q_bipush (v := 8) C dX7_doTell_59 (by decide) ?_
          refine q_iload_n C dX7_doTell_61 rfl rfl ?_
          refine q_ci3 C (c_X7_refuse l S 3 8 (nI m)) myX7_refuse mlX7_77 q_s112 ⟨by decide, by decide⟩ (Nat.le_of_ble_eq_true rfl) dX7_doTell_62 ?_
          exact hret _ _ _ _ dX7_doTell_65 (by simp [uMd_tell, uM_out, uM_bad, uMr_tell, uM_tell, if_pos h_2, h_2, uN_nI (show m < 2 ^ 31 by omega), if_pos h_15, h_15, uN_nI (show g < 2 ^ 31 by omega), c_34, c_54]) (by simp [uMd_tell, uM_out, uM_bad, uMr_tell, uM_tell, if_pos h_2, h_2, uN_nI (show m < 2 ^ 31 by omega), if_pos h_15, h_15, uN_nI (show g < 2 ^ 31 by omega), c_34, c_54])
      · refine q_aload_n C dX7_doTell_37 rfl rfl ?_
        refine q_iconst (v := 3) C dX7_doTell_38 (by decide) ?_
        refine q_iconst (v := 2) C dX7_doTell_39 (by decide) ?_
        refine q_aload_n C dX7_doTell_40 rfl rfl ?_
        refine q_iconst (v := 0) C dX7_doTell_41 (by decide) ?_
        refine q_ci1 C (c_X7_matters l S M hM hM8 0) myX7_matters mlX7_110 q_s112 ⟨by decide, by decide⟩ (Nat.le_of_ble_eq_true rfl) dX7_doTell_42 ?_
        refine q_ci3 C (c_X7_refuse l S 3 2 (uM_matters S M 0)) myX7_refuse mlX7_77 q_s112 ⟨by decide, by decide⟩ (Nat.le_of_ble_eq_true rfl) dX7_doTell_45 ?_
        exact hret _ _ _ _ dX7_doTell_48 (by simp [uMd_tell, uM_out, uM_bad, uMr_tell, uM_tell, if_pos h_2, h_2, uN_nI (show m < 2 ^ 31 by omega), if_pos h_15, h_15, uN_nI (show g < 2 ^ 31 by omega), c_34]) (by simp [uMd_tell, uM_out, uM_bad, uMr_tell, uM_tell, if_pos h_2, h_2, uN_nI (show m < 2 ^ 31 by omega), if_pos h_15, h_15, uN_nI (show g < 2 ^ 31 by omega), c_34])
    · refine q_si1 C (q_Fi.cv (if_neg h_15) (c_X7_isGuild l S y)) msX7_isGuild rfl mlX7_95 ⟨by decide, by decide⟩ (Nat.le_of_ble_eq_true rfl) dX7_doTell_15 ?_
      refine q_if_ne (tgt := 27) C dX7_doTell_18 (by decide) (fun h9 => absurd h9 (by decide)) (fun _ => ?_)
      refine q_aload_n C dX7_doTell_21 rfl rfl ?_
      refine q_iconst (v := 2) C dX7_doTell_22 (by decide) ?_
      refine q_ci1 C (c_X7_fails l S 2) myX7_fails mlX7_98 q_s112 ⟨by decide, by decide⟩ (Nat.le_of_ble_eq_true rfl) dX7_doTell_23 ?_
      exact hret _ _ _ _ dX7_doTell_26 (by simp [uMd_tell, uM_out, uM_bad, uMr_tell, uM_tell, if_pos h_2, h_2, uN_nI (show m < 2 ^ 31 by omega), if_neg h_15, h_15]) (by simp [uMd_tell, uM_out, uM_bad, uMr_tell, uM_tell, if_pos h_2, h_2, uN_nI (show m < 2 ^ 31 by omega), if_neg h_15, h_15])
  · refine q_ci1 C (q_Fi.cv (if_neg h_2) (c_X7_isMatter l S M hM hM8 x)) myX7_isMatter mlX7_91 q_s112 ⟨by decide, by decide⟩ (Nat.le_of_ble_eq_true rfl) dX7_doTell_2 ?_
    refine q_if_ne (tgt := 14) C dX7_doTell_5 (by decide) (fun h9 => absurd h9 (by decide)) (fun _ => ?_)
    refine q_aload_n C dX7_doTell_8 rfl rfl ?_
    refine q_iconst (v := 1) C dX7_doTell_9 (by decide) ?_
    refine q_ci1 C (c_X7_fails l S 1) myX7_fails mlX7_98 q_s112 ⟨by decide, by decide⟩ (Nat.le_of_ble_eq_true rfl) dX7_doTell_10 ?_
    exact hret _ _ _ _ dX7_doTell_13 (by simp [uMd_tell, uM_out, uM_bad, uMr_tell, uM_tell, if_neg h_2, h_2]) (by simp [uMd_tell, uM_out, uM_bad, uMr_tell, uM_tell, if_neg h_2, h_2])
theorem c_X7_doFaint (l : Launch) (S : q_St) (M : Nat) (hM : S 113 0 = nI M) (hM8 : M ≤ 8) : q_Fi l yX7_doFaint kX7_doFaint 3 [.ref 112] S ((uMd_faint S M).1) ((uMd_faint S M).2) := by
  refine q_Fi_of (maxL := 1) rfl (by decide +kernel) (fun ad => Nat.le_of_ble_eq_true rfl) rfl ?_
  intro K C hret
  have C : q_Cx K cX7_doFaint RX7 3 1 := C
  show q_V l K 0 [(0, .ref 112)] [] S
  refine q_aload_n C dX7_doFaint_0 rfl rfl ?_
  refine q_getR C flX7_9 q_s112 rfl dX7_doFaint_1 ?_
  refine q_iconst (v := 1) C dX7_doFaint_4 (by decide) ?_
  refine q_ialdN (i := 1) (x := S 113 1) C rfl q_s113 (by omega) (by decide) dX7_doFaint_5 rfl ?_
  refine q_iconst (v := 1) C dX7_doFaint_6 (by decide) ?_
  refine q_icmp_ne (tgt := 22) C dX7_doFaint_7 (by decide)  (fun c_7 => ?_) (fun c_7 => ?_)
  · refine q_aload_n C dX7_doFaint_22 rfl rfl ?_
    refine q_getR C flX7_9 q_s112 rfl dX7_doFaint_23 ?_
    refine q_iconst (v := 1) C dX7_doFaint_26 (by decide) ?_
    refine q_iconst (v := 1) C dX7_doFaint_27 (by decide) ?_
    refine q_iastN (i := 1) C rfl q_s113 (by omega) (by decide) dX7_doFaint_28 ?_
    refine q_aload_n C dX7_doFaint_29 rfl rfl ?_
    refine q_getR C flX7_9 q_s112 rfl dX7_doFaint_30 ?_
    refine q_iconst (v := 4) C dX7_doFaint_33 (by decide) ?_
    refine q_dup2 C rfl rfl dX7_doFaint_34 ?_
    refine q_ialdN (i := 4) (x := S 113 4) C rfl q_s113 (by omega) (by decide) dX7_doFaint_35 rfl ?_
    refine q_iconst (v := 1) C dX7_doFaint_36 (by decide) ?_
    refine q_iadd C dX7_doFaint_37 ?_
    refine q_iastN (i := 4) C rfl q_s113 (by omega) (by decide) dX7_doFaint_38 ?_
    refine q_aload_n C dX7_doFaint_39 rfl rfl ?_
    refine q_iconst (v := 0) C dX7_doFaint_40 (by decide) ?_
    refine q_ci1 C (c_X7_matters l (q_p (q_p S 113 1 1) 113 4 ((S 113 4) + 1)) M hM hM8 0) myX7_matters mlX7_110 q_s112 ⟨by decide, by decide⟩ (Nat.le_of_ble_eq_true rfl) dX7_doFaint_41 ?_
    exact hret _ _ _ _ dX7_doFaint_44 (by simp [uMd_faint, uM_out, uM_bad, uMr_faint, uM_faint, c_7]) (by simp [uMd_faint, uM_out, uM_bad, uMr_faint, uM_faint, c_7])
  · refine q_aload_n C dX7_doFaint_10 rfl rfl ?_
    refine q_iconst (v := 1) C dX7_doFaint_11 (by decide) ?_
    refine q_iconst (v := 2) C dX7_doFaint_12 (by decide) ?_
    refine q_aload_n C dX7_doFaint_13 rfl rfl ?_
    refine q_iconst (v := 0) C dX7_doFaint_14 (by decide) ?_
    refine q_ci1 C (c_X7_matters l S M hM hM8 0) myX7_matters mlX7_110 q_s112 ⟨by decide, by decide⟩ (Nat.le_of_ble_eq_true rfl) dX7_doFaint_15 ?_
    refine q_ci3 C (c_X7_refuse l S 1 2 (uM_matters S M 0)) myX7_refuse mlX7_77 q_s112 ⟨by decide, by decide⟩ (Nat.le_of_ble_eq_true rfl) dX7_doFaint_18 ?_
    exact hret _ _ _ _ dX7_doFaint_21 (by simp [uMd_faint, uM_out, uM_bad, uMr_faint, uM_faint, c_7]) (by simp [uMd_faint, uM_out, uM_bad, uMr_faint, uM_faint, c_7])
theorem c_X7_doWake (l : Launch) (S : q_St) (M : Nat) (hM : S 113 0 = nI M) (hM8 : M ≤ 8) (N : Nat) (hN : S 113 5 = nI N) (hW : uM_wkN (q_p S 113 1 0) N M ≤ 8) : q_Fi l yX7_doWake kX7_doWake 4 [.ref 112] S ((uMd_wake S M N).1) ((uMd_wake S M N).2) := by
  refine q_Fi_of (maxL := 3) rfl (by decide +kernel) (fun ad => Nat.le_of_ble_eq_true rfl) rfl ?_
  intro K C hret
  have C : q_Cx K cX7_doWake RX7 4 3 := C
  show q_V l K 0 [(0, .ref 112)] [] S
  refine q_aload_n C dX7_doWake_0 rfl rfl ?_
  refine q_getR C flX7_9 q_s112 rfl dX7_doWake_1 ?_
  refine q_iconst (v := 1) C dX7_doWake_4 (by decide) ?_
  refine q_ialdN (i := 1) (x := S 113 1) C rfl q_s113 (by omega) (by decide) dX7_doWake_5 rfl ?_
  refine q_if_ne (tgt := 23) C dX7_doWake_6 (by decide)  (fun c_6 => ?_) (fun c_6 => ?_)
  · refine q_aload_n C dX7_doWake_23 rfl rfl ?_
    refine q_getR C flX7_9 q_s112 rfl dX7_doWake_24 ?_
    refine q_iconst (v := 1) C dX7_doWake_27 (by decide) ?_
    refine q_iconst (v := 0) C dX7_doWake_28 (by decide) ?_
    refine q_iastN (i := 1) C rfl q_s113 (by omega) (by decide) dX7_doWake_29 ?_
    refine q_iconst (v := 0) C dX7_doWake_30 (by decide) ?_
    refine q_istore_n (lv' := [(1, .int 0), (0, .ref 112)]) C dX7_doWake_31 rfl (by decide) rfl ?_
    refine q_iconst (v := 0) C dX7_doWake_32 (by decide) ?_
    refine q_istore_n (lv' := [(2, .int 0), (1, .int 0), (0, .ref 112)]) C dX7_doWake_33 rfl (by decide) rfl ?_
    have loop_34 : ∀ (n_34 i_34 : Nat), i_34 + n_34 = M → q_V l K 34 [(0, .ref 112), (1, .int (nI (uM_wkN (q_p S 113 1 0) N i_34 - N))), (2, .int (nI i_34))] [] (uM_wk (q_p S 113 1 0) N i_34) := by
      intro n_34
      induction n_34 with
      | zero =>
        intro i_34 hi_34
        have e_34 : i_34 = M := by omega
        refine q_iload_n C dX7_doWake_34 rfl rfl ?_
        refine q_aload_n C dX7_doWake_35 rfl rfl ?_
        refine q_getR C flX7_9 q_s112 rfl dX7_doWake_36 ?_
        refine q_iconst (v := 0) C dX7_doWake_39 (by decide) ?_
        refine q_ialdN (i := 0) (x := nI M) C rfl q_s113 (by omega) (by decide) dX7_doWake_40 ((uM_wk_at (q_p S 113 1 0) N M hW 0 (by decide) (by decide) _ (by omega) (fun m hm => by omega)).trans hM) ?_
        refine q_icmp_geN (a := i_34) (b := M) (tgt := 77) C dX7_doWake_41 (by decide) rfl rfl (by omega) (by omega) (fun c_41 => ?_) (fun c_41 => absurd c_41 (by omega))
        refine q_iload_n C dX7_doWake_77 rfl rfl ?_
        exact hret _ _ _ _ dX7_doWake_78 (by rw [e_34]; simp [uMd_wake, uM_out, uMr_wake, c_6, c_41, Nat.not_lt.mpr c_41]) (by rw [e_34]; simp [uMd_wake, uM_out, uMr_wake, uM_wake, c_6, c_41, Nat.not_lt.mpr c_41])
      | succ n_34 ih_34 =>
        intro i_34 hi_34
        refine q_iload_n C dX7_doWake_34 rfl rfl ?_
        refine q_aload_n C dX7_doWake_35 rfl rfl ?_
        refine q_getR C flX7_9 q_s112 rfl dX7_doWake_36 ?_
        refine q_iconst (v := 0) C dX7_doWake_39 (by decide) ?_
        refine q_ialdN (i := 0) (x := nI M) C rfl q_s113 (by omega) (by decide) dX7_doWake_40 ((uM_wk_at (q_p S 113 1 0) N M hW 0 (by decide) (by decide) _ (by omega) (fun m hm => by omega)).trans hM) ?_
        refine q_icmp_geN (a := i_34) (b := M) (tgt := 77) C dX7_doWake_41 (by decide) rfl rfl (by omega) (by omega) (fun c_41 => absurd c_41 (by omega)) (fun c_41 => ?_)
        refine q_aload_n C dX7_doWake_44 rfl rfl ?_
        refine q_iload_n C dX7_doWake_45 rfl rfl ?_
        have t_46 : uM_wk (q_p S 113 1 0) N i_34 113 (32 + 14 * i_34) = (q_p S 113 1 0) 113 (32 + 14 * i_34) := uM_wk_at _ _ M hW _ (by omega) (by omega) _ (by omega) (fun m hm => by omega)
        have t_56 : uM_cnt (uM_wk (q_p S 113 1 0) N i_34) i_34 1 4 = uM_cnt (q_p S 113 1 0) i_34 1 4 := uM_cnt_cg (fun j hj => uM_wk_at _ _ M hW _ (by omega) (by omega) _ (by omega) (fun m hm => by omega)) (fun j hj => uM_wk_at _ _ M hW _ (by omega) (by omega) _ (by omega) (fun m hm => by omega)) _ _
        refine q_ci1 C (q_Fi.cv t_46 (c_X7_how l (uM_wk (q_p S 113 1 0) N i_34) i_34 (by omega))) myX7_how mlX7_73 q_s112 ⟨by decide, by decide⟩ (Nat.le_of_ble_eq_true rfl) dX7_doWake_46 ?_
        refine q_if_ne (tgt := 71) C dX7_doWake_49 (by decide)  (fun c_49 => ?_) (fun c_49 => ?_)
        · refine q_iinc (v := nI (i_34 + 1)) (lv' := [(2, .int (nI (i_34 + 1))), (0, .ref 112), (1, .int (nI (uM_wkN (q_p S 113 1 0) N i_34 - N)))]) C dX7_doWake_71 rfl (nI_add _ _) (by decide) rfl ?_
          refine q_goto (tgt := 34) C dX7_doWake_74 (by decide) ?_
          exact q_V_to (ih_34 (i_34 + 1) (by omega)) ⟨rfl, q_iv (by simp [uM_wkN, uM_wkc, c_6, c_41, Nat.not_le.mpr c_41, c_49]; try (congr 1; omega)), rfl, trivial⟩ (by simp [uM_wk, uM_wkc, c_6, c_41, Nat.not_le.mpr c_41, c_49])
        · refine q_aload_n C dX7_doWake_52 rfl rfl ?_
          refine q_iload_n C dX7_doWake_53 rfl rfl ?_
          refine q_iconst (v := 1) C dX7_doWake_54 (by decide) ?_
          refine q_iconst (v := 4) C dX7_doWake_55 (by decide) ?_
          refine q_ci3 C (q_Fi.cv t_56 (c_X7_count l (uM_wk (q_p S 113 1 0) N i_34) i_34 (by omega) 1 4)) myX7_count mlX7_101 q_s112 ⟨by decide, by decide⟩ (Nat.le_of_ble_eq_true rfl) dX7_doWake_56 ?_
          refine q_if_le (tgt := 71) C dX7_doWake_59 (by decide)  (fun c_59 => ?_) (fun c_59 => ?_)
          · refine q_iinc (v := nI (i_34 + 1)) (lv' := [(2, .int (nI (i_34 + 1))), (0, .ref 112), (1, .int (nI (uM_wkN (q_p S 113 1 0) N i_34 - N)))]) C dX7_doWake_71 rfl (nI_add _ _) (by decide) rfl ?_
            refine q_goto (tgt := 34) C dX7_doWake_74 (by decide) ?_
            exact q_V_to (ih_34 (i_34 + 1) (by omega)) ⟨rfl, q_iv (by simp [uM_wkN, uM_wkc, c_6, c_41, Nat.not_le.mpr c_41, c_49, c_59, Int32.not_lt.mpr c_59, if_neg (Int32.not_lt.mpr c_59)]; try (congr 1; omega)), rfl, trivial⟩ (by simp [uM_wk, uM_wkc, c_6, c_41, Nat.not_le.mpr c_41, c_49, c_59, Int32.not_lt.mpr c_59, if_neg (Int32.not_lt.mpr c_59)])
          · refine q_aload_n C dX7_doWake_62 rfl rfl ?_
            refine q_iload_n C dX7_doWake_63 rfl rfl ?_
            refine q_iconst (v := 2) C dX7_doWake_64 (by decide) ?_
            have t_65 : uM_wkN (q_p S 113 1 0) N i_34 < 8 := uM_wkN_lt (by omega) ⟨c_49, c_59⟩ hW
            have t_66 := uM_wkN_mono (q_p S 113 1 0) N 0 i_34
            rw [Nat.zero_add] at t_66
            have t_67 : N ≤ uM_wkN (q_p S 113 1 0) N i_34 := t_66
            refine q_cv2 C (c_X7_decides l (uM_wk (q_p S 113 1 0) N i_34) (uM_wkN (q_p S 113 1 0) N i_34) (uM_wk_5 (q_p S 113 1 0) N hN i_34) t_65 i_34 (by omega) 2) myX7_decides mlX7_126 q_s112 ⟨by decide, by decide⟩ (Nat.le_of_ble_eq_true rfl) dX7_doWake_65 ?_
            refine q_iinc (v := nI (uM_wkN (q_p S 113 1 0) N i_34 - N + 1)) (lv' := [(1, .int (nI (uM_wkN (q_p S 113 1 0) N i_34 - N + 1))), (0, .ref 112), (2, .int (nI i_34))]) C dX7_doWake_68 rfl (nI_add _ _) (by decide) rfl ?_
            refine q_iinc (v := nI (i_34 + 1)) (lv' := [(2, .int (nI (i_34 + 1))), (1, .int (nI (uM_wkN (q_p S 113 1 0) N i_34 - N + 1))), (0, .ref 112)]) C dX7_doWake_71 rfl (nI_add _ _) (by decide) rfl ?_
            refine q_goto (tgt := 34) C dX7_doWake_74 (by decide) ?_
            exact q_V_to (ih_34 (i_34 + 1) (by omega)) ⟨rfl, q_iv (by simp [uM_wkN, uM_wkc, c_6, c_41, Nat.not_le.mpr c_41, c_49, c_59, Int32.not_le.mpr c_59, if_pos c_59]; try (congr 1; omega)), rfl, trivial⟩ (by simp [uM_wk, uM_wkc, c_6, c_41, Nat.not_le.mpr c_41, c_49, c_59, Int32.not_le.mpr c_59, if_pos c_59])
    exact q_V_to (loop_34 (M - 0) 0 (by omega)) ⟨rfl, q_iv (by simp [uM_wkN]; rfl), rfl, trivial⟩ rfl
  · refine q_aload_n C dX7_doWake_9 rfl rfl ?_
    refine q_iconst (v := 1) C dX7_doWake_10 (by decide) ?_
    refine q_bipush (v := 11) C dX7_doWake_11 (by decide) ?_
    refine q_aload_n C dX7_doWake_13 rfl rfl ?_
    refine q_getR C flX7_9 q_s112 rfl dX7_doWake_14 ?_
    refine q_iconst (v := 5) C dX7_doWake_17 (by decide) ?_
    refine q_ialdN (i := 5) (x := nI N) C rfl q_s113 (by omega) (by decide) dX7_doWake_18 hN ?_
    refine q_ci3 C (c_X7_refuse l S 1 11 (nI N)) myX7_refuse mlX7_77 q_s112 ⟨by decide, by decide⟩ (Nat.le_of_ble_eq_true rfl) dX7_doWake_19 ?_
    exact hret _ _ _ _ dX7_doWake_22 (by simp [uMd_wake, uM_out, uMr_wake, hN, c_6]) (by simp [uMd_wake, uM_out, uMr_wake, hN, c_6])
theorem c_X7_doSleep (l : Launch) (S : q_St) (y : Int32) (v : Int32) : q_Fi l yX7_doSleep kX7_doSleep 3 [.ref 112, .int y, .int v] S ((uMd_sleep S y v).1) ((uMd_sleep S y v).2) := by
  refine q_Fi_of (maxL := 3) rfl (by decide +kernel) (fun ad => Nat.le_of_ble_eq_true rfl) rfl ?_
  intro K C hret
  have C : q_Cx K cX7_doSleep RX7 3 3 := C
  show q_V l K 0 [(0, .ref 112), (1, .int y), (2, .int v)] [] S
  refine q_iload_n C dX7_doSleep_0 rfl rfl ?_
  by_cases h_1 : 0 ≤ y ∧ y < 6
  · refine q_si1 C (q_Fi.cv (if_pos h_1) (c_X7_isGuild l S y)) msX7_isGuild rfl mlX7_95 ⟨by decide, by decide⟩ (Nat.le_of_ble_eq_true rfl) dX7_doSleep_1 ?_
    obtain ⟨g, hg6, rfl⟩ := uK_okG h_1
    refine q_if_ne (tgt := 13) C dX7_doSleep_4 (by decide) (fun _ => ?_) (fun h9 => absurd h9 (by decide))
    refine q_aload_n C dX7_doSleep_13 rfl rfl ?_
    refine q_getR C flX7_9 q_s112 rfl dX7_doSleep_14 ?_
    refine q_bipush (v := 12) C dX7_doSleep_17 (by decide) ?_
    refine q_iload_n C dX7_doSleep_19 rfl rfl ?_
    refine q_iaddN (a := 12) (b := g) C dX7_doSleep_20 rfl rfl ?_
    refine q_ialdN (i := 12 + g) (x := S 113 (12 + g)) C rfl q_s113 (by omega) (by decide) dX7_doSleep_21 rfl ?_
    refine q_iload_n C dX7_doSleep_22 rfl rfl ?_
    refine q_icmp_ne (tgt := 37) C dX7_doSleep_23 (by decide)  (fun c_23 => ?_) (fun c_23 => ?_)
    · refine q_aload_n C dX7_doSleep_37 rfl rfl ?_
      refine q_getR C flX7_9 q_s112 rfl dX7_doSleep_38 ?_
      refine q_bipush (v := 12) C dX7_doSleep_41 (by decide) ?_
      refine q_iload_n C dX7_doSleep_43 rfl rfl ?_
      refine q_iaddN (a := 12) (b := g) C dX7_doSleep_44 rfl rfl ?_
      refine q_iload_n C dX7_doSleep_45 rfl rfl ?_
      refine q_iastN (i := 12 + g) C rfl q_s113 (by omega) (by decide) dX7_doSleep_46 ?_
      refine q_aload_n C dX7_doSleep_47 rfl rfl ?_
      refine q_ci0 C (c_X7_awake l (q_p S 113 (12 + g) v)) myX7_awake mlX7_146 q_s112 ⟨by decide, by decide⟩ (Nat.le_of_ble_eq_true rfl) dX7_doSleep_48 ?_
      exact hret _ _ _ _ dX7_doSleep_51 (by simp [uMd_sleep, uM_out, uM_bad, uMr_sleep, if_pos h_1, h_1, uN_nI (show g < 2 ^ 31 by omega), c_23]) (by simp [uMd_sleep, uM_out, uM_bad, uMr_sleep, if_pos h_1, h_1, uN_nI (show g < 2 ^ 31 by omega), c_23])
    · refine q_aload_n C dX7_doSleep_26 rfl rfl ?_
      refine q_iconst (v := 2) C dX7_doSleep_27 (by decide) ?_
      refine q_bipush (v := 10) C dX7_doSleep_28 (by decide) ?_
      refine q_iconst (v := 1) C dX7_doSleep_30 (by decide) ?_
      refine q_iload_n C dX7_doSleep_31 rfl rfl ?_
      refine q_isub C dX7_doSleep_32 ?_
      refine q_ci3 C (c_X7_refuse l S 2 10 (1 - v)) myX7_refuse mlX7_77 q_s112 ⟨by decide, by decide⟩ (Nat.le_of_ble_eq_true rfl) dX7_doSleep_33 ?_
      exact hret _ _ _ _ dX7_doSleep_36 (by simp [uMd_sleep, uM_out, uM_bad, uMr_sleep, if_pos h_1, h_1, uN_nI (show g < 2 ^ 31 by omega), c_23]) (by simp [uMd_sleep, uM_out, uM_bad, uMr_sleep, if_pos h_1, h_1, uN_nI (show g < 2 ^ 31 by omega), c_23])
  · refine q_si1 C (q_Fi.cv (if_neg h_1) (c_X7_isGuild l S y)) msX7_isGuild rfl mlX7_95 ⟨by decide, by decide⟩ (Nat.le_of_ble_eq_true rfl) dX7_doSleep_1 ?_
    refine q_if_ne (tgt := 13) C dX7_doSleep_4 (by decide) (fun h9 => absurd h9 (by decide)) (fun _ => ?_)
    refine q_aload_n C dX7_doSleep_7 rfl rfl ?_
    refine q_iconst (v := 1) C dX7_doSleep_8 (by decide) ?_
    refine q_ci1 C (c_X7_fails l S 1) myX7_fails mlX7_98 q_s112 ⟨by decide, by decide⟩ (Nat.le_of_ble_eq_true rfl) dX7_doSleep_9 ?_
    exact hret _ _ _ _ dX7_doSleep_12 (by simp [uMd_sleep, uM_out, uM_bad, uMr_sleep, if_neg h_1, h_1]) (by simp [uMd_sleep, uM_out, uM_bad, uMr_sleep, if_neg h_1, h_1])
theorem c_X7_doInquire (l : Launch) (S : q_St) (M : Nat) (hM : S 113 0 = nI M) (hM8 : M ≤ 8) (x : Int32) (y : Int32) (z : Int32) : q_Fi l yX7_doInquire kX7_doInquire 3 [.ref 112, .int x, .int y, .int z] S ((uMd_inq S M x y z).1) ((uMd_inq S M x y z).2) := by
  refine q_Fi_of (maxL := 5) rfl (by decide +kernel) (fun ad => Nat.le_of_ble_eq_true rfl) rfl ?_
  intro K C hret
  have C : q_Cx K cX7_doInquire RX7 3 5 := C
  show q_V l K 0 [(0, .ref 112), (1, .int x), (2, .int y), (3, .int z)] [] S
  refine q_aload_n C dX7_doInquire_0 rfl rfl ?_
  refine q_iload_n C dX7_doInquire_1 rfl rfl ?_
  by_cases h_2 : 0 ≤ x ∧ x < nI M
  · refine q_ci1 C (q_Fi.cv (if_pos h_2) (c_X7_isMatter l S M hM hM8 x)) myX7_isMatter mlX7_91 q_s112 ⟨by decide, by decide⟩ (Nat.le_of_ble_eq_true rfl) dX7_doInquire_2 ?_
    obtain ⟨m, hmM, rfl⟩ := uK_okM (X := nI M) rfl hM8 h_2
    refine q_if_ne (tgt := 14) C dX7_doInquire_5 (by decide) (fun _ => ?_) (fun h9 => absurd h9 (by decide))
    refine q_iload_n C dX7_doInquire_14 rfl rfl ?_
    by_cases h_15 : 0 ≤ y ∧ y < 6
    · refine q_si1 C (q_Fi.cv (if_pos h_15) (c_X7_isGuild l S y)) msX7_isGuild rfl mlX7_95 ⟨by decide, by decide⟩ (Nat.le_of_ble_eq_true rfl) dX7_doInquire_15 ?_
      obtain ⟨g, hg6, rfl⟩ := uK_okG h_15
      refine q_if_eq (tgt := 28) C dX7_doInquire_18 (by decide) (fun h9 => absurd h9 (by decide)) (fun _ => ?_)
      refine q_iload_n C dX7_doInquire_21 rfl rfl ?_
      by_cases h_22 : 0 ≤ z ∧ z < 6
      · refine q_si1 C (q_Fi.cv (if_pos h_22) (c_X7_isGuild l S z)) msX7_isGuild rfl mlX7_95 ⟨by decide, by decide⟩ (Nat.le_of_ble_eq_true rfl) dX7_doInquire_22 ?_
        obtain ⟨o, ho6, rfl⟩ := uK_okG h_22
        refine q_if_ne (tgt := 34) C dX7_doInquire_25 (by decide) (fun _ => ?_) (fun h9 => absurd h9 (by decide))
        refine q_aload_n C dX7_doInquire_34 rfl rfl ?_
        refine q_iload_n C dX7_doInquire_35 rfl rfl ?_
        refine q_iload_n C dX7_doInquire_36 rfl rfl ?_
        by_cases h_37 : S 113 (32 + 14 * m + 2 + g) ≠ 0
        · refine q_ci2 C (q_Fi.cv (if_pos h_37) (c_X7_isOf l S m (by omega) g (by omega))) myX7_isOf mlX7_66 q_s112 ⟨by decide, by decide⟩ (Nat.le_of_ble_eq_true rfl) dX7_doInquire_37 ?_
          refine q_if_eq (tgt := 52) C dX7_doInquire_40 (by decide) (fun h9 => absurd h9 (by decide)) (fun _ => ?_)
          refine q_aload_n C dX7_doInquire_43 rfl rfl ?_
          refine q_iload_n C dX7_doInquire_44 rfl rfl ?_
          refine q_iload_n C dX7_doInquire_45 rfl rfl ?_
          by_cases h_46 : S 113 (32 + 14 * m + 2 + o) ≠ 0
          · refine q_ci2 C (q_Fi.cv (if_pos h_46) (c_X7_isOf l S m (by omega) o (by omega))) myX7_isOf mlX7_66 q_s112 ⟨by decide, by decide⟩ (Nat.le_of_ble_eq_true rfl) dX7_doInquire_46 ?_
            refine q_if_ne (tgt := 73) C dX7_doInquire_49 (by decide) (fun _ => ?_) (fun h9 => absurd h9 (by decide))
            refine q_aload_n C dX7_doInquire_73 rfl rfl ?_
            refine q_iload_n C dX7_doInquire_74 rfl rfl ?_
            by_cases h_75 : S 113 (12 + g) = 1
            · refine q_ci1 C (q_Fi.cv (if_pos h_75) (c_X7_isAsleep l S g (by omega))) myX7_isAsleep mlX7_113 q_s112 ⟨by decide, by decide⟩ (Nat.le_of_ble_eq_true rfl) dX7_doInquire_75 ?_
              refine q_if_ne (tgt := 89) C dX7_doInquire_78 (by decide) (fun _ => ?_) (fun h9 => absurd h9 (by decide))
              refine q_aload_n C dX7_doInquire_89 rfl rfl ?_
              refine q_iconst (v := 3) C dX7_doInquire_90 (by decide) ?_
              refine q_iconst (v := 5) C dX7_doInquire_91 (by decide) ?_
              refine q_aload_n C dX7_doInquire_92 rfl rfl ?_
              refine q_iload_n C dX7_doInquire_93 rfl rfl ?_
              refine q_ci1 C (q_Fi.cv (if_pos h_75) (c_X7_isAsleep l S g (by omega))) myX7_isAsleep mlX7_113 q_s112 ⟨by decide, by decide⟩ (Nat.le_of_ble_eq_true rfl) dX7_doInquire_94 ?_
              refine q_if_eq (tgt := 104) C dX7_doInquire_97 (by decide) (fun h9 => absurd h9 (by decide)) (fun _ => ?_)
              refine q_iload_n C dX7_doInquire_100 rfl rfl ?_
              refine q_goto (tgt := 105) C dX7_doInquire_101 (by decide) ?_
              refine q_ci3 C (c_X7_refuse l S 3 5 (nI g)) myX7_refuse mlX7_77 q_s112 ⟨by decide, by decide⟩ (Nat.le_of_ble_eq_true rfl) dX7_doInquire_105 ?_
              exact hret _ _ _ _ dX7_doInquire_108 (by simp [uMd_inq, uM_out, uM_bad, uMr_inq, if_pos h_2, h_2, uN_nI (show m < 2 ^ 31 by omega), if_pos h_15, h_15, uN_nI (show g < 2 ^ 31 by omega), if_pos h_22, h_22, uN_nI (show o < 2 ^ 31 by omega), if_pos h_37, h_37, if_pos h_46, h_46, if_pos h_75, h_75]) (by simp [uMd_inq, uM_out, uM_bad, uMr_inq, if_pos h_2, h_2, uN_nI (show m < 2 ^ 31 by omega), if_pos h_15, h_15, uN_nI (show g < 2 ^ 31 by omega), if_pos h_22, h_22, uN_nI (show o < 2 ^ 31 by omega), if_pos h_37, h_37, if_pos h_46, h_46, if_pos h_75, h_75])
            · refine q_ci1 C (q_Fi.cv (if_neg h_75) (c_X7_isAsleep l S g (by omega))) myX7_isAsleep mlX7_113 q_s112 ⟨by decide, by decide⟩ (Nat.le_of_ble_eq_true rfl) dX7_doInquire_75 ?_
              refine q_if_ne (tgt := 89) C dX7_doInquire_78 (by decide) (fun h9 => absurd h9 (by decide)) (fun _ => ?_)
              refine q_aload_n C dX7_doInquire_81 rfl rfl ?_
              refine q_iload_n C dX7_doInquire_82 rfl rfl ?_
              by_cases h_83 : S 113 (12 + o) = 1
              · refine q_ci1 C (q_Fi.cv (if_pos h_83) (c_X7_isAsleep l S o (by omega))) myX7_isAsleep mlX7_113 q_s112 ⟨by decide, by decide⟩ (Nat.le_of_ble_eq_true rfl) dX7_doInquire_83 ?_
                refine q_if_eq (tgt := 109) C dX7_doInquire_86 (by decide) (fun h9 => absurd h9 (by decide)) (fun _ => ?_)
                refine q_aload_n C dX7_doInquire_89 rfl rfl ?_
                refine q_iconst (v := 3) C dX7_doInquire_90 (by decide) ?_
                refine q_iconst (v := 5) C dX7_doInquire_91 (by decide) ?_
                refine q_aload_n C dX7_doInquire_92 rfl rfl ?_
                refine q_iload_n C dX7_doInquire_93 rfl rfl ?_
                refine q_ci1 C (q_Fi.cv (if_neg h_75) (c_X7_isAsleep l S g (by omega))) myX7_isAsleep mlX7_113 q_s112 ⟨by decide, by decide⟩ (Nat.le_of_ble_eq_true rfl) dX7_doInquire_94 ?_
                refine q_if_eq (tgt := 104) C dX7_doInquire_97 (by decide) (fun _ => ?_) (fun h9 => absurd h9 (by decide))
                refine q_iload_n C dX7_doInquire_104 rfl rfl ?_
                refine q_ci3 C (c_X7_refuse l S 3 5 (nI o)) myX7_refuse mlX7_77 q_s112 ⟨by decide, by decide⟩ (Nat.le_of_ble_eq_true rfl) dX7_doInquire_105 ?_
                exact hret _ _ _ _ dX7_doInquire_108 (by simp [uMd_inq, uM_out, uM_bad, uMr_inq, if_pos h_2, h_2, uN_nI (show m < 2 ^ 31 by omega), if_pos h_15, h_15, uN_nI (show g < 2 ^ 31 by omega), if_pos h_22, h_22, uN_nI (show o < 2 ^ 31 by omega), if_pos h_37, h_37, if_pos h_46, h_46, if_neg h_75, h_75, if_pos h_83, h_83]) (by simp [uMd_inq, uM_out, uM_bad, uMr_inq, if_pos h_2, h_2, uN_nI (show m < 2 ^ 31 by omega), if_pos h_15, h_15, uN_nI (show g < 2 ^ 31 by omega), if_pos h_22, h_22, uN_nI (show o < 2 ^ 31 by omega), if_pos h_37, h_37, if_pos h_46, h_46, if_neg h_75, h_75, if_pos h_83, h_83])
              · refine q_ci1 C (q_Fi.cv (if_neg h_83) (c_X7_isAsleep l S o (by omega))) myX7_isAsleep mlX7_113 q_s112 ⟨by decide, by decide⟩ (Nat.le_of_ble_eq_true rfl) dX7_doInquire_83 ?_
                refine q_if_eq (tgt := 109) C dX7_doInquire_86 (by decide) (fun _ => ?_) (fun h9 => absurd h9 (by decide))
                refine q_aload_n C dX7_doInquire_109 rfl rfl ?_
                refine q_iload_n C dX7_doInquire_110 rfl rfl ?_
                refine q_iload_n C dX7_doInquire_111 rfl rfl ?_
                refine q_ci2 C (c_X7_answerOf l S m (by omega) g (by omega)) myX7_answerOf mlX7_70 q_s112 ⟨by decide, by decide⟩ (Nat.le_of_ble_eq_true rfl) dX7_doInquire_112 ?_
                refine q_iconst (v := 1) C dX7_doInquire_115 (by decide) ?_
                refine q_icmp_eq (tgt := 133) C dX7_doInquire_116 (by decide)  (fun c_116 => ?_) (fun c_116 => ?_)
                · refine q_aload_n C dX7_doInquire_133 rfl rfl ?_
                  refine q_iload_n C dX7_doInquire_134 rfl rfl ?_
                  refine q_iload_n C dX7_doInquire_135 rfl rfl ?_
                  refine q_ci2 C (c_X7_answerOf l S m (by omega) o (by omega)) myX7_answerOf mlX7_70 q_s112 ⟨by decide, by decide⟩ (Nat.le_of_ble_eq_true rfl) dX7_doInquire_136 ?_
                  refine q_istore (lv' := [(4, .int (S 113 (32 + 14 * m + 8 + o))), (0, .ref 112), (1, .int (nI m)), (2, .int (nI g)), (3, .int (nI o))]) C dX7_doInquire_139 (by decide) rfl ?_
                  refine q_iload C dX7_doInquire_141 rfl ?_
                  refine q_iconst (v := 1) C dX7_doInquire_143 (by decide) ?_
                  refine q_icmp_ne (tgt := 156) C dX7_doInquire_144 (by decide)  (fun c_144 => ?_) (fun c_144 => ?_)
                  · refine q_iload C dX7_doInquire_156 rfl ?_
                    refine q_iconst (v := 3) C dX7_doInquire_158 (by decide) ?_
                    refine q_icmp_ge (tgt := 169) C dX7_doInquire_159 (by decide)  (fun c_159 => ?_) (fun c_159 => ?_)
                    · refine q_aload_n C dX7_doInquire_169 rfl rfl ?_
                      refine q_iload_n C dX7_doInquire_170 rfl rfl ?_
                      refine q_iload_n C dX7_doInquire_171 rfl rfl ?_
                      refine q_iload C dX7_doInquire_172 rfl ?_
                      refine q_iconst (v := 3) C dX7_doInquire_174 (by decide) ?_
                      refine q_icmp_ne (tgt := 182) C dX7_doInquire_175 (by decide)  (fun c_175 => ?_) (fun c_175 => ?_)
                      · refine q_iconst (v := 0) C dX7_doInquire_182 (by decide) ?_
                        refine q_cv3 C (c_X7_hears0 l S m (by omega) g (by omega)) myX7_hears mlX7_133 q_s112 ⟨by decide, by decide⟩ (Nat.le_of_ble_eq_true rfl) dX7_doInquire_183 ?_
                        refine q_aload_n C dX7_doInquire_186 rfl rfl ?_
                        refine q_getR C flX7_9 q_s112 rfl dX7_doInquire_187 ?_
                        refine q_iconst (v := 3) C dX7_doInquire_190 (by decide) ?_
                        refine q_dup2 C rfl rfl dX7_doInquire_191 ?_
                        refine q_ialdN (i := 3) (x := S 113 3) C rfl q_s113 (by omega) (by decide) dX7_doInquire_192 (uM_hear0_3 _ m g (by omega)) ?_
                        refine q_iconst (v := 1) C dX7_doInquire_193 (by decide) ?_
                        refine q_iadd C dX7_doInquire_194 ?_
                        refine q_iastN (i := 3) C rfl q_s113 (by omega) (by decide) dX7_doInquire_195 ?_
                        refine q_aload_n C dX7_doInquire_196 rfl rfl ?_
                        refine q_iload_n C dX7_doInquire_197 rfl rfl ?_
                        refine q_iload_n C dX7_doInquire_198 rfl rfl ?_
                        refine q_ci2 C (c_X7_answerOf l (q_p (uM_hear0 S m g) 113 3 ((S 113 3) + 1)) m (by omega) g (by omega)) myX7_answerOf mlX7_70 q_s112 ⟨by decide, by decide⟩ (Nat.le_of_ble_eq_true rfl) dX7_doInquire_199 ?_
                        exact hret _ _ _ _ dX7_doInquire_202 (by simp [uMd_inq, uM_out, uMr_inq, uM_inq, if_pos h_2, h_2, uN_nI (show m < 2 ^ 31 by omega), if_pos h_15, h_15, uN_nI (show g < 2 ^ 31 by omega), if_pos h_22, h_22, uN_nI (show o < 2 ^ 31 by omega), if_pos h_37, h_37, if_pos h_46, h_46, if_neg h_75, h_75, if_neg h_83, h_83, c_116, c_144, c_159, Int32.not_lt.mpr c_159, if_neg (Int32.not_lt.mpr c_159), c_175]) (by simp [uMd_inq, uM_out, uMr_inq, uM_inq, if_pos h_2, h_2, uN_nI (show m < 2 ^ 31 by omega), if_pos h_15, h_15, uN_nI (show g < 2 ^ 31 by omega), if_pos h_22, h_22, uN_nI (show o < 2 ^ 31 by omega), if_pos h_37, h_37, if_pos h_46, h_46, if_neg h_75, h_75, if_neg h_83, h_83, c_116, c_144, c_159, Int32.not_lt.mpr c_159, if_neg (Int32.not_lt.mpr c_159), c_175])
                      · refine q_iconst (v := 1) C dX7_doInquire_178 (by decide) ?_
                        refine q_goto (tgt := 183) C dX7_doInquire_179 (by decide) ?_
                        refine q_cv3 C (c_X7_hears1 l S m (by omega) g (by omega)) myX7_hears mlX7_133 q_s112 ⟨by decide, by decide⟩ (Nat.le_of_ble_eq_true rfl) dX7_doInquire_183 ?_
                        refine q_aload_n C dX7_doInquire_186 rfl rfl ?_
                        refine q_getR C flX7_9 q_s112 rfl dX7_doInquire_187 ?_
                        refine q_iconst (v := 3) C dX7_doInquire_190 (by decide) ?_
                        refine q_dup2 C rfl rfl dX7_doInquire_191 ?_
                        refine q_ialdN (i := 3) (x := S 113 3) C rfl q_s113 (by omega) (by decide) dX7_doInquire_192 (uM_hear1_3 _ m g (by omega)) ?_
                        refine q_iconst (v := 1) C dX7_doInquire_193 (by decide) ?_
                        refine q_iadd C dX7_doInquire_194 ?_
                        refine q_iastN (i := 3) C rfl q_s113 (by omega) (by decide) dX7_doInquire_195 ?_
                        refine q_aload_n C dX7_doInquire_196 rfl rfl ?_
                        refine q_iload_n C dX7_doInquire_197 rfl rfl ?_
                        refine q_iload_n C dX7_doInquire_198 rfl rfl ?_
                        refine q_ci2 C (c_X7_answerOf l (q_p (uM_hear1 S m g) 113 3 ((S 113 3) + 1)) m (by omega) g (by omega)) myX7_answerOf mlX7_70 q_s112 ⟨by decide, by decide⟩ (Nat.le_of_ble_eq_true rfl) dX7_doInquire_199 ?_
                        exact hret _ _ _ _ dX7_doInquire_202 (by simp [uMd_inq, uM_out, uMr_inq, uM_inq, if_pos h_2, h_2, uN_nI (show m < 2 ^ 31 by omega), if_pos h_15, h_15, uN_nI (show g < 2 ^ 31 by omega), if_pos h_22, h_22, uN_nI (show o < 2 ^ 31 by omega), if_pos h_37, h_37, if_pos h_46, h_46, if_neg h_75, h_75, if_neg h_83, h_83, c_116, c_144, c_159, Int32.not_lt.mpr c_159, if_neg (Int32.not_lt.mpr c_159), c_175]) (by simp [uMd_inq, uM_out, uMr_inq, uM_inq, if_pos h_2, h_2, uN_nI (show m < 2 ^ 31 by omega), if_pos h_15, h_15, uN_nI (show g < 2 ^ 31 by omega), if_pos h_22, h_22, uN_nI (show o < 2 ^ 31 by omega), if_pos h_37, h_37, if_pos h_46, h_46, if_neg h_75, h_75, if_neg h_83, h_83, c_116, c_144, c_159, Int32.not_lt.mpr c_159, if_neg (Int32.not_lt.mpr c_159), c_175])
                    · refine q_aload_n C dX7_doInquire_162 rfl rfl ?_
                      refine q_iload_n C dX7_doInquire_163 rfl rfl ?_
                      refine q_iload_n C dX7_doInquire_164 rfl rfl ?_
                      refine q_iconst (v := 2) C dX7_doInquire_165 (by decide) ?_
                      refine q_cv3 C (c_X7_answers l S m (by omega) o (by omega) 2) myX7_answers mlX7_119 q_s112 ⟨by decide, by decide⟩ (Nat.le_of_ble_eq_true rfl) dX7_doInquire_166 ?_
                      refine q_aload_n C dX7_doInquire_169 rfl rfl ?_
                      refine q_iload_n C dX7_doInquire_170 rfl rfl ?_
                      refine q_iload_n C dX7_doInquire_171 rfl rfl ?_
                      refine q_iload C dX7_doInquire_172 rfl ?_
                      refine q_iconst (v := 3) C dX7_doInquire_174 (by decide) ?_
                      refine q_icmp_ne (tgt := 182) C dX7_doInquire_175 (by decide)  (fun c_175 => ?_) (fun c_175 => absurd (by rw [c_175] at c_159; exact c_159) (by decide))
                      refine q_iconst (v := 0) C dX7_doInquire_182 (by decide) ?_
                      refine q_cv3 C (c_X7_hears0 l (q_p S 113 (32 + 14 * m + 8 + o) 2) m (by omega) g (by omega)) myX7_hears mlX7_133 q_s112 ⟨by decide, by decide⟩ (Nat.le_of_ble_eq_true rfl) dX7_doInquire_183 ?_
                      refine q_aload_n C dX7_doInquire_186 rfl rfl ?_
                      refine q_getR C flX7_9 q_s112 rfl dX7_doInquire_187 ?_
                      refine q_iconst (v := 3) C dX7_doInquire_190 (by decide) ?_
                      refine q_dup2 C rfl rfl dX7_doInquire_191 ?_
                      refine q_ialdN (i := 3) (x := S 113 3) C rfl q_s113 (by omega) (by decide) dX7_doInquire_192 ((uM_hear0_3 _ m g (by omega)).trans (q_p_ne _ _ _ _ _ (by omega))) ?_
                      refine q_iconst (v := 1) C dX7_doInquire_193 (by decide) ?_
                      refine q_iadd C dX7_doInquire_194 ?_
                      refine q_iastN (i := 3) C rfl q_s113 (by omega) (by decide) dX7_doInquire_195 ?_
                      refine q_aload_n C dX7_doInquire_196 rfl rfl ?_
                      refine q_iload_n C dX7_doInquire_197 rfl rfl ?_
                      refine q_iload_n C dX7_doInquire_198 rfl rfl ?_
                      refine q_ci2 C (c_X7_answerOf l (q_p (uM_hear0 (q_p S 113 (32 + 14 * m + 8 + o) 2) m g) 113 3 ((S 113 3) + 1)) m (by omega) g (by omega)) myX7_answerOf mlX7_70 q_s112 ⟨by decide, by decide⟩ (Nat.le_of_ble_eq_true rfl) dX7_doInquire_199 ?_
                      exact hret _ _ _ _ dX7_doInquire_202 (by simp [uMd_inq, uM_out, uMr_inq, uM_inq, if_pos h_2, h_2, uN_nI (show m < 2 ^ 31 by omega), if_pos h_15, h_15, uN_nI (show g < 2 ^ 31 by omega), if_pos h_22, h_22, uN_nI (show o < 2 ^ 31 by omega), if_pos h_37, h_37, if_pos h_46, h_46, if_neg h_75, h_75, if_neg h_83, h_83, c_116, c_144, c_159, Int32.not_le.mpr c_159, if_pos c_159, c_175]) (by simp [uMd_inq, uM_out, uMr_inq, uM_inq, if_pos h_2, h_2, uN_nI (show m < 2 ^ 31 by omega), if_pos h_15, h_15, uN_nI (show g < 2 ^ 31 by omega), if_pos h_22, h_22, uN_nI (show o < 2 ^ 31 by omega), if_pos h_37, h_37, if_pos h_46, h_46, if_neg h_75, h_75, if_neg h_83, h_83, c_116, c_144, c_159, Int32.not_le.mpr c_159, if_pos c_159, c_175])
                  · refine q_aload_n C dX7_doInquire_147 rfl rfl ?_
                    refine q_iconst (v := 3) C dX7_doInquire_148 (by decide) ?_
                    refine q_bipush (v := 13) C dX7_doInquire_149 (by decide) ?_
                    refine q_iload_n C dX7_doInquire_151 rfl rfl ?_
                    refine q_ci3 C (c_X7_refuse l S 3 13 (nI o)) myX7_refuse mlX7_77 q_s112 ⟨by decide, by decide⟩ (Nat.le_of_ble_eq_true rfl) dX7_doInquire_152 ?_
                    exact hret _ _ _ _ dX7_doInquire_155 (by simp [uMd_inq, uM_out, uM_bad, uMr_inq, if_pos h_2, h_2, uN_nI (show m < 2 ^ 31 by omega), if_pos h_15, h_15, uN_nI (show g < 2 ^ 31 by omega), if_pos h_22, h_22, uN_nI (show o < 2 ^ 31 by omega), if_pos h_37, h_37, if_pos h_46, h_46, if_neg h_75, h_75, if_neg h_83, h_83, c_116, c_144]) (by simp [uMd_inq, uM_out, uM_bad, uMr_inq, if_pos h_2, h_2, uN_nI (show m < 2 ^ 31 by omega), if_pos h_15, h_15, uN_nI (show g < 2 ^ 31 by omega), if_pos h_22, h_22, uN_nI (show o < 2 ^ 31 by omega), if_pos h_37, h_37, if_pos h_46, h_46, if_neg h_75, h_75, if_neg h_83, h_83, c_116, c_144])
                · refine q_aload_n C dX7_doInquire_119 rfl rfl ?_
                  refine q_iconst (v := 3) C dX7_doInquire_120 (by decide) ?_
                  refine q_bipush (v := 12) C dX7_doInquire_121 (by decide) ?_
                  refine q_aload_n C dX7_doInquire_123 rfl rfl ?_
                  refine q_iload_n C dX7_doInquire_124 rfl rfl ?_
                  refine q_iload_n C dX7_doInquire_125 rfl rfl ?_
                  refine q_ci2 C (c_X7_answerOf l S m (by omega) g (by omega)) myX7_answerOf mlX7_70 q_s112 ⟨by decide, by decide⟩ (Nat.le_of_ble_eq_true rfl) dX7_doInquire_126 ?_
                  refine q_ci3 C (c_X7_refuse l S 3 12 (S 113 (32 + 14 * m + 8 + g))) myX7_refuse mlX7_77 q_s112 ⟨by decide, by decide⟩ (Nat.le_of_ble_eq_true rfl) dX7_doInquire_129 ?_
                  exact hret _ _ _ _ dX7_doInquire_132 (by simp [uMd_inq, uM_out, uM_bad, uMr_inq, if_pos h_2, h_2, uN_nI (show m < 2 ^ 31 by omega), if_pos h_15, h_15, uN_nI (show g < 2 ^ 31 by omega), if_pos h_22, h_22, uN_nI (show o < 2 ^ 31 by omega), if_pos h_37, h_37, if_pos h_46, h_46, if_neg h_75, h_75, if_neg h_83, h_83, c_116]) (by simp [uMd_inq, uM_out, uM_bad, uMr_inq, if_pos h_2, h_2, uN_nI (show m < 2 ^ 31 by omega), if_pos h_15, h_15, uN_nI (show g < 2 ^ 31 by omega), if_pos h_22, h_22, uN_nI (show o < 2 ^ 31 by omega), if_pos h_37, h_37, if_pos h_46, h_46, if_neg h_75, h_75, if_neg h_83, h_83, c_116])
          · refine q_ci2 C (q_Fi.cv (if_neg h_46) (c_X7_isOf l S m (by omega) o (by omega))) myX7_isOf mlX7_66 q_s112 ⟨by decide, by decide⟩ (Nat.le_of_ble_eq_true rfl) dX7_doInquire_46 ?_
            refine q_if_ne (tgt := 73) C dX7_doInquire_49 (by decide) (fun h9 => absurd h9 (by decide)) (fun _ => ?_)
            refine q_aload_n C dX7_doInquire_52 rfl rfl ?_
            refine q_iconst (v := 3) C dX7_doInquire_53 (by decide) ?_
            refine q_iconst (v := 4) C dX7_doInquire_54 (by decide) ?_
            refine q_aload_n C dX7_doInquire_55 rfl rfl ?_
            refine q_iload_n C dX7_doInquire_56 rfl rfl ?_
            refine q_iload_n C dX7_doInquire_57 rfl rfl ?_
            refine q_ci2 C (q_Fi.cv (if_pos h_37) (c_X7_isOf l S m (by omega) g (by omega))) myX7_isOf mlX7_66 q_s112 ⟨by decide, by decide⟩ (Nat.le_of_ble_eq_true rfl) dX7_doInquire_58 ?_
            refine q_if_eq (tgt := 68) C dX7_doInquire_61 (by decide) (fun h9 => absurd h9 (by decide)) (fun _ => ?_)
            refine q_iload_n C dX7_doInquire_64 rfl rfl ?_
            refine q_goto (tgt := 69) C dX7_doInquire_65 (by decide) ?_
            refine q_ci3 C (c_X7_refuse l S 3 4 (nI o)) myX7_refuse mlX7_77 q_s112 ⟨by decide, by decide⟩ (Nat.le_of_ble_eq_true rfl) dX7_doInquire_69 ?_
            exact hret _ _ _ _ dX7_doInquire_72 (by simp [uMd_inq, uM_out, uM_bad, uMr_inq, if_pos h_2, h_2, uN_nI (show m < 2 ^ 31 by omega), if_pos h_15, h_15, uN_nI (show g < 2 ^ 31 by omega), if_pos h_22, h_22, uN_nI (show o < 2 ^ 31 by omega), if_pos h_37, h_37, if_neg h_46, h_46, Decidable.not_not.mp h_46]) (by simp [uMd_inq, uM_out, uM_bad, uMr_inq, if_pos h_2, h_2, uN_nI (show m < 2 ^ 31 by omega), if_pos h_15, h_15, uN_nI (show g < 2 ^ 31 by omega), if_pos h_22, h_22, uN_nI (show o < 2 ^ 31 by omega), if_pos h_37, h_37, if_neg h_46, h_46, Decidable.not_not.mp h_46])
        · refine q_ci2 C (q_Fi.cv (if_neg h_37) (c_X7_isOf l S m (by omega) g (by omega))) myX7_isOf mlX7_66 q_s112 ⟨by decide, by decide⟩ (Nat.le_of_ble_eq_true rfl) dX7_doInquire_37 ?_
          refine q_if_eq (tgt := 52) C dX7_doInquire_40 (by decide) (fun _ => ?_) (fun h9 => absurd h9 (by decide))
          refine q_aload_n C dX7_doInquire_52 rfl rfl ?_
          refine q_iconst (v := 3) C dX7_doInquire_53 (by decide) ?_
          refine q_iconst (v := 4) C dX7_doInquire_54 (by decide) ?_
          refine q_aload_n C dX7_doInquire_55 rfl rfl ?_
          refine q_iload_n C dX7_doInquire_56 rfl rfl ?_
          refine q_iload_n C dX7_doInquire_57 rfl rfl ?_
          refine q_ci2 C (q_Fi.cv (if_neg h_37) (c_X7_isOf l S m (by omega) g (by omega))) myX7_isOf mlX7_66 q_s112 ⟨by decide, by decide⟩ (Nat.le_of_ble_eq_true rfl) dX7_doInquire_58 ?_
          refine q_if_eq (tgt := 68) C dX7_doInquire_61 (by decide) (fun _ => ?_) (fun h9 => absurd h9 (by decide))
          refine q_iload_n C dX7_doInquire_68 rfl rfl ?_
          refine q_ci3 C (c_X7_refuse l S 3 4 (nI g)) myX7_refuse mlX7_77 q_s112 ⟨by decide, by decide⟩ (Nat.le_of_ble_eq_true rfl) dX7_doInquire_69 ?_
          exact hret _ _ _ _ dX7_doInquire_72 (by simp [uMd_inq, uM_out, uM_bad, uMr_inq, if_pos h_2, h_2, uN_nI (show m < 2 ^ 31 by omega), if_pos h_15, h_15, uN_nI (show g < 2 ^ 31 by omega), if_pos h_22, h_22, uN_nI (show o < 2 ^ 31 by omega), if_neg h_37, h_37, Decidable.not_not.mp h_37]) (by simp [uMd_inq, uM_out, uM_bad, uMr_inq, if_pos h_2, h_2, uN_nI (show m < 2 ^ 31 by omega), if_pos h_15, h_15, uN_nI (show g < 2 ^ 31 by omega), if_pos h_22, h_22, uN_nI (show o < 2 ^ 31 by omega), if_neg h_37, h_37, Decidable.not_not.mp h_37])
      · refine q_si1 C (q_Fi.cv (if_neg h_22) (c_X7_isGuild l S z)) msX7_isGuild rfl mlX7_95 ⟨by decide, by decide⟩ (Nat.le_of_ble_eq_true rfl) dX7_doInquire_22 ?_
        refine q_if_ne (tgt := 34) C dX7_doInquire_25 (by decide) (fun h9 => absurd h9 (by decide)) (fun _ => ?_)
        refine q_aload_n C dX7_doInquire_28 rfl rfl ?_
        refine q_iconst (v := 2) C dX7_doInquire_29 (by decide) ?_
        refine q_ci1 C (c_X7_fails l S 2) myX7_fails mlX7_98 q_s112 ⟨by decide, by decide⟩ (Nat.le_of_ble_eq_true rfl) dX7_doInquire_30 ?_
        exact hret _ _ _ _ dX7_doInquire_33 (by simp [uMd_inq, uM_out, uM_bad, uMr_inq, if_pos h_2, h_2, uN_nI (show m < 2 ^ 31 by omega), if_pos h_15, h_15, uN_nI (show g < 2 ^ 31 by omega), if_neg h_22, h_22]) (by simp [uMd_inq, uM_out, uM_bad, uMr_inq, if_pos h_2, h_2, uN_nI (show m < 2 ^ 31 by omega), if_pos h_15, h_15, uN_nI (show g < 2 ^ 31 by omega), if_neg h_22, h_22])
    · refine q_si1 C (q_Fi.cv (if_neg h_15) (c_X7_isGuild l S y)) msX7_isGuild rfl mlX7_95 ⟨by decide, by decide⟩ (Nat.le_of_ble_eq_true rfl) dX7_doInquire_15 ?_
      refine q_if_eq (tgt := 28) C dX7_doInquire_18 (by decide) (fun _ => ?_) (fun h9 => absurd h9 (by decide))
      refine q_aload_n C dX7_doInquire_28 rfl rfl ?_
      refine q_iconst (v := 2) C dX7_doInquire_29 (by decide) ?_
      refine q_ci1 C (c_X7_fails l S 2) myX7_fails mlX7_98 q_s112 ⟨by decide, by decide⟩ (Nat.le_of_ble_eq_true rfl) dX7_doInquire_30 ?_
      exact hret _ _ _ _ dX7_doInquire_33 (by simp [uMd_inq, uM_out, uM_bad, uMr_inq, if_pos h_2, h_2, uN_nI (show m < 2 ^ 31 by omega), if_neg h_15, h_15]) (by simp [uMd_inq, uM_out, uM_bad, uMr_inq, if_pos h_2, h_2, uN_nI (show m < 2 ^ 31 by omega), if_neg h_15, h_15])
  · refine q_ci1 C (q_Fi.cv (if_neg h_2) (c_X7_isMatter l S M hM hM8 x)) myX7_isMatter mlX7_91 q_s112 ⟨by decide, by decide⟩ (Nat.le_of_ble_eq_true rfl) dX7_doInquire_2 ?_
    refine q_if_ne (tgt := 14) C dX7_doInquire_5 (by decide) (fun h9 => absurd h9 (by decide)) (fun _ => ?_)
    refine q_aload_n C dX7_doInquire_8 rfl rfl ?_
    refine q_iconst (v := 1) C dX7_doInquire_9 (by decide) ?_
    refine q_ci1 C (c_X7_fails l S 1) myX7_fails mlX7_98 q_s112 ⟨by decide, by decide⟩ (Nat.le_of_ble_eq_true rfl) dX7_doInquire_10 ?_
    exact hret _ _ _ _ dX7_doInquire_13 (by simp [uMd_inq, uM_out, uM_bad, uMr_inq, if_neg h_2, h_2]) (by simp [uMd_inq, uM_out, uM_bad, uMr_inq, if_neg h_2, h_2])
theorem c_X7_doPass (l : Launch) (S : q_St) (M : Nat) (hM : S 113 0 = nI M) (hM8 : M ≤ 8) (h : Int32) : q_Fi l yX7_doPass kX7_doPass 4 [.ref 112, .int h] S ((uMd_pass S M h).1) ((uMd_pass S M h).2) := by
  refine q_Fi_of (maxL := 5) rfl (by decide +kernel) (fun ad => Nat.le_of_ble_eq_true rfl) rfl ?_
  intro K C hret
  have C : q_Cx K cX7_doPass RX7 4 5 := C
  show q_V l K 0 [(0, .ref 112), (1, .int h)] [] S
  refine q_iload_n C dX7_doPass_0 rfl rfl ?_
  refine q_iconst (v := 1) C dX7_doPass_1 (by decide) ?_
  refine q_bipush (v := 24) C dX7_doPass_2 (by decide) ?_
  by_cases h_4 : 1 ≤ h ∧ h ≤ 24
  · refine q_si3 C (q_Fi.cv (if_pos h_4) (c_X7_in l S h 1 24)) msX7_in rfl mlX7_58 ⟨by decide, by decide⟩ (Nat.le_of_ble_eq_true rfl) dX7_doPass_4 ?_
    refine q_if_ne (tgt := 16) C dX7_doPass_7 (by decide) (fun _ => ?_) (fun h9 => absurd h9 (by decide))
    refine q_iconst (v := 0) C dX7_doPass_16 (by decide) ?_
    refine q_istore_n (lv' := [(2, .int 0), (0, .ref 112), (1, .int h)]) C dX7_doPass_17 rfl (by decide) rfl ?_
    refine q_iconst (v := 0) C dX7_doPass_18 (by decide) ?_
    refine q_istore_n (lv' := [(3, .int 0), (2, .int 0), (0, .ref 112), (1, .int h)]) C dX7_doPass_19 rfl (by decide) rfl ?_
    have loop_20 : ∀ (n_20 i_20 : Nat), i_20 + n_20 = 6 → q_V l K 20 [(0, .ref 112), (1, .int h), (2, .int (q_sum (uM_psf S M h) i_20)), (3, .int (nI i_20))] [] (uM_ps S M h i_20) := by
      intro n_20
      induction n_20 with
      | zero =>
        intro i_20 hi_20
        have e_20 : i_20 = 6 := by omega
        refine q_iload_n C dX7_doPass_20 rfl rfl ?_
        refine q_bipush (v := 6) C dX7_doPass_21 (by decide) ?_
        refine q_icmp_geN (a := i_20) (b := 6) (tgt := 66) C dX7_doPass_23 (by decide) rfl rfl (by omega) (by omega) (fun c_23 => ?_) (fun c_23 => absurd c_23 (by omega))
        refine q_aload_n C dX7_doPass_66 rfl rfl ?_
        refine q_getR C flX7_9 q_s112 rfl dX7_doPass_67 ?_
        refine q_iconst (v := 2) C dX7_doPass_70 (by decide) ?_
        refine q_dup2 C rfl rfl dX7_doPass_71 ?_
        refine q_ialdN (i := 2) (x := S 113 2) C rfl q_s113 (by omega) (by decide) dX7_doPass_72 (uM_ps_at S M h 2 _ (by omega)) ?_
        refine q_iload_n C dX7_doPass_73 rfl rfl ?_
        refine q_iadd C dX7_doPass_74 ?_
        refine q_iastN (i := 2) C rfl q_s113 (by omega) (by decide) dX7_doPass_75 ?_
        refine q_iload_n C dX7_doPass_76 rfl rfl ?_
        exact hret _ _ _ _ dX7_doPass_77 (by rw [e_20]; simp [uMd_pass, if_pos h_4, h_4, c_23, Nat.not_lt.mpr c_23]) (by rw [e_20]; simp [uMd_pass, uM_pass, if_pos h_4, h_4, c_23, Nat.not_lt.mpr c_23])
      | succ n_20 ih_20 =>
        intro i_20 hi_20
        refine q_iload_n C dX7_doPass_20 rfl rfl ?_
        refine q_bipush (v := 6) C dX7_doPass_21 (by decide) ?_
        refine q_icmp_geN (a := i_20) (b := 6) (tgt := 66) C dX7_doPass_23 (by decide) rfl rfl (by omega) (by omega) (fun c_23 => absurd c_23 (by omega)) (fun c_23 => ?_)
        refine q_aload_n C dX7_doPass_26 rfl rfl ?_
        refine q_iload_n C dX7_doPass_27 rfl rfl ?_
        have t_28 : uM_doubt (uM_ps S M h i_20) M i_20 = uM_doubt S M i_20 := uM_doubt_cg i_20 (by omega) (fun j hj => uM_ps_at S M h j _ (by omega))
        have t_29 : (uM_ps S M h i_20) 113 0 = nI M := (uM_ps_at S M h 0 _ (by omega)).trans hM
        have t_50 : (uM_ps S M h i_20) 113 (18 + i_20) = S 113 (18 + i_20) := uM_ps_at S M h _ _ (by omega)
        refine q_ci1 C (q_Fi.cv t_28 (c_X7_doubtOf l (uM_ps S M h i_20) M t_29 hM8 i_20 (by omega))) myX7_doubtOf mlX7_107 q_s112 ⟨by decide, by decide⟩ (Nat.le_of_ble_eq_true rfl) dX7_doPass_28 ?_
        refine q_if_ge (tgt := 38) C dX7_doPass_31 (by decide)  (fun c_31 => ?_) (fun c_31 => ?_)
        · refine q_iload_n C dX7_doPass_38 rfl rfl ?_
          refine q_istore (lv' := [(4, .int h), (0, .ref 112), (1, .int h), (2, .int (q_sum (uM_psf S M h) i_20)), (3, .int (nI i_20))]) C dX7_doPass_39 (by decide) rfl ?_
          refine q_aload_n C dX7_doPass_41 rfl rfl ?_
          refine q_getR C flX7_9 q_s112 rfl dX7_doPass_42 ?_
          refine q_bipush (v := 18) C dX7_doPass_45 (by decide) ?_
          refine q_iload_n C dX7_doPass_47 rfl rfl ?_
          refine q_iaddN (a := 18) (b := i_20) C dX7_doPass_48 rfl rfl ?_
          refine q_dup2 C rfl rfl dX7_doPass_49 ?_
          refine q_ialdN (i := 18 + i_20) (x := S 113 (18 + i_20)) C rfl q_s113 (by omega) (by decide) dX7_doPass_50 t_50 ?_
          refine q_iload C dX7_doPass_51 rfl ?_
          refine q_iadd C dX7_doPass_53 ?_
          refine q_iastN (i := 18 + i_20) C rfl q_s113 (by omega) (by decide) dX7_doPass_54 ?_
          refine q_iload_n C dX7_doPass_55 rfl rfl ?_
          refine q_iload C dX7_doPass_56 rfl ?_
          refine q_iadd C dX7_doPass_58 ?_
          refine q_istore_n (lv' := [(2, .int ((q_sum (uM_psf S M h) i_20) + h)), (4, .int h), (0, .ref 112), (1, .int h), (3, .int (nI i_20))]) C dX7_doPass_59 rfl (by decide) rfl ?_
          refine q_iinc (v := nI (i_20 + 1)) (lv' := [(3, .int (nI (i_20 + 1))), (2, .int ((q_sum (uM_psf S M h) i_20) + h)), (4, .int h), (0, .ref 112), (1, .int h)]) C dX7_doPass_60 rfl (nI_add _ _) (by decide) rfl ?_
          refine q_goto (tgt := 20) C dX7_doPass_63 (by decide) ?_
          exact q_V_to (ih_20 (i_20 + 1) (by omega)) ⟨rfl, rfl, q_iv (by simp [q_sum, uM_psf, if_pos h_4, h_4, c_23, Nat.not_le.mpr c_23, c_31, Int32.not_lt.mpr c_31, if_neg (Int32.not_lt.mpr c_31)]), rfl, trivial⟩ (by simp [uM_ps, uM_psf, if_pos h_4, h_4, c_23, Nat.not_le.mpr c_23, c_31, Int32.not_lt.mpr c_31, if_neg (Int32.not_lt.mpr c_31)])
        · refine q_iconst (v := 0) C dX7_doPass_34 (by decide) ?_
          refine q_goto (tgt := 39) C dX7_doPass_35 (by decide) ?_
          refine q_istore (lv' := [(4, .int 0), (0, .ref 112), (1, .int h), (2, .int (q_sum (uM_psf S M h) i_20)), (3, .int (nI i_20))]) C dX7_doPass_39 (by decide) rfl ?_
          refine q_aload_n C dX7_doPass_41 rfl rfl ?_
          refine q_getR C flX7_9 q_s112 rfl dX7_doPass_42 ?_
          refine q_bipush (v := 18) C dX7_doPass_45 (by decide) ?_
          refine q_iload_n C dX7_doPass_47 rfl rfl ?_
          refine q_iaddN (a := 18) (b := i_20) C dX7_doPass_48 rfl rfl ?_
          refine q_dup2 C rfl rfl dX7_doPass_49 ?_
          refine q_ialdN (i := 18 + i_20) (x := S 113 (18 + i_20)) C rfl q_s113 (by omega) (by decide) dX7_doPass_50 t_50 ?_
          refine q_iload C dX7_doPass_51 rfl ?_
          refine q_iadd C dX7_doPass_53 ?_
          refine q_iastN (i := 18 + i_20) C rfl q_s113 (by omega) (by decide) dX7_doPass_54 ?_
          refine q_iload_n C dX7_doPass_55 rfl rfl ?_
          refine q_iload C dX7_doPass_56 rfl ?_
          refine q_iadd C dX7_doPass_58 ?_
          refine q_istore_n (lv' := [(2, .int ((q_sum (uM_psf S M h) i_20) + 0)), (4, .int 0), (0, .ref 112), (1, .int h), (3, .int (nI i_20))]) C dX7_doPass_59 rfl (by decide) rfl ?_
          refine q_iinc (v := nI (i_20 + 1)) (lv' := [(3, .int (nI (i_20 + 1))), (2, .int ((q_sum (uM_psf S M h) i_20) + 0)), (4, .int 0), (0, .ref 112), (1, .int h)]) C dX7_doPass_60 rfl (nI_add _ _) (by decide) rfl ?_
          refine q_goto (tgt := 20) C dX7_doPass_63 (by decide) ?_
          exact q_V_to (ih_20 (i_20 + 1) (by omega)) ⟨rfl, rfl, q_iv (by simp [q_sum, uM_psf, if_pos h_4, h_4, c_23, Nat.not_le.mpr c_23, c_31, Int32.not_le.mpr c_31, if_pos c_31]), rfl, trivial⟩ (by simp [uM_ps, uM_psf, if_pos h_4, h_4, c_23, Nat.not_le.mpr c_23, c_31, Int32.not_le.mpr c_31, if_pos c_31])
    exact q_V_to (loop_20 (6 - 0) 0 (by omega)) ⟨rfl, rfl, rfl, rfl, trivial⟩ rfl
  · refine q_si3 C (q_Fi.cv (if_neg h_4) (c_X7_in l S h 1 24)) msX7_in rfl mlX7_58 ⟨by decide, by decide⟩ (Nat.le_of_ble_eq_true rfl) dX7_doPass_4 ?_
    refine q_if_ne (tgt := 16) C dX7_doPass_7 (by decide) (fun h9 => absurd h9 (by decide)) (fun _ => ?_)
    refine q_aload_n C dX7_doPass_10 rfl rfl ?_
    refine q_iconst (v := 1) C dX7_doPass_11 (by decide) ?_
    refine q_ci1 C (c_X7_fails l S 1) myX7_fails mlX7_98 q_s112 ⟨by decide, by decide⟩ (Nat.le_of_ble_eq_true rfl) dX7_doPass_12 ?_
    exact hret _ _ _ _ dX7_doPass_15 (by simp [uMd_pass, uM_out, uM_bad, if_neg h_4, h_4]) (by simp [uMd_pass, uM_out, uM_bad, if_neg h_4, h_4])
