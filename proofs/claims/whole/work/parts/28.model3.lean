theorem c_X7_matterOf (l : Launch) (S : q_St) (M : Nat) (hM : S 113 0 = nI M) (hM8 : M ≤ 8) (x : Int32) (v : Int32) : q_Fi l yX7_matterOf kX7_matterOf 4 [.ref 112, .int x, .int v] S ((uMq_matterOf S M x v).1) ((uMq_matterOf S M x v).2) := by
  refine q_Fi_of (maxL := 5) rfl (by decide +kernel) (fun ad => Nat.le_of_ble_eq_true rfl) rfl ?_
  intro K C hret
  have C : q_Cx K cX7_matterOf RX7 4 5 := C
  show q_V l K 0 [(0, .ref 112), (1, .int x), (2, .int v)] [] S
  refine q_aload_n C dX7_matterOf_0 rfl rfl ?_
  refine q_aload_n C dX7_matterOf_1 rfl rfl ?_
  refine q_iload_n C dX7_matterOf_2 rfl rfl ?_
  by_cases h_3 : 0 ≤ x ∧ x < nI M
  · refine q_ci1 C (q_Fi.cv (if_pos h_3) (c_X7_isMatter l S M hM hM8 x)) myX7_isMatter mlX7_91 q_s112 ⟨by decide, by decide⟩ (Nat.le_of_ble_eq_true rfl) dX7_matterOf_3 ?_
    obtain ⟨m, hmM, rfl⟩ := uK_okM (X := nI M) rfl hM8 h_3
    refine q_if_ne (tgt := 13) C dX7_matterOf_6 (by decide) (fun _ => ?_) (fun h9 => absurd h9 (by decide))
    refine q_iload_n C dX7_matterOf_13 rfl rfl ?_
    refine q_iconst (v := 0) C dX7_matterOf_14 (by decide) ?_
    refine q_bipush (v := 7) C dX7_matterOf_15 (by decide) ?_
    by_cases h_17 : 0 ≤ v ∧ v ≤ 7
    · refine q_si3 C (q_Fi.cv (if_pos h_17) (c_X7_in l S v 0 7)) msX7_in rfl mlX7_58 ⟨by decide, by decide⟩ (Nat.le_of_ble_eq_true rfl) dX7_matterOf_17 ?_
      obtain ⟨w, hw9, rfl⟩ := uM_okK (M := 8) rfl (by omega) h_17
      refine q_if_ne (tgt := 27) C dX7_matterOf_20 (by decide) (fun _ => ?_) (fun h9 => absurd h9 (by decide))
      refine q_iconst (v := 0) C dX7_matterOf_27 (by decide) ?_
      refine q_put (ty9 := .int) C flX7_36 q_s112 rfl (fun _ _ _ h => by cases h; exact ⟨rfl, by decide +kernel⟩) rfl rfl dX7_matterOf_28 ?_
      refine q_aload_n C dX7_matterOf_31 rfl rfl ?_
      refine q_getI (x := 0) C flX7_36 q_s112 rfl dX7_matterOf_32 rfl ?_
      refine q_if_le (tgt := 40) C dX7_matterOf_35 (by decide) (fun _ => ?_) (fun h9 => absurd h9 (by decide))
      refine q_iload_n C dX7_matterOf_40 rfl rfl ?_
      rcases (show w = 0 ∨ w = 1 ∨ w = 2 ∨ w = 3 ∨ w = 4 ∨ w = 5 ∨ w = 6 ∨ 7 ≤ w by omega) with rfl | rfl | rfl | rfl | rfl | rfl | rfl | h_41
      · refine q_tabin (off := 43) (tgt := 84) C dX7_matterOf_41 (by decide) (by decide) (by decide) (by decide) ?_
        refine q_aload_n C dX7_matterOf_84 rfl rfl ?_
        refine q_iload_n C dX7_matterOf_85 rfl rfl ?_
        refine q_ci1 C (q_Fi.cv (v' := S 113 (32 + 14 * m)) rfl (c_X7_how l (q_p S 112 6 0) m (by omega))) myX7_how mlX7_73 q_s112 ⟨by decide, by decide⟩ (Nat.le_of_ble_eq_true rfl) dX7_matterOf_86 ?_
        exact hret _ _ _ _ dX7_matterOf_89 (by first | (simp [uMq_matterOf, uM_bad, if_pos h_3, h_3, uN_nI (show m < 2 ^ 31 by omega), if_pos h_17, h_17, uN_nI (show 0 < 2 ^ 31 by omega)]; done) | (simp [uMq_matterOf, uM_bad, if_pos h_3, h_3, uN_nI (show m < 2 ^ 31 by omega), if_pos h_17, h_17, uN_nI (show 0 < 2 ^ 31 by omega)]; rfl)) (by simp [uMq_matterOf, uM_bad, if_pos h_3, h_3, uN_nI (show m < 2 ^ 31 by omega), if_pos h_17, h_17, uN_nI (show 0 < 2 ^ 31 by omega)])
      · refine q_tabin (off := 49) (tgt := 90) C dX7_matterOf_41 (by decide) (by decide) (by decide) (by decide) ?_
        refine q_aload_n C dX7_matterOf_90 rfl rfl ?_
        refine q_iload_n C dX7_matterOf_91 rfl rfl ?_
        refine q_iconst (v := 0) C dX7_matterOf_92 (by decide) ?_
        refine q_iconst (v := 4) C dX7_matterOf_93 (by decide) ?_
        refine q_ci3 C (q_Fi.cv (v' := uM_cnt S m 0 4) rfl (c_X7_count l (q_p S 112 6 0) m (by omega) 0 4)) myX7_count mlX7_101 q_s112 ⟨by decide, by decide⟩ (Nat.le_of_ble_eq_true rfl) dX7_matterOf_94 ?_
        exact hret _ _ _ _ dX7_matterOf_97 (by first | (simp [uMq_matterOf, uM_bad, if_pos h_3, h_3, uN_nI (show m < 2 ^ 31 by omega), if_pos h_17, h_17, uN_nI (show 1 < 2 ^ 31 by omega)]; done) | (simp [uMq_matterOf, uM_bad, if_pos h_3, h_3, uN_nI (show m < 2 ^ 31 by omega), if_pos h_17, h_17, uN_nI (show 1 < 2 ^ 31 by omega)]; rfl)) (by simp [uMq_matterOf, uM_bad, if_pos h_3, h_3, uN_nI (show m < 2 ^ 31 by omega), if_pos h_17, h_17, uN_nI (show 1 < 2 ^ 31 by omega)])
      · refine q_tabin (off := 57) (tgt := 98) C dX7_matterOf_41 (by decide) (by decide) (by decide) (by decide) ?_
        refine q_aload_n C dX7_matterOf_98 rfl rfl ?_
        refine q_iload_n C dX7_matterOf_99 rfl rfl ?_
        refine q_iconst (v := 1) C dX7_matterOf_100 (by decide) ?_
        refine q_iconst (v := 4) C dX7_matterOf_101 (by decide) ?_
        refine q_ci3 C (q_Fi.cv (v' := uM_cnt S m 1 4) rfl (c_X7_count l (q_p S 112 6 0) m (by omega) 1 4)) myX7_count mlX7_101 q_s112 ⟨by decide, by decide⟩ (Nat.le_of_ble_eq_true rfl) dX7_matterOf_102 ?_
        exact hret _ _ _ _ dX7_matterOf_105 (by first | (simp [uMq_matterOf, uM_bad, if_pos h_3, h_3, uN_nI (show m < 2 ^ 31 by omega), if_pos h_17, h_17, uN_nI (show 2 < 2 ^ 31 by omega)]; done) | (simp [uMq_matterOf, uM_bad, if_pos h_3, h_3, uN_nI (show m < 2 ^ 31 by omega), if_pos h_17, h_17, uN_nI (show 2 < 2 ^ 31 by omega)]; rfl)) (by simp [uMq_matterOf, uM_bad, if_pos h_3, h_3, uN_nI (show m < 2 ^ 31 by omega), if_pos h_17, h_17, uN_nI (show 2 < 2 ^ 31 by omega)])
      · refine q_tabin (off := 65) (tgt := 106) C dX7_matterOf_41 (by decide) (by decide) (by decide) (by decide) ?_
        refine q_aload_n C dX7_matterOf_106 rfl rfl ?_
        refine q_iload_n C dX7_matterOf_107 rfl rfl ?_
        refine q_iconst (v := 1) C dX7_matterOf_108 (by decide) ?_
        refine q_iconst (v := 1) C dX7_matterOf_109 (by decide) ?_
        refine q_ci3 C (q_Fi.cv (v' := uM_cnt S m 1 1) rfl (c_X7_count l (q_p S 112 6 0) m (by omega) 1 1)) myX7_count mlX7_101 q_s112 ⟨by decide, by decide⟩ (Nat.le_of_ble_eq_true rfl) dX7_matterOf_110 ?_
        exact hret _ _ _ _ dX7_matterOf_113 (by first | (simp [uMq_matterOf, uM_bad, if_pos h_3, h_3, uN_nI (show m < 2 ^ 31 by omega), if_pos h_17, h_17, uN_nI (show 3 < 2 ^ 31 by omega)]; done) | (simp [uMq_matterOf, uM_bad, if_pos h_3, h_3, uN_nI (show m < 2 ^ 31 by omega), if_pos h_17, h_17, uN_nI (show 3 < 2 ^ 31 by omega)]; rfl)) (by simp [uMq_matterOf, uM_bad, if_pos h_3, h_3, uN_nI (show m < 2 ^ 31 by omega), if_pos h_17, h_17, uN_nI (show 3 < 2 ^ 31 by omega)])
      · refine q_tabin (off := 73) (tgt := 114) C dX7_matterOf_41 (by decide) (by decide) (by decide) (by decide) ?_
        refine q_aload_n C dX7_matterOf_114 rfl rfl ?_
        refine q_iload_n C dX7_matterOf_115 rfl rfl ?_
        refine q_iconst (v := 2) C dX7_matterOf_116 (by decide) ?_
        refine q_iconst (v := 2) C dX7_matterOf_117 (by decide) ?_
        refine q_ci3 C (q_Fi.cv (v' := uM_cnt S m 2 2) rfl (c_X7_count l (q_p S 112 6 0) m (by omega) 2 2)) myX7_count mlX7_101 q_s112 ⟨by decide, by decide⟩ (Nat.le_of_ble_eq_true rfl) dX7_matterOf_118 ?_
        exact hret _ _ _ _ dX7_matterOf_121 (by first | (simp [uMq_matterOf, uM_bad, if_pos h_3, h_3, uN_nI (show m < 2 ^ 31 by omega), if_pos h_17, h_17, uN_nI (show 4 < 2 ^ 31 by omega)]; done) | (simp [uMq_matterOf, uM_bad, if_pos h_3, h_3, uN_nI (show m < 2 ^ 31 by omega), if_pos h_17, h_17, uN_nI (show 4 < 2 ^ 31 by omega)]; rfl)) (by simp [uMq_matterOf, uM_bad, if_pos h_3, h_3, uN_nI (show m < 2 ^ 31 by omega), if_pos h_17, h_17, uN_nI (show 4 < 2 ^ 31 by omega)])
      · refine q_tabin (off := 81) (tgt := 122) C dX7_matterOf_41 (by decide) (by decide) (by decide) (by decide) ?_
        refine q_aload_n C dX7_matterOf_122 rfl rfl ?_
        refine q_iload_n C dX7_matterOf_123 rfl rfl ?_
        refine q_iconst (v := 3) C dX7_matterOf_124 (by decide) ?_
        refine q_iconst (v := 4) C dX7_matterOf_125 (by decide) ?_
        refine q_ci3 C (q_Fi.cv (v' := uM_cnt S m 3 4) rfl (c_X7_count l (q_p S 112 6 0) m (by omega) 3 4)) myX7_count mlX7_101 q_s112 ⟨by decide, by decide⟩ (Nat.le_of_ble_eq_true rfl) dX7_matterOf_126 ?_
        exact hret _ _ _ _ dX7_matterOf_129 (by first | (simp [uMq_matterOf, uM_bad, if_pos h_3, h_3, uN_nI (show m < 2 ^ 31 by omega), if_pos h_17, h_17, uN_nI (show 5 < 2 ^ 31 by omega)]; done) | (simp [uMq_matterOf, uM_bad, if_pos h_3, h_3, uN_nI (show m < 2 ^ 31 by omega), if_pos h_17, h_17, uN_nI (show 5 < 2 ^ 31 by omega)]; rfl)) (by simp [uMq_matterOf, uM_bad, if_pos h_3, h_3, uN_nI (show m < 2 ^ 31 by omega), if_pos h_17, h_17, uN_nI (show 5 < 2 ^ 31 by omega)])
      · refine q_tabin (off := 89) (tgt := 130) C dX7_matterOf_41 (by decide) (by decide) (by decide) (by decide) ?_
        refine q_iconst (v := 0) C dX7_matterOf_130 (by decide) ?_
        refine q_istore_n (lv' := [(3, .int 0), (0, .ref 112), (1, .int (nI m)), (2, .int (nI 6))]) C dX7_matterOf_131 rfl (by decide) rfl ?_
        refine q_iconst (v := 0) C dX7_matterOf_132 (by decide) ?_
        refine q_istore (lv' := [(4, .int 0), (3, .int 0), (0, .ref 112), (1, .int (nI m)), (2, .int (nI 6))]) C dX7_matterOf_133 (by decide) rfl ?_
        have loop_135 : ∀ (n_135 i_135 : Nat), i_135 + n_135 = 6 → q_V l K 135 [(0, .ref 112), (1, .int (nI m)), (2, .int (nI 6)), (3, .int (q_sum (fun g => S 113 (32 + 14 * m + 2 + g)) i_135)), (4, .int (nI i_135))] [] (q_p S 112 6 0) := by
          intro n_135
          induction n_135 with
          | zero =>
            intro i_135 hi_135
            have e_135 : i_135 = 6 := by omega
            refine q_iload C dX7_matterOf_135 rfl ?_
            refine q_bipush (v := 6) C dX7_matterOf_137 (by decide) ?_
            refine q_icmp_geN (a := i_135) (b := 6) (tgt := 158) C dX7_matterOf_139 (by decide) rfl rfl (by omega) (by omega) (fun c_139 => ?_) (fun c_139 => absurd c_139 (by omega))
            refine q_iload_n C dX7_matterOf_158 rfl rfl ?_
            exact hret _ _ _ _ dX7_matterOf_159 (by rw [e_135]; simp [uMq_matterOf, if_pos h_3, h_3, uN_nI (show m < 2 ^ 31 by omega), if_pos h_17, h_17, uN_nI (show 6 < 2 ^ 31 by omega), c_139, Nat.not_lt.mpr c_139]; rfl) (by simp [uMq_matterOf, uM_bad, if_pos h_3, h_3, uN_nI (show m < 2 ^ 31 by omega), if_pos h_17, h_17, uN_nI (show 6 < 2 ^ 31 by omega), c_139, Nat.not_lt.mpr c_139])
          | succ n_135 ih_135 =>
            intro i_135 hi_135
            refine q_iload C dX7_matterOf_135 rfl ?_
            refine q_bipush (v := 6) C dX7_matterOf_137 (by decide) ?_
            refine q_icmp_geN (a := i_135) (b := 6) (tgt := 158) C dX7_matterOf_139 (by decide) rfl rfl (by omega) (by omega) (fun c_139 => absurd c_139 (by omega)) (fun c_139 => ?_)
            refine q_iload_n C dX7_matterOf_142 rfl rfl ?_
            refine q_aload_n C dX7_matterOf_143 rfl rfl ?_
            refine q_iload_n C dX7_matterOf_144 rfl rfl ?_
            refine q_iload C dX7_matterOf_145 rfl ?_
            refine q_ci2 C (q_Fi.cv (v' := S 113 (32 + 14 * m + 2 + i_135)) rfl (c_X7_amountOf l (q_p S 112 6 0) m (by omega) i_135 (by omega))) myX7_amountOf mlX7_62 q_s112 ⟨by decide, by decide⟩ (Nat.le_of_ble_eq_true rfl) dX7_matterOf_147 ?_
            refine q_iadd C dX7_matterOf_150 ?_
            refine q_istore_n (lv' := [(3, .int ((q_sum (fun g => S 113 (32 + 14 * m + 2 + g)) i_135) + (S 113 (32 + 14 * m + 2 + i_135)))), (0, .ref 112), (1, .int (nI m)), (2, .int (nI 6)), (4, .int (nI i_135))]) C dX7_matterOf_151 rfl (by decide) rfl ?_
            refine q_iinc (v := nI (i_135 + 1)) (lv' := [(4, .int (nI (i_135 + 1))), (3, .int ((q_sum (fun g => S 113 (32 + 14 * m + 2 + g)) i_135) + (S 113 (32 + 14 * m + 2 + i_135)))), (0, .ref 112), (1, .int (nI m)), (2, .int (nI 6))]) C dX7_matterOf_152 rfl (nI_add _ _) (by decide) rfl ?_
            refine q_goto (tgt := 135) C dX7_matterOf_155 (by decide) ?_
            exact q_V_to (ih_135 (i_135 + 1) (by omega)) ⟨rfl, rfl, rfl, q_iv (by simp [q_sum, q_sum, if_pos h_3, h_3, uN_nI (show m < 2 ^ 31 by omega), if_pos h_17, h_17, uN_nI (show 6 < 2 ^ 31 by omega), c_139, Nat.not_le.mpr c_139]), rfl, trivial⟩ rfl
        exact q_V_to (loop_135 (6 - 0) 0 (by omega)) ⟨rfl, rfl, rfl, rfl, rfl, trivial⟩ rfl
      · refine q_tabout (tgt := 160) C dX7_matterOf_41 (Or.inr (by rw [nI_toInt (by omega)]; omega)) (by decide) ?_
        refine q_aload_n C dX7_matterOf_160 rfl rfl ?_
        refine q_getR C flX7_9 q_s112 rfl dX7_matterOf_161 ?_
        refine q_bipush (v := 32) C dX7_matterOf_164 (by decide) ?_
        refine q_bipush (v := 14) C dX7_matterOf_166 (by decide) ?_
        refine q_iload_n C dX7_matterOf_168 rfl rfl ?_
        refine q_imulN (a := 14) (b := m) C dX7_matterOf_169 rfl rfl ?_
        refine q_iaddN (a := 32) (b := 14 * m) C dX7_matterOf_170 rfl rfl ?_
        refine q_iconst (v := 1) C dX7_matterOf_171 (by decide) ?_
        refine q_iaddN (a := 32 + (14 * m)) (b := 1) C dX7_matterOf_172 rfl rfl ?_
        refine q_ialdN (i := 32 + (14 * m) + 1) (x := S 113 (32 + (14 * m) + 1)) C rfl q_s113 (by omega) (by decide) dX7_matterOf_173 rfl ?_
        exact hret _ _ _ _ dX7_matterOf_174 (by have e9 : w = 7 := by {omega}; subst e9; first | (simp [uMq_matterOf, uM_bad, if_pos h_3, h_3, uN_nI (show m < 2 ^ 31 by omega), if_pos h_17, h_17, uN_nI (show 7 < 2 ^ 31 by omega), h_41]; done) | (simp [uMq_matterOf, uM_bad, if_pos h_3, h_3, uN_nI (show m < 2 ^ 31 by omega), if_pos h_17, h_17, uN_nI (show 7 < 2 ^ 31 by omega), h_41]; rfl)) (by have e9 : w = 7 := by {omega}; subst e9; simp [uMq_matterOf, uM_bad, if_pos h_3, h_3, uN_nI (show m < 2 ^ 31 by omega), if_pos h_17, h_17, uN_nI (show 7 < 2 ^ 31 by omega), h_41])
    · refine q_si3 C (q_Fi.cv (if_neg h_17) (c_X7_in l S v 0 7)) msX7_in rfl mlX7_58 ⟨by decide, by decide⟩ (Nat.le_of_ble_eq_true rfl) dX7_matterOf_17 ?_
      refine q_if_ne (tgt := 27) C dX7_matterOf_20 (by decide) (fun h9 => absurd h9 (by decide)) (fun _ => ?_)
      refine q_iconst (v := 2) C dX7_matterOf_23 (by decide) ?_
      refine q_goto (tgt := 28) C dX7_matterOf_24 (by decide) ?_
      refine q_put (ty9 := .int) C flX7_36 q_s112 rfl (fun _ _ _ h => by cases h; exact ⟨rfl, by decide +kernel⟩) rfl rfl dX7_matterOf_28 ?_
      refine q_aload_n C dX7_matterOf_31 rfl rfl ?_
      refine q_getI (x := 2) C flX7_36 q_s112 rfl dX7_matterOf_32 rfl ?_
      refine q_if_le (tgt := 40) C dX7_matterOf_35 (by decide) (fun h9 => absurd h9 (by decide)) (fun _ => ?_)
      refine q_iconst (v := 0) C dX7_matterOf_38 (by decide) ?_
      exact hret _ _ _ _ dX7_matterOf_39 (by first | (simp [uMq_matterOf, uM_bad, if_pos h_3, h_3, uN_nI (show m < 2 ^ 31 by omega), if_neg h_17, h_17]; done) | (simp [uMq_matterOf, uM_bad, if_pos h_3, h_3, uN_nI (show m < 2 ^ 31 by omega), if_neg h_17, h_17]; rfl)) (by simp [uMq_matterOf, uM_bad, if_pos h_3, h_3, uN_nI (show m < 2 ^ 31 by omega), if_neg h_17, h_17])
  · refine q_ci1 C (q_Fi.cv (if_neg h_3) (c_X7_isMatter l S M hM hM8 x)) myX7_isMatter mlX7_91 q_s112 ⟨by decide, by decide⟩ (Nat.le_of_ble_eq_true rfl) dX7_matterOf_3 ?_
    refine q_if_ne (tgt := 13) C dX7_matterOf_6 (by decide) (fun h9 => absurd h9 (by decide)) (fun _ => ?_)
    refine q_iconst (v := 1) C dX7_matterOf_9 (by decide) ?_
    refine q_goto (tgt := 28) C dX7_matterOf_10 (by decide) ?_
    refine q_put (ty9 := .int) C flX7_36 q_s112 rfl (fun _ _ _ h => by cases h; exact ⟨rfl, by decide +kernel⟩) rfl rfl dX7_matterOf_28 ?_
    refine q_aload_n C dX7_matterOf_31 rfl rfl ?_
    refine q_getI (x := 1) C flX7_36 q_s112 rfl dX7_matterOf_32 rfl ?_
    refine q_if_le (tgt := 40) C dX7_matterOf_35 (by decide) (fun h9 => absurd h9 (by decide)) (fun _ => ?_)
    refine q_iconst (v := 0) C dX7_matterOf_38 (by decide) ?_
    exact hret _ _ _ _ dX7_matterOf_39 (by first | (simp [uMq_matterOf, uM_bad, if_neg h_3, h_3]; done) | (simp [uMq_matterOf, uM_bad, if_neg h_3, h_3]; rfl)) (by simp [uMq_matterOf, uM_bad, if_neg h_3, h_3])
theorem c_X7_answer (l : Launch) (S : q_St) (M : Nat) (hM : S 113 0 = nI M) (hM8 : M ≤ 8) (x : Int32) (y : Int32) : q_Fi l yX7_answer kX7_answer 3 [.ref 112, .int x, .int y] S ((uMq_answer S M x y).1) ((uMq_answer S M x y).2) := by
  refine q_Fi_of (maxL := 3) rfl (by decide +kernel) (fun ad => Nat.le_of_ble_eq_true rfl) rfl ?_
  intro K C hret
  have C : q_Cx K cX7_answer RX7 3 3 := C
  show q_V l K 0 [(0, .ref 112), (1, .int x), (2, .int y)] [] S
  refine q_aload_n C dX7_answer_0 rfl rfl ?_
  refine q_aload_n C dX7_answer_1 rfl rfl ?_
  refine q_iload_n C dX7_answer_2 rfl rfl ?_
  by_cases h_3 : 0 ≤ x ∧ x < nI M
  · refine q_ci1 C (q_Fi.cv (if_pos h_3) (c_X7_isMatter l S M hM hM8 x)) myX7_isMatter mlX7_91 q_s112 ⟨by decide, by decide⟩ (Nat.le_of_ble_eq_true rfl) dX7_answer_3 ?_
    obtain ⟨m, hmM, rfl⟩ := uK_okM (X := nI M) rfl hM8 h_3
    refine q_if_ne (tgt := 13) C dX7_answer_6 (by decide) (fun _ => ?_) (fun h9 => absurd h9 (by decide))
    refine q_iload_n C dX7_answer_13 rfl rfl ?_
    by_cases h_14 : 0 ≤ y ∧ y < 6
    · refine q_si1 C (q_Fi.cv (if_pos h_14) (c_X7_isGuild l S y)) msX7_isGuild rfl mlX7_95 ⟨by decide, by decide⟩ (Nat.le_of_ble_eq_true rfl) dX7_answer_14 ?_
      obtain ⟨g, hg6, rfl⟩ := uK_okG h_14
      refine q_if_ne (tgt := 24) C dX7_answer_17 (by decide) (fun _ => ?_) (fun h9 => absurd h9 (by decide))
      refine q_iconst (v := 0) C dX7_answer_24 (by decide) ?_
      refine q_put (ty9 := .int) C flX7_36 q_s112 rfl (fun _ _ _ h => by cases h; exact ⟨rfl, by decide +kernel⟩) rfl rfl dX7_answer_25 ?_
      refine q_aload_n C dX7_answer_28 rfl rfl ?_
      refine q_getI (x := 0) C flX7_36 q_s112 rfl dX7_answer_29 rfl ?_
      refine q_if_le (tgt := 39) C dX7_answer_32 (by decide) (fun _ => ?_) (fun h9 => absurd h9 (by decide))
      refine q_aload_n C dX7_answer_39 rfl rfl ?_
      refine q_iload_n C dX7_answer_40 rfl rfl ?_
      refine q_iload_n C dX7_answer_41 rfl rfl ?_
      by_cases h_42 : S 113 (32 + 14 * m + 2 + g) ≠ 0
      · refine q_ci2 C (q_Fi.cv (if_pos h_42) (c_X7_isOf l (q_p S 112 6 0) m (by omega) g (by omega))) myX7_isOf mlX7_66 q_s112 ⟨by decide, by decide⟩ (Nat.le_of_ble_eq_true rfl) dX7_answer_42 ?_
        refine q_if_eq (tgt := 57) C dX7_answer_45 (by decide) (fun h9 => absurd h9 (by decide)) (fun _ => ?_)
        refine q_aload_n C dX7_answer_48 rfl rfl ?_
        refine q_iload_n C dX7_answer_49 rfl rfl ?_
        refine q_iload_n C dX7_answer_50 rfl rfl ?_
        refine q_ci2 C (q_Fi.cv (v' := S 113 (32 + 14 * m + 8 + g)) rfl (c_X7_answerOf l (q_p S 112 6 0) m (by omega) g (by omega))) myX7_answerOf mlX7_70 q_s112 ⟨by decide, by decide⟩ (Nat.le_of_ble_eq_true rfl) dX7_answer_51 ?_
        refine q_goto (tgt := 58) C dX7_answer_54 (by decide) ?_
        exact hret _ _ _ _ dX7_answer_58 (by simp [uMq_answer, uM_bad, if_pos h_3, h_3, uN_nI (show m < 2 ^ 31 by omega), if_pos h_14, h_14, uN_nI (show g < 2 ^ 31 by omega), if_pos h_42, h_42]) (by simp [uMq_answer, uM_bad, if_pos h_3, h_3, uN_nI (show m < 2 ^ 31 by omega), if_pos h_14, h_14, uN_nI (show g < 2 ^ 31 by omega), if_pos h_42, h_42])
      · refine q_ci2 C (q_Fi.cv (if_neg h_42) (c_X7_isOf l (q_p S 112 6 0) m (by omega) g (by omega))) myX7_isOf mlX7_66 q_s112 ⟨by decide, by decide⟩ (Nat.le_of_ble_eq_true rfl) dX7_answer_42 ?_
        refine q_if_eq (tgt := 57) C dX7_answer_45 (by decide) (fun _ => ?_) (fun h9 => absurd h9 (by decide))
        refine q_iconst (v := (-1)) C dX7_answer_57 (by decide) ?_
        exact hret _ _ _ _ dX7_answer_58 (by simp [uMq_answer, uM_bad, if_pos h_3, h_3, uN_nI (show m < 2 ^ 31 by omega), if_pos h_14, h_14, uN_nI (show g < 2 ^ 31 by omega), if_neg h_42, h_42, Decidable.not_not.mp h_42]) (by simp [uMq_answer, uM_bad, if_pos h_3, h_3, uN_nI (show m < 2 ^ 31 by omega), if_pos h_14, h_14, uN_nI (show g < 2 ^ 31 by omega), if_neg h_42, h_42, Decidable.not_not.mp h_42])
    · refine q_si1 C (q_Fi.cv (if_neg h_14) (c_X7_isGuild l S y)) msX7_isGuild rfl mlX7_95 ⟨by decide, by decide⟩ (Nat.le_of_ble_eq_true rfl) dX7_answer_14 ?_
      refine q_if_ne (tgt := 24) C dX7_answer_17 (by decide) (fun h9 => absurd h9 (by decide)) (fun _ => ?_)
      refine q_iconst (v := 2) C dX7_answer_20 (by decide) ?_
      refine q_goto (tgt := 25) C dX7_answer_21 (by decide) ?_
      refine q_put (ty9 := .int) C flX7_36 q_s112 rfl (fun _ _ _ h => by cases h; exact ⟨rfl, by decide +kernel⟩) rfl rfl dX7_answer_25 ?_
      refine q_aload_n C dX7_answer_28 rfl rfl ?_
      refine q_getI (x := 2) C flX7_36 q_s112 rfl dX7_answer_29 rfl ?_
      refine q_if_le (tgt := 39) C dX7_answer_32 (by decide) (fun h9 => absurd h9 (by decide)) (fun _ => ?_)
      refine q_iconst (v := 0) C dX7_answer_35 (by decide) ?_
      refine q_goto (tgt := 58) C dX7_answer_36 (by decide) ?_
      exact hret _ _ _ _ dX7_answer_58 (by simp [uMq_answer, uM_bad, if_pos h_3, h_3, uN_nI (show m < 2 ^ 31 by omega), if_neg h_14, h_14]) (by simp [uMq_answer, uM_bad, if_pos h_3, h_3, uN_nI (show m < 2 ^ 31 by omega), if_neg h_14, h_14])
  · refine q_ci1 C (q_Fi.cv (if_neg h_3) (c_X7_isMatter l S M hM hM8 x)) myX7_isMatter mlX7_91 q_s112 ⟨by decide, by decide⟩ (Nat.le_of_ble_eq_true rfl) dX7_answer_3 ?_
    refine q_if_ne (tgt := 13) C dX7_answer_6 (by decide) (fun h9 => absurd h9 (by decide)) (fun _ => ?_)
    refine q_iconst (v := 1) C dX7_answer_9 (by decide) ?_
    refine q_goto (tgt := 25) C dX7_answer_10 (by decide) ?_
    refine q_put (ty9 := .int) C flX7_36 q_s112 rfl (fun _ _ _ h => by cases h; exact ⟨rfl, by decide +kernel⟩) rfl rfl dX7_answer_25 ?_
    refine q_aload_n C dX7_answer_28 rfl rfl ?_
    refine q_getI (x := 1) C flX7_36 q_s112 rfl dX7_answer_29 rfl ?_
    refine q_if_le (tgt := 39) C dX7_answer_32 (by decide) (fun h9 => absurd h9 (by decide)) (fun _ => ?_)
    refine q_iconst (v := 0) C dX7_answer_35 (by decide) ?_
    refine q_goto (tgt := 58) C dX7_answer_36 (by decide) ?_
    exact hret _ _ _ _ dX7_answer_58 (by simp [uMq_answer, uM_bad, if_neg h_3, h_3]) (by simp [uMq_answer, uM_bad, if_neg h_3, h_3])
theorem c_X7_amount (l : Launch) (S : q_St) (M : Nat) (hM : S 113 0 = nI M) (hM8 : M ≤ 8) (x : Int32) (y : Int32) : q_Fi l yX7_amount kX7_amount 3 [.ref 112, .int x, .int y] S ((uMq_amount S M x y).1) ((uMq_amount S M x y).2) := by
  refine q_Fi_of (maxL := 3) rfl (by decide +kernel) (fun ad => Nat.le_of_ble_eq_true rfl) rfl ?_
  intro K C hret
  have C : q_Cx K cX7_amount RX7 3 3 := C
  show q_V l K 0 [(0, .ref 112), (1, .int x), (2, .int y)] [] S
  refine q_aload_n C dX7_amount_0 rfl rfl ?_
  refine q_aload_n C dX7_amount_1 rfl rfl ?_
  refine q_iload_n C dX7_amount_2 rfl rfl ?_
  by_cases h_3 : 0 ≤ x ∧ x < nI M
  · refine q_ci1 C (q_Fi.cv (if_pos h_3) (c_X7_isMatter l S M hM hM8 x)) myX7_isMatter mlX7_91 q_s112 ⟨by decide, by decide⟩ (Nat.le_of_ble_eq_true rfl) dX7_amount_3 ?_
    obtain ⟨m, hmM, rfl⟩ := uK_okM (X := nI M) rfl hM8 h_3
    refine q_if_ne (tgt := 13) C dX7_amount_6 (by decide) (fun _ => ?_) (fun h9 => absurd h9 (by decide))
    refine q_iload_n C dX7_amount_13 rfl rfl ?_
    by_cases h_14 : 0 ≤ y ∧ y < 6
    · refine q_si1 C (q_Fi.cv (if_pos h_14) (c_X7_isGuild l S y)) msX7_isGuild rfl mlX7_95 ⟨by decide, by decide⟩ (Nat.le_of_ble_eq_true rfl) dX7_amount_14 ?_
      obtain ⟨g, hg6, rfl⟩ := uK_okG h_14
      refine q_if_ne (tgt := 24) C dX7_amount_17 (by decide) (fun _ => ?_) (fun h9 => absurd h9 (by decide))
      refine q_iconst (v := 0) C dX7_amount_24 (by decide) ?_
      refine q_put (ty9 := .int) C flX7_36 q_s112 rfl (fun _ _ _ h => by cases h; exact ⟨rfl, by decide +kernel⟩) rfl rfl dX7_amount_25 ?_
      refine q_aload_n C dX7_amount_28 rfl rfl ?_
      refine q_getI (x := 0) C flX7_36 q_s112 rfl dX7_amount_29 rfl ?_
      refine q_if_le (tgt := 39) C dX7_amount_32 (by decide) (fun _ => ?_) (fun h9 => absurd h9 (by decide))
      refine q_aload_n C dX7_amount_39 rfl rfl ?_
      refine q_iload_n C dX7_amount_40 rfl rfl ?_
      refine q_iload_n C dX7_amount_41 rfl rfl ?_
      refine q_ci2 C (q_Fi.cv (v' := S 113 (32 + 14 * m + 2 + g)) rfl (c_X7_amountOf l (q_p S 112 6 0) m (by omega) g (by omega))) myX7_amountOf mlX7_62 q_s112 ⟨by decide, by decide⟩ (Nat.le_of_ble_eq_true rfl) dX7_amount_42 ?_
      exact hret _ _ _ _ dX7_amount_45 (by simp [uMq_amount, uM_bad, if_pos h_3, h_3, uN_nI (show m < 2 ^ 31 by omega), if_pos h_14, h_14, uN_nI (show g < 2 ^ 31 by omega)]) (by simp [uMq_amount, uM_bad, if_pos h_3, h_3, uN_nI (show m < 2 ^ 31 by omega), if_pos h_14, h_14, uN_nI (show g < 2 ^ 31 by omega)])
    · refine q_si1 C (q_Fi.cv (if_neg h_14) (c_X7_isGuild l S y)) msX7_isGuild rfl mlX7_95 ⟨by decide, by decide⟩ (Nat.le_of_ble_eq_true rfl) dX7_amount_14 ?_
      refine q_if_ne (tgt := 24) C dX7_amount_17 (by decide) (fun h9 => absurd h9 (by decide)) (fun _ => ?_)
      refine q_iconst (v := 2) C dX7_amount_20 (by decide) ?_
      refine q_goto (tgt := 25) C dX7_amount_21 (by decide) ?_
      refine q_put (ty9 := .int) C flX7_36 q_s112 rfl (fun _ _ _ h => by cases h; exact ⟨rfl, by decide +kernel⟩) rfl rfl dX7_amount_25 ?_
      refine q_aload_n C dX7_amount_28 rfl rfl ?_
      refine q_getI (x := 2) C flX7_36 q_s112 rfl dX7_amount_29 rfl ?_
      refine q_if_le (tgt := 39) C dX7_amount_32 (by decide) (fun h9 => absurd h9 (by decide)) (fun _ => ?_)
      refine q_iconst (v := 0) C dX7_amount_35 (by decide) ?_
      refine q_goto (tgt := 45) C dX7_amount_36 (by decide) ?_
      exact hret _ _ _ _ dX7_amount_45 (by simp [uMq_amount, uM_bad, if_pos h_3, h_3, uN_nI (show m < 2 ^ 31 by omega), if_neg h_14, h_14]) (by simp [uMq_amount, uM_bad, if_pos h_3, h_3, uN_nI (show m < 2 ^ 31 by omega), if_neg h_14, h_14])
  · refine q_ci1 C (q_Fi.cv (if_neg h_3) (c_X7_isMatter l S M hM hM8 x)) myX7_isMatter mlX7_91 q_s112 ⟨by decide, by decide⟩ (Nat.le_of_ble_eq_true rfl) dX7_amount_3 ?_
    refine q_if_ne (tgt := 13) C dX7_amount_6 (by decide) (fun h9 => absurd h9 (by decide)) (fun _ => ?_)
    refine q_iconst (v := 1) C dX7_amount_9 (by decide) ?_
    refine q_goto (tgt := 25) C dX7_amount_10 (by decide) ?_
    refine q_put (ty9 := .int) C flX7_36 q_s112 rfl (fun _ _ _ h => by cases h; exact ⟨rfl, by decide +kernel⟩) rfl rfl dX7_amount_25 ?_
    refine q_aload_n C dX7_amount_28 rfl rfl ?_
    refine q_getI (x := 1) C flX7_36 q_s112 rfl dX7_amount_29 rfl ?_
    refine q_if_le (tgt := 39) C dX7_amount_32 (by decide) (fun h9 => absurd h9 (by decide)) (fun _ => ?_)
    refine q_iconst (v := 0) C dX7_amount_35 (by decide) ?_
    refine q_goto (tgt := 45) C dX7_amount_36 (by decide) ?_
    exact hret _ _ _ _ dX7_amount_45 (by simp [uMq_amount, uM_bad, if_neg h_3, h_3]) (by simp [uMq_amount, uM_bad, if_neg h_3, h_3])
theorem c_X7_isAwake (l : Launch) (S : q_St) : q_Fi l yX7_isAwake kX7_isAwake 1 [.ref 112] S ((uMq_isAwake S).1) ((uMq_isAwake S).2) := by
  refine q_Fi_of (maxL := 1) rfl (by decide +kernel) (fun ad => Nat.le_of_ble_eq_true rfl) (by unfold uMq_isAwake; dsimp only; split <;> rfl) ?_
  intro K C hret
  have C : q_Cx K cX7_isAwake RX7 1 1 := C
  show q_V l K 0 [(0, .ref 112)] [] S
  refine q_aload_n C dX7_isAwake_0 rfl rfl ?_
  refine q_iconst (v := 0) C dX7_isAwake_1 (by decide) ?_
  refine q_put (ty9 := .int) C flX7_36 q_s112 rfl (fun _ _ _ h => by cases h; exact ⟨rfl, by decide +kernel⟩) rfl rfl dX7_isAwake_2 ?_
  refine q_aload_n C dX7_isAwake_5 rfl rfl ?_
  refine q_getR C flX7_9 q_s112 rfl dX7_isAwake_6 ?_
  refine q_iconst (v := 1) C dX7_isAwake_9 (by decide) ?_
  refine q_ialdN (i := 1) (x := S 113 1) C rfl q_s113 (by omega) (by decide) dX7_isAwake_10 rfl ?_
  refine q_if_ne (tgt := 18) C dX7_isAwake_11 (by decide)  (fun c_11 => ?_) (fun c_11 => ?_)
  · refine q_iconst (v := 0) C dX7_isAwake_18 (by decide) ?_
    exact hret _ _ _ _ dX7_isAwake_19 (by simp [uMq_isAwake, uM_bad, c_11]) (by simp [uMq_isAwake, uM_bad, c_11])
  · refine q_iconst (v := 1) C dX7_isAwake_14 (by decide) ?_
    refine q_goto (tgt := 19) C dX7_isAwake_15 (by decide) ?_
    exact hret _ _ _ _ dX7_isAwake_19 (by simp [uMq_isAwake, uM_bad, c_11]) (by simp [uMq_isAwake, uM_bad, c_11])
theorem c_X7_book (l : Launch) (S : q_St) (N : Nat) (hN : S 113 5 = nI N) (hN8 : N ≤ 8) (x : Int32) : q_Fi l yX7_book kX7_book 2 [.ref 112, .int x] S ((uMq_book S N x).1) ((uMq_book S N x).2) := by
  refine q_Fi_of (maxL := 2) rfl (by decide +kernel) (fun ad => Nat.le_of_ble_eq_true rfl) rfl ?_
  intro K C hret
  have C : q_Cx K cX7_book RX7 2 2 := C
  show q_V l K 0 [(0, .ref 112), (1, .int x)] [] S
  refine q_aload_n C dX7_book_0 rfl rfl ?_
  refine q_iload_n C dX7_book_1 rfl rfl ?_
  refine q_iconst (v := 0) C dX7_book_2 (by decide) ?_
  refine q_aload_n C dX7_book_3 rfl rfl ?_
  refine q_getR C flX7_9 q_s112 rfl dX7_book_4 ?_
  refine q_iconst (v := 5) C dX7_book_7 (by decide) ?_
  refine q_ialdN (i := 5) (x := nI N) C rfl q_s113 (by omega) (by decide) dX7_book_8 hN ?_
  refine q_iconst (v := 1) C dX7_book_9 (by decide) ?_
  refine q_isub C dX7_book_10 ?_
  by_cases h_11 : 0 ≤ x ∧ x ≤ ((nI N) - 1)
  · refine q_si3 C (q_Fi.cv (if_pos h_11) (c_X7_in l S x 0 ((nI N) - 1))) msX7_in rfl mlX7_58 ⟨by decide, by decide⟩ (Nat.le_of_ble_eq_true rfl) dX7_book_11 ?_
    obtain ⟨w, hw9, rfl⟩ := uM_okK (M := N) rfl (by omega) h_11
    refine q_if_eq (tgt := 21) C dX7_book_14 (by decide) (fun h9 => absurd h9 (by decide)) (fun _ => ?_)
    refine q_iconst (v := 0) C dX7_book_17 (by decide) ?_
    refine q_goto (tgt := 22) C dX7_book_18 (by decide) ?_
    refine q_put (ty9 := .int) C flX7_36 q_s112 rfl (fun _ _ _ h => by cases h; exact ⟨rfl, by decide +kernel⟩) rfl rfl dX7_book_22 ?_
    refine q_aload_n C dX7_book_25 rfl rfl ?_
    refine q_getI (x := 0) C flX7_36 q_s112 rfl dX7_book_26 rfl ?_
    refine q_if_le (tgt := 36) C dX7_book_29 (by decide) (fun _ => ?_) (fun h9 => absurd h9 (by decide))
    refine q_aload_n C dX7_book_36 rfl rfl ?_
    refine q_getR C flX7_9 q_s112 rfl dX7_book_37 ?_
    refine q_bipush (v := 24) C dX7_book_40 (by decide) ?_
    refine q_iload_n C dX7_book_42 rfl rfl ?_
    refine q_iaddN (a := 24) (b := w) C dX7_book_43 rfl rfl ?_
    refine q_ialdN (i := 24 + w) (x := S 113 (24 + w)) C rfl q_s113 (by omega) (by decide) dX7_book_44 rfl ?_
    exact hret _ _ _ _ dX7_book_45 (by simp [uMq_book, uM_bad, if_pos h_11, h_11, uN_nI (show w < 2 ^ 31 by omega)]) (by simp [uMq_book, uM_bad, if_pos h_11, h_11, uN_nI (show w < 2 ^ 31 by omega)])
  · refine q_si3 C (q_Fi.cv (if_neg h_11) (c_X7_in l S x 0 ((nI N) - 1))) msX7_in rfl mlX7_58 ⟨by decide, by decide⟩ (Nat.le_of_ble_eq_true rfl) dX7_book_11 ?_
    refine q_if_eq (tgt := 21) C dX7_book_14 (by decide) (fun _ => ?_) (fun h9 => absurd h9 (by decide))
    refine q_iconst (v := 1) C dX7_book_21 (by decide) ?_
    refine q_put (ty9 := .int) C flX7_36 q_s112 rfl (fun _ _ _ h => by cases h; exact ⟨rfl, by decide +kernel⟩) rfl rfl dX7_book_22 ?_
    refine q_aload_n C dX7_book_25 rfl rfl ?_
    refine q_getI (x := 1) C flX7_36 q_s112 rfl dX7_book_26 rfl ?_
    refine q_if_le (tgt := 36) C dX7_book_29 (by decide) (fun h9 => absurd h9 (by decide)) (fun _ => ?_)
    refine q_iconst (v := 0) C dX7_book_32 (by decide) ?_
    refine q_goto (tgt := 45) C dX7_book_33 (by decide) ?_
    exact hret _ _ _ _ dX7_book_45 (by simp [uMq_book, uM_bad, if_neg h_11, h_11]) (by simp [uMq_book, uM_bad, if_neg h_11, h_11])
set_option maxHeartbeats 1000000 in
theorem c_X7_wouldSeal (l : Launch) (S : q_St) (M : Nat) (hM : S 113 0 = nI M) (hM8 : M ≤ 8) (x : Int32) : q_Fi l yX7_wouldSeal kX7_wouldSeal 5 [.ref 112, .int x] S ((uMq_would S M x).1) ((uMq_would S M x).2) := by
  refine q_Fi_of (maxL := 5) rfl (by decide +kernel) (fun ad => Nat.le_of_ble_eq_true rfl) (by unfold uMq_would; split; split; exact uM_bad_nb _ _; exact uO_b_nb _; exact uM_bad_nb _ _) ?_
  intro K C hret
  have C : q_Cx K cX7_wouldSeal RX7 5 5 := C
  show q_V l K 0 [(0, .ref 112), (1, .int x)] [] S
  refine q_aload_n C dX7_wouldSeal_0 rfl rfl ?_
  refine q_aload_n C dX7_wouldSeal_1 rfl rfl ?_
  refine q_iload_n C dX7_wouldSeal_2 rfl rfl ?_
  by_cases h_3 : 0 ≤ x ∧ x < nI M
  · refine q_ci1 C (q_Fi.cv (if_pos h_3) (c_X7_isMatter l S M hM hM8 x)) myX7_isMatter mlX7_91 q_s112 ⟨by decide, by decide⟩ (Nat.le_of_ble_eq_true rfl) dX7_wouldSeal_3 ?_
    obtain ⟨m, hmM, rfl⟩ := uK_okM (X := nI M) rfl hM8 h_3
    refine q_if_ne (tgt := 13) C dX7_wouldSeal_6 (by decide) (fun _ => ?_) (fun h9 => absurd h9 (by decide))
    refine q_aload_n C dX7_wouldSeal_13 rfl rfl ?_
    refine q_iload_n C dX7_wouldSeal_14 rfl rfl ?_
    refine q_ci1 C (c_X7_how l S m (by omega)) myX7_how mlX7_73 q_s112 ⟨by decide, by decide⟩ (Nat.le_of_ble_eq_true rfl) dX7_wouldSeal_15 ?_
    refine q_if_ne (tgt := 31) C dX7_wouldSeal_18 (by decide)  (fun c_18 => ?_) (fun c_18 => ?_)
    · refine q_iconst (v := 2) C dX7_wouldSeal_31 (by decide) ?_
      refine q_goto (tgt := 36) C dX7_wouldSeal_32 (by decide) ?_
      refine q_put (ty9 := .int) C flX7_36 q_s112 rfl (fun _ _ _ h => by cases h; exact ⟨rfl, by decide +kernel⟩) rfl rfl dX7_wouldSeal_36 ?_
      refine q_aload_n C dX7_wouldSeal_39 rfl rfl ?_
      refine q_getI (x := 2) C flX7_36 q_s112 rfl dX7_wouldSeal_40 rfl ?_
      refine q_if_ne (tgt := 50) C dX7_wouldSeal_43 (by decide) (fun _ => ?_) (fun h9 => absurd h9 (by decide))
      refine q_iconst (v := 0) C dX7_wouldSeal_50 (by decide) ?_
      refine q_istore_n (lv' := [(2, .int 0), (0, .ref 112), (1, .int (nI m))]) C dX7_wouldSeal_51 rfl (by decide) rfl ?_
      refine q_iconst (v := 0) C dX7_wouldSeal_52 (by decide) ?_
      refine q_istore_n (lv' := [(3, .int 0), (2, .int 0), (0, .ref 112), (1, .int (nI m))]) C dX7_wouldSeal_53 rfl (by decide) rfl ?_
      refine q_iload_n C dX7_wouldSeal_54 rfl rfl ?_
      refine q_bipush (v := 6) C dX7_wouldSeal_55 (by decide) ?_
      refine q_icmp_ge (tgt := 125) C dX7_wouldSeal_57 (by decide) (fun h9 => absurd h9 (by decide)) (fun _ => ?_)
      refine q_iload_n C dX7_wouldSeal_60 rfl rfl ?_
      refine q_if_eq (tgt := 125) C dX7_wouldSeal_61 (by decide) (fun _ => ?_) (fun h9 => absurd h9 (by decide))
      refine q_iload_n C dX7_wouldSeal_125 rfl rfl ?_
      exact hret _ _ _ _ dX7_wouldSeal_126 (by simp [uMq_would, uM_bad, if_pos h_3, h_3, uN_nI (show m < 2 ^ 31 by omega), c_18]) (by simp [uMq_would, uM_bad, if_pos h_3, h_3, uN_nI (show m < 2 ^ 31 by omega), c_18])
    · refine q_aload_n C dX7_wouldSeal_21 rfl rfl ?_
      refine q_iload_n C dX7_wouldSeal_22 rfl rfl ?_
      refine q_iconst (v := 0) C dX7_wouldSeal_23 (by decide) ?_
      refine q_iconst (v := 4) C dX7_wouldSeal_24 (by decide) ?_
      refine q_ci3 C (c_X7_count l S m (by omega) 0 4) myX7_count mlX7_101 q_s112 ⟨by decide, by decide⟩ (Nat.le_of_ble_eq_true rfl) dX7_wouldSeal_25 ?_
      refine q_if_ne (tgt := 35) C dX7_wouldSeal_28 (by decide)  (fun c_28 => ?_) (fun c_28 => ?_)
      · refine q_iconst (v := 0) C dX7_wouldSeal_35 (by decide) ?_
        refine q_put (ty9 := .int) C flX7_36 q_s112 rfl (fun _ _ _ h => by cases h; exact ⟨rfl, by decide +kernel⟩) rfl rfl dX7_wouldSeal_36 ?_
        refine q_aload_n C dX7_wouldSeal_39 rfl rfl ?_
        refine q_getI (x := 0) C flX7_36 q_s112 rfl dX7_wouldSeal_40 rfl ?_
        refine q_if_ne (tgt := 50) C dX7_wouldSeal_43 (by decide) (fun h9 => absurd h9 (by decide)) (fun _ => ?_)
        refine q_iconst (v := 1) C dX7_wouldSeal_46 (by decide) ?_
        refine q_goto (tgt := 51) C dX7_wouldSeal_47 (by decide) ?_
        refine q_istore_n (lv' := [(2, .int 1), (0, .ref 112), (1, .int (nI m))]) C dX7_wouldSeal_51 rfl (by decide) rfl ?_
        refine q_iconst (v := 0) C dX7_wouldSeal_52 (by decide) ?_
        refine q_istore_n (lv' := [(3, .int 0), (2, .int 1), (0, .ref 112), (1, .int (nI m))]) C dX7_wouldSeal_53 rfl (by decide) rfl ?_
        have loop_54 : ∀ (n_54 i_54 : Nat), i_54 + n_54 = 6 → q_every (uM_pAll S M m) n_54 i_54 = q_every (uM_pAll S M m) 6 0 → q_V l K 54 [(0, .ref 112), (1, .int (nI m)), (2, .int 1), (3, .int (nI i_54))] [] (q_p S 112 6 0) := by
          intro n_54
          induction n_54 with
          | zero =>
            intro i_54 hi_54 hr_54
            have e_54 : i_54 = 6 := by omega
            refine q_iload_n C dX7_wouldSeal_54 rfl rfl ?_
            refine q_bipush (v := 6) C dX7_wouldSeal_55 (by decide) ?_
            refine q_icmp_geN (a := i_54) (b := 6) (tgt := 125) C dX7_wouldSeal_57 (by decide) rfl rfl (by omega) (by omega) (fun c_57 => ?_) (fun c_57 => absurd c_57 (by omega))
            refine q_iload_n C dX7_wouldSeal_125 rfl rfl ?_
            exact hret _ _ _ _ dX7_wouldSeal_126 (by have h9 : q_every (uM_pAll S M m) 6 0 = true := by {rw [← hr_54]; simp [q_every, if_pos h_3, h_3, uN_nI (show m < 2 ^ 31 by omega), c_18, c_28, c_57, Nat.not_lt.mpr c_57]}; simp [uMq_would, uM_bad, h9, uO_b, if_pos h_3, h_3, uN_nI (show m < 2 ^ 31 by omega), c_18, c_28, c_57, Nat.not_lt.mpr c_57]) (by simp [uMq_would, uM_bad, if_pos h_3, h_3, uN_nI (show m < 2 ^ 31 by omega), c_18, c_28, c_57, Nat.not_lt.mpr c_57])
          | succ n_54 ih_54 =>
            intro i_54 hi_54 hr_54
            refine q_iload_n C dX7_wouldSeal_54 rfl rfl ?_
            refine q_bipush (v := 6) C dX7_wouldSeal_55 (by decide) ?_
            refine q_icmp_geN (a := i_54) (b := 6) (tgt := 125) C dX7_wouldSeal_57 (by decide) rfl rfl (by omega) (by omega) (fun c_57 => absurd c_57 (by omega)) (fun c_57 => ?_)
            refine q_iload_n C dX7_wouldSeal_60 rfl rfl ?_
            refine q_if_eq (tgt := 125) C dX7_wouldSeal_61 (by decide) (fun h9 => absurd h9 (by decide)) (fun _ => ?_)
            refine q_aload_n C dX7_wouldSeal_64 rfl rfl ?_
            refine q_iload_n C dX7_wouldSeal_65 rfl rfl ?_
            refine q_iload_n C dX7_wouldSeal_66 rfl rfl ?_
            refine q_ci2 C (q_Fi.cv (v' := S 113 (32 + 14 * m + 8 + i_54)) rfl (c_X7_answerOf l (q_p S 112 6 0) m (by omega) i_54 (by omega))) myX7_answerOf mlX7_70 q_s112 ⟨by decide, by decide⟩ (Nat.le_of_ble_eq_true rfl) dX7_wouldSeal_67 ?_
            refine q_iconst (v := 1) C dX7_wouldSeal_70 (by decide) ?_
            refine q_icmp_eq (tgt := 92) C dX7_wouldSeal_71 (by decide)  (fun c_71 => ?_) (fun c_71 => ?_)
            · refine q_iconst (v := 1) C dX7_wouldSeal_92 (by decide) ?_
              refine q_goto (tgt := 97) C dX7_wouldSeal_93 (by decide) ?_
              refine q_istore (lv' := [(4, .int 1), (0, .ref 112), (1, .int (nI m)), (2, .int 1), (3, .int (nI i_54))]) C dX7_wouldSeal_97 (by decide) rfl ?_
              refine q_aload_n C dX7_wouldSeal_99 rfl rfl ?_
              refine q_iload_n C dX7_wouldSeal_100 rfl rfl ?_
              refine q_iload_n C dX7_wouldSeal_101 rfl rfl ?_
              by_cases h_102 : S 113 (32 + 14 * m + 2 + i_54) ≠ 0
              · refine q_ci2 C (q_Fi.cv (if_pos h_102) (c_X7_isOf l (q_p S 112 6 0) m (by omega) i_54 (by omega))) myX7_isOf mlX7_66 q_s112 ⟨by decide, by decide⟩ (Nat.le_of_ble_eq_true rfl) dX7_wouldSeal_102 ?_
                refine q_if_eq (tgt := 113) C dX7_wouldSeal_105 (by decide) (fun h9 => absurd h9 (by decide)) (fun _ => ?_)
                refine q_iload C dX7_wouldSeal_108 rfl ?_
                refine q_if_eq (tgt := 117) C dX7_wouldSeal_110 (by decide) (fun h9 => absurd h9 (by decide)) (fun _ => ?_)
                refine q_iconst (v := 1) C dX7_wouldSeal_113 (by decide) ?_
                refine q_goto (tgt := 118) C dX7_wouldSeal_114 (by decide) ?_
                refine q_istore_n (lv' := [(2, .int 1), (4, .int 1), (0, .ref 112), (1, .int (nI m)), (3, .int (nI i_54))]) C dX7_wouldSeal_118 rfl (by decide) rfl ?_
                refine q_iinc (v := nI (i_54 + 1)) (lv' := [(3, .int (nI (i_54 + 1))), (2, .int 1), (4, .int 1), (0, .ref 112), (1, .int (nI m))]) C dX7_wouldSeal_119 rfl (nI_add _ _) (by decide) rfl ?_
                refine q_goto (tgt := 54) C dX7_wouldSeal_122 (by decide) ?_
                exact q_V_to (ih_54 (i_54 + 1) (by omega) (by rw [← hr_54]; simp [q_every, uM_pAll, if_pos h_3, h_3, uN_nI (show m < 2 ^ 31 by omega), c_18, c_28, c_57, Nat.not_le.mpr c_57, c_71, if_pos h_102, h_102])) ⟨rfl, rfl, rfl, rfl, trivial⟩ rfl
              · refine q_ci2 C (q_Fi.cv (if_neg h_102) (c_X7_isOf l (q_p S 112 6 0) m (by omega) i_54 (by omega))) myX7_isOf mlX7_66 q_s112 ⟨by decide, by decide⟩ (Nat.le_of_ble_eq_true rfl) dX7_wouldSeal_102 ?_
                refine q_if_eq (tgt := 113) C dX7_wouldSeal_105 (by decide) (fun _ => ?_) (fun h9 => absurd h9 (by decide))
                refine q_iconst (v := 1) C dX7_wouldSeal_113 (by decide) ?_
                refine q_goto (tgt := 118) C dX7_wouldSeal_114 (by decide) ?_
                refine q_istore_n (lv' := [(2, .int 1), (4, .int 1), (0, .ref 112), (1, .int (nI m)), (3, .int (nI i_54))]) C dX7_wouldSeal_118 rfl (by decide) rfl ?_
                refine q_iinc (v := nI (i_54 + 1)) (lv' := [(3, .int (nI (i_54 + 1))), (2, .int 1), (4, .int 1), (0, .ref 112), (1, .int (nI m))]) C dX7_wouldSeal_119 rfl (nI_add _ _) (by decide) rfl ?_
                refine q_goto (tgt := 54) C dX7_wouldSeal_122 (by decide) ?_
                exact q_V_to (ih_54 (i_54 + 1) (by omega) (by rw [← hr_54]; simp [q_every, uM_pAll, if_pos h_3, h_3, uN_nI (show m < 2 ^ 31 by omega), c_18, c_28, c_57, Nat.not_le.mpr c_57, c_71, if_neg h_102, h_102, Decidable.not_not.mp h_102])) ⟨rfl, rfl, rfl, rfl, trivial⟩ rfl
            · refine q_aload_n C dX7_wouldSeal_74 rfl rfl ?_
              refine q_iload_n C dX7_wouldSeal_75 rfl rfl ?_
              refine q_iload_n C dX7_wouldSeal_76 rfl rfl ?_
              refine q_ci2 C (q_Fi.cv (v' := S 113 (32 + 14 * m + 8 + i_54)) rfl (c_X7_answerOf l (q_p S 112 6 0) m (by omega) i_54 (by omega))) myX7_answerOf mlX7_70 q_s112 ⟨by decide, by decide⟩ (Nat.le_of_ble_eq_true rfl) dX7_wouldSeal_77 ?_
              refine q_if_ne (tgt := 96) C dX7_wouldSeal_80 (by decide)  (fun c_80 => ?_) (fun c_80 => ?_)
              · refine q_iconst (v := 0) C dX7_wouldSeal_96 (by decide) ?_
                refine q_istore (lv' := [(4, .int 0), (0, .ref 112), (1, .int (nI m)), (2, .int 1), (3, .int (nI i_54))]) C dX7_wouldSeal_97 (by decide) rfl ?_
                refine q_aload_n C dX7_wouldSeal_99 rfl rfl ?_
                refine q_iload_n C dX7_wouldSeal_100 rfl rfl ?_
                refine q_iload_n C dX7_wouldSeal_101 rfl rfl ?_
                by_cases h_102 : S 113 (32 + 14 * m + 2 + i_54) ≠ 0
                · refine q_ci2 C (q_Fi.cv (if_pos h_102) (c_X7_isOf l (q_p S 112 6 0) m (by omega) i_54 (by omega))) myX7_isOf mlX7_66 q_s112 ⟨by decide, by decide⟩ (Nat.le_of_ble_eq_true rfl) dX7_wouldSeal_102 ?_
                  refine q_if_eq (tgt := 113) C dX7_wouldSeal_105 (by decide) (fun h9 => absurd h9 (by decide)) (fun _ => ?_)
                  refine q_iload C dX7_wouldSeal_108 rfl ?_
                  refine q_if_eq (tgt := 117) C dX7_wouldSeal_110 (by decide) (fun _ => ?_) (fun h9 => absurd h9 (by decide))
                  refine q_iconst (v := 0) C dX7_wouldSeal_117 (by decide) ?_
                  refine q_istore_n (lv' := [(2, .int 0), (4, .int 0), (0, .ref 112), (1, .int (nI m)), (3, .int (nI i_54))]) C dX7_wouldSeal_118 rfl (by decide) rfl ?_
                  refine q_iinc (v := nI (i_54 + 1)) (lv' := [(3, .int (nI (i_54 + 1))), (2, .int 0), (4, .int 0), (0, .ref 112), (1, .int (nI m))]) C dX7_wouldSeal_119 rfl (nI_add _ _) (by decide) rfl ?_
                  refine q_goto (tgt := 54) C dX7_wouldSeal_122 (by decide) ?_
                  refine q_iload_n C dX7_wouldSeal_54 rfl rfl ?_
                  refine q_bipush (v := 6) C dX7_wouldSeal_55 (by decide) ?_
                  refine q_icmp_geN (a := i_54 + 1) (b := 6) (tgt := 125) C dX7_wouldSeal_57 (by decide) rfl rfl (by omega) (by omega) (fun c_57 => ?_) (fun c_57 => ?_)
                  · refine q_iload_n C dX7_wouldSeal_125 rfl rfl ?_
                    exact hret _ _ _ _ dX7_wouldSeal_126 (by have h9 : q_every (uM_pAll S M m) 6 0 = false := by {rw [← hr_54]; simp [q_every, uM_pAll, if_pos h_3, h_3, uN_nI (show m < 2 ^ 31 by omega), c_18, c_28, c_57, Nat.not_le.mpr c_57, c_71, c_80, if_pos h_102, h_102, c_57, Nat.not_lt.mpr c_57]}; simp [uMq_would, uM_bad, h9, uO_b, if_pos h_3, h_3, uN_nI (show m < 2 ^ 31 by omega), c_18, c_28, c_57, Nat.not_le.mpr c_57, c_71, c_80, if_pos h_102, h_102, c_57, Nat.not_lt.mpr c_57]) (by simp [uMq_would, uM_bad, if_pos h_3, h_3, uN_nI (show m < 2 ^ 31 by omega), c_18, c_28, c_57, Nat.not_le.mpr c_57, c_71, c_80, if_pos h_102, h_102, c_57, Nat.not_lt.mpr c_57])
                  · refine q_iload_n C dX7_wouldSeal_60 rfl rfl ?_
                    refine q_if_eq (tgt := 125) C dX7_wouldSeal_61 (by decide) (fun _ => ?_) (fun h9 => absurd h9 (by decide))
                    refine q_iload_n C dX7_wouldSeal_125 rfl rfl ?_
                    exact hret _ _ _ _ dX7_wouldSeal_126 (by have h9 : q_every (uM_pAll S M m) 6 0 = false := by {rw [← hr_54]; simp [q_every, uM_pAll, if_pos h_3, h_3, uN_nI (show m < 2 ^ 31 by omega), c_18, c_28, c_57, Nat.not_le.mpr c_57, c_71, c_80, if_pos h_102, h_102, c_57, Nat.not_le.mpr c_57]}; simp [uMq_would, uM_bad, h9, uO_b, if_pos h_3, h_3, uN_nI (show m < 2 ^ 31 by omega), c_18, c_28, c_57, Nat.not_le.mpr c_57, c_71, c_80, if_pos h_102, h_102, c_57, Nat.not_le.mpr c_57]) (by simp [uMq_would, uM_bad, if_pos h_3, h_3, uN_nI (show m < 2 ^ 31 by omega), c_18, c_28, c_57, Nat.not_le.mpr c_57, c_71, c_80, if_pos h_102, h_102, c_57, Nat.not_le.mpr c_57])
                · refine q_ci2 C (q_Fi.cv (if_neg h_102) (c_X7_isOf l (q_p S 112 6 0) m (by omega) i_54 (by omega))) myX7_isOf mlX7_66 q_s112 ⟨by decide, by decide⟩ (Nat.le_of_ble_eq_true rfl) dX7_wouldSeal_102 ?_
                  refine q_if_eq (tgt := 113) C dX7_wouldSeal_105 (by decide) (fun _ => ?_) (fun h9 => absurd h9 (by decide))
                  refine q_iconst (v := 1) C dX7_wouldSeal_113 (by decide) ?_
                  refine q_goto (tgt := 118) C dX7_wouldSeal_114 (by decide) ?_
                  refine q_istore_n (lv' := [(2, .int 1), (4, .int 0), (0, .ref 112), (1, .int (nI m)), (3, .int (nI i_54))]) C dX7_wouldSeal_118 rfl (by decide) rfl ?_
                  refine q_iinc (v := nI (i_54 + 1)) (lv' := [(3, .int (nI (i_54 + 1))), (2, .int 1), (4, .int 0), (0, .ref 112), (1, .int (nI m))]) C dX7_wouldSeal_119 rfl (nI_add _ _) (by decide) rfl ?_
                  refine q_goto (tgt := 54) C dX7_wouldSeal_122 (by decide) ?_
                  exact q_V_to (ih_54 (i_54 + 1) (by omega) (by rw [← hr_54]; simp [q_every, uM_pAll, if_pos h_3, h_3, uN_nI (show m < 2 ^ 31 by omega), c_18, c_28, c_57, Nat.not_le.mpr c_57, c_71, c_80, if_neg h_102, h_102, Decidable.not_not.mp h_102])) ⟨rfl, rfl, rfl, rfl, trivial⟩ rfl
              · refine q_aload_n C dX7_wouldSeal_83 rfl rfl ?_
                refine q_iload_n C dX7_wouldSeal_84 rfl rfl ?_
                refine q_iload_n C dX7_wouldSeal_85 rfl rfl ?_
                by_cases h_86 : uM_would S M m i_54
                · refine q_ci2 C (q_Fi.cv (if_pos h_86) (c_X7_wouldBeReady l (q_p S 112 6 0) M hM hM8 m (by omega) i_54 (by omega))) myX7_wouldBeReady mlX7_116 q_s112 ⟨by decide, by decide⟩ (Nat.le_of_ble_eq_true rfl) dX7_wouldSeal_86 ?_
                  refine q_if_eq (tgt := 96) C dX7_wouldSeal_89 (by decide) (fun h9 => absurd h9 (by decide)) (fun _ => ?_)
                  refine q_iconst (v := 1) C dX7_wouldSeal_92 (by decide) ?_
                  refine q_goto (tgt := 97) C dX7_wouldSeal_93 (by decide) ?_
                  refine q_istore (lv' := [(4, .int 1), (0, .ref 112), (1, .int (nI m)), (2, .int 1), (3, .int (nI i_54))]) C dX7_wouldSeal_97 (by decide) rfl ?_
                  refine q_aload_n C dX7_wouldSeal_99 rfl rfl ?_
                  refine q_iload_n C dX7_wouldSeal_100 rfl rfl ?_
                  refine q_iload_n C dX7_wouldSeal_101 rfl rfl ?_
                  by_cases h_102 : S 113 (32 + 14 * m + 2 + i_54) ≠ 0
                  · refine q_ci2 C (q_Fi.cv (if_pos h_102) (c_X7_isOf l (q_p S 112 6 0) m (by omega) i_54 (by omega))) myX7_isOf mlX7_66 q_s112 ⟨by decide, by decide⟩ (Nat.le_of_ble_eq_true rfl) dX7_wouldSeal_102 ?_
                    refine q_if_eq (tgt := 113) C dX7_wouldSeal_105 (by decide) (fun h9 => absurd h9 (by decide)) (fun _ => ?_)
                    refine q_iload C dX7_wouldSeal_108 rfl ?_
                    refine q_if_eq (tgt := 117) C dX7_wouldSeal_110 (by decide) (fun h9 => absurd h9 (by decide)) (fun _ => ?_)
                    refine q_iconst (v := 1) C dX7_wouldSeal_113 (by decide) ?_
                    refine q_goto (tgt := 118) C dX7_wouldSeal_114 (by decide) ?_
                    refine q_istore_n (lv' := [(2, .int 1), (4, .int 1), (0, .ref 112), (1, .int (nI m)), (3, .int (nI i_54))]) C dX7_wouldSeal_118 rfl (by decide) rfl ?_
                    refine q_iinc (v := nI (i_54 + 1)) (lv' := [(3, .int (nI (i_54 + 1))), (2, .int 1), (4, .int 1), (0, .ref 112), (1, .int (nI m))]) C dX7_wouldSeal_119 rfl (nI_add _ _) (by decide) rfl ?_
                    refine q_goto (tgt := 54) C dX7_wouldSeal_122 (by decide) ?_
                    exact q_V_to (ih_54 (i_54 + 1) (by omega) (by rw [← hr_54]; simp [q_every, uM_pAll, if_pos h_3, h_3, uN_nI (show m < 2 ^ 31 by omega), c_18, c_28, c_57, Nat.not_le.mpr c_57, c_71, c_80, if_pos h_86, h_86, if_pos h_102, h_102])) ⟨rfl, rfl, rfl, rfl, trivial⟩ rfl
                  · refine q_ci2 C (q_Fi.cv (if_neg h_102) (c_X7_isOf l (q_p S 112 6 0) m (by omega) i_54 (by omega))) myX7_isOf mlX7_66 q_s112 ⟨by decide, by decide⟩ (Nat.le_of_ble_eq_true rfl) dX7_wouldSeal_102 ?_
                    refine q_if_eq (tgt := 113) C dX7_wouldSeal_105 (by decide) (fun _ => ?_) (fun h9 => absurd h9 (by decide))
                    refine q_iconst (v := 1) C dX7_wouldSeal_113 (by decide) ?_
                    refine q_goto (tgt := 118) C dX7_wouldSeal_114 (by decide) ?_
                    refine q_istore_n (lv' := [(2, .int 1), (4, .int 1), (0, .ref 112), (1, .int (nI m)), (3, .int (nI i_54))]) C dX7_wouldSeal_118 rfl (by decide) rfl ?_
                    refine q_iinc (v := nI (i_54 + 1)) (lv' := [(3, .int (nI (i_54 + 1))), (2, .int 1), (4, .int 1), (0, .ref 112), (1, .int (nI m))]) C dX7_wouldSeal_119 rfl (nI_add _ _) (by decide) rfl ?_
                    refine q_goto (tgt := 54) C dX7_wouldSeal_122 (by decide) ?_
                    exact q_V_to (ih_54 (i_54 + 1) (by omega) (by rw [← hr_54]; simp [q_every, uM_pAll, if_pos h_3, h_3, uN_nI (show m < 2 ^ 31 by omega), c_18, c_28, c_57, Nat.not_le.mpr c_57, c_71, c_80, if_pos h_86, h_86, if_neg h_102, h_102, Decidable.not_not.mp h_102])) ⟨rfl, rfl, rfl, rfl, trivial⟩ rfl
                · refine q_ci2 C (q_Fi.cv (if_neg h_86) (c_X7_wouldBeReady l (q_p S 112 6 0) M hM hM8 m (by omega) i_54 (by omega))) myX7_wouldBeReady mlX7_116 q_s112 ⟨by decide, by decide⟩ (Nat.le_of_ble_eq_true rfl) dX7_wouldSeal_86 ?_
                  refine q_if_eq (tgt := 96) C dX7_wouldSeal_89 (by decide) (fun _ => ?_) (fun h9 => absurd h9 (by decide))
                  refine q_iconst (v := 0) C dX7_wouldSeal_96 (by decide) ?_
                  refine q_istore (lv' := [(4, .int 0), (0, .ref 112), (1, .int (nI m)), (2, .int 1), (3, .int (nI i_54))]) C dX7_wouldSeal_97 (by decide) rfl ?_
                  refine q_aload_n C dX7_wouldSeal_99 rfl rfl ?_
                  refine q_iload_n C dX7_wouldSeal_100 rfl rfl ?_
                  refine q_iload_n C dX7_wouldSeal_101 rfl rfl ?_
                  by_cases h_102 : S 113 (32 + 14 * m + 2 + i_54) ≠ 0
                  · refine q_ci2 C (q_Fi.cv (if_pos h_102) (c_X7_isOf l (q_p S 112 6 0) m (by omega) i_54 (by omega))) myX7_isOf mlX7_66 q_s112 ⟨by decide, by decide⟩ (Nat.le_of_ble_eq_true rfl) dX7_wouldSeal_102 ?_
                    refine q_if_eq (tgt := 113) C dX7_wouldSeal_105 (by decide) (fun h9 => absurd h9 (by decide)) (fun _ => ?_)
                    refine q_iload C dX7_wouldSeal_108 rfl ?_
                    refine q_if_eq (tgt := 117) C dX7_wouldSeal_110 (by decide) (fun _ => ?_) (fun h9 => absurd h9 (by decide))
                    refine q_iconst (v := 0) C dX7_wouldSeal_117 (by decide) ?_
                    refine q_istore_n (lv' := [(2, .int 0), (4, .int 0), (0, .ref 112), (1, .int (nI m)), (3, .int (nI i_54))]) C dX7_wouldSeal_118 rfl (by decide) rfl ?_
                    refine q_iinc (v := nI (i_54 + 1)) (lv' := [(3, .int (nI (i_54 + 1))), (2, .int 0), (4, .int 0), (0, .ref 112), (1, .int (nI m))]) C dX7_wouldSeal_119 rfl (nI_add _ _) (by decide) rfl ?_
                    refine q_goto (tgt := 54) C dX7_wouldSeal_122 (by decide) ?_
                    refine q_iload_n C dX7_wouldSeal_54 rfl rfl ?_
                    refine q_bipush (v := 6) C dX7_wouldSeal_55 (by decide) ?_
                    refine q_icmp_geN (a := i_54 + 1) (b := 6) (tgt := 125) C dX7_wouldSeal_57 (by decide) rfl rfl (by omega) (by omega) (fun c_57 => ?_) (fun c_57 => ?_)
                    · refine q_iload_n C dX7_wouldSeal_125 rfl rfl ?_
                      exact hret _ _ _ _ dX7_wouldSeal_126 (by have h9 : q_every (uM_pAll S M m) 6 0 = false := by {rw [← hr_54]; simp [q_every, uM_pAll, if_pos h_3, h_3, uN_nI (show m < 2 ^ 31 by omega), c_18, c_28, c_57, Nat.not_le.mpr c_57, c_71, c_80, if_neg h_86, h_86, if_pos h_102, h_102, c_57, Nat.not_lt.mpr c_57]}; simp [uMq_would, uM_bad, h9, uO_b, if_pos h_3, h_3, uN_nI (show m < 2 ^ 31 by omega), c_18, c_28, c_57, Nat.not_le.mpr c_57, c_71, c_80, if_neg h_86, h_86, if_pos h_102, h_102, c_57, Nat.not_lt.mpr c_57]) (by simp [uMq_would, uM_bad, if_pos h_3, h_3, uN_nI (show m < 2 ^ 31 by omega), c_18, c_28, c_57, Nat.not_le.mpr c_57, c_71, c_80, if_neg h_86, h_86, if_pos h_102, h_102, c_57, Nat.not_lt.mpr c_57])
                    · refine q_iload_n C dX7_wouldSeal_60 rfl rfl ?_
                      refine q_if_eq (tgt := 125) C dX7_wouldSeal_61 (by decide) (fun _ => ?_) (fun h9 => absurd h9 (by decide))
                      refine q_iload_n C dX7_wouldSeal_125 rfl rfl ?_
                      exact hret _ _ _ _ dX7_wouldSeal_126 (by have h9 : q_every (uM_pAll S M m) 6 0 = false := by {rw [← hr_54]; simp [q_every, uM_pAll, if_pos h_3, h_3, uN_nI (show m < 2 ^ 31 by omega), c_18, c_28, c_57, Nat.not_le.mpr c_57, c_71, c_80, if_neg h_86, h_86, if_pos h_102, h_102, c_57, Nat.not_le.mpr c_57]}; simp [uMq_would, uM_bad, h9, uO_b, if_pos h_3, h_3, uN_nI (show m < 2 ^ 31 by omega), c_18, c_28, c_57, Nat.not_le.mpr c_57, c_71, c_80, if_neg h_86, h_86, if_pos h_102, h_102, c_57, Nat.not_le.mpr c_57]) (by simp [uMq_would, uM_bad, if_pos h_3, h_3, uN_nI (show m < 2 ^ 31 by omega), c_18, c_28, c_57, Nat.not_le.mpr c_57, c_71, c_80, if_neg h_86, h_86, if_pos h_102, h_102, c_57, Nat.not_le.mpr c_57])
                  · refine q_ci2 C (q_Fi.cv (if_neg h_102) (c_X7_isOf l (q_p S 112 6 0) m (by omega) i_54 (by omega))) myX7_isOf mlX7_66 q_s112 ⟨by decide, by decide⟩ (Nat.le_of_ble_eq_true rfl) dX7_wouldSeal_102 ?_
                    refine q_if_eq (tgt := 113) C dX7_wouldSeal_105 (by decide) (fun _ => ?_) (fun h9 => absurd h9 (by decide))
                    refine q_iconst (v := 1) C dX7_wouldSeal_113 (by decide) ?_
                    refine q_goto (tgt := 118) C dX7_wouldSeal_114 (by decide) ?_
                    refine q_istore_n (lv' := [(2, .int 1), (4, .int 0), (0, .ref 112), (1, .int (nI m)), (3, .int (nI i_54))]) C dX7_wouldSeal_118 rfl (by decide) rfl ?_
                    refine q_iinc (v := nI (i_54 + 1)) (lv' := [(3, .int (nI (i_54 + 1))), (2, .int 1), (4, .int 0), (0, .ref 112), (1, .int (nI m))]) C dX7_wouldSeal_119 rfl (nI_add _ _) (by decide) rfl ?_
                    refine q_goto (tgt := 54) C dX7_wouldSeal_122 (by decide) ?_
                    exact q_V_to (ih_54 (i_54 + 1) (by omega) (by rw [← hr_54]; simp [q_every, uM_pAll, if_pos h_3, h_3, uN_nI (show m < 2 ^ 31 by omega), c_18, c_28, c_57, Nat.not_le.mpr c_57, c_71, c_80, if_neg h_86, h_86, if_neg h_102, h_102, Decidable.not_not.mp h_102])) ⟨rfl, rfl, rfl, rfl, trivial⟩ rfl
        exact q_V_to (loop_54 (6 - 0) 0 (by omega) rfl) ⟨rfl, rfl, rfl, rfl, trivial⟩ rfl
      · refine q_iconst (v := 2) C dX7_wouldSeal_31 (by decide) ?_
        refine q_goto (tgt := 36) C dX7_wouldSeal_32 (by decide) ?_
        refine q_put (ty9 := .int) C flX7_36 q_s112 rfl (fun _ _ _ h => by cases h; exact ⟨rfl, by decide +kernel⟩) rfl rfl dX7_wouldSeal_36 ?_
        refine q_aload_n C dX7_wouldSeal_39 rfl rfl ?_
        refine q_getI (x := 2) C flX7_36 q_s112 rfl dX7_wouldSeal_40 rfl ?_
        refine q_if_ne (tgt := 50) C dX7_wouldSeal_43 (by decide) (fun _ => ?_) (fun h9 => absurd h9 (by decide))
        refine q_iconst (v := 0) C dX7_wouldSeal_50 (by decide) ?_
        refine q_istore_n (lv' := [(2, .int 0), (0, .ref 112), (1, .int (nI m))]) C dX7_wouldSeal_51 rfl (by decide) rfl ?_
        refine q_iconst (v := 0) C dX7_wouldSeal_52 (by decide) ?_
        refine q_istore_n (lv' := [(3, .int 0), (2, .int 0), (0, .ref 112), (1, .int (nI m))]) C dX7_wouldSeal_53 rfl (by decide) rfl ?_
        refine q_iload_n C dX7_wouldSeal_54 rfl rfl ?_
        refine q_bipush (v := 6) C dX7_wouldSeal_55 (by decide) ?_
        refine q_icmp_ge (tgt := 125) C dX7_wouldSeal_57 (by decide) (fun h9 => absurd h9 (by decide)) (fun _ => ?_)
        refine q_iload_n C dX7_wouldSeal_60 rfl rfl ?_
        refine q_if_eq (tgt := 125) C dX7_wouldSeal_61 (by decide) (fun _ => ?_) (fun h9 => absurd h9 (by decide))
        refine q_iload_n C dX7_wouldSeal_125 rfl rfl ?_
        exact hret _ _ _ _ dX7_wouldSeal_126 (by simp [uMq_would, uM_bad, if_pos h_3, h_3, uN_nI (show m < 2 ^ 31 by omega), c_18, c_28]) (by simp [uMq_would, uM_bad, if_pos h_3, h_3, uN_nI (show m < 2 ^ 31 by omega), c_18, c_28])
  · refine q_ci1 C (q_Fi.cv (if_neg h_3) (c_X7_isMatter l S M hM hM8 x)) myX7_isMatter mlX7_91 q_s112 ⟨by decide, by decide⟩ (Nat.le_of_ble_eq_true rfl) dX7_wouldSeal_3 ?_
    refine q_if_ne (tgt := 13) C dX7_wouldSeal_6 (by decide) (fun h9 => absurd h9 (by decide)) (fun _ => ?_)
    refine q_iconst (v := 1) C dX7_wouldSeal_9 (by decide) ?_
    refine q_goto (tgt := 36) C dX7_wouldSeal_10 (by decide) ?_
    refine q_put (ty9 := .int) C flX7_36 q_s112 rfl (fun _ _ _ h => by cases h; exact ⟨rfl, by decide +kernel⟩) rfl rfl dX7_wouldSeal_36 ?_
    refine q_aload_n C dX7_wouldSeal_39 rfl rfl ?_
    refine q_getI (x := 1) C flX7_36 q_s112 rfl dX7_wouldSeal_40 rfl ?_
    refine q_if_ne (tgt := 50) C dX7_wouldSeal_43 (by decide) (fun _ => ?_) (fun h9 => absurd h9 (by decide))
    refine q_iconst (v := 0) C dX7_wouldSeal_50 (by decide) ?_
    refine q_istore_n (lv' := [(2, .int 0), (0, .ref 112), (1, .int x)]) C dX7_wouldSeal_51 rfl (by decide) rfl ?_
    refine q_iconst (v := 0) C dX7_wouldSeal_52 (by decide) ?_
    refine q_istore_n (lv' := [(3, .int 0), (2, .int 0), (0, .ref 112), (1, .int x)]) C dX7_wouldSeal_53 rfl (by decide) rfl ?_
    refine q_iload_n C dX7_wouldSeal_54 rfl rfl ?_
    refine q_bipush (v := 6) C dX7_wouldSeal_55 (by decide) ?_
    refine q_icmp_ge (tgt := 125) C dX7_wouldSeal_57 (by decide) (fun h9 => absurd h9 (by decide)) (fun _ => ?_)
    refine q_iload_n C dX7_wouldSeal_60 rfl rfl ?_
    refine q_if_eq (tgt := 125) C dX7_wouldSeal_61 (by decide) (fun _ => ?_) (fun h9 => absurd h9 (by decide))
    refine q_iload_n C dX7_wouldSeal_125 rfl rfl ?_
    exact hret _ _ _ _ dX7_wouldSeal_126 (by simp [uMq_would, uM_bad, if_neg h_3, h_3]) (by simp [uMq_would, uM_bad, if_neg h_3, h_3])
theorem c_X7_guildOf (l : Launch) (S : q_St) (M : Nat) (hM : S 113 0 = nI M) (hM8 : M ≤ 8) (y : Int32) (v : Int32) : q_Fi l yX7_guildOf kX7_guildOf 4 [.ref 112, .int y, .int v] S ((uMq_guildOf S M y v).1) ((uMq_guildOf S M y v).2) := by
  refine q_Fi_of (maxL := 5) rfl (by decide +kernel) (fun ad => Nat.le_of_ble_eq_true rfl) rfl ?_
  intro K C hret
  have C : q_Cx K cX7_guildOf RX7 4 5 := C
  show q_V l K 0 [(0, .ref 112), (1, .int y), (2, .int v)] [] S
  refine q_aload_n C dX7_guildOf_0 rfl rfl ?_
  refine q_iload_n C dX7_guildOf_1 rfl rfl ?_
  by_cases h_2 : 0 ≤ y ∧ y < 6
  · refine q_si1 C (q_Fi.cv (if_pos h_2) (c_X7_isGuild l S y)) msX7_isGuild rfl mlX7_95 ⟨by decide, by decide⟩ (Nat.le_of_ble_eq_true rfl) dX7_guildOf_2 ?_
    obtain ⟨g, hg6, rfl⟩ := uK_okG h_2
    refine q_if_ne (tgt := 12) C dX7_guildOf_5 (by decide) (fun _ => ?_) (fun h9 => absurd h9 (by decide))
    refine q_iload_n C dX7_guildOf_12 rfl rfl ?_
    refine q_iconst (v := 0) C dX7_guildOf_13 (by decide) ?_
    refine q_iconst (v := 5) C dX7_guildOf_14 (by decide) ?_
    by_cases h_15 : 0 ≤ v ∧ v ≤ 5
    · refine q_si3 C (q_Fi.cv (if_pos h_15) (c_X7_in l S v 0 5)) msX7_in rfl mlX7_58 ⟨by decide, by decide⟩ (Nat.le_of_ble_eq_true rfl) dX7_guildOf_15 ?_
      obtain ⟨w, hw9, rfl⟩ := uM_okK (M := 6) rfl (by omega) h_15
      refine q_if_ne (tgt := 25) C dX7_guildOf_18 (by decide) (fun _ => ?_) (fun h9 => absurd h9 (by decide))
      refine q_iconst (v := 0) C dX7_guildOf_25 (by decide) ?_
      refine q_put (ty9 := .int) C flX7_36 q_s112 rfl (fun _ _ _ h => by cases h; exact ⟨rfl, by decide +kernel⟩) rfl rfl dX7_guildOf_26 ?_
      refine q_aload_n C dX7_guildOf_29 rfl rfl ?_
      refine q_getI (x := 0) C flX7_36 q_s112 rfl dX7_guildOf_30 rfl ?_
      refine q_if_le (tgt := 38) C dX7_guildOf_33 (by decide) (fun _ => ?_) (fun h9 => absurd h9 (by decide))
      refine q_iload_n C dX7_guildOf_38 rfl rfl ?_
      rcases (show w = 0 ∨ w = 1 ∨ w = 2 ∨ w = 3 ∨ 4 ≤ w by omega) with rfl | rfl | rfl | rfl | h_39
      · refine q_tabin (off := 29) (tgt := 68) C dX7_guildOf_39 (by decide) (by decide) (by decide) (by decide) ?_
        refine q_aload_n C dX7_guildOf_68 rfl rfl ?_
        refine q_getR C flX7_9 q_s112 rfl dX7_guildOf_69 ?_
        refine q_bipush (v := 6) C dX7_guildOf_72 (by decide) ?_
        refine q_iload_n C dX7_guildOf_74 rfl rfl ?_
        refine q_iaddN (a := 6) (b := g) C dX7_guildOf_75 rfl rfl ?_
        refine q_ialdN (i := 6 + g) (x := S 113 (6 + g)) C rfl q_s113 (by omega) (by decide) dX7_guildOf_76 rfl ?_
        exact hret _ _ _ _ dX7_guildOf_77 (by first | (simp [uMq_guildOf, uM_bad, if_pos h_2, h_2, uN_nI (show g < 2 ^ 31 by omega), if_pos h_15, h_15, uN_nI (show 0 < 2 ^ 31 by omega)]; done) | (simp [uMq_guildOf, uM_bad, if_pos h_2, h_2, uN_nI (show g < 2 ^ 31 by omega), if_pos h_15, h_15, uN_nI (show 0 < 2 ^ 31 by omega)]; rfl)) (by simp [uMq_guildOf, uM_bad, if_pos h_2, h_2, uN_nI (show g < 2 ^ 31 by omega), if_pos h_15, h_15, uN_nI (show 0 < 2 ^ 31 by omega)])
      · refine q_tabin (off := 39) (tgt := 78) C dX7_guildOf_39 (by decide) (by decide) (by decide) (by decide) ?_
        refine q_iconst (v := 1) C dX7_guildOf_78 (by decide) ?_
        refine q_aload_n C dX7_guildOf_79 rfl rfl ?_
        refine q_getR C flX7_9 q_s112 rfl dX7_guildOf_80 ?_
        refine q_bipush (v := 12) C dX7_guildOf_83 (by decide) ?_
        refine q_iload_n C dX7_guildOf_85 rfl rfl ?_
        refine q_iaddN (a := 12) (b := g) C dX7_guildOf_86 rfl rfl ?_
        refine q_ialdN (i := 12 + g) (x := S 113 (12 + g)) C rfl q_s113 (by omega) (by decide) dX7_guildOf_87 rfl ?_
        refine q_isub C dX7_guildOf_88 ?_
        exact hret _ _ _ _ dX7_guildOf_89 (by first | (simp [uMq_guildOf, uM_bad, if_pos h_2, h_2, uN_nI (show g < 2 ^ 31 by omega), if_pos h_15, h_15, uN_nI (show 1 < 2 ^ 31 by omega)]; done) | (simp [uMq_guildOf, uM_bad, if_pos h_2, h_2, uN_nI (show g < 2 ^ 31 by omega), if_pos h_15, h_15, uN_nI (show 1 < 2 ^ 31 by omega)]; rfl)) (by simp [uMq_guildOf, uM_bad, if_pos h_2, h_2, uN_nI (show g < 2 ^ 31 by omega), if_pos h_15, h_15, uN_nI (show 1 < 2 ^ 31 by omega)])
      · refine q_tabin (off := 51) (tgt := 90) C dX7_guildOf_39 (by decide) (by decide) (by decide) (by decide) ?_
        refine q_aload_n C dX7_guildOf_90 rfl rfl ?_
        refine q_iload_n C dX7_guildOf_91 rfl rfl ?_
        refine q_ci1 C (q_Fi.cv (v' := uM_doubt S M g) rfl (c_X7_doubtOf l (q_p S 112 6 0) M hM hM8 g (by omega))) myX7_doubtOf mlX7_107 q_s112 ⟨by decide, by decide⟩ (Nat.le_of_ble_eq_true rfl) dX7_guildOf_92 ?_
        exact hret _ _ _ _ dX7_guildOf_95 (by first | (simp [uMq_guildOf, uM_bad, if_pos h_2, h_2, uN_nI (show g < 2 ^ 31 by omega), if_pos h_15, h_15, uN_nI (show 2 < 2 ^ 31 by omega)]; done) | (simp [uMq_guildOf, uM_bad, if_pos h_2, h_2, uN_nI (show g < 2 ^ 31 by omega), if_pos h_15, h_15, uN_nI (show 2 < 2 ^ 31 by omega)]; rfl)) (by simp [uMq_guildOf, uM_bad, if_pos h_2, h_2, uN_nI (show g < 2 ^ 31 by omega), if_pos h_15, h_15, uN_nI (show 2 < 2 ^ 31 by omega)])
      · refine q_tabin (off := 57) (tgt := 96) C dX7_guildOf_39 (by decide) (by decide) (by decide) (by decide) ?_
        refine q_aload_n C dX7_guildOf_96 rfl rfl ?_
        refine q_getR C flX7_9 q_s112 rfl dX7_guildOf_97 ?_
        refine q_bipush (v := 18) C dX7_guildOf_100 (by decide) ?_
        refine q_iload_n C dX7_guildOf_102 rfl rfl ?_
        refine q_iaddN (a := 18) (b := g) C dX7_guildOf_103 rfl rfl ?_
        refine q_ialdN (i := 18 + g) (x := S 113 (18 + g)) C rfl q_s113 (by omega) (by decide) dX7_guildOf_104 rfl ?_
        exact hret _ _ _ _ dX7_guildOf_105 (by first | (simp [uMq_guildOf, uM_bad, if_pos h_2, h_2, uN_nI (show g < 2 ^ 31 by omega), if_pos h_15, h_15, uN_nI (show 3 < 2 ^ 31 by omega)]; done) | (simp [uMq_guildOf, uM_bad, if_pos h_2, h_2, uN_nI (show g < 2 ^ 31 by omega), if_pos h_15, h_15, uN_nI (show 3 < 2 ^ 31 by omega)]; rfl)) (by simp [uMq_guildOf, uM_bad, if_pos h_2, h_2, uN_nI (show g < 2 ^ 31 by omega), if_pos h_15, h_15, uN_nI (show 3 < 2 ^ 31 by omega)])
      · refine q_tabout (tgt := 106) C dX7_guildOf_39 (Or.inr (by rw [nI_toInt (by omega)]; omega)) (by decide) ?_
        rcases (show w = 4 ∨ w = 5 by omega) with rfl | rfl
        · refine q_iconst (v := 0) C dX7_guildOf_106 (by decide) ?_
          refine q_istore_n (lv' := [(3, .int 0), (0, .ref 112), (1, .int (nI g)), (2, .int 4)]) C dX7_guildOf_107 rfl (by decide) rfl ?_
          refine q_iconst (v := 0) C dX7_guildOf_108 (by decide) ?_
          refine q_istore (lv' := [(4, .int 0), (3, .int 0), (0, .ref 112), (1, .int (nI g)), (2, .int 4)]) C dX7_guildOf_109 (by decide) rfl ?_
          have loop_111 : ∀ (n_111 i_111 : Nat), i_111 + n_111 = M → q_V l K 111 [(0, .ref 112), (1, .int (nI g)), (2, .int 4), (3, .int (q_sum (uM_fMo S g 3) i_111)), (4, .int (nI i_111))] [] (q_p S 112 6 0) := by
            intro n_111
            induction n_111 with
            | zero =>
              intro i_111 hi_111
              have e_111 : i_111 = M := by omega
              refine q_iload C dX7_guildOf_111 rfl ?_
              refine q_aload_n C dX7_guildOf_113 rfl rfl ?_
              refine q_getR C flX7_9 q_s112 rfl dX7_guildOf_114 ?_
              refine q_iconst (v := 0) C dX7_guildOf_117 (by decide) ?_
              refine q_ialdN (i := 0) (x := nI M) C rfl q_s113 (by omega) (by decide) dX7_guildOf_118 hM ?_
              refine q_icmp_geN (a := i_111) (b := M) (tgt := 166) C dX7_guildOf_119 (by decide) rfl rfl (by omega) (by omega) (fun c_119 => ?_) (fun c_119 => absurd c_119 (by omega))
              refine q_iload_n C dX7_guildOf_166 rfl rfl ?_
              exact hret _ _ _ _ dX7_guildOf_167 (by rw [e_111]; simp [uMq_guildOf, if_pos h_2, h_2, uN_nI (show g < 2 ^ 31 by omega), if_pos h_15, h_15, uN_nI (show 4 < 2 ^ 31 by omega), c_119, Nat.not_lt.mpr c_119]; rfl) (by simp [uMq_guildOf, uM_bad, if_pos h_2, h_2, uN_nI (show g < 2 ^ 31 by omega), if_pos h_15, h_15, uN_nI (show 4 < 2 ^ 31 by omega), c_119, Nat.not_lt.mpr c_119])
            | succ n_111 ih_111 =>
              intro i_111 hi_111
              refine q_iload C dX7_guildOf_111 rfl ?_
              refine q_aload_n C dX7_guildOf_113 rfl rfl ?_
              refine q_getR C flX7_9 q_s112 rfl dX7_guildOf_114 ?_
              refine q_iconst (v := 0) C dX7_guildOf_117 (by decide) ?_
              refine q_ialdN (i := 0) (x := nI M) C rfl q_s113 (by omega) (by decide) dX7_guildOf_118 hM ?_
              refine q_icmp_geN (a := i_111) (b := M) (tgt := 166) C dX7_guildOf_119 (by decide) rfl rfl (by omega) (by omega) (fun c_119 => absurd c_119 (by omega)) (fun c_119 => ?_)
              refine q_iload_n C dX7_guildOf_122 rfl rfl ?_
              refine q_aload_n C dX7_guildOf_123 rfl rfl ?_
              refine q_iload C dX7_guildOf_124 rfl ?_
              refine q_iload_n C dX7_guildOf_126 rfl rfl ?_
              by_cases h_127 : S 113 (32 + 14 * i_111 + 2 + g) ≠ 0
              · refine q_ci2 C (q_Fi.cv (if_pos h_127) (c_X7_isOf l (q_p S 112 6 0) i_111 (by omega) g (by omega))) myX7_isOf mlX7_66 q_s112 ⟨by decide, by decide⟩ (Nat.le_of_ble_eq_true rfl) dX7_guildOf_127 ?_
                refine q_if_eq (tgt := 157) C dX7_guildOf_130 (by decide) (fun h9 => absurd h9 (by decide)) (fun _ => ?_)
                refine q_aload_n C dX7_guildOf_133 rfl rfl ?_
                refine q_iload C dX7_guildOf_134 rfl ?_
                refine q_iload_n C dX7_guildOf_136 rfl rfl ?_
                refine q_ci2 C (q_Fi.cv (v' := S 113 (32 + 14 * i_111 + 8 + g)) rfl (c_X7_answerOf l (q_p S 112 6 0) i_111 (by omega) g (by omega))) myX7_answerOf mlX7_70 q_s112 ⟨by decide, by decide⟩ (Nat.le_of_ble_eq_true rfl) dX7_guildOf_137 ?_
                refine q_iload_n C dX7_guildOf_140 rfl rfl ?_
                refine q_iconst (v := 4) C dX7_guildOf_141 (by decide) ?_
                refine q_icmp_ne (tgt := 149) C dX7_guildOf_142 (by decide) (fun h9 => absurd h9 (by decide)) (fun _ => ?_)
                refine q_iconst (v := 3) C dX7_guildOf_145 (by decide) ?_
                refine q_goto (tgt := 150) C dX7_guildOf_146 (by decide) ?_
                refine q_icmp_ne (tgt := 157) C dX7_guildOf_150 (by decide)  (fun c_150 => ?_) (fun c_150 => ?_)
                · refine q_iconst (v := 0) C dX7_guildOf_157 (by decide) ?_
                  refine q_iadd C dX7_guildOf_158 ?_
                  refine q_istore_n (lv' := [(3, .int ((q_sum (uM_fMo S g 3) i_111) + 0)), (0, .ref 112), (1, .int (nI g)), (2, .int 4), (4, .int (nI i_111))]) C dX7_guildOf_159 rfl (by decide) rfl ?_
                  refine q_iinc (v := nI (i_111 + 1)) (lv' := [(4, .int (nI (i_111 + 1))), (3, .int ((q_sum (uM_fMo S g 3) i_111) + 0)), (0, .ref 112), (1, .int (nI g)), (2, .int 4)]) C dX7_guildOf_160 rfl (nI_add _ _) (by decide) rfl ?_
                  refine q_goto (tgt := 111) C dX7_guildOf_163 (by decide) ?_
                  exact q_V_to (ih_111 (i_111 + 1) (by omega)) ⟨rfl, rfl, rfl, q_iv (by simp [q_sum, uM_fMo, if_pos h_2, h_2, uN_nI (show g < 2 ^ 31 by omega), if_pos h_15, h_15, uN_nI (show 4 < 2 ^ 31 by omega), c_119, Nat.not_le.mpr c_119, if_pos h_127, h_127, c_150]), rfl, trivial⟩ rfl
                · refine q_iconst (v := 1) C dX7_guildOf_153 (by decide) ?_
                  refine q_goto (tgt := 158) C dX7_guildOf_154 (by decide) ?_
                  refine q_iadd C dX7_guildOf_158 ?_
                  refine q_istore_n (lv' := [(3, .int ((q_sum (uM_fMo S g 3) i_111) + 1)), (0, .ref 112), (1, .int (nI g)), (2, .int 4), (4, .int (nI i_111))]) C dX7_guildOf_159 rfl (by decide) rfl ?_
                  refine q_iinc (v := nI (i_111 + 1)) (lv' := [(4, .int (nI (i_111 + 1))), (3, .int ((q_sum (uM_fMo S g 3) i_111) + 1)), (0, .ref 112), (1, .int (nI g)), (2, .int 4)]) C dX7_guildOf_160 rfl (nI_add _ _) (by decide) rfl ?_
                  refine q_goto (tgt := 111) C dX7_guildOf_163 (by decide) ?_
                  exact q_V_to (ih_111 (i_111 + 1) (by omega)) ⟨rfl, rfl, rfl, q_iv (by simp [q_sum, uM_fMo, if_pos h_2, h_2, uN_nI (show g < 2 ^ 31 by omega), if_pos h_15, h_15, uN_nI (show 4 < 2 ^ 31 by omega), c_119, Nat.not_le.mpr c_119, if_pos h_127, h_127, c_150]), rfl, trivial⟩ rfl
              · refine q_ci2 C (q_Fi.cv (if_neg h_127) (c_X7_isOf l (q_p S 112 6 0) i_111 (by omega) g (by omega))) myX7_isOf mlX7_66 q_s112 ⟨by decide, by decide⟩ (Nat.le_of_ble_eq_true rfl) dX7_guildOf_127 ?_
                refine q_if_eq (tgt := 157) C dX7_guildOf_130 (by decide) (fun _ => ?_) (fun h9 => absurd h9 (by decide))
                refine q_iconst (v := 0) C dX7_guildOf_157 (by decide) ?_
                refine q_iadd C dX7_guildOf_158 ?_
                refine q_istore_n (lv' := [(3, .int ((q_sum (uM_fMo S g 3) i_111) + 0)), (0, .ref 112), (1, .int (nI g)), (2, .int 4), (4, .int (nI i_111))]) C dX7_guildOf_159 rfl (by decide) rfl ?_
                refine q_iinc (v := nI (i_111 + 1)) (lv' := [(4, .int (nI (i_111 + 1))), (3, .int ((q_sum (uM_fMo S g 3) i_111) + 0)), (0, .ref 112), (1, .int (nI g)), (2, .int 4)]) C dX7_guildOf_160 rfl (nI_add _ _) (by decide) rfl ?_
                refine q_goto (tgt := 111) C dX7_guildOf_163 (by decide) ?_
                exact q_V_to (ih_111 (i_111 + 1) (by omega)) ⟨rfl, rfl, rfl, q_iv (by simp [q_sum, uM_fMo, if_pos h_2, h_2, uN_nI (show g < 2 ^ 31 by omega), if_pos h_15, h_15, uN_nI (show 4 < 2 ^ 31 by omega), c_119, Nat.not_le.mpr c_119, if_neg h_127, h_127, Decidable.not_not.mp h_127]), rfl, trivial⟩ rfl
          exact q_V_to (loop_111 (M - 0) 0 (by omega)) ⟨rfl, rfl, rfl, rfl, rfl, trivial⟩ rfl
        · refine q_iconst (v := 0) C dX7_guildOf_106 (by decide) ?_
          refine q_istore_n (lv' := [(3, .int 0), (0, .ref 112), (1, .int (nI g)), (2, .int 5)]) C dX7_guildOf_107 rfl (by decide) rfl ?_
          refine q_iconst (v := 0) C dX7_guildOf_108 (by decide) ?_
          refine q_istore (lv' := [(4, .int 0), (3, .int 0), (0, .ref 112), (1, .int (nI g)), (2, .int 5)]) C dX7_guildOf_109 (by decide) rfl ?_
          have loop_111 : ∀ (n_111 i_111 : Nat), i_111 + n_111 = M → q_V l K 111 [(0, .ref 112), (1, .int (nI g)), (2, .int 5), (3, .int (q_sum (uM_fMo S g 4) i_111)), (4, .int (nI i_111))] [] (q_p S 112 6 0) := by
            intro n_111
            induction n_111 with
            | zero =>
              intro i_111 hi_111
              have e_111 : i_111 = M := by omega
              refine q_iload C dX7_guildOf_111 rfl ?_
              refine q_aload_n C dX7_guildOf_113 rfl rfl ?_
              refine q_getR C flX7_9 q_s112 rfl dX7_guildOf_114 ?_
              refine q_iconst (v := 0) C dX7_guildOf_117 (by decide) ?_
              refine q_ialdN (i := 0) (x := nI M) C rfl q_s113 (by omega) (by decide) dX7_guildOf_118 hM ?_
              refine q_icmp_geN (a := i_111) (b := M) (tgt := 166) C dX7_guildOf_119 (by decide) rfl rfl (by omega) (by omega) (fun c_119 => ?_) (fun c_119 => absurd c_119 (by omega))
              refine q_iload_n C dX7_guildOf_166 rfl rfl ?_
              exact hret _ _ _ _ dX7_guildOf_167 (by rw [e_111]; simp [uMq_guildOf, if_pos h_2, h_2, uN_nI (show g < 2 ^ 31 by omega), if_pos h_15, h_15, uN_nI (show 5 < 2 ^ 31 by omega), c_119, Nat.not_lt.mpr c_119]; rfl) (by simp [uMq_guildOf, uM_bad, if_pos h_2, h_2, uN_nI (show g < 2 ^ 31 by omega), if_pos h_15, h_15, uN_nI (show 5 < 2 ^ 31 by omega), c_119, Nat.not_lt.mpr c_119])
            | succ n_111 ih_111 =>
              intro i_111 hi_111
              refine q_iload C dX7_guildOf_111 rfl ?_
              refine q_aload_n C dX7_guildOf_113 rfl rfl ?_
              refine q_getR C flX7_9 q_s112 rfl dX7_guildOf_114 ?_
              refine q_iconst (v := 0) C dX7_guildOf_117 (by decide) ?_
              refine q_ialdN (i := 0) (x := nI M) C rfl q_s113 (by omega) (by decide) dX7_guildOf_118 hM ?_
              refine q_icmp_geN (a := i_111) (b := M) (tgt := 166) C dX7_guildOf_119 (by decide) rfl rfl (by omega) (by omega) (fun c_119 => absurd c_119 (by omega)) (fun c_119 => ?_)
              refine q_iload_n C dX7_guildOf_122 rfl rfl ?_
              refine q_aload_n C dX7_guildOf_123 rfl rfl ?_
              refine q_iload C dX7_guildOf_124 rfl ?_
              refine q_iload_n C dX7_guildOf_126 rfl rfl ?_
              by_cases h_127 : S 113 (32 + 14 * i_111 + 2 + g) ≠ 0
              · refine q_ci2 C (q_Fi.cv (if_pos h_127) (c_X7_isOf l (q_p S 112 6 0) i_111 (by omega) g (by omega))) myX7_isOf mlX7_66 q_s112 ⟨by decide, by decide⟩ (Nat.le_of_ble_eq_true rfl) dX7_guildOf_127 ?_
                refine q_if_eq (tgt := 157) C dX7_guildOf_130 (by decide) (fun h9 => absurd h9 (by decide)) (fun _ => ?_)
                refine q_aload_n C dX7_guildOf_133 rfl rfl ?_
                refine q_iload C dX7_guildOf_134 rfl ?_
                refine q_iload_n C dX7_guildOf_136 rfl rfl ?_
                refine q_ci2 C (q_Fi.cv (v' := S 113 (32 + 14 * i_111 + 8 + g)) rfl (c_X7_answerOf l (q_p S 112 6 0) i_111 (by omega) g (by omega))) myX7_answerOf mlX7_70 q_s112 ⟨by decide, by decide⟩ (Nat.le_of_ble_eq_true rfl) dX7_guildOf_137 ?_
                refine q_iload_n C dX7_guildOf_140 rfl rfl ?_
                refine q_iconst (v := 4) C dX7_guildOf_141 (by decide) ?_
                refine q_icmp_ne (tgt := 149) C dX7_guildOf_142 (by decide) (fun _ => ?_) (fun h9 => absurd h9 (by decide))
                refine q_iconst (v := 4) C dX7_guildOf_149 (by decide) ?_
                refine q_icmp_ne (tgt := 157) C dX7_guildOf_150 (by decide)  (fun c_150 => ?_) (fun c_150 => ?_)
                · refine q_iconst (v := 0) C dX7_guildOf_157 (by decide) ?_
                  refine q_iadd C dX7_guildOf_158 ?_
                  refine q_istore_n (lv' := [(3, .int ((q_sum (uM_fMo S g 4) i_111) + 0)), (0, .ref 112), (1, .int (nI g)), (2, .int 5), (4, .int (nI i_111))]) C dX7_guildOf_159 rfl (by decide) rfl ?_
                  refine q_iinc (v := nI (i_111 + 1)) (lv' := [(4, .int (nI (i_111 + 1))), (3, .int ((q_sum (uM_fMo S g 4) i_111) + 0)), (0, .ref 112), (1, .int (nI g)), (2, .int 5)]) C dX7_guildOf_160 rfl (nI_add _ _) (by decide) rfl ?_
                  refine q_goto (tgt := 111) C dX7_guildOf_163 (by decide) ?_
                  exact q_V_to (ih_111 (i_111 + 1) (by omega)) ⟨rfl, rfl, rfl, q_iv (by simp [q_sum, uM_fMo, if_pos h_2, h_2, uN_nI (show g < 2 ^ 31 by omega), if_pos h_15, h_15, uN_nI (show 5 < 2 ^ 31 by omega), c_119, Nat.not_le.mpr c_119, if_pos h_127, h_127, c_150]), rfl, trivial⟩ rfl
                · refine q_iconst (v := 1) C dX7_guildOf_153 (by decide) ?_
                  refine q_goto (tgt := 158) C dX7_guildOf_154 (by decide) ?_
                  refine q_iadd C dX7_guildOf_158 ?_
                  refine q_istore_n (lv' := [(3, .int ((q_sum (uM_fMo S g 4) i_111) + 1)), (0, .ref 112), (1, .int (nI g)), (2, .int 5), (4, .int (nI i_111))]) C dX7_guildOf_159 rfl (by decide) rfl ?_
                  refine q_iinc (v := nI (i_111 + 1)) (lv' := [(4, .int (nI (i_111 + 1))), (3, .int ((q_sum (uM_fMo S g 4) i_111) + 1)), (0, .ref 112), (1, .int (nI g)), (2, .int 5)]) C dX7_guildOf_160 rfl (nI_add _ _) (by decide) rfl ?_
                  refine q_goto (tgt := 111) C dX7_guildOf_163 (by decide) ?_
                  exact q_V_to (ih_111 (i_111 + 1) (by omega)) ⟨rfl, rfl, rfl, q_iv (by simp [q_sum, uM_fMo, if_pos h_2, h_2, uN_nI (show g < 2 ^ 31 by omega), if_pos h_15, h_15, uN_nI (show 5 < 2 ^ 31 by omega), c_119, Nat.not_le.mpr c_119, if_pos h_127, h_127, c_150]), rfl, trivial⟩ rfl
              · refine q_ci2 C (q_Fi.cv (if_neg h_127) (c_X7_isOf l (q_p S 112 6 0) i_111 (by omega) g (by omega))) myX7_isOf mlX7_66 q_s112 ⟨by decide, by decide⟩ (Nat.le_of_ble_eq_true rfl) dX7_guildOf_127 ?_
                refine q_if_eq (tgt := 157) C dX7_guildOf_130 (by decide) (fun _ => ?_) (fun h9 => absurd h9 (by decide))
                refine q_iconst (v := 0) C dX7_guildOf_157 (by decide) ?_
                refine q_iadd C dX7_guildOf_158 ?_
                refine q_istore_n (lv' := [(3, .int ((q_sum (uM_fMo S g 4) i_111) + 0)), (0, .ref 112), (1, .int (nI g)), (2, .int 5), (4, .int (nI i_111))]) C dX7_guildOf_159 rfl (by decide) rfl ?_
                refine q_iinc (v := nI (i_111 + 1)) (lv' := [(4, .int (nI (i_111 + 1))), (3, .int ((q_sum (uM_fMo S g 4) i_111) + 0)), (0, .ref 112), (1, .int (nI g)), (2, .int 5)]) C dX7_guildOf_160 rfl (nI_add _ _) (by decide) rfl ?_
                refine q_goto (tgt := 111) C dX7_guildOf_163 (by decide) ?_
                exact q_V_to (ih_111 (i_111 + 1) (by omega)) ⟨rfl, rfl, rfl, q_iv (by simp [q_sum, uM_fMo, if_pos h_2, h_2, uN_nI (show g < 2 ^ 31 by omega), if_pos h_15, h_15, uN_nI (show 5 < 2 ^ 31 by omega), c_119, Nat.not_le.mpr c_119, if_neg h_127, h_127, Decidable.not_not.mp h_127]), rfl, trivial⟩ rfl
          exact q_V_to (loop_111 (M - 0) 0 (by omega)) ⟨rfl, rfl, rfl, rfl, rfl, trivial⟩ rfl
    · refine q_si3 C (q_Fi.cv (if_neg h_15) (c_X7_in l S v 0 5)) msX7_in rfl mlX7_58 ⟨by decide, by decide⟩ (Nat.le_of_ble_eq_true rfl) dX7_guildOf_15 ?_
      refine q_if_ne (tgt := 25) C dX7_guildOf_18 (by decide) (fun h9 => absurd h9 (by decide)) (fun _ => ?_)
      refine q_iconst (v := 2) C dX7_guildOf_21 (by decide) ?_
      refine q_goto (tgt := 26) C dX7_guildOf_22 (by decide) ?_
      refine q_put (ty9 := .int) C flX7_36 q_s112 rfl (fun _ _ _ h => by cases h; exact ⟨rfl, by decide +kernel⟩) rfl rfl dX7_guildOf_26 ?_
      refine q_aload_n C dX7_guildOf_29 rfl rfl ?_
      refine q_getI (x := 2) C flX7_36 q_s112 rfl dX7_guildOf_30 rfl ?_
      refine q_if_le (tgt := 38) C dX7_guildOf_33 (by decide) (fun h9 => absurd h9 (by decide)) (fun _ => ?_)
      refine q_iconst (v := 0) C dX7_guildOf_36 (by decide) ?_
      exact hret _ _ _ _ dX7_guildOf_37 (by first | (simp [uMq_guildOf, uM_bad, if_pos h_2, h_2, uN_nI (show g < 2 ^ 31 by omega), if_neg h_15, h_15]; done) | (simp [uMq_guildOf, uM_bad, if_pos h_2, h_2, uN_nI (show g < 2 ^ 31 by omega), if_neg h_15, h_15]; rfl)) (by simp [uMq_guildOf, uM_bad, if_pos h_2, h_2, uN_nI (show g < 2 ^ 31 by omega), if_neg h_15, h_15])
  · refine q_si1 C (q_Fi.cv (if_neg h_2) (c_X7_isGuild l S y)) msX7_isGuild rfl mlX7_95 ⟨by decide, by decide⟩ (Nat.le_of_ble_eq_true rfl) dX7_guildOf_2 ?_
    refine q_if_ne (tgt := 12) C dX7_guildOf_5 (by decide) (fun h9 => absurd h9 (by decide)) (fun _ => ?_)
    refine q_iconst (v := 1) C dX7_guildOf_8 (by decide) ?_
    refine q_goto (tgt := 26) C dX7_guildOf_9 (by decide) ?_
    refine q_put (ty9 := .int) C flX7_36 q_s112 rfl (fun _ _ _ h => by cases h; exact ⟨rfl, by decide +kernel⟩) rfl rfl dX7_guildOf_26 ?_
    refine q_aload_n C dX7_guildOf_29 rfl rfl ?_
    refine q_getI (x := 1) C flX7_36 q_s112 rfl dX7_guildOf_30 rfl ?_
    refine q_if_le (tgt := 38) C dX7_guildOf_33 (by decide) (fun h9 => absurd h9 (by decide)) (fun _ => ?_)
    refine q_iconst (v := 0) C dX7_guildOf_36 (by decide) ?_
    exact hret _ _ _ _ dX7_guildOf_37 (by first | (simp [uMq_guildOf, uM_bad, if_neg h_2, h_2]; done) | (simp [uMq_guildOf, uM_bad, if_neg h_2, h_2]; rfl)) (by simp [uMq_guildOf, uM_bad, if_neg h_2, h_2])
theorem c_X7_canLearn (l : Launch) (S : q_St) (M : Nat) (hM : S 113 0 = nI M) (hM8 : M ≤ 8) (y : Int32) (b : Int32) : q_Fi l yX7_canLearn kX7_canLearn 4 [.ref 112, .int y, .int b] S ((uMq_learn S M y).1) ((uMq_learn S M y).2) := by
  refine q_Fi_of (maxL := 6) rfl (by decide +kernel) (fun ad => Nat.le_of_ble_eq_true rfl) (by unfold uMq_learn; split; exact uO_b_nb _; exact uM_bad_nb _ _) ?_
  intro K C hret
  have C : q_Cx K cX7_canLearn RX7 4 6 := C
  show q_V l K 0 [(0, .ref 112), (1, .int y), (2, .int b)] [] S
  refine q_aload_n C dX7_canLearn_0 rfl rfl ?_
  refine q_iload_n C dX7_canLearn_1 rfl rfl ?_
  by_cases h_2 : 0 ≤ y ∧ y < 6
  · refine q_si1 C (q_Fi.cv (if_pos h_2) (c_X7_isGuild l S y)) msX7_isGuild rfl mlX7_95 ⟨by decide, by decide⟩ (Nat.le_of_ble_eq_true rfl) dX7_canLearn_2 ?_
    obtain ⟨g, hg6, rfl⟩ := uK_okG h_2
    refine q_if_eq (tgt := 12) C dX7_canLearn_5 (by decide) (fun h9 => absurd h9 (by decide)) (fun _ => ?_)
    refine q_iconst (v := 0) C dX7_canLearn_8 (by decide) ?_
    refine q_goto (tgt := 13) C dX7_canLearn_9 (by decide) ?_
    refine q_put (ty9 := .int) C flX7_36 q_s112 rfl (fun _ _ _ h => by cases h; exact ⟨rfl, by decide +kernel⟩) rfl rfl dX7_canLearn_13 ?_
    refine q_aload_n C dX7_canLearn_16 rfl rfl ?_
    refine q_getI (x := 0) C flX7_36 q_s112 rfl dX7_canLearn_17 rfl ?_
    refine q_if_le (tgt := 27) C dX7_canLearn_20 (by decide) (fun _ => ?_) (fun h9 => absurd h9 (by decide))
    refine q_aload_n C dX7_canLearn_27 rfl rfl ?_
    refine q_iload_n C dX7_canLearn_28 rfl rfl ?_
    rcases uM_doubt_cs S M g with hd_29 | ⟨d, hdM, hd_29, hd6, hd7⟩
    · refine q_ci1 C (q_Fi.cv hd_29 (c_X7_doubtOf l (q_p S 112 6 0) M hM hM8 g (by omega))) myX7_doubtOf mlX7_107 q_s112 ⟨by decide, by decide⟩ (Nat.le_of_ble_eq_true rfl) dX7_canLearn_29 ?_
      refine q_istore_n (lv' := [(3, .int (-1)), (0, .ref 112), (1, .int (nI g)), (2, .int b)]) C dX7_canLearn_32 rfl (by decide) rfl ?_
      refine q_iconst (v := 0) C dX7_canLearn_33 (by decide) ?_
      refine q_istore (lv' := [(4, .int 0), (3, .int (-1)), (0, .ref 112), (1, .int (nI g)), (2, .int b)]) C dX7_canLearn_34 (by decide) rfl ?_
      refine q_iconst (v := 0) C dX7_canLearn_36 (by decide) ?_
      refine q_istore (lv' := [(5, .int 0), (4, .int 0), (3, .int (-1)), (0, .ref 112), (1, .int (nI g)), (2, .int b)]) C dX7_canLearn_37 (by decide) rfl ?_
      refine q_iload C dX7_canLearn_39 rfl ?_
      refine q_bipush (v := 6) C dX7_canLearn_41 (by decide) ?_
      refine q_icmp_ge (tgt := 106) C dX7_canLearn_43 (by decide) (fun h9 => absurd h9 (by decide)) (fun _ => ?_)
      refine q_iload_n C dX7_canLearn_46 rfl rfl ?_
      refine q_if_lt (tgt := 106) C dX7_canLearn_47 (by decide) (fun _ => ?_) (fun h9 => absurd h9 (by decide))
      refine q_iload C dX7_canLearn_106 rfl ?_
      exact hret _ _ _ _ dX7_canLearn_108 (by simp [uMq_learn, uM_learn, uM_bad, uO_b, if_pos h_2, h_2, uN_nI (show g < 2 ^ 31 by omega), hd_29]) (by simp [uMq_learn, uM_bad, if_pos h_2, h_2, uN_nI (show g < 2 ^ 31 by omega), hd_29])
    · refine q_ci1 C (q_Fi.cv hd_29 (c_X7_doubtOf l (q_p S 112 6 0) M hM hM8 g (by omega))) myX7_doubtOf mlX7_107 q_s112 ⟨by decide, by decide⟩ (Nat.le_of_ble_eq_true rfl) dX7_canLearn_29 ?_
      refine q_istore_n (lv' := [(3, .int (nI d)), (0, .ref 112), (1, .int (nI g)), (2, .int b)]) C dX7_canLearn_32 rfl (by decide) rfl ?_
      refine q_iconst (v := 0) C dX7_canLearn_33 (by decide) ?_
      refine q_istore (lv' := [(4, .int 0), (3, .int (nI d)), (0, .ref 112), (1, .int (nI g)), (2, .int b)]) C dX7_canLearn_34 (by decide) rfl ?_
      refine q_iconst (v := 0) C dX7_canLearn_36 (by decide) ?_
      refine q_istore (lv' := [(5, .int 0), (4, .int 0), (3, .int (nI d)), (0, .ref 112), (1, .int (nI g)), (2, .int b)]) C dX7_canLearn_37 (by decide) rfl ?_
      by_cases hz : S 113 (12 + g) = 1
      · refine q_iload C dX7_canLearn_39 rfl ?_
        refine q_bipush (v := 6) C dX7_canLearn_41 (by decide) ?_
        refine q_icmp_ge (tgt := 106) C dX7_canLearn_43 (by decide) (fun h9 => absurd h9 (by decide)) (fun _ => ?_)
        refine q_iload_n C dX7_canLearn_46 rfl rfl ?_
        refine q_if_ltN (a := d) (tgt := 106) C dX7_canLearn_47 (by decide) rfl (by omega) (fun c_47 => c_47.elim) (fun c_47 => ?_)
        refine q_aload_n C dX7_canLearn_50 rfl rfl ?_
        refine q_iload_n C dX7_canLearn_51 rfl rfl ?_
        refine q_ci1 C (q_Fi.cv (if_pos hz) (c_X7_isAsleep l (q_p S 112 6 0) g (by omega))) myX7_isAsleep mlX7_113 q_s112 ⟨by decide, by decide⟩ (Nat.le_of_ble_eq_true rfl) dX7_canLearn_52 ?_
        refine q_if_ne (tgt := 106) C dX7_canLearn_55 (by decide) (fun _ => ?_) (fun h9 => absurd h9 (by decide))
        refine q_iload C dX7_canLearn_106 rfl ?_
        exact hret _ _ _ _ dX7_canLearn_108 (by simp [uMq_learn, uM_learn, uM_bad, uO_b, if_pos h_2, h_2, uN_nI (show g < 2 ^ 31 by omega), hd_29, uN_nI (show d < 2 ^ 31 by omega), uC_dne (show d < 2 ^ 31 by omega), hz]) (by simp [uMq_learn, uM_bad, if_pos h_2, h_2, uN_nI (show g < 2 ^ 31 by omega), hd_29, uN_nI (show d < 2 ^ 31 by omega), uC_dne (show d < 2 ^ 31 by omega), hz])
      · have loop_39 : ∀ (n_39 i_39 : Nat), i_39 + n_39 = 6 → q_V l K 39 [(0, .ref 112), (1, .int (nI g)), (2, .int b), (3, .int (nI d)), (4, .int (uO_b (q_upto (uM_pLearn S d) i_39))), (5, .int (nI i_39))] [] (q_p S 112 6 0) := by
          intro n_39
          induction n_39 with
          | zero =>
            intro i_39 hi_39
            have e_39 : i_39 = 6 := by omega
            refine q_iload C dX7_canLearn_39 rfl ?_
            refine q_bipush (v := 6) C dX7_canLearn_41 (by decide) ?_
            refine q_icmp_geN (a := i_39) (b := 6) (tgt := 106) C dX7_canLearn_43 (by decide) rfl rfl (by omega) (by omega) (fun c_43 => ?_) (fun c_43 => absurd c_43 (by omega))
            refine q_iload C dX7_canLearn_106 rfl ?_
            exact hret _ _ _ _ dX7_canLearn_108 (by rw [e_39]; simp [uMq_learn, uM_learn, if_pos h_2, h_2, uN_nI (show g < 2 ^ 31 by omega), hd_29, uN_nI (show d < 2 ^ 31 by omega), uC_dne (show d < 2 ^ 31 by omega), hz, c_43, Nat.not_lt.mpr c_43]) (by simp [uMq_learn, if_pos h_2, h_2, uN_nI (show g < 2 ^ 31 by omega), hd_29, uN_nI (show d < 2 ^ 31 by omega), uC_dne (show d < 2 ^ 31 by omega), hz, c_43, Nat.not_lt.mpr c_43])
          | succ n_39 ih_39 =>
            intro i_39 hi_39
            refine q_iload C dX7_canLearn_39 rfl ?_
            refine q_bipush (v := 6) C dX7_canLearn_41 (by decide) ?_
            refine q_icmp_geN (a := i_39) (b := 6) (tgt := 106) C dX7_canLearn_43 (by decide) rfl rfl (by omega) (by omega) (fun c_43 => absurd c_43 (by omega)) (fun c_43 => ?_)
            refine q_iload_n C dX7_canLearn_46 rfl rfl ?_
            refine q_if_ltN (a := d) (tgt := 106) C dX7_canLearn_47 (by decide) rfl (by omega) (fun c_47 => c_47.elim) (fun c_47 => ?_)
            refine q_aload_n C dX7_canLearn_50 rfl rfl ?_
            refine q_iload_n C dX7_canLearn_51 rfl rfl ?_
            refine q_ci1 C (q_Fi.cv (if_neg hz) (c_X7_isAsleep l (q_p S 112 6 0) g (by omega))) myX7_isAsleep mlX7_113 q_s112 ⟨by decide, by decide⟩ (Nat.le_of_ble_eq_true rfl) dX7_canLearn_52 ?_
            refine q_if_ne (tgt := 106) C dX7_canLearn_55 (by decide) (fun h9 => absurd h9 (by decide)) (fun _ => ?_)
            rcases q_bc (q_upto (uM_pLearn S d) i_39) with hb | hb
            · refine q_V_to (lv' := [(0, .ref 112), (1, .int (nI g)), (2, .int b), (3, .int (nI d)), (4, .int 0), (5, .int (nI i_39))]) ?_ ⟨rfl, rfl, rfl, rfl, q_iv (congrArg uO_b hb), rfl, trivial⟩ rfl
              refine q_iload C dX7_canLearn_58 rfl ?_
              refine q_if_ne (tgt := 93) C dX7_canLearn_60 (by decide) (fun h9 => absurd h9 (by decide)) (fun _ => ?_)
              refine q_aload_n C dX7_canLearn_63 rfl rfl ?_
              refine q_iload_n C dX7_canLearn_64 rfl rfl ?_
              refine q_iload C dX7_canLearn_65 rfl ?_
              by_cases h_67 : S 113 (32 + 14 * d + 2 + i_39) ≠ 0
              · refine q_ci2 C (q_Fi.cv (if_pos h_67) (c_X7_isOf l (q_p S 112 6 0) d (by omega) i_39 (by omega))) myX7_isOf mlX7_66 q_s112 ⟨by decide, by decide⟩ (Nat.le_of_ble_eq_true rfl) dX7_canLearn_67 ?_
                refine q_if_eq (tgt := 97) C dX7_canLearn_70 (by decide) (fun h9 => absurd h9 (by decide)) (fun _ => ?_)
                refine q_aload_n C dX7_canLearn_73 rfl rfl ?_
                refine q_iload C dX7_canLearn_74 rfl ?_
                by_cases h_76 : S 113 (12 + i_39) = 1
                · refine q_ci1 C (q_Fi.cv (if_pos h_76) (c_X7_isAsleep l (q_p S 112 6 0) i_39 (by omega))) myX7_isAsleep mlX7_113 q_s112 ⟨by decide, by decide⟩ (Nat.le_of_ble_eq_true rfl) dX7_canLearn_76 ?_
                  refine q_if_ne (tgt := 97) C dX7_canLearn_79 (by decide) (fun _ => ?_) (fun h9 => absurd h9 (by decide))
                  refine q_iconst (v := 0) C dX7_canLearn_97 (by decide) ?_
                  refine q_istore (lv' := [(4, .int 0), (0, .ref 112), (1, .int (nI g)), (2, .int b), (3, .int (nI d)), (5, .int (nI i_39))]) C dX7_canLearn_98 (by decide) rfl ?_
                  refine q_iinc (v := nI (i_39 + 1)) (lv' := [(5, .int (nI (i_39 + 1))), (4, .int 0), (0, .ref 112), (1, .int (nI g)), (2, .int b), (3, .int (nI d))]) C dX7_canLearn_100 rfl (nI_add _ _) (by decide) rfl ?_
                  refine q_goto (tgt := 39) C dX7_canLearn_103 (by decide) ?_
                  exact q_V_to (ih_39 (i_39 + 1) (by omega)) ⟨rfl, rfl, rfl, rfl, q_iv (by simp [q_upto, uM_pLearn, uO_b, if_pos h_2, h_2, uN_nI (show g < 2 ^ 31 by omega), hd_29, uN_nI (show d < 2 ^ 31 by omega), uC_dne (show d < 2 ^ 31 by omega), hz, c_43, Nat.not_le.mpr c_43, hb, if_pos h_67, h_67, if_pos h_76, h_76]), rfl, trivial⟩ rfl
                · refine q_ci1 C (q_Fi.cv (if_neg h_76) (c_X7_isAsleep l (q_p S 112 6 0) i_39 (by omega))) myX7_isAsleep mlX7_113 q_s112 ⟨by decide, by decide⟩ (Nat.le_of_ble_eq_true rfl) dX7_canLearn_76 ?_
                  refine q_if_ne (tgt := 97) C dX7_canLearn_79 (by decide) (fun h9 => absurd h9 (by decide)) (fun _ => ?_)
                  refine q_aload_n C dX7_canLearn_82 rfl rfl ?_
                  refine q_iload_n C dX7_canLearn_83 rfl rfl ?_
                  refine q_iload C dX7_canLearn_84 rfl ?_
                  refine q_ci2 C (q_Fi.cv (v' := S 113 (32 + 14 * d + 8 + i_39)) rfl (c_X7_answerOf l (q_p S 112 6 0) d (by omega) i_39 (by omega))) myX7_answerOf mlX7_70 q_s112 ⟨by decide, by decide⟩ (Nat.le_of_ble_eq_true rfl) dX7_canLearn_86 ?_
                  refine q_iconst (v := 1) C dX7_canLearn_89 (by decide) ?_
                  refine q_icmp_eq (tgt := 97) C dX7_canLearn_90 (by decide)  (fun c_90 => ?_) (fun c_90 => ?_)
                  · refine q_iconst (v := 0) C dX7_canLearn_97 (by decide) ?_
                    refine q_istore (lv' := [(4, .int 0), (0, .ref 112), (1, .int (nI g)), (2, .int b), (3, .int (nI d)), (5, .int (nI i_39))]) C dX7_canLearn_98 (by decide) rfl ?_
                    refine q_iinc (v := nI (i_39 + 1)) (lv' := [(5, .int (nI (i_39 + 1))), (4, .int 0), (0, .ref 112), (1, .int (nI g)), (2, .int b), (3, .int (nI d))]) C dX7_canLearn_100 rfl (nI_add _ _) (by decide) rfl ?_
                    refine q_goto (tgt := 39) C dX7_canLearn_103 (by decide) ?_
                    exact q_V_to (ih_39 (i_39 + 1) (by omega)) ⟨rfl, rfl, rfl, rfl, q_iv (by simp [q_upto, uM_pLearn, uO_b, if_pos h_2, h_2, uN_nI (show g < 2 ^ 31 by omega), hd_29, uN_nI (show d < 2 ^ 31 by omega), uC_dne (show d < 2 ^ 31 by omega), hz, c_43, Nat.not_le.mpr c_43, hb, if_pos h_67, h_67, if_neg h_76, h_76, c_90]), rfl, trivial⟩ rfl
                  · refine q_iconst (v := 1) C dX7_canLearn_93 (by decide) ?_
                    refine q_goto (tgt := 98) C dX7_canLearn_94 (by decide) ?_
                    refine q_istore (lv' := [(4, .int 1), (0, .ref 112), (1, .int (nI g)), (2, .int b), (3, .int (nI d)), (5, .int (nI i_39))]) C dX7_canLearn_98 (by decide) rfl ?_
                    refine q_iinc (v := nI (i_39 + 1)) (lv' := [(5, .int (nI (i_39 + 1))), (4, .int 1), (0, .ref 112), (1, .int (nI g)), (2, .int b), (3, .int (nI d))]) C dX7_canLearn_100 rfl (nI_add _ _) (by decide) rfl ?_
                    refine q_goto (tgt := 39) C dX7_canLearn_103 (by decide) ?_
                    exact q_V_to (ih_39 (i_39 + 1) (by omega)) ⟨rfl, rfl, rfl, rfl, q_iv (by simp [q_upto, uM_pLearn, uO_b, if_pos h_2, h_2, uN_nI (show g < 2 ^ 31 by omega), hd_29, uN_nI (show d < 2 ^ 31 by omega), uC_dne (show d < 2 ^ 31 by omega), hz, c_43, Nat.not_le.mpr c_43, hb, if_pos h_67, h_67, if_neg h_76, h_76, c_90]), rfl, trivial⟩ rfl
              · refine q_ci2 C (q_Fi.cv (if_neg h_67) (c_X7_isOf l (q_p S 112 6 0) d (by omega) i_39 (by omega))) myX7_isOf mlX7_66 q_s112 ⟨by decide, by decide⟩ (Nat.le_of_ble_eq_true rfl) dX7_canLearn_67 ?_
                refine q_if_eq (tgt := 97) C dX7_canLearn_70 (by decide) (fun _ => ?_) (fun h9 => absurd h9 (by decide))
                refine q_iconst (v := 0) C dX7_canLearn_97 (by decide) ?_
                refine q_istore (lv' := [(4, .int 0), (0, .ref 112), (1, .int (nI g)), (2, .int b), (3, .int (nI d)), (5, .int (nI i_39))]) C dX7_canLearn_98 (by decide) rfl ?_
                refine q_iinc (v := nI (i_39 + 1)) (lv' := [(5, .int (nI (i_39 + 1))), (4, .int 0), (0, .ref 112), (1, .int (nI g)), (2, .int b), (3, .int (nI d))]) C dX7_canLearn_100 rfl (nI_add _ _) (by decide) rfl ?_
                refine q_goto (tgt := 39) C dX7_canLearn_103 (by decide) ?_
                exact q_V_to (ih_39 (i_39 + 1) (by omega)) ⟨rfl, rfl, rfl, rfl, q_iv (by simp [q_upto, uM_pLearn, uO_b, if_pos h_2, h_2, uN_nI (show g < 2 ^ 31 by omega), hd_29, uN_nI (show d < 2 ^ 31 by omega), uC_dne (show d < 2 ^ 31 by omega), hz, c_43, Nat.not_le.mpr c_43, hb, if_neg h_67, h_67, Decidable.not_not.mp h_67]), rfl, trivial⟩ rfl
            · refine q_V_to (lv' := [(0, .ref 112), (1, .int (nI g)), (2, .int b), (3, .int (nI d)), (4, .int 1), (5, .int (nI i_39))]) ?_ ⟨rfl, rfl, rfl, rfl, q_iv (congrArg uO_b hb), rfl, trivial⟩ rfl
              refine q_iload C dX7_canLearn_58 rfl ?_
              refine q_if_ne (tgt := 93) C dX7_canLearn_60 (by decide) (fun _ => ?_) (fun h9 => absurd h9 (by decide))
              refine q_iconst (v := 1) C dX7_canLearn_93 (by decide) ?_
              refine q_goto (tgt := 98) C dX7_canLearn_94 (by decide) ?_
              refine q_istore (lv' := [(4, .int 1), (0, .ref 112), (1, .int (nI g)), (2, .int b), (3, .int (nI d)), (5, .int (nI i_39))]) C dX7_canLearn_98 (by decide) rfl ?_
              refine q_iinc (v := nI (i_39 + 1)) (lv' := [(5, .int (nI (i_39 + 1))), (4, .int 1), (0, .ref 112), (1, .int (nI g)), (2, .int b), (3, .int (nI d))]) C dX7_canLearn_100 rfl (nI_add _ _) (by decide) rfl ?_
              refine q_goto (tgt := 39) C dX7_canLearn_103 (by decide) ?_
              exact q_V_to (ih_39 (i_39 + 1) (by omega)) ⟨rfl, rfl, rfl, rfl, q_iv (by simp [q_upto, uM_pLearn, uO_b, if_pos h_2, h_2, uN_nI (show g < 2 ^ 31 by omega), hd_29, uN_nI (show d < 2 ^ 31 by omega), uC_dne (show d < 2 ^ 31 by omega), hz, c_43, Nat.not_le.mpr c_43, hb]), rfl, trivial⟩ rfl
        exact q_V_to (loop_39 (6 - 0) 0 (by omega)) ⟨rfl, rfl, rfl, rfl, rfl, rfl, trivial⟩ rfl
  · refine q_si1 C (q_Fi.cv (if_neg h_2) (c_X7_isGuild l S y)) msX7_isGuild rfl mlX7_95 ⟨by decide, by decide⟩ (Nat.le_of_ble_eq_true rfl) dX7_canLearn_2 ?_
    refine q_if_eq (tgt := 12) C dX7_canLearn_5 (by decide) (fun _ => ?_) (fun h9 => absurd h9 (by decide))
    refine q_iconst (v := 1) C dX7_canLearn_12 (by decide) ?_
    refine q_put (ty9 := .int) C flX7_36 q_s112 rfl (fun _ _ _ h => by cases h; exact ⟨rfl, by decide +kernel⟩) rfl rfl dX7_canLearn_13 ?_
    refine q_aload_n C dX7_canLearn_16 rfl rfl ?_
    refine q_getI (x := 1) C flX7_36 q_s112 rfl dX7_canLearn_17 rfl ?_
    refine q_if_le (tgt := 27) C dX7_canLearn_20 (by decide) (fun h9 => absurd h9 (by decide)) (fun _ => ?_)
    refine q_iconst (v := (-1)) C dX7_canLearn_23 (by decide) ?_
    refine q_goto (tgt := 32) C dX7_canLearn_24 (by decide) ?_
    refine q_istore_n (lv' := [(3, .int (-1)), (0, .ref 112), (1, .int y), (2, .int b)]) C dX7_canLearn_32 rfl (by decide) rfl ?_
    refine q_iconst (v := 0) C dX7_canLearn_33 (by decide) ?_
    refine q_istore (lv' := [(4, .int 0), (3, .int (-1)), (0, .ref 112), (1, .int y), (2, .int b)]) C dX7_canLearn_34 (by decide) rfl ?_
    refine q_iconst (v := 0) C dX7_canLearn_36 (by decide) ?_
    refine q_istore (lv' := [(5, .int 0), (4, .int 0), (3, .int (-1)), (0, .ref 112), (1, .int y), (2, .int b)]) C dX7_canLearn_37 (by decide) rfl ?_
    refine q_iload C dX7_canLearn_39 rfl ?_
    refine q_bipush (v := 6) C dX7_canLearn_41 (by decide) ?_
    refine q_icmp_ge (tgt := 106) C dX7_canLearn_43 (by decide) (fun h9 => absurd h9 (by decide)) (fun _ => ?_)
    refine q_iload_n C dX7_canLearn_46 rfl rfl ?_
    refine q_if_lt (tgt := 106) C dX7_canLearn_47 (by decide) (fun _ => ?_) (fun h9 => absurd h9 (by decide))
    refine q_iload C dX7_canLearn_106 rfl ?_
    exact hret _ _ _ _ dX7_canLearn_108 (by simp [uMq_learn, uM_learn, uM_bad, uO_b, if_neg h_2, h_2]) (by simp [uMq_learn, uM_bad, if_neg h_2, h_2])
theorem c_X7_ranked (l : Launch) (S : q_St) (x : Int32) : q_Fi l yX7_ranked kX7_ranked 2 [.ref 112, .int x] S ((uMq_ranked S x).1) ((uMq_ranked S x).2) := by
  refine q_Fi_of (maxL := 7) rfl (by decide +kernel) (fun ad => Nat.le_of_ble_eq_true rfl) rfl ?_
  intro K C hret
  have C : q_Cx K cX7_ranked RX7 2 7 := C
  show q_V l K 0 [(0, .ref 112), (1, .int x)] [] S
  refine q_aload_n C dX7_ranked_0 rfl rfl ?_
  refine q_iload_n C dX7_ranked_1 rfl rfl ?_
  refine q_iconst (v := 0) C dX7_ranked_2 (by decide) ?_
  refine q_iconst (v := 5) C dX7_ranked_3 (by decide) ?_
  by_cases h_4 : 0 ≤ x ∧ x ≤ 5
  · refine q_si3 C (q_Fi.cv (if_pos h_4) (c_X7_in l S x 0 5)) msX7_in rfl mlX7_58 ⟨by decide, by decide⟩ (Nat.le_of_ble_eq_true rfl) dX7_ranked_4 ?_
    refine q_if_eq (tgt := 14) C dX7_ranked_7 (by decide) (fun h9 => absurd h9 (by decide)) (fun _ => ?_)
    refine q_iconst (v := 0) C dX7_ranked_10 (by decide) ?_
    refine q_goto (tgt := 15) C dX7_ranked_11 (by decide) ?_
    refine q_put (ty9 := .int) C flX7_36 q_s112 rfl (fun _ _ _ h => by cases h; exact ⟨rfl, by decide +kernel⟩) rfl rfl dX7_ranked_15 ?_
    refine q_iconst (v := 0) C dX7_ranked_18 (by decide) ?_
    refine q_istore_n (lv' := [(2, .int 0), (0, .ref 112), (1, .int x)]) C dX7_ranked_19 rfl (by decide) rfl ?_
    refine q_iconst (v := 0) C dX7_ranked_20 (by decide) ?_
    refine q_istore_n (lv' := [(3, .int 0), (2, .int 0), (0, .ref 112), (1, .int x)]) C dX7_ranked_21 rfl (by decide) rfl ?_
    have loop_22 : ∀ (n_22 i_22 : Nat), i_22 + n_22 = 6 → q_V l K 22 [(0, .ref 112), (1, .int x), (2, .int (nI (uM_found S x i_22))), (3, .int (nI i_22))] [] (q_p S 112 6 0) := by
      intro n_22
      induction n_22 with
      | zero =>
        intro i_22 hi_22
        have e_22 : i_22 = 6 := by omega
        refine q_iload_n C dX7_ranked_22 rfl rfl ?_
        refine q_bipush (v := 6) C dX7_ranked_23 (by decide) ?_
        refine q_icmp_geN (a := i_22) (b := 6) (tgt := 120) C dX7_ranked_25 (by decide) rfl rfl (by omega) (by omega) (fun c_25 => ?_) (fun c_25 => absurd c_25 (by omega))
        refine q_iload_n C dX7_ranked_120 rfl rfl ?_
        exact hret _ _ _ _ dX7_ranked_121 (by rw [e_22]; simp [uMq_ranked, if_pos h_4, h_4, c_25, Nat.not_lt.mpr c_25]) (by simp [uMq_ranked, if_pos h_4, h_4, c_25, Nat.not_lt.mpr c_25])
      | succ n_22 ih_22 =>
        intro i_22 hi_22
        refine q_iload_n C dX7_ranked_22 rfl rfl ?_
        refine q_bipush (v := 6) C dX7_ranked_23 (by decide) ?_
        refine q_icmp_geN (a := i_22) (b := 6) (tgt := 120) C dX7_ranked_25 (by decide) rfl rfl (by omega) (by omega) (fun c_25 => absurd c_25 (by omega)) (fun c_25 => ?_)
        refine q_aload_n C dX7_ranked_28 rfl rfl ?_
        refine q_getI (x := 0) C flX7_36 q_s112 rfl dX7_ranked_29 rfl ?_
        refine q_if_ne (tgt := 120) C dX7_ranked_32 (by decide) (fun h9 => absurd h9 (by decide)) (fun _ => ?_)
        refine q_iconst (v := 0) C dX7_ranked_35 (by decide) ?_
        refine q_istore (lv' := [(4, .int 0), (0, .ref 112), (1, .int x), (2, .int (nI (uM_found S x i_22))), (3, .int (nI i_22))]) C dX7_ranked_36 (by decide) rfl ?_
        refine q_iconst (v := 0) C dX7_ranked_38 (by decide) ?_
        refine q_istore (lv' := [(5, .int 0), (4, .int 0), (0, .ref 112), (1, .int x), (2, .int (nI (uM_found S x i_22))), (3, .int (nI i_22))]) C dX7_ranked_39 (by decide) rfl ?_
        have loop_41 : ∀ (n_41 i_41 : Nat), i_41 + n_41 = 6 → q_V l K 41 [(0, .ref 112), (1, .int x), (2, .int (nI (uM_found S x i_22))), (3, .int (nI i_22)), (4, .int (q_sum (uM_fAh S i_22) i_41)), (5, .int (nI i_41))] [] (q_p S 112 6 0) := by
          intro n_41
          induction n_41 with
          | zero =>
            intro i_41 hi_41
            have e_41 : i_41 = 6 := by omega
            refine q_iload C dX7_ranked_41 rfl ?_
            refine q_bipush (v := 6) C dX7_ranked_43 (by decide) ?_
            refine q_icmp_geN (a := i_41) (b := 6) (tgt := 102) C dX7_ranked_45 (by decide) rfl rfl (by omega) (by omega) (fun c_45 => ?_) (fun c_45 => absurd c_45 (by omega))
            have a_102 : q_sum (uM_fAh S i_22) i_41 = uM_ahead S i_22 := by {rw [e_41]; rfl}
            refine q_V_to (lv' := [(0, .ref 112), (1, .int x), (2, .int (nI (uM_found S x i_22))), (3, .int (nI i_22)), (4, .int (uM_ahead S i_22)), (5, .int (nI i_41))]) ?_ ⟨rfl, rfl, rfl, rfl, q_iv a_102, rfl, trivial⟩ rfl
            refine q_iload C dX7_ranked_102 rfl ?_
            refine q_iload_n C dX7_ranked_104 rfl rfl ?_
            refine q_icmp_ne (tgt := 112) C dX7_ranked_105 (by decide)  (fun c_105 => ?_) (fun c_105 => ?_)
            · refine q_iload_n C dX7_ranked_112 rfl rfl ?_
              refine q_istore_n (lv' := [(2, .int (nI (uM_found S x i_22))), (0, .ref 112), (1, .int x), (3, .int (nI i_22)), (4, .int (uM_ahead S i_22)), (5, .int (nI i_41))]) C dX7_ranked_113 rfl (by decide) rfl ?_
              refine q_iinc (v := nI (i_22 + 1)) (lv' := [(3, .int (nI (i_22 + 1))), (2, .int (nI (uM_found S x i_22))), (0, .ref 112), (1, .int x), (4, .int (uM_ahead S i_22)), (5, .int (nI i_41))]) C dX7_ranked_114 rfl (nI_add _ _) (by decide) rfl ?_
              refine q_goto (tgt := 22) C dX7_ranked_117 (by decide) ?_
              exact q_V_to (ih_22 (i_22 + 1) (by omega)) ⟨rfl, rfl, q_iv (by simp [uM_found, if_pos h_4, h_4, c_25, Nat.not_le.mpr c_25, c_45, Nat.not_lt.mpr c_45, c_105]), rfl, trivial⟩ rfl
            · refine q_iload_n C dX7_ranked_108 rfl rfl ?_
              refine q_goto (tgt := 113) C dX7_ranked_109 (by decide) ?_
              refine q_istore_n (lv' := [(2, .int (nI i_22)), (0, .ref 112), (1, .int x), (3, .int (nI i_22)), (4, .int (uM_ahead S i_22)), (5, .int (nI i_41))]) C dX7_ranked_113 rfl (by decide) rfl ?_
              refine q_iinc (v := nI (i_22 + 1)) (lv' := [(3, .int (nI (i_22 + 1))), (2, .int (nI i_22)), (0, .ref 112), (1, .int x), (4, .int (uM_ahead S i_22)), (5, .int (nI i_41))]) C dX7_ranked_114 rfl (nI_add _ _) (by decide) rfl ?_
              refine q_goto (tgt := 22) C dX7_ranked_117 (by decide) ?_
              exact q_V_to (ih_22 (i_22 + 1) (by omega)) ⟨rfl, rfl, q_iv (by simp [uM_found, if_pos h_4, h_4, c_25, Nat.not_le.mpr c_25, c_45, Nat.not_lt.mpr c_45, c_105]), rfl, trivial⟩ rfl
          | succ n_41 ih_41 =>
            intro i_41 hi_41
            refine q_iload C dX7_ranked_41 rfl ?_
            refine q_bipush (v := 6) C dX7_ranked_43 (by decide) ?_
            refine q_icmp_geN (a := i_41) (b := 6) (tgt := 102) C dX7_ranked_45 (by decide) rfl rfl (by omega) (by omega) (fun c_45 => absurd c_45 (by omega)) (fun c_45 => ?_)
            refine q_aload_n C dX7_ranked_48 rfl rfl ?_
            refine q_getR C flX7_9 q_s112 rfl dX7_ranked_49 ?_
            refine q_bipush (v := 18) C dX7_ranked_52 (by decide) ?_
            refine q_iload C dX7_ranked_54 rfl ?_
            refine q_iaddN (a := 18) (b := i_41) C dX7_ranked_56 rfl rfl ?_
            refine q_ialdN (i := 18 + i_41) (x := S 113 (18 + i_41)) C rfl q_s113 (by omega) (by decide) dX7_ranked_57 rfl ?_
            refine q_aload_n C dX7_ranked_58 rfl rfl ?_
            refine q_getR C flX7_9 q_s112 rfl dX7_ranked_59 ?_
            refine q_bipush (v := 18) C dX7_ranked_62 (by decide) ?_
            refine q_iload_n C dX7_ranked_64 rfl rfl ?_
            refine q_iaddN (a := 18) (b := i_22) C dX7_ranked_65 rfl rfl ?_
            refine q_ialdN (i := 18 + i_22) (x := S 113 (18 + i_22)) C rfl q_s113 (by omega) (by decide) dX7_ranked_66 rfl ?_
            refine q_isub C dX7_ranked_67 ?_
            refine q_istore (lv' := [(6, .int ((S 113 (18 + i_41)) - (S 113 (18 + i_22)))), (0, .ref 112), (1, .int x), (2, .int (nI (uM_found S x i_22))), (3, .int (nI i_22)), (4, .int (q_sum (uM_fAh S i_22) i_41)), (5, .int (nI i_41))]) C dX7_ranked_68 (by decide) rfl ?_
            refine q_iload C dX7_ranked_70 rfl ?_
            refine q_iload C dX7_ranked_72 rfl ?_
            refine q_if_gt (tgt := 88) C dX7_ranked_74 (by decide)  (fun c_74 => ?_) (fun c_74 => ?_)
            · refine q_iconst (v := 1) C dX7_ranked_88 (by decide) ?_
              refine q_goto (tgt := 93) C dX7_ranked_89 (by decide) ?_
              refine q_iadd C dX7_ranked_93 ?_
              refine q_istore (lv' := [(4, .int ((q_sum (uM_fAh S i_22) i_41) + 1)), (6, .int ((S 113 (18 + i_41)) - (S 113 (18 + i_22)))), (0, .ref 112), (1, .int x), (2, .int (nI (uM_found S x i_22))), (3, .int (nI i_22)), (5, .int (nI i_41))]) C dX7_ranked_94 (by decide) rfl ?_
              refine q_iinc (v := nI (i_41 + 1)) (lv' := [(5, .int (nI (i_41 + 1))), (4, .int ((q_sum (uM_fAh S i_22) i_41) + 1)), (6, .int ((S 113 (18 + i_41)) - (S 113 (18 + i_22)))), (0, .ref 112), (1, .int x), (2, .int (nI (uM_found S x i_22))), (3, .int (nI i_22))]) C dX7_ranked_96 rfl (nI_add _ _) (by decide) rfl ?_
              refine q_goto (tgt := 41) C dX7_ranked_99 (by decide) ?_
              exact q_V_to (ih_41 (i_41 + 1) (by omega)) ⟨rfl, rfl, rfl, rfl, q_iv (by simp [q_sum, uM_fAh, if_pos h_4, h_4, c_25, Nat.not_le.mpr c_25, c_45, Nat.not_le.mpr c_45, c_74, Int32.not_le.mpr c_74, if_pos c_74]), rfl, trivial⟩ rfl
            · refine q_iload C dX7_ranked_77 rfl ?_
              refine q_if_ne (tgt := 92) C dX7_ranked_79 (by decide)  (fun c_79 => ?_) (fun c_79 => ?_)
              · refine q_iconst (v := 0) C dX7_ranked_92 (by decide) ?_
                refine q_iadd C dX7_ranked_93 ?_
                refine q_istore (lv' := [(4, .int ((q_sum (uM_fAh S i_22) i_41) + 0)), (6, .int ((S 113 (18 + i_41)) - (S 113 (18 + i_22)))), (0, .ref 112), (1, .int x), (2, .int (nI (uM_found S x i_22))), (3, .int (nI i_22)), (5, .int (nI i_41))]) C dX7_ranked_94 (by decide) rfl ?_
                refine q_iinc (v := nI (i_41 + 1)) (lv' := [(5, .int (nI (i_41 + 1))), (4, .int ((q_sum (uM_fAh S i_22) i_41) + 0)), (6, .int ((S 113 (18 + i_41)) - (S 113 (18 + i_22)))), (0, .ref 112), (1, .int x), (2, .int (nI (uM_found S x i_22))), (3, .int (nI i_22))]) C dX7_ranked_96 rfl (nI_add _ _) (by decide) rfl ?_
                refine q_goto (tgt := 41) C dX7_ranked_99 (by decide) ?_
                exact q_V_to (ih_41 (i_41 + 1) (by omega)) ⟨rfl, rfl, rfl, rfl, q_iv (by simp [q_sum, uM_fAh, if_pos h_4, h_4, c_25, Nat.not_le.mpr c_25, c_45, Nat.not_le.mpr c_45, c_74, Int32.not_lt.mpr c_74, if_neg (Int32.not_lt.mpr c_74), c_79]), rfl, trivial⟩ rfl
              · refine q_iload C dX7_ranked_82 rfl ?_
                refine q_iload_n C dX7_ranked_84 rfl rfl ?_
                refine q_icmp_geN (a := i_41) (b := i_22) (tgt := 92) C dX7_ranked_85 (by decide) rfl rfl (by omega) (by omega) (fun c_85 => ?_) (fun c_85 => ?_)
                · refine q_iconst (v := 0) C dX7_ranked_92 (by decide) ?_
                  refine q_iadd C dX7_ranked_93 ?_
                  refine q_istore (lv' := [(4, .int ((q_sum (uM_fAh S i_22) i_41) + 0)), (6, .int ((S 113 (18 + i_41)) - (S 113 (18 + i_22)))), (0, .ref 112), (1, .int x), (2, .int (nI (uM_found S x i_22))), (3, .int (nI i_22)), (5, .int (nI i_41))]) C dX7_ranked_94 (by decide) rfl ?_
                  refine q_iinc (v := nI (i_41 + 1)) (lv' := [(5, .int (nI (i_41 + 1))), (4, .int ((q_sum (uM_fAh S i_22) i_41) + 0)), (6, .int ((S 113 (18 + i_41)) - (S 113 (18 + i_22)))), (0, .ref 112), (1, .int x), (2, .int (nI (uM_found S x i_22))), (3, .int (nI i_22))]) C dX7_ranked_96 rfl (nI_add _ _) (by decide) rfl ?_
                  refine q_goto (tgt := 41) C dX7_ranked_99 (by decide) ?_
                  exact q_V_to (ih_41 (i_41 + 1) (by omega)) ⟨rfl, rfl, rfl, rfl, q_iv (by simp [q_sum, uM_fAh, if_pos h_4, h_4, c_25, Nat.not_le.mpr c_25, c_45, Nat.not_le.mpr c_45, c_74, Int32.not_lt.mpr c_74, if_neg (Int32.not_lt.mpr c_74), c_79, c_85, Nat.not_lt.mpr c_85]), rfl, trivial⟩ rfl
                · refine q_iconst (v := 1) C dX7_ranked_88 (by decide) ?_
                  refine q_goto (tgt := 93) C dX7_ranked_89 (by decide) ?_
                  refine q_iadd C dX7_ranked_93 ?_
                  refine q_istore (lv' := [(4, .int ((q_sum (uM_fAh S i_22) i_41) + 1)), (6, .int ((S 113 (18 + i_41)) - (S 113 (18 + i_22)))), (0, .ref 112), (1, .int x), (2, .int (nI (uM_found S x i_22))), (3, .int (nI i_22)), (5, .int (nI i_41))]) C dX7_ranked_94 (by decide) rfl ?_
                  refine q_iinc (v := nI (i_41 + 1)) (lv' := [(5, .int (nI (i_41 + 1))), (4, .int ((q_sum (uM_fAh S i_22) i_41) + 1)), (6, .int ((S 113 (18 + i_41)) - (S 113 (18 + i_22)))), (0, .ref 112), (1, .int x), (2, .int (nI (uM_found S x i_22))), (3, .int (nI i_22))]) C dX7_ranked_96 rfl (nI_add _ _) (by decide) rfl ?_
                  refine q_goto (tgt := 41) C dX7_ranked_99 (by decide) ?_
                  exact q_V_to (ih_41 (i_41 + 1) (by omega)) ⟨rfl, rfl, rfl, rfl, q_iv (by simp [q_sum, uM_fAh, if_pos h_4, h_4, c_25, Nat.not_le.mpr c_25, c_45, Nat.not_le.mpr c_45, c_74, Int32.not_lt.mpr c_74, if_neg (Int32.not_lt.mpr c_74), c_79, c_85, Nat.not_le.mpr c_85]), rfl, trivial⟩ rfl
        exact q_V_to (loop_41 (6 - 0) 0 (by omega)) ⟨rfl, rfl, rfl, rfl, rfl, rfl, trivial⟩ rfl
    exact q_V_to (loop_22 (6 - 0) 0 (by omega)) ⟨rfl, rfl, rfl, rfl, trivial⟩ rfl
  · refine q_si3 C (q_Fi.cv (if_neg h_4) (c_X7_in l S x 0 5)) msX7_in rfl mlX7_58 ⟨by decide, by decide⟩ (Nat.le_of_ble_eq_true rfl) dX7_ranked_4 ?_
    refine q_if_eq (tgt := 14) C dX7_ranked_7 (by decide) (fun _ => ?_) (fun h9 => absurd h9 (by decide))
    refine q_iconst (v := 1) C dX7_ranked_14 (by decide) ?_
    refine q_put (ty9 := .int) C flX7_36 q_s112 rfl (fun _ _ _ h => by cases h; exact ⟨rfl, by decide +kernel⟩) rfl rfl dX7_ranked_15 ?_
    refine q_iconst (v := 0) C dX7_ranked_18 (by decide) ?_
    refine q_istore_n (lv' := [(2, .int 0), (0, .ref 112), (1, .int x)]) C dX7_ranked_19 rfl (by decide) rfl ?_
    refine q_iconst (v := 0) C dX7_ranked_20 (by decide) ?_
    refine q_istore_n (lv' := [(3, .int 0), (2, .int 0), (0, .ref 112), (1, .int x)]) C dX7_ranked_21 rfl (by decide) rfl ?_
    refine q_iload_n C dX7_ranked_22 rfl rfl ?_
    refine q_bipush (v := 6) C dX7_ranked_23 (by decide) ?_
    refine q_icmp_ge (tgt := 120) C dX7_ranked_25 (by decide) (fun h9 => absurd h9 (by decide)) (fun _ => ?_)
    refine q_aload_n C dX7_ranked_28 rfl rfl ?_
    refine q_getI (x := 1) C flX7_36 q_s112 rfl dX7_ranked_29 rfl ?_
    refine q_if_ne (tgt := 120) C dX7_ranked_32 (by decide) (fun _ => ?_) (fun h9 => absurd h9 (by decide))
    refine q_iload_n C dX7_ranked_120 rfl rfl ?_
    exact hret _ _ _ _ dX7_ranked_121 (by simp [uMq_ranked, uM_bad, if_neg h_4, h_4]) (by simp [uMq_ranked, uM_bad, if_neg h_4, h_4])
theorem c_X7_coins (l : Launch) (S : q_St) (b : Int32) : q_Fi l yX7_coins kX7_coins 2 [.ref 112, .int b] S ((uMq_coins S).1) ((uMq_coins S).2) := by
  refine q_Fi_of (maxL := 2) rfl (by decide +kernel) (fun ad => Nat.le_of_ble_eq_true rfl) rfl ?_
  intro K C hret
  have C : q_Cx K cX7_coins RX7 2 2 := C
  show q_V l K 0 [(0, .ref 112), (1, .int b)] [] S
  refine q_aload_n C dX7_coins_0 rfl rfl ?_
  refine q_iconst (v := 0) C dX7_coins_1 (by decide) ?_
  refine q_put (ty9 := .int) C flX7_36 q_s112 rfl (fun _ _ _ h => by cases h; exact ⟨rfl, by decide +kernel⟩) rfl rfl dX7_coins_2 ?_
  refine q_aload_n C dX7_coins_5 rfl rfl ?_
  refine q_ci0 C (q_Fi.cv (v' := uM_coins S) rfl (c_X7_allCoins l (q_p S 112 6 0))) myX7_allCoins mlX7_158 q_s112 ⟨by decide, by decide⟩ (Nat.le_of_ble_eq_true rfl) dX7_coins_6 ?_
  exact hret _ _ _ _ dX7_coins_9 (by simp [uMq_coins, uM_bad, uM_coins, q_sum]) (by simp [uMq_coins, uM_bad, uM_coins, q_sum])
theorem c_X7_refusal (l : Launch) (S : q_St) (b : Int32) : q_Fi l yX7_refusal kX7_refusal 1 [.ref 112, .int b] S ((uMq_refusal S b).1) ((uMq_refusal S b).2) := by
  refine q_Fi_of (maxL := 2) rfl (by decide +kernel) (fun ad => Nat.le_of_ble_eq_true rfl) rfl ?_
  intro K C hret
  have C : q_Cx K cX7_refusal RX7 1 2 := C
  show q_V l K 0 [(0, .ref 112), (1, .int b)] [] S
  refine q_aload_n C dX7_refusal_0 rfl rfl ?_
  refine q_aload_n C dX7_refusal_1 rfl rfl ?_
  refine q_getI (x := S 112 7) C flX7_52 q_s112 rfl dX7_refusal_2 rfl ?_
  refine q_if_ne (tgt := 12) C dX7_refusal_5 (by decide)  (fun c_5 => ?_) (fun c_5 => ?_)
  · refine q_iconst (v := 0) C dX7_refusal_12 (by decide) ?_
    refine q_put (ty9 := .int) C flX7_36 q_s112 rfl (fun _ _ _ h => by cases h; exact ⟨rfl, by decide +kernel⟩) rfl rfl dX7_refusal_13 ?_
    refine q_aload_n C dX7_refusal_16 rfl rfl ?_
    refine q_getI (x := 0) C flX7_36 q_s112 rfl dX7_refusal_17 rfl ?_
    refine q_if_le (tgt := 27) C dX7_refusal_20 (by decide) (fun _ => ?_) (fun h9 => absurd h9 (by decide))
    refine q_iload_n C dX7_refusal_27 rfl rfl ?_
    refine q_if_eq (tgt := 38) C dX7_refusal_28 (by decide)  (fun c_28 => ?_) (fun c_28 => ?_)
    · refine q_aload_n C dX7_refusal_38 rfl rfl ?_
      refine q_getI (x := S 112 7) C flX7_52 q_s112 rfl dX7_refusal_39 rfl ?_
      exact hret _ _ _ _ dX7_refusal_42 (by simp [uMq_refusal, uM_bad, c_5, c_28]) (by simp [uMq_refusal, uM_bad, c_5, c_28])
    · refine q_aload_n C dX7_refusal_31 rfl rfl ?_
      refine q_getI (x := S 112 8) C flX7_55 q_s112 rfl dX7_refusal_32 rfl ?_
      refine q_goto (tgt := 42) C dX7_refusal_35 (by decide) ?_
      exact hret _ _ _ _ dX7_refusal_42 (by simp [uMq_refusal, uM_bad, c_5, c_28]) (by simp [uMq_refusal, uM_bad, c_5, c_28])
  · refine q_iconst (v := 1) C dX7_refusal_8 (by decide) ?_
    refine q_goto (tgt := 13) C dX7_refusal_9 (by decide) ?_
    refine q_put (ty9 := .int) C flX7_36 q_s112 rfl (fun _ _ _ h => by cases h; exact ⟨rfl, by decide +kernel⟩) rfl rfl dX7_refusal_13 ?_
    refine q_aload_n C dX7_refusal_16 rfl rfl ?_
    refine q_getI (x := 1) C flX7_36 q_s112 rfl dX7_refusal_17 rfl ?_
    refine q_if_le (tgt := 27) C dX7_refusal_20 (by decide) (fun h9 => absurd h9 (by decide)) (fun _ => ?_)
    refine q_iconst (v := 0) C dX7_refusal_23 (by decide) ?_
    refine q_goto (tgt := 42) C dX7_refusal_24 (by decide) ?_
    exact hret _ _ _ _ dX7_refusal_42 (by simp [uMq_refusal, uM_bad, c_5]) (by simp [uMq_refusal, uM_bad, c_5])
theorem c_X7_errorPosition (l : Launch) (S : q_St) : q_Fi l yX7_errorPosition kX7_errorPosition 1 [.ref 112] S ((uMq_error S).1) ((uMq_error S).2) := by
  refine q_Fi_of (maxL := 1) rfl (by decide +kernel) (fun ad => Nat.le_of_ble_eq_true rfl) rfl ?_
  intro K C hret
  have C : q_Cx K cX7_errorPosition RX7 1 1 := C
  show q_V l K 0 [(0, .ref 112)] [] S
  refine q_aload_n C dX7_errorPosition_0 rfl rfl ?_
  refine q_iconst (v := 0) C dX7_errorPosition_1 (by decide) ?_
  refine q_put (ty9 := .int) C flX7_36 q_s112 rfl (fun _ _ _ h => by cases h; exact ⟨rfl, by decide +kernel⟩) rfl rfl dX7_errorPosition_2 ?_
  refine q_aload_n C dX7_errorPosition_5 rfl rfl ?_
  refine q_getI (x := S 112 16) C flX7_29 q_s112 rfl dX7_errorPosition_6 rfl ?_
  exact hret _ _ _ _ dX7_errorPosition_9 (by simp [uMq_error, uM_bad, q_sum]) (by simp [uMq_error, uM_bad, q_sum])
theorem c_X7_account (l : Launch) (S : q_St) (M : Nat) (hM : S 113 0 = nI M) (hM8 : M ≤ 8) (x : Int32) : q_Fi l yX7_account kX7_account 5 [.ref 112, .int x] S ((uMq_account S M x).1) ((uMq_account S M x).2) := by
  refine q_Fi_of (maxL := 2) rfl (by decide +kernel) (fun ad => Nat.le_of_ble_eq_true rfl) rfl ?_
  intro K C hret
  have C : q_Cx K cX7_account RX7 5 2 := C
  show q_V l K 0 [(0, .ref 112), (1, .int x)] [] S
  refine q_aload_n C dX7_account_0 rfl rfl ?_
  refine q_iload_n C dX7_account_1 rfl rfl ?_
  refine q_iconst (v := 0) C dX7_account_2 (by decide) ?_
  refine q_bipush (v := 12) C dX7_account_3 (by decide) ?_
  by_cases h_5 : 0 ≤ x ∧ x ≤ 12
  · refine q_si3 C (q_Fi.cv (if_pos h_5) (c_X7_in l S x 0 12)) msX7_in rfl mlX7_58 ⟨by decide, by decide⟩ (Nat.le_of_ble_eq_true rfl) dX7_account_5 ?_
    obtain ⟨w, hw9, rfl⟩ := uM_okK (M := 13) rfl (by omega) h_5
    refine q_if_eq (tgt := 15) C dX7_account_8 (by decide) (fun h9 => absurd h9 (by decide)) (fun _ => ?_)
    refine q_iconst (v := 0) C dX7_account_11 (by decide) ?_
    refine q_goto (tgt := 16) C dX7_account_12 (by decide) ?_
    refine q_put (ty9 := .int) C flX7_36 q_s112 rfl (fun _ _ _ h => by cases h; exact ⟨rfl, by decide +kernel⟩) rfl rfl dX7_account_16 ?_
    refine q_aload_n C dX7_account_19 rfl rfl ?_
    refine q_getI (x := 0) C flX7_36 q_s112 rfl dX7_account_20 rfl ?_
    refine q_if_le (tgt := 28) C dX7_account_23 (by decide) (fun _ => ?_) (fun h9 => absurd h9 (by decide))
    refine q_iload_n C dX7_account_28 rfl rfl ?_
    rcases (show w = 0 ∨ w = 1 ∨ w = 2 ∨ w = 3 ∨ w = 4 ∨ w = 5 ∨ w = 6 ∨ w = 7 ∨ w = 8 ∨ w = 9 ∨ w = 10 ∨ w = 11 ∨ 12 ≤ w by omega) with rfl | rfl | rfl | rfl | rfl | rfl | rfl | rfl | rfl | rfl | rfl | rfl | h_29
    · refine q_tabin (off := 63) (tgt := 92) C dX7_account_29 (by decide) (by decide) (by decide) (by decide) ?_
      refine q_aload_n C dX7_account_92 rfl rfl ?_
      refine q_getR C flX7_9 q_s112 rfl dX7_account_93 ?_
      refine q_iconst (v := 0) C dX7_account_96 (by decide) ?_
      refine q_ialdN (i := 0) (x := nI M) C rfl q_s113 (by omega) (by decide) dX7_account_97 hM ?_
      exact hret _ _ _ _ dX7_account_98 (by first | (simp [uMq_account, uM_bad, if_pos h_5, h_5, uN_nI (show 0 < 2 ^ 31 by omega)]; done) | (simp [uMq_account, uM_bad, if_pos h_5, h_5, uN_nI (show 0 < 2 ^ 31 by omega)]; rfl)) (by simp [uMq_account, uM_bad, if_pos h_5, h_5, uN_nI (show 0 < 2 ^ 31 by omega)])
    · refine q_tabin (off := 70) (tgt := 99) C dX7_account_29 (by decide) (by decide) (by decide) (by decide) ?_
      refine q_aload_n C dX7_account_99 rfl rfl ?_
      refine q_iload_n C dX7_account_100 rfl rfl ?_
      refine q_iconst (v := 1) C dX7_account_101 (by decide) ?_
      refine q_isub C dX7_account_102 ?_
      refine q_ci1 C (q_Fi.cv (v' := uM_matters S M ((nI 1) - 1)) rfl (c_X7_matters l (q_p S 112 6 0) M hM hM8 ((nI 1) - 1))) myX7_matters mlX7_110 q_s112 ⟨by decide, by decide⟩ (Nat.le_of_ble_eq_true rfl) dX7_account_103 ?_
      exact hret _ _ _ _ dX7_account_106 (by first | (simp [uMq_account, uM_bad, if_pos h_5, h_5, uN_nI (show 1 < 2 ^ 31 by omega)]; done) | (simp [uMq_account, uM_bad, if_pos h_5, h_5, uN_nI (show 1 < 2 ^ 31 by omega)]; rfl)) (by simp [uMq_account, uM_bad, if_pos h_5, h_5, uN_nI (show 1 < 2 ^ 31 by omega)])
    · refine q_tabin (off := 70) (tgt := 99) C dX7_account_29 (by decide) (by decide) (by decide) (by decide) ?_
      refine q_aload_n C dX7_account_99 rfl rfl ?_
      refine q_iload_n C dX7_account_100 rfl rfl ?_
      refine q_iconst (v := 1) C dX7_account_101 (by decide) ?_
      refine q_isub C dX7_account_102 ?_
      refine q_ci1 C (q_Fi.cv (v' := uM_matters S M ((nI 2) - 1)) rfl (c_X7_matters l (q_p S 112 6 0) M hM hM8 ((nI 2) - 1))) myX7_matters mlX7_110 q_s112 ⟨by decide, by decide⟩ (Nat.le_of_ble_eq_true rfl) dX7_account_103 ?_
      exact hret _ _ _ _ dX7_account_106 (by first | (simp [uMq_account, uM_bad, if_pos h_5, h_5, uN_nI (show 2 < 2 ^ 31 by omega)]; done) | (simp [uMq_account, uM_bad, if_pos h_5, h_5, uN_nI (show 2 < 2 ^ 31 by omega)]; rfl)) (by simp [uMq_account, uM_bad, if_pos h_5, h_5, uN_nI (show 2 < 2 ^ 31 by omega)])
    · refine q_tabin (off := 70) (tgt := 99) C dX7_account_29 (by decide) (by decide) (by decide) (by decide) ?_
      refine q_aload_n C dX7_account_99 rfl rfl ?_
      refine q_iload_n C dX7_account_100 rfl rfl ?_
      refine q_iconst (v := 1) C dX7_account_101 (by decide) ?_
      refine q_isub C dX7_account_102 ?_
      refine q_ci1 C (q_Fi.cv (v' := uM_matters S M ((nI 3) - 1)) rfl (c_X7_matters l (q_p S 112 6 0) M hM hM8 ((nI 3) - 1))) myX7_matters mlX7_110 q_s112 ⟨by decide, by decide⟩ (Nat.le_of_ble_eq_true rfl) dX7_account_103 ?_
      exact hret _ _ _ _ dX7_account_106 (by first | (simp [uMq_account, uM_bad, if_pos h_5, h_5, uN_nI (show 3 < 2 ^ 31 by omega)]; done) | (simp [uMq_account, uM_bad, if_pos h_5, h_5, uN_nI (show 3 < 2 ^ 31 by omega)]; rfl)) (by simp [uMq_account, uM_bad, if_pos h_5, h_5, uN_nI (show 3 < 2 ^ 31 by omega)])
    · refine q_tabin (off := 78) (tgt := 107) C dX7_account_29 (by decide) (by decide) (by decide) (by decide) ?_
      refine q_aload_n C dX7_account_107 rfl rfl ?_
      refine q_ci0 C (q_Fi.cv (v' := uM_awake S) rfl (c_X7_awake l (q_p S 112 6 0))) myX7_awake mlX7_146 q_s112 ⟨by decide, by decide⟩ (Nat.le_of_ble_eq_true rfl) dX7_account_108 ?_
      exact hret _ _ _ _ dX7_account_111 (by first | (simp [uMq_account, uM_bad, if_pos h_5, h_5, uN_nI (show 4 < 2 ^ 31 by omega)]; done) | (simp [uMq_account, uM_bad, if_pos h_5, h_5, uN_nI (show 4 < 2 ^ 31 by omega)]; rfl)) (by simp [uMq_account, uM_bad, if_pos h_5, h_5, uN_nI (show 4 < 2 ^ 31 by omega)])
    · refine q_tabin (off := 83) (tgt := 112) C dX7_account_29 (by decide) (by decide) (by decide) (by decide) ?_
      refine q_aload_n C dX7_account_112 rfl rfl ?_
      refine q_ci0 C (q_Fi.cv (v' := uM_inDoubt S M) rfl (c_X7_inDoubt l (q_p S 112 6 0) M hM hM8)) myX7_inDoubt mlX7_223 q_s112 ⟨by decide, by decide⟩ (Nat.le_of_ble_eq_true rfl) dX7_account_113 ?_
      exact hret _ _ _ _ dX7_account_116 (by first | (simp [uMq_account, uM_bad, if_pos h_5, h_5, uN_nI (show 5 < 2 ^ 31 by omega)]; done) | (simp [uMq_account, uM_bad, if_pos h_5, h_5, uN_nI (show 5 < 2 ^ 31 by omega)]; rfl)) (by simp [uMq_account, uM_bad, if_pos h_5, h_5, uN_nI (show 5 < 2 ^ 31 by omega)])
    · refine q_tabin (off := 88) (tgt := 117) C dX7_account_29 (by decide) (by decide) (by decide) (by decide) ?_
      refine q_aload_n C dX7_account_117 rfl rfl ?_
      refine q_getR C flX7_9 q_s112 rfl dX7_account_118 ?_
      refine q_iconst (v := 2) C dX7_account_121 (by decide) ?_
      refine q_ialdN (i := 2) (x := S 113 2) C rfl q_s113 (by omega) (by decide) dX7_account_122 rfl ?_
      exact hret _ _ _ _ dX7_account_123 (by first | (simp [uMq_account, uM_bad, if_pos h_5, h_5, uN_nI (show 6 < 2 ^ 31 by omega)]; done) | (simp [uMq_account, uM_bad, if_pos h_5, h_5, uN_nI (show 6 < 2 ^ 31 by omega)]; rfl)) (by simp [uMq_account, uM_bad, if_pos h_5, h_5, uN_nI (show 6 < 2 ^ 31 by omega)])
    · refine q_tabin (off := 95) (tgt := 124) C dX7_account_29 (by decide) (by decide) (by decide) (by decide) ?_
      refine q_aload_n C dX7_account_124 rfl rfl ?_
      refine q_ci0 C (q_Fi.cv (v' := uM_hours S) rfl (c_X7_hoursOfDoubt l (q_p S 112 6 0))) myX7_hoursOfDoubt mlX7_226 q_s112 ⟨by decide, by decide⟩ (Nat.le_of_ble_eq_true rfl) dX7_account_125 ?_
      exact hret _ _ _ _ dX7_account_128 (by first | (simp [uMq_account, uM_bad, if_pos h_5, h_5, uN_nI (show 7 < 2 ^ 31 by omega)]; done) | (simp [uMq_account, uM_bad, if_pos h_5, h_5, uN_nI (show 7 < 2 ^ 31 by omega)]; rfl)) (by simp [uMq_account, uM_bad, if_pos h_5, h_5, uN_nI (show 7 < 2 ^ 31 by omega)])
    · refine q_tabin (off := 100) (tgt := 129) C dX7_account_29 (by decide) (by decide) (by decide) (by decide) ?_
      refine q_aload_n C dX7_account_129 rfl rfl ?_
      refine q_getR C flX7_9 q_s112 rfl dX7_account_130 ?_
      refine q_iconst (v := 3) C dX7_account_133 (by decide) ?_
      refine q_ialdN (i := 3) (x := S 113 3) C rfl q_s113 (by omega) (by decide) dX7_account_134 rfl ?_
      exact hret _ _ _ _ dX7_account_135 (by first | (simp [uMq_account, uM_bad, if_pos h_5, h_5, uN_nI (show 8 < 2 ^ 31 by omega)]; done) | (simp [uMq_account, uM_bad, if_pos h_5, h_5, uN_nI (show 8 < 2 ^ 31 by omega)]; rfl)) (by simp [uMq_account, uM_bad, if_pos h_5, h_5, uN_nI (show 8 < 2 ^ 31 by omega)])
    · refine q_tabin (off := 107) (tgt := 136) C dX7_account_29 (by decide) (by decide) (by decide) (by decide) ?_
      refine q_aload_n C dX7_account_136 rfl rfl ?_
      refine q_getR C flX7_9 q_s112 rfl dX7_account_137 ?_
      refine q_iconst (v := 4) C dX7_account_140 (by decide) ?_
      refine q_ialdN (i := 4) (x := S 113 4) C rfl q_s113 (by omega) (by decide) dX7_account_141 rfl ?_
      exact hret _ _ _ _ dX7_account_142 (by first | (simp [uMq_account, uM_bad, if_pos h_5, h_5, uN_nI (show 9 < 2 ^ 31 by omega)]; done) | (simp [uMq_account, uM_bad, if_pos h_5, h_5, uN_nI (show 9 < 2 ^ 31 by omega)]; rfl)) (by simp [uMq_account, uM_bad, if_pos h_5, h_5, uN_nI (show 9 < 2 ^ 31 by omega)])
    · refine q_tabin (off := 114) (tgt := 143) C dX7_account_29 (by decide) (by decide) (by decide) (by decide) ?_
      refine q_aload_n C dX7_account_143 rfl rfl ?_
      refine q_ci0 C (q_Fi.cv (v' := uM_heard S M) rfl (c_X7_heard l (q_p S 112 6 0) M hM hM8)) myX7_heard mlX7_229 q_s112 ⟨by decide, by decide⟩ (Nat.le_of_ble_eq_true rfl) dX7_account_144 ?_
      exact hret _ _ _ _ dX7_account_147 (by first | (simp [uMq_account, uM_bad, if_pos h_5, h_5, uN_nI (show 10 < 2 ^ 31 by omega)]; done) | (simp [uMq_account, uM_bad, if_pos h_5, h_5, uN_nI (show 10 < 2 ^ 31 by omega)]; rfl)) (by simp [uMq_account, uM_bad, if_pos h_5, h_5, uN_nI (show 10 < 2 ^ 31 by omega)])
    · refine q_tabin (off := 119) (tgt := 148) C dX7_account_29 (by decide) (by decide) (by decide) (by decide) ?_
      refine q_aload_n C dX7_account_148 rfl rfl ?_
      refine q_getI (x := S 112 13) C flX7_187 q_s112 rfl dX7_account_149 rfl ?_
      exact hret _ _ _ _ dX7_account_152 (by first | (simp [uMq_account, uM_bad, if_pos h_5, h_5, uN_nI (show 11 < 2 ^ 31 by omega)]; done) | (simp [uMq_account, uM_bad, if_pos h_5, h_5, uN_nI (show 11 < 2 ^ 31 by omega)]; rfl)) (by simp [uMq_account, uM_bad, if_pos h_5, h_5, uN_nI (show 11 < 2 ^ 31 by omega)])
    · refine q_tabout (tgt := 153) C dX7_account_29 (Or.inr (by rw [nI_toInt (by omega)]; omega)) (by decide) ?_
      refine q_aload_n C dX7_account_153 rfl rfl ?_
      refine q_getI (x := S 112 5) C flX7_45 q_s112 rfl dX7_account_154 rfl ?_
      exact hret _ _ _ _ dX7_account_157 (by have e9 : w = 12 := by {omega}; subst e9; first | (simp [uMq_account, uM_bad, if_pos h_5, h_5, uN_nI (show 12 < 2 ^ 31 by omega), h_29]; done) | (simp [uMq_account, uM_bad, if_pos h_5, h_5, uN_nI (show 12 < 2 ^ 31 by omega), h_29]; rfl)) (by have e9 : w = 12 := by {omega}; subst e9; simp [uMq_account, uM_bad, if_pos h_5, h_5, uN_nI (show 12 < 2 ^ 31 by omega), h_29])
  · refine q_si3 C (q_Fi.cv (if_neg h_5) (c_X7_in l S x 0 12)) msX7_in rfl mlX7_58 ⟨by decide, by decide⟩ (Nat.le_of_ble_eq_true rfl) dX7_account_5 ?_
    refine q_if_eq (tgt := 15) C dX7_account_8 (by decide) (fun _ => ?_) (fun h9 => absurd h9 (by decide))
    refine q_iconst (v := 1) C dX7_account_15 (by decide) ?_
    refine q_put (ty9 := .int) C flX7_36 q_s112 rfl (fun _ _ _ h => by cases h; exact ⟨rfl, by decide +kernel⟩) rfl rfl dX7_account_16 ?_
    refine q_aload_n C dX7_account_19 rfl rfl ?_
    refine q_getI (x := 1) C flX7_36 q_s112 rfl dX7_account_20 rfl ?_
    refine q_if_le (tgt := 28) C dX7_account_23 (by decide) (fun h9 => absurd h9 (by decide)) (fun _ => ?_)
    refine q_iconst (v := 0) C dX7_account_26 (by decide) ?_
    exact hret _ _ _ _ dX7_account_27 (by first | (simp [uMq_account, uM_bad, if_neg h_5, h_5]; done) | (simp [uMq_account, uM_bad, if_neg h_5, h_5]; rfl)) (by simp [uMq_account, uM_bad, if_neg h_5, h_5])
