set_option maxHeartbeats 4000000 in
theorem l_matters (l : Launch) (hst : l.stackTraces = false) (S : q_St) (d M N : Nat) (hI : pI d M N S) (hz3 : ∀ m, m < 8 → S 3 m = 0) : q_Fy l yL_matters kL_matters 11 9000 [.ref 0] S 1 S := by
  refine q_Fy_of (maxL := 13) rfl (by decide +kernel) (fun ad => Nat.le_of_ble_eq_true rfl) rfl ?_
  intro K C hret
  have C : q_Cy K cL_matters RL 11 13 9000 [] q_Tr := C
  show q_Y l K 0 [] q_Tr 0 [(0, .ref (q_ad K 0))] [] S
  have hM8 := hI.M8
  refine y_iconst (v := 3) C dL_matters_0 (by decide) ?_
  refine y_newI (N := 3) C wB_int rfl (by decide) (by omega) dL_matters_1 (fun a_1 C => ?_)
  refine y_ex (ex' := [(a_1, .inl (q_cy K 0, 3, .inl (pHow S 0)))]) (by rw [pHow0]) ?_
  refine y_astore_n (lv' := [(1, .ref a_1), (0, .ref (q_ad K 0))]) C dL_matters_3 rfl (by decide) rfl ?_
  refine y_iconst (v := 0) C dL_matters_4 (by decide) ?_
  refine y_istore_n (lv' := [(2, .int 0), (1, .ref a_1), (0, .ref (q_ad K 0))]) C dL_matters_5 rfl (by decide) rfl ?_
  refine y_iconst (v := 0) C dL_matters_6 (by decide) ?_
  refine y_istore_n (lv' := [(3, .int 0), (2, .int 0), (1, .ref a_1), (0, .ref (q_ad K 0))]) C dL_matters_7 rfl (by decide) rfl ?_
  have loop_8 : ∀ (n_8 i_8 u_8 : Nat), i_8 + n_8 = M → u_8 + n_8 * 1100 ≤ 0 + 1 + M * 1100 → q_Y l K u_8 [(a_1, .inl (q_cy K 0, 3, .inl (pHow S i_8)))] q_Tr 8 [(0, .ref (q_ad K 0)), (1, .ref a_1), (2, .int (q_sum (uC_fH S) i_8)), (3, .int (nI i_8))] [] S := by
    intro n_8
    induction n_8 with
    | zero =>
      intro i_8 u_8 hi_8 hu_8
      have e_8 : i_8 = M := by omega
      refine y_iload_n C dL_matters_8 rfl rfl ?_
      refine y_aload_n C dL_matters_9 rfl rfl ?_
      refine y_iconst (v := 0) C dL_matters_10 (by decide) ?_
      refine y_cx (rest := [.int (nI i_8)]) C (k_account l hst S M hI.hM 0 (by decide)) myX6_account mlL_157 rfl rfl rfl ⟨by decide, by decide⟩ (by omega) (Nat.le_of_ble_eq_true rfl) dL_matters_11 ?_
      refine y_icmp_geN (a := i_8) (b := M) (tgt := 522) C dL_matters_14 (by decide) rfl rfl (by omega) (by omega) (fun c_14 => ?_) (fun c_14 => absurd c_14 (by omega))
      have e9 : M = i_8 := e_8.symm
      subst e9
      refine y_aload_n C dL_matters_522 rfl rfl ?_
      refine y_iconst (v := 1) C dL_matters_523 (by decide) ?_
      refine y_iald (i := 1) (v := uC_matters S M 1) C rfl (by decide) (by decide) rfl dL_matters_524 ?_
      refine y_aload_n C dL_matters_525 rfl rfl ?_
      refine y_iconst (v := 2) C dL_matters_526 (by decide) ?_
      refine y_iald (i := 2) (v := uC_matters S M 2) C rfl (by decide) (by decide) rfl dL_matters_527 ?_
      refine y_iadd C dL_matters_528 ?_
      have j_553 : q_Y l K (u_8 + 6 + 6) [(a_1, .inl (q_cy K 0, 3, .inl (pHow S M)))] q_Tr 553 [(0, .ref (q_ad K 0)), (1, .ref a_1), (2, .int (q_sum (uC_fH S) M)), (3, .int (nI M))] [] S := by
        refine y_iconst (v := 1) C dL_matters_553 (by decide) ?_
        refine y_goto (tgt := 558) C dL_matters_554 (by decide) ?_
        refine y_istore_n (lv' := [(3, .int 1), (0, .ref (q_ad K 0)), (1, .ref a_1), (2, .int (q_sum (uC_fH S) M))]) C dL_matters_558 rfl (by decide) rfl ?_
        refine y_iload_n C dL_matters_559 rfl rfl ?_
        refine y_if_eq (tgt := 651) C dL_matters_560 (by decide) (fun h9 => absurd h9 (by decide)) (fun _ => ?_)
        refine y_aload_n C dL_matters_563 rfl rfl ?_
        refine y_iconst (v := 1) C dL_matters_564 (by decide) ?_
        refine y_cx (rest := []) C (k_account l hst S M hI.hM 1 (by decide)) myX6_account mlL_157 rfl rfl rfl ⟨by decide, by decide⟩ (by omega) (Nat.le_of_ble_eq_true rfl) dL_matters_565 ?_
        refine y_aload_n C dL_matters_568 rfl rfl ?_
        refine y_iconst (v := 0) C dL_matters_569 (by decide) ?_
        refine y_iald (i := 0) (v := uC_matters S M 0) C rfl (by decide) (by decide) rfl dL_matters_570 ?_
        refine y_icmp_ne (tgt := 651) C dL_matters_571 (by decide)  (fun c_571 => absurd rfl c_571) (fun c_571 => ?_)
        refine y_aload_n C dL_matters_574 rfl rfl ?_
        refine y_iconst (v := 2) C dL_matters_575 (by decide) ?_
        refine y_cx (rest := []) C (k_account l hst S M hI.hM 2 (by decide)) myX6_account mlL_157 rfl rfl rfl ⟨by decide, by decide⟩ (by omega) (Nat.le_of_ble_eq_true rfl) dL_matters_576 ?_
        refine y_aload_n C dL_matters_579 rfl rfl ?_
        refine y_iconst (v := 1) C dL_matters_580 (by decide) ?_
        refine y_iald (i := 1) (v := uC_matters S M 1) C rfl (by decide) (by decide) rfl dL_matters_581 ?_
        refine y_icmp_ne (tgt := 651) C dL_matters_582 (by decide)  (fun c_582 => absurd rfl c_582) (fun c_582 => ?_)
        refine y_aload_n C dL_matters_585 rfl rfl ?_
        refine y_iconst (v := 3) C dL_matters_586 (by decide) ?_
        refine y_cx (rest := []) C (k_account l hst S M hI.hM 3 (by decide)) myX6_account mlL_157 rfl rfl rfl ⟨by decide, by decide⟩ (by omega) (Nat.le_of_ble_eq_true rfl) dL_matters_587 ?_
        refine y_aload_n C dL_matters_590 rfl rfl ?_
        refine y_iconst (v := 2) C dL_matters_591 (by decide) ?_
        refine y_iald (i := 2) (v := uC_matters S M 2) C rfl (by decide) (by decide) rfl dL_matters_592 ?_
        refine y_icmp_ne (tgt := 651) C dL_matters_593 (by decide)  (fun c_593 => absurd rfl c_593) (fun c_593 => ?_)
        refine y_aload_n C dL_matters_596 rfl rfl ?_
        refine y_bipush (v := 10) C dL_matters_597 (by decide) ?_
        refine y_cx (rest := []) C (k_account l hst S M hI.hM 10 (by decide)) myX6_account mlL_157 rfl rfl rfl ⟨by decide, by decide⟩ (by omega) (Nat.le_of_ble_eq_true rfl) dL_matters_599 ?_
        refine y_iload_n C dL_matters_602 rfl rfl ?_
        refine y_icmp_ne (tgt := 651) C dL_matters_603 (by decide)  (fun c_603 => absurd rfl c_603) (fun c_603 => ?_)
        refine y_aload_n C dL_matters_606 rfl rfl ?_
        refine y_aload_n C dL_matters_607 rfl rfl ?_
        refine y_iconst (v := 0) C dL_matters_608 (by decide) ?_
        refine y_cx (rest := [.ref (q_ad K 0)]) C (k_account l hst S M hI.hM 0 (by decide)) myX6_account mlL_157 rfl rfl rfl ⟨by decide, by decide⟩ (by omega) (Nat.le_of_ble_eq_true rfl) dL_matters_609 ?_
        refine y_iconst (v := 0) C dL_matters_612 (by decide) ?_
        refine y_sw (rest := []) C (k_ofM l hst S M hI.hM) mwL_of mlL_187 rfl rfl rfl ⟨by decide, by decide⟩ (by omega) (Nat.le_of_ble_eq_true rfl) dL_matters_613 ?_
        refine y_bipush (v := (-13)) C dL_matters_616 (by decide) ?_
        refine y_icmp_ne (tgt := 651) C dL_matters_618 (by decide) (fun h9 => absurd h9 (by decide)) (fun _ => ?_)
        refine y_aload_n C dL_matters_621 rfl rfl ?_
        refine y_aload_n C dL_matters_622 rfl rfl ?_
        refine y_iconst (v := 0) C dL_matters_623 (by decide) ?_
        refine y_cx (rest := [.ref (q_ad K 0)]) C (k_account l hst S M hI.hM 0 (by decide)) myX6_account mlL_157 rfl rfl rfl ⟨by decide, by decide⟩ (by omega) (Nat.le_of_ble_eq_true rfl) dL_matters_624 ?_
        refine y_bipush (v := 9) C dL_matters_627 (by decide) ?_
        refine y_sw (rest := []) C (k_answerM l hst S M hI.hM) mwL_answer mlL_160 rfl rfl rfl ⟨by decide, by decide⟩ (by omega) (Nat.le_of_ble_eq_true rfl) dL_matters_629 ?_
        refine y_bipush (v := (-13)) C dL_matters_632 (by decide) ?_
        refine y_icmp_ne (tgt := 651) C dL_matters_634 (by decide) (fun h9 => absurd h9 (by decide)) (fun _ => ?_)
        refine y_aload_n C dL_matters_637 rfl rfl ?_
        refine y_iconst (v := (-1)) C dL_matters_638 (by decide) ?_
        refine y_sw (rest := []) C (k_would_1 l hst S M hI.hM) mwL_wouldSeal mlL_190 rfl rfl rfl ⟨by decide, by decide⟩ (by omega) (Nat.le_of_ble_eq_true rfl) dL_matters_639 ?_
        refine y_bipush (v := (-13)) C dL_matters_642 (by decide) ?_
        refine y_icmp_ne (tgt := 651) C dL_matters_644 (by decide) (fun h9 => absurd h9 (by decide)) (fun _ => ?_)
        refine y_iconst (v := 1) C dL_matters_647 (by decide) ?_
        refine y_goto (tgt := 652) C dL_matters_648 (by decide) ?_
        exact hret _ _ _ _ _ _ _ (by omega) dL_matters_652 rfl rfl
      refine y_if_eq (tgt := 553) C dL_matters_529 (by decide)  (fun c_529 => ?_) (fun c_529 => ?_)
      · exact y_up (by omega) (j_553)
      · refine y_aload_n C dL_matters_532 rfl rfl ?_
        have hsh : q_Fxf l yX6_sealedShare kX6_sealedShare 7 6 [.ref 0] S (.inl (FP.fdiv (FP.i2f (uC_matters S M 1)) (FP.i2f (S 1 1))), S) := by
          have h := c_X6_sealedShare l hst S M hI.hM.1 hI.hM.2
          unfold uG_share at h
          rw [if_neg (by rw [← hI.how12]; exact c_529)] at h
          exact h
        refine y_cf (rest := []) C hsh myX6_sealedShare mlL_195 rfl rfl rfl ⟨by decide, by decide⟩ (by omega) (Nat.le_of_ble_eq_true rfl) dL_matters_533 ?_
        refine y_aload_n C dL_matters_536 rfl rfl ?_
        refine y_iconst (v := 1) C dL_matters_537 (by decide) ?_
        refine y_iald (i := 1) (v := uC_matters S M 1) C rfl (by decide) (by decide) rfl dL_matters_538 ?_
        refine y_i2f C dL_matters_539 ?_
        refine y_aload_n C dL_matters_540 rfl rfl ?_
        refine y_iconst (v := 1) C dL_matters_541 (by decide) ?_
        refine y_iald (i := 1) (v := uC_matters S M 1) C rfl (by decide) (by decide) rfl dL_matters_542 ?_
        refine y_aload_n C dL_matters_543 rfl rfl ?_
        refine y_iconst (v := 2) C dL_matters_544 (by decide) ?_
        refine y_iald (i := 2) (v := uC_matters S M 2) C rfl (by decide) (by decide) rfl dL_matters_545 ?_
        refine y_iadd C dL_matters_546 ?_
        refine y_i2f C dL_matters_547 ?_
        refine y_fdiv C (uF_n32 _ _ c_529) dL_matters_548 ?_
        refine y_fcmpE C (by rw [hI.how12]) (uF_fin _ _ (by rw [← hI.how12]; exact c_529)) dL_matters_549 ?_
        refine y_if_ne (tgt := 557) C dL_matters_550 (by decide) (fun h9 => absurd h9 (by decide)) (fun _ => ?_)
        exact y_up (by omega) (j_553)
    | succ n_8 ih_8 =>
      intro i_8 u_8 hi_8 hu_8
      refine y_iload_n C dL_matters_8 rfl rfl ?_
      refine y_aload_n C dL_matters_9 rfl rfl ?_
      refine y_iconst (v := 0) C dL_matters_10 (by decide) ?_
      refine y_cx (rest := [.int (nI i_8)]) C (k_account l hst S M hI.hM 0 (by decide)) myX6_account mlL_157 rfl rfl rfl ⟨by decide, by decide⟩ (by omega) (Nat.le_of_ble_eq_true rfl) dL_matters_11 ?_
      refine y_icmp_geN (a := i_8) (b := M) (tgt := 522) C dL_matters_14 (by decide) rfl rfl (by omega) (by omega) (fun c_14 => absurd c_14 (by omega)) (fun c_14 => ?_)
      refine y_iconst (v := 0) C dL_matters_17 (by decide) ?_
      refine y_istore (lv' := [(4, .int 0), (0, .ref (q_ad K 0)), (1, .ref a_1), (2, .int (q_sum (uC_fH S) i_8)), (3, .int (nI i_8))]) C dL_matters_18 (by decide) rfl ?_
      refine y_iconst (v := 0) C dL_matters_20 (by decide) ?_
      refine y_istore (lv' := [(5, .int 0), (4, .int 0), (0, .ref (q_ad K 0)), (1, .ref a_1), (2, .int (q_sum (uC_fH S) i_8)), (3, .int (nI i_8))]) C dL_matters_21 (by decide) rfl ?_
      refine y_iconst (v := 1) C dL_matters_23 (by decide) ?_
      refine y_istore (lv' := [(6, .int 1), (5, .int 0), (4, .int 0), (0, .ref (q_ad K 0)), (1, .ref a_1), (2, .int (q_sum (uC_fH S) i_8)), (3, .int (nI i_8))]) C dL_matters_24 (by decide) rfl ?_
      refine y_iconst (v := 0) C dL_matters_26 (by decide) ?_
      refine y_istore (lv' := [(7, .int 0), (6, .int 1), (5, .int 0), (4, .int 0), (0, .ref (q_ad K 0)), (1, .ref a_1), (2, .int (q_sum (uC_fH S) i_8)), (3, .int (nI i_8))]) C dL_matters_27 (by decide) rfl ?_
      have loop_29 : ∀ (n_29 i_29 u_29 : Nat), i_29 + n_29 = 6 → u_29 + n_29 * 18 ≤ u_8 + 6 + 6 * 18 → q_Y l K u_29 [(a_1, .inl (q_cy K 0, 3, .inl (pHow S i_8)))] q_Tr 29 [(0, .ref (q_ad K 0)), (1, .ref a_1), (2, .int (q_sum (uC_fH S) i_8)), (3, .int (nI i_8)), (4, .int (q_sum (uC_fG S i_8) i_29)), (5, .int (q_sum (fun g => S 5 (i_8 * 6 + g)) i_29)), (6, .int 1), (7, .int (nI i_29))] [] S := by
        intro n_29
        induction n_29 with
        | zero =>
          intro i_29 u_29 hi_29 hu_29
          have e_29 : i_29 = 6 := by omega
          refine y_iload C dL_matters_29 rfl ?_
          refine y_bipush (v := 6) C dL_matters_31 (by decide) ?_
          refine y_icmp_geN (a := i_29) (b := 6) (tgt := 127) C dL_matters_33 (by decide) rfl rfl (by omega) (by omega) (fun c_33 => ?_) (fun c_33 => absurd c_33 (by omega))
          have e9i_29 : i_29 = 6 := by omega
          subst e9i_29
          refine y_iload C dL_matters_127 rfl ?_
          refine y_aload_n C dL_matters_129 rfl rfl ?_
          refine y_iload_n C dL_matters_130 rfl rfl ?_
          refine y_iconst (v := 0) C dL_matters_131 (by decide) ?_
          refine y_si (rest := [.int (q_sum (uC_fG S i_8) 6)]) C (l_count l hst S d M N hI i_8 (by omega) 0 (by decide)) msL_count rfl mlL_184 rfl rfl rfl ⟨by decide, by decide⟩ (by omega) (Nat.le_of_ble_eq_true rfl) dL_matters_132 ?_
          refine y_isub C dL_matters_135 ?_
          refine y_istore (lv' := [(7, .int ((q_sum (uC_fG S i_8) 6) - (uC_ans S i_8 0))), (0, .ref (q_ad K 0)), (1, .ref a_1), (2, .int (q_sum (uC_fH S) i_8)), (3, .int (nI i_8)), (4, .int (q_sum (uC_fG S i_8) 6)), (5, .int (q_sum (fun g => S 5 (i_8 * 6 + g)) 6)), (6, .int 1)]) C dL_matters_136 (by decide) rfl ?_
          refine y_aload_n C dL_matters_138 rfl rfl ?_
          refine y_iload_n C dL_matters_139 rfl rfl ?_
          refine y_iconst (v := 0) C dL_matters_140 (by decide) ?_
          refine y_sw (rest := []) C (k_of l hst S M hI.hM i_8 0 (by omega) (by decide)) mwL_of mlL_187 rfl rfl rfl ⟨by decide, by decide⟩ (by omega) (Nat.le_of_ble_eq_true rfl) dL_matters_141 ?_
          refine y_istore (lv' := [(8, .int (S 2 i_8)), (7, .int ((q_sum (uC_fG S i_8) 6) - (uC_ans S i_8 0))), (0, .ref (q_ad K 0)), (1, .ref a_1), (2, .int (q_sum (uC_fH S) i_8)), (3, .int (nI i_8)), (4, .int (q_sum (uC_fG S i_8) 6)), (5, .int (q_sum (fun g => S 5 (i_8 * 6 + g)) 6)), (6, .int 1)]) C dL_matters_144 (by decide) rfl ?_
          refine y_aload_n C dL_matters_146 rfl rfl ?_
          refine y_iload_n C dL_matters_147 rfl rfl ?_
          refine y_sw (rest := []) C (k_would l hst S M hI.hM i_8 (by omega)) mwL_wouldSeal mlL_190 rfl rfl rfl ⟨by decide, by decide⟩ (by omega) (Nat.le_of_ble_eq_true rfl) dL_matters_148 ?_
          refine y_istore (lv' := [(9, .int (pWd S M i_8)), (8, .int (S 2 i_8)), (7, .int ((q_sum (uC_fG S i_8) 6) - (uC_ans S i_8 0))), (0, .ref (q_ad K 0)), (1, .ref a_1), (2, .int (q_sum (uC_fH S) i_8)), (3, .int (nI i_8)), (4, .int (q_sum (uC_fG S i_8) 6)), (5, .int (q_sum (fun g => S 5 (i_8 * 6 + g)) 6)), (6, .int 1)]) C dL_matters_151 (by decide) rfl ?_
          obtain ⟨hw, hw3, ehw⟩ := hI.h3 (m := i_8) (by omega)
          refine y_aload_n C dL_matters_153 rfl rfl ?_
          refine y_iload C dL_matters_154 rfl ?_
          refine y_dup2 C rfl rfl dL_matters_156 ?_
          refine y_iald (i := hw) (v := pHow S i_8 hw) C ehw (by omega) (by decide) rfl dL_matters_157 ?_
          refine y_iconst (v := 1) C dL_matters_158 (by decide) ?_
          refine y_iadd C dL_matters_159 ?_
          refine y_iast (i := hw) C ehw (by omega) (by decide) dL_matters_160 ?_
          refine y_ex (ex' := [(a_1, .inl (q_cy K 0, 3, .inl (pHow S (i_8 + 1))))]) (by rw [pHowS hw3 ehw]) ?_
          refine y_iload_n C dL_matters_161 rfl rfl ?_
          refine y_iload C dL_matters_162 rfl ?_
          have j_164 : q_Y l K (u_29 + 36 + 6 + 6 + 72) [(a_1, .inl (q_cy K 0, 3, .inl (pHow S (i_8 + 1))))] q_Tr 190 [(9, .int (pWd S M i_8)), (8, .int (S 2 i_8)), (7, .int ((q_sum (uC_fG S i_8) 6) - (uC_ans S i_8 0))), (0, .ref (q_ad K 0)), (1, .ref a_1), (2, .int (q_sum (uC_fH S) i_8)), (3, .int (nI i_8)), (4, .int (q_sum (uC_fG S i_8) 6)), (5, .int (q_sum (fun g => S 5 (i_8 * 6 + g)) 6)), (6, .int 1)] [.int (uC_fH S i_8), .int (q_sum (uC_fH S) i_8)] S := by
            refine y_iadd C dL_matters_190 ?_
            refine y_istore_n (lv' := [(2, .int ((q_sum (uC_fH S) i_8) + (uC_fH S i_8))), (9, .int (pWd S M i_8)), (8, .int (S 2 i_8)), (7, .int ((q_sum (uC_fG S i_8) 6) - (uC_ans S i_8 0))), (0, .ref (q_ad K 0)), (1, .ref a_1), (3, .int (nI i_8)), (4, .int (q_sum (uC_fG S i_8) 6)), (5, .int (q_sum (fun g => S 5 (i_8 * 6 + g)) 6)), (6, .int 1)]) C dL_matters_191 rfl (by decide) rfl ?_
            refine y_iload C dL_matters_192 rfl ?_
            refine y_if_eq (tgt := 309) C dL_matters_194 (by decide) (fun h9 => absurd h9 (by decide)) (fun _ => ?_)
            refine y_aload_n C dL_matters_197 rfl rfl ?_
            refine y_iload_n C dL_matters_198 rfl rfl ?_
            refine y_iconst (v := 1) C dL_matters_199 (by decide) ?_
            refine y_sw (rest := []) C (k_of l hst S M hI.hM i_8 1 (by omega) (by decide)) mwL_of mlL_187 rfl rfl rfl ⟨by decide, by decide⟩ (by omega) (Nat.le_of_ble_eq_true rfl) dL_matters_200 ?_
            refine y_iload C dL_matters_203 rfl ?_
            refine y_icmp_ne (tgt := 309) C dL_matters_205 (by decide)  (fun c_205 => absurd rfl c_205) (fun c_205 => ?_)
            refine y_aload_n C dL_matters_208 rfl rfl ?_
            refine y_iload_n C dL_matters_209 rfl rfl ?_
            refine y_iconst (v := 2) C dL_matters_210 (by decide) ?_
            refine y_sw (rest := []) C (k_of l hst S M hI.hM i_8 2 (by omega) (by decide)) mwL_of mlL_187 rfl rfl rfl ⟨by decide, by decide⟩ (by omega) (Nat.le_of_ble_eq_true rfl) dL_matters_211 ?_
            refine y_iload C dL_matters_214 rfl ?_
            refine y_icmp_ne (tgt := 309) C dL_matters_216 (by decide)  (fun c_216 => absurd rfl c_216) (fun c_216 => ?_)
            refine y_aload_n C dL_matters_219 rfl rfl ?_
            refine y_iload_n C dL_matters_220 rfl rfl ?_
            refine y_iconst (v := 3) C dL_matters_221 (by decide) ?_
            refine y_sw (rest := []) C (k_of l hst S M hI.hM i_8 3 (by omega) (by decide)) mwL_of mlL_187 rfl rfl rfl ⟨by decide, by decide⟩ (by omega) (Nat.le_of_ble_eq_true rfl) dL_matters_222 ?_
            refine y_aload_n C dL_matters_225 rfl rfl ?_
            refine y_iload_n C dL_matters_226 rfl rfl ?_
            refine y_iconst (v := 1) C dL_matters_227 (by decide) ?_
            refine y_si (rest := [.int (uC_ans S i_8 1)]) C (l_count l hst S d M N hI i_8 (by omega) 1 (by decide)) msL_count rfl mlL_184 rfl rfl rfl ⟨by decide, by decide⟩ (by omega) (Nat.le_of_ble_eq_true rfl) dL_matters_228 ?_
            refine y_icmp_ne (tgt := 309) C dL_matters_231 (by decide)  (fun c_231 => absurd rfl c_231) (fun c_231 => ?_)
            refine y_aload_n C dL_matters_234 rfl rfl ?_
            refine y_iload_n C dL_matters_235 rfl rfl ?_
            refine y_iconst (v := 4) C dL_matters_236 (by decide) ?_
            refine y_sw (rest := []) C (k_of l hst S M hI.hM i_8 4 (by omega) (by decide)) mwL_of mlL_187 rfl rfl rfl ⟨by decide, by decide⟩ (by omega) (Nat.le_of_ble_eq_true rfl) dL_matters_237 ?_
            refine y_aload_n C dL_matters_240 rfl rfl ?_
            refine y_iload_n C dL_matters_241 rfl rfl ?_
            refine y_iconst (v := 2) C dL_matters_242 (by decide) ?_
            refine y_si (rest := [.int (uC_ans S i_8 2)]) C (l_count l hst S d M N hI i_8 (by omega) 2 (by decide)) msL_count rfl mlL_184 rfl rfl rfl ⟨by decide, by decide⟩ (by omega) (Nat.le_of_ble_eq_true rfl) dL_matters_243 ?_
            refine y_icmp_ne (tgt := 309) C dL_matters_246 (by decide)  (fun c_246 => absurd rfl c_246) (fun c_246 => ?_)
            refine y_aload_n C dL_matters_249 rfl rfl ?_
            refine y_iload_n C dL_matters_250 rfl rfl ?_
            refine y_iconst (v := 5) C dL_matters_251 (by decide) ?_
            refine y_sw (rest := []) C (k_of l hst S M hI.hM i_8 5 (by omega) (by decide)) mwL_of mlL_187 rfl rfl rfl ⟨by decide, by decide⟩ (by omega) (Nat.le_of_ble_eq_true rfl) dL_matters_252 ?_
            refine y_aload_n C dL_matters_255 rfl rfl ?_
            refine y_iload_n C dL_matters_256 rfl rfl ?_
            refine y_iconst (v := 3) C dL_matters_257 (by decide) ?_
            refine y_si (rest := [.int (uC_heard S i_8)]) C (l_count l hst S d M N hI i_8 (by omega) 3 (by decide)) msL_count rfl mlL_184 rfl rfl rfl ⟨by decide, by decide⟩ (by omega) (Nat.le_of_ble_eq_true rfl) dL_matters_258 ?_
            refine y_aload_n C dL_matters_261 rfl rfl ?_
            refine y_iload_n C dL_matters_262 rfl rfl ?_
            refine y_iconst (v := 4) C dL_matters_263 (by decide) ?_
            refine y_si (rest := [.int (uC_ans S i_8 3), .int (uC_heard S i_8)]) C (l_count l hst S d M N hI i_8 (by omega) 4 (by decide)) msL_count rfl mlL_184 rfl rfl rfl ⟨by decide, by decide⟩ (by omega) (Nat.le_of_ble_eq_true rfl) dL_matters_264 ?_
            refine y_iadd C dL_matters_267 ?_
            refine y_icmp_ne (tgt := 309) C dL_matters_268 (by decide)  (fun c_268 => absurd rfl c_268) (fun c_268 => ?_)
            refine y_aload_n C dL_matters_271 rfl rfl ?_
            refine y_iload_n C dL_matters_272 rfl rfl ?_
            refine y_bipush (v := 6) C dL_matters_273 (by decide) ?_
            refine y_sw (rest := []) C (k_of l hst S M hI.hM i_8 6 (by omega) (by decide)) mwL_of mlL_187 rfl rfl rfl ⟨by decide, by decide⟩ (by omega) (Nat.le_of_ble_eq_true rfl) dL_matters_275 ?_
            refine y_iload C dL_matters_278 rfl ?_
            refine y_icmp_ne (tgt := 309) C dL_matters_280 (by decide)  (fun c_280 => absurd rfl c_280) (fun c_280 => ?_)
            refine y_aload_n C dL_matters_283 rfl rfl ?_
            refine y_iload_n C dL_matters_284 rfl rfl ?_
            refine y_bipush (v := 7) C dL_matters_285 (by decide) ?_
            refine y_sw (rest := []) C (k_of l hst S M hI.hM i_8 7 (by omega) (by decide)) mwL_of mlL_187 rfl rfl rfl ⟨by decide, by decide⟩ (by omega) (Nat.le_of_ble_eq_true rfl) dL_matters_287 ?_
            refine y_if_ne (tgt := 309) C dL_matters_290 (by decide)  (fun c_290 => absurd (hz3 i_8 (by omega)) c_290) (fun c_290 => ?_)
            refine y_aload_n C dL_matters_293 rfl rfl ?_
            refine y_iload_n C dL_matters_294 rfl rfl ?_
            refine y_bipush (v := 8) C dL_matters_295 (by decide) ?_
            refine y_sw (rest := []) C (k_of8 l hst S M hI.hM i_8 (by omega)) mwL_of mlL_187 rfl rfl rfl ⟨by decide, by decide⟩ (by omega) (Nat.le_of_ble_eq_true rfl) dL_matters_297 ?_
            refine y_bipush (v := (-12)) C dL_matters_300 (by decide) ?_
            refine y_icmp_ne (tgt := 309) C dL_matters_302 (by decide) (fun h9 => absurd h9 (by decide)) (fun _ => ?_)
            refine y_iconst (v := 1) C dL_matters_305 (by decide) ?_
            refine y_goto (tgt := 310) C dL_matters_306 (by decide) ?_
            refine y_istore (lv' := [(6, .int 1), (2, .int ((q_sum (uC_fH S) i_8) + (uC_fH S i_8))), (9, .int (pWd S M i_8)), (8, .int (S 2 i_8)), (7, .int ((q_sum (uC_fG S i_8) 6) - (uC_ans S i_8 0))), (0, .ref (q_ad K 0)), (1, .ref a_1), (3, .int (nI i_8)), (4, .int (q_sum (uC_fG S i_8) 6)), (5, .int (q_sum (fun g => S 5 (i_8 * 6 + g)) 6))]) C dL_matters_310 (by decide) rfl ?_
            refine y_iload C dL_matters_312 rfl ?_
            refine y_if_eq (tgt := 369) C dL_matters_314 (by decide) (fun h9 => absurd h9 (by decide)) (fun _ => ?_)
            refine y_aload_n C dL_matters_317 rfl rfl ?_
            refine y_iload_n C dL_matters_318 rfl rfl ?_
            refine y_iconst (v := 3) C dL_matters_319 (by decide) ?_
            refine y_si (rest := []) C (l_count l hst S d M N hI i_8 (by omega) 3 (by decide)) msL_count rfl mlL_184 rfl rfl rfl ⟨by decide, by decide⟩ (by omega) (Nat.le_of_ble_eq_true rfl) dL_matters_320 ?_
            have j_341 : q_Y l K (u_29 + 36 + 6 + 6 + 72 + 6 + 6 + 6 + 36 + 6 + 36 + 6 + 36 + 36 + 6 + 6 + 6 + 36 + 36) [(a_1, .inl (q_cy K 0, 3, .inl (pHow S (i_8 + 1))))] q_Tr 341 [(6, .int 1), (2, .int ((q_sum (uC_fH S) i_8) + (uC_fH S i_8))), (9, .int (pWd S M i_8)), (8, .int (S 2 i_8)), (7, .int ((q_sum (uC_fG S i_8) 6) - (uC_ans S i_8 0))), (0, .ref (q_ad K 0)), (1, .ref a_1), (3, .int (nI i_8)), (4, .int (q_sum (uC_fG S i_8) 6)), (5, .int (q_sum (fun g => S 5 (i_8 * 6 + g)) 6))] [] S := by
              refine y_iload C dL_matters_341 rfl ?_
              refine y_iconst (v := 1) C dL_matters_343 (by decide) ?_
              have j_365 : q_Y l K (u_29 + 36 + 6 + 6 + 72 + 6 + 6 + 6 + 36 + 6 + 36 + 6 + 36 + 36 + 6 + 6 + 6 + 36 + 36 + 72) [(a_1, .inl (q_cy K 0, 3, .inl (pHow S (i_8 + 1))))] q_Tr 365 [(6, .int 1), (2, .int ((q_sum (uC_fH S) i_8) + (uC_fH S i_8))), (9, .int (pWd S M i_8)), (8, .int (S 2 i_8)), (7, .int ((q_sum (uC_fG S i_8) 6) - (uC_ans S i_8 0))), (0, .ref (q_ad K 0)), (1, .ref a_1), (3, .int (nI i_8)), (4, .int (q_sum (uC_fG S i_8) 6)), (5, .int (q_sum (fun g => S 5 (i_8 * 6 + g)) 6))] [] S := by
                refine y_iconst (v := 1) C dL_matters_365 (by decide) ?_
                refine y_goto (tgt := 370) C dL_matters_366 (by decide) ?_
                refine y_istore (lv' := [(6, .int 1), (2, .int ((q_sum (uC_fH S) i_8) + (uC_fH S i_8))), (9, .int (pWd S M i_8)), (8, .int (S 2 i_8)), (7, .int ((q_sum (uC_fG S i_8) 6) - (uC_ans S i_8 0))), (0, .ref (q_ad K 0)), (1, .ref a_1), (3, .int (nI i_8)), (4, .int (q_sum (uC_fG S i_8) 6)), (5, .int (q_sum (fun g => S 5 (i_8 * 6 + g)) 6))]) C dL_matters_370 (by decide) rfl ?_
                refine y_iconst (v := 1) C dL_matters_372 (by decide) ?_
                refine y_istore (lv' := [(10, .int 1), (6, .int 1), (2, .int ((q_sum (uC_fH S) i_8) + (uC_fH S i_8))), (9, .int (pWd S M i_8)), (8, .int (S 2 i_8)), (7, .int ((q_sum (uC_fG S i_8) 6) - (uC_ans S i_8 0))), (0, .ref (q_ad K 0)), (1, .ref a_1), (3, .int (nI i_8)), (4, .int (q_sum (uC_fG S i_8) 6)), (5, .int (q_sum (fun g => S 5 (i_8 * 6 + g)) 6))]) C dL_matters_373 (by decide) rfl ?_
                refine y_iconst (v := 0) C dL_matters_375 (by decide) ?_
                refine y_istore (lv' := [(11, .int 0), (10, .int 1), (6, .int 1), (2, .int ((q_sum (uC_fH S) i_8) + (uC_fH S i_8))), (9, .int (pWd S M i_8)), (8, .int (S 2 i_8)), (7, .int ((q_sum (uC_fG S i_8) 6) - (uC_ans S i_8 0))), (0, .ref (q_ad K 0)), (1, .ref a_1), (3, .int (nI i_8)), (4, .int (q_sum (uC_fG S i_8) 6)), (5, .int (q_sum (fun g => S 5 (i_8 * 6 + g)) 6))]) C dL_matters_376 (by decide) rfl ?_
                have loop_378 : ∀ (n_378 i_378 u_378 : Nat), i_378 + n_378 = 6 → u_378 + n_378 * 84 ≤ u_29 + 36 + 6 + 6 + 72 + 6 + 6 + 6 + 36 + 6 + 36 + 6 + 36 + 36 + 6 + 6 + 6 + 36 + 36 + 72 + 6 * 84 → q_Y l K u_378 [(a_1, .inl (q_cy K 0, 3, .inl (pHow S (i_8 + 1))))] q_Tr 378 [(0, .ref (q_ad K 0)), (1, .ref a_1), (2, .int ((q_sum (uC_fH S) i_8) + (uC_fH S i_8))), (3, .int (nI i_8)), (4, .int (q_sum (uC_fG S i_8) 6)), (5, .int (q_sum (fun g => S 5 (i_8 * 6 + g)) 6)), (6, .int 1), (7, .int ((q_sum (uC_fG S i_8) 6) - (uC_ans S i_8 0))), (8, .int (S 2 i_8)), (9, .int (pWd S M i_8)), (10, .int (pCan S M i_8 i_378)), (11, .int (nI i_378))] [] S := by
                  intro n_378
                  induction n_378 with
                  | zero =>
                    intro i_378 u_378 hi_378 hu_378
                    have e_378 : i_378 = 6 := by omega
                    refine y_iload C dL_matters_378 rfl ?_
                    refine y_bipush (v := 6) C dL_matters_380 (by decide) ?_
                    refine y_icmp_geN (a := i_378) (b := 6) (tgt := 456) C dL_matters_382 (by decide) rfl rfl (by omega) (by omega) (fun c_382 => ?_) (fun c_382 => absurd c_382 (by omega))
                    have e9i_378 : i_378 = 6 := by omega
                    subst e9i_378
                    refine y_iload C dL_matters_456 rfl ?_
                    refine y_if_eq (tgt := 514) C dL_matters_458 (by decide) (fun h9 => absurd h9 (by decide)) (fun _ => ?_)
                    refine y_iload C dL_matters_461 rfl ?_
                    refine y_iload C dL_matters_463 rfl ?_
                    have j_465 : q_Y l K u_378 [(a_1, .inl (q_cy K 0, 3, .inl (pHow S (i_8 + 1))))] q_Tr 488 [(0, .ref (q_ad K 0)), (1, .ref a_1), (2, .int ((q_sum (uC_fH S) i_8) + (uC_fH S i_8))), (3, .int (nI i_8)), (4, .int (q_sum (uC_fG S i_8) 6)), (5, .int (q_sum (fun g => S 5 (i_8 * 6 + g)) 6)), (6, .int 1), (7, .int ((q_sum (uC_fG S i_8) 6) - (uC_ans S i_8 0))), (8, .int (S 2 i_8)), (9, .int (pWd S M i_8)), (10, .int (pCan S M i_8 6)), (11, .int (nI 6))] [.int (pWd S M i_8), .int (pWd S M i_8)] S := by
                      refine y_icmp_ne (tgt := 514) C dL_matters_488 (by decide)  (fun c_488 => absurd rfl c_488) (fun c_488 => ?_)
                      refine y_aload_n C dL_matters_491 rfl rfl ?_
                      refine y_iload_n C dL_matters_492 rfl rfl ?_
                      refine y_bipush (v := 6) C dL_matters_493 (by decide) ?_
                      refine y_sw (rest := []) C (k_answer6 l hst S M hI.hM i_8 (by omega)) mwL_answer mlL_160 rfl rfl rfl ⟨by decide, by decide⟩ (by omega) (Nat.le_of_ble_eq_true rfl) dL_matters_495 ?_
                      refine y_bipush (v := (-11)) C dL_matters_498 (by decide) ?_
                      refine y_icmp_ne (tgt := 514) C dL_matters_500 (by decide) (fun h9 => absurd h9 (by decide)) (fun _ => ?_)
                      refine y_aload_n C dL_matters_503 rfl rfl ?_
                      refine y_iload_n C dL_matters_504 rfl rfl ?_
                      refine y_iconst (v := (-1)) C dL_matters_505 (by decide) ?_
                      refine y_sw (rest := []) C (k_amount_1 l hst S M hI.hM i_8 (by omega)) mwL_amount mlL_182 rfl rfl rfl ⟨by decide, by decide⟩ (by omega) (Nat.le_of_ble_eq_true rfl) dL_matters_506 ?_
                      refine y_bipush (v := (-111)) C dL_matters_509 (by decide) ?_
                      refine y_icmp_eq (tgt := 516) C dL_matters_511 (by decide) (fun _ => ?_) (fun h9 => absurd h9 (by decide))
                      refine y_iinc (v := nI (i_8 + 1)) (lv' := [(3, .int (nI (i_8 + 1))), (0, .ref (q_ad K 0)), (1, .ref a_1), (2, .int ((q_sum (uC_fH S) i_8) + (uC_fH S i_8))), (4, .int (q_sum (uC_fG S i_8) 6)), (5, .int (q_sum (fun g => S 5 (i_8 * 6 + g)) 6)), (6, .int 1), (7, .int ((q_sum (uC_fG S i_8) 6) - (uC_ans S i_8 0))), (8, .int (S 2 i_8)), (9, .int (pWd S M i_8)), (10, .int (pCan S M i_8 6)), (11, .int (nI 6))]) C dL_matters_516 rfl (nI_add _ _) (by decide) rfl ?_
                      refine y_goto (tgt := 8) C dL_matters_519 (by decide) ?_
                      exact y_to (ih_8 (i_8 + 1) _ (by omega) (by omega)) ⟨rfl, rfl, rfl, rfl, trivial⟩ rfl
                    refine y_if_ne (tgt := 473) C dL_matters_465 (by decide)  (fun c_465 => ?_) (fun c_465 => ?_)
                    · refine y_bipush (v := (-14)) C dL_matters_473 (by decide) ?_
                      refine y_goto (tgt := 488) C dL_matters_475 (by decide) ?_
                      exact y_top (by first | exact pW1 c_465 | exact pW2 c_470 | exact pW3 c_465 c_470 c_480 | exact pW4 c_465 c_470 c_480) j_465
                    · refine y_iload C dL_matters_468 rfl ?_
                      refine y_if_ne (tgt := 478) C dL_matters_470 (by decide)  (fun c_470 => ?_) (fun c_470 => ?_)
                      · refine y_iload C dL_matters_478 rfl ?_
                        refine y_if_eq (tgt := 487) C dL_matters_480 (by decide)  (fun c_480 => ?_) (fun c_480 => ?_)
                        · refine y_iconst (v := 0) C dL_matters_487 (by decide) ?_
                          exact y_top (by first | exact pW1 c_465 | exact pW2 c_470 | exact pW3 c_465 c_470 c_480 | exact pW4 c_465 c_470 c_480) j_465
                        · refine y_iconst (v := 1) C dL_matters_483 (by decide) ?_
                          refine y_goto (tgt := 488) C dL_matters_484 (by decide) ?_
                          exact y_top (by first | exact pW1 c_465 | exact pW2 c_470 | exact pW3 c_465 c_470 c_480 | exact pW4 c_465 c_470 c_480) j_465
                      · refine y_bipush (v := (-14)) C dL_matters_473 (by decide) ?_
                        refine y_goto (tgt := 488) C dL_matters_475 (by decide) ?_
                        exact y_top (by first | exact pW1 c_465 | exact pW2 c_470 | exact pW3 c_465 c_470 c_480 | exact pW4 c_465 c_470 c_480) j_465
                  | succ n_378 ih_378 =>
                    intro i_378 u_378 hi_378 hu_378
                    refine y_iload C dL_matters_378 rfl ?_
                    refine y_bipush (v := 6) C dL_matters_380 (by decide) ?_
                    refine y_icmp_geN (a := i_378) (b := 6) (tgt := 456) C dL_matters_382 (by decide) rfl rfl (by omega) (by omega) (fun c_382 => absurd c_382 (by omega)) (fun c_382 => ?_)
                    refine y_aload_n C dL_matters_385 rfl rfl ?_
                    refine y_iload_n C dL_matters_386 rfl rfl ?_
                    refine y_iload C dL_matters_387 rfl ?_
                    refine y_sw (rest := []) C (k_answer l hst S M hI.hM i_8 i_378 (by omega) (by omega)) mwL_answer mlL_160 rfl rfl rfl ⟨by decide, by decide⟩ (by omega) (Nat.le_of_ble_eq_true rfl) dL_matters_389 ?_
                    refine y_istore (lv' := [(12, .int (pAn S i_8 i_378)), (0, .ref (q_ad K 0)), (1, .ref a_1), (2, .int ((q_sum (uC_fH S) i_8) + (uC_fH S i_8))), (3, .int (nI i_8)), (4, .int (q_sum (uC_fG S i_8) 6)), (5, .int (q_sum (fun g => S 5 (i_8 * 6 + g)) 6)), (6, .int 1), (7, .int ((q_sum (uC_fG S i_8) 6) - (uC_ans S i_8 0))), (8, .int (S 2 i_8)), (9, .int (pWd S M i_8)), (10, .int (pCan S M i_8 i_378)), (11, .int (nI i_378))]) C dL_matters_392 (by decide) rfl ?_
                    refine y_iload C dL_matters_394 rfl ?_
                    have j_396 : q_Y l K (u_378 + 6 + 72) [(a_1, .inl (q_cy K 0, 3, .inl (pHow S (i_8 + 1))))] q_Tr 448 [(12, .int (pAn S i_8 i_378)), (0, .ref (q_ad K 0)), (1, .ref a_1), (2, .int ((q_sum (uC_fH S) i_8) + (uC_fH S i_8))), (3, .int (nI i_8)), (4, .int (q_sum (uC_fG S i_8) 6)), (5, .int (q_sum (fun g => S 5 (i_8 * 6 + g)) 6)), (6, .int 1), (7, .int ((q_sum (uC_fG S i_8) 6) - (uC_ans S i_8 0))), (8, .int (S 2 i_8)), (9, .int (pWd S M i_8)), (10, .int (pCan S M i_8 i_378)), (11, .int (nI i_378))] [.int (pCan S M i_8 (i_378 + 1))] S := by
                      refine y_istore (lv' := [(10, .int (pCan S M i_8 (i_378 + 1))), (12, .int (pAn S i_8 i_378)), (0, .ref (q_ad K 0)), (1, .ref a_1), (2, .int ((q_sum (uC_fH S) i_8) + (uC_fH S i_8))), (3, .int (nI i_8)), (4, .int (q_sum (uC_fG S i_8) 6)), (5, .int (q_sum (fun g => S 5 (i_8 * 6 + g)) 6)), (6, .int 1), (7, .int ((q_sum (uC_fG S i_8) 6) - (uC_ans S i_8 0))), (8, .int (S 2 i_8)), (9, .int (pWd S M i_8)), (11, .int (nI i_378))]) C dL_matters_448 (by decide) rfl ?_
                      refine y_iinc (v := nI (i_378 + 1)) (lv' := [(11, .int (nI (i_378 + 1))), (10, .int (pCan S M i_8 (i_378 + 1))), (12, .int (pAn S i_8 i_378)), (0, .ref (q_ad K 0)), (1, .ref a_1), (2, .int ((q_sum (uC_fH S) i_8) + (uC_fH S i_8))), (3, .int (nI i_8)), (4, .int (q_sum (uC_fG S i_8) 6)), (5, .int (q_sum (fun g => S 5 (i_8 * 6 + g)) 6)), (6, .int 1), (7, .int ((q_sum (uC_fG S i_8) 6) - (uC_ans S i_8 0))), (8, .int (S 2 i_8)), (9, .int (pWd S M i_8))]) C dL_matters_450 rfl (nI_add _ _) (by decide) rfl ?_
                      refine y_goto (tgt := 378) C dL_matters_453 (by decide) ?_
                      exact y_to (ih_378 (i_378 + 1) _ (by omega) (by omega)) ⟨rfl, rfl, rfl, rfl, rfl, rfl, rfl, rfl, rfl, rfl, rfl, rfl, trivial⟩ rfl
                    refine y_if_eq (tgt := 447) C dL_matters_396 (by decide)  (fun c_396 => ?_) (fun c_396 => ?_)
                    · refine y_iconst (v := 0) C dL_matters_447 (by decide) ?_
                      exact y_up (by omega) (y_top (by first | exact pCan0 c_396 | exact pCan1 c_396 (hI.all_a (by omega) (by omega) c_402) | exact pCan1 c_396 (hI.all_b (by omega) (by omega) c_408) | exact pCan2 (hI.all_c (by omega) (by omega) c_402 c_408 c_413) | exact pCan2 (hI.all_d (by omega) (by omega) c_413 c_422) | exact pCan2 (hI.all_e (by omega) (by omega) c_413 c_440) | exact pCan1 c_396 (hI.all_f (by omega) (by omega) c_413 c_422 c_440)) j_396)
                    · refine y_iload C dL_matters_399 rfl ?_
                      refine y_iconst (v := (-1)) C dL_matters_401 (by decide) ?_
                      refine y_icmp_eq (tgt := 443) C dL_matters_402 (by decide)  (fun c_402 => ?_) (fun c_402 => ?_)
                      · refine y_iconst (v := 1) C dL_matters_443 (by decide) ?_
                        refine y_goto (tgt := 448) C dL_matters_444 (by decide) ?_
                        exact y_up (by omega) (y_top (by first | exact pCan0 c_396 | exact pCan1 c_396 (hI.all_a (by omega) (by omega) c_402) | exact pCan1 c_396 (hI.all_b (by omega) (by omega) c_408) | exact pCan2 (hI.all_c (by omega) (by omega) c_402 c_408 c_413) | exact pCan2 (hI.all_d (by omega) (by omega) c_413 c_422) | exact pCan2 (hI.all_e (by omega) (by omega) c_413 c_440) | exact pCan1 c_396 (hI.all_f (by omega) (by omega) c_413 c_422 c_440)) j_396)
                      · refine y_iload C dL_matters_405 rfl ?_
                        refine y_iconst (v := 1) C dL_matters_407 (by decide) ?_
                        refine y_icmp_eq (tgt := 443) C dL_matters_408 (by decide)  (fun c_408 => ?_) (fun c_408 => ?_)
                        · refine y_iconst (v := 1) C dL_matters_443 (by decide) ?_
                          refine y_goto (tgt := 448) C dL_matters_444 (by decide) ?_
                          exact y_up (by omega) (y_top (by first | exact pCan0 c_396 | exact pCan1 c_396 (hI.all_a (by omega) (by omega) c_402) | exact pCan1 c_396 (hI.all_b (by omega) (by omega) c_408) | exact pCan2 (hI.all_c (by omega) (by omega) c_402 c_408 c_413) | exact pCan2 (hI.all_d (by omega) (by omega) c_413 c_422) | exact pCan2 (hI.all_e (by omega) (by omega) c_413 c_440) | exact pCan1 c_396 (hI.all_f (by omega) (by omega) c_413 c_422 c_440)) j_396)
                        · refine y_iload C dL_matters_411 rfl ?_
                          refine y_if_ne (tgt := 447) C dL_matters_413 (by decide)  (fun c_413 => ?_) (fun c_413 => ?_)
                          · refine y_iconst (v := 0) C dL_matters_447 (by decide) ?_
                            exact y_up (by omega) (y_top (by first | exact pCan0 c_396 | exact pCan1 c_396 (hI.all_a (by omega) (by omega) c_402) | exact pCan1 c_396 (hI.all_b (by omega) (by omega) c_408) | exact pCan2 (hI.all_c (by omega) (by omega) c_402 c_408 c_413) | exact pCan2 (hI.all_d (by omega) (by omega) c_413 c_422) | exact pCan2 (hI.all_e (by omega) (by omega) c_413 c_440) | exact pCan1 c_396 (hI.all_f (by omega) (by omega) c_413 c_422 c_440)) j_396)
                          · refine y_aload_n C dL_matters_416 rfl rfl ?_
                            refine y_iload C dL_matters_417 rfl ?_
                            refine y_si (rest := []) C (l_doubt l hst S d M N hI i_378 (by omega)) msL_doubt rfl mlL_192 rfl rfl rfl ⟨by decide, by decide⟩ (by omega) (Nat.le_of_ble_eq_true rfl) dL_matters_419 ?_
                            refine y_if_ge (tgt := 447) C dL_matters_422 (by decide)  (fun c_422 => ?_) (fun c_422 => ?_)
                            · refine y_iconst (v := 0) C dL_matters_447 (by decide) ?_
                              exact y_up (by omega) (y_top (by first | exact pCan0 c_396 | exact pCan1 c_396 (hI.all_a (by omega) (by omega) c_402) | exact pCan1 c_396 (hI.all_b (by omega) (by omega) c_408) | exact pCan2 (hI.all_c (by omega) (by omega) c_402 c_408 c_413) | exact pCan2 (hI.all_d (by omega) (by omega) c_413 c_422) | exact pCan2 (hI.all_e (by omega) (by omega) c_413 c_440) | exact pCan1 c_396 (hI.all_f (by omega) (by omega) c_413 c_422 c_440)) j_396)
                            · refine y_aload_n C dL_matters_425 rfl rfl ?_
                              refine y_iload C dL_matters_426 rfl ?_
                              refine y_iconst (v := 0) C dL_matters_428 (by decide) ?_
                              refine y_sw (rest := []) C (k_guildOf l hst S M hI.hM i_378 0 (by omega) (by decide)) mwL_guildOf mlL_149 rfl rfl rfl ⟨by decide, by decide⟩ (by omega) (Nat.le_of_ble_eq_true rfl) dL_matters_429 ?_
                              refine y_aload_n C dL_matters_432 rfl rfl ?_
                              refine y_iload_n C dL_matters_433 rfl rfl ?_
                              refine y_iload C dL_matters_434 rfl ?_
                              refine y_sw (rest := [.int (S 7 i_378)]) C (k_amount l hst S M hI.hM i_8 i_378 (by omega) (by omega)) mwL_amount mlL_182 rfl rfl rfl ⟨by decide, by decide⟩ (by omega) (Nat.le_of_ble_eq_true rfl) dL_matters_436 ?_
                              refine y_iadd C dL_matters_439 ?_
                              refine y_if_lt (tgt := 447) C dL_matters_440 (by decide)  (fun c_440 => ?_) (fun c_440 => ?_)
                              · refine y_iconst (v := 0) C dL_matters_447 (by decide) ?_
                                exact y_up (by omega) (y_top (by first | exact pCan0 c_396 | exact pCan1 c_396 (hI.all_a (by omega) (by omega) c_402) | exact pCan1 c_396 (hI.all_b (by omega) (by omega) c_408) | exact pCan2 (hI.all_c (by omega) (by omega) c_402 c_408 c_413) | exact pCan2 (hI.all_d (by omega) (by omega) c_413 c_422) | exact pCan2 (hI.all_e (by omega) (by omega) c_413 c_440) | exact pCan1 c_396 (hI.all_f (by omega) (by omega) c_413 c_422 c_440)) j_396)
                              · refine y_iconst (v := 1) C dL_matters_443 (by decide) ?_
                                refine y_goto (tgt := 448) C dL_matters_444 (by decide) ?_
                                exact y_up (by omega) (y_top (by first | exact pCan0 c_396 | exact pCan1 c_396 (hI.all_a (by omega) (by omega) c_402) | exact pCan1 c_396 (hI.all_b (by omega) (by omega) c_408) | exact pCan2 (hI.all_c (by omega) (by omega) c_402 c_408 c_413) | exact pCan2 (hI.all_d (by omega) (by omega) c_413 c_422) | exact pCan2 (hI.all_e (by omega) (by omega) c_413 c_440) | exact pCan1 c_396 (hI.all_f (by omega) (by omega) c_413 c_422 c_440)) j_396)
                exact y_to (loop_378 (6 - 0) 0 _ (by omega) (by omega)) ⟨rfl, rfl, rfl, rfl, rfl, rfl, rfl, rfl, rfl, rfl, rfl, rfl, trivial⟩ rfl
              refine y_icmp_ne (tgt := 365) C dL_matters_344 (by decide)  (fun c_344 => ?_) (fun c_344 => ?_)
              · exact y_up (by omega) (j_365)
              · refine y_aload_n C dL_matters_347 rfl rfl ?_
                refine y_iload_n C dL_matters_348 rfl rfl ?_
                refine y_iconst (v := 1) C dL_matters_349 (by decide) ?_
                refine y_si (rest := []) C (l_count l hst S d M N hI i_8 (by omega) 1 (by decide)) msL_count rfl mlL_184 rfl rfl rfl ⟨by decide, by decide⟩ (by omega) (Nat.le_of_ble_eq_true rfl) dL_matters_350 ?_
                refine y_aload_n C dL_matters_353 rfl rfl ?_
                refine y_iload_n C dL_matters_354 rfl rfl ?_
                refine y_iconst (v := 3) C dL_matters_355 (by decide) ?_
                refine y_si (rest := [.int (uC_ans S i_8 1)]) C (l_count l hst S d M N hI i_8 (by omega) 3 (by decide)) msL_count rfl mlL_184 rfl rfl rfl ⟨by decide, by decide⟩ (by omega) (Nat.le_of_ble_eq_true rfl) dL_matters_356 ?_
                refine y_iadd C dL_matters_359 ?_
                refine y_iload C dL_matters_360 rfl ?_
                refine y_icmp_ne (tgt := 369) C dL_matters_362 (by decide)  (fun c_362 => absurd (hI.s1all (by omega) c_344) c_362) (fun c_362 => ?_)
                exact y_up (by omega) (j_365)
            refine y_if_eq (tgt := 341) C dL_matters_323 (by decide)  (fun c_323 => ?_) (fun c_323 => ?_)
            · exact y_up (by omega) (j_341)
            · refine y_iload C dL_matters_326 rfl ?_
              refine y_iconst (v := 1) C dL_matters_328 (by decide) ?_
              refine y_icmp_ne (tgt := 369) C dL_matters_329 (by decide)  (fun c_329 => absurd (hI.s1 (by omega) c_323) c_329) (fun c_329 => ?_)
              refine y_aload_n C dL_matters_332 rfl rfl ?_
              refine y_iload_n C dL_matters_333 rfl rfl ?_
              refine y_iconst (v := 4) C dL_matters_334 (by decide) ?_
              refine y_si (rest := []) C (l_count l hst S d M N hI i_8 (by omega) 4 (by decide)) msL_count rfl mlL_184 rfl rfl rfl ⟨by decide, by decide⟩ (by omega) (Nat.le_of_ble_eq_true rfl) dL_matters_335 ?_
              refine y_if_ne (tgt := 369) C dL_matters_338 (by decide)  (fun c_338 => absurd (hI.s1n4 (by omega) (hI.s1 (by omega) c_323)) c_338) (fun c_338 => ?_)
              exact y_up (by omega) (j_341)
          refine y_if_le (tgt := 189) C dL_matters_164 (by decide)  (fun c_164 => ?_) (fun c_164 => ?_)
          · refine y_iconst (v := 0) C dL_matters_189 (by decide) ?_
            exact y_up (by omega) (y_top (by first | exact pFHa c_164 | exact pFHb c_182 | exact pFHc c_164 c_182) j_164)
          · refine y_aload_n C dL_matters_167 rfl rfl ?_
            refine y_iload_n C dL_matters_168 rfl rfl ?_
            refine y_iconst (v := 3) C dL_matters_169 (by decide) ?_
            refine y_si (rest := [.int (q_sum (uC_fH S) i_8)]) C (l_count l hst S d M N hI i_8 (by omega) 3 (by decide)) msL_count rfl mlL_184 rfl rfl rfl ⟨by decide, by decide⟩ (by omega) (Nat.le_of_ble_eq_true rfl) dL_matters_170 ?_
            refine y_aload_n C dL_matters_173 rfl rfl ?_
            refine y_iload_n C dL_matters_174 rfl rfl ?_
            refine y_iconst (v := 4) C dL_matters_175 (by decide) ?_
            refine y_si (rest := [.int (uC_ans S i_8 3), .int (q_sum (uC_fH S) i_8)]) C (l_count l hst S d M N hI i_8 (by omega) 4 (by decide)) msL_count rfl mlL_184 rfl rfl rfl ⟨by decide, by decide⟩ (by omega) (Nat.le_of_ble_eq_true rfl) dL_matters_176 ?_
            refine y_iadd C dL_matters_179 ?_
            refine y_iload C dL_matters_180 rfl ?_
            refine y_icmp_ne (tgt := 189) C dL_matters_182 (by decide)  (fun c_182 => ?_) (fun c_182 => ?_)
            · refine y_iconst (v := 0) C dL_matters_189 (by decide) ?_
              exact y_up (by omega) (y_top (by first | exact pFHa c_164 | exact pFHb c_182 | exact pFHc c_164 c_182) j_164)
            · refine y_iconst (v := 1) C dL_matters_185 (by decide) ?_
              refine y_goto (tgt := 190) C dL_matters_186 (by decide) ?_
              exact y_up (by omega) (y_top (by first | exact pFHa c_164 | exact pFHb c_182 | exact pFHc c_164 c_182) j_164)
        | succ n_29 ih_29 =>
          intro i_29 u_29 hi_29 hu_29
          refine y_iload C dL_matters_29 rfl ?_
          refine y_bipush (v := 6) C dL_matters_31 (by decide) ?_
          refine y_icmp_geN (a := i_29) (b := 6) (tgt := 127) C dL_matters_33 (by decide) rfl rfl (by omega) (by omega) (fun c_33 => absurd c_33 (by omega)) (fun c_33 => ?_)
          refine y_aload_n C dL_matters_36 rfl rfl ?_
          refine y_iload_n C dL_matters_37 rfl rfl ?_
          refine y_iload C dL_matters_38 rfl ?_
          refine y_sw (rest := []) C (k_amount l hst S M hI.hM i_8 i_29 (by omega) (by omega)) mwL_amount mlL_182 rfl rfl rfl ⟨by decide, by decide⟩ (by omega) (Nat.le_of_ble_eq_true rfl) dL_matters_40 ?_
          have j_43 : q_Y l K (u_29 + 6) [(a_1, .inl (q_cy K 0, 3, .inl (pHow S i_8)))] q_Tr 51 [(0, .ref (q_ad K 0)), (1, .ref a_1), (2, .int (q_sum (uC_fH S) i_8)), (3, .int (nI i_8)), (4, .int (q_sum (uC_fG S i_8) i_29)), (5, .int (q_sum (fun g => S 5 (i_8 * 6 + g)) i_29)), (6, .int 1), (7, .int (nI i_29))] [.int (uC_fG S i_8 i_29)] S := by
            refine y_istore (lv' := [(8, .int (uC_fG S i_8 i_29)), (0, .ref (q_ad K 0)), (1, .ref a_1), (2, .int (q_sum (uC_fH S) i_8)), (3, .int (nI i_8)), (4, .int (q_sum (uC_fG S i_8) i_29)), (5, .int (q_sum (fun g => S 5 (i_8 * 6 + g)) i_29)), (6, .int 1), (7, .int (nI i_29))]) C dL_matters_51 (by decide) rfl ?_
            refine y_iload C dL_matters_53 rfl ?_
            refine y_iload C dL_matters_55 rfl ?_
            have j_57 : q_Y l K (u_29 + 6) [(a_1, .inl (q_cy K 0, 3, .inl (pHow S i_8)))] q_Tr 65 [(8, .int (uC_fG S i_8 i_29)), (0, .ref (q_ad K 0)), (1, .ref a_1), (2, .int (q_sum (uC_fH S) i_8)), (3, .int (nI i_8)), (4, .int (q_sum (uC_fG S i_8) i_29)), (5, .int (q_sum (fun g => S 5 (i_8 * 6 + g)) i_29)), (6, .int 1), (7, .int (nI i_29))] [.int (uC_fG S i_8 i_29), .int (q_sum (uC_fG S i_8) i_29)] S := by
              refine y_iadd C dL_matters_65 ?_
              refine y_istore (lv' := [(4, .int ((q_sum (uC_fG S i_8) i_29) + (uC_fG S i_8 i_29))), (8, .int (uC_fG S i_8 i_29)), (0, .ref (q_ad K 0)), (1, .ref a_1), (2, .int (q_sum (uC_fH S) i_8)), (3, .int (nI i_8)), (5, .int (q_sum (fun g => S 5 (i_8 * 6 + g)) i_29)), (6, .int 1), (7, .int (nI i_29))]) C dL_matters_66 (by decide) rfl ?_
              refine y_iload C dL_matters_68 rfl ?_
              refine y_aload_n C dL_matters_70 rfl rfl ?_
              refine y_iload_n C dL_matters_71 rfl rfl ?_
              refine y_iload C dL_matters_72 rfl ?_
              refine y_sw (rest := [.int (q_sum (fun g => S 5 (i_8 * 6 + g)) i_29)]) C (k_amount l hst S M hI.hM i_8 i_29 (by omega) (by omega)) mwL_amount mlL_182 rfl rfl rfl ⟨by decide, by decide⟩ (by omega) (Nat.le_of_ble_eq_true rfl) dL_matters_74 ?_
              refine y_iadd C dL_matters_77 ?_
              refine y_istore (lv' := [(5, .int ((q_sum (fun g => S 5 (i_8 * 6 + g)) i_29) + (S 5 (i_8 * 6 + i_29)))), (4, .int ((q_sum (uC_fG S i_8) i_29) + (uC_fG S i_8 i_29))), (8, .int (uC_fG S i_8 i_29)), (0, .ref (q_ad K 0)), (1, .ref a_1), (2, .int (q_sum (uC_fH S) i_8)), (3, .int (nI i_8)), (6, .int 1), (7, .int (nI i_29))]) C dL_matters_78 (by decide) rfl ?_
              refine y_iload C dL_matters_80 rfl ?_
              refine y_if_eq (tgt := 118) C dL_matters_82 (by decide) (fun h9 => absurd h9 (by decide)) (fun _ => ?_)
              refine y_aload_n C dL_matters_85 rfl rfl ?_
              refine y_iload_n C dL_matters_86 rfl rfl ?_
              refine y_iload C dL_matters_87 rfl ?_
              refine y_sw (rest := []) C (k_answer l hst S M hI.hM i_8 i_29 (by omega) (by omega)) mwL_answer mlL_160 rfl rfl rfl ⟨by decide, by decide⟩ (by omega) (Nat.le_of_ble_eq_true rfl) dL_matters_89 ?_
              refine y_iconst (v := (-1)) C dL_matters_92 (by decide) ?_
              have j_93 : q_Y l K (u_29 + 6 + 6 + 6) [(a_1, .inl (q_cy K 0, 3, .inl (pHow S i_8)))] q_Tr 101 [(5, .int ((q_sum (fun g => S 5 (i_8 * 6 + g)) i_29) + (S 5 (i_8 * 6 + i_29)))), (4, .int ((q_sum (uC_fG S i_8) i_29) + (uC_fG S i_8 i_29))), (8, .int (uC_fG S i_8 i_29)), (0, .ref (q_ad K 0)), (1, .ref a_1), (2, .int (q_sum (uC_fH S) i_8)), (3, .int (nI i_8)), (6, .int 1), (7, .int (nI i_29))] [.int (pNG S i_8 i_29)] S := by
                refine y_iload C dL_matters_101 rfl ?_
                have j_103 : q_Y l K (u_29 + 6 + 6 + 6) [(a_1, .inl (q_cy K 0, 3, .inl (pHow S i_8)))] q_Tr 111 [(5, .int ((q_sum (fun g => S 5 (i_8 * 6 + g)) i_29) + (S 5 (i_8 * 6 + i_29)))), (4, .int ((q_sum (uC_fG S i_8) i_29) + (uC_fG S i_8 i_29))), (8, .int (uC_fG S i_8 i_29)), (0, .ref (q_ad K 0)), (1, .ref a_1), (2, .int (q_sum (uC_fH S) i_8)), (3, .int (nI i_8)), (6, .int 1), (7, .int (nI i_29))] [.int (pNG S i_8 i_29), .int (pNG S i_8 i_29)] S := by
                  refine y_icmp_ne (tgt := 118) C dL_matters_111 (by decide)  (fun c_111 => absurd rfl c_111) (fun c_111 => ?_)
                  refine y_iconst (v := 1) C dL_matters_114 (by decide) ?_
                  refine y_goto (tgt := 119) C dL_matters_115 (by decide) ?_
                  refine y_istore (lv' := [(6, .int 1), (5, .int ((q_sum (fun g => S 5 (i_8 * 6 + g)) i_29) + (S 5 (i_8 * 6 + i_29)))), (4, .int ((q_sum (uC_fG S i_8) i_29) + (uC_fG S i_8 i_29))), (8, .int (uC_fG S i_8 i_29)), (0, .ref (q_ad K 0)), (1, .ref a_1), (2, .int (q_sum (uC_fH S) i_8)), (3, .int (nI i_8)), (7, .int (nI i_29))]) C dL_matters_119 (by decide) rfl ?_
                  refine y_iinc (v := nI (i_29 + 1)) (lv' := [(7, .int (nI (i_29 + 1))), (6, .int 1), (5, .int ((q_sum (fun g => S 5 (i_8 * 6 + g)) i_29) + (S 5 (i_8 * 6 + i_29)))), (4, .int ((q_sum (uC_fG S i_8) i_29) + (uC_fG S i_8 i_29))), (8, .int (uC_fG S i_8 i_29)), (0, .ref (q_ad K 0)), (1, .ref a_1), (2, .int (q_sum (uC_fH S) i_8)), (3, .int (nI i_8))]) C dL_matters_121 rfl (nI_add _ _) (by decide) rfl ?_
                  refine y_goto (tgt := 29) C dL_matters_124 (by decide) ?_
                  exact y_to (ih_29 (i_29 + 1) _ (by omega) (by omega)) ⟨rfl, rfl, rfl, rfl, rfl, rfl, rfl, rfl, trivial⟩ rfl
                refine y_if_ne (tgt := 110) C dL_matters_103 (by decide)  (fun c_103 => ?_) (fun c_103 => ?_)
                · refine y_iconst (v := 0) C dL_matters_110 (by decide) ?_
                  exact y_top (pNGa c_103) j_103
                · refine y_iconst (v := 1) C dL_matters_106 (by decide) ?_
                  refine y_goto (tgt := 111) C dL_matters_107 (by decide) ?_
                  exact y_top (pNGb c_103) j_103
              refine y_icmp_ne (tgt := 100) C dL_matters_93 (by decide)  (fun c_93 => ?_) (fun c_93 => ?_)
              · refine y_iconst (v := 0) C dL_matters_100 (by decide) ?_
                exact y_top (hI.ng0 (by omega) (by omega) c_93) j_93
              · refine y_iconst (v := 1) C dL_matters_96 (by decide) ?_
                refine y_goto (tgt := 101) C dL_matters_97 (by decide) ?_
                exact y_top (hI.ng1 (by omega) (by omega) c_93) j_93
            refine y_if_eq (tgt := 64) C dL_matters_57 (by decide)  (fun c_57 => ?_) (fun c_57 => ?_)
            · refine y_iconst (v := 0) C dL_matters_64 (by decide) ?_
              exact y_top c_57.symm j_57
            · refine y_iconst (v := 1) C dL_matters_60 (by decide) ?_
              refine y_goto (tgt := 65) C dL_matters_61 (by decide) ?_
              exact y_top (pFG1 c_57) j_57
          refine y_if_eq (tgt := 50) C dL_matters_43 (by decide)  (fun c_43 => ?_) (fun c_43 => ?_)
          · refine y_iconst (v := 0) C dL_matters_50 (by decide) ?_
            exact y_top (if_pos c_43).symm j_43
          · refine y_iconst (v := 1) C dL_matters_46 (by decide) ?_
            refine y_goto (tgt := 51) C dL_matters_47 (by decide) ?_
            exact y_top (if_neg c_43).symm j_43
      exact y_to (loop_29 (6 - 0) 0 _ (by omega) (by omega)) ⟨rfl, rfl, rfl, rfl, rfl, rfl, rfl, rfl, trivial⟩ rfl
  exact y_to (loop_8 (M - 0) 0 _ (by omega) (by omega)) ⟨rfl, rfl, rfl, rfl, trivial⟩ rfl
