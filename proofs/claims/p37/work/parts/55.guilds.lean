
theorem uF_nn (x : Int32) : FP.Core.dIsNaN (FP.ddiv (FP.i2d x) 4618441417868443648) = false := by
  have hb : FP.Core.DFin 4618441417868443648 := (FP.Core.fin_bits _).mpr (by decide)
  have hz : ¬ FP.Core.DZero 4618441417868443648 := fun h => absurd ((FP.Core.zero_bits2 _).mp h) (by decide)
  exact FP.Core.ddiv_out ((FP.Core.notNaN_iff _).mpr (FP.Core.i2d_fin x).ne_nan) hb hz
theorem cdL : Cond.constantDouble RL 211 4618441417868443648 ∈ q_WS := q_in 922 (by decide +kernel) rfl
set_option maxHeartbeats 4000000 in
theorem l_guilds (l : Launch) (hst : l.stackTraces = false) (S : q_St) (d M N : Nat) (hI : pI d M N S) (hd : d < 2 ^ 29) : q_Fy l yL_guilds kL_guilds 11 6000 [.ref 0] S 1 S := by
  refine q_Fy_of (maxL := 17) rfl (by decide +kernel) (fun ad => Nat.le_of_ble_eq_true rfl) rfl ?_
  intro K C hret
  have C : q_Cy K cL_guilds RL 11 17 6000 [] q_Tr := C
  show q_Y l K 0 [] q_Tr 0 [(0, .ref (q_ad K 0))] [] S
  have hM8 := hI.M8
  refine y_iconst (v := 0) C dL_guilds_0 (by decide) ?_
  refine y_istore_n (lv' := [(1, .int 0), (0, .ref (q_ad K 0))]) C dL_guilds_1 rfl (by decide) rfl ?_
  refine y_bipush (v := 120) C dL_guilds_2 (by decide) ?_
  refine y_istore_n (lv' := [(2, .int 120), (1, .int 0), (0, .ref (q_ad K 0))]) C dL_guilds_4 rfl (by decide) rfl ?_
  refine y_iconst (v := 0) C dL_guilds_5 (by decide) ?_
  refine y_istore_n (lv' := [(3, .int 0), (2, .int 120), (1, .int 0), (0, .ref (q_ad K 0))]) C dL_guilds_6 rfl (by decide) rfl ?_
  refine y_iconst (v := 0) C dL_guilds_7 (by decide) ?_
  refine y_istore (lv' := [(4, .int 0), (3, .int 0), (2, .int 120), (1, .int 0), (0, .ref (q_ad K 0))]) C dL_guilds_8 (by decide) rfl ?_
  refine y_iconst (v := 0) C dL_guilds_10 (by decide) ?_
  refine y_istore (lv' := [(5, .int 0), (4, .int 0), (3, .int 0), (2, .int 120), (1, .int 0), (0, .ref (q_ad K 0))]) C dL_guilds_11 (by decide) rfl ?_
  refine y_iconst (v := (-1)) C dL_guilds_13 (by decide) ?_
  refine y_istore (lv' := [(6, .int (-1)), (5, .int 0), (4, .int 0), (3, .int 0), (2, .int 120), (1, .int 0), (0, .ref (q_ad K 0))]) C dL_guilds_14 (by decide) rfl ?_
  refine y_iconst (v := 0) C dL_guilds_16 (by decide) ?_
  refine y_istore (lv' := [(7, .int 0), (6, .int (-1)), (5, .int 0), (4, .int 0), (3, .int 0), (2, .int 120), (1, .int 0), (0, .ref (q_ad K 0))]) C dL_guilds_17 (by decide) rfl ?_
  have loop_19 : ∀ (n_19 i_19 u_19 : Nat), i_19 + n_19 = 6 → u_19 + n_19 * 900 ≤ 0 + 6 * 900 → q_Y l K u_19 [] q_Tr 19 [(0, .ref (q_ad K 0)), (1, .int (q_sum (S 7) i_19)), (2, .int (pAg S M i_19)), (3, .int (q_sum (uC_fW S) i_19)), (4, .int (q_sum (uC_fD S M) i_19)), (5, .int (q_sum (S 8) i_19)), (6, .int (pBf S i_19)), (7, .int (nI i_19))] [] S := by
    intro n_19
    induction n_19 with
    | zero =>
      intro i_19 u_19 hi_19 hu_19
      have e_19 : i_19 = 6 := by omega
      refine y_iload C dL_guilds_19 rfl ?_
      refine y_bipush (v := 6) C dL_guilds_21 (by decide) ?_
      refine y_icmp_geN (a := i_19) (b := 6) (tgt := 464) C dL_guilds_23 (by decide) rfl rfl (by omega) (by omega) (fun c_23 => ?_) (fun c_23 => absurd c_23 (by omega))
      have e9i_19 : i_19 = 6 := by omega
      subst e9i_19
      refine y_aload_n C dL_guilds_464 rfl rfl ?_
      refine y_iconst (v := 0) C dL_guilds_465 (by decide) ?_
      refine y_ci (rest := []) C (c_X6_coins l S M hI.hM.1 hI.hM.2 0) myX6_coins mlL_204 rfl rfl rfl ⟨by decide, by decide⟩ (by omega) (Nat.le_of_ble_eq_true rfl) dL_guilds_466 ?_
      refine y_iload_n C dL_guilds_469 rfl rfl ?_
      refine y_icmp_ne (tgt := 506) C dL_guilds_470 (by decide)  (fun c_470 => absurd (by rw [if_pos rfl]; rfl) c_470) (fun c_470 => ?_)
      refine y_aload_n C dL_guilds_473 rfl rfl ?_
      refine y_iconst (v := 1) C dL_guilds_474 (by decide) ?_
      refine y_ci (rest := []) C (c_X6_coins l S M hI.hM.1 hI.hM.2 1) myX6_coins mlL_204 rfl rfl rfl ⟨by decide, by decide⟩ (by omega) (Nat.le_of_ble_eq_true rfl) dL_guilds_475 ?_
      refine y_iload_n C dL_guilds_478 rfl rfl ?_
      refine y_icmp_ne (tgt := 506) C dL_guilds_479 (by decide)  (fun c_479 => absurd (by rw [if_neg (by decide)]; exact hI.coins2) c_479) (fun c_479 => ?_)
      refine y_iload_n C dL_guilds_482 rfl rfl ?_
      refine y_iload_n C dL_guilds_483 rfl rfl ?_
      refine y_icmp_ne (tgt := 506) C dL_guilds_484 (by decide)  (fun c_484 => absurd hI.ag6 c_484) (fun c_484 => ?_)
      refine y_aload_n C dL_guilds_487 rfl rfl ?_
      refine y_cd (rest := []) C (c_X6_meanDoubt l S) myX6_meanDoubt mlL_207 rfl rfl rfl ⟨by decide, by decide⟩ (by omega) (Nat.le_of_ble_eq_true rfl) dL_guilds_488 ?_
      refine y_iload C dL_guilds_491 rfl ?_
      refine y_i2d C dL_guilds_493 ?_
      refine y_ldc2d (v := 4618441417868443648) C cdL dL_guilds_494 ?_
      refine y_ddiv C (uF_n64 _) dL_guilds_497 ?_
      refine y_dcmpE C rfl (uF_nn _) dL_guilds_498 ?_
      refine y_if_ne (tgt := 506) C dL_guilds_499 (by decide) (fun h9 => absurd h9 (by decide)) (fun _ => ?_)
      refine y_iconst (v := 1) C dL_guilds_502 (by decide) ?_
      refine y_goto (tgt := 507) C dL_guilds_503 (by decide) ?_
      refine y_istore (lv' := [(7, .int 1), (0, .ref (q_ad K 0)), (1, .int (q_sum (S 7) 6)), (2, .int (pAg S M 6)), (3, .int (q_sum (uC_fW S) 6)), (4, .int (q_sum (uC_fD S M) 6)), (5, .int (q_sum (S 8) 6)), (6, .int (pBf S 6))]) C dL_guilds_507 (by decide) rfl ?_
      refine y_iload C dL_guilds_509 rfl ?_
      refine y_if_eq (tgt := 590) C dL_guilds_511 (by decide) (fun h9 => absurd h9 (by decide)) (fun _ => ?_)
      refine y_aload_n C dL_guilds_514 rfl rfl ?_
      refine y_iconst (v := 4) C dL_guilds_515 (by decide) ?_
      refine y_cx (rest := []) C (k_account l hst S M hI.hM 4 (by decide)) myX6_account mlL_157 rfl rfl rfl ⟨by decide, by decide⟩ (by omega) (Nat.le_of_ble_eq_true rfl) dL_guilds_516 ?_
      refine y_iload_n C dL_guilds_519 rfl rfl ?_
      refine y_icmp_ne (tgt := 590) C dL_guilds_520 (by decide)  (fun c_520 => absurd rfl c_520) (fun c_520 => ?_)
      refine y_aload_n C dL_guilds_523 rfl rfl ?_
      refine y_iconst (v := 5) C dL_guilds_524 (by decide) ?_
      refine y_cx (rest := []) C (k_account l hst S M hI.hM 5 (by decide)) myX6_account mlL_157 rfl rfl rfl ⟨by decide, by decide⟩ (by omega) (Nat.le_of_ble_eq_true rfl) dL_guilds_525 ?_
      refine y_iload C dL_guilds_528 rfl ?_
      refine y_icmp_ne (tgt := 590) C dL_guilds_530 (by decide)  (fun c_530 => absurd rfl c_530) (fun c_530 => ?_)
      refine y_aload_n C dL_guilds_533 rfl rfl ?_
      refine y_bipush (v := 7) C dL_guilds_534 (by decide) ?_
      refine y_cx (rest := []) C (k_account l hst S M hI.hM 7 (by decide)) myX6_account mlL_157 rfl rfl rfl ⟨by decide, by decide⟩ (by omega) (Nat.le_of_ble_eq_true rfl) dL_guilds_536 ?_
      refine y_iload C dL_guilds_539 rfl ?_
      refine y_icmp_ne (tgt := 590) C dL_guilds_541 (by decide)  (fun c_541 => absurd rfl c_541) (fun c_541 => ?_)
      refine y_aload_n C dL_guilds_544 rfl rfl ?_
      refine y_ci (rest := []) C (c_X6_isWell l S M hI.hM.1 hI.hM.2) myX6_isWell mlL_213 rfl rfl rfl ⟨by decide, by decide⟩ (by omega) (Nat.le_of_ble_eq_true rfl) dL_guilds_545 ?_
      refine y_if_eq (tgt := 590) C dL_guilds_548 (by decide)  (fun c_548 => absurd c_548 (by rw [if_pos hI.well]; decide)) (fun c_548 => ?_)
      refine y_aload_n C dL_guilds_551 rfl rfl ?_
      refine y_bipush (v := 6) C dL_guilds_552 (by decide) ?_
      refine y_sw (rest := []) C (k_ranked6 l hst S) mwL_ranked mlL_202 rfl rfl rfl ⟨by decide, by decide⟩ (by omega) (Nat.le_of_ble_eq_true rfl) dL_guilds_554 ?_
      refine y_bipush (v := (-11)) C dL_guilds_557 (by decide) ?_
      refine y_icmp_ne (tgt := 590) C dL_guilds_559 (by decide) (fun h9 => absurd h9 (by decide)) (fun _ => ?_)
      refine y_aload_n C dL_guilds_562 rfl rfl ?_
      refine y_bipush (v := 6) C dL_guilds_563 (by decide) ?_
      refine y_bipush (v := 9) C dL_guilds_565 (by decide) ?_
      refine y_sw (rest := []) C (k_guildOf69 l hst S M hI.hM) mwL_guildOf mlL_149 rfl rfl rfl ⟨by decide, by decide⟩ (by omega) (Nat.le_of_ble_eq_true rfl) dL_guilds_567 ?_
      refine y_bipush (v := (-11)) C dL_guilds_570 (by decide) ?_
      refine y_icmp_ne (tgt := 590) C dL_guilds_572 (by decide) (fun h9 => absurd h9 (by decide)) (fun _ => ?_)
      refine y_aload_n C dL_guilds_575 rfl rfl ?_
      refine y_iconst (v := (-1)) C dL_guilds_576 (by decide) ?_
      refine y_iconst (v := 1) C dL_guilds_577 (by decide) ?_
      refine y_sw (rest := []) C (k_learn_1 l hst S M hI.hM) mwL_canLearn mlL_199 rfl rfl rfl ⟨by decide, by decide⟩ (by omega) (Nat.le_of_ble_eq_true rfl) dL_guilds_578 ?_
      refine y_bipush (v := (-11)) C dL_guilds_581 (by decide) ?_
      refine y_icmp_ne (tgt := 590) C dL_guilds_583 (by decide) (fun h9 => absurd h9 (by decide)) (fun _ => ?_)
      refine y_iconst (v := 1) C dL_guilds_586 (by decide) ?_
      refine y_goto (tgt := 591) C dL_guilds_587 (by decide) ?_
      exact hret _ _ _ _ _ _ _ (by omega) dL_guilds_591 rfl rfl
    | succ n_19 ih_19 =>
      intro i_19 u_19 hi_19 hu_19
      refine y_iload C dL_guilds_19 rfl ?_
      refine y_bipush (v := 6) C dL_guilds_21 (by decide) ?_
      refine y_icmp_geN (a := i_19) (b := 6) (tgt := 464) C dL_guilds_23 (by decide) rfl rfl (by omega) (by omega) (fun c_23 => absurd c_23 (by omega)) (fun c_23 => ?_)
      refine y_iconst (v := 0) C dL_guilds_26 (by decide) ?_
      refine y_istore (lv' := [(8, .int 0), (0, .ref (q_ad K 0)), (1, .int (q_sum (S 7) i_19)), (2, .int (pAg S M i_19)), (3, .int (q_sum (uC_fW S) i_19)), (4, .int (q_sum (uC_fD S M) i_19)), (5, .int (q_sum (S 8) i_19)), (6, .int (pBf S i_19)), (7, .int (nI i_19))]) C dL_guilds_27 (by decide) rfl ?_
      refine y_iconst (v := 0) C dL_guilds_29 (by decide) ?_
      refine y_istore (lv' := [(9, .int 0), (8, .int 0), (0, .ref (q_ad K 0)), (1, .int (q_sum (S 7) i_19)), (2, .int (pAg S M i_19)), (3, .int (q_sum (uC_fW S) i_19)), (4, .int (q_sum (uC_fD S M) i_19)), (5, .int (q_sum (S 8) i_19)), (6, .int (pBf S i_19)), (7, .int (nI i_19))]) C dL_guilds_30 (by decide) rfl ?_
      refine y_iconst (v := 0) C dL_guilds_32 (by decide) ?_
      refine y_istore (lv' := [(10, .int 0), (9, .int 0), (8, .int 0), (0, .ref (q_ad K 0)), (1, .int (q_sum (S 7) i_19)), (2, .int (pAg S M i_19)), (3, .int (q_sum (uC_fW S) i_19)), (4, .int (q_sum (uC_fD S M) i_19)), (5, .int (q_sum (S 8) i_19)), (6, .int (pBf S i_19)), (7, .int (nI i_19))]) C dL_guilds_33 (by decide) rfl ?_
      refine y_bipush (v := 20) C dL_guilds_35 (by decide) ?_
      refine y_istore (lv' := [(11, .int 20), (10, .int 0), (9, .int 0), (8, .int 0), (0, .ref (q_ad K 0)), (1, .int (q_sum (S 7) i_19)), (2, .int (pAg S M i_19)), (3, .int (q_sum (uC_fW S) i_19)), (4, .int (q_sum (uC_fD S M) i_19)), (5, .int (q_sum (S 8) i_19)), (6, .int (pBf S i_19)), (7, .int (nI i_19))]) C dL_guilds_37 (by decide) rfl ?_
      refine y_iconst (v := 0) C dL_guilds_39 (by decide) ?_
      refine y_istore (lv' := [(12, .int 0), (11, .int 20), (10, .int 0), (9, .int 0), (8, .int 0), (0, .ref (q_ad K 0)), (1, .int (q_sum (S 7) i_19)), (2, .int (pAg S M i_19)), (3, .int (q_sum (uC_fW S) i_19)), (4, .int (q_sum (uC_fD S M) i_19)), (5, .int (q_sum (S 8) i_19)), (6, .int (pBf S i_19)), (7, .int (nI i_19))]) C dL_guilds_40 (by decide) rfl ?_
      have loop_42 : ∀ (n_42 i_42 u_42 : Nat), i_42 + n_42 = M → u_42 + n_42 * 36 ≤ u_19 + M * 36 → q_Y l K u_42 [] q_Tr 42 [(0, .ref (q_ad K 0)), (1, .int (q_sum (S 7) i_19)), (2, .int (pAg S M i_19)), (3, .int (q_sum (uC_fW S) i_19)), (4, .int (q_sum (uC_fD S M) i_19)), (5, .int (q_sum (S 8) i_19)), (6, .int (pBf S i_19)), (7, .int (nI i_19)), (8, .int (q_sum (uC_fMo S i_19 3) i_42)), (9, .int (q_sum (uC_fMo S i_19 4) i_42)), (10, .int (q_sum (uC_fMo S i_19 1) i_42)), (11, .int (20 + q_sum (fun m => uC_fS S m i_19) i_42)), (12, .int (nI i_42))] [] S := by
        intro n_42
        induction n_42 with
        | zero =>
          intro i_42 u_42 hi_42 hu_42
          have e_42 : i_42 = M := by omega
          refine y_iload C dL_guilds_42 rfl ?_
          refine y_aload_n C dL_guilds_44 rfl rfl ?_
          refine y_iconst (v := 0) C dL_guilds_45 (by decide) ?_
          refine y_cx (rest := [.int (nI i_42)]) C (k_account l hst S M hI.hM 0 (by decide)) myX6_account mlL_157 rfl rfl rfl ⟨by decide, by decide⟩ (by omega) (Nat.le_of_ble_eq_true rfl) dL_guilds_46 ?_
          refine y_icmp_geN (a := i_42) (b := M) (tgt := 153) C dL_guilds_49 (by decide) rfl rfl (by omega) (by omega) (fun c_49 => ?_) (fun c_49 => absurd c_49 (by omega))
          have e9i_42 : M = i_42 := by omega
          subst e9i_42
          refine y_aload_n C dL_guilds_153 rfl rfl ?_
          refine y_iload C dL_guilds_154 rfl ?_
          refine y_si (rest := []) C (l_doubt l hst S d M N hI i_19 (by omega)) msL_doubt rfl mlL_192 rfl rfl rfl ⟨by decide, by decide⟩ (by omega) (Nat.le_of_ble_eq_true rfl) dL_guilds_156 ?_
          refine y_istore (lv' := [(12, .int (uC_doubt S M i_19)), (0, .ref (q_ad K 0)), (1, .int (q_sum (S 7) i_19)), (2, .int (pAg S M i_19)), (3, .int (q_sum (uC_fW S) i_19)), (4, .int (q_sum (uC_fD S M) i_19)), (5, .int (q_sum (S 8) i_19)), (6, .int (pBf S i_19)), (7, .int (nI i_19)), (8, .int (q_sum (uC_fMo S i_19 3) M)), (9, .int (q_sum (uC_fMo S i_19 4) M)), (10, .int (q_sum (uC_fMo S i_19 1) M)), (11, .int (20 + q_sum (fun m => uC_fS S m i_19) M))]) C dL_guilds_159 (by decide) rfl ?_
          refine y_iconst (v := 0) C dL_guilds_161 (by decide) ?_
          refine y_istore (lv' := [(13, .int 0), (12, .int (uC_doubt S M i_19)), (0, .ref (q_ad K 0)), (1, .int (q_sum (S 7) i_19)), (2, .int (pAg S M i_19)), (3, .int (q_sum (uC_fW S) i_19)), (4, .int (q_sum (uC_fD S M) i_19)), (5, .int (q_sum (S 8) i_19)), (6, .int (pBf S i_19)), (7, .int (nI i_19)), (8, .int (q_sum (uC_fMo S i_19 3) M)), (9, .int (q_sum (uC_fMo S i_19 4) M)), (10, .int (q_sum (uC_fMo S i_19 1) M)), (11, .int (20 + q_sum (fun m => uC_fS S m i_19) M))]) C dL_guilds_162 (by decide) rfl ?_
          refine y_iconst (v := 0) C dL_guilds_164 (by decide) ?_
          refine y_istore (lv' := [(14, .int 0), (13, .int 0), (12, .int (uC_doubt S M i_19)), (0, .ref (q_ad K 0)), (1, .int (q_sum (S 7) i_19)), (2, .int (pAg S M i_19)), (3, .int (q_sum (uC_fW S) i_19)), (4, .int (q_sum (uC_fD S M) i_19)), (5, .int (q_sum (S 8) i_19)), (6, .int (pBf S i_19)), (7, .int (nI i_19)), (8, .int (q_sum (uC_fMo S i_19 3) M)), (9, .int (q_sum (uC_fMo S i_19 4) M)), (10, .int (q_sum (uC_fMo S i_19 1) M)), (11, .int (20 + q_sum (fun m => uC_fS S m i_19) M))]) C dL_guilds_165 (by decide) rfl ?_
          have j_238 : q_Y l K (u_42 + 6 + 60 + 150) [] q_Tr 238 [(13, .int (if uC_learn S M i_19 then (1 : Int32) else 0)), (12, .int (uC_doubt S M i_19)), (0, .ref (q_ad K 0)), (1, .int (q_sum (S 7) i_19)), (2, .int (pAg S M i_19)), (3, .int (q_sum (uC_fW S) i_19)), (4, .int (q_sum (uC_fD S M) i_19)), (5, .int (q_sum (S 8) i_19)), (6, .int (pBf S i_19)), (7, .int (nI i_19)), (8, .int (q_sum (uC_fMo S i_19 3) M)), (9, .int (q_sum (uC_fMo S i_19 4) M)), (10, .int (q_sum (uC_fMo S i_19 1) M)), (11, .int (20 + q_sum (fun m => uC_fS S m i_19) M))] [] S := by
            refine y_iload_n C dL_guilds_238 rfl rfl ?_
            refine y_aload_n C dL_guilds_239 rfl rfl ?_
            refine y_iload C dL_guilds_240 rfl ?_
            refine y_iconst (v := 0) C dL_guilds_242 (by decide) ?_
            refine y_sw (rest := [.int (q_sum (S 7) i_19)]) C (k_guildOf l hst S M hI.hM i_19 0 (by omega) (by decide)) mwL_guildOf mlL_149 rfl rfl rfl ⟨by decide, by decide⟩ (by omega) (Nat.le_of_ble_eq_true rfl) dL_guilds_243 ?_
            refine y_iadd C dL_guilds_246 ?_
            refine y_istore_n (lv' := [(1, .int ((q_sum (S 7) i_19) + (S 7 i_19))), (13, .int (if uC_learn S M i_19 then (1 : Int32) else 0)), (12, .int (uC_doubt S M i_19)), (0, .ref (q_ad K 0)), (2, .int (pAg S M i_19)), (3, .int (q_sum (uC_fW S) i_19)), (4, .int (q_sum (uC_fD S M) i_19)), (5, .int (q_sum (S 8) i_19)), (6, .int (pBf S i_19)), (7, .int (nI i_19)), (8, .int (q_sum (uC_fMo S i_19 3) M)), (9, .int (q_sum (uC_fMo S i_19 4) M)), (10, .int (q_sum (uC_fMo S i_19 1) M)), (11, .int (20 + q_sum (fun m => uC_fS S m i_19) M))]) C dL_guilds_247 rfl (by decide) rfl ?_
            refine y_iload_n C dL_guilds_248 rfl rfl ?_
            refine y_iload C dL_guilds_249 rfl ?_
            refine y_bipush (v := 20) C dL_guilds_251 (by decide) ?_
            refine y_isub C dL_guilds_253 ?_
            refine y_iadd C dL_guilds_254 ?_
            refine y_istore_n (lv' := [(2, .int ((pAg S M i_19) + ((20 + q_sum (fun m => uC_fS S m i_19) M) - 20))), (1, .int ((q_sum (S 7) i_19) + (S 7 i_19))), (13, .int (if uC_learn S M i_19 then (1 : Int32) else 0)), (12, .int (uC_doubt S M i_19)), (0, .ref (q_ad K 0)), (3, .int (q_sum (uC_fW S) i_19)), (4, .int (q_sum (uC_fD S M) i_19)), (5, .int (q_sum (S 8) i_19)), (6, .int (pBf S i_19)), (7, .int (nI i_19)), (8, .int (q_sum (uC_fMo S i_19 3) M)), (9, .int (q_sum (uC_fMo S i_19 4) M)), (10, .int (q_sum (uC_fMo S i_19 1) M)), (11, .int (20 + q_sum (fun m => uC_fS S m i_19) M))]) C dL_guilds_255 rfl (by decide) rfl ?_
            refine y_iload_n C dL_guilds_256 rfl rfl ?_
            refine y_aload_n C dL_guilds_257 rfl rfl ?_
            refine y_iload C dL_guilds_258 rfl ?_
            refine y_iconst (v := 1) C dL_guilds_260 (by decide) ?_
            refine y_sw (rest := [.int (q_sum (uC_fW S) i_19)]) C (k_guildOf l hst S M hI.hM i_19 1 (by omega) (by decide)) mwL_guildOf mlL_149 rfl rfl rfl ⟨by decide, by decide⟩ (by omega) (Nat.le_of_ble_eq_true rfl) dL_guilds_261 ?_
            refine y_iadd C dL_guilds_264 ?_
            refine y_istore_n (lv' := [(3, .int ((q_sum (uC_fW S) i_19) + (if S 9 i_19 = 0 then 0 else 1))), (2, .int ((pAg S M i_19) + ((20 + q_sum (fun m => uC_fS S m i_19) M) - 20))), (1, .int ((q_sum (S 7) i_19) + (S 7 i_19))), (13, .int (if uC_learn S M i_19 then (1 : Int32) else 0)), (12, .int (uC_doubt S M i_19)), (0, .ref (q_ad K 0)), (4, .int (q_sum (uC_fD S M) i_19)), (5, .int (q_sum (S 8) i_19)), (6, .int (pBf S i_19)), (7, .int (nI i_19)), (8, .int (q_sum (uC_fMo S i_19 3) M)), (9, .int (q_sum (uC_fMo S i_19 4) M)), (10, .int (q_sum (uC_fMo S i_19 1) M)), (11, .int (20 + q_sum (fun m => uC_fS S m i_19) M))]) C dL_guilds_265 rfl (by decide) rfl ?_
            refine y_iload C dL_guilds_266 rfl ?_
            refine y_iload C dL_guilds_268 rfl ?_
            have j_270 : q_Y l K (u_42 + 6 + 60 + 150 + 6 + 6) [] q_Tr 278 [(3, .int ((q_sum (uC_fW S) i_19) + (if S 9 i_19 = 0 then 0 else 1))), (2, .int ((pAg S M i_19) + ((20 + q_sum (fun m => uC_fS S m i_19) M) - 20))), (1, .int ((q_sum (S 7) i_19) + (S 7 i_19))), (13, .int (if uC_learn S M i_19 then (1 : Int32) else 0)), (12, .int (uC_doubt S M i_19)), (0, .ref (q_ad K 0)), (4, .int (q_sum (uC_fD S M) i_19)), (5, .int (q_sum (S 8) i_19)), (6, .int (pBf S i_19)), (7, .int (nI i_19)), (8, .int (q_sum (uC_fMo S i_19 3) M)), (9, .int (q_sum (uC_fMo S i_19 4) M)), (10, .int (q_sum (uC_fMo S i_19 1) M)), (11, .int (20 + q_sum (fun m => uC_fS S m i_19) M))] [.int (uC_fD S M i_19), .int (q_sum (uC_fD S M) i_19)] S := by
              refine y_iadd C dL_guilds_278 ?_
              refine y_istore (lv' := [(4, .int ((q_sum (uC_fD S M) i_19) + (uC_fD S M i_19))), (3, .int ((q_sum (uC_fW S) i_19) + (if S 9 i_19 = 0 then 0 else 1))), (2, .int ((pAg S M i_19) + ((20 + q_sum (fun m => uC_fS S m i_19) M) - 20))), (1, .int ((q_sum (S 7) i_19) + (S 7 i_19))), (13, .int (if uC_learn S M i_19 then (1 : Int32) else 0)), (12, .int (uC_doubt S M i_19)), (0, .ref (q_ad K 0)), (5, .int (q_sum (S 8) i_19)), (6, .int (pBf S i_19)), (7, .int (nI i_19)), (8, .int (q_sum (uC_fMo S i_19 3) M)), (9, .int (q_sum (uC_fMo S i_19 4) M)), (10, .int (q_sum (uC_fMo S i_19 1) M)), (11, .int (20 + q_sum (fun m => uC_fS S m i_19) M))]) C dL_guilds_279 (by decide) rfl ?_
              refine y_iload C dL_guilds_281 rfl ?_
              refine y_aload_n C dL_guilds_283 rfl rfl ?_
              refine y_iload C dL_guilds_284 rfl ?_
              refine y_iconst (v := 3) C dL_guilds_286 (by decide) ?_
              refine y_sw (rest := [.int (q_sum (S 8) i_19)]) C (k_guildOf l hst S M hI.hM i_19 3 (by omega) (by decide)) mwL_guildOf mlL_149 rfl rfl rfl ⟨by decide, by decide⟩ (by omega) (Nat.le_of_ble_eq_true rfl) dL_guilds_287 ?_
              refine y_iadd C dL_guilds_290 ?_
              refine y_istore (lv' := [(5, .int ((q_sum (S 8) i_19) + (S 8 i_19))), (4, .int ((q_sum (uC_fD S M) i_19) + (uC_fD S M i_19))), (3, .int ((q_sum (uC_fW S) i_19) + (if S 9 i_19 = 0 then 0 else 1))), (2, .int ((pAg S M i_19) + ((20 + q_sum (fun m => uC_fS S m i_19) M) - 20))), (1, .int ((q_sum (S 7) i_19) + (S 7 i_19))), (13, .int (if uC_learn S M i_19 then (1 : Int32) else 0)), (12, .int (uC_doubt S M i_19)), (0, .ref (q_ad K 0)), (6, .int (pBf S i_19)), (7, .int (nI i_19)), (8, .int (q_sum (uC_fMo S i_19 3) M)), (9, .int (q_sum (uC_fMo S i_19 4) M)), (10, .int (q_sum (uC_fMo S i_19 1) M)), (11, .int (20 + q_sum (fun m => uC_fS S m i_19) M))]) C dL_guilds_291 (by decide) rfl ?_
              refine y_iload C dL_guilds_293 rfl ?_
              refine y_iconst (v := 2) C dL_guilds_295 (by decide) ?_
              refine y_icmp_ge (tgt := 393) C dL_guilds_296 (by decide)  (fun c_296 => (hI.many (by omega) c_296).elim) (fun c_296 => ?_)
              refine y_aload_n C dL_guilds_299 rfl rfl ?_
              refine y_iload C dL_guilds_300 rfl ?_
              refine y_iconst (v := 0) C dL_guilds_302 (by decide) ?_
              refine y_sw (rest := []) C (k_guildOf l hst S M hI.hM i_19 0 (by omega) (by decide)) mwL_guildOf mlL_149 rfl rfl rfl ⟨by decide, by decide⟩ (by omega) (Nat.le_of_ble_eq_true rfl) dL_guilds_303 ?_
              refine y_iload C dL_guilds_306 rfl ?_
              refine y_icmp_ne (tgt := 393) C dL_guilds_308 (by decide)  (fun c_308 => absurd (hI.its (by omega)).symm c_308) (fun c_308 => ?_)
              refine y_iload C dL_guilds_311 rfl ?_
              refine y_if_lt (tgt := 393) C dL_guilds_313 (by decide)  (fun c_313 => absurd c_313 (Int32.not_lt.mpr (hI.its0 (by omega)))) (fun c_313 => ?_)
              refine y_aload_n C dL_guilds_316 rfl rfl ?_
              refine y_iload C dL_guilds_317 rfl ?_
              refine y_iconst (v := 2) C dL_guilds_319 (by decide) ?_
              refine y_sw (rest := []) C (k_guildOf l hst S M hI.hM i_19 2 (by omega) (by decide)) mwL_guildOf mlL_149 rfl rfl rfl ⟨by decide, by decide⟩ (by omega) (Nat.le_of_ble_eq_true rfl) dL_guilds_320 ?_
              refine y_iload C dL_guilds_323 rfl ?_
              refine y_icmp_ne (tgt := 393) C dL_guilds_325 (by decide)  (fun c_325 => absurd rfl c_325) (fun c_325 => ?_)
              refine y_aload_n C dL_guilds_328 rfl rfl ?_
              refine y_iload C dL_guilds_329 rfl ?_
              refine y_iconst (v := 4) C dL_guilds_331 (by decide) ?_
              refine y_sw (rest := []) C (k_guildOf l hst S M hI.hM i_19 4 (by omega) (by decide)) mwL_guildOf mlL_149 rfl rfl rfl ⟨by decide, by decide⟩ (by omega) (Nat.le_of_ble_eq_true rfl) dL_guilds_332 ?_
              refine y_iload C dL_guilds_335 rfl ?_
              refine y_icmp_ne (tgt := 393) C dL_guilds_337 (by decide)  (fun c_337 => absurd rfl c_337) (fun c_337 => ?_)
              refine y_aload_n C dL_guilds_340 rfl rfl ?_
              refine y_iload C dL_guilds_341 rfl ?_
              refine y_iconst (v := 5) C dL_guilds_343 (by decide) ?_
              refine y_sw (rest := []) C (k_guildOf l hst S M hI.hM i_19 5 (by omega) (by decide)) mwL_guildOf mlL_149 rfl rfl rfl ⟨by decide, by decide⟩ (by omega) (Nat.le_of_ble_eq_true rfl) dL_guilds_344 ?_
              refine y_iload C dL_guilds_347 rfl ?_
              refine y_icmp_ne (tgt := 393) C dL_guilds_349 (by decide)  (fun c_349 => absurd rfl c_349) (fun c_349 => ?_)
              refine y_aload_n C dL_guilds_352 rfl rfl ?_
              refine y_iload C dL_guilds_353 rfl ?_
              refine y_iconst (v := 0) C dL_guilds_355 (by decide) ?_
              refine y_sw (rest := []) C (k_learn0 l hst S M hI.hM i_19 (by omega)) mwL_canLearn mlL_199 rfl rfl rfl ⟨by decide, by decide⟩ (by omega) (Nat.le_of_ble_eq_true rfl) dL_guilds_356 ?_
              refine y_iload C dL_guilds_359 rfl ?_
              refine y_icmp_ne (tgt := 393) C dL_guilds_361 (by decide)  (fun c_361 => absurd rfl c_361) (fun c_361 => ?_)
              refine y_aload_n C dL_guilds_364 rfl rfl ?_
              refine y_iload C dL_guilds_365 rfl ?_
              refine y_iconst (v := 1) C dL_guilds_367 (by decide) ?_
              refine y_sw (rest := []) C (k_learn1 l hst S M hI.hM i_19 (by omega)) mwL_canLearn mlL_199 rfl rfl rfl ⟨by decide, by decide⟩ (by omega) (Nat.le_of_ble_eq_true rfl) dL_guilds_368 ?_
              refine y_iload C dL_guilds_371 rfl ?_
              refine y_icmp_ne (tgt := 393) C dL_guilds_373 (by decide)  (fun c_373 => absurd (hI.ln3 (by omega)) c_373) (fun c_373 => ?_)
              refine y_aload_n C dL_guilds_376 rfl rfl ?_
              refine y_iload C dL_guilds_377 rfl ?_
              refine y_bipush (v := 6) C dL_guilds_379 (by decide) ?_
              refine y_sw (rest := []) C (k_guildOf6 l hst S M hI.hM i_19 (by omega)) mwL_guildOf mlL_149 rfl rfl rfl ⟨by decide, by decide⟩ (by omega) (Nat.le_of_ble_eq_true rfl) dL_guilds_381 ?_
              refine y_bipush (v := (-12)) C dL_guilds_384 (by decide) ?_
              refine y_icmp_ne (tgt := 393) C dL_guilds_386 (by decide) (fun h9 => absurd h9 (by decide)) (fun _ => ?_)
              refine y_iconst (v := 1) C dL_guilds_389 (by decide) ?_
              refine y_goto (tgt := 394) C dL_guilds_390 (by decide) ?_
              refine y_istore (lv' := [(14, .int 1), (5, .int ((q_sum (S 8) i_19) + (S 8 i_19))), (4, .int ((q_sum (uC_fD S M) i_19) + (uC_fD S M i_19))), (3, .int ((q_sum (uC_fW S) i_19) + (if S 9 i_19 = 0 then 0 else 1))), (2, .int ((pAg S M i_19) + ((20 + q_sum (fun m => uC_fS S m i_19) M) - 20))), (1, .int ((q_sum (S 7) i_19) + (S 7 i_19))), (13, .int (if uC_learn S M i_19 then (1 : Int32) else 0)), (12, .int (uC_doubt S M i_19)), (0, .ref (q_ad K 0)), (6, .int (pBf S i_19)), (7, .int (nI i_19)), (8, .int (q_sum (uC_fMo S i_19 3) M)), (9, .int (q_sum (uC_fMo S i_19 4) M)), (10, .int (q_sum (uC_fMo S i_19 1) M)), (11, .int (20 + q_sum (fun m => uC_fS S m i_19) M))]) C dL_guilds_394 (by decide) rfl ?_
              refine y_aload_n C dL_guilds_396 rfl rfl ?_
              refine y_iload C dL_guilds_397 rfl ?_
              refine y_sw (rest := []) C (k_ranked l hst S i_19 (by omega)) mwL_ranked mlL_202 rfl rfl rfl ⟨by decide, by decide⟩ (by omega) (Nat.le_of_ble_eq_true rfl) dL_guilds_399 ?_
              have hrk := (hI.rank hd (n := i_19) (by omega)).1
              refine y_istore (lv' := [(15, .int (nI (uC_rank S (nI i_19)))), (14, .int 1), (5, .int ((q_sum (S 8) i_19) + (S 8 i_19))), (4, .int ((q_sum (uC_fD S M) i_19) + (uC_fD S M i_19))), (3, .int ((q_sum (uC_fW S) i_19) + (if S 9 i_19 = 0 then 0 else 1))), (2, .int ((pAg S M i_19) + ((20 + q_sum (fun m => uC_fS S m i_19) M) - 20))), (1, .int ((q_sum (S 7) i_19) + (S 7 i_19))), (13, .int (if uC_learn S M i_19 then (1 : Int32) else 0)), (12, .int (uC_doubt S M i_19)), (0, .ref (q_ad K 0)), (6, .int (pBf S i_19)), (7, .int (nI i_19)), (8, .int (q_sum (uC_fMo S i_19 3) M)), (9, .int (q_sum (uC_fMo S i_19 4) M)), (10, .int (q_sum (uC_fMo S i_19 1) M)), (11, .int (20 + q_sum (fun m => uC_fS S m i_19) M))]) C dL_guilds_402 (by decide) rfl ?_
              refine y_iload C dL_guilds_404 rfl ?_
              have j_406 : q_Y l K (u_42 + 6 + 60 + 150 + 6 + 6 + 6 + 6 + 6 + 6 + 6 + 6 + 6 + 6 + 6 + 12) [] q_Tr 428 [(15, .int (nI (uC_rank S (nI i_19)))), (14, .int 1), (5, .int ((q_sum (S 8) i_19) + (S 8 i_19))), (4, .int ((q_sum (uC_fD S M) i_19) + (uC_fD S M i_19))), (3, .int ((q_sum (uC_fW S) i_19) + (if S 9 i_19 = 0 then 0 else 1))), (2, .int ((pAg S M i_19) + ((20 + q_sum (fun m => uC_fS S m i_19) M) - 20))), (1, .int ((q_sum (S 7) i_19) + (S 7 i_19))), (13, .int (if uC_learn S M i_19 then (1 : Int32) else 0)), (12, .int (uC_doubt S M i_19)), (0, .ref (q_ad K 0)), (6, .int (pBf S i_19)), (7, .int (nI i_19)), (8, .int (q_sum (uC_fMo S i_19 3) M)), (9, .int (q_sum (uC_fMo S i_19 4) M)), (10, .int (q_sum (uC_fMo S i_19 1) M)), (11, .int (20 + q_sum (fun m => uC_fS S m i_19) M))] [.int (pBy S i_19)] S := by
                refine y_istore (lv' := [(16, .int (pBy S i_19)), (15, .int (nI (uC_rank S (nI i_19)))), (14, .int 1), (5, .int ((q_sum (S 8) i_19) + (S 8 i_19))), (4, .int ((q_sum (uC_fD S M) i_19) + (uC_fD S M i_19))), (3, .int ((q_sum (uC_fW S) i_19) + (if S 9 i_19 = 0 then 0 else 1))), (2, .int ((pAg S M i_19) + ((20 + q_sum (fun m => uC_fS S m i_19) M) - 20))), (1, .int ((q_sum (S 7) i_19) + (S 7 i_19))), (13, .int (if uC_learn S M i_19 then (1 : Int32) else 0)), (12, .int (uC_doubt S M i_19)), (0, .ref (q_ad K 0)), (6, .int (pBf S i_19)), (7, .int (nI i_19)), (8, .int (q_sum (uC_fMo S i_19 3) M)), (9, .int (q_sum (uC_fMo S i_19 4) M)), (10, .int (q_sum (uC_fMo S i_19 1) M)), (11, .int (20 + q_sum (fun m => uC_fS S m i_19) M))]) C dL_guilds_428 (by decide) rfl ?_
                refine y_iload C dL_guilds_430 rfl ?_
                refine y_if_eq (tgt := 452) C dL_guilds_432 (by decide) (fun h9 => absurd h9 (by decide)) (fun _ => ?_)
                refine y_iload C dL_guilds_435 rfl ?_
                refine y_if_lt (tgt := 452) C dL_guilds_437 (by decide)  (fun c_437 => absurd c_437 (hI.by0 hd (by omega))) (fun c_437 => ?_)
                have j_454 : q_Y l K (u_42 + 6 + 60 + 150 + 6 + 6 + 6 + 6 + 6 + 6 + 6 + 6 + 6 + 6 + 6 + 12) [] q_Tr 454 [(16, .int (pBy S i_19)), (15, .int (nI (uC_rank S (nI i_19)))), (14, .int 1), (5, .int ((q_sum (S 8) i_19) + (S 8 i_19))), (4, .int ((q_sum (uC_fD S M) i_19) + (uC_fD S M i_19))), (3, .int ((q_sum (uC_fW S) i_19) + (if S 9 i_19 = 0 then 0 else 1))), (2, .int ((pAg S M i_19) + ((20 + q_sum (fun m => uC_fS S m i_19) M) - 20))), (1, .int ((q_sum (S 7) i_19) + (S 7 i_19))), (13, .int (if uC_learn S M i_19 then (1 : Int32) else 0)), (12, .int (uC_doubt S M i_19)), (0, .ref (q_ad K 0)), (6, .int (pBf S i_19)), (7, .int (nI i_19)), (8, .int (q_sum (uC_fMo S i_19 3) M)), (9, .int (q_sum (uC_fMo S i_19 4) M)), (10, .int (q_sum (uC_fMo S i_19 1) M)), (11, .int (20 + q_sum (fun m => uC_fS S m i_19) M))] [] S := by
                  refine y_iload C dL_guilds_454 rfl ?_
                  refine y_istore (lv' := [(6, .int (nI (uC_rank S (nI i_19)))), (16, .int (pBy S i_19)), (15, .int (nI (uC_rank S (nI i_19)))), (14, .int 1), (5, .int ((q_sum (S 8) i_19) + (S 8 i_19))), (4, .int ((q_sum (uC_fD S M) i_19) + (uC_fD S M i_19))), (3, .int ((q_sum (uC_fW S) i_19) + (if S 9 i_19 = 0 then 0 else 1))), (2, .int ((pAg S M i_19) + ((20 + q_sum (fun m => uC_fS S m i_19) M) - 20))), (1, .int ((q_sum (S 7) i_19) + (S 7 i_19))), (13, .int (if uC_learn S M i_19 then (1 : Int32) else 0)), (12, .int (uC_doubt S M i_19)), (0, .ref (q_ad K 0)), (7, .int (nI i_19)), (8, .int (q_sum (uC_fMo S i_19 3) M)), (9, .int (q_sum (uC_fMo S i_19 4) M)), (10, .int (q_sum (uC_fMo S i_19 1) M)), (11, .int (20 + q_sum (fun m => uC_fS S m i_19) M))]) C dL_guilds_456 (by decide) rfl ?_
                  refine y_iinc (v := nI (i_19 + 1)) (lv' := [(7, .int (nI (i_19 + 1))), (6, .int (nI (uC_rank S (nI i_19)))), (16, .int (pBy S i_19)), (15, .int (nI (uC_rank S (nI i_19)))), (14, .int 1), (5, .int ((q_sum (S 8) i_19) + (S 8 i_19))), (4, .int ((q_sum (uC_fD S M) i_19) + (uC_fD S M i_19))), (3, .int ((q_sum (uC_fW S) i_19) + (if S 9 i_19 = 0 then 0 else 1))), (2, .int ((pAg S M i_19) + ((20 + q_sum (fun m => uC_fS S m i_19) M) - 20))), (1, .int ((q_sum (S 7) i_19) + (S 7 i_19))), (13, .int (if uC_learn S M i_19 then (1 : Int32) else 0)), (12, .int (uC_doubt S M i_19)), (0, .ref (q_ad K 0)), (8, .int (q_sum (uC_fMo S i_19 3) M)), (9, .int (q_sum (uC_fMo S i_19 4) M)), (10, .int (q_sum (uC_fMo S i_19 1) M)), (11, .int (20 + q_sum (fun m => uC_fS S m i_19) M))]) C dL_guilds_458 rfl (nI_add _ _) (by decide) rfl ?_
                  refine y_goto (tgt := 19) C dL_guilds_461 (by decide) ?_
                  exact y_to (ih_19 (i_19 + 1) _ (by omega) (by omega)) ⟨rfl, rfl, rfl, rfl, rfl, rfl, q_iv (pBfS S i_19), rfl, trivial⟩ rfl
                refine y_iload C dL_guilds_440 rfl ?_
                refine y_if_ne (tgt := 454) C dL_guilds_442 (by decide)  (fun c_442 => ?_) (fun c_442 => ?_)
                · exact j_454
                · refine y_iload C dL_guilds_445 rfl ?_
                  refine y_iload C dL_guilds_447 rfl ?_
                  refine y_icmp_ge (tgt := 454) C dL_guilds_449 (by decide)  (fun c_449 => ?_) (fun c_449 => (hI.byE hd (by omega) c_442 c_449).elim)
                  exact j_454
              refine y_if_ge (tgt := 413) C dL_guilds_406 (by decide)  (fun c_406 => ?_) (fun c_406 => ?_)
              · obtain ⟨h0, ebf⟩ := hI.bf hd (i := i_19) (by omega) c_406
                have hgb : q_Fy l yL_guildOf kL_guildOf 9 6 [.ref 0, .int (pBf S i_19), .int 3] S (S 8 (uC_rank S (nI (i_19 - 1)))) S := by rw [ebf]; exact k_guildOf l hst S M hI.hM _ 3 (hI.rank hd (by omega)).1 (by decide)
                refine y_aload_n C dL_guilds_413 rfl rfl ?_
                refine y_iload C dL_guilds_414 rfl ?_
                refine y_iconst (v := 3) C dL_guilds_416 (by decide) ?_
                refine y_sw (rest := []) C hgb mwL_guildOf mlL_149 rfl rfl rfl ⟨by decide, by decide⟩ (by omega) (Nat.le_of_ble_eq_true rfl) dL_guilds_417 ?_
                refine y_aload_n C dL_guilds_420 rfl rfl ?_
                refine y_iload C dL_guilds_421 rfl ?_
                refine y_iconst (v := 3) C dL_guilds_423 (by decide) ?_
                refine y_sw (rest := [.int (S 8 (uC_rank S (nI (i_19 - 1))))]) C (k_guildOf l hst S M hI.hM (uC_rank S (nI i_19)) 3 (by omega) (by decide)) mwL_guildOf mlL_149 rfl rfl rfl ⟨by decide, by decide⟩ (by omega) (Nat.le_of_ble_eq_true rfl) dL_guilds_424 ?_
                refine y_isub C dL_guilds_427 ?_
                exact y_up (by omega) (y_top (pBy2 h0) j_406)
              · refine y_iconst (v := 1) C dL_guilds_409 (by decide) ?_
                refine y_goto (tgt := 428) C dL_guilds_410 (by decide) ?_
                exact y_up (by omega) (y_top (hI.by1 hd (by omega) c_406) j_406)
            refine y_if_ge (tgt := 277) C dL_guilds_270 (by decide)  (fun c_270 => ?_) (fun c_270 => ?_)
            · refine y_iconst (v := 1) C dL_guilds_277 (by decide) ?_
              exact y_top (hI.fd1 c_270) j_270
            · refine y_iconst (v := 0) C dL_guilds_273 (by decide) ?_
              refine y_goto (tgt := 278) C dL_guilds_274 (by decide) ?_
              exact y_top (hI.fd0 c_270) j_270
          by_cases c1 : uC_doubt S M i_19 < 0
          · refine y_iload C dL_guilds_167 rfl ?_
            refine y_bipush (v := 6) C dL_guilds_169 (by decide) ?_
            refine y_icmp_ge (tgt := 238) C dL_guilds_171 (by decide) (fun h9 => absurd h9 (by decide)) (fun _ => ?_)
            refine y_iload C dL_guilds_174 rfl ?_
            refine y_if_lt (tgt := 238) C dL_guilds_176 (by decide)  (fun c_176 => ?_) (fun c_176 => absurd c1 (Int32.not_lt.mpr c_176))
            exact y_up (by omega) (y_to (j_238) ⟨q_iv (hI.ln0 c1), rfl, rfl, rfl, rfl, rfl, rfl, rfl, rfl, rfl, rfl, rfl, rfl, rfl, trivial⟩ rfl)
          · by_cases c2 : (if S 9 i_19 = 0 then (0 : Int32) else 1) = 1
            · obtain ⟨ab, e_ab1, e_ab, h_ab⟩ : ∃ k, k < M ∧ uC_doubt S M i_19 = nI k ∧ S 6 (k * 6 + i_19) = 1 := by
                rcases uC_doubt_cs S M i_19 with q | ⟨k, q1, q2, q3⟩
                · rw [q] at c1; exact absurd (by decide) c1
                · exact ⟨k, q1, q2, by simpa using q3⟩
              refine y_to (lv' := [(14, .int 0), (13, .int 0), (12, .int (nI ab)), (0, .ref (q_ad K 0)), (1, .int (q_sum (S 7) i_19)), (2, .int (pAg S M i_19)), (3, .int (q_sum (uC_fW S) i_19)), (4, .int (q_sum (uC_fD S M) i_19)), (5, .int (q_sum (S 8) i_19)), (6, .int (pBf S i_19)), (7, .int (nI i_19)), (8, .int (q_sum (uC_fMo S i_19 3) M)), (9, .int (q_sum (uC_fMo S i_19 4) M)), (10, .int (q_sum (uC_fMo S i_19 1) M)), (11, .int (20 + q_sum (fun m => uC_fS S m i_19) M))]) ?_ ⟨rfl, rfl, q_iv e_ab, rfl, rfl, rfl, rfl, rfl, rfl, rfl, rfl, rfl, rfl, rfl, rfl, trivial⟩ rfl
              have loop_167 : ∀ (n_167 i_167 u_167 : Nat), i_167 + n_167 = 6 → u_167 + n_167 * 24 ≤ u_42 + 6 + 60 + 6 * 24 → q_Y l K u_167 [] q_Tr 167 [(0, .ref (q_ad K 0)), (1, .int (q_sum (S 7) i_19)), (2, .int (pAg S M i_19)), (3, .int (q_sum (uC_fW S) i_19)), (4, .int (q_sum (uC_fD S M) i_19)), (5, .int (q_sum (S 8) i_19)), (6, .int (pBf S i_19)), (7, .int (nI i_19)), (8, .int (q_sum (uC_fMo S i_19 3) M)), (9, .int (q_sum (uC_fMo S i_19 4) M)), (10, .int (q_sum (uC_fMo S i_19 1) M)), (11, .int (20 + q_sum (fun m => uC_fS S m i_19) M)), (12, .int (nI ab)), (13, .int (pLo S ab i_167)), (14, .int (nI i_167))] [] S := by
                intro n_167
                induction n_167 with
                | zero =>
                  intro i_167 u_167 hi_167 hu_167
                  have e_167 : i_167 = 6 := by omega
                  refine y_iload C dL_guilds_167 rfl ?_
                  refine y_bipush (v := 6) C dL_guilds_169 (by decide) ?_
                  refine y_icmp_geN (a := i_167) (b := 6) (tgt := 238) C dL_guilds_171 (by decide) rfl rfl (by omega) (by omega) (fun c_171 => ?_) (fun c_171 => absurd c_171 (by omega))
                  exact y_up (by omega) (y_to (j_238) ⟨q_iv (by rw [e_167]; exact hI.ln2 (by omega) e_ab1 e_ab h_ab c2), q_iv e_ab.symm, rfl, rfl, rfl, rfl, rfl, rfl, rfl, rfl, rfl, rfl, rfl, rfl, trivial⟩ rfl)
                | succ n_167 ih_167 =>
                  intro i_167 u_167 hi_167 hu_167
                  refine y_iload C dL_guilds_167 rfl ?_
                  refine y_bipush (v := 6) C dL_guilds_169 (by decide) ?_
                  refine y_icmp_geN (a := i_167) (b := 6) (tgt := 238) C dL_guilds_171 (by decide) rfl rfl (by omega) (by omega) (fun c_171 => absurd c_171 (by omega)) (fun c_171 => ?_)
                  refine y_iload C dL_guilds_174 rfl ?_
                  refine y_if_ltN (a := ab) (tgt := 238) C dL_guilds_176 (by decide) rfl (by omega) (fun c_176 => (c_176.elim)) (fun c_176 => ?_)
                  refine y_aload_n C dL_guilds_179 rfl rfl ?_
                  refine y_iload C dL_guilds_180 rfl ?_
                  refine y_iconst (v := 1) C dL_guilds_182 (by decide) ?_
                  refine y_sw (rest := []) C (k_guildOf l hst S M hI.hM i_19 1 (by omega) (by decide)) mwL_guildOf mlL_149 rfl rfl rfl ⟨by decide, by decide⟩ (by omega) (Nat.le_of_ble_eq_true rfl) dL_guilds_183 ?_
                  refine y_iconst (v := 1) C dL_guilds_186 (by decide) ?_
                  refine y_icmp_ne (tgt := 238) C dL_guilds_187 (by decide)  (fun c_187 => absurd c2 c_187) (fun c_187 => ?_)
                  refine y_aload_n C dL_guilds_190 rfl rfl ?_
                  refine y_iload C dL_guilds_191 rfl ?_
                  refine y_iconst (v := 1) C dL_guilds_193 (by decide) ?_
                  refine y_sw (rest := []) C (k_guildOf l hst S M hI.hM i_167 1 (by omega) (by decide)) mwL_guildOf mlL_149 rfl rfl rfl ⟨by decide, by decide⟩ (by omega) (Nat.le_of_ble_eq_true rfl) dL_guilds_194 ?_
                  refine y_iconst (v := 1) C dL_guilds_197 (by decide) ?_
                  have j_198 : q_Y l K (u_167 + 6 + 6 + 12) [] q_Tr 230 [(0, .ref (q_ad K 0)), (1, .int (q_sum (S 7) i_19)), (2, .int (pAg S M i_19)), (3, .int (q_sum (uC_fW S) i_19)), (4, .int (q_sum (uC_fD S M) i_19)), (5, .int (q_sum (S 8) i_19)), (6, .int (pBf S i_19)), (7, .int (nI i_19)), (8, .int (q_sum (uC_fMo S i_19 3) M)), (9, .int (q_sum (uC_fMo S i_19 4) M)), (10, .int (q_sum (uC_fMo S i_19 1) M)), (11, .int (20 + q_sum (fun m => uC_fS S m i_19) M)), (12, .int (nI ab)), (13, .int (pLo S ab i_167)), (14, .int (nI i_167))] [.int (pLo S ab (i_167 + 1))] S := by
                    refine y_istore (lv' := [(13, .int (pLo S ab (i_167 + 1))), (0, .ref (q_ad K 0)), (1, .int (q_sum (S 7) i_19)), (2, .int (pAg S M i_19)), (3, .int (q_sum (uC_fW S) i_19)), (4, .int (q_sum (uC_fD S M) i_19)), (5, .int (q_sum (S 8) i_19)), (6, .int (pBf S i_19)), (7, .int (nI i_19)), (8, .int (q_sum (uC_fMo S i_19 3) M)), (9, .int (q_sum (uC_fMo S i_19 4) M)), (10, .int (q_sum (uC_fMo S i_19 1) M)), (11, .int (20 + q_sum (fun m => uC_fS S m i_19) M)), (12, .int (nI ab)), (14, .int (nI i_167))]) C dL_guilds_230 (by decide) rfl ?_
                    refine y_iinc (v := nI (i_167 + 1)) (lv' := [(14, .int (nI (i_167 + 1))), (13, .int (pLo S ab (i_167 + 1))), (0, .ref (q_ad K 0)), (1, .int (q_sum (S 7) i_19)), (2, .int (pAg S M i_19)), (3, .int (q_sum (uC_fW S) i_19)), (4, .int (q_sum (uC_fD S M) i_19)), (5, .int (q_sum (S 8) i_19)), (6, .int (pBf S i_19)), (7, .int (nI i_19)), (8, .int (q_sum (uC_fMo S i_19 3) M)), (9, .int (q_sum (uC_fMo S i_19 4) M)), (10, .int (q_sum (uC_fMo S i_19 1) M)), (11, .int (20 + q_sum (fun m => uC_fS S m i_19) M)), (12, .int (nI ab))]) C dL_guilds_232 rfl (nI_add _ _) (by decide) rfl ?_
                    refine y_goto (tgt := 167) C dL_guilds_235 (by decide) ?_
                    exact y_to (ih_167 (i_167 + 1) _ (by omega) (by omega)) ⟨rfl, rfl, rfl, rfl, rfl, rfl, rfl, rfl, rfl, rfl, rfl, rfl, rfl, rfl, rfl, trivial⟩ rfl
                  refine y_icmp_ne (tgt := 228) C dL_guilds_198 (by decide)  (fun c_198 => ?_) (fun c_198 => ?_)
                  · refine y_iload C dL_guilds_228 rfl ?_
                    exact y_up (by omega) (y_top (by first | exact pLoA c_198 | exact pLoB c_209 | exact pLoC c_221 | exact pLoD c_198 c_209 c_221) j_198)
                  · refine y_aload_n C dL_guilds_201 rfl rfl ?_
                    refine y_iload C dL_guilds_202 rfl ?_
                    refine y_iload C dL_guilds_204 rfl ?_
                    refine y_sw (rest := []) C (k_answer l hst S M hI.hM ab i_167 (by omega) (by omega)) mwL_answer mlL_160 rfl rfl rfl ⟨by decide, by decide⟩ (by omega) (Nat.le_of_ble_eq_true rfl) dL_guilds_206 ?_
                    refine y_if_lt (tgt := 228) C dL_guilds_209 (by decide)  (fun c_209 => ?_) (fun c_209 => ?_)
                    · refine y_iload C dL_guilds_228 rfl ?_
                      exact y_up (by omega) (y_top (by first | exact pLoA c_198 | exact pLoB c_209 | exact pLoC c_221 | exact pLoD c_198 c_209 c_221) j_198)
                    · refine y_aload_n C dL_guilds_212 rfl rfl ?_
                      refine y_iload C dL_guilds_213 rfl ?_
                      refine y_iload C dL_guilds_215 rfl ?_
                      refine y_sw (rest := []) C (k_answer l hst S M hI.hM ab i_167 (by omega) (by omega)) mwL_answer mlL_160 rfl rfl rfl ⟨by decide, by decide⟩ (by omega) (Nat.le_of_ble_eq_true rfl) dL_guilds_217 ?_
                      refine y_iconst (v := 1) C dL_guilds_220 (by decide) ?_
                      refine y_icmp_eq (tgt := 228) C dL_guilds_221 (by decide)  (fun c_221 => ?_) (fun c_221 => ?_)
                      · refine y_iload C dL_guilds_228 rfl ?_
                        exact y_up (by omega) (y_top (by first | exact pLoA c_198 | exact pLoB c_209 | exact pLoC c_221 | exact pLoD c_198 c_209 c_221) j_198)
                      · refine y_iconst (v := 1) C dL_guilds_224 (by decide) ?_
                        refine y_goto (tgt := 230) C dL_guilds_225 (by decide) ?_
                        exact y_up (by omega) (y_top (by first | exact pLoA c_198 | exact pLoB c_209 | exact pLoC c_221 | exact pLoD c_198 c_209 c_221) j_198)
              exact y_to (loop_167 (6 - 0) 0 _ (by omega) (by omega)) ⟨rfl, rfl, rfl, rfl, rfl, rfl, rfl, rfl, rfl, rfl, rfl, rfl, rfl, rfl, rfl, trivial⟩ rfl
            · refine y_iload C dL_guilds_167 rfl ?_
              refine y_bipush (v := 6) C dL_guilds_169 (by decide) ?_
              refine y_icmp_ge (tgt := 238) C dL_guilds_171 (by decide) (fun h9 => absurd h9 (by decide)) (fun _ => ?_)
              refine y_iload C dL_guilds_174 rfl ?_
              refine y_if_lt (tgt := 238) C dL_guilds_176 (by decide)  (fun c_176 => absurd c_176 c1) (fun c_176 => ?_)
              refine y_aload_n C dL_guilds_179 rfl rfl ?_
              refine y_iload C dL_guilds_180 rfl ?_
              refine y_iconst (v := 1) C dL_guilds_182 (by decide) ?_
              refine y_sw (rest := []) C (k_guildOf l hst S M hI.hM i_19 1 (by omega) (by decide)) mwL_guildOf mlL_149 rfl rfl rfl ⟨by decide, by decide⟩ (by omega) (Nat.le_of_ble_eq_true rfl) dL_guilds_183 ?_
              refine y_iconst (v := 1) C dL_guilds_186 (by decide) ?_
              refine y_icmp_ne (tgt := 238) C dL_guilds_187 (by decide)  (fun c_187 => ?_) (fun c_187 => absurd c_187 c2)
              exact y_up (by omega) (y_to (j_238) ⟨q_iv (pLn1 c2), rfl, rfl, rfl, rfl, rfl, rfl, rfl, rfl, rfl, rfl, rfl, rfl, rfl, trivial⟩ rfl)
        | succ n_42 ih_42 =>
          intro i_42 u_42 hi_42 hu_42
          refine y_iload C dL_guilds_42 rfl ?_
          refine y_aload_n C dL_guilds_44 rfl rfl ?_
          refine y_iconst (v := 0) C dL_guilds_45 (by decide) ?_
          refine y_cx (rest := [.int (nI i_42)]) C (k_account l hst S M hI.hM 0 (by decide)) myX6_account mlL_157 rfl rfl rfl ⟨by decide, by decide⟩ (by omega) (Nat.le_of_ble_eq_true rfl) dL_guilds_46 ?_
          refine y_icmp_geN (a := i_42) (b := M) (tgt := 153) C dL_guilds_49 (by decide) rfl rfl (by omega) (by omega) (fun c_49 => absurd c_49 (by omega)) (fun c_49 => ?_)
          refine y_iload C dL_guilds_52 rfl ?_
          refine y_aload_n C dL_guilds_54 rfl rfl ?_
          refine y_iload C dL_guilds_55 rfl ?_
          refine y_iload C dL_guilds_57 rfl ?_
          refine y_sw (rest := [.int (q_sum (uC_fMo S i_19 3) i_42)]) C (k_answer l hst S M hI.hM i_42 i_19 (by omega) (by omega)) mwL_answer mlL_160 rfl rfl rfl ⟨by decide, by decide⟩ (by omega) (Nat.le_of_ble_eq_true rfl) dL_guilds_59 ?_
          refine y_iconst (v := 3) C dL_guilds_62 (by decide) ?_
          have j_63 : q_Y l K (u_42 + 6 + 6) [] q_Tr 71 [(0, .ref (q_ad K 0)), (1, .int (q_sum (S 7) i_19)), (2, .int (pAg S M i_19)), (3, .int (q_sum (uC_fW S) i_19)), (4, .int (q_sum (uC_fD S M) i_19)), (5, .int (q_sum (S 8) i_19)), (6, .int (pBf S i_19)), (7, .int (nI i_19)), (8, .int (q_sum (uC_fMo S i_19 3) i_42)), (9, .int (q_sum (uC_fMo S i_19 4) i_42)), (10, .int (q_sum (uC_fMo S i_19 1) i_42)), (11, .int (20 + q_sum (fun m => uC_fS S m i_19) i_42)), (12, .int (nI i_42))] [.int (uC_fMo S i_19 3 i_42), .int (q_sum (uC_fMo S i_19 3) i_42)] S := by
            refine y_iadd C dL_guilds_71 ?_
            refine y_istore (lv' := [(8, .int ((q_sum (uC_fMo S i_19 3) i_42) + (uC_fMo S i_19 3 i_42))), (0, .ref (q_ad K 0)), (1, .int (q_sum (S 7) i_19)), (2, .int (pAg S M i_19)), (3, .int (q_sum (uC_fW S) i_19)), (4, .int (q_sum (uC_fD S M) i_19)), (5, .int (q_sum (S 8) i_19)), (6, .int (pBf S i_19)), (7, .int (nI i_19)), (9, .int (q_sum (uC_fMo S i_19 4) i_42)), (10, .int (q_sum (uC_fMo S i_19 1) i_42)), (11, .int (20 + q_sum (fun m => uC_fS S m i_19) i_42)), (12, .int (nI i_42))]) C dL_guilds_72 (by decide) rfl ?_
            refine y_iload C dL_guilds_74 rfl ?_
            refine y_aload_n C dL_guilds_76 rfl rfl ?_
            refine y_iload C dL_guilds_77 rfl ?_
            refine y_iload C dL_guilds_79 rfl ?_
            refine y_sw (rest := [.int (q_sum (uC_fMo S i_19 4) i_42)]) C (k_answer l hst S M hI.hM i_42 i_19 (by omega) (by omega)) mwL_answer mlL_160 rfl rfl rfl ⟨by decide, by decide⟩ (by omega) (Nat.le_of_ble_eq_true rfl) dL_guilds_81 ?_
            refine y_iconst (v := 4) C dL_guilds_84 (by decide) ?_
            have j_85 : q_Y l K (u_42 + 6 + 6 + 6) [] q_Tr 93 [(8, .int ((q_sum (uC_fMo S i_19 3) i_42) + (uC_fMo S i_19 3 i_42))), (0, .ref (q_ad K 0)), (1, .int (q_sum (S 7) i_19)), (2, .int (pAg S M i_19)), (3, .int (q_sum (uC_fW S) i_19)), (4, .int (q_sum (uC_fD S M) i_19)), (5, .int (q_sum (S 8) i_19)), (6, .int (pBf S i_19)), (7, .int (nI i_19)), (9, .int (q_sum (uC_fMo S i_19 4) i_42)), (10, .int (q_sum (uC_fMo S i_19 1) i_42)), (11, .int (20 + q_sum (fun m => uC_fS S m i_19) i_42)), (12, .int (nI i_42))] [.int (uC_fMo S i_19 4 i_42), .int (q_sum (uC_fMo S i_19 4) i_42)] S := by
              refine y_iadd C dL_guilds_93 ?_
              refine y_istore (lv' := [(9, .int ((q_sum (uC_fMo S i_19 4) i_42) + (uC_fMo S i_19 4 i_42))), (8, .int ((q_sum (uC_fMo S i_19 3) i_42) + (uC_fMo S i_19 3 i_42))), (0, .ref (q_ad K 0)), (1, .int (q_sum (S 7) i_19)), (2, .int (pAg S M i_19)), (3, .int (q_sum (uC_fW S) i_19)), (4, .int (q_sum (uC_fD S M) i_19)), (5, .int (q_sum (S 8) i_19)), (6, .int (pBf S i_19)), (7, .int (nI i_19)), (10, .int (q_sum (uC_fMo S i_19 1) i_42)), (11, .int (20 + q_sum (fun m => uC_fS S m i_19) i_42)), (12, .int (nI i_42))]) C dL_guilds_94 (by decide) rfl ?_
              refine y_iload C dL_guilds_96 rfl ?_
              refine y_aload_n C dL_guilds_98 rfl rfl ?_
              refine y_iload C dL_guilds_99 rfl ?_
              refine y_iload C dL_guilds_101 rfl ?_
              refine y_sw (rest := [.int (q_sum (uC_fMo S i_19 1) i_42)]) C (k_answer l hst S M hI.hM i_42 i_19 (by omega) (by omega)) mwL_answer mlL_160 rfl rfl rfl ⟨by decide, by decide⟩ (by omega) (Nat.le_of_ble_eq_true rfl) dL_guilds_103 ?_
              refine y_iconst (v := 1) C dL_guilds_106 (by decide) ?_
              have j_107 : q_Y l K (u_42 + 6 + 6 + 6 + 6) [] q_Tr 115 [(9, .int ((q_sum (uC_fMo S i_19 4) i_42) + (uC_fMo S i_19 4 i_42))), (8, .int ((q_sum (uC_fMo S i_19 3) i_42) + (uC_fMo S i_19 3 i_42))), (0, .ref (q_ad K 0)), (1, .int (q_sum (S 7) i_19)), (2, .int (pAg S M i_19)), (3, .int (q_sum (uC_fW S) i_19)), (4, .int (q_sum (uC_fD S M) i_19)), (5, .int (q_sum (S 8) i_19)), (6, .int (pBf S i_19)), (7, .int (nI i_19)), (10, .int (q_sum (uC_fMo S i_19 1) i_42)), (11, .int (20 + q_sum (fun m => uC_fS S m i_19) i_42)), (12, .int (nI i_42))] [.int (uC_fMo S i_19 1 i_42), .int (q_sum (uC_fMo S i_19 1) i_42)] S := by
                refine y_iadd C dL_guilds_115 ?_
                refine y_istore (lv' := [(10, .int ((q_sum (uC_fMo S i_19 1) i_42) + (uC_fMo S i_19 1 i_42))), (9, .int ((q_sum (uC_fMo S i_19 4) i_42) + (uC_fMo S i_19 4 i_42))), (8, .int ((q_sum (uC_fMo S i_19 3) i_42) + (uC_fMo S i_19 3 i_42))), (0, .ref (q_ad K 0)), (1, .int (q_sum (S 7) i_19)), (2, .int (pAg S M i_19)), (3, .int (q_sum (uC_fW S) i_19)), (4, .int (q_sum (uC_fD S M) i_19)), (5, .int (q_sum (S 8) i_19)), (6, .int (pBf S i_19)), (7, .int (nI i_19)), (11, .int (20 + q_sum (fun m => uC_fS S m i_19) i_42)), (12, .int (nI i_42))]) C dL_guilds_116 (by decide) rfl ?_
                refine y_iload C dL_guilds_118 rfl ?_
                refine y_aload_n C dL_guilds_120 rfl rfl ?_
                refine y_iload C dL_guilds_121 rfl ?_
                refine y_iload C dL_guilds_123 rfl ?_
                refine y_sw (rest := [.int (20 + q_sum (fun m => uC_fS S m i_19) i_42)]) C (k_answer l hst S M hI.hM i_42 i_19 (by omega) (by omega)) mwL_answer mlL_160 rfl rfl rfl ⟨by decide, by decide⟩ (by omega) (Nat.le_of_ble_eq_true rfl) dL_guilds_125 ?_
                refine y_iconst (v := 3) C dL_guilds_128 (by decide) ?_
                have j_129 : q_Y l K (u_42 + 6 + 6 + 6 + 6 + 6 + 6) [] q_Tr 144 [(10, .int ((q_sum (uC_fMo S i_19 1) i_42) + (uC_fMo S i_19 1 i_42))), (9, .int ((q_sum (uC_fMo S i_19 4) i_42) + (uC_fMo S i_19 4 i_42))), (8, .int ((q_sum (uC_fMo S i_19 3) i_42) + (uC_fMo S i_19 3 i_42))), (0, .ref (q_ad K 0)), (1, .int (q_sum (S 7) i_19)), (2, .int (pAg S M i_19)), (3, .int (q_sum (uC_fW S) i_19)), (4, .int (q_sum (uC_fD S M) i_19)), (5, .int (q_sum (S 8) i_19)), (6, .int (pBf S i_19)), (7, .int (nI i_19)), (11, .int (20 + q_sum (fun m => uC_fS S m i_19) i_42)), (12, .int (nI i_42))] [.int (uC_fS S i_42 i_19), .int (20 + q_sum (fun m => uC_fS S m i_19) i_42)] S := by
                  refine y_iadd C dL_guilds_144 ?_
                  refine y_istore (lv' := [(11, .int ((20 + q_sum (fun m => uC_fS S m i_19) i_42) + (uC_fS S i_42 i_19))), (10, .int ((q_sum (uC_fMo S i_19 1) i_42) + (uC_fMo S i_19 1 i_42))), (9, .int ((q_sum (uC_fMo S i_19 4) i_42) + (uC_fMo S i_19 4 i_42))), (8, .int ((q_sum (uC_fMo S i_19 3) i_42) + (uC_fMo S i_19 3 i_42))), (0, .ref (q_ad K 0)), (1, .int (q_sum (S 7) i_19)), (2, .int (pAg S M i_19)), (3, .int (q_sum (uC_fW S) i_19)), (4, .int (q_sum (uC_fD S M) i_19)), (5, .int (q_sum (S 8) i_19)), (6, .int (pBf S i_19)), (7, .int (nI i_19)), (12, .int (nI i_42))]) C dL_guilds_145 (by decide) rfl ?_
                  refine y_iinc (v := nI (i_42 + 1)) (lv' := [(12, .int (nI (i_42 + 1))), (11, .int ((20 + q_sum (fun m => uC_fS S m i_19) i_42) + (uC_fS S i_42 i_19))), (10, .int ((q_sum (uC_fMo S i_19 1) i_42) + (uC_fMo S i_19 1 i_42))), (9, .int ((q_sum (uC_fMo S i_19 4) i_42) + (uC_fMo S i_19 4 i_42))), (8, .int ((q_sum (uC_fMo S i_19 3) i_42) + (uC_fMo S i_19 3 i_42))), (0, .ref (q_ad K 0)), (1, .int (q_sum (S 7) i_19)), (2, .int (pAg S M i_19)), (3, .int (q_sum (uC_fW S) i_19)), (4, .int (q_sum (uC_fD S M) i_19)), (5, .int (q_sum (S 8) i_19)), (6, .int (pBf S i_19)), (7, .int (nI i_19))]) C dL_guilds_147 rfl (nI_add _ _) (by decide) rfl ?_
                  refine y_goto (tgt := 42) C dL_guilds_150 (by decide) ?_
                  exact y_to (ih_42 (i_42 + 1) _ (by omega) (by omega)) ⟨rfl, rfl, rfl, rfl, rfl, rfl, rfl, rfl, rfl, rfl, rfl, q_iv (Int32.add_assoc _ _ _), rfl, trivial⟩ rfl
                refine y_icmp_ne (tgt := 143) C dL_guilds_129 (by decide)  (fun c_129 => ?_) (fun c_129 => ?_)
                · refine y_iconst (v := 0) C dL_guilds_143 (by decide) ?_
                  exact y_up (by omega) (y_top (hI.fs0 (by omega) (by omega) c_129) j_129)
                · refine y_aload_n C dL_guilds_132 rfl rfl ?_
                  refine y_iload C dL_guilds_133 rfl ?_
                  refine y_iload C dL_guilds_135 rfl ?_
                  refine y_sw (rest := [.int (20 + q_sum (fun m => uC_fS S m i_19) i_42)]) C (k_amount l hst S M hI.hM i_42 i_19 (by omega) (by omega)) mwL_amount mlL_182 rfl rfl rfl ⟨by decide, by decide⟩ (by omega) (Nat.le_of_ble_eq_true rfl) dL_guilds_137 ?_
                  refine y_goto (tgt := 144) C dL_guilds_140 (by decide) ?_
                  exact y_up (by omega) (y_top (hI.fs1 (by omega) (by omega) c_129) j_129)
              refine y_icmp_ne (tgt := 114) C dL_guilds_107 (by decide)  (fun c_107 => ?_) (fun c_107 => ?_)
              · refine y_iconst (v := 0) C dL_guilds_114 (by decide) ?_
                exact y_top (hI.mo0 (by omega) (by omega) (by decide) (by decide) c_107) j_107
              · refine y_iconst (v := 1) C dL_guilds_110 (by decide) ?_
                refine y_goto (tgt := 115) C dL_guilds_111 (by decide) ?_
                exact y_top (hI.mo1 (by omega) (by omega) (by decide) (by decide) c_107) j_107
            refine y_icmp_ne (tgt := 92) C dL_guilds_85 (by decide)  (fun c_85 => ?_) (fun c_85 => ?_)
            · refine y_iconst (v := 0) C dL_guilds_92 (by decide) ?_
              exact y_top (hI.mo0 (by omega) (by omega) (by decide) (by decide) c_85) j_85
            · refine y_iconst (v := 1) C dL_guilds_88 (by decide) ?_
              refine y_goto (tgt := 93) C dL_guilds_89 (by decide) ?_
              exact y_top (hI.mo1 (by omega) (by omega) (by decide) (by decide) c_85) j_85
          refine y_icmp_ne (tgt := 70) C dL_guilds_63 (by decide)  (fun c_63 => ?_) (fun c_63 => ?_)
          · refine y_iconst (v := 0) C dL_guilds_70 (by decide) ?_
            exact y_top (hI.mo0 (by omega) (by omega) (by decide) (by decide) c_63) j_63
          · refine y_iconst (v := 1) C dL_guilds_66 (by decide) ?_
            refine y_goto (tgt := 71) C dL_guilds_67 (by decide) ?_
            exact y_top (hI.mo1 (by omega) (by omega) (by decide) (by decide) c_63) j_63
      exact y_to (loop_42 (M - 0) 0 _ (by omega) (by omega)) ⟨rfl, rfl, rfl, rfl, rfl, rfl, rfl, rfl, rfl, rfl, rfl, rfl, rfl, trivial⟩ rfl
  exact y_to (loop_19 (6 - 0) 0 _ (by omega) (by omega)) ⟨rfl, rfl, rfl, rfl, rfl, rfl, rfl, rfl, trivial⟩ rfl
