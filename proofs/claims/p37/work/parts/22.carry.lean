set_option maxHeartbeats 2000000 in
theorem c_X0_carryOutAll (l : Launch) (S : q_St) (cnt : Nat) (hcnt : S 103 5 = nI cnt) (hc30 : cnt ≤ 30) (hk : ∀ i, i < cnt → (S 105 i = 110 ∨ S 105 i = 97 ∨ S 105 i = 113 ∨ S 105 i = 100 ∨ S 105 i = 116 ∨ S 105 i = 102 ∨ S 105 i = 119 ∨ S 105 i = 115 ∨ S 105 i = 114 ∨ S 105 i = 105 ∨ S 105 i = 104)) (hJ : uJ S) : q_Fi l yX0_carryOutAll kX0_carryOutAll 7 [.ref 109, .ref 103] S ((uK_all S cnt 0 S).1) ((uK_all S cnt 0 S).2) := by
  refine q_Fi_of (maxL := 7) rfl (by decide +kernel) (fun ad => Nat.le_of_ble_eq_true rfl) rfl ?_
  intro K C hret
  have C : q_Cx K cX0_carryOutAll RX0 7 7 := C
  show q_V l K 0 [(0, .ref 109), (1, .ref 103)] [] S
  refine q_iconst (v := 0) C dX0_carryOutAll_0 (by decide) ?_
  refine q_istore_n (lv' := [(2, .int 0), (0, .ref 109), (1, .ref 103)]) C dX0_carryOutAll_1 rfl (by decide) rfl ?_
  have loop_2 : ∀ (n_2 i_2 : Nat) (T : q_St), i_2 + n_2 = cnt → T 103 = S 103 → T 105 = S 105 → T 106 = S 106 → T 107 = S 107 → T 108 = S 108 → uJ T → uK_all S n_2 i_2 T = uK_all S cnt 0 S → q_V l K 2 [(0, .ref 109), (1, .ref 103), (2, .int (nI i_2))] [] T := by
    intro n_2
    induction n_2 with
    | zero =>
      intro i_2 T hi_2 h103 h105 h106 h107 h108 hJ9 hr_2
      have e_2 : i_2 = cnt := by omega
      refine q_iload_n C dX0_carryOutAll_2 rfl rfl ?_
      refine q_aload_n C dX0_carryOutAll_3 rfl rfl ?_
      refine q_getI (x := nI cnt) C flX0_19 q_s103 rfl dX0_carryOutAll_4 ((congrFun h103 5).trans hcnt) ?_
      refine q_icmp_geN (a := i_2) (b := cnt) (tgt := 91) C dX0_carryOutAll_7 (by decide) rfl rfl (by omega) (by omega) (fun c_7 => ?_) (fun c_7 => absurd c_7 (by omega))
      refine q_iconst (v := 0) C dX0_carryOutAll_91 (by decide) ?_
      exact hret _ _ _ _ dX0_carryOutAll_92 (by rw [← hr_2]; rfl) (by rw [← hr_2]; rfl)
    | succ n_2 ih_2 =>
      intro i_2 T hi_2 h103 h105 h106 h107 h108 hJ9 hr_2
      refine q_iload_n C dX0_carryOutAll_2 rfl rfl ?_
      refine q_aload_n C dX0_carryOutAll_3 rfl rfl ?_
      refine q_getI (x := nI cnt) C flX0_19 q_s103 rfl dX0_carryOutAll_4 ((congrFun h103 5).trans hcnt) ?_
      refine q_icmp_geN (a := i_2) (b := cnt) (tgt := 91) C dX0_carryOutAll_7 (by decide) rfl rfl (by omega) (by omega) (fun c_7 => absurd c_7 (by omega)) (fun c_7 => ?_)
      refine q_aload_n C dX0_carryOutAll_10 rfl rfl ?_
      refine q_getR C flX0_25 q_s103 rfl dX0_carryOutAll_11 ?_
      refine q_iload_n C dX0_carryOutAll_14 rfl rfl ?_
      obtain ⟨mv, emv⟩ : ∃ x, S 106 i_2 = x := ⟨_, rfl⟩
      obtain ⟨gv, egv⟩ : ∃ x, S 107 i_2 = x := ⟨_, rfl⟩
      obtain ⟨vv, evv⟩ : ∃ x, S 108 i_2 = x := ⟨_, rfl⟩
      obtain ⟨M, N, hM, hM8, hN, hNM, hNc, hz, hz2, hNd, hW⟩ := uJ_nums hJ9
      have hN8 : N ≤ 8 := by omega
      rcases hk i_2 (by omega) with ek | ek | ek | ek | ek | ek | ek | ek | ek | ek | ek
      · refine q_ialdN (i := i_2) (x := 110) C rfl q_s105 (by omega) (by decide) dX0_carryOutAll_15 ((congrFun h105 _).trans ek) ?_
        refine q_istore_n (lv' := [(3, .int 110), (0, .ref 109), (1, .ref 103), (2, .int (nI i_2))]) C dX0_carryOutAll_16 rfl (by decide) rfl ?_
        refine q_aload_n C dX0_carryOutAll_17 rfl rfl ?_
        refine q_getR C flX0_29 q_s103 rfl dX0_carryOutAll_18 ?_
        refine q_iload_n C dX0_carryOutAll_21 rfl rfl ?_
        refine q_ialdN (i := i_2) (x := mv) C rfl q_s106 (by omega) (by decide) dX0_carryOutAll_22 ((congrFun h106 _).trans emv) ?_
        refine q_istore (lv' := [(4, .int mv), (3, .int 110), (0, .ref 109), (1, .ref 103), (2, .int (nI i_2))]) C dX0_carryOutAll_23 (by decide) rfl ?_
        refine q_aload_n C dX0_carryOutAll_25 rfl rfl ?_
        refine q_getR C flX0_32 q_s103 rfl dX0_carryOutAll_26 ?_
        refine q_iload_n C dX0_carryOutAll_29 rfl rfl ?_
        refine q_ialdN (i := i_2) (x := gv) C rfl q_s107 (by omega) (by decide) dX0_carryOutAll_30 ((congrFun h107 _).trans egv) ?_
        refine q_istore (lv' := [(5, .int gv), (4, .int mv), (3, .int 110), (0, .ref 109), (1, .ref 103), (2, .int (nI i_2))]) C dX0_carryOutAll_31 (by decide) rfl ?_
        refine q_aload_n C dX0_carryOutAll_33 rfl rfl ?_
        refine q_getR C flX0_35 q_s103 rfl dX0_carryOutAll_34 ?_
        refine q_iload_n C dX0_carryOutAll_37 rfl rfl ?_
        refine q_ialdN (i := i_2) (x := vv) C rfl q_s108 (by omega) (by decide) dX0_carryOutAll_38 ((congrFun h108 _).trans evv) ?_
        refine q_istore (lv' := [(6, .int vv), (5, .int gv), (4, .int mv), (3, .int 110), (0, .ref 109), (1, .ref 103), (2, .int (nI i_2))]) C dX0_carryOutAll_39 (by decide) rfl ?_
        refine q_aload_n C dX0_carryOutAll_41 rfl rfl ?_
        refine q_iload_n C dX0_carryOutAll_42 rfl rfl ?_
        refine q_iload C dX0_carryOutAll_43 rfl ?_
        refine q_iload C dX0_carryOutAll_45 rfl ?_
        refine q_iload C dX0_carryOutAll_47 rfl ?_
        rcases q_bc (uK_wrong T 110 mv gv vv) with hw | hw
        · refine q_ci4 C (q_Fi.cv (if_neg (by rw [hw]; decide)) (c_X0_isWrong_110 l T mv gv vv)) myX0_isWrong mlX0_38 q_s109 ⟨by decide, by decide⟩ (Nat.le_of_ble_eq_true rfl) dX0_carryOutAll_49 ?_
          refine q_if_eq (tgt := 57) C dX0_carryOutAll_52 (by decide) (fun _ => ?_) (fun h9 => absurd h9 (by decide))
          refine q_aload_n C dX0_carryOutAll_57 rfl rfl ?_
          refine q_iload_n C dX0_carryOutAll_58 rfl rfl ?_
          refine q_iload C dX0_carryOutAll_59 rfl ?_
          refine q_iload C dX0_carryOutAll_61 rfl ?_
          refine q_iload C dX0_carryOutAll_63 rfl ?_
          have er : uK_ref T 110 mv gv vv = uR_matter M := by {simp [uK_ref, uN_nI (show M < 2 ^ 31 by omega), hM]}
          cases ho : uR_matter M with
          | none =>
            rw [ho] at er
            refine q_ci4 C (q_Fi.cs (v' := 0) (by rw [ho]; rfl) (S3 := T) (by rw [ho]; rfl) (c_X0_isRefused_110 l T M hM hM8 mv gv vv)) myX0_isRefused mlX0_42 q_s109 ⟨by decide, by decide⟩ (Nat.le_of_ble_eq_true rfl) dX0_carryOutAll_65 ?_
            refine q_if_eq (tgt := 73) C dX0_carryOutAll_68 (by decide) (fun _ => ?_) (fun h9 => absurd h9 (by decide))
            refine q_aload_n C dX0_carryOutAll_73 rfl rfl ?_
            refine q_iload_n C dX0_carryOutAll_74 rfl rfl ?_
            refine q_iload C dX0_carryOutAll_75 rfl ?_
            refine q_iload C dX0_carryOutAll_77 rfl ?_
            refine q_iload C dX0_carryOutAll_79 rfl ?_
            have hM7 : M < 8 := Nat.lt_of_not_le (fun q => by simp [uR_matter, q] at ho)
            have ed : uK_do T 110 mv gv vv = q_p (q_p T 3 M (T 1 2)) 1 0 (nI (M + 1)) := by {simp [uK_do, uN_nI (show M < 2 ^ 31 by omega), hM, uN_nI (show N < 2 ^ 31 by omega), hN]}
            have hJ8 : uJ (uK_do T 110 mv gv vv) := by {rw [ed]; exact uJ_matter hJ9 hM hM7 _}
            refine q_ci4 C (q_Fi.cs rfl ed.symm (c_X0_perform_110 l T M hM hM8 mv gv vv hM7)) myX0_perform mlX0_45 q_s109 ⟨by decide, by decide⟩ (Nat.le_of_ble_eq_true rfl) dX0_carryOutAll_81 ?_
            refine q_pop C rfl dX0_carryOutAll_84 ?_
            refine q_iinc (v := nI (i_2 + 1)) (lv' := [(2, .int (nI (i_2 + 1))), (6, .int vv), (5, .int gv), (4, .int mv), (3, .int 110), (0, .ref 109), (1, .ref 103)]) C dX0_carryOutAll_85 rfl (nI_add _ _) (by decide) rfl ?_
            refine q_goto (tgt := 2) C dX0_carryOutAll_88 (by decide) ?_
            exact q_V_to (ih_2 (i_2 + 1) _ (by omega) ((uK_do_ne _ _ _ _ _ 103 (by decide)).trans h103) ((uK_do_ne _ _ _ _ _ 105 (by decide)).trans h105) ((uK_do_ne _ _ _ _ _ 106 (by decide)).trans h106) ((uK_do_ne _ _ _ _ _ 107 (by decide)).trans h107) ((uK_do_ne _ _ _ _ _ 108 (by decide)).trans h108) hJ8 (by rw [← hr_2, uK_all, ek, emv, egv, evv, if_neg (by rw [hw]; decide), er])) ⟨rfl, rfl, rfl, trivial⟩ rfl
          | some q =>
            rw [ho] at er
            refine q_ci4 C (q_Fi.cs (v' := 1) (by rw [ho]; rfl) (S3 := uR_set T q.1 q.2) (by rw [ho]; rfl) (c_X0_isRefused_110 l T M hM hM8 mv gv vv)) myX0_isRefused mlX0_42 q_s109 ⟨by decide, by decide⟩ (Nat.le_of_ble_eq_true rfl) dX0_carryOutAll_65 ?_
            refine q_if_eq (tgt := 73) C dX0_carryOutAll_68 (by decide) (fun h9 => absurd h9 (by decide)) (fun _ => ?_)
            refine q_iconst (v := 1) C dX0_carryOutAll_71 (by decide) ?_
            exact hret _ _ _ _ dX0_carryOutAll_72 (by rw [← hr_2, uK_all, ek, emv, egv, evv, if_neg (by rw [hw]; decide), er]) (by rw [← hr_2, uK_all, ek, emv, egv, evv, if_neg (by rw [hw]; decide), er])
        · refine q_ci4 C (q_Fi.cv (if_pos hw) (c_X0_isWrong_110 l T mv gv vv)) myX0_isWrong mlX0_38 q_s109 ⟨by decide, by decide⟩ (Nat.le_of_ble_eq_true rfl) dX0_carryOutAll_49 ?_
          refine q_if_eq (tgt := 57) C dX0_carryOutAll_52 (by decide) (fun h9 => absurd h9 (by decide)) (fun _ => ?_)
          refine q_iconst (v := 2) C dX0_carryOutAll_55 (by decide) ?_
          exact hret _ _ _ _ dX0_carryOutAll_56 (by rw [← hr_2, uK_all, ek, emv, egv, evv, if_pos hw]) (by rw [← hr_2, uK_all, ek, emv, egv, evv, if_pos hw])
      · refine q_ialdN (i := i_2) (x := 97) C rfl q_s105 (by omega) (by decide) dX0_carryOutAll_15 ((congrFun h105 _).trans ek) ?_
        refine q_istore_n (lv' := [(3, .int 97), (0, .ref 109), (1, .ref 103), (2, .int (nI i_2))]) C dX0_carryOutAll_16 rfl (by decide) rfl ?_
        refine q_aload_n C dX0_carryOutAll_17 rfl rfl ?_
        refine q_getR C flX0_29 q_s103 rfl dX0_carryOutAll_18 ?_
        refine q_iload_n C dX0_carryOutAll_21 rfl rfl ?_
        refine q_ialdN (i := i_2) (x := mv) C rfl q_s106 (by omega) (by decide) dX0_carryOutAll_22 ((congrFun h106 _).trans emv) ?_
        refine q_istore (lv' := [(4, .int mv), (3, .int 97), (0, .ref 109), (1, .ref 103), (2, .int (nI i_2))]) C dX0_carryOutAll_23 (by decide) rfl ?_
        refine q_aload_n C dX0_carryOutAll_25 rfl rfl ?_
        refine q_getR C flX0_32 q_s103 rfl dX0_carryOutAll_26 ?_
        refine q_iload_n C dX0_carryOutAll_29 rfl rfl ?_
        refine q_ialdN (i := i_2) (x := gv) C rfl q_s107 (by omega) (by decide) dX0_carryOutAll_30 ((congrFun h107 _).trans egv) ?_
        refine q_istore (lv' := [(5, .int gv), (4, .int mv), (3, .int 97), (0, .ref 109), (1, .ref 103), (2, .int (nI i_2))]) C dX0_carryOutAll_31 (by decide) rfl ?_
        refine q_aload_n C dX0_carryOutAll_33 rfl rfl ?_
        refine q_getR C flX0_35 q_s103 rfl dX0_carryOutAll_34 ?_
        refine q_iload_n C dX0_carryOutAll_37 rfl rfl ?_
        refine q_ialdN (i := i_2) (x := vv) C rfl q_s108 (by omega) (by decide) dX0_carryOutAll_38 ((congrFun h108 _).trans evv) ?_
        refine q_istore (lv' := [(6, .int vv), (5, .int gv), (4, .int mv), (3, .int 97), (0, .ref 109), (1, .ref 103), (2, .int (nI i_2))]) C dX0_carryOutAll_39 (by decide) rfl ?_
        refine q_aload_n C dX0_carryOutAll_41 rfl rfl ?_
        refine q_iload_n C dX0_carryOutAll_42 rfl rfl ?_
        refine q_iload C dX0_carryOutAll_43 rfl ?_
        refine q_iload C dX0_carryOutAll_45 rfl ?_
        refine q_iload C dX0_carryOutAll_47 rfl ?_
        rcases q_bc (uK_wrong T 97 mv gv vv) with hw | hw
        · refine q_ci4 C (q_Fi.cv (if_neg (by rw [hw]; decide)) (c_X0_isWrong_97 l T mv gv vv)) myX0_isWrong mlX0_38 q_s109 ⟨by decide, by decide⟩ (Nat.le_of_ble_eq_true rfl) dX0_carryOutAll_49 ?_
          have hw2 := hw
          simp [uK_wrong, uK_lacks, Int32.not_le, Int32.not_lt] at hw2
          obtain ⟨m, hmM, rfl⟩ := uK_okM hM hM8 ⟨hw2.1.1.1, hw2.1.1.2⟩
          obtain ⟨g, hg6, rfl⟩ := uK_okG ⟨hw2.1.2.1, hw2.1.2.2⟩
          refine q_if_eq (tgt := 57) C dX0_carryOutAll_52 (by decide) (fun _ => ?_) (fun h9 => absurd h9 (by decide))
          refine q_aload_n C dX0_carryOutAll_57 rfl rfl ?_
          refine q_iload_n C dX0_carryOutAll_58 rfl rfl ?_
          refine q_iload C dX0_carryOutAll_59 rfl ?_
          refine q_iload C dX0_carryOutAll_61 rfl ?_
          refine q_iload C dX0_carryOutAll_63 rfl ?_
          have er : uK_ref T 97 (nI m) (nI g) vv = uR_setA T m g vv := by {simp [uK_ref, uN_nI (show M < 2 ^ 31 by omega), hM, uN_nI (show m < 2 ^ 31 by omega), uN_nI (show g < 2 ^ 31 by omega)]}
          cases ho : uR_setA T m g vv with
          | none =>
            rw [ho] at er
            refine q_ci4 C (q_Fi.cs (v' := 0) (by rw [ho]; rfl) (S3 := T) (by rw [ho]; rfl) (c_X0_isRefused_97 l T m (by omega) g (by omega) vv)) myX0_isRefused mlX0_42 q_s109 ⟨by decide, by decide⟩ (Nat.le_of_ble_eq_true rfl) dX0_carryOutAll_65 ?_
            refine q_if_eq (tgt := 73) C dX0_carryOutAll_68 (by decide) (fun _ => ?_) (fun h9 => absurd h9 (by decide))
            refine q_aload_n C dX0_carryOutAll_73 rfl rfl ?_
            refine q_iload_n C dX0_carryOutAll_74 rfl rfl ?_
            refine q_iload C dX0_carryOutAll_75 rfl ?_
            refine q_iload C dX0_carryOutAll_77 rfl ?_
            refine q_iload C dX0_carryOutAll_79 rfl ?_
            have ed : uK_do T 97 (nI m) (nI g) vv = q_p T 5 (m * 6 + g) vv := by {simp [uK_do, uN_nI (show M < 2 ^ 31 by omega), hM, uN_nI (show m < 2 ^ 31 by omega), uN_nI (show g < 2 ^ 31 by omega), uN_nI (show N < 2 ^ 31 by omega), hN]}
            have hJ8 : uJ (uK_do T 97 (nI m) (nI g) vv) := by {rw [ed]; exact uJ_p hJ9 _ _ _ (by decide) (by decide) (by decide)}
            refine q_ci4 C (q_Fi.cs rfl ed.symm (c_X0_perform_97 l T m (by omega) g (by omega) vv)) myX0_perform mlX0_45 q_s109 ⟨by decide, by decide⟩ (Nat.le_of_ble_eq_true rfl) dX0_carryOutAll_81 ?_
            refine q_pop C rfl dX0_carryOutAll_84 ?_
            refine q_iinc (v := nI (i_2 + 1)) (lv' := [(2, .int (nI (i_2 + 1))), (6, .int vv), (5, .int (nI g)), (4, .int (nI m)), (3, .int 97), (0, .ref 109), (1, .ref 103)]) C dX0_carryOutAll_85 rfl (nI_add _ _) (by decide) rfl ?_
            refine q_goto (tgt := 2) C dX0_carryOutAll_88 (by decide) ?_
            exact q_V_to (ih_2 (i_2 + 1) _ (by omega) ((uK_do_ne _ _ _ _ _ 103 (by decide)).trans h103) ((uK_do_ne _ _ _ _ _ 105 (by decide)).trans h105) ((uK_do_ne _ _ _ _ _ 106 (by decide)).trans h106) ((uK_do_ne _ _ _ _ _ 107 (by decide)).trans h107) ((uK_do_ne _ _ _ _ _ 108 (by decide)).trans h108) hJ8 (by rw [← hr_2, uK_all, ek, emv, egv, evv, if_neg (by rw [hw]; decide), er])) ⟨rfl, rfl, rfl, trivial⟩ rfl
          | some q =>
            rw [ho] at er
            refine q_ci4 C (q_Fi.cs (v' := 1) (by rw [ho]; rfl) (S3 := uR_set T q.1 q.2) (by rw [ho]; rfl) (c_X0_isRefused_97 l T m (by omega) g (by omega) vv)) myX0_isRefused mlX0_42 q_s109 ⟨by decide, by decide⟩ (Nat.le_of_ble_eq_true rfl) dX0_carryOutAll_65 ?_
            refine q_if_eq (tgt := 73) C dX0_carryOutAll_68 (by decide) (fun h9 => absurd h9 (by decide)) (fun _ => ?_)
            refine q_iconst (v := 1) C dX0_carryOutAll_71 (by decide) ?_
            exact hret _ _ _ _ dX0_carryOutAll_72 (by rw [← hr_2, uK_all, ek, emv, egv, evv, if_neg (by rw [hw]; decide), er]) (by rw [← hr_2, uK_all, ek, emv, egv, evv, if_neg (by rw [hw]; decide), er])
        · refine q_ci4 C (q_Fi.cv (if_pos hw) (c_X0_isWrong_97 l T mv gv vv)) myX0_isWrong mlX0_38 q_s109 ⟨by decide, by decide⟩ (Nat.le_of_ble_eq_true rfl) dX0_carryOutAll_49 ?_
          refine q_if_eq (tgt := 57) C dX0_carryOutAll_52 (by decide) (fun h9 => absurd h9 (by decide)) (fun _ => ?_)
          refine q_iconst (v := 2) C dX0_carryOutAll_55 (by decide) ?_
          exact hret _ _ _ _ dX0_carryOutAll_56 (by rw [← hr_2, uK_all, ek, emv, egv, evv, if_pos hw]) (by rw [← hr_2, uK_all, ek, emv, egv, evv, if_pos hw])
      · refine q_ialdN (i := i_2) (x := 113) C rfl q_s105 (by omega) (by decide) dX0_carryOutAll_15 ((congrFun h105 _).trans ek) ?_
        refine q_istore_n (lv' := [(3, .int 113), (0, .ref 109), (1, .ref 103), (2, .int (nI i_2))]) C dX0_carryOutAll_16 rfl (by decide) rfl ?_
        refine q_aload_n C dX0_carryOutAll_17 rfl rfl ?_
        refine q_getR C flX0_29 q_s103 rfl dX0_carryOutAll_18 ?_
        refine q_iload_n C dX0_carryOutAll_21 rfl rfl ?_
        refine q_ialdN (i := i_2) (x := mv) C rfl q_s106 (by omega) (by decide) dX0_carryOutAll_22 ((congrFun h106 _).trans emv) ?_
        refine q_istore (lv' := [(4, .int mv), (3, .int 113), (0, .ref 109), (1, .ref 103), (2, .int (nI i_2))]) C dX0_carryOutAll_23 (by decide) rfl ?_
        refine q_aload_n C dX0_carryOutAll_25 rfl rfl ?_
        refine q_getR C flX0_32 q_s103 rfl dX0_carryOutAll_26 ?_
        refine q_iload_n C dX0_carryOutAll_29 rfl rfl ?_
        refine q_ialdN (i := i_2) (x := gv) C rfl q_s107 (by omega) (by decide) dX0_carryOutAll_30 ((congrFun h107 _).trans egv) ?_
        refine q_istore (lv' := [(5, .int gv), (4, .int mv), (3, .int 113), (0, .ref 109), (1, .ref 103), (2, .int (nI i_2))]) C dX0_carryOutAll_31 (by decide) rfl ?_
        refine q_aload_n C dX0_carryOutAll_33 rfl rfl ?_
        refine q_getR C flX0_35 q_s103 rfl dX0_carryOutAll_34 ?_
        refine q_iload_n C dX0_carryOutAll_37 rfl rfl ?_
        refine q_ialdN (i := i_2) (x := vv) C rfl q_s108 (by omega) (by decide) dX0_carryOutAll_38 ((congrFun h108 _).trans evv) ?_
        refine q_istore (lv' := [(6, .int vv), (5, .int gv), (4, .int mv), (3, .int 113), (0, .ref 109), (1, .ref 103), (2, .int (nI i_2))]) C dX0_carryOutAll_39 (by decide) rfl ?_
        refine q_aload_n C dX0_carryOutAll_41 rfl rfl ?_
        refine q_iload_n C dX0_carryOutAll_42 rfl rfl ?_
        refine q_iload C dX0_carryOutAll_43 rfl ?_
        refine q_iload C dX0_carryOutAll_45 rfl ?_
        refine q_iload C dX0_carryOutAll_47 rfl ?_
        rcases q_bc (uK_wrong T 113 mv gv vv) with hw | hw
        · refine q_ci4 C (q_Fi.cv (if_neg (by rw [hw]; decide)) (c_X0_isWrong_113 l T mv gv vv)) myX0_isWrong mlX0_38 q_s109 ⟨by decide, by decide⟩ (Nat.le_of_ble_eq_true rfl) dX0_carryOutAll_49 ?_
          have hw2 := hw
          simp [uK_wrong, uK_lacks, Int32.not_le, Int32.not_lt] at hw2
          obtain ⟨m, hmM, rfl⟩ := uK_okM hM hM8 ⟨hw2.1.1, hw2.1.2⟩
          obtain ⟨g, hg6, rfl⟩ := uK_okG ⟨hw2.2.1, hw2.2.2⟩
          refine q_if_eq (tgt := 57) C dX0_carryOutAll_52 (by decide) (fun _ => ?_) (fun h9 => absurd h9 (by decide))
          refine q_aload_n C dX0_carryOutAll_57 rfl rfl ?_
          refine q_iload_n C dX0_carryOutAll_58 rfl rfl ?_
          refine q_iload C dX0_carryOutAll_59 rfl ?_
          refine q_iload C dX0_carryOutAll_61 rfl ?_
          refine q_iload C dX0_carryOutAll_63 rfl ?_
          have er : uK_ref T 113 (nI m) (nI g) vv = uR_ask T M m g := by {simp [uK_ref, uN_nI (show M < 2 ^ 31 by omega), hM, uN_nI (show m < 2 ^ 31 by omega), uN_nI (show g < 2 ^ 31 by omega)]}
          cases ho : uR_ask T M m g with
          | none =>
            rw [ho] at er
            refine q_ci4 C (q_Fi.cs (v' := 0) (by rw [ho]; rfl) (S3 := T) (by rw [ho]; rfl) (c_X0_isRefused_113 l T M hM hM8 m (by omega) g (by omega) vv)) myX0_isRefused mlX0_42 q_s109 ⟨by decide, by decide⟩ (Nat.le_of_ble_eq_true rfl) dX0_carryOutAll_65 ?_
            refine q_if_eq (tgt := 73) C dX0_carryOutAll_68 (by decide) (fun _ => ?_) (fun h9 => absurd h9 (by decide))
            refine q_aload_n C dX0_carryOutAll_73 rfl rfl ?_
            refine q_iload_n C dX0_carryOutAll_74 rfl rfl ?_
            refine q_iload C dX0_carryOutAll_75 rfl ?_
            refine q_iload C dX0_carryOutAll_77 rfl ?_
            refine q_iload C dX0_carryOutAll_79 rfl ?_
            have ed : uK_do T 113 (nI m) (nI g) vv = uC_ask T M m g := by {simp [uK_do, uN_nI (show M < 2 ^ 31 by omega), hM, uN_nI (show m < 2 ^ 31 by omega), uN_nI (show g < 2 ^ 31 by omega), uN_nI (show N < 2 ^ 31 by omega), hN]}
            have hJ8 : uJ (uK_do T 113 (nI m) (nI g) vv) := by {rw [ed]; exact uJ_ask hJ9 _ _ _}
            refine q_ci4 C (q_Fi.cs rfl ed.symm (c_X0_perform_113 l T M hM hM8 m (by omega) g (by omega) vv)) myX0_perform mlX0_45 q_s109 ⟨by decide, by decide⟩ (Nat.le_of_ble_eq_true rfl) dX0_carryOutAll_81 ?_
            refine q_pop C rfl dX0_carryOutAll_84 ?_
            refine q_iinc (v := nI (i_2 + 1)) (lv' := [(2, .int (nI (i_2 + 1))), (6, .int vv), (5, .int (nI g)), (4, .int (nI m)), (3, .int 113), (0, .ref 109), (1, .ref 103)]) C dX0_carryOutAll_85 rfl (nI_add _ _) (by decide) rfl ?_
            refine q_goto (tgt := 2) C dX0_carryOutAll_88 (by decide) ?_
            exact q_V_to (ih_2 (i_2 + 1) _ (by omega) ((uK_do_ne _ _ _ _ _ 103 (by decide)).trans h103) ((uK_do_ne _ _ _ _ _ 105 (by decide)).trans h105) ((uK_do_ne _ _ _ _ _ 106 (by decide)).trans h106) ((uK_do_ne _ _ _ _ _ 107 (by decide)).trans h107) ((uK_do_ne _ _ _ _ _ 108 (by decide)).trans h108) hJ8 (by rw [← hr_2, uK_all, ek, emv, egv, evv, if_neg (by rw [hw]; decide), er])) ⟨rfl, rfl, rfl, trivial⟩ rfl
          | some q =>
            rw [ho] at er
            refine q_ci4 C (q_Fi.cs (v' := 1) (by rw [ho]; rfl) (S3 := uR_set T q.1 q.2) (by rw [ho]; rfl) (c_X0_isRefused_113 l T M hM hM8 m (by omega) g (by omega) vv)) myX0_isRefused mlX0_42 q_s109 ⟨by decide, by decide⟩ (Nat.le_of_ble_eq_true rfl) dX0_carryOutAll_65 ?_
            refine q_if_eq (tgt := 73) C dX0_carryOutAll_68 (by decide) (fun h9 => absurd h9 (by decide)) (fun _ => ?_)
            refine q_iconst (v := 1) C dX0_carryOutAll_71 (by decide) ?_
            exact hret _ _ _ _ dX0_carryOutAll_72 (by rw [← hr_2, uK_all, ek, emv, egv, evv, if_neg (by rw [hw]; decide), er]) (by rw [← hr_2, uK_all, ek, emv, egv, evv, if_neg (by rw [hw]; decide), er])
        · refine q_ci4 C (q_Fi.cv (if_pos hw) (c_X0_isWrong_113 l T mv gv vv)) myX0_isWrong mlX0_38 q_s109 ⟨by decide, by decide⟩ (Nat.le_of_ble_eq_true rfl) dX0_carryOutAll_49 ?_
          refine q_if_eq (tgt := 57) C dX0_carryOutAll_52 (by decide) (fun h9 => absurd h9 (by decide)) (fun _ => ?_)
          refine q_iconst (v := 2) C dX0_carryOutAll_55 (by decide) ?_
          exact hret _ _ _ _ dX0_carryOutAll_56 (by rw [← hr_2, uK_all, ek, emv, egv, evv, if_pos hw]) (by rw [← hr_2, uK_all, ek, emv, egv, evv, if_pos hw])
      · refine q_ialdN (i := i_2) (x := 100) C rfl q_s105 (by omega) (by decide) dX0_carryOutAll_15 ((congrFun h105 _).trans ek) ?_
        refine q_istore_n (lv' := [(3, .int 100), (0, .ref 109), (1, .ref 103), (2, .int (nI i_2))]) C dX0_carryOutAll_16 rfl (by decide) rfl ?_
        refine q_aload_n C dX0_carryOutAll_17 rfl rfl ?_
        refine q_getR C flX0_29 q_s103 rfl dX0_carryOutAll_18 ?_
        refine q_iload_n C dX0_carryOutAll_21 rfl rfl ?_
        refine q_ialdN (i := i_2) (x := mv) C rfl q_s106 (by omega) (by decide) dX0_carryOutAll_22 ((congrFun h106 _).trans emv) ?_
        refine q_istore (lv' := [(4, .int mv), (3, .int 100), (0, .ref 109), (1, .ref 103), (2, .int (nI i_2))]) C dX0_carryOutAll_23 (by decide) rfl ?_
        refine q_aload_n C dX0_carryOutAll_25 rfl rfl ?_
        refine q_getR C flX0_32 q_s103 rfl dX0_carryOutAll_26 ?_
        refine q_iload_n C dX0_carryOutAll_29 rfl rfl ?_
        refine q_ialdN (i := i_2) (x := gv) C rfl q_s107 (by omega) (by decide) dX0_carryOutAll_30 ((congrFun h107 _).trans egv) ?_
        refine q_istore (lv' := [(5, .int gv), (4, .int mv), (3, .int 100), (0, .ref 109), (1, .ref 103), (2, .int (nI i_2))]) C dX0_carryOutAll_31 (by decide) rfl ?_
        refine q_aload_n C dX0_carryOutAll_33 rfl rfl ?_
        refine q_getR C flX0_35 q_s103 rfl dX0_carryOutAll_34 ?_
        refine q_iload_n C dX0_carryOutAll_37 rfl rfl ?_
        refine q_ialdN (i := i_2) (x := vv) C rfl q_s108 (by omega) (by decide) dX0_carryOutAll_38 ((congrFun h108 _).trans evv) ?_
        refine q_istore (lv' := [(6, .int vv), (5, .int gv), (4, .int mv), (3, .int 100), (0, .ref 109), (1, .ref 103), (2, .int (nI i_2))]) C dX0_carryOutAll_39 (by decide) rfl ?_
        refine q_aload_n C dX0_carryOutAll_41 rfl rfl ?_
        refine q_iload_n C dX0_carryOutAll_42 rfl rfl ?_
        refine q_iload C dX0_carryOutAll_43 rfl ?_
        refine q_iload C dX0_carryOutAll_45 rfl ?_
        refine q_iload C dX0_carryOutAll_47 rfl ?_
        rcases q_bc (uK_wrong T 100 mv gv vv) with hw | hw
        · refine q_ci4 C (q_Fi.cv (if_neg (by rw [hw]; decide)) (c_X0_isWrong_100 l T mv gv vv)) myX0_isWrong mlX0_38 q_s109 ⟨by decide, by decide⟩ (Nat.le_of_ble_eq_true rfl) dX0_carryOutAll_49 ?_
          have hw2 := hw
          simp [uK_wrong, Int32.not_le, Int32.not_lt] at hw2
          obtain ⟨m, hmM, rfl⟩ := uK_okM hM hM8 ⟨hw2.1, hw2.2⟩
          refine q_if_eq (tgt := 57) C dX0_carryOutAll_52 (by decide) (fun _ => ?_) (fun h9 => absurd h9 (by decide))
          refine q_aload_n C dX0_carryOutAll_57 rfl rfl ?_
          refine q_iload_n C dX0_carryOutAll_58 rfl rfl ?_
          refine q_iload C dX0_carryOutAll_59 rfl ?_
          refine q_iload C dX0_carryOutAll_61 rfl ?_
          refine q_iload C dX0_carryOutAll_63 rfl ?_
          have er : uK_ref T 100 (nI m) gv vv = uR_decide T M m := by {simp [uK_ref, uN_nI (show M < 2 ^ 31 by omega), hM, uN_nI (show m < 2 ^ 31 by omega)]}
          cases ho : uR_decide T M m with
          | none =>
            rw [ho] at er
            refine q_ci4 C (q_Fi.cs (v' := 0) (by rw [ho]; rfl) (S3 := T) (by rw [ho]; rfl) (c_X0_isRefused_100 l T M hM hM8 m (by omega) gv vv)) myX0_isRefused mlX0_42 q_s109 ⟨by decide, by decide⟩ (Nat.le_of_ble_eq_true rfl) dX0_carryOutAll_65 ?_
            refine q_if_eq (tgt := 73) C dX0_carryOutAll_68 (by decide) (fun _ => ?_) (fun h9 => absurd h9 (by decide))
            refine q_aload_n C dX0_carryOutAll_73 rfl rfl ?_
            refine q_iload_n C dX0_carryOutAll_74 rfl rfl ?_
            refine q_iload C dX0_carryOutAll_75 rfl ?_
            refine q_iload C dX0_carryOutAll_77 rfl ?_
            refine q_iload C dX0_carryOutAll_79 rfl ?_
            have h2m : T 2 m = 0 := Decidable.byContradiction (fun q => by by_cases q1 : T 1 5 = 0 <;> simp [uR_decide, q1, q] at ho)
            have hN7 : N < 8 := hNd m hmM h2m
            have ed : uK_do T 100 (nI m) gv vv = uC_decide T N m := by {simp [uK_do, uN_nI (show M < 2 ^ 31 by omega), hM, uN_nI (show m < 2 ^ 31 by omega), uN_nI (show N < 2 ^ 31 by omega), hN]}
            have hJ8 : uJ (uK_do T 100 (nI m) gv vv) := by {rw [ed]; exact uJ_book hJ9 hM hM8 hmM hN (by omega) h2m (by split <;> decide)}
            refine q_ci4 C (q_Fi.cs rfl ed.symm (c_X0_perform_100 l T N hN hN7 m (by omega) gv vv)) myX0_perform mlX0_45 q_s109 ⟨by decide, by decide⟩ (Nat.le_of_ble_eq_true rfl) dX0_carryOutAll_81 ?_
            refine q_pop C rfl dX0_carryOutAll_84 ?_
            refine q_iinc (v := nI (i_2 + 1)) (lv' := [(2, .int (nI (i_2 + 1))), (6, .int vv), (5, .int gv), (4, .int (nI m)), (3, .int 100), (0, .ref 109), (1, .ref 103)]) C dX0_carryOutAll_85 rfl (nI_add _ _) (by decide) rfl ?_
            refine q_goto (tgt := 2) C dX0_carryOutAll_88 (by decide) ?_
            exact q_V_to (ih_2 (i_2 + 1) _ (by omega) ((uK_do_ne _ _ _ _ _ 103 (by decide)).trans h103) ((uK_do_ne _ _ _ _ _ 105 (by decide)).trans h105) ((uK_do_ne _ _ _ _ _ 106 (by decide)).trans h106) ((uK_do_ne _ _ _ _ _ 107 (by decide)).trans h107) ((uK_do_ne _ _ _ _ _ 108 (by decide)).trans h108) hJ8 (by rw [← hr_2, uK_all, ek, emv, egv, evv, if_neg (by rw [hw]; decide), er])) ⟨rfl, rfl, rfl, trivial⟩ rfl
          | some q =>
            rw [ho] at er
            refine q_ci4 C (q_Fi.cs (v' := 1) (by rw [ho]; rfl) (S3 := uR_set T q.1 q.2) (by rw [ho]; rfl) (c_X0_isRefused_100 l T M hM hM8 m (by omega) gv vv)) myX0_isRefused mlX0_42 q_s109 ⟨by decide, by decide⟩ (Nat.le_of_ble_eq_true rfl) dX0_carryOutAll_65 ?_
            refine q_if_eq (tgt := 73) C dX0_carryOutAll_68 (by decide) (fun h9 => absurd h9 (by decide)) (fun _ => ?_)
            refine q_iconst (v := 1) C dX0_carryOutAll_71 (by decide) ?_
            exact hret _ _ _ _ dX0_carryOutAll_72 (by rw [← hr_2, uK_all, ek, emv, egv, evv, if_neg (by rw [hw]; decide), er]) (by rw [← hr_2, uK_all, ek, emv, egv, evv, if_neg (by rw [hw]; decide), er])
        · refine q_ci4 C (q_Fi.cv (if_pos hw) (c_X0_isWrong_100 l T mv gv vv)) myX0_isWrong mlX0_38 q_s109 ⟨by decide, by decide⟩ (Nat.le_of_ble_eq_true rfl) dX0_carryOutAll_49 ?_
          refine q_if_eq (tgt := 57) C dX0_carryOutAll_52 (by decide) (fun h9 => absurd h9 (by decide)) (fun _ => ?_)
          refine q_iconst (v := 2) C dX0_carryOutAll_55 (by decide) ?_
          exact hret _ _ _ _ dX0_carryOutAll_56 (by rw [← hr_2, uK_all, ek, emv, egv, evv, if_pos hw]) (by rw [← hr_2, uK_all, ek, emv, egv, evv, if_pos hw])
      · refine q_ialdN (i := i_2) (x := 116) C rfl q_s105 (by omega) (by decide) dX0_carryOutAll_15 ((congrFun h105 _).trans ek) ?_
        refine q_istore_n (lv' := [(3, .int 116), (0, .ref 109), (1, .ref 103), (2, .int (nI i_2))]) C dX0_carryOutAll_16 rfl (by decide) rfl ?_
        refine q_aload_n C dX0_carryOutAll_17 rfl rfl ?_
        refine q_getR C flX0_29 q_s103 rfl dX0_carryOutAll_18 ?_
        refine q_iload_n C dX0_carryOutAll_21 rfl rfl ?_
        refine q_ialdN (i := i_2) (x := mv) C rfl q_s106 (by omega) (by decide) dX0_carryOutAll_22 ((congrFun h106 _).trans emv) ?_
        refine q_istore (lv' := [(4, .int mv), (3, .int 116), (0, .ref 109), (1, .ref 103), (2, .int (nI i_2))]) C dX0_carryOutAll_23 (by decide) rfl ?_
        refine q_aload_n C dX0_carryOutAll_25 rfl rfl ?_
        refine q_getR C flX0_32 q_s103 rfl dX0_carryOutAll_26 ?_
        refine q_iload_n C dX0_carryOutAll_29 rfl rfl ?_
        refine q_ialdN (i := i_2) (x := gv) C rfl q_s107 (by omega) (by decide) dX0_carryOutAll_30 ((congrFun h107 _).trans egv) ?_
        refine q_istore (lv' := [(5, .int gv), (4, .int mv), (3, .int 116), (0, .ref 109), (1, .ref 103), (2, .int (nI i_2))]) C dX0_carryOutAll_31 (by decide) rfl ?_
        refine q_aload_n C dX0_carryOutAll_33 rfl rfl ?_
        refine q_getR C flX0_35 q_s103 rfl dX0_carryOutAll_34 ?_
        refine q_iload_n C dX0_carryOutAll_37 rfl rfl ?_
        refine q_ialdN (i := i_2) (x := vv) C rfl q_s108 (by omega) (by decide) dX0_carryOutAll_38 ((congrFun h108 _).trans evv) ?_
        refine q_istore (lv' := [(6, .int vv), (5, .int gv), (4, .int mv), (3, .int 116), (0, .ref 109), (1, .ref 103), (2, .int (nI i_2))]) C dX0_carryOutAll_39 (by decide) rfl ?_
        refine q_aload_n C dX0_carryOutAll_41 rfl rfl ?_
        refine q_iload_n C dX0_carryOutAll_42 rfl rfl ?_
        refine q_iload C dX0_carryOutAll_43 rfl ?_
        refine q_iload C dX0_carryOutAll_45 rfl ?_
        refine q_iload C dX0_carryOutAll_47 rfl ?_
        rcases q_bc (uK_wrong T 116 mv gv vv) with hw | hw
        · refine q_ci4 C (q_Fi.cv (if_neg (by rw [hw]; decide)) (c_X0_isWrong_116 l T mv gv vv)) myX0_isWrong mlX0_38 q_s109 ⟨by decide, by decide⟩ (Nat.le_of_ble_eq_true rfl) dX0_carryOutAll_49 ?_
          have hw2 := hw
          simp [uK_wrong, uK_lacks, Int32.not_le, Int32.not_lt] at hw2
          obtain ⟨m, hmM, rfl⟩ := uK_okM hM hM8 ⟨hw2.1.1, hw2.1.2⟩
          obtain ⟨g, hg6, rfl⟩ := uK_okG ⟨hw2.2.1, hw2.2.2⟩
          refine q_if_eq (tgt := 57) C dX0_carryOutAll_52 (by decide) (fun _ => ?_) (fun h9 => absurd h9 (by decide))
          refine q_aload_n C dX0_carryOutAll_57 rfl rfl ?_
          refine q_iload_n C dX0_carryOutAll_58 rfl rfl ?_
          refine q_iload C dX0_carryOutAll_59 rfl ?_
          refine q_iload C dX0_carryOutAll_61 rfl ?_
          refine q_iload C dX0_carryOutAll_63 rfl ?_
          have er : uK_ref T 116 (nI m) (nI g) vv = uR_tell T M m g := by {simp [uK_ref, uN_nI (show M < 2 ^ 31 by omega), hM, uN_nI (show m < 2 ^ 31 by omega), uN_nI (show g < 2 ^ 31 by omega)]}
          cases ho : uR_tell T M m g with
          | none =>
            rw [ho] at er
            refine q_ci4 C (q_Fi.cs (v' := 0) (by rw [ho]; rfl) (S3 := T) (by rw [ho]; rfl) (c_X0_isRefused_116 l T M hM hM8 m (by omega) g (by omega) vv)) myX0_isRefused mlX0_42 q_s109 ⟨by decide, by decide⟩ (Nat.le_of_ble_eq_true rfl) dX0_carryOutAll_65 ?_
            refine q_if_eq (tgt := 73) C dX0_carryOutAll_68 (by decide) (fun _ => ?_) (fun h9 => absurd h9 (by decide))
            refine q_aload_n C dX0_carryOutAll_73 rfl rfl ?_
            refine q_iload_n C dX0_carryOutAll_74 rfl rfl ?_
            refine q_iload C dX0_carryOutAll_75 rfl ?_
            refine q_iload C dX0_carryOutAll_77 rfl ?_
            refine q_iload C dX0_carryOutAll_79 rfl ?_
            have ed : uK_do T 116 (nI m) (nI g) vv = uC_tell T m g := by {simp [uK_do, uN_nI (show M < 2 ^ 31 by omega), hM, uN_nI (show m < 2 ^ 31 by omega), uN_nI (show g < 2 ^ 31 by omega), uN_nI (show N < 2 ^ 31 by omega), hN]}
            have hJ8 : uJ (uK_do T 116 (nI m) (nI g) vv) := by {rw [ed]; exact uJ_tell hJ9 _ _}
            refine q_ci4 C (q_Fi.cs rfl ed.symm (c_X0_perform_116 l T m (by omega) g (by omega) vv)) myX0_perform mlX0_45 q_s109 ⟨by decide, by decide⟩ (Nat.le_of_ble_eq_true rfl) dX0_carryOutAll_81 ?_
            refine q_pop C rfl dX0_carryOutAll_84 ?_
            refine q_iinc (v := nI (i_2 + 1)) (lv' := [(2, .int (nI (i_2 + 1))), (6, .int vv), (5, .int (nI g)), (4, .int (nI m)), (3, .int 116), (0, .ref 109), (1, .ref 103)]) C dX0_carryOutAll_85 rfl (nI_add _ _) (by decide) rfl ?_
            refine q_goto (tgt := 2) C dX0_carryOutAll_88 (by decide) ?_
            exact q_V_to (ih_2 (i_2 + 1) _ (by omega) ((uK_do_ne _ _ _ _ _ 103 (by decide)).trans h103) ((uK_do_ne _ _ _ _ _ 105 (by decide)).trans h105) ((uK_do_ne _ _ _ _ _ 106 (by decide)).trans h106) ((uK_do_ne _ _ _ _ _ 107 (by decide)).trans h107) ((uK_do_ne _ _ _ _ _ 108 (by decide)).trans h108) hJ8 (by rw [← hr_2, uK_all, ek, emv, egv, evv, if_neg (by rw [hw]; decide), er])) ⟨rfl, rfl, rfl, trivial⟩ rfl
          | some q =>
            rw [ho] at er
            refine q_ci4 C (q_Fi.cs (v' := 1) (by rw [ho]; rfl) (S3 := uR_set T q.1 q.2) (by rw [ho]; rfl) (c_X0_isRefused_116 l T M hM hM8 m (by omega) g (by omega) vv)) myX0_isRefused mlX0_42 q_s109 ⟨by decide, by decide⟩ (Nat.le_of_ble_eq_true rfl) dX0_carryOutAll_65 ?_
            refine q_if_eq (tgt := 73) C dX0_carryOutAll_68 (by decide) (fun h9 => absurd h9 (by decide)) (fun _ => ?_)
            refine q_iconst (v := 1) C dX0_carryOutAll_71 (by decide) ?_
            exact hret _ _ _ _ dX0_carryOutAll_72 (by rw [← hr_2, uK_all, ek, emv, egv, evv, if_neg (by rw [hw]; decide), er]) (by rw [← hr_2, uK_all, ek, emv, egv, evv, if_neg (by rw [hw]; decide), er])
        · refine q_ci4 C (q_Fi.cv (if_pos hw) (c_X0_isWrong_116 l T mv gv vv)) myX0_isWrong mlX0_38 q_s109 ⟨by decide, by decide⟩ (Nat.le_of_ble_eq_true rfl) dX0_carryOutAll_49 ?_
          refine q_if_eq (tgt := 57) C dX0_carryOutAll_52 (by decide) (fun h9 => absurd h9 (by decide)) (fun _ => ?_)
          refine q_iconst (v := 2) C dX0_carryOutAll_55 (by decide) ?_
          exact hret _ _ _ _ dX0_carryOutAll_56 (by rw [← hr_2, uK_all, ek, emv, egv, evv, if_pos hw]) (by rw [← hr_2, uK_all, ek, emv, egv, evv, if_pos hw])
      · refine q_ialdN (i := i_2) (x := 102) C rfl q_s105 (by omega) (by decide) dX0_carryOutAll_15 ((congrFun h105 _).trans ek) ?_
        refine q_istore_n (lv' := [(3, .int 102), (0, .ref 109), (1, .ref 103), (2, .int (nI i_2))]) C dX0_carryOutAll_16 rfl (by decide) rfl ?_
        refine q_aload_n C dX0_carryOutAll_17 rfl rfl ?_
        refine q_getR C flX0_29 q_s103 rfl dX0_carryOutAll_18 ?_
        refine q_iload_n C dX0_carryOutAll_21 rfl rfl ?_
        refine q_ialdN (i := i_2) (x := mv) C rfl q_s106 (by omega) (by decide) dX0_carryOutAll_22 ((congrFun h106 _).trans emv) ?_
        refine q_istore (lv' := [(4, .int mv), (3, .int 102), (0, .ref 109), (1, .ref 103), (2, .int (nI i_2))]) C dX0_carryOutAll_23 (by decide) rfl ?_
        refine q_aload_n C dX0_carryOutAll_25 rfl rfl ?_
        refine q_getR C flX0_32 q_s103 rfl dX0_carryOutAll_26 ?_
        refine q_iload_n C dX0_carryOutAll_29 rfl rfl ?_
        refine q_ialdN (i := i_2) (x := gv) C rfl q_s107 (by omega) (by decide) dX0_carryOutAll_30 ((congrFun h107 _).trans egv) ?_
        refine q_istore (lv' := [(5, .int gv), (4, .int mv), (3, .int 102), (0, .ref 109), (1, .ref 103), (2, .int (nI i_2))]) C dX0_carryOutAll_31 (by decide) rfl ?_
        refine q_aload_n C dX0_carryOutAll_33 rfl rfl ?_
        refine q_getR C flX0_35 q_s103 rfl dX0_carryOutAll_34 ?_
        refine q_iload_n C dX0_carryOutAll_37 rfl rfl ?_
        refine q_ialdN (i := i_2) (x := vv) C rfl q_s108 (by omega) (by decide) dX0_carryOutAll_38 ((congrFun h108 _).trans evv) ?_
        refine q_istore (lv' := [(6, .int vv), (5, .int gv), (4, .int mv), (3, .int 102), (0, .ref 109), (1, .ref 103), (2, .int (nI i_2))]) C dX0_carryOutAll_39 (by decide) rfl ?_
        refine q_aload_n C dX0_carryOutAll_41 rfl rfl ?_
        refine q_iload_n C dX0_carryOutAll_42 rfl rfl ?_
        refine q_iload C dX0_carryOutAll_43 rfl ?_
        refine q_iload C dX0_carryOutAll_45 rfl ?_
        refine q_iload C dX0_carryOutAll_47 rfl ?_
        rcases q_bc (uK_wrong T 102 mv gv vv) with hw | hw
        · refine q_ci4 C (q_Fi.cv (if_neg (by rw [hw]; decide)) (c_X0_isWrong_102 l T mv gv vv)) myX0_isWrong mlX0_38 q_s109 ⟨by decide, by decide⟩ (Nat.le_of_ble_eq_true rfl) dX0_carryOutAll_49 ?_
          refine q_if_eq (tgt := 57) C dX0_carryOutAll_52 (by decide) (fun _ => ?_) (fun h9 => absurd h9 (by decide))
          refine q_aload_n C dX0_carryOutAll_57 rfl rfl ?_
          refine q_iload_n C dX0_carryOutAll_58 rfl rfl ?_
          refine q_iload C dX0_carryOutAll_59 rfl ?_
          refine q_iload C dX0_carryOutAll_61 rfl ?_
          refine q_iload C dX0_carryOutAll_63 rfl ?_
          have er : uK_ref T 102 mv gv vv = uR_fainted T M := by {simp [uK_ref, uN_nI (show M < 2 ^ 31 by omega), hM]}
          cases ho : uR_fainted T M with
          | none =>
            rw [ho] at er
            refine q_ci4 C (q_Fi.cs (v' := 0) (by rw [ho]; rfl) (S3 := T) (by rw [ho]; rfl) (c_X0_isRefused_102 l T M hM hM8 mv gv vv)) myX0_isRefused mlX0_42 q_s109 ⟨by decide, by decide⟩ (Nat.le_of_ble_eq_true rfl) dX0_carryOutAll_65 ?_
            refine q_if_eq (tgt := 73) C dX0_carryOutAll_68 (by decide) (fun _ => ?_) (fun h9 => absurd h9 (by decide))
            refine q_aload_n C dX0_carryOutAll_73 rfl rfl ?_
            refine q_iload_n C dX0_carryOutAll_74 rfl rfl ?_
            refine q_iload C dX0_carryOutAll_75 rfl ?_
            refine q_iload C dX0_carryOutAll_77 rfl ?_
            refine q_iload C dX0_carryOutAll_79 rfl ?_
            have ed : uK_do T 102 mv gv vv = uC_faint T := by {simp [uK_do, uN_nI (show M < 2 ^ 31 by omega), hM, uN_nI (show N < 2 ^ 31 by omega), hN]}
            have hJ8 : uJ (uK_do T 102 mv gv vv) := by {rw [ed]; exact uJ_faint hJ9}
            refine q_ci4 C (q_Fi.cs rfl ed.symm (c_X0_perform_102 l T M hM hM8 mv gv vv)) myX0_perform mlX0_45 q_s109 ⟨by decide, by decide⟩ (Nat.le_of_ble_eq_true rfl) dX0_carryOutAll_81 ?_
            refine q_pop C rfl dX0_carryOutAll_84 ?_
            refine q_iinc (v := nI (i_2 + 1)) (lv' := [(2, .int (nI (i_2 + 1))), (6, .int vv), (5, .int gv), (4, .int mv), (3, .int 102), (0, .ref 109), (1, .ref 103)]) C dX0_carryOutAll_85 rfl (nI_add _ _) (by decide) rfl ?_
            refine q_goto (tgt := 2) C dX0_carryOutAll_88 (by decide) ?_
            exact q_V_to (ih_2 (i_2 + 1) _ (by omega) ((uK_do_ne _ _ _ _ _ 103 (by decide)).trans h103) ((uK_do_ne _ _ _ _ _ 105 (by decide)).trans h105) ((uK_do_ne _ _ _ _ _ 106 (by decide)).trans h106) ((uK_do_ne _ _ _ _ _ 107 (by decide)).trans h107) ((uK_do_ne _ _ _ _ _ 108 (by decide)).trans h108) hJ8 (by rw [← hr_2, uK_all, ek, emv, egv, evv, if_neg (by rw [hw]; decide), er])) ⟨rfl, rfl, rfl, trivial⟩ rfl
          | some q =>
            rw [ho] at er
            refine q_ci4 C (q_Fi.cs (v' := 1) (by rw [ho]; rfl) (S3 := uR_set T q.1 q.2) (by rw [ho]; rfl) (c_X0_isRefused_102 l T M hM hM8 mv gv vv)) myX0_isRefused mlX0_42 q_s109 ⟨by decide, by decide⟩ (Nat.le_of_ble_eq_true rfl) dX0_carryOutAll_65 ?_
            refine q_if_eq (tgt := 73) C dX0_carryOutAll_68 (by decide) (fun h9 => absurd h9 (by decide)) (fun _ => ?_)
            refine q_iconst (v := 1) C dX0_carryOutAll_71 (by decide) ?_
            exact hret _ _ _ _ dX0_carryOutAll_72 (by rw [← hr_2, uK_all, ek, emv, egv, evv, if_neg (by rw [hw]; decide), er]) (by rw [← hr_2, uK_all, ek, emv, egv, evv, if_neg (by rw [hw]; decide), er])
        · refine q_ci4 C (q_Fi.cv (if_pos hw) (c_X0_isWrong_102 l T mv gv vv)) myX0_isWrong mlX0_38 q_s109 ⟨by decide, by decide⟩ (Nat.le_of_ble_eq_true rfl) dX0_carryOutAll_49 ?_
          refine q_if_eq (tgt := 57) C dX0_carryOutAll_52 (by decide) (fun h9 => absurd h9 (by decide)) (fun _ => ?_)
          refine q_iconst (v := 2) C dX0_carryOutAll_55 (by decide) ?_
          exact hret _ _ _ _ dX0_carryOutAll_56 (by rw [← hr_2, uK_all, ek, emv, egv, evv, if_pos hw]) (by rw [← hr_2, uK_all, ek, emv, egv, evv, if_pos hw])
      · refine q_ialdN (i := i_2) (x := 119) C rfl q_s105 (by omega) (by decide) dX0_carryOutAll_15 ((congrFun h105 _).trans ek) ?_
        refine q_istore_n (lv' := [(3, .int 119), (0, .ref 109), (1, .ref 103), (2, .int (nI i_2))]) C dX0_carryOutAll_16 rfl (by decide) rfl ?_
        refine q_aload_n C dX0_carryOutAll_17 rfl rfl ?_
        refine q_getR C flX0_29 q_s103 rfl dX0_carryOutAll_18 ?_
        refine q_iload_n C dX0_carryOutAll_21 rfl rfl ?_
        refine q_ialdN (i := i_2) (x := mv) C rfl q_s106 (by omega) (by decide) dX0_carryOutAll_22 ((congrFun h106 _).trans emv) ?_
        refine q_istore (lv' := [(4, .int mv), (3, .int 119), (0, .ref 109), (1, .ref 103), (2, .int (nI i_2))]) C dX0_carryOutAll_23 (by decide) rfl ?_
        refine q_aload_n C dX0_carryOutAll_25 rfl rfl ?_
        refine q_getR C flX0_32 q_s103 rfl dX0_carryOutAll_26 ?_
        refine q_iload_n C dX0_carryOutAll_29 rfl rfl ?_
        refine q_ialdN (i := i_2) (x := gv) C rfl q_s107 (by omega) (by decide) dX0_carryOutAll_30 ((congrFun h107 _).trans egv) ?_
        refine q_istore (lv' := [(5, .int gv), (4, .int mv), (3, .int 119), (0, .ref 109), (1, .ref 103), (2, .int (nI i_2))]) C dX0_carryOutAll_31 (by decide) rfl ?_
        refine q_aload_n C dX0_carryOutAll_33 rfl rfl ?_
        refine q_getR C flX0_35 q_s103 rfl dX0_carryOutAll_34 ?_
        refine q_iload_n C dX0_carryOutAll_37 rfl rfl ?_
        refine q_ialdN (i := i_2) (x := vv) C rfl q_s108 (by omega) (by decide) dX0_carryOutAll_38 ((congrFun h108 _).trans evv) ?_
        refine q_istore (lv' := [(6, .int vv), (5, .int gv), (4, .int mv), (3, .int 119), (0, .ref 109), (1, .ref 103), (2, .int (nI i_2))]) C dX0_carryOutAll_39 (by decide) rfl ?_
        refine q_aload_n C dX0_carryOutAll_41 rfl rfl ?_
        refine q_iload_n C dX0_carryOutAll_42 rfl rfl ?_
        refine q_iload C dX0_carryOutAll_43 rfl ?_
        refine q_iload C dX0_carryOutAll_45 rfl ?_
        refine q_iload C dX0_carryOutAll_47 rfl ?_
        rcases q_bc (uK_wrong T 119 mv gv vv) with hw | hw
        · refine q_ci4 C (q_Fi.cv (if_neg (by rw [hw]; decide)) (c_X0_isWrong_119 l T mv gv vv)) myX0_isWrong mlX0_38 q_s109 ⟨by decide, by decide⟩ (Nat.le_of_ble_eq_true rfl) dX0_carryOutAll_49 ?_
          refine q_if_eq (tgt := 57) C dX0_carryOutAll_52 (by decide) (fun _ => ?_) (fun h9 => absurd h9 (by decide))
          refine q_aload_n C dX0_carryOutAll_57 rfl rfl ?_
          refine q_iload_n C dX0_carryOutAll_58 rfl rfl ?_
          refine q_iload C dX0_carryOutAll_59 rfl ?_
          refine q_iload C dX0_carryOutAll_61 rfl ?_
          refine q_iload C dX0_carryOutAll_63 rfl ?_
          have er : uK_ref T 119 mv gv vv = uR_wake T := by {simp [uK_ref, uN_nI (show M < 2 ^ 31 by omega), hM]}
          cases ho : uR_wake T with
          | none =>
            rw [ho] at er
            refine q_ci4 C (q_Fi.cs (v' := 0) (by rw [ho]; rfl) (S3 := T) (by rw [ho]; rfl) (c_X0_isRefused_119 l T mv gv vv hz)) myX0_isRefused mlX0_42 q_s109 ⟨by decide, by decide⟩ (Nat.le_of_ble_eq_true rfl) dX0_carryOutAll_65 ?_
            refine q_if_eq (tgt := 73) C dX0_carryOutAll_68 (by decide) (fun _ => ?_) (fun h9 => absurd h9 (by decide))
            refine q_aload_n C dX0_carryOutAll_73 rfl rfl ?_
            refine q_iload_n C dX0_carryOutAll_74 rfl rfl ?_
            refine q_iload C dX0_carryOutAll_75 rfl ?_
            refine q_iload C dX0_carryOutAll_77 rfl ?_
            refine q_iload C dX0_carryOutAll_79 rfl ?_
            have hJ5 : uJ (q_p T 1 5 1) := uJ_cg hJ9 rfl rfl rfl ⟨Or.inr rfl, fun g hg => hz.2 g hg⟩
            have ed : uK_do T 119 mv gv vv = uC_wake T M N := by {simp [uK_do, uN_nI (show M < 2 ^ 31 by omega), hM, uN_nI (show N < 2 ^ 31 by omega), hN]}
            have hJ8 : uJ (uK_do T 119 mv gv vv) := by {rw [ed]; exact uJ_wk hJ5 hM hM8 hN hN8 M (Nat.le_refl _)}
            refine q_ci4 C (q_Fi.cs rfl ed.symm (c_X0_perform_119 l T M hM hM8 N hN hW mv gv vv)) myX0_perform mlX0_45 q_s109 ⟨by decide, by decide⟩ (Nat.le_of_ble_eq_true rfl) dX0_carryOutAll_81 ?_
            refine q_pop C rfl dX0_carryOutAll_84 ?_
            refine q_iinc (v := nI (i_2 + 1)) (lv' := [(2, .int (nI (i_2 + 1))), (6, .int vv), (5, .int gv), (4, .int mv), (3, .int 119), (0, .ref 109), (1, .ref 103)]) C dX0_carryOutAll_85 rfl (nI_add _ _) (by decide) rfl ?_
            refine q_goto (tgt := 2) C dX0_carryOutAll_88 (by decide) ?_
            exact q_V_to (ih_2 (i_2 + 1) _ (by omega) ((uK_do_ne _ _ _ _ _ 103 (by decide)).trans h103) ((uK_do_ne _ _ _ _ _ 105 (by decide)).trans h105) ((uK_do_ne _ _ _ _ _ 106 (by decide)).trans h106) ((uK_do_ne _ _ _ _ _ 107 (by decide)).trans h107) ((uK_do_ne _ _ _ _ _ 108 (by decide)).trans h108) hJ8 (by rw [← hr_2, uK_all, ek, emv, egv, evv, if_neg (by rw [hw]; decide), er])) ⟨rfl, rfl, rfl, trivial⟩ rfl
          | some q =>
            rw [ho] at er
            refine q_ci4 C (q_Fi.cs (v' := 1) (by rw [ho]; rfl) (S3 := uR_set T q.1 q.2) (by rw [ho]; rfl) (c_X0_isRefused_119 l T mv gv vv hz)) myX0_isRefused mlX0_42 q_s109 ⟨by decide, by decide⟩ (Nat.le_of_ble_eq_true rfl) dX0_carryOutAll_65 ?_
            refine q_if_eq (tgt := 73) C dX0_carryOutAll_68 (by decide) (fun h9 => absurd h9 (by decide)) (fun _ => ?_)
            refine q_iconst (v := 1) C dX0_carryOutAll_71 (by decide) ?_
            exact hret _ _ _ _ dX0_carryOutAll_72 (by rw [← hr_2, uK_all, ek, emv, egv, evv, if_neg (by rw [hw]; decide), er]) (by rw [← hr_2, uK_all, ek, emv, egv, evv, if_neg (by rw [hw]; decide), er])
        · refine q_ci4 C (q_Fi.cv (if_pos hw) (c_X0_isWrong_119 l T mv gv vv)) myX0_isWrong mlX0_38 q_s109 ⟨by decide, by decide⟩ (Nat.le_of_ble_eq_true rfl) dX0_carryOutAll_49 ?_
          refine q_if_eq (tgt := 57) C dX0_carryOutAll_52 (by decide) (fun h9 => absurd h9 (by decide)) (fun _ => ?_)
          refine q_iconst (v := 2) C dX0_carryOutAll_55 (by decide) ?_
          exact hret _ _ _ _ dX0_carryOutAll_56 (by rw [← hr_2, uK_all, ek, emv, egv, evv, if_pos hw]) (by rw [← hr_2, uK_all, ek, emv, egv, evv, if_pos hw])
      · refine q_ialdN (i := i_2) (x := 115) C rfl q_s105 (by omega) (by decide) dX0_carryOutAll_15 ((congrFun h105 _).trans ek) ?_
        refine q_istore_n (lv' := [(3, .int 115), (0, .ref 109), (1, .ref 103), (2, .int (nI i_2))]) C dX0_carryOutAll_16 rfl (by decide) rfl ?_
        refine q_aload_n C dX0_carryOutAll_17 rfl rfl ?_
        refine q_getR C flX0_29 q_s103 rfl dX0_carryOutAll_18 ?_
        refine q_iload_n C dX0_carryOutAll_21 rfl rfl ?_
        refine q_ialdN (i := i_2) (x := mv) C rfl q_s106 (by omega) (by decide) dX0_carryOutAll_22 ((congrFun h106 _).trans emv) ?_
        refine q_istore (lv' := [(4, .int mv), (3, .int 115), (0, .ref 109), (1, .ref 103), (2, .int (nI i_2))]) C dX0_carryOutAll_23 (by decide) rfl ?_
        refine q_aload_n C dX0_carryOutAll_25 rfl rfl ?_
        refine q_getR C flX0_32 q_s103 rfl dX0_carryOutAll_26 ?_
        refine q_iload_n C dX0_carryOutAll_29 rfl rfl ?_
        refine q_ialdN (i := i_2) (x := gv) C rfl q_s107 (by omega) (by decide) dX0_carryOutAll_30 ((congrFun h107 _).trans egv) ?_
        refine q_istore (lv' := [(5, .int gv), (4, .int mv), (3, .int 115), (0, .ref 109), (1, .ref 103), (2, .int (nI i_2))]) C dX0_carryOutAll_31 (by decide) rfl ?_
        refine q_aload_n C dX0_carryOutAll_33 rfl rfl ?_
        refine q_getR C flX0_35 q_s103 rfl dX0_carryOutAll_34 ?_
        refine q_iload_n C dX0_carryOutAll_37 rfl rfl ?_
        refine q_ialdN (i := i_2) (x := vv) C rfl q_s108 (by omega) (by decide) dX0_carryOutAll_38 ((congrFun h108 _).trans evv) ?_
        refine q_istore (lv' := [(6, .int vv), (5, .int gv), (4, .int mv), (3, .int 115), (0, .ref 109), (1, .ref 103), (2, .int (nI i_2))]) C dX0_carryOutAll_39 (by decide) rfl ?_
        refine q_aload_n C dX0_carryOutAll_41 rfl rfl ?_
        refine q_iload_n C dX0_carryOutAll_42 rfl rfl ?_
        refine q_iload C dX0_carryOutAll_43 rfl ?_
        refine q_iload C dX0_carryOutAll_45 rfl ?_
        refine q_iload C dX0_carryOutAll_47 rfl ?_
        rcases q_bc (uK_wrong T 115 mv gv vv) with hw | hw
        · refine q_ci4 C (q_Fi.cv (if_neg (by rw [hw]; decide)) (c_X0_isWrong_115 l T mv gv vv)) myX0_isWrong mlX0_38 q_s109 ⟨by decide, by decide⟩ (Nat.le_of_ble_eq_true rfl) dX0_carryOutAll_49 ?_
          have hw2 := hw
          simp [uK_wrong, Int32.not_le, Int32.not_lt] at hw2
          obtain ⟨g, hg6, rfl⟩ := uK_okG ⟨hw2.1, hw2.2⟩
          refine q_if_eq (tgt := 57) C dX0_carryOutAll_52 (by decide) (fun _ => ?_) (fun h9 => absurd h9 (by decide))
          refine q_aload_n C dX0_carryOutAll_57 rfl rfl ?_
          refine q_iload_n C dX0_carryOutAll_58 rfl rfl ?_
          refine q_iload C dX0_carryOutAll_59 rfl ?_
          refine q_iload C dX0_carryOutAll_61 rfl ?_
          refine q_iload C dX0_carryOutAll_63 rfl ?_
          have er : uK_ref T 115 mv (nI g) vv = uR_sleep T g := by {simp [uK_ref, uN_nI (show M < 2 ^ 31 by omega), hM, uN_nI (show g < 2 ^ 31 by omega)]}
          cases ho : uR_sleep T g with
          | none =>
            rw [ho] at er
            refine q_ci4 C (q_Fi.cs (v' := 0) (by rw [ho]; rfl) (S3 := T) (by rw [ho]; rfl) (c_X0_isRefused_115 l T mv g (by omega) vv)) myX0_isRefused mlX0_42 q_s109 ⟨by decide, by decide⟩ (Nat.le_of_ble_eq_true rfl) dX0_carryOutAll_65 ?_
            refine q_if_eq (tgt := 73) C dX0_carryOutAll_68 (by decide) (fun _ => ?_) (fun h9 => absurd h9 (by decide))
            refine q_aload_n C dX0_carryOutAll_73 rfl rfl ?_
            refine q_iload_n C dX0_carryOutAll_74 rfl rfl ?_
            refine q_iload C dX0_carryOutAll_75 rfl ?_
            refine q_iload C dX0_carryOutAll_77 rfl ?_
            refine q_iload C dX0_carryOutAll_79 rfl ?_
            have ed : uK_do T 115 mv (nI g) vv = q_p T 9 g 0 := by {simp [uK_do, uN_nI (show M < 2 ^ 31 by omega), hM, uN_nI (show g < 2 ^ 31 by omega), uN_nI (show N < 2 ^ 31 by omega), hN]}
            have hJ8 : uJ (uK_do T 115 mv (nI g) vv) := by {rw [ed]; exact uJ_sleep hJ9 _ _ (Or.inl rfl)}
            refine q_ci4 C (q_Fi.cs rfl ed.symm (c_X0_perform_115 l T mv g (by omega) vv)) myX0_perform mlX0_45 q_s109 ⟨by decide, by decide⟩ (Nat.le_of_ble_eq_true rfl) dX0_carryOutAll_81 ?_
            refine q_pop C rfl dX0_carryOutAll_84 ?_
            refine q_iinc (v := nI (i_2 + 1)) (lv' := [(2, .int (nI (i_2 + 1))), (6, .int vv), (5, .int (nI g)), (4, .int mv), (3, .int 115), (0, .ref 109), (1, .ref 103)]) C dX0_carryOutAll_85 rfl (nI_add _ _) (by decide) rfl ?_
            refine q_goto (tgt := 2) C dX0_carryOutAll_88 (by decide) ?_
            exact q_V_to (ih_2 (i_2 + 1) _ (by omega) ((uK_do_ne _ _ _ _ _ 103 (by decide)).trans h103) ((uK_do_ne _ _ _ _ _ 105 (by decide)).trans h105) ((uK_do_ne _ _ _ _ _ 106 (by decide)).trans h106) ((uK_do_ne _ _ _ _ _ 107 (by decide)).trans h107) ((uK_do_ne _ _ _ _ _ 108 (by decide)).trans h108) hJ8 (by rw [← hr_2, uK_all, ek, emv, egv, evv, if_neg (by rw [hw]; decide), er])) ⟨rfl, rfl, rfl, trivial⟩ rfl
          | some q =>
            rw [ho] at er
            refine q_ci4 C (q_Fi.cs (v' := 1) (by rw [ho]; rfl) (S3 := uR_set T q.1 q.2) (by rw [ho]; rfl) (c_X0_isRefused_115 l T mv g (by omega) vv)) myX0_isRefused mlX0_42 q_s109 ⟨by decide, by decide⟩ (Nat.le_of_ble_eq_true rfl) dX0_carryOutAll_65 ?_
            refine q_if_eq (tgt := 73) C dX0_carryOutAll_68 (by decide) (fun h9 => absurd h9 (by decide)) (fun _ => ?_)
            refine q_iconst (v := 1) C dX0_carryOutAll_71 (by decide) ?_
            exact hret _ _ _ _ dX0_carryOutAll_72 (by rw [← hr_2, uK_all, ek, emv, egv, evv, if_neg (by rw [hw]; decide), er]) (by rw [← hr_2, uK_all, ek, emv, egv, evv, if_neg (by rw [hw]; decide), er])
        · refine q_ci4 C (q_Fi.cv (if_pos hw) (c_X0_isWrong_115 l T mv gv vv)) myX0_isWrong mlX0_38 q_s109 ⟨by decide, by decide⟩ (Nat.le_of_ble_eq_true rfl) dX0_carryOutAll_49 ?_
          refine q_if_eq (tgt := 57) C dX0_carryOutAll_52 (by decide) (fun h9 => absurd h9 (by decide)) (fun _ => ?_)
          refine q_iconst (v := 2) C dX0_carryOutAll_55 (by decide) ?_
          exact hret _ _ _ _ dX0_carryOutAll_56 (by rw [← hr_2, uK_all, ek, emv, egv, evv, if_pos hw]) (by rw [← hr_2, uK_all, ek, emv, egv, evv, if_pos hw])
      · refine q_ialdN (i := i_2) (x := 114) C rfl q_s105 (by omega) (by decide) dX0_carryOutAll_15 ((congrFun h105 _).trans ek) ?_
        refine q_istore_n (lv' := [(3, .int 114), (0, .ref 109), (1, .ref 103), (2, .int (nI i_2))]) C dX0_carryOutAll_16 rfl (by decide) rfl ?_
        refine q_aload_n C dX0_carryOutAll_17 rfl rfl ?_
        refine q_getR C flX0_29 q_s103 rfl dX0_carryOutAll_18 ?_
        refine q_iload_n C dX0_carryOutAll_21 rfl rfl ?_
        refine q_ialdN (i := i_2) (x := mv) C rfl q_s106 (by omega) (by decide) dX0_carryOutAll_22 ((congrFun h106 _).trans emv) ?_
        refine q_istore (lv' := [(4, .int mv), (3, .int 114), (0, .ref 109), (1, .ref 103), (2, .int (nI i_2))]) C dX0_carryOutAll_23 (by decide) rfl ?_
        refine q_aload_n C dX0_carryOutAll_25 rfl rfl ?_
        refine q_getR C flX0_32 q_s103 rfl dX0_carryOutAll_26 ?_
        refine q_iload_n C dX0_carryOutAll_29 rfl rfl ?_
        refine q_ialdN (i := i_2) (x := gv) C rfl q_s107 (by omega) (by decide) dX0_carryOutAll_30 ((congrFun h107 _).trans egv) ?_
        refine q_istore (lv' := [(5, .int gv), (4, .int mv), (3, .int 114), (0, .ref 109), (1, .ref 103), (2, .int (nI i_2))]) C dX0_carryOutAll_31 (by decide) rfl ?_
        refine q_aload_n C dX0_carryOutAll_33 rfl rfl ?_
        refine q_getR C flX0_35 q_s103 rfl dX0_carryOutAll_34 ?_
        refine q_iload_n C dX0_carryOutAll_37 rfl rfl ?_
        refine q_ialdN (i := i_2) (x := vv) C rfl q_s108 (by omega) (by decide) dX0_carryOutAll_38 ((congrFun h108 _).trans evv) ?_
        refine q_istore (lv' := [(6, .int vv), (5, .int gv), (4, .int mv), (3, .int 114), (0, .ref 109), (1, .ref 103), (2, .int (nI i_2))]) C dX0_carryOutAll_39 (by decide) rfl ?_
        refine q_aload_n C dX0_carryOutAll_41 rfl rfl ?_
        refine q_iload_n C dX0_carryOutAll_42 rfl rfl ?_
        refine q_iload C dX0_carryOutAll_43 rfl ?_
        refine q_iload C dX0_carryOutAll_45 rfl ?_
        refine q_iload C dX0_carryOutAll_47 rfl ?_
        rcases q_bc (uK_wrong T 114 mv gv vv) with hw | hw
        · refine q_ci4 C (q_Fi.cv (if_neg (by rw [hw]; decide)) (c_X0_isWrong_114 l T mv gv vv)) myX0_isWrong mlX0_38 q_s109 ⟨by decide, by decide⟩ (Nat.le_of_ble_eq_true rfl) dX0_carryOutAll_49 ?_
          have hw2 := hw
          simp [uK_wrong, Int32.not_le, Int32.not_lt] at hw2
          obtain ⟨g, hg6, rfl⟩ := uK_okG ⟨hw2.1, hw2.2⟩
          refine q_if_eq (tgt := 57) C dX0_carryOutAll_52 (by decide) (fun _ => ?_) (fun h9 => absurd h9 (by decide))
          refine q_aload_n C dX0_carryOutAll_57 rfl rfl ?_
          refine q_iload_n C dX0_carryOutAll_58 rfl rfl ?_
          refine q_iload C dX0_carryOutAll_59 rfl ?_
          refine q_iload C dX0_carryOutAll_61 rfl ?_
          refine q_iload C dX0_carryOutAll_63 rfl ?_
          have er : uK_ref T 114 mv (nI g) vv = uR_rouse T g := by {simp [uK_ref, uN_nI (show M < 2 ^ 31 by omega), hM, uN_nI (show g < 2 ^ 31 by omega)]}
          cases ho : uR_rouse T g with
          | none =>
            rw [ho] at er
            refine q_ci4 C (q_Fi.cs (v' := 0) (by rw [ho]; rfl) (S3 := T) (by rw [ho]; rfl) (c_X0_isRefused_114 l T mv g (by omega) vv hz)) myX0_isRefused mlX0_42 q_s109 ⟨by decide, by decide⟩ (Nat.le_of_ble_eq_true rfl) dX0_carryOutAll_65 ?_
            refine q_if_eq (tgt := 73) C dX0_carryOutAll_68 (by decide) (fun _ => ?_) (fun h9 => absurd h9 (by decide))
            refine q_aload_n C dX0_carryOutAll_73 rfl rfl ?_
            refine q_iload_n C dX0_carryOutAll_74 rfl rfl ?_
            refine q_iload C dX0_carryOutAll_75 rfl ?_
            refine q_iload C dX0_carryOutAll_77 rfl ?_
            refine q_iload C dX0_carryOutAll_79 rfl ?_
            have ed : uK_do T 114 mv (nI g) vv = q_p T 9 g 1 := by {simp [uK_do, uN_nI (show M < 2 ^ 31 by omega), hM, uN_nI (show g < 2 ^ 31 by omega), uN_nI (show N < 2 ^ 31 by omega), hN]}
            have hJ8 : uJ (uK_do T 114 mv (nI g) vv) := by {rw [ed]; exact uJ_sleep hJ9 _ _ (Or.inr rfl)}
            refine q_ci4 C (q_Fi.cs rfl ed.symm (c_X0_perform_114 l T mv g (by omega) vv)) myX0_perform mlX0_45 q_s109 ⟨by decide, by decide⟩ (Nat.le_of_ble_eq_true rfl) dX0_carryOutAll_81 ?_
            refine q_pop C rfl dX0_carryOutAll_84 ?_
            refine q_iinc (v := nI (i_2 + 1)) (lv' := [(2, .int (nI (i_2 + 1))), (6, .int vv), (5, .int (nI g)), (4, .int mv), (3, .int 114), (0, .ref 109), (1, .ref 103)]) C dX0_carryOutAll_85 rfl (nI_add _ _) (by decide) rfl ?_
            refine q_goto (tgt := 2) C dX0_carryOutAll_88 (by decide) ?_
            exact q_V_to (ih_2 (i_2 + 1) _ (by omega) ((uK_do_ne _ _ _ _ _ 103 (by decide)).trans h103) ((uK_do_ne _ _ _ _ _ 105 (by decide)).trans h105) ((uK_do_ne _ _ _ _ _ 106 (by decide)).trans h106) ((uK_do_ne _ _ _ _ _ 107 (by decide)).trans h107) ((uK_do_ne _ _ _ _ _ 108 (by decide)).trans h108) hJ8 (by rw [← hr_2, uK_all, ek, emv, egv, evv, if_neg (by rw [hw]; decide), er])) ⟨rfl, rfl, rfl, trivial⟩ rfl
          | some q =>
            rw [ho] at er
            refine q_ci4 C (q_Fi.cs (v' := 1) (by rw [ho]; rfl) (S3 := uR_set T q.1 q.2) (by rw [ho]; rfl) (c_X0_isRefused_114 l T mv g (by omega) vv hz)) myX0_isRefused mlX0_42 q_s109 ⟨by decide, by decide⟩ (Nat.le_of_ble_eq_true rfl) dX0_carryOutAll_65 ?_
            refine q_if_eq (tgt := 73) C dX0_carryOutAll_68 (by decide) (fun h9 => absurd h9 (by decide)) (fun _ => ?_)
            refine q_iconst (v := 1) C dX0_carryOutAll_71 (by decide) ?_
            exact hret _ _ _ _ dX0_carryOutAll_72 (by rw [← hr_2, uK_all, ek, emv, egv, evv, if_neg (by rw [hw]; decide), er]) (by rw [← hr_2, uK_all, ek, emv, egv, evv, if_neg (by rw [hw]; decide), er])
        · refine q_ci4 C (q_Fi.cv (if_pos hw) (c_X0_isWrong_114 l T mv gv vv)) myX0_isWrong mlX0_38 q_s109 ⟨by decide, by decide⟩ (Nat.le_of_ble_eq_true rfl) dX0_carryOutAll_49 ?_
          refine q_if_eq (tgt := 57) C dX0_carryOutAll_52 (by decide) (fun h9 => absurd h9 (by decide)) (fun _ => ?_)
          refine q_iconst (v := 2) C dX0_carryOutAll_55 (by decide) ?_
          exact hret _ _ _ _ dX0_carryOutAll_56 (by rw [← hr_2, uK_all, ek, emv, egv, evv, if_pos hw]) (by rw [← hr_2, uK_all, ek, emv, egv, evv, if_pos hw])
      · refine q_ialdN (i := i_2) (x := 105) C rfl q_s105 (by omega) (by decide) dX0_carryOutAll_15 ((congrFun h105 _).trans ek) ?_
        refine q_istore_n (lv' := [(3, .int 105), (0, .ref 109), (1, .ref 103), (2, .int (nI i_2))]) C dX0_carryOutAll_16 rfl (by decide) rfl ?_
        refine q_aload_n C dX0_carryOutAll_17 rfl rfl ?_
        refine q_getR C flX0_29 q_s103 rfl dX0_carryOutAll_18 ?_
        refine q_iload_n C dX0_carryOutAll_21 rfl rfl ?_
        refine q_ialdN (i := i_2) (x := mv) C rfl q_s106 (by omega) (by decide) dX0_carryOutAll_22 ((congrFun h106 _).trans emv) ?_
        refine q_istore (lv' := [(4, .int mv), (3, .int 105), (0, .ref 109), (1, .ref 103), (2, .int (nI i_2))]) C dX0_carryOutAll_23 (by decide) rfl ?_
        refine q_aload_n C dX0_carryOutAll_25 rfl rfl ?_
        refine q_getR C flX0_32 q_s103 rfl dX0_carryOutAll_26 ?_
        refine q_iload_n C dX0_carryOutAll_29 rfl rfl ?_
        refine q_ialdN (i := i_2) (x := gv) C rfl q_s107 (by omega) (by decide) dX0_carryOutAll_30 ((congrFun h107 _).trans egv) ?_
        refine q_istore (lv' := [(5, .int gv), (4, .int mv), (3, .int 105), (0, .ref 109), (1, .ref 103), (2, .int (nI i_2))]) C dX0_carryOutAll_31 (by decide) rfl ?_
        refine q_aload_n C dX0_carryOutAll_33 rfl rfl ?_
        refine q_getR C flX0_35 q_s103 rfl dX0_carryOutAll_34 ?_
        refine q_iload_n C dX0_carryOutAll_37 rfl rfl ?_
        refine q_ialdN (i := i_2) (x := vv) C rfl q_s108 (by omega) (by decide) dX0_carryOutAll_38 ((congrFun h108 _).trans evv) ?_
        refine q_istore (lv' := [(6, .int vv), (5, .int gv), (4, .int mv), (3, .int 105), (0, .ref 109), (1, .ref 103), (2, .int (nI i_2))]) C dX0_carryOutAll_39 (by decide) rfl ?_
        refine q_aload_n C dX0_carryOutAll_41 rfl rfl ?_
        refine q_iload_n C dX0_carryOutAll_42 rfl rfl ?_
        refine q_iload C dX0_carryOutAll_43 rfl ?_
        refine q_iload C dX0_carryOutAll_45 rfl ?_
        refine q_iload C dX0_carryOutAll_47 rfl ?_
        rcases q_bc (uK_wrong T 105 mv gv vv) with hw | hw
        · refine q_ci4 C (q_Fi.cv (if_neg (by rw [hw]; decide)) (c_X0_isWrong_105 l T mv gv vv)) myX0_isWrong mlX0_38 q_s109 ⟨by decide, by decide⟩ (Nat.le_of_ble_eq_true rfl) dX0_carryOutAll_49 ?_
          have hw2 := hw
          simp [uK_wrong, uK_lacks, Int32.not_le, Int32.not_lt] at hw2
          obtain ⟨m, hmM, rfl⟩ := uK_okM hM hM8 ⟨hw2.1.1.1, hw2.1.1.2⟩
          obtain ⟨g, hg6, rfl⟩ := uK_okG ⟨hw2.1.2.1, hw2.1.2.2⟩
          obtain ⟨o, ho6, rfl⟩ := uK_okG ⟨hw2.2.1, hw2.2.2⟩
          refine q_if_eq (tgt := 57) C dX0_carryOutAll_52 (by decide) (fun _ => ?_) (fun h9 => absurd h9 (by decide))
          refine q_aload_n C dX0_carryOutAll_57 rfl rfl ?_
          refine q_iload_n C dX0_carryOutAll_58 rfl rfl ?_
          refine q_iload C dX0_carryOutAll_59 rfl ?_
          refine q_iload C dX0_carryOutAll_61 rfl ?_
          refine q_iload C dX0_carryOutAll_63 rfl ?_
          have er : uK_ref T 105 (nI m) (nI g) (nI o) = uR_inq T m g o := by {simp [uK_ref, uN_nI (show M < 2 ^ 31 by omega), hM, uN_nI (show m < 2 ^ 31 by omega), uN_nI (show g < 2 ^ 31 by omega), uN_nI (show o < 2 ^ 31 by omega)]}
          cases ho : uR_inq T m g o with
          | none =>
            rw [ho] at er
            refine q_ci4 C (q_Fi.cs (v' := 0) (by rw [ho]; rfl) (S3 := T) (by rw [ho]; rfl) (c_X0_isRefused_105 l T m (by omega) g (by omega) o (by omega))) myX0_isRefused mlX0_42 q_s109 ⟨by decide, by decide⟩ (Nat.le_of_ble_eq_true rfl) dX0_carryOutAll_65 ?_
            refine q_if_eq (tgt := 73) C dX0_carryOutAll_68 (by decide) (fun _ => ?_) (fun h9 => absurd h9 (by decide))
            refine q_aload_n C dX0_carryOutAll_73 rfl rfl ?_
            refine q_iload_n C dX0_carryOutAll_74 rfl rfl ?_
            refine q_iload C dX0_carryOutAll_75 rfl ?_
            refine q_iload C dX0_carryOutAll_77 rfl ?_
            refine q_iload C dX0_carryOutAll_79 rfl ?_
            have ed : uK_do T 105 (nI m) (nI g) (nI o) = uC_inq T m g o := by {simp [uK_do, uN_nI (show M < 2 ^ 31 by omega), hM, uN_nI (show m < 2 ^ 31 by omega), uN_nI (show g < 2 ^ 31 by omega), uN_nI (show o < 2 ^ 31 by omega), uN_nI (show N < 2 ^ 31 by omega), hN]}
            have hJ8 : uJ (uK_do T 105 (nI m) (nI g) (nI o)) := by {rw [ed]; exact uJ_inq hJ9 _ _ _}
            refine q_ci4 C (q_Fi.cs rfl ed.symm (c_X0_perform_105 l T m (by omega) g (by omega) o (by omega))) myX0_perform mlX0_45 q_s109 ⟨by decide, by decide⟩ (Nat.le_of_ble_eq_true rfl) dX0_carryOutAll_81 ?_
            refine q_pop C rfl dX0_carryOutAll_84 ?_
            refine q_iinc (v := nI (i_2 + 1)) (lv' := [(2, .int (nI (i_2 + 1))), (6, .int (nI o)), (5, .int (nI g)), (4, .int (nI m)), (3, .int 105), (0, .ref 109), (1, .ref 103)]) C dX0_carryOutAll_85 rfl (nI_add _ _) (by decide) rfl ?_
            refine q_goto (tgt := 2) C dX0_carryOutAll_88 (by decide) ?_
            exact q_V_to (ih_2 (i_2 + 1) _ (by omega) ((uK_do_ne _ _ _ _ _ 103 (by decide)).trans h103) ((uK_do_ne _ _ _ _ _ 105 (by decide)).trans h105) ((uK_do_ne _ _ _ _ _ 106 (by decide)).trans h106) ((uK_do_ne _ _ _ _ _ 107 (by decide)).trans h107) ((uK_do_ne _ _ _ _ _ 108 (by decide)).trans h108) hJ8 (by rw [← hr_2, uK_all, ek, emv, egv, evv, if_neg (by rw [hw]; decide), er])) ⟨rfl, rfl, rfl, trivial⟩ rfl
          | some q =>
            rw [ho] at er
            refine q_ci4 C (q_Fi.cs (v' := 1) (by rw [ho]; rfl) (S3 := uR_set T q.1 q.2) (by rw [ho]; rfl) (c_X0_isRefused_105 l T m (by omega) g (by omega) o (by omega))) myX0_isRefused mlX0_42 q_s109 ⟨by decide, by decide⟩ (Nat.le_of_ble_eq_true rfl) dX0_carryOutAll_65 ?_
            refine q_if_eq (tgt := 73) C dX0_carryOutAll_68 (by decide) (fun h9 => absurd h9 (by decide)) (fun _ => ?_)
            refine q_iconst (v := 1) C dX0_carryOutAll_71 (by decide) ?_
            exact hret _ _ _ _ dX0_carryOutAll_72 (by rw [← hr_2, uK_all, ek, emv, egv, evv, if_neg (by rw [hw]; decide), er]) (by rw [← hr_2, uK_all, ek, emv, egv, evv, if_neg (by rw [hw]; decide), er])
        · refine q_ci4 C (q_Fi.cv (if_pos hw) (c_X0_isWrong_105 l T mv gv vv)) myX0_isWrong mlX0_38 q_s109 ⟨by decide, by decide⟩ (Nat.le_of_ble_eq_true rfl) dX0_carryOutAll_49 ?_
          refine q_if_eq (tgt := 57) C dX0_carryOutAll_52 (by decide) (fun h9 => absurd h9 (by decide)) (fun _ => ?_)
          refine q_iconst (v := 2) C dX0_carryOutAll_55 (by decide) ?_
          exact hret _ _ _ _ dX0_carryOutAll_56 (by rw [← hr_2, uK_all, ek, emv, egv, evv, if_pos hw]) (by rw [← hr_2, uK_all, ek, emv, egv, evv, if_pos hw])
      · refine q_ialdN (i := i_2) (x := 104) C rfl q_s105 (by omega) (by decide) dX0_carryOutAll_15 ((congrFun h105 _).trans ek) ?_
        refine q_istore_n (lv' := [(3, .int 104), (0, .ref 109), (1, .ref 103), (2, .int (nI i_2))]) C dX0_carryOutAll_16 rfl (by decide) rfl ?_
        refine q_aload_n C dX0_carryOutAll_17 rfl rfl ?_
        refine q_getR C flX0_29 q_s103 rfl dX0_carryOutAll_18 ?_
        refine q_iload_n C dX0_carryOutAll_21 rfl rfl ?_
        refine q_ialdN (i := i_2) (x := mv) C rfl q_s106 (by omega) (by decide) dX0_carryOutAll_22 ((congrFun h106 _).trans emv) ?_
        refine q_istore (lv' := [(4, .int mv), (3, .int 104), (0, .ref 109), (1, .ref 103), (2, .int (nI i_2))]) C dX0_carryOutAll_23 (by decide) rfl ?_
        refine q_aload_n C dX0_carryOutAll_25 rfl rfl ?_
        refine q_getR C flX0_32 q_s103 rfl dX0_carryOutAll_26 ?_
        refine q_iload_n C dX0_carryOutAll_29 rfl rfl ?_
        refine q_ialdN (i := i_2) (x := gv) C rfl q_s107 (by omega) (by decide) dX0_carryOutAll_30 ((congrFun h107 _).trans egv) ?_
        refine q_istore (lv' := [(5, .int gv), (4, .int mv), (3, .int 104), (0, .ref 109), (1, .ref 103), (2, .int (nI i_2))]) C dX0_carryOutAll_31 (by decide) rfl ?_
        refine q_aload_n C dX0_carryOutAll_33 rfl rfl ?_
        refine q_getR C flX0_35 q_s103 rfl dX0_carryOutAll_34 ?_
        refine q_iload_n C dX0_carryOutAll_37 rfl rfl ?_
        refine q_ialdN (i := i_2) (x := vv) C rfl q_s108 (by omega) (by decide) dX0_carryOutAll_38 ((congrFun h108 _).trans evv) ?_
        refine q_istore (lv' := [(6, .int vv), (5, .int gv), (4, .int mv), (3, .int 104), (0, .ref 109), (1, .ref 103), (2, .int (nI i_2))]) C dX0_carryOutAll_39 (by decide) rfl ?_
        refine q_aload_n C dX0_carryOutAll_41 rfl rfl ?_
        refine q_iload_n C dX0_carryOutAll_42 rfl rfl ?_
        refine q_iload C dX0_carryOutAll_43 rfl ?_
        refine q_iload C dX0_carryOutAll_45 rfl ?_
        refine q_iload C dX0_carryOutAll_47 rfl ?_
        rcases q_bc (uK_wrong T 104 mv gv vv) with hw | hw
        · refine q_ci4 C (q_Fi.cv (if_neg (by rw [hw]; decide)) (c_X0_isWrong_104 l T mv gv vv)) myX0_isWrong mlX0_38 q_s109 ⟨by decide, by decide⟩ (Nat.le_of_ble_eq_true rfl) dX0_carryOutAll_49 ?_
          refine q_if_eq (tgt := 57) C dX0_carryOutAll_52 (by decide) (fun _ => ?_) (fun h9 => absurd h9 (by decide))
          refine q_aload_n C dX0_carryOutAll_57 rfl rfl ?_
          refine q_iload_n C dX0_carryOutAll_58 rfl rfl ?_
          refine q_iload C dX0_carryOutAll_59 rfl ?_
          refine q_iload C dX0_carryOutAll_61 rfl ?_
          refine q_iload C dX0_carryOutAll_63 rfl ?_
          have er : uK_ref T 104 mv gv vv = none := by {simp [uK_ref]}
          refine q_ci4 C (c_X0_isRefused_104 l T mv gv vv) myX0_isRefused mlX0_42 q_s109 ⟨by decide, by decide⟩ (Nat.le_of_ble_eq_true rfl) dX0_carryOutAll_65 ?_
          refine q_if_eq (tgt := 73) C dX0_carryOutAll_68 (by decide) (fun _ => ?_) (fun h9 => absurd h9 (by decide))
          refine q_aload_n C dX0_carryOutAll_73 rfl rfl ?_
          refine q_iload_n C dX0_carryOutAll_74 rfl rfl ?_
          refine q_iload C dX0_carryOutAll_75 rfl ?_
          refine q_iload C dX0_carryOutAll_77 rfl ?_
          refine q_iload C dX0_carryOutAll_79 rfl ?_
          have ed : uK_do T 104 mv gv vv = uC_pass T M vv := by {simp [uK_do, uN_nI (show M < 2 ^ 31 by omega), hM, uN_nI (show N < 2 ^ 31 by omega), hN]}
          have hJ8 : uJ (uK_do T 104 mv gv vv) := by {rw [ed]; exact uJ_pass hJ9 _ _}
          refine q_ci4 C (q_Fi.cs rfl ed.symm (c_X0_perform_104 l T M hM hM8 mv gv vv)) myX0_perform mlX0_45 q_s109 ⟨by decide, by decide⟩ (Nat.le_of_ble_eq_true rfl) dX0_carryOutAll_81 ?_
          refine q_pop C rfl dX0_carryOutAll_84 ?_
          refine q_iinc (v := nI (i_2 + 1)) (lv' := [(2, .int (nI (i_2 + 1))), (6, .int vv), (5, .int gv), (4, .int mv), (3, .int 104), (0, .ref 109), (1, .ref 103)]) C dX0_carryOutAll_85 rfl (nI_add _ _) (by decide) rfl ?_
          refine q_goto (tgt := 2) C dX0_carryOutAll_88 (by decide) ?_
          exact q_V_to (ih_2 (i_2 + 1) _ (by omega) ((uK_do_ne _ _ _ _ _ 103 (by decide)).trans h103) ((uK_do_ne _ _ _ _ _ 105 (by decide)).trans h105) ((uK_do_ne _ _ _ _ _ 106 (by decide)).trans h106) ((uK_do_ne _ _ _ _ _ 107 (by decide)).trans h107) ((uK_do_ne _ _ _ _ _ 108 (by decide)).trans h108) hJ8 (by rw [← hr_2, uK_all, ek, emv, egv, evv, if_neg (by rw [hw]; decide), er])) ⟨rfl, rfl, rfl, trivial⟩ rfl
        · refine q_ci4 C (q_Fi.cv (if_pos hw) (c_X0_isWrong_104 l T mv gv vv)) myX0_isWrong mlX0_38 q_s109 ⟨by decide, by decide⟩ (Nat.le_of_ble_eq_true rfl) dX0_carryOutAll_49 ?_
          refine q_if_eq (tgt := 57) C dX0_carryOutAll_52 (by decide) (fun h9 => absurd h9 (by decide)) (fun _ => ?_)
          refine q_iconst (v := 2) C dX0_carryOutAll_55 (by decide) ?_
          exact hret _ _ _ _ dX0_carryOutAll_56 (by rw [← hr_2, uK_all, ek, emv, egv, evv, if_pos hw]) (by rw [← hr_2, uK_all, ek, emv, egv, evv, if_pos hw])
  exact q_V_to (loop_2 (cnt - 0) 0 S (by omega) rfl rfl rfl rfl rfl hJ rfl) ⟨rfl, rfl, rfl, trivial⟩ rfl
