theorem c_X4_isDigit (l : Launch) (S : q_St) (c : Int32) : q_Fi l yX4_isDigit kX4_isDigit 1 [.ref 103, .int c] S (if uP_isD c then 1 else 0) S := by
  refine q_Fi_of (maxL := 2) rfl (by decide +kernel) (fun ad => Nat.le_of_ble_eq_true rfl) (by split <;> rfl) ?_
  intro K C hret
  have C : q_Cx K cX4_isDigit RX4 1 2 := C
  show q_V l K 0 [(0, .ref 103), (1, .int c)] [] S
  refine q_iload_n C dX4_isDigit_0 rfl rfl ?_
  refine q_bipush (v := 48) C dX4_isDigit_1 (by decide) ?_
  refine q_icmp_lt (tgt := 16) C dX4_isDigit_3 (by decide)  (fun c_3 => ?_) (fun c_3 => ?_)
  · refine q_iconst (v := 0) C dX4_isDigit_16 (by decide) ?_
    exact hret _ _ _ _ dX4_isDigit_17 (by simp [c_3, Int32.not_le.mpr c_3, if_pos c_3]) rfl
  · refine q_iload_n C dX4_isDigit_6 rfl rfl ?_
    refine q_bipush (v := 57) C dX4_isDigit_7 (by decide) ?_
    refine q_icmp_gt (tgt := 16) C dX4_isDigit_9 (by decide)  (fun c_9 => ?_) (fun c_9 => ?_)
    · refine q_iconst (v := 0) C dX4_isDigit_16 (by decide) ?_
      exact hret _ _ _ _ dX4_isDigit_17 (by simp [c_3, Int32.not_lt.mpr c_3, if_neg (Int32.not_lt.mpr c_3), c_9, Int32.not_le.mpr c_9, if_pos c_9]) rfl
    · refine q_iconst (v := 1) C dX4_isDigit_12 (by decide) ?_
      refine q_goto (tgt := 17) C dX4_isDigit_13 (by decide) ?_
      exact hret _ _ _ _ dX4_isDigit_17 (by simp [c_3, Int32.not_lt.mpr c_3, if_neg (Int32.not_lt.mpr c_3), c_9, Int32.not_lt.mpr c_9, if_neg (Int32.not_lt.mpr c_9)]) rfl
theorem c_X4_hasMatter (l : Launch) (S : q_St) (k : Int32) : q_Fi l yX4_hasMatter kX4_hasMatter 1 [.ref 103, .int k] S (if uO_hasM k then 1 else 0) S := by
  refine q_Fi_of (maxL := 2) rfl (by decide +kernel) (fun ad => Nat.le_of_ble_eq_true rfl) (by split <;> rfl) ?_
  intro K C hret
  have C : q_Cx K cX4_hasMatter RX4 1 2 := C
  show q_V l K 0 [(0, .ref 103), (1, .int k)] [] S
  refine q_iload_n C dX4_hasMatter_0 rfl rfl ?_
  refine q_bipush (v := 97) C dX4_hasMatter_1 (by decide) ?_
  refine q_icmp_eq (tgt := 30) C dX4_hasMatter_3 (by decide)  (fun c_3 => ?_) (fun c_3 => ?_)
  · refine q_iconst (v := 1) C dX4_hasMatter_30 (by decide) ?_
    refine q_goto (tgt := 35) C dX4_hasMatter_31 (by decide) ?_
    exact hret _ _ _ _ dX4_hasMatter_35 (by simp [c_3]) rfl
  · refine q_iload_n C dX4_hasMatter_6 rfl rfl ?_
    refine q_bipush (v := 113) C dX4_hasMatter_7 (by decide) ?_
    refine q_icmp_eq (tgt := 30) C dX4_hasMatter_9 (by decide)  (fun c_9 => ?_) (fun c_9 => ?_)
    · refine q_iconst (v := 1) C dX4_hasMatter_30 (by decide) ?_
      refine q_goto (tgt := 35) C dX4_hasMatter_31 (by decide) ?_
      exact hret _ _ _ _ dX4_hasMatter_35 (by simp [c_3, c_9]) rfl
    · refine q_iload_n C dX4_hasMatter_12 rfl rfl ?_
      refine q_bipush (v := 100) C dX4_hasMatter_13 (by decide) ?_
      refine q_icmp_eq (tgt := 30) C dX4_hasMatter_15 (by decide)  (fun c_15 => ?_) (fun c_15 => ?_)
      · refine q_iconst (v := 1) C dX4_hasMatter_30 (by decide) ?_
        refine q_goto (tgt := 35) C dX4_hasMatter_31 (by decide) ?_
        exact hret _ _ _ _ dX4_hasMatter_35 (by simp [c_3, c_9, c_15]) rfl
      · refine q_iload_n C dX4_hasMatter_18 rfl rfl ?_
        refine q_bipush (v := 116) C dX4_hasMatter_19 (by decide) ?_
        refine q_icmp_eq (tgt := 30) C dX4_hasMatter_21 (by decide)  (fun c_21 => ?_) (fun c_21 => ?_)
        · refine q_iconst (v := 1) C dX4_hasMatter_30 (by decide) ?_
          refine q_goto (tgt := 35) C dX4_hasMatter_31 (by decide) ?_
          exact hret _ _ _ _ dX4_hasMatter_35 (by simp [c_3, c_9, c_15, c_21]) rfl
        · refine q_iload_n C dX4_hasMatter_24 rfl rfl ?_
          refine q_bipush (v := 105) C dX4_hasMatter_25 (by decide) ?_
          refine q_icmp_ne (tgt := 34) C dX4_hasMatter_27 (by decide)  (fun c_27 => ?_) (fun c_27 => ?_)
          · refine q_iconst (v := 0) C dX4_hasMatter_34 (by decide) ?_
            exact hret _ _ _ _ dX4_hasMatter_35 (by simp [c_3, c_9, c_15, c_21, c_27]) rfl
          · refine q_iconst (v := 1) C dX4_hasMatter_30 (by decide) ?_
            refine q_goto (tgt := 35) C dX4_hasMatter_31 (by decide) ?_
            exact hret _ _ _ _ dX4_hasMatter_35 (by simp [c_3, c_9, c_15, c_21, c_27]) rfl
theorem c_X4_hasGuild (l : Launch) (S : q_St) (k : Int32) : q_Fi l yX4_hasGuild kX4_hasGuild 1 [.ref 103, .int k] S (if uO_hasG k then 1 else 0) S := by
  refine q_Fi_of (maxL := 2) rfl (by decide +kernel) (fun ad => Nat.le_of_ble_eq_true rfl) (by split <;> rfl) ?_
  intro K C hret
  have C : q_Cx K cX4_hasGuild RX4 1 2 := C
  show q_V l K 0 [(0, .ref 103), (1, .int k)] [] S
  refine q_iload_n C dX4_hasGuild_0 rfl rfl ?_
  refine q_bipush (v := 97) C dX4_hasGuild_1 (by decide) ?_
  refine q_icmp_eq (tgt := 36) C dX4_hasGuild_3 (by decide)  (fun c_3 => ?_) (fun c_3 => ?_)
  · refine q_iconst (v := 1) C dX4_hasGuild_36 (by decide) ?_
    refine q_goto (tgt := 41) C dX4_hasGuild_37 (by decide) ?_
    exact hret _ _ _ _ dX4_hasGuild_41 (by simp [c_3]) rfl
  · refine q_iload_n C dX4_hasGuild_6 rfl rfl ?_
    refine q_bipush (v := 113) C dX4_hasGuild_7 (by decide) ?_
    refine q_icmp_eq (tgt := 36) C dX4_hasGuild_9 (by decide)  (fun c_9 => ?_) (fun c_9 => ?_)
    · refine q_iconst (v := 1) C dX4_hasGuild_36 (by decide) ?_
      refine q_goto (tgt := 41) C dX4_hasGuild_37 (by decide) ?_
      exact hret _ _ _ _ dX4_hasGuild_41 (by simp [c_3, c_9]) rfl
    · refine q_iload_n C dX4_hasGuild_12 rfl rfl ?_
      refine q_bipush (v := 116) C dX4_hasGuild_13 (by decide) ?_
      refine q_icmp_eq (tgt := 36) C dX4_hasGuild_15 (by decide)  (fun c_15 => ?_) (fun c_15 => ?_)
      · refine q_iconst (v := 1) C dX4_hasGuild_36 (by decide) ?_
        refine q_goto (tgt := 41) C dX4_hasGuild_37 (by decide) ?_
        exact hret _ _ _ _ dX4_hasGuild_41 (by simp [c_3, c_9, c_15]) rfl
      · refine q_iload_n C dX4_hasGuild_18 rfl rfl ?_
        refine q_bipush (v := 115) C dX4_hasGuild_19 (by decide) ?_
        refine q_icmp_eq (tgt := 36) C dX4_hasGuild_21 (by decide)  (fun c_21 => ?_) (fun c_21 => ?_)
        · refine q_iconst (v := 1) C dX4_hasGuild_36 (by decide) ?_
          refine q_goto (tgt := 41) C dX4_hasGuild_37 (by decide) ?_
          exact hret _ _ _ _ dX4_hasGuild_41 (by simp [c_3, c_9, c_15, c_21]) rfl
        · refine q_iload_n C dX4_hasGuild_24 rfl rfl ?_
          refine q_bipush (v := 114) C dX4_hasGuild_25 (by decide) ?_
          refine q_icmp_eq (tgt := 36) C dX4_hasGuild_27 (by decide)  (fun c_27 => ?_) (fun c_27 => ?_)
          · refine q_iconst (v := 1) C dX4_hasGuild_36 (by decide) ?_
            refine q_goto (tgt := 41) C dX4_hasGuild_37 (by decide) ?_
            exact hret _ _ _ _ dX4_hasGuild_41 (by simp [c_3, c_9, c_15, c_21, c_27]) rfl
          · refine q_iload_n C dX4_hasGuild_30 rfl rfl ?_
            refine q_bipush (v := 105) C dX4_hasGuild_31 (by decide) ?_
            refine q_icmp_ne (tgt := 40) C dX4_hasGuild_33 (by decide)  (fun c_33 => ?_) (fun c_33 => ?_)
            · refine q_iconst (v := 0) C dX4_hasGuild_40 (by decide) ?_
              exact hret _ _ _ _ dX4_hasGuild_41 (by simp [c_3, c_9, c_15, c_21, c_27, c_33]) rfl
            · refine q_iconst (v := 1) C dX4_hasGuild_36 (by decide) ?_
              refine q_goto (tgt := 41) C dX4_hasGuild_37 (by decide) ?_
              exact hret _ _ _ _ dX4_hasGuild_41 (by simp [c_3, c_9, c_15, c_21, c_27, c_33]) rfl
theorem c_X4_nextCharacter (l : Launch) (S : q_St) (t : Nat → Int32) (n : Nat) (ht : S 104 = t) (hn : S 103 1 = nI n) (hn60 : n ≤ 60) (hch : ∀ j, j < 60 → ∃ q, q < 65536 ∧ t j = nI q) (s : Bool × Nat) (hs : s.2 ≤ n) : q_Fi l yX4_nextCharacter kX4_nextCharacter 1 [.ref 103] (uO_at S s) (uP_nx t n s.2) (uO_at S s) := by
  refine q_Fi_of (maxL := 1) rfl (by decide +kernel) (fun ad => Nat.le_of_ble_eq_true rfl) (q_narrow_c (uP_nx_ch hn60 hch)) ?_
  intro K C hret
  have C : q_Cx K cX4_nextCharacter RX4 1 1 := C
  show q_V l K 0 [(0, .ref 103)] [] (uO_at S s)
  refine q_aload_n C dX4_nextCharacter_0 rfl rfl ?_
  refine q_getI (x := nI s.2) C flX4_35 q_s103 rfl dX4_nextCharacter_1 (uO_at_2 S s) ?_
  refine q_aload_n C dX4_nextCharacter_4 rfl rfl ?_
  refine q_getI (x := nI n) C flX4_32 q_s103 rfl dX4_nextCharacter_5 ((uO_at_k S s 1 (by decide) (by decide)).trans hn) ?_
  refine q_icmp_geN (a := s.2) (b := n) (tgt := 23) C dX4_nextCharacter_8 (by decide) rfl rfl (by omega) (by omega) (fun c_8 => ?_) (fun c_8 => ?_)
  · refine q_iconst (v := 0) C dX4_nextCharacter_23 (by decide) ?_
    exact hret _ _ _ _ dX4_nextCharacter_24 (by simp [uP_nx, c_8, Nat.not_lt.mpr c_8]) rfl
  · refine q_aload_n C dX4_nextCharacter_11 rfl rfl ?_
    refine q_getR C flX4_9 q_s103 rfl dX4_nextCharacter_12 ?_
    refine q_aload_n C dX4_nextCharacter_15 rfl rfl ?_
    refine q_getI (x := nI s.2) C flX4_35 q_s103 rfl dX4_nextCharacter_16 (uO_at_2 S s) ?_
    refine q_caldN (i := s.2) (x := t s.2) C rfl q_s104 (by omega) (by decide) dX4_nextCharacter_19 (by rw [← ht]; rfl) ?_
    refine q_goto (tgt := 24) C dX4_nextCharacter_20 (by decide) ?_
    exact hret _ _ _ _ dX4_nextCharacter_24 (by simp [uP_nx, c_8, Nat.not_le.mpr c_8]) rfl
theorem c_X4_readSign (l : Launch) (S : q_St) (t : Nat → Int32) (n : Nat) (ht : S 104 = t) (hn : S 103 1 = nI n) (hn60 : n ≤ 60) (hch : ∀ j, j < 60 → ∃ q, q < 65536 ∧ t j = nI q) (s : Bool × Nat) (hs : s.2 ≤ n) (c : Int32) (hc0 : c ≠ 0) : q_Fv l yX4_readSign kX4_readSign 2 [.ref 103, .int c] (uO_at S s) (uO_at S (uP_sg t n c s)) := by
  refine q_Fv_of (maxL := 2) rfl (by decide +kernel) (fun ad => Nat.le_of_ble_eq_true rfl) ?_
  intro K C hret
  have C : q_Cx K cX4_readSign RX4 2 2 := C
  show q_V l K 0 [(0, .ref 103), (1, .int c)] [] (uO_at S s)
  refine q_aload_n C dX4_readSign_0 rfl rfl ?_
  refine q_aload_n C dX4_readSign_1 rfl rfl ?_
  rcases q_bc (s).1 with hb_2 | hb_2
  · refine q_getI (x := 0) C flX4_41 q_s103 rfl dX4_readSign_2 (congrArg uO_b hb_2) ?_
    refine q_if_ne (tgt := 16) C dX4_readSign_5 (by decide) (fun h9 => absurd h9 (by decide)) (fun _ => ?_)
    refine q_aload_n C dX4_readSign_8 rfl rfl ?_
    refine q_ci0 C (c_X4_nextCharacter l S t n ht hn hn60 hch s hs) myX4_nextCharacter mlX4_76 q_s103 ⟨by decide, by decide⟩ (Nat.le_of_ble_eq_true rfl) dX4_readSign_9 ?_
    refine q_iload_n C dX4_readSign_12 rfl rfl ?_
    refine q_icmp_eq (tgt := 20) C dX4_readSign_13 (by decide)  (fun c_13 => ?_) (fun c_13 => ?_)
    · refine q_iconst (v := 0) C dX4_readSign_20 (by decide) ?_
      refine q_put (ty9 := .boolean) C flX4_41 q_s103 rfl (fun _ _ _ h => by cases h; exact ⟨rfl, by decide +kernel⟩) rfl rfl dX4_readSign_21 ?_
      refine q_aload_n C dX4_readSign_24 rfl rfl ?_
      refine q_dup C rfl dX4_readSign_25 ?_
      refine q_getI (x := nI s.2) C flX4_35 q_s103 rfl dX4_readSign_26 (uO_at_2 S s) ?_
      refine q_aload_n C dX4_readSign_29 rfl rfl ?_
      refine q_getI (x := 0) C flX4_41 q_s103 rfl dX4_readSign_30 rfl ?_
      refine q_if_eq (tgt := 40) C dX4_readSign_33 (by decide) (fun _ => ?_) (fun h9 => absurd h9 (by decide))
      refine q_iconst (v := 1) C dX4_readSign_40 (by decide) ?_
      refine q_iaddN (a := s.2) (b := 1) C dX4_readSign_41 rfl rfl ?_
      refine q_put (ty9 := .int) C flX4_35 q_s103 rfl (fun _ _ _ h => by cases h; exact ⟨rfl, by decide +kernel⟩) rfl rfl dX4_readSign_42 ?_
      exact hret _ _ _ dX4_readSign_45 ((uO_at_w S s false (s.2 + 1)).trans (congrArg (uO_at S) ((uP_go_t hb_2 (decide_eq_true c_13))).symm))
    · refine q_iconst (v := 1) C dX4_readSign_16 (by decide) ?_
      refine q_goto (tgt := 21) C dX4_readSign_17 (by decide) ?_
      refine q_put (ty9 := .boolean) C flX4_41 q_s103 rfl (fun _ _ _ h => by cases h; exact ⟨rfl, by decide +kernel⟩) rfl rfl dX4_readSign_21 ?_
      refine q_aload_n C dX4_readSign_24 rfl rfl ?_
      refine q_dup C rfl dX4_readSign_25 ?_
      refine q_getI (x := nI s.2) C flX4_35 q_s103 rfl dX4_readSign_26 (uO_at_2 S s) ?_
      refine q_aload_n C dX4_readSign_29 rfl rfl ?_
      refine q_getI (x := 1) C flX4_41 q_s103 rfl dX4_readSign_30 rfl ?_
      refine q_if_eq (tgt := 40) C dX4_readSign_33 (by decide) (fun h9 => absurd h9 (by decide)) (fun _ => ?_)
      refine q_iconst (v := 0) C dX4_readSign_36 (by decide) ?_
      refine q_goto (tgt := 41) C dX4_readSign_37 (by decide) ?_
      refine q_iaddN (a := s.2) (b := 0) C dX4_readSign_41 rfl rfl ?_
      refine q_put (ty9 := .int) C flX4_35 q_s103 rfl (fun _ _ _ h => by cases h; exact ⟨rfl, by decide +kernel⟩) rfl rfl dX4_readSign_42 ?_
      exact hret _ _ _ dX4_readSign_45 ((uO_at_w S s true s.2).trans (congrArg (uO_at S) ((uP_go_2 (decide_eq_false c_13))).symm))
  · refine q_getI (x := 1) C flX4_41 q_s103 rfl dX4_readSign_2 (congrArg uO_b hb_2) ?_
    refine q_if_ne (tgt := 16) C dX4_readSign_5 (by decide) (fun _ => ?_) (fun h9 => absurd h9 (by decide))
    refine q_iconst (v := 1) C dX4_readSign_16 (by decide) ?_
    refine q_goto (tgt := 21) C dX4_readSign_17 (by decide) ?_
    refine q_put (ty9 := .boolean) C flX4_41 q_s103 rfl (fun _ _ _ h => by cases h; exact ⟨rfl, by decide +kernel⟩) rfl rfl dX4_readSign_21 ?_
    refine q_aload_n C dX4_readSign_24 rfl rfl ?_
    refine q_dup C rfl dX4_readSign_25 ?_
    refine q_getI (x := nI s.2) C flX4_35 q_s103 rfl dX4_readSign_26 (uO_at_2 S s) ?_
    refine q_aload_n C dX4_readSign_29 rfl rfl ?_
    refine q_getI (x := 1) C flX4_41 q_s103 rfl dX4_readSign_30 rfl ?_
    refine q_if_eq (tgt := 40) C dX4_readSign_33 (by decide) (fun h9 => absurd h9 (by decide)) (fun _ => ?_)
    refine q_iconst (v := 0) C dX4_readSign_36 (by decide) ?_
    refine q_goto (tgt := 41) C dX4_readSign_37 (by decide) ?_
    refine q_iaddN (a := s.2) (b := 0) C dX4_readSign_41 rfl rfl ?_
    refine q_put (ty9 := .int) C flX4_35 q_s103 rfl (fun _ _ _ h => by cases h; exact ⟨rfl, by decide +kernel⟩) rfl rfl dX4_readSign_42 ?_
    exact hret _ _ _ dX4_readSign_45 ((uO_at_w S s true s.2).trans (congrArg (uO_at S) ((uP_go_1 hb_2)).symm))
theorem c_X4_readDigit (l : Launch) (S : q_St) (t : Nat → Int32) (n : Nat) (ht : S 104 = t) (hn : S 103 1 = nI n) (hn60 : n ≤ 60) (hch : ∀ j, j < 60 → ∃ q, q < 65536 ∧ t j = nI q) (s : Bool × Nat) (hs : s.2 ≤ n) : q_Fi l yX4_readDigit kX4_readDigit 2 [.ref 103] (uO_at S s) (uP_dv t n s) (uO_at S (uP_dg t n s)) := by
  refine q_Fi_of (maxL := 2) rfl (by decide +kernel) (fun ad => Nat.le_of_ble_eq_true rfl) rfl ?_
  intro K C hret
  have C : q_Cx K cX4_readDigit RX4 2 2 := C
  show q_V l K 0 [(0, .ref 103)] [] (uO_at S s)
  refine q_aload_n C dX4_readDigit_0 rfl rfl ?_
  refine q_ci0 C (c_X4_nextCharacter l S t n ht hn hn60 hch s hs) myX4_nextCharacter mlX4_76 q_s103 ⟨by decide, by decide⟩ (Nat.le_of_ble_eq_true rfl) dX4_readDigit_1 ?_
  refine q_istore_n (lv' := [(1, .int (uP_nx t n s.2)), (0, .ref 103)]) C dX4_readDigit_4 rfl (by decide) rfl ?_
  refine q_aload_n C dX4_readDigit_5 rfl rfl ?_
  refine q_aload_n C dX4_readDigit_6 rfl rfl ?_
  rcases q_bc (s).1 with hb_7 | hb_7
  · refine q_getI (x := 0) C flX4_41 q_s103 rfl dX4_readDigit_7 (congrArg uO_b hb_7) ?_
    refine q_if_ne (tgt := 21) C dX4_readDigit_10 (by decide) (fun h9 => absurd h9 (by decide)) (fun _ => ?_)
    refine q_aload_n C dX4_readDigit_13 rfl rfl ?_
    refine q_iload_n C dX4_readDigit_14 rfl rfl ?_
    by_cases h_15 : uP_isD (uP_nx t n s.2)
    · refine q_ci1 C (q_Fi.cv (if_pos h_15) (c_X4_isDigit l (uO_at S s) (uP_nx t n s.2))) myX4_isDigit mlX4_87 q_s103 ⟨by decide, by decide⟩ (Nat.le_of_ble_eq_true rfl) dX4_readDigit_15 ?_
      refine q_if_ne (tgt := 25) C dX4_readDigit_18 (by decide) (fun _ => ?_) (fun h9 => absurd h9 (by decide))
      refine q_iconst (v := 0) C dX4_readDigit_25 (by decide) ?_
      refine q_put (ty9 := .boolean) C flX4_41 q_s103 rfl (fun _ _ _ h => by cases h; exact ⟨rfl, by decide +kernel⟩) rfl rfl dX4_readDigit_26 ?_
      refine q_aload_n C dX4_readDigit_29 rfl rfl ?_
      refine q_dup C rfl dX4_readDigit_30 ?_
      refine q_getI (x := nI s.2) C flX4_35 q_s103 rfl dX4_readDigit_31 (uO_at_2 S s) ?_
      refine q_aload_n C dX4_readDigit_34 rfl rfl ?_
      refine q_getI (x := 0) C flX4_41 q_s103 rfl dX4_readDigit_35 rfl ?_
      refine q_if_eq (tgt := 45) C dX4_readDigit_38 (by decide) (fun _ => ?_) (fun h9 => absurd h9 (by decide))
      refine q_iconst (v := 1) C dX4_readDigit_45 (by decide) ?_
      refine q_iaddN (a := s.2) (b := 1) C dX4_readDigit_46 rfl rfl ?_
      refine q_put (ty9 := .int) C flX4_35 q_s103 rfl (fun _ _ _ h => by cases h; exact ⟨rfl, by decide +kernel⟩) rfl rfl dX4_readDigit_47 ?_
      refine q_iload_n C dX4_readDigit_50 rfl rfl ?_
      refine q_bipush (v := 48) C dX4_readDigit_51 (by decide) ?_
      refine q_isub C dX4_readDigit_53 ?_
      exact hret _ _ _ _ dX4_readDigit_54 rfl ((uO_at_w S s false (s.2 + 1)).trans (congrArg (uO_at S) ((uP_go_t hb_7 (decide_eq_true h_15))).symm))
    · refine q_ci1 C (q_Fi.cv (if_neg h_15) (c_X4_isDigit l (uO_at S s) (uP_nx t n s.2))) myX4_isDigit mlX4_87 q_s103 ⟨by decide, by decide⟩ (Nat.le_of_ble_eq_true rfl) dX4_readDigit_15 ?_
      refine q_if_ne (tgt := 25) C dX4_readDigit_18 (by decide) (fun h9 => absurd h9 (by decide)) (fun _ => ?_)
      refine q_iconst (v := 1) C dX4_readDigit_21 (by decide) ?_
      refine q_goto (tgt := 26) C dX4_readDigit_22 (by decide) ?_
      refine q_put (ty9 := .boolean) C flX4_41 q_s103 rfl (fun _ _ _ h => by cases h; exact ⟨rfl, by decide +kernel⟩) rfl rfl dX4_readDigit_26 ?_
      refine q_aload_n C dX4_readDigit_29 rfl rfl ?_
      refine q_dup C rfl dX4_readDigit_30 ?_
      refine q_getI (x := nI s.2) C flX4_35 q_s103 rfl dX4_readDigit_31 (uO_at_2 S s) ?_
      refine q_aload_n C dX4_readDigit_34 rfl rfl ?_
      refine q_getI (x := 1) C flX4_41 q_s103 rfl dX4_readDigit_35 rfl ?_
      refine q_if_eq (tgt := 45) C dX4_readDigit_38 (by decide) (fun h9 => absurd h9 (by decide)) (fun _ => ?_)
      refine q_iconst (v := 0) C dX4_readDigit_41 (by decide) ?_
      refine q_goto (tgt := 46) C dX4_readDigit_42 (by decide) ?_
      refine q_iaddN (a := s.2) (b := 0) C dX4_readDigit_46 rfl rfl ?_
      refine q_put (ty9 := .int) C flX4_35 q_s103 rfl (fun _ _ _ h => by cases h; exact ⟨rfl, by decide +kernel⟩) rfl rfl dX4_readDigit_47 ?_
      refine q_iload_n C dX4_readDigit_50 rfl rfl ?_
      refine q_bipush (v := 48) C dX4_readDigit_51 (by decide) ?_
      refine q_isub C dX4_readDigit_53 ?_
      exact hret _ _ _ _ dX4_readDigit_54 rfl ((uO_at_w S s true s.2).trans (congrArg (uO_at S) ((uP_go_2 (decide_eq_false h_15))).symm))
  · refine q_getI (x := 1) C flX4_41 q_s103 rfl dX4_readDigit_7 (congrArg uO_b hb_7) ?_
    refine q_if_ne (tgt := 21) C dX4_readDigit_10 (by decide) (fun _ => ?_) (fun h9 => absurd h9 (by decide))
    refine q_iconst (v := 1) C dX4_readDigit_21 (by decide) ?_
    refine q_goto (tgt := 26) C dX4_readDigit_22 (by decide) ?_
    refine q_put (ty9 := .boolean) C flX4_41 q_s103 rfl (fun _ _ _ h => by cases h; exact ⟨rfl, by decide +kernel⟩) rfl rfl dX4_readDigit_26 ?_
    refine q_aload_n C dX4_readDigit_29 rfl rfl ?_
    refine q_dup C rfl dX4_readDigit_30 ?_
    refine q_getI (x := nI s.2) C flX4_35 q_s103 rfl dX4_readDigit_31 (uO_at_2 S s) ?_
    refine q_aload_n C dX4_readDigit_34 rfl rfl ?_
    refine q_getI (x := 1) C flX4_41 q_s103 rfl dX4_readDigit_35 rfl ?_
    refine q_if_eq (tgt := 45) C dX4_readDigit_38 (by decide) (fun h9 => absurd h9 (by decide)) (fun _ => ?_)
    refine q_iconst (v := 0) C dX4_readDigit_41 (by decide) ?_
    refine q_goto (tgt := 46) C dX4_readDigit_42 (by decide) ?_
    refine q_iaddN (a := s.2) (b := 0) C dX4_readDigit_46 rfl rfl ?_
    refine q_put (ty9 := .int) C flX4_35 q_s103 rfl (fun _ _ _ h => by cases h; exact ⟨rfl, by decide +kernel⟩) rfl rfl dX4_readDigit_47 ?_
    refine q_iload_n C dX4_readDigit_50 rfl rfl ?_
    refine q_bipush (v := 48) C dX4_readDigit_51 (by decide) ?_
    refine q_isub C dX4_readDigit_53 ?_
    exact hret _ _ _ _ dX4_readDigit_54 rfl ((uO_at_w S s true s.2).trans (congrArg (uO_at S) ((uP_go_1 hb_7)).symm))
theorem c_X4_readLetter (l : Launch) (S : q_St) (t : Nat → Int32) (n : Nat) (ht : S 104 = t) (hn : S 103 1 = nI n) (hn60 : n ≤ 60) (hch : ∀ j, j < 60 → ∃ q, q < 65536 ∧ t j = nI q) (s : Bool × Nat) (hs : s.2 ≤ n) : q_Fi l yX4_readLetter kX4_readLetter 5 [.ref 103] (uO_at S s) (uP_nx t n s.2) (uO_at S (uP_lt t n s)) := by
  refine q_Fi_of (maxL := 2) rfl (by decide +kernel) (fun ad => Nat.le_of_ble_eq_true rfl) rfl ?_
  intro K C hret
  have C : q_Cx K cX4_readLetter RX4 5 2 := C
  show q_V l K 0 [(0, .ref 103)] [] (uO_at S s)
  refine q_aload_n C dX4_readLetter_0 rfl rfl ?_
  refine q_ci0 C (c_X4_nextCharacter l S t n ht hn hn60 hch s hs) myX4_nextCharacter mlX4_76 q_s103 ⟨by decide, by decide⟩ (Nat.le_of_ble_eq_true rfl) dX4_readLetter_1 ?_
  refine q_istore_n (lv' := [(1, .int (uP_nx t n s.2)), (0, .ref 103)]) C dX4_readLetter_4 rfl (by decide) rfl ?_
  refine q_aload_n C dX4_readLetter_5 rfl rfl ?_
  refine q_aload_n C dX4_readLetter_6 rfl rfl ?_
  rcases q_bc (s).1 with hb_7 | hb_7
  · refine q_getI (x := 0) C flX4_41 q_s103 rfl dX4_readLetter_7 (congrArg uO_b hb_7) ?_
    refine q_if_ne (tgt := 22) C dX4_readLetter_10 (by decide) (fun h9 => absurd h9 (by decide)) (fun _ => ?_)
    refine q_sLdc (i := 0) C rfl dX4_readLetter_13 ?_
    refine q_iload_n C dX4_readLetter_15 rfl rfl ?_
    refine q_cj1 (i := 0) C (c_J0_indexOf l (uO_at S s) (uP_nx t n s.2)) myJ0_indexOf_0f7a4 rfl mlX4_82 (by decide) rfl ⟨by decide, by decide⟩ (Nat.le_of_ble_eq_true rfl) dX4_readLetter_16 ?_
    refine q_if_ge (tgt := 26) C dX4_readLetter_19 (by decide)  (fun c_19 => ?_) (fun c_19 => ?_)
    · refine q_iconst (v := 0) C dX4_readLetter_26 (by decide) ?_
      refine q_put (ty9 := .boolean) C flX4_41 q_s103 rfl (fun _ _ _ h => by cases h; exact ⟨rfl, by decide +kernel⟩) rfl rfl dX4_readLetter_27 ?_
      refine q_aload_n C dX4_readLetter_30 rfl rfl ?_
      refine q_dup C rfl dX4_readLetter_31 ?_
      refine q_getI (x := nI s.2) C flX4_35 q_s103 rfl dX4_readLetter_32 (uO_at_2 S s) ?_
      refine q_aload_n C dX4_readLetter_35 rfl rfl ?_
      refine q_getI (x := 0) C flX4_41 q_s103 rfl dX4_readLetter_36 rfl ?_
      refine q_if_eq (tgt := 46) C dX4_readLetter_39 (by decide) (fun _ => ?_) (fun h9 => absurd h9 (by decide))
      refine q_iconst (v := 1) C dX4_readLetter_46 (by decide) ?_
      refine q_iaddN (a := s.2) (b := 1) C dX4_readLetter_47 rfl rfl ?_
      refine q_put (ty9 := .int) C flX4_35 q_s103 rfl (fun _ _ _ h => by cases h; exact ⟨rfl, by decide +kernel⟩) rfl rfl dX4_readLetter_48 ?_
      refine q_iload_n C dX4_readLetter_51 rfl rfl ?_
      exact hret _ _ _ _ dX4_readLetter_52 rfl ((uO_at_w S s false (s.2 + 1)).trans (congrArg (uO_at S) ((uP_go_t hb_7 (decide_eq_true c_19))).symm))
    · refine q_iconst (v := 1) C dX4_readLetter_22 (by decide) ?_
      refine q_goto (tgt := 27) C dX4_readLetter_23 (by decide) ?_
      refine q_put (ty9 := .boolean) C flX4_41 q_s103 rfl (fun _ _ _ h => by cases h; exact ⟨rfl, by decide +kernel⟩) rfl rfl dX4_readLetter_27 ?_
      refine q_aload_n C dX4_readLetter_30 rfl rfl ?_
      refine q_dup C rfl dX4_readLetter_31 ?_
      refine q_getI (x := nI s.2) C flX4_35 q_s103 rfl dX4_readLetter_32 (uO_at_2 S s) ?_
      refine q_aload_n C dX4_readLetter_35 rfl rfl ?_
      refine q_getI (x := 1) C flX4_41 q_s103 rfl dX4_readLetter_36 rfl ?_
      refine q_if_eq (tgt := 46) C dX4_readLetter_39 (by decide) (fun h9 => absurd h9 (by decide)) (fun _ => ?_)
      refine q_iconst (v := 0) C dX4_readLetter_42 (by decide) ?_
      refine q_goto (tgt := 47) C dX4_readLetter_43 (by decide) ?_
      refine q_iaddN (a := s.2) (b := 0) C dX4_readLetter_47 rfl rfl ?_
      refine q_put (ty9 := .int) C flX4_35 q_s103 rfl (fun _ _ _ h => by cases h; exact ⟨rfl, by decide +kernel⟩) rfl rfl dX4_readLetter_48 ?_
      refine q_iload_n C dX4_readLetter_51 rfl rfl ?_
      exact hret _ _ _ _ dX4_readLetter_52 rfl ((uO_at_w S s true s.2).trans (congrArg (uO_at S) ((uP_go_2 (decide_eq_false (Int32.not_le.mpr c_19)))).symm))
  · refine q_getI (x := 1) C flX4_41 q_s103 rfl dX4_readLetter_7 (congrArg uO_b hb_7) ?_
    refine q_if_ne (tgt := 22) C dX4_readLetter_10 (by decide) (fun _ => ?_) (fun h9 => absurd h9 (by decide))
    refine q_iconst (v := 1) C dX4_readLetter_22 (by decide) ?_
    refine q_goto (tgt := 27) C dX4_readLetter_23 (by decide) ?_
    refine q_put (ty9 := .boolean) C flX4_41 q_s103 rfl (fun _ _ _ h => by cases h; exact ⟨rfl, by decide +kernel⟩) rfl rfl dX4_readLetter_27 ?_
    refine q_aload_n C dX4_readLetter_30 rfl rfl ?_
    refine q_dup C rfl dX4_readLetter_31 ?_
    refine q_getI (x := nI s.2) C flX4_35 q_s103 rfl dX4_readLetter_32 (uO_at_2 S s) ?_
    refine q_aload_n C dX4_readLetter_35 rfl rfl ?_
    refine q_getI (x := 1) C flX4_41 q_s103 rfl dX4_readLetter_36 rfl ?_
    refine q_if_eq (tgt := 46) C dX4_readLetter_39 (by decide) (fun h9 => absurd h9 (by decide)) (fun _ => ?_)
    refine q_iconst (v := 0) C dX4_readLetter_42 (by decide) ?_
    refine q_goto (tgt := 47) C dX4_readLetter_43 (by decide) ?_
    refine q_iaddN (a := s.2) (b := 0) C dX4_readLetter_47 rfl rfl ?_
    refine q_put (ty9 := .int) C flX4_35 q_s103 rfl (fun _ _ _ h => by cases h; exact ⟨rfl, by decide +kernel⟩) rfl rfl dX4_readLetter_48 ?_
    refine q_iload_n C dX4_readLetter_51 rfl rfl ?_
    exact hret _ _ _ _ dX4_readLetter_52 rfl ((uO_at_w S s true s.2).trans (congrArg (uO_at S) ((uP_go_1 hb_7)).symm))
theorem c_X4_readPlusOrMinus (l : Launch) (S : q_St) (t : Nat → Int32) (n : Nat) (ht : S 104 = t) (hn : S 103 1 = nI n) (hn60 : n ≤ 60) (hch : ∀ j, j < 60 → ∃ q, q < 65536 ∧ t j = nI q) (s : Bool × Nat) (hs : s.2 ≤ n) : q_Fi l yX4_readPlusOrMinus kX4_readPlusOrMinus 3 [.ref 103] (uO_at S s) (uP_pv t n s) (uO_at S (uP_pm t n s)) := by
  refine q_Fi_of (maxL := 2) rfl (by decide +kernel) (fun ad => Nat.le_of_ble_eq_true rfl) rfl ?_
  intro K C hret
  have C : q_Cx K cX4_readPlusOrMinus RX4 3 2 := C
  show q_V l K 0 [(0, .ref 103)] [] (uO_at S s)
  refine q_aload_n C dX4_readPlusOrMinus_0 rfl rfl ?_
  refine q_ci0 C (c_X4_nextCharacter l S t n ht hn hn60 hch s hs) myX4_nextCharacter mlX4_76 q_s103 ⟨by decide, by decide⟩ (Nat.le_of_ble_eq_true rfl) dX4_readPlusOrMinus_1 ?_
  refine q_bipush (v := 45) C dX4_readPlusOrMinus_4 (by decide) ?_
  refine q_icmp_ne (tgt := 13) C dX4_readPlusOrMinus_6 (by decide)  (fun c_6 => ?_) (fun c_6 => ?_)
  · refine q_iconst (v := 0) C dX4_readPlusOrMinus_13 (by decide) ?_
    refine q_istore_n (lv' := [(1, .int 0), (0, .ref 103)]) C dX4_readPlusOrMinus_14 rfl (by decide) rfl ?_
    refine q_aload_n C dX4_readPlusOrMinus_15 rfl rfl ?_
    refine q_iload_n C dX4_readPlusOrMinus_16 rfl rfl ?_
    refine q_if_eq (tgt := 25) C dX4_readPlusOrMinus_17 (by decide) (fun _ => ?_) (fun h9 => absurd h9 (by decide))
    refine q_bipush (v := 43) C dX4_readPlusOrMinus_25 (by decide) ?_
    refine q_cv1 C (c_X4_readSign l S t n ht hn hn60 hch s hs 43 (by decide)) myX4_readSign mlX4_48 q_s103 ⟨by decide, by decide⟩ (Nat.le_of_ble_eq_true rfl) dX4_readPlusOrMinus_27 ?_
    refine q_iload_n C dX4_readPlusOrMinus_30 rfl rfl ?_
    refine q_if_eq (tgt := 38) C dX4_readPlusOrMinus_31 (by decide) (fun _ => ?_) (fun h9 => absurd h9 (by decide))
    refine q_iconst (v := 1) C dX4_readPlusOrMinus_38 (by decide) ?_
    exact hret _ _ _ _ dX4_readPlusOrMinus_39 (by simp [uP_pv, uP_pm, c_6]) (by simp [uP_pv, uP_pm, c_6])
  · refine q_iconst (v := 1) C dX4_readPlusOrMinus_9 (by decide) ?_
    refine q_goto (tgt := 14) C dX4_readPlusOrMinus_10 (by decide) ?_
    refine q_istore_n (lv' := [(1, .int 1), (0, .ref 103)]) C dX4_readPlusOrMinus_14 rfl (by decide) rfl ?_
    refine q_aload_n C dX4_readPlusOrMinus_15 rfl rfl ?_
    refine q_iload_n C dX4_readPlusOrMinus_16 rfl rfl ?_
    refine q_if_eq (tgt := 25) C dX4_readPlusOrMinus_17 (by decide) (fun h9 => absurd h9 (by decide)) (fun _ => ?_)
    refine q_bipush (v := 45) C dX4_readPlusOrMinus_20 (by decide) ?_
    refine q_goto (tgt := 27) C dX4_readPlusOrMinus_22 (by decide) ?_
    refine q_cv1 C (c_X4_readSign l S t n ht hn hn60 hch s hs 45 (by decide)) myX4_readSign mlX4_48 q_s103 ⟨by decide, by decide⟩ (Nat.le_of_ble_eq_true rfl) dX4_readPlusOrMinus_27 ?_
    refine q_iload_n C dX4_readPlusOrMinus_30 rfl rfl ?_
    refine q_if_eq (tgt := 38) C dX4_readPlusOrMinus_31 (by decide) (fun h9 => absurd h9 (by decide)) (fun _ => ?_)
    refine q_iconst (v := (-1)) C dX4_readPlusOrMinus_34 (by decide) ?_
    refine q_goto (tgt := 39) C dX4_readPlusOrMinus_35 (by decide) ?_
    exact hret _ _ _ _ dX4_readPlusOrMinus_39 (by simp [uP_pv, uP_pm, c_6]) (by simp [uP_pv, uP_pm, c_6])
theorem c_X4_readOneOrTwoDigits (l : Launch) (S : q_St) (t : Nat → Int32) (n : Nat) (ht : S 104 = t) (hn : S 103 1 = nI n) (hn60 : n ≤ 60) (hch : ∀ j, j < 60 → ∃ q, q < 65536 ∧ t j = nI q) (s : Bool × Nat) (hs : s.2 ≤ n) : q_Fi l yX4_readOneOrTwoDigits kX4_readOneOrTwoDigits 3 [.ref 103] (uO_at S s) (uP_nv t n s) (uO_at S (uP_nm t n s)) := by
  refine q_Fi_of (maxL := 2) rfl (by decide +kernel) (fun ad => Nat.le_of_ble_eq_true rfl) rfl ?_
  intro K C hret
  have C : q_Cx K cX4_readOneOrTwoDigits RX4 3 2 := C
  show q_V l K 0 [(0, .ref 103)] [] (uO_at S s)
  refine q_aload_n C dX4_readOneOrTwoDigits_0 rfl rfl ?_
  refine q_ci0 C (c_X4_readDigit l S t n ht hn hn60 hch s hs) myX4_readDigit mlX4_60 q_s103 ⟨by decide, by decide⟩ (Nat.le_of_ble_eq_true rfl) dX4_readOneOrTwoDigits_1 ?_
  refine q_istore_n (lv' := [(1, .int (uP_dv t n s)), (0, .ref 103)]) C dX4_readOneOrTwoDigits_4 rfl (by decide) rfl ?_
  refine q_aload_n C dX4_readOneOrTwoDigits_5 rfl rfl ?_
  refine q_aload_n C dX4_readOneOrTwoDigits_6 rfl rfl ?_
  refine q_ci0 C (c_X4_nextCharacter l S t n ht hn hn60 hch (uP_dg t n s) (uP_dg_le _ _ hs)) myX4_nextCharacter mlX4_76 q_s103 ⟨by decide, by decide⟩ (Nat.le_of_ble_eq_true rfl) dX4_readOneOrTwoDigits_7 ?_
  by_cases h_10 : uP_isD (uP_nx t n (uP_dg t n s).2)
  · refine q_ci1 C (q_Fi.cv (if_pos h_10) (c_X4_isDigit l (uO_at S (uP_dg t n s)) (uP_nx t n (uP_dg t n s).2))) myX4_isDigit mlX4_87 q_s103 ⟨by decide, by decide⟩ (Nat.le_of_ble_eq_true rfl) dX4_readOneOrTwoDigits_10 ?_
    refine q_if_eq (tgt := 28) C dX4_readOneOrTwoDigits_13 (by decide) (fun h9 => absurd h9 (by decide)) (fun _ => ?_)
    refine q_bipush (v := 10) C dX4_readOneOrTwoDigits_16 (by decide) ?_
    refine q_iload_n C dX4_readOneOrTwoDigits_18 rfl rfl ?_
    refine q_imul C dX4_readOneOrTwoDigits_19 ?_
    refine q_aload_n C dX4_readOneOrTwoDigits_20 rfl rfl ?_
    refine q_ci0 C (c_X4_readDigit l S t n ht hn hn60 hch (uP_dg t n s) (uP_dg_le _ _ hs)) myX4_readDigit mlX4_60 q_s103 ⟨by decide, by decide⟩ (Nat.le_of_ble_eq_true rfl) dX4_readOneOrTwoDigits_21 ?_
    refine q_iadd C dX4_readOneOrTwoDigits_24 ?_
    refine q_goto (tgt := 29) C dX4_readOneOrTwoDigits_25 (by decide) ?_
    exact hret _ _ _ _ dX4_readOneOrTwoDigits_29 (by simp [uP_nv, uP_nm, if_pos h_10, h_10]) (by simp [uP_nv, uP_nm, if_pos h_10, h_10])
  · refine q_ci1 C (q_Fi.cv (if_neg h_10) (c_X4_isDigit l (uO_at S (uP_dg t n s)) (uP_nx t n (uP_dg t n s).2))) myX4_isDigit mlX4_87 q_s103 ⟨by decide, by decide⟩ (Nat.le_of_ble_eq_true rfl) dX4_readOneOrTwoDigits_10 ?_
    refine q_if_eq (tgt := 28) C dX4_readOneOrTwoDigits_13 (by decide) (fun _ => ?_) (fun h9 => absurd h9 (by decide))
    refine q_iload_n C dX4_readOneOrTwoDigits_28 rfl rfl ?_
    exact hret _ _ _ _ dX4_readOneOrTwoDigits_29 (by simp [uP_nv, uP_nm, if_neg h_10, h_10]) (by simp [uP_nv, uP_nm, if_neg h_10, h_10])
theorem c_X4_readLast (l : Launch) (S : q_St) (t : Nat → Int32) (n : Nat) (ht : S 104 = t) (hn : S 103 1 = nI n) (hn60 : n ≤ 60) (hch : ∀ j, j < 60 → ∃ q, q < 65536 ∧ t j = nI q) (s : Bool × Nat) (hs : s.2 ≤ n) (k : Int32) : q_Fi l yX4_readLast kX4_readLast 4 [.ref 103, .int k] (uO_at S s) (uP_lv t n k s) (uO_at S (uP_ls t n k s)) := by
  refine q_Fi_of (maxL := 2) rfl (by decide +kernel) (fun ad => Nat.le_of_ble_eq_true rfl) rfl ?_
  intro K C hret
  have C : q_Cx K cX4_readLast RX4 4 2 := C
  show q_V l K 0 [(0, .ref 103), (1, .int k)] [] (uO_at S s)
  refine q_iload_n C dX4_readLast_0 rfl rfl ?_
  by_cases h_1_97 : k = 97
  · refine q_lookup (off := 35) (tgt := 36) C dX4_readLast_1 (by decide) (by rw [h_1_97]; decide) (by decide) ?_
    refine q_aload_n C dX4_readLast_36 rfl rfl ?_
    refine q_bipush (v := 61) C dX4_readLast_37 (by decide) ?_
    refine q_cv1 C (c_X4_readSign l S t n ht hn hn60 hch s hs 61 (by decide)) myX4_readSign mlX4_48 q_s103 ⟨by decide, by decide⟩ (Nat.le_of_ble_eq_true rfl) dX4_readLast_39 ?_
    refine q_aload_n C dX4_readLast_42 rfl rfl ?_
    refine q_ci0 C (c_X4_readPlusOrMinus l S t n ht hn hn60 hch (uP_sg t n 61 s) (uP_sg_le _ _ (by decide) hs)) myX4_readPlusOrMinus mlX4_70 q_s103 ⟨by decide, by decide⟩ (Nat.le_of_ble_eq_true rfl) dX4_readLast_43 ?_
    refine q_aload_n C dX4_readLast_46 rfl rfl ?_
    refine q_ci0 C (c_X4_readOneOrTwoDigits l S t n ht hn hn60 hch (uP_pm t n (uP_sg t n 61 s)) (uP_pm_le _ _ (uP_sg_le _ _ (by decide) hs))) myX4_readOneOrTwoDigits mlX4_73 q_s103 ⟨by decide, by decide⟩ (Nat.le_of_ble_eq_true rfl) dX4_readLast_47 ?_
    refine q_imul C dX4_readLast_50 ?_
    exact hret _ _ _ _ dX4_readLast_51 (by simp [uP_lv, uP_ls, h_1_97]) (by simp [uP_lv, uP_ls, h_1_97])
  by_cases h_1_104 : k = 104
  · refine q_lookup (off := 62) (tgt := 63) C dX4_readLast_1 (by decide) (by rw [h_1_104]; decide) (by decide) ?_
    refine q_aload_n C dX4_readLast_63 rfl rfl ?_
    refine q_ci0 C (c_X4_readOneOrTwoDigits l S t n ht hn hn60 hch s hs) myX4_readOneOrTwoDigits mlX4_73 q_s103 ⟨by decide, by decide⟩ (Nat.le_of_ble_eq_true rfl) dX4_readLast_64 ?_
    exact hret _ _ _ _ dX4_readLast_67 (by simp [uP_lv, uP_ls, h_1_104, h_1_97]) (by simp [uP_lv, uP_ls, h_1_104, h_1_97])
  by_cases h_1_105 : k = 105
  · refine q_lookup (off := 51) (tgt := 52) C dX4_readLast_1 (by decide) (by rw [h_1_105]; decide) (by decide) ?_
    refine q_aload_n C dX4_readLast_52 rfl rfl ?_
    refine q_bipush (v := 60) C dX4_readLast_53 (by decide) ?_
    refine q_cv1 C (c_X4_readSign l S t n ht hn hn60 hch s hs 60 (by decide)) myX4_readSign mlX4_48 q_s103 ⟨by decide, by decide⟩ (Nat.le_of_ble_eq_true rfl) dX4_readLast_55 ?_
    refine q_aload_n C dX4_readLast_58 rfl rfl ?_
    refine q_ci0 C (c_X4_readDigit l S t n ht hn hn60 hch (uP_sg t n 60 s) (uP_sg_le _ _ (by decide) hs)) myX4_readDigit mlX4_60 q_s103 ⟨by decide, by decide⟩ (Nat.le_of_ble_eq_true rfl) dX4_readLast_59 ?_
    exact hret _ _ _ _ dX4_readLast_62 (by simp [uP_lv, uP_ls, h_1_105, h_1_97, h_1_104]) (by simp [uP_lv, uP_ls, h_1_105, h_1_97, h_1_104])
  refine q_lookup (off := 67) (tgt := 68) C dX4_readLast_1 (by decide) (by show Op.lookupswitch.offset [(97, 35), (104, 62), (105, 51)] 67 _ = _; rw [lv_osw (k := 97) (a := 97) h_1_97 (by decide)]; rw [lv_osw (k := 104) (a := 104) h_1_104 (by decide)]; rw [lv_osw (k := 105) (a := 105) h_1_105 (by decide)]; rfl) (by decide) ?_
  refine q_iconst (v := 0) C dX4_readLast_68 (by decide) ?_
  exact hret _ _ _ _ dX4_readLast_69 (by simp [uP_lv, uP_ls, h_1_97, h_1_104, h_1_105]) (by simp [uP_lv, uP_ls, h_1_97, h_1_104, h_1_105])
set_option maxHeartbeats 1000000 in
theorem c_X4_readOrder (l : Launch) (S : q_St) (t : Nat → Int32) (n : Nat) (ht : S 104 = t) (hn : S 103 1 = nI n) (hn60 : n ≤ 60) (hch : ∀ j, j < 60 → ∃ q, q < 65536 ∧ t j = nI q) (cnt : Nat) (hcnt : S 103 5 = nI cnt) (hc30 : cnt ≤ 30) (s : Bool × Nat) (hs : s.2 ≤ n) : q_Fv l yX4_readOrder kX4_readOrder 6 [.ref 103] (uO_at S s) (uO_at (uO_ordS t n S cnt s) (uP_s5 t n s)) := by
  refine q_Fv_of (maxL := 5) rfl (by decide +kernel) (fun ad => Nat.le_of_ble_eq_true rfl) ?_
  intro K C hret
  have C : q_Cx K cX4_readOrder RX4 6 5 := C
  show q_V l K 0 [(0, .ref 103)] [] (uO_at S s)
  refine q_aload_n C dX4_readOrder_0 rfl rfl ?_
  refine q_ci0 C (c_X4_readLetter l S t n ht hn hn60 hch s hs) myX4_readLetter mlX4_52 q_s103 ⟨by decide, by decide⟩ (Nat.le_of_ble_eq_true rfl) dX4_readOrder_1 ?_
  refine q_istore_n (lv' := [(1, .int (uP_nx t n s.2)), (0, .ref 103)]) C dX4_readOrder_4 rfl (by decide) rfl ?_
  refine q_aload_n C dX4_readOrder_5 rfl rfl ?_
  refine q_iload_n C dX4_readOrder_6 rfl rfl ?_
  by_cases h_7 : uO_hasM (uP_nx t n s.2)
  · refine q_ci1 C (q_Fi.cv (if_pos h_7) (c_X4_hasMatter l (uO_at S (uP_lt t n s)) (uP_nx t n s.2))) myX4_hasMatter mlX4_56 q_s103 ⟨by decide, by decide⟩ (Nat.le_of_ble_eq_true rfl) dX4_readOrder_7 ?_
    refine q_if_eq (tgt := 20) C dX4_readOrder_10 (by decide) (fun h9 => absurd h9 (by decide)) (fun _ => ?_)
    refine q_aload_n C dX4_readOrder_13 rfl rfl ?_
    refine q_ci0 C (c_X4_readDigit l S t n ht hn hn60 hch (uP_lt t n s) (uP_lt_le _ _ hs)) myX4_readDigit mlX4_60 q_s103 ⟨by decide, by decide⟩ (Nat.le_of_ble_eq_true rfl) dX4_readOrder_14 ?_
    refine q_goto (tgt := 21) C dX4_readOrder_17 (by decide) ?_
    refine q_istore_n (lv' := [(2, .int (uP_dv t n (uP_lt t n s))), (1, .int (uP_nx t n s.2)), (0, .ref 103)]) C dX4_readOrder_21 rfl (by decide) rfl ?_
    refine q_aload_n C dX4_readOrder_22 rfl rfl ?_
    refine q_iload_n C dX4_readOrder_23 rfl rfl ?_
    refine q_ci1 C (q_Fi.cv (if_pos h_7) (c_X4_hasMatter l (uO_at S (uP_dg t n (uP_lt t n s))) (uP_nx t n s.2))) myX4_hasMatter mlX4_56 q_s103 ⟨by decide, by decide⟩ (Nat.le_of_ble_eq_true rfl) dX4_readOrder_24 ?_
    refine q_if_eq (tgt := 44) C dX4_readOrder_27 (by decide) (fun h9 => absurd h9 (by decide)) (fun _ => ?_)
    refine q_aload_n C dX4_readOrder_30 rfl rfl ?_
    refine q_iload_n C dX4_readOrder_31 rfl rfl ?_
    by_cases h_32 : uO_hasG (uP_nx t n s.2)
    · refine q_ci1 C (q_Fi.cv (if_pos h_32) (c_X4_hasGuild l (uO_at S (uP_dg t n (uP_lt t n s))) (uP_nx t n s.2))) myX4_hasGuild mlX4_63 q_s103 ⟨by decide, by decide⟩ (Nat.le_of_ble_eq_true rfl) dX4_readOrder_32 ?_
      refine q_if_eq (tgt := 44) C dX4_readOrder_35 (by decide) (fun h9 => absurd h9 (by decide)) (fun _ => ?_)
      refine q_aload_n C dX4_readOrder_38 rfl rfl ?_
      refine q_bipush (v := 46) C dX4_readOrder_39 (by decide) ?_
      refine q_cv1 C (c_X4_readSign l S t n ht hn hn60 hch (uP_dg t n (uP_lt t n s)) (uP_dg_le _ _ (uP_lt_le _ _ hs)) 46 (by decide)) myX4_readSign mlX4_48 q_s103 ⟨by decide, by decide⟩ (Nat.le_of_ble_eq_true rfl) dX4_readOrder_41 ?_
      refine q_aload_n C dX4_readOrder_44 rfl rfl ?_
      refine q_iload_n C dX4_readOrder_45 rfl rfl ?_
      refine q_ci1 C (q_Fi.cv (if_pos h_32) (c_X4_hasGuild l (uO_at S (uP_sg t n 46 (uP_dg t n (uP_lt t n s)))) (uP_nx t n s.2))) myX4_hasGuild mlX4_63 q_s103 ⟨by decide, by decide⟩ (Nat.le_of_ble_eq_true rfl) dX4_readOrder_46 ?_
      refine q_if_eq (tgt := 59) C dX4_readOrder_49 (by decide) (fun h9 => absurd h9 (by decide)) (fun _ => ?_)
      refine q_aload_n C dX4_readOrder_52 rfl rfl ?_
      refine q_ci0 C (c_X4_readDigit l S t n ht hn hn60 hch (uP_sg t n 46 (uP_dg t n (uP_lt t n s))) (uP_sg_le _ _ (by decide) (uP_dg_le _ _ (uP_lt_le _ _ hs)))) myX4_readDigit mlX4_60 q_s103 ⟨by decide, by decide⟩ (Nat.le_of_ble_eq_true rfl) dX4_readOrder_53 ?_
      refine q_goto (tgt := 60) C dX4_readOrder_56 (by decide) ?_
      refine q_istore_n (lv' := [(3, .int (uP_dv t n (uP_sg t n 46 (uP_dg t n (uP_lt t n s))))), (2, .int (uP_dv t n (uP_lt t n s))), (1, .int (uP_nx t n s.2)), (0, .ref 103)]) C dX4_readOrder_60 rfl (by decide) rfl ?_
      refine q_aload_n C dX4_readOrder_61 rfl rfl ?_
      refine q_iload_n C dX4_readOrder_62 rfl rfl ?_
      refine q_ci1 C (c_X4_readLast l S t n ht hn hn60 hch (uP_dg t n (uP_sg t n 46 (uP_dg t n (uP_lt t n s)))) (uP_dg_le _ _ (uP_sg_le _ _ (by decide) (uP_dg_le _ _ (uP_lt_le _ _ hs)))) (uP_nx t n s.2)) myX4_readLast mlX4_66 q_s103 ⟨by decide, by decide⟩ (Nat.le_of_ble_eq_true rfl) dX4_readOrder_63 ?_
      refine q_istore (lv' := [(4, .int (uP_lv t n (uP_nx t n s.2) (uP_dg t n (uP_sg t n 46 (uP_dg t n (uP_lt t n s)))))), (3, .int (uP_dv t n (uP_sg t n 46 (uP_dg t n (uP_lt t n s))))), (2, .int (uP_dv t n (uP_lt t n s))), (1, .int (uP_nx t n s.2)), (0, .ref 103)]) C dX4_readOrder_66 (by decide) rfl ?_
      refine q_aload_n C dX4_readOrder_68 rfl rfl ?_
      rcases q_bc ((uP_ls t n (uP_nx t n s.2) (uP_dg t n (uP_sg t n 46 (uP_dg t n (uP_lt t n s)))))).1 with hb_69 | hb_69
      · refine q_getI (x := 0) C flX4_41 q_s103 rfl dX4_readOrder_69 (congrArg uO_b hb_69) ?_
        refine q_if_ne (tgt := 135) C dX4_readOrder_72 (by decide) (fun h9 => absurd h9 (by decide)) (fun _ => ?_)
        refine q_aload_n C dX4_readOrder_75 rfl rfl ?_
        refine q_getI (x := nI cnt) C flX4_38 q_s103 rfl dX4_readOrder_76 ((uO_at_k S (uP_ls t n (uP_nx t n s.2) (uP_dg t n (uP_sg t n 46 (uP_dg t n (uP_lt t n s))))) 5 (by decide) (by decide)).trans hcnt) ?_
        refine q_bipush (v := 30) C dX4_readOrder_79 (by decide) ?_
        refine q_icmp_geN (a := cnt) (b := 30) (tgt := 135) C dX4_readOrder_81 (by decide) rfl rfl (by omega) (by omega) (fun c_81 => ?_) (fun c_81 => ?_)
        · exact hret _ _ _ dX4_readOrder_135 (by have e5 : uP_s5 t n s = (uP_ls t n (uP_nx t n s.2) (uP_dg t n (uP_sg t n 46 (uP_dg t n (uP_lt t n s))))) := by {simp only [uP_s5, uP_s4, uP_s3, uP_s2, if_pos h_7, if_pos h_32]}; rw [uO_ordS, e5, if_pos hb_69, if_neg (Nat.not_lt.mpr c_81)])
        · refine q_aload_n C dX4_readOrder_84 rfl rfl ?_
          refine q_getR C flX4_19 q_s103 rfl dX4_readOrder_85 ?_
          refine q_aload_n C dX4_readOrder_88 rfl rfl ?_
          refine q_getI (x := nI cnt) C flX4_38 q_s103 rfl dX4_readOrder_89 ((uO_at_k S (uP_ls t n (uP_nx t n s.2) (uP_dg t n (uP_sg t n 46 (uP_dg t n (uP_lt t n s))))) 5 (by decide) (by decide)).trans hcnt) ?_
          refine q_iload_n C dX4_readOrder_92 rfl rfl ?_
          refine q_iastN (i := cnt) C rfl q_s105 (by omega) (by decide) dX4_readOrder_93 ?_
          refine q_aload_n C dX4_readOrder_94 rfl rfl ?_
          refine q_getR C flX4_23 q_s103 rfl dX4_readOrder_95 ?_
          refine q_aload_n C dX4_readOrder_98 rfl rfl ?_
          refine q_getI (x := nI cnt) C flX4_38 q_s103 rfl dX4_readOrder_99 ((uO_at_k S (uP_ls t n (uP_nx t n s.2) (uP_dg t n (uP_sg t n 46 (uP_dg t n (uP_lt t n s))))) 5 (by decide) (by decide)).trans hcnt) ?_
          refine q_iload_n C dX4_readOrder_102 rfl rfl ?_
          refine q_iastN (i := cnt) C rfl q_s106 (by omega) (by decide) dX4_readOrder_103 ?_
          refine q_aload_n C dX4_readOrder_104 rfl rfl ?_
          refine q_getR C flX4_26 q_s103 rfl dX4_readOrder_105 ?_
          refine q_aload_n C dX4_readOrder_108 rfl rfl ?_
          refine q_getI (x := nI cnt) C flX4_38 q_s103 rfl dX4_readOrder_109 ((uO_at_k S (uP_ls t n (uP_nx t n s.2) (uP_dg t n (uP_sg t n 46 (uP_dg t n (uP_lt t n s))))) 5 (by decide) (by decide)).trans hcnt) ?_
          refine q_iload_n C dX4_readOrder_112 rfl rfl ?_
          refine q_iastN (i := cnt) C rfl q_s107 (by omega) (by decide) dX4_readOrder_113 ?_
          refine q_aload_n C dX4_readOrder_114 rfl rfl ?_
          refine q_getR C flX4_29 q_s103 rfl dX4_readOrder_115 ?_
          refine q_aload_n C dX4_readOrder_118 rfl rfl ?_
          refine q_getI (x := nI cnt) C flX4_38 q_s103 rfl dX4_readOrder_119 ((uO_at_k S (uP_ls t n (uP_nx t n s.2) (uP_dg t n (uP_sg t n 46 (uP_dg t n (uP_lt t n s))))) 5 (by decide) (by decide)).trans hcnt) ?_
          refine q_iload C dX4_readOrder_122 rfl ?_
          refine q_iastN (i := cnt) C rfl q_s108 (by omega) (by decide) dX4_readOrder_124 ?_
          refine q_aload_n C dX4_readOrder_125 rfl rfl ?_
          refine q_dup C rfl dX4_readOrder_126 ?_
          refine q_getI (x := nI cnt) C flX4_38 q_s103 rfl dX4_readOrder_127 ((uO_at_k S (uP_ls t n (uP_nx t n s.2) (uP_dg t n (uP_sg t n 46 (uP_dg t n (uP_lt t n s))))) 5 (by decide) (by decide)).trans hcnt) ?_
          refine q_iconst (v := 1) C dX4_readOrder_130 (by decide) ?_
          refine q_iaddN (a := cnt) (b := 1) C dX4_readOrder_131 rfl rfl ?_
          refine q_put (ty9 := .int) C flX4_38 q_s103 rfl (fun _ _ _ h => by cases h; exact ⟨rfl, by decide +kernel⟩) rfl rfl dX4_readOrder_132 ?_
          exact hret _ _ _ dX4_readOrder_135 (by have e5 : uP_s5 t n s = (uP_ls t n (uP_nx t n s.2) (uP_dg t n (uP_sg t n 46 (uP_dg t n (uP_lt t n s))))) := by {simp only [uP_s5, uP_s4, uP_s3, uP_s2, if_pos h_7, if_pos h_32]}; have em : uP_m t n s = uP_dv t n (uP_lt t n s) := by {simp only [uP_m, if_pos h_7, if_pos h_32]}; have eg : uP_g t n s = uP_dv t n (uP_sg t n 46 (uP_dg t n (uP_lt t n s))) := by {simp only [uP_g, uP_s3, uP_s2, if_pos h_7, if_pos h_32]}; have ev : uP_v t n s = uP_lv t n (uP_nx t n s.2) (uP_dg t n (uP_sg t n 46 (uP_dg t n (uP_lt t n s)))) := by {simp only [uP_v, uP_s4, uP_s3, uP_s2, if_pos h_7, if_pos h_32]}; rw [uO_at_rec, uO_ordS, e5, if_pos hb_69, if_pos c_81, em, eg, ev])
      · refine q_getI (x := 1) C flX4_41 q_s103 rfl dX4_readOrder_69 (congrArg uO_b hb_69) ?_
        refine q_if_ne (tgt := 135) C dX4_readOrder_72 (by decide) (fun _ => ?_) (fun h9 => absurd h9 (by decide))
        exact hret _ _ _ dX4_readOrder_135 (by have e5 : uP_s5 t n s = (uP_ls t n (uP_nx t n s.2) (uP_dg t n (uP_sg t n 46 (uP_dg t n (uP_lt t n s))))) := by {simp only [uP_s5, uP_s4, uP_s3, uP_s2, if_pos h_7, if_pos h_32]}; rw [uO_ordS, e5, if_neg (by rw [hb_69]; decide)])
    · refine q_ci1 C (q_Fi.cv (if_neg h_32) (c_X4_hasGuild l (uO_at S (uP_dg t n (uP_lt t n s))) (uP_nx t n s.2))) myX4_hasGuild mlX4_63 q_s103 ⟨by decide, by decide⟩ (Nat.le_of_ble_eq_true rfl) dX4_readOrder_32 ?_
      refine q_if_eq (tgt := 44) C dX4_readOrder_35 (by decide) (fun _ => ?_) (fun h9 => absurd h9 (by decide))
      refine q_aload_n C dX4_readOrder_44 rfl rfl ?_
      refine q_iload_n C dX4_readOrder_45 rfl rfl ?_
      refine q_ci1 C (q_Fi.cv (if_neg h_32) (c_X4_hasGuild l (uO_at S (uP_dg t n (uP_lt t n s))) (uP_nx t n s.2))) myX4_hasGuild mlX4_63 q_s103 ⟨by decide, by decide⟩ (Nat.le_of_ble_eq_true rfl) dX4_readOrder_46 ?_
      refine q_if_eq (tgt := 59) C dX4_readOrder_49 (by decide) (fun _ => ?_) (fun h9 => absurd h9 (by decide))
      refine q_iconst (v := 0) C dX4_readOrder_59 (by decide) ?_
      refine q_istore_n (lv' := [(3, .int 0), (2, .int (uP_dv t n (uP_lt t n s))), (1, .int (uP_nx t n s.2)), (0, .ref 103)]) C dX4_readOrder_60 rfl (by decide) rfl ?_
      refine q_aload_n C dX4_readOrder_61 rfl rfl ?_
      refine q_iload_n C dX4_readOrder_62 rfl rfl ?_
      refine q_ci1 C (c_X4_readLast l S t n ht hn hn60 hch (uP_dg t n (uP_lt t n s)) (uP_dg_le _ _ (uP_lt_le _ _ hs)) (uP_nx t n s.2)) myX4_readLast mlX4_66 q_s103 ⟨by decide, by decide⟩ (Nat.le_of_ble_eq_true rfl) dX4_readOrder_63 ?_
      refine q_istore (lv' := [(4, .int (uP_lv t n (uP_nx t n s.2) (uP_dg t n (uP_lt t n s)))), (3, .int 0), (2, .int (uP_dv t n (uP_lt t n s))), (1, .int (uP_nx t n s.2)), (0, .ref 103)]) C dX4_readOrder_66 (by decide) rfl ?_
      refine q_aload_n C dX4_readOrder_68 rfl rfl ?_
      rcases q_bc ((uP_ls t n (uP_nx t n s.2) (uP_dg t n (uP_lt t n s)))).1 with hb_69 | hb_69
      · refine q_getI (x := 0) C flX4_41 q_s103 rfl dX4_readOrder_69 (congrArg uO_b hb_69) ?_
        refine q_if_ne (tgt := 135) C dX4_readOrder_72 (by decide) (fun h9 => absurd h9 (by decide)) (fun _ => ?_)
        refine q_aload_n C dX4_readOrder_75 rfl rfl ?_
        refine q_getI (x := nI cnt) C flX4_38 q_s103 rfl dX4_readOrder_76 ((uO_at_k S (uP_ls t n (uP_nx t n s.2) (uP_dg t n (uP_lt t n s))) 5 (by decide) (by decide)).trans hcnt) ?_
        refine q_bipush (v := 30) C dX4_readOrder_79 (by decide) ?_
        refine q_icmp_geN (a := cnt) (b := 30) (tgt := 135) C dX4_readOrder_81 (by decide) rfl rfl (by omega) (by omega) (fun c_81 => ?_) (fun c_81 => ?_)
        · exact hret _ _ _ dX4_readOrder_135 (by have e5 : uP_s5 t n s = (uP_ls t n (uP_nx t n s.2) (uP_dg t n (uP_lt t n s))) := by {simp only [uP_s5, uP_s4, uP_s3, uP_s2, if_pos h_7, if_neg h_32]}; rw [uO_ordS, e5, if_pos hb_69, if_neg (Nat.not_lt.mpr c_81)])
        · refine q_aload_n C dX4_readOrder_84 rfl rfl ?_
          refine q_getR C flX4_19 q_s103 rfl dX4_readOrder_85 ?_
          refine q_aload_n C dX4_readOrder_88 rfl rfl ?_
          refine q_getI (x := nI cnt) C flX4_38 q_s103 rfl dX4_readOrder_89 ((uO_at_k S (uP_ls t n (uP_nx t n s.2) (uP_dg t n (uP_lt t n s))) 5 (by decide) (by decide)).trans hcnt) ?_
          refine q_iload_n C dX4_readOrder_92 rfl rfl ?_
          refine q_iastN (i := cnt) C rfl q_s105 (by omega) (by decide) dX4_readOrder_93 ?_
          refine q_aload_n C dX4_readOrder_94 rfl rfl ?_
          refine q_getR C flX4_23 q_s103 rfl dX4_readOrder_95 ?_
          refine q_aload_n C dX4_readOrder_98 rfl rfl ?_
          refine q_getI (x := nI cnt) C flX4_38 q_s103 rfl dX4_readOrder_99 ((uO_at_k S (uP_ls t n (uP_nx t n s.2) (uP_dg t n (uP_lt t n s))) 5 (by decide) (by decide)).trans hcnt) ?_
          refine q_iload_n C dX4_readOrder_102 rfl rfl ?_
          refine q_iastN (i := cnt) C rfl q_s106 (by omega) (by decide) dX4_readOrder_103 ?_
          refine q_aload_n C dX4_readOrder_104 rfl rfl ?_
          refine q_getR C flX4_26 q_s103 rfl dX4_readOrder_105 ?_
          refine q_aload_n C dX4_readOrder_108 rfl rfl ?_
          refine q_getI (x := nI cnt) C flX4_38 q_s103 rfl dX4_readOrder_109 ((uO_at_k S (uP_ls t n (uP_nx t n s.2) (uP_dg t n (uP_lt t n s))) 5 (by decide) (by decide)).trans hcnt) ?_
          refine q_iload_n C dX4_readOrder_112 rfl rfl ?_
          refine q_iastN (i := cnt) C rfl q_s107 (by omega) (by decide) dX4_readOrder_113 ?_
          refine q_aload_n C dX4_readOrder_114 rfl rfl ?_
          refine q_getR C flX4_29 q_s103 rfl dX4_readOrder_115 ?_
          refine q_aload_n C dX4_readOrder_118 rfl rfl ?_
          refine q_getI (x := nI cnt) C flX4_38 q_s103 rfl dX4_readOrder_119 ((uO_at_k S (uP_ls t n (uP_nx t n s.2) (uP_dg t n (uP_lt t n s))) 5 (by decide) (by decide)).trans hcnt) ?_
          refine q_iload C dX4_readOrder_122 rfl ?_
          refine q_iastN (i := cnt) C rfl q_s108 (by omega) (by decide) dX4_readOrder_124 ?_
          refine q_aload_n C dX4_readOrder_125 rfl rfl ?_
          refine q_dup C rfl dX4_readOrder_126 ?_
          refine q_getI (x := nI cnt) C flX4_38 q_s103 rfl dX4_readOrder_127 ((uO_at_k S (uP_ls t n (uP_nx t n s.2) (uP_dg t n (uP_lt t n s))) 5 (by decide) (by decide)).trans hcnt) ?_
          refine q_iconst (v := 1) C dX4_readOrder_130 (by decide) ?_
          refine q_iaddN (a := cnt) (b := 1) C dX4_readOrder_131 rfl rfl ?_
          refine q_put (ty9 := .int) C flX4_38 q_s103 rfl (fun _ _ _ h => by cases h; exact ⟨rfl, by decide +kernel⟩) rfl rfl dX4_readOrder_132 ?_
          exact hret _ _ _ dX4_readOrder_135 (by have e5 : uP_s5 t n s = (uP_ls t n (uP_nx t n s.2) (uP_dg t n (uP_lt t n s))) := by {simp only [uP_s5, uP_s4, uP_s3, uP_s2, if_pos h_7, if_neg h_32]}; have em : uP_m t n s = uP_dv t n (uP_lt t n s) := by {simp only [uP_m, if_pos h_7, if_neg h_32]}; have eg : uP_g t n s = 0 := by {simp only [uP_g, uP_s3, uP_s2, if_pos h_7, if_neg h_32]}; have ev : uP_v t n s = uP_lv t n (uP_nx t n s.2) (uP_dg t n (uP_lt t n s)) := by {simp only [uP_v, uP_s4, uP_s3, uP_s2, if_pos h_7, if_neg h_32]}; rw [uO_at_rec, uO_ordS, e5, if_pos hb_69, if_pos c_81, em, eg, ev])
      · refine q_getI (x := 1) C flX4_41 q_s103 rfl dX4_readOrder_69 (congrArg uO_b hb_69) ?_
        refine q_if_ne (tgt := 135) C dX4_readOrder_72 (by decide) (fun _ => ?_) (fun h9 => absurd h9 (by decide))
        exact hret _ _ _ dX4_readOrder_135 (by have e5 : uP_s5 t n s = (uP_ls t n (uP_nx t n s.2) (uP_dg t n (uP_lt t n s))) := by {simp only [uP_s5, uP_s4, uP_s3, uP_s2, if_pos h_7, if_neg h_32]}; rw [uO_ordS, e5, if_neg (by rw [hb_69]; decide)])
  · refine q_ci1 C (q_Fi.cv (if_neg h_7) (c_X4_hasMatter l (uO_at S (uP_lt t n s)) (uP_nx t n s.2))) myX4_hasMatter mlX4_56 q_s103 ⟨by decide, by decide⟩ (Nat.le_of_ble_eq_true rfl) dX4_readOrder_7 ?_
    refine q_if_eq (tgt := 20) C dX4_readOrder_10 (by decide) (fun _ => ?_) (fun h9 => absurd h9 (by decide))
    refine q_iconst (v := 0) C dX4_readOrder_20 (by decide) ?_
    refine q_istore_n (lv' := [(2, .int 0), (1, .int (uP_nx t n s.2)), (0, .ref 103)]) C dX4_readOrder_21 rfl (by decide) rfl ?_
    refine q_aload_n C dX4_readOrder_22 rfl rfl ?_
    refine q_iload_n C dX4_readOrder_23 rfl rfl ?_
    refine q_ci1 C (q_Fi.cv (if_neg h_7) (c_X4_hasMatter l (uO_at S (uP_lt t n s)) (uP_nx t n s.2))) myX4_hasMatter mlX4_56 q_s103 ⟨by decide, by decide⟩ (Nat.le_of_ble_eq_true rfl) dX4_readOrder_24 ?_
    refine q_if_eq (tgt := 44) C dX4_readOrder_27 (by decide) (fun _ => ?_) (fun h9 => absurd h9 (by decide))
    refine q_aload_n C dX4_readOrder_44 rfl rfl ?_
    refine q_iload_n C dX4_readOrder_45 rfl rfl ?_
    by_cases h_46 : uO_hasG (uP_nx t n s.2)
    · refine q_ci1 C (q_Fi.cv (if_pos h_46) (c_X4_hasGuild l (uO_at S (uP_lt t n s)) (uP_nx t n s.2))) myX4_hasGuild mlX4_63 q_s103 ⟨by decide, by decide⟩ (Nat.le_of_ble_eq_true rfl) dX4_readOrder_46 ?_
      refine q_if_eq (tgt := 59) C dX4_readOrder_49 (by decide) (fun h9 => absurd h9 (by decide)) (fun _ => ?_)
      refine q_aload_n C dX4_readOrder_52 rfl rfl ?_
      refine q_ci0 C (c_X4_readDigit l S t n ht hn hn60 hch (uP_lt t n s) (uP_lt_le _ _ hs)) myX4_readDigit mlX4_60 q_s103 ⟨by decide, by decide⟩ (Nat.le_of_ble_eq_true rfl) dX4_readOrder_53 ?_
      refine q_goto (tgt := 60) C dX4_readOrder_56 (by decide) ?_
      refine q_istore_n (lv' := [(3, .int (uP_dv t n (uP_lt t n s))), (2, .int 0), (1, .int (uP_nx t n s.2)), (0, .ref 103)]) C dX4_readOrder_60 rfl (by decide) rfl ?_
      refine q_aload_n C dX4_readOrder_61 rfl rfl ?_
      refine q_iload_n C dX4_readOrder_62 rfl rfl ?_
      refine q_ci1 C (c_X4_readLast l S t n ht hn hn60 hch (uP_dg t n (uP_lt t n s)) (uP_dg_le _ _ (uP_lt_le _ _ hs)) (uP_nx t n s.2)) myX4_readLast mlX4_66 q_s103 ⟨by decide, by decide⟩ (Nat.le_of_ble_eq_true rfl) dX4_readOrder_63 ?_
      refine q_istore (lv' := [(4, .int (uP_lv t n (uP_nx t n s.2) (uP_dg t n (uP_lt t n s)))), (3, .int (uP_dv t n (uP_lt t n s))), (2, .int 0), (1, .int (uP_nx t n s.2)), (0, .ref 103)]) C dX4_readOrder_66 (by decide) rfl ?_
      refine q_aload_n C dX4_readOrder_68 rfl rfl ?_
      rcases q_bc ((uP_ls t n (uP_nx t n s.2) (uP_dg t n (uP_lt t n s)))).1 with hb_69 | hb_69
      · refine q_getI (x := 0) C flX4_41 q_s103 rfl dX4_readOrder_69 (congrArg uO_b hb_69) ?_
        refine q_if_ne (tgt := 135) C dX4_readOrder_72 (by decide) (fun h9 => absurd h9 (by decide)) (fun _ => ?_)
        refine q_aload_n C dX4_readOrder_75 rfl rfl ?_
        refine q_getI (x := nI cnt) C flX4_38 q_s103 rfl dX4_readOrder_76 ((uO_at_k S (uP_ls t n (uP_nx t n s.2) (uP_dg t n (uP_lt t n s))) 5 (by decide) (by decide)).trans hcnt) ?_
        refine q_bipush (v := 30) C dX4_readOrder_79 (by decide) ?_
        refine q_icmp_geN (a := cnt) (b := 30) (tgt := 135) C dX4_readOrder_81 (by decide) rfl rfl (by omega) (by omega) (fun c_81 => ?_) (fun c_81 => ?_)
        · exact hret _ _ _ dX4_readOrder_135 (by have e5 : uP_s5 t n s = (uP_ls t n (uP_nx t n s.2) (uP_dg t n (uP_lt t n s))) := by {simp only [uP_s5, uP_s4, uP_s3, uP_s2, if_neg h_7, if_pos h_46]}; rw [uO_ordS, e5, if_pos hb_69, if_neg (Nat.not_lt.mpr c_81)])
        · refine q_aload_n C dX4_readOrder_84 rfl rfl ?_
          refine q_getR C flX4_19 q_s103 rfl dX4_readOrder_85 ?_
          refine q_aload_n C dX4_readOrder_88 rfl rfl ?_
          refine q_getI (x := nI cnt) C flX4_38 q_s103 rfl dX4_readOrder_89 ((uO_at_k S (uP_ls t n (uP_nx t n s.2) (uP_dg t n (uP_lt t n s))) 5 (by decide) (by decide)).trans hcnt) ?_
          refine q_iload_n C dX4_readOrder_92 rfl rfl ?_
          refine q_iastN (i := cnt) C rfl q_s105 (by omega) (by decide) dX4_readOrder_93 ?_
          refine q_aload_n C dX4_readOrder_94 rfl rfl ?_
          refine q_getR C flX4_23 q_s103 rfl dX4_readOrder_95 ?_
          refine q_aload_n C dX4_readOrder_98 rfl rfl ?_
          refine q_getI (x := nI cnt) C flX4_38 q_s103 rfl dX4_readOrder_99 ((uO_at_k S (uP_ls t n (uP_nx t n s.2) (uP_dg t n (uP_lt t n s))) 5 (by decide) (by decide)).trans hcnt) ?_
          refine q_iload_n C dX4_readOrder_102 rfl rfl ?_
          refine q_iastN (i := cnt) C rfl q_s106 (by omega) (by decide) dX4_readOrder_103 ?_
          refine q_aload_n C dX4_readOrder_104 rfl rfl ?_
          refine q_getR C flX4_26 q_s103 rfl dX4_readOrder_105 ?_
          refine q_aload_n C dX4_readOrder_108 rfl rfl ?_
          refine q_getI (x := nI cnt) C flX4_38 q_s103 rfl dX4_readOrder_109 ((uO_at_k S (uP_ls t n (uP_nx t n s.2) (uP_dg t n (uP_lt t n s))) 5 (by decide) (by decide)).trans hcnt) ?_
          refine q_iload_n C dX4_readOrder_112 rfl rfl ?_
          refine q_iastN (i := cnt) C rfl q_s107 (by omega) (by decide) dX4_readOrder_113 ?_
          refine q_aload_n C dX4_readOrder_114 rfl rfl ?_
          refine q_getR C flX4_29 q_s103 rfl dX4_readOrder_115 ?_
          refine q_aload_n C dX4_readOrder_118 rfl rfl ?_
          refine q_getI (x := nI cnt) C flX4_38 q_s103 rfl dX4_readOrder_119 ((uO_at_k S (uP_ls t n (uP_nx t n s.2) (uP_dg t n (uP_lt t n s))) 5 (by decide) (by decide)).trans hcnt) ?_
          refine q_iload C dX4_readOrder_122 rfl ?_
          refine q_iastN (i := cnt) C rfl q_s108 (by omega) (by decide) dX4_readOrder_124 ?_
          refine q_aload_n C dX4_readOrder_125 rfl rfl ?_
          refine q_dup C rfl dX4_readOrder_126 ?_
          refine q_getI (x := nI cnt) C flX4_38 q_s103 rfl dX4_readOrder_127 ((uO_at_k S (uP_ls t n (uP_nx t n s.2) (uP_dg t n (uP_lt t n s))) 5 (by decide) (by decide)).trans hcnt) ?_
          refine q_iconst (v := 1) C dX4_readOrder_130 (by decide) ?_
          refine q_iaddN (a := cnt) (b := 1) C dX4_readOrder_131 rfl rfl ?_
          refine q_put (ty9 := .int) C flX4_38 q_s103 rfl (fun _ _ _ h => by cases h; exact ⟨rfl, by decide +kernel⟩) rfl rfl dX4_readOrder_132 ?_
          exact hret _ _ _ dX4_readOrder_135 (by have e5 : uP_s5 t n s = (uP_ls t n (uP_nx t n s.2) (uP_dg t n (uP_lt t n s))) := by {simp only [uP_s5, uP_s4, uP_s3, uP_s2, if_neg h_7, if_pos h_46]}; have em : uP_m t n s = 0 := by {simp only [uP_m, if_neg h_7, if_pos h_46]}; have eg : uP_g t n s = uP_dv t n (uP_lt t n s) := by {simp only [uP_g, uP_s3, uP_s2, if_neg h_7, if_pos h_46]}; have ev : uP_v t n s = uP_lv t n (uP_nx t n s.2) (uP_dg t n (uP_lt t n s)) := by {simp only [uP_v, uP_s4, uP_s3, uP_s2, if_neg h_7, if_pos h_46]}; rw [uO_at_rec, uO_ordS, e5, if_pos hb_69, if_pos c_81, em, eg, ev])
      · refine q_getI (x := 1) C flX4_41 q_s103 rfl dX4_readOrder_69 (congrArg uO_b hb_69) ?_
        refine q_if_ne (tgt := 135) C dX4_readOrder_72 (by decide) (fun _ => ?_) (fun h9 => absurd h9 (by decide))
        exact hret _ _ _ dX4_readOrder_135 (by have e5 : uP_s5 t n s = (uP_ls t n (uP_nx t n s.2) (uP_dg t n (uP_lt t n s))) := by {simp only [uP_s5, uP_s4, uP_s3, uP_s2, if_neg h_7, if_pos h_46]}; rw [uO_ordS, e5, if_neg (by rw [hb_69]; decide)])
    · refine q_ci1 C (q_Fi.cv (if_neg h_46) (c_X4_hasGuild l (uO_at S (uP_lt t n s)) (uP_nx t n s.2))) myX4_hasGuild mlX4_63 q_s103 ⟨by decide, by decide⟩ (Nat.le_of_ble_eq_true rfl) dX4_readOrder_46 ?_
      refine q_if_eq (tgt := 59) C dX4_readOrder_49 (by decide) (fun _ => ?_) (fun h9 => absurd h9 (by decide))
      refine q_iconst (v := 0) C dX4_readOrder_59 (by decide) ?_
      refine q_istore_n (lv' := [(3, .int 0), (2, .int 0), (1, .int (uP_nx t n s.2)), (0, .ref 103)]) C dX4_readOrder_60 rfl (by decide) rfl ?_
      refine q_aload_n C dX4_readOrder_61 rfl rfl ?_
      refine q_iload_n C dX4_readOrder_62 rfl rfl ?_
      refine q_ci1 C (c_X4_readLast l S t n ht hn hn60 hch (uP_lt t n s) (uP_lt_le _ _ hs) (uP_nx t n s.2)) myX4_readLast mlX4_66 q_s103 ⟨by decide, by decide⟩ (Nat.le_of_ble_eq_true rfl) dX4_readOrder_63 ?_
      refine q_istore (lv' := [(4, .int (uP_lv t n (uP_nx t n s.2) (uP_lt t n s))), (3, .int 0), (2, .int 0), (1, .int (uP_nx t n s.2)), (0, .ref 103)]) C dX4_readOrder_66 (by decide) rfl ?_
      refine q_aload_n C dX4_readOrder_68 rfl rfl ?_
      rcases q_bc ((uP_ls t n (uP_nx t n s.2) (uP_lt t n s))).1 with hb_69 | hb_69
      · refine q_getI (x := 0) C flX4_41 q_s103 rfl dX4_readOrder_69 (congrArg uO_b hb_69) ?_
        refine q_if_ne (tgt := 135) C dX4_readOrder_72 (by decide) (fun h9 => absurd h9 (by decide)) (fun _ => ?_)
        refine q_aload_n C dX4_readOrder_75 rfl rfl ?_
        refine q_getI (x := nI cnt) C flX4_38 q_s103 rfl dX4_readOrder_76 ((uO_at_k S (uP_ls t n (uP_nx t n s.2) (uP_lt t n s)) 5 (by decide) (by decide)).trans hcnt) ?_
        refine q_bipush (v := 30) C dX4_readOrder_79 (by decide) ?_
        refine q_icmp_geN (a := cnt) (b := 30) (tgt := 135) C dX4_readOrder_81 (by decide) rfl rfl (by omega) (by omega) (fun c_81 => ?_) (fun c_81 => ?_)
        · exact hret _ _ _ dX4_readOrder_135 (by have e5 : uP_s5 t n s = (uP_ls t n (uP_nx t n s.2) (uP_lt t n s)) := by {simp only [uP_s5, uP_s4, uP_s3, uP_s2, if_neg h_7, if_neg h_46]}; rw [uO_ordS, e5, if_pos hb_69, if_neg (Nat.not_lt.mpr c_81)])
        · refine q_aload_n C dX4_readOrder_84 rfl rfl ?_
          refine q_getR C flX4_19 q_s103 rfl dX4_readOrder_85 ?_
          refine q_aload_n C dX4_readOrder_88 rfl rfl ?_
          refine q_getI (x := nI cnt) C flX4_38 q_s103 rfl dX4_readOrder_89 ((uO_at_k S (uP_ls t n (uP_nx t n s.2) (uP_lt t n s)) 5 (by decide) (by decide)).trans hcnt) ?_
          refine q_iload_n C dX4_readOrder_92 rfl rfl ?_
          refine q_iastN (i := cnt) C rfl q_s105 (by omega) (by decide) dX4_readOrder_93 ?_
          refine q_aload_n C dX4_readOrder_94 rfl rfl ?_
          refine q_getR C flX4_23 q_s103 rfl dX4_readOrder_95 ?_
          refine q_aload_n C dX4_readOrder_98 rfl rfl ?_
          refine q_getI (x := nI cnt) C flX4_38 q_s103 rfl dX4_readOrder_99 ((uO_at_k S (uP_ls t n (uP_nx t n s.2) (uP_lt t n s)) 5 (by decide) (by decide)).trans hcnt) ?_
          refine q_iload_n C dX4_readOrder_102 rfl rfl ?_
          refine q_iastN (i := cnt) C rfl q_s106 (by omega) (by decide) dX4_readOrder_103 ?_
          refine q_aload_n C dX4_readOrder_104 rfl rfl ?_
          refine q_getR C flX4_26 q_s103 rfl dX4_readOrder_105 ?_
          refine q_aload_n C dX4_readOrder_108 rfl rfl ?_
          refine q_getI (x := nI cnt) C flX4_38 q_s103 rfl dX4_readOrder_109 ((uO_at_k S (uP_ls t n (uP_nx t n s.2) (uP_lt t n s)) 5 (by decide) (by decide)).trans hcnt) ?_
          refine q_iload_n C dX4_readOrder_112 rfl rfl ?_
          refine q_iastN (i := cnt) C rfl q_s107 (by omega) (by decide) dX4_readOrder_113 ?_
          refine q_aload_n C dX4_readOrder_114 rfl rfl ?_
          refine q_getR C flX4_29 q_s103 rfl dX4_readOrder_115 ?_
          refine q_aload_n C dX4_readOrder_118 rfl rfl ?_
          refine q_getI (x := nI cnt) C flX4_38 q_s103 rfl dX4_readOrder_119 ((uO_at_k S (uP_ls t n (uP_nx t n s.2) (uP_lt t n s)) 5 (by decide) (by decide)).trans hcnt) ?_
          refine q_iload C dX4_readOrder_122 rfl ?_
          refine q_iastN (i := cnt) C rfl q_s108 (by omega) (by decide) dX4_readOrder_124 ?_
          refine q_aload_n C dX4_readOrder_125 rfl rfl ?_
          refine q_dup C rfl dX4_readOrder_126 ?_
          refine q_getI (x := nI cnt) C flX4_38 q_s103 rfl dX4_readOrder_127 ((uO_at_k S (uP_ls t n (uP_nx t n s.2) (uP_lt t n s)) 5 (by decide) (by decide)).trans hcnt) ?_
          refine q_iconst (v := 1) C dX4_readOrder_130 (by decide) ?_
          refine q_iaddN (a := cnt) (b := 1) C dX4_readOrder_131 rfl rfl ?_
          refine q_put (ty9 := .int) C flX4_38 q_s103 rfl (fun _ _ _ h => by cases h; exact ⟨rfl, by decide +kernel⟩) rfl rfl dX4_readOrder_132 ?_
          exact hret _ _ _ dX4_readOrder_135 (by have e5 : uP_s5 t n s = (uP_ls t n (uP_nx t n s.2) (uP_lt t n s)) := by {simp only [uP_s5, uP_s4, uP_s3, uP_s2, if_neg h_7, if_neg h_46]}; have em : uP_m t n s = 0 := by {simp only [uP_m, if_neg h_7, if_neg h_46]}; have eg : uP_g t n s = 0 := by {simp only [uP_g, uP_s3, uP_s2, if_neg h_7, if_neg h_46]}; have ev : uP_v t n s = uP_lv t n (uP_nx t n s.2) (uP_lt t n s) := by {simp only [uP_v, uP_s4, uP_s3, uP_s2, if_neg h_7, if_neg h_46]}; rw [uO_at_rec, uO_ordS, e5, if_pos hb_69, if_pos c_81, em, eg, ev])
      · refine q_getI (x := 1) C flX4_41 q_s103 rfl dX4_readOrder_69 (congrArg uO_b hb_69) ?_
        refine q_if_ne (tgt := 135) C dX4_readOrder_72 (by decide) (fun _ => ?_) (fun h9 => absurd h9 (by decide))
        exact hret _ _ _ dX4_readOrder_135 (by have e5 : uP_s5 t n s = (uP_ls t n (uP_nx t n s.2) (uP_lt t n s)) := by {simp only [uP_s5, uP_s4, uP_s3, uP_s2, if_neg h_7, if_neg h_46]}; rw [uO_ordS, e5, if_neg (by rw [hb_69]; decide)])
set_option maxHeartbeats 1000000 in
theorem c_X4_readText (l : Launch) (S : q_St) (t : Nat → Int32) (n : Nat) (ht : S 104 = t) (hn : S 103 1 = nI n) (hn60 : n ≤ 60) (hch : ∀ j, j < 60 → ∃ q, q < 65536 ∧ t j = nI q) : q_Fi l yX4_readText kX4_readText 7 [.ref 103] S (if ¬ (uO_text t n S).2.1 = true then 1 else 0) (uO_fin (uO_text t n S)) := by
  refine q_Fi_of (maxL := 2) rfl (by decide +kernel) (fun ad => Nat.le_of_ble_eq_true rfl) (by split <;> rfl) ?_
  intro K C hret
  have C : q_Cx K cX4_readText RX4 7 2 := C
  show q_V l K 0 [(0, .ref 103)] [] S
  refine q_aload_n C dX4_readText_0 rfl rfl ?_
  refine q_iconst (v := 0) C dX4_readText_1 (by decide) ?_
  refine q_put (ty9 := .int) C flX4_35 q_s103 rfl (fun _ _ _ h => by cases h; exact ⟨rfl, by decide +kernel⟩) rfl rfl dX4_readText_2 ?_
  refine q_aload_n C dX4_readText_5 rfl rfl ?_
  refine q_iconst (v := 0) C dX4_readText_6 (by decide) ?_
  refine q_put (ty9 := .int) C flX4_38 q_s103 rfl (fun _ _ _ h => by cases h; exact ⟨rfl, by decide +kernel⟩) rfl rfl dX4_readText_7 ?_
  refine q_aload_n C dX4_readText_10 rfl rfl ?_
  refine q_iconst (v := 0) C dX4_readText_11 (by decide) ?_
  refine q_put (ty9 := .boolean) C flX4_41 q_s103 rfl (fun _ _ _ h => by cases h; exact ⟨rfl, by decide +kernel⟩) rfl rfl dX4_readText_12 ?_
  refine q_iconst (v := 0) C dX4_readText_15 (by decide) ?_
  refine q_istore_n (lv' := [(1, .int 0), (0, .ref 103)]) C dX4_readText_16 rfl (by decide) rfl ?_
  have loop_17 : ∀ (n_17 i_17 : Nat) (T : q_St) (cnt : Nat) (s : Bool × Nat), i_17 + n_17 = 31 → T 104 = t → T 103 1 = nI n → T 103 5 = nI cnt → cnt ≤ 30 → s.2 ≤ n → uO_loop t n n_17 T cnt s = uO_text t n S → q_V l K 17 [(0, .ref 103), (1, .int (nI i_17))] [] (uO_at T s) := by
    intro n_17
    induction n_17 with
    | zero =>
      intro i_17 T cnt s hi_17 ht9 hn9 hcnt9 hc309 hs hr_17
      have e_17 : i_17 = 31 := by omega
      refine q_iload_n C dX4_readText_17 rfl rfl ?_
      refine q_bipush (v := 30) C dX4_readText_18 (by decide) ?_
      refine q_icmp_gtN (a := i_17) (b := 30) (tgt := 60) C dX4_readText_20 (by decide) rfl rfl (by omega) (by omega) (fun c_20 => ?_) (fun c_20 => absurd c_20 (by omega))
      refine q_aload_n C dX4_readText_60 rfl rfl ?_
      refine q_aload_n C dX4_readText_61 rfl rfl ?_
      rcases q_bc (s).1 with hb_62 | hb_62
      · refine q_getI (x := 0) C flX4_41 q_s103 rfl dX4_readText_62 (congrArg uO_b hb_62) ?_
        refine q_if_eq (tgt := 75) C dX4_readText_65 (by decide) (fun _ => ?_) (fun h9 => absurd h9 (by decide))
        refine q_iconst (v := (-1)) C dX4_readText_75 (by decide) ?_
        refine q_put (ty9 := .int) C flX4_15 q_s103 rfl (fun _ _ _ h => by cases h; exact ⟨rfl, by decide +kernel⟩) rfl rfl dX4_readText_76 ?_
        refine q_aload_n C dX4_readText_79 rfl rfl ?_
        refine q_iconst (v := 0) C dX4_readText_80 (by decide) ?_
        refine q_put (ty9 := .int) C flX4_32 q_s103 rfl (fun _ _ _ h => by cases h; exact ⟨rfl, by decide +kernel⟩) rfl rfl dX4_readText_81 ?_
        refine q_aload_n C dX4_readText_84 rfl rfl ?_
        refine q_getI (x := 0) C flX4_41 q_s103 rfl dX4_readText_85 (congrArg uO_b hb_62) ?_
        refine q_if_ne (tgt := 95) C dX4_readText_88 (by decide) (fun h9 => absurd h9 (by decide)) (fun _ => ?_)
        refine q_iconst (v := 1) C dX4_readText_91 (by decide) ?_
        refine q_goto (tgt := 96) C dX4_readText_92 (by decide) ?_
        exact hret _ _ _ _ dX4_readText_96 (by have er : uO_text t n S = (T, s) := (by rw [← hr_17]; rfl); rw [er]; simp [hb_62]) (by have er : uO_text t n S = (T, s) := (by rw [← hr_17]; rfl); rw [er]; simp [uO_fin, hb_62])
      · refine q_getI (x := 1) C flX4_41 q_s103 rfl dX4_readText_62 (congrArg uO_b hb_62) ?_
        refine q_if_eq (tgt := 75) C dX4_readText_65 (by decide) (fun h9 => absurd h9 (by decide)) (fun _ => ?_)
        refine q_aload_n C dX4_readText_68 rfl rfl ?_
        refine q_getI (x := nI s.2) C flX4_35 q_s103 rfl dX4_readText_69 (uO_at_2 T s) ?_
        refine q_goto (tgt := 76) C dX4_readText_72 (by decide) ?_
        refine q_put (ty9 := .int) C flX4_15 q_s103 rfl (fun _ _ _ h => by cases h; exact ⟨rfl, by decide +kernel⟩) rfl rfl dX4_readText_76 ?_
        refine q_aload_n C dX4_readText_79 rfl rfl ?_
        refine q_iconst (v := 0) C dX4_readText_80 (by decide) ?_
        refine q_put (ty9 := .int) C flX4_32 q_s103 rfl (fun _ _ _ h => by cases h; exact ⟨rfl, by decide +kernel⟩) rfl rfl dX4_readText_81 ?_
        refine q_aload_n C dX4_readText_84 rfl rfl ?_
        refine q_getI (x := 1) C flX4_41 q_s103 rfl dX4_readText_85 (congrArg uO_b hb_62) ?_
        refine q_if_ne (tgt := 95) C dX4_readText_88 (by decide) (fun _ => ?_) (fun h9 => absurd h9 (by decide))
        refine q_iconst (v := 0) C dX4_readText_95 (by decide) ?_
        exact hret _ _ _ _ dX4_readText_96 (by have er : uO_text t n S = (T, s) := (by rw [← hr_17]; rfl); rw [er]; simp [hb_62]) (by have er : uO_text t n S = (T, s) := (by rw [← hr_17]; rfl); rw [er]; simp [uO_fin, hb_62])
    | succ n_17 ih_17 =>
      intro i_17 T cnt s hi_17 ht9 hn9 hcnt9 hc309 hs hr_17
      refine q_iload_n C dX4_readText_17 rfl rfl ?_
      refine q_bipush (v := 30) C dX4_readText_18 (by decide) ?_
      refine q_icmp_gtN (a := i_17) (b := 30) (tgt := 60) C dX4_readText_20 (by decide) rfl rfl (by omega) (by omega) (fun c_20 => absurd c_20 (by omega)) (fun c_20 => ?_)
      refine q_aload_n C dX4_readText_23 rfl rfl ?_
      rcases q_bc (s).1 with hb_24 | hb_24
      · refine q_getI (x := 0) C flX4_41 q_s103 rfl dX4_readText_24 (congrArg uO_b hb_24) ?_
        refine q_if_ne (tgt := 60) C dX4_readText_27 (by decide) (fun h9 => absurd h9 (by decide)) (fun _ => ?_)
        refine q_aload_n C dX4_readText_30 rfl rfl ?_
        refine q_cv0 C (c_X4_readOrder l T t n ht9 hn9 hn60 hch cnt hcnt9 hc309 s hs) myX4_readOrder mlX4_45 q_s103 ⟨by decide, by decide⟩ (Nat.le_of_ble_eq_true rfl) dX4_readText_31 ?_
        have hs5 := uP_s5_le t n hs
        refine q_aload_n C dX4_readText_34 rfl rfl ?_
        refine q_getI (x := nI ((uP_s5 t n s).2)) C flX4_35 q_s103 rfl dX4_readText_35 (uO_at_2 (uO_ordS t n T cnt s) (uP_s5 t n s)) ?_
        refine q_aload_n C dX4_readText_38 rfl rfl ?_
        refine q_getI (x := nI n) C flX4_32 q_s103 rfl dX4_readText_39 ((uO_at_k (uO_ordS t n T cnt s) (uP_s5 t n s) 1 (by decide) (by decide)).trans ((uO_ordS_103 _ _ _ _ _ 1 (by decide)).trans hn9)) ?_
        refine q_icmp_neN (a := (uP_s5 t n s).2) (b := n) (tgt := 48) C dX4_readText_42 (by decide) rfl rfl (by omega) (by omega) (fun c_42 => ?_) (fun c_42 => ?_)
        · refine q_aload_n C dX4_readText_48 rfl rfl ?_
          refine q_bipush (v := 59) C dX4_readText_49 (by decide) ?_
          refine q_cv1 C (c_X4_readSign l (uO_ordS t n T cnt s) t n ((uO_ordS_ne _ _ _ _ _ 104 (by decide) (by decide) (by decide) (by decide) (by decide)).trans ht9) ((uO_ordS_103 _ _ _ _ _ 1 (by decide)).trans hn9) hn60 hch (uP_s5 t n s) (uP_s5_le _ _ hs) 59 (by decide)) myX4_readSign mlX4_48 q_s103 ⟨by decide, by decide⟩ (Nat.le_of_ble_eq_true rfl) dX4_readText_51 ?_
          refine q_iinc (v := nI (i_17 + 1)) (lv' := [(1, .int (nI (i_17 + 1))), (0, .ref 103)]) C dX4_readText_54 rfl (nI_add _ _) (by decide) rfl ?_
          refine q_goto (tgt := 17) C dX4_readText_57 (by decide) ?_
          exact q_V_to (ih_17 (i_17 + 1) (uO_ordS t n T cnt s) (uO_ordC t n cnt s) (uP_sg t n 59 (uP_s5 t n s)) (by omega) ((uO_ordS_ne _ _ _ _ _ 104 (by decide) (by decide) (by decide) (by decide) (by decide)).trans ht9) ((uO_ordS_103 _ _ _ _ _ 1 (by decide)).trans hn9) (uO_ordS_5 _ _ _ _ _ hcnt9) (uO_ordC_le _ _ _ _ hc309) (uP_sg_le _ _ (by decide) (uP_s5_le _ _ hs)) (by rw [← hr_17, uO_loop, if_neg (by rw [hb_24]; decide), if_neg c_42])) ⟨rfl, rfl, trivial⟩ rfl
        · refine q_goto (tgt := 60) C dX4_readText_45 (by decide) ?_
          refine q_aload_n C dX4_readText_60 rfl rfl ?_
          refine q_aload_n C dX4_readText_61 rfl rfl ?_
          rcases q_bc ((uP_s5 t n s)).1 with hb_62 | hb_62
          · refine q_getI (x := 0) C flX4_41 q_s103 rfl dX4_readText_62 (congrArg uO_b hb_62) ?_
            refine q_if_eq (tgt := 75) C dX4_readText_65 (by decide) (fun _ => ?_) (fun h9 => absurd h9 (by decide))
            refine q_iconst (v := (-1)) C dX4_readText_75 (by decide) ?_
            refine q_put (ty9 := .int) C flX4_15 q_s103 rfl (fun _ _ _ h => by cases h; exact ⟨rfl, by decide +kernel⟩) rfl rfl dX4_readText_76 ?_
            refine q_aload_n C dX4_readText_79 rfl rfl ?_
            refine q_iconst (v := 0) C dX4_readText_80 (by decide) ?_
            refine q_put (ty9 := .int) C flX4_32 q_s103 rfl (fun _ _ _ h => by cases h; exact ⟨rfl, by decide +kernel⟩) rfl rfl dX4_readText_81 ?_
            refine q_aload_n C dX4_readText_84 rfl rfl ?_
            refine q_getI (x := 0) C flX4_41 q_s103 rfl dX4_readText_85 (congrArg uO_b hb_62) ?_
            refine q_if_ne (tgt := 95) C dX4_readText_88 (by decide) (fun h9 => absurd h9 (by decide)) (fun _ => ?_)
            refine q_iconst (v := 1) C dX4_readText_91 (by decide) ?_
            refine q_goto (tgt := 96) C dX4_readText_92 (by decide) ?_
            exact hret _ _ _ _ dX4_readText_96 (by have er : uO_text t n S = ((uO_ordS t n T cnt s), (uP_s5 t n s)) := (by rw [← hr_17, uO_loop, if_neg (by rw [hb_24]; decide), if_pos c_42]); rw [er]; simp [hb_62]) (by have er : uO_text t n S = ((uO_ordS t n T cnt s), (uP_s5 t n s)) := (by rw [← hr_17, uO_loop, if_neg (by rw [hb_24]; decide), if_pos c_42]); rw [er]; simp [uO_fin, hb_62])
          · refine q_getI (x := 1) C flX4_41 q_s103 rfl dX4_readText_62 (congrArg uO_b hb_62) ?_
            refine q_if_eq (tgt := 75) C dX4_readText_65 (by decide) (fun h9 => absurd h9 (by decide)) (fun _ => ?_)
            refine q_aload_n C dX4_readText_68 rfl rfl ?_
            refine q_getI (x := nI ((uP_s5 t n s).2)) C flX4_35 q_s103 rfl dX4_readText_69 (uO_at_2 (uO_ordS t n T cnt s) (uP_s5 t n s)) ?_
            refine q_goto (tgt := 76) C dX4_readText_72 (by decide) ?_
            refine q_put (ty9 := .int) C flX4_15 q_s103 rfl (fun _ _ _ h => by cases h; exact ⟨rfl, by decide +kernel⟩) rfl rfl dX4_readText_76 ?_
            refine q_aload_n C dX4_readText_79 rfl rfl ?_
            refine q_iconst (v := 0) C dX4_readText_80 (by decide) ?_
            refine q_put (ty9 := .int) C flX4_32 q_s103 rfl (fun _ _ _ h => by cases h; exact ⟨rfl, by decide +kernel⟩) rfl rfl dX4_readText_81 ?_
            refine q_aload_n C dX4_readText_84 rfl rfl ?_
            refine q_getI (x := 1) C flX4_41 q_s103 rfl dX4_readText_85 (congrArg uO_b hb_62) ?_
            refine q_if_ne (tgt := 95) C dX4_readText_88 (by decide) (fun _ => ?_) (fun h9 => absurd h9 (by decide))
            refine q_iconst (v := 0) C dX4_readText_95 (by decide) ?_
            exact hret _ _ _ _ dX4_readText_96 (by have er : uO_text t n S = ((uO_ordS t n T cnt s), (uP_s5 t n s)) := (by rw [← hr_17, uO_loop, if_neg (by rw [hb_24]; decide), if_pos c_42]); rw [er]; simp [hb_62]) (by have er : uO_text t n S = ((uO_ordS t n T cnt s), (uP_s5 t n s)) := (by rw [← hr_17, uO_loop, if_neg (by rw [hb_24]; decide), if_pos c_42]); rw [er]; simp [uO_fin, hb_62])
      · refine q_getI (x := 1) C flX4_41 q_s103 rfl dX4_readText_24 (congrArg uO_b hb_24) ?_
        refine q_if_ne (tgt := 60) C dX4_readText_27 (by decide) (fun _ => ?_) (fun h9 => absurd h9 (by decide))
        refine q_aload_n C dX4_readText_60 rfl rfl ?_
        refine q_aload_n C dX4_readText_61 rfl rfl ?_
        refine q_getI (x := 1) C flX4_41 q_s103 rfl dX4_readText_62 (congrArg uO_b hb_24) ?_
        refine q_if_eq (tgt := 75) C dX4_readText_65 (by decide) (fun h9 => absurd h9 (by decide)) (fun _ => ?_)
        refine q_aload_n C dX4_readText_68 rfl rfl ?_
        refine q_getI (x := nI s.2) C flX4_35 q_s103 rfl dX4_readText_69 (uO_at_2 T s) ?_
        refine q_goto (tgt := 76) C dX4_readText_72 (by decide) ?_
        refine q_put (ty9 := .int) C flX4_15 q_s103 rfl (fun _ _ _ h => by cases h; exact ⟨rfl, by decide +kernel⟩) rfl rfl dX4_readText_76 ?_
        refine q_aload_n C dX4_readText_79 rfl rfl ?_
        refine q_iconst (v := 0) C dX4_readText_80 (by decide) ?_
        refine q_put (ty9 := .int) C flX4_32 q_s103 rfl (fun _ _ _ h => by cases h; exact ⟨rfl, by decide +kernel⟩) rfl rfl dX4_readText_81 ?_
        refine q_aload_n C dX4_readText_84 rfl rfl ?_
        refine q_getI (x := 1) C flX4_41 q_s103 rfl dX4_readText_85 (congrArg uO_b hb_24) ?_
        refine q_if_ne (tgt := 95) C dX4_readText_88 (by decide) (fun _ => ?_) (fun h9 => absurd h9 (by decide))
        refine q_iconst (v := 0) C dX4_readText_95 (by decide) ?_
        exact hret _ _ _ _ dX4_readText_96 (by have er : uO_text t n S = (T, s) := (by rw [← hr_17, uO_loop, if_pos hb_24]); rw [er]; simp [hb_24]) (by have er : uO_text t n S = (T, s) := (by rw [← hr_17, uO_loop, if_pos hb_24]); rw [er]; simp [uO_fin, hb_24])
  exact q_V_to (loop_17 (31 - 0) 0 (q_p S 103 5 0) 0 (false, 0) (by omega) ht hn rfl (by omega) (Nat.zero_le _) rfl) ⟨rfl, rfl, trivial⟩ (uO_start S)
theorem c_X4_addCharacter (l : Launch) (S : q_St) (n : Nat) (hn : S 103 1 = nI n) (hn60 : n < 60) (c : Int32) (hc : ∃ q, q < 65536 ∧ c = nI q) : q_Fv l yX4_addCharacter kX4_addCharacter 1 [.ref 103, .int c] S (q_p (q_p S 104 n c) 103 1 (nI (n + 1))) := by
  refine q_Fv_of (maxL := 2) rfl (by decide +kernel) (fun ad => Nat.le_of_ble_eq_true rfl) ?_
  intro K C hret
  have C : q_Cx K cX4_addCharacter RX4 1 2 := C
  show q_V l K 0 [(0, .ref 103), (1, .int c)] [] S
  refine q_aload_n C dX4_addCharacter_0 rfl rfl ?_
  refine q_getI (x := nI n) C flX4_32 q_s103 rfl dX4_addCharacter_1 hn ?_
  refine q_bipush (v := 60) C dX4_addCharacter_4 (by decide) ?_
  refine q_icmp_geN (a := n) (b := 60) (tgt := 29) C dX4_addCharacter_6 (by decide) rfl rfl (by omega) (by omega) (fun c_6 => absurd c_6 (by omega)) (fun c_6 => ?_)
  refine q_aload_n C dX4_addCharacter_9 rfl rfl ?_
  refine q_getR C flX4_9 q_s103 rfl dX4_addCharacter_10 ?_
  refine q_aload_n C dX4_addCharacter_13 rfl rfl ?_
  refine q_getI (x := nI n) C flX4_32 q_s103 rfl dX4_addCharacter_14 hn ?_
  refine q_iload_n C dX4_addCharacter_17 rfl rfl ?_
  refine q_castV (i := n) (v := c) C rfl q_s104 (by omega) (by decide) dX4_addCharacter_18 (q_nar_c hc) ?_
  refine q_aload_n C dX4_addCharacter_19 rfl rfl ?_
  refine q_dup C rfl dX4_addCharacter_20 ?_
  refine q_getI (x := nI n) C flX4_32 q_s103 rfl dX4_addCharacter_21 hn ?_
  refine q_iconst (v := 1) C dX4_addCharacter_24 (by decide) ?_
  refine q_iaddN (a := n) (b := 1) C dX4_addCharacter_25 rfl rfl ?_
  refine q_put (ty9 := .int) C flX4_32 q_s103 rfl (fun _ _ _ h => by cases h; exact ⟨rfl, by decide +kernel⟩) rfl rfl dX4_addCharacter_26 ?_
  exact hret _ _ _ dX4_addCharacter_29 rfl
