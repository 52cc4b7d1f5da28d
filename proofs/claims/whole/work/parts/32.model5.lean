theorem c_X7_isHere (l : Launch) (S : q_St) (t : Nat → Int32) (n : Nat) (ht : S 118 = t) (hn : S 112 13 = nI n) (hn60 : n ≤ 60) (hch : ∀ j, j < 60 → ∃ q, q < 65536 ∧ t j = nI q) (s : Bool × Nat) (hs : s.2 ≤ n) (a : Int32) (b : Int32) : q_Fi l yX7_isHere kX7_isHere 2 [.ref 112, .int a, .int b] (uQ_at S s) (if uQ_here t n a b s then 1 else 0) (uQ_at S s) := by
  refine q_Fi_of (maxL := 3) rfl (by decide +kernel) (fun ad => Nat.le_of_ble_eq_true rfl) (by split <;> rfl) ?_
  intro K C hret
  have C : q_Cx K cX7_isHere RX7 2 3 := C
  show q_V l K 0 [(0, .ref 112), (1, .int a), (2, .int b)] [] (uQ_at S s)
  refine q_aload_n C dX7_isHere_0 rfl rfl ?_
  rcases q_bc (s).1 with hb_1 | hb_1
  · refine q_getI (x := 0) C flX7_190 q_s112 rfl dX7_isHere_1 (congrArg uO_b hb_1) ?_
    refine q_if_ne (tgt := 39) C dX7_isHere_4 (by decide) (fun h9 => absurd h9 (by decide)) (fun _ => ?_)
    refine q_aload_n C dX7_isHere_7 rfl rfl ?_
    refine q_getI (x := nI s.2) C flX7_193 q_s112 rfl dX7_isHere_8 (uQ_at_14 S s) ?_
    refine q_aload_n C dX7_isHere_11 rfl rfl ?_
    refine q_getI (x := nI n) C flX7_187 q_s112 rfl dX7_isHere_12 ((uQ_at_k S s 13 (by decide) (by decide)).trans hn) ?_
    refine q_icmp_geN (a := s.2) (b := n) (tgt := 39) C dX7_isHere_15 (by decide) rfl rfl (by omega) (by omega) (fun c_15 => ?_) (fun c_15 => ?_)
    · refine q_iconst (v := 0) C dX7_isHere_39 (by decide) ?_
      exact hret _ _ _ _ dX7_isHere_40 (by simp [uQ_here, hb_1, c_15, Nat.not_lt.mpr c_15]) rfl
    · refine q_aload_n C dX7_isHere_18 rfl rfl ?_
      refine q_getR C flX7_26 q_s112 rfl dX7_isHere_19 ?_
      refine q_aload_n C dX7_isHere_22 rfl rfl ?_
      refine q_getI (x := nI s.2) C flX7_193 q_s112 rfl dX7_isHere_23 (uQ_at_14 S s) ?_
      refine q_caldN (i := s.2) (x := t s.2) C rfl q_s118 (by omega) (by decide) dX7_isHere_26 (by rw [← ht]; rfl) ?_
      refine q_iload_n C dX7_isHere_27 rfl rfl ?_
      refine q_iload_n C dX7_isHere_28 rfl rfl ?_
      by_cases h_29 : a ≤ (t s.2) ∧ (t s.2) ≤ b
      · refine q_si3 C (q_Fi.cv (if_pos h_29) (c_X7_in l (uQ_at S s) (t s.2) a b)) msX7_in rfl mlX7_58 ⟨by decide, by decide⟩ (Nat.le_of_ble_eq_true rfl) dX7_isHere_29 ?_
        refine q_if_eq (tgt := 39) C dX7_isHere_32 (by decide) (fun h9 => absurd h9 (by decide)) (fun _ => ?_)
        refine q_iconst (v := 1) C dX7_isHere_35 (by decide) ?_
        refine q_goto (tgt := 40) C dX7_isHere_36 (by decide) ?_
        exact hret _ _ _ _ dX7_isHere_40 (by simp [uQ_here, hb_1, c_15, Nat.not_le.mpr c_15, if_pos h_29, h_29]) rfl
      · refine q_si3 C (q_Fi.cv (if_neg h_29) (c_X7_in l (uQ_at S s) (t s.2) a b)) msX7_in rfl mlX7_58 ⟨by decide, by decide⟩ (Nat.le_of_ble_eq_true rfl) dX7_isHere_29 ?_
        refine q_if_eq (tgt := 39) C dX7_isHere_32 (by decide) (fun _ => ?_) (fun h9 => absurd h9 (by decide))
        refine q_iconst (v := 0) C dX7_isHere_39 (by decide) ?_
        exact hret _ _ _ _ dX7_isHere_40 (by simp [uQ_here, hb_1, c_15, Nat.not_le.mpr c_15, if_neg h_29, h_29]) rfl
  · refine q_getI (x := 1) C flX7_190 q_s112 rfl dX7_isHere_1 (congrArg uO_b hb_1) ?_
    refine q_if_ne (tgt := 39) C dX7_isHere_4 (by decide) (fun _ => ?_) (fun h9 => absurd h9 (by decide))
    refine q_iconst (v := 0) C dX7_isHere_39 (by decide) ?_
    exact hret _ _ _ _ dX7_isHere_40 (by simp [uQ_here, hb_1]) rfl
theorem c_X7_sign (l : Launch) (S : q_St) (t : Nat → Int32) (n : Nat) (ht : S 118 = t) (hn : S 112 13 = nI n) (hn60 : n ≤ 60) (hch : ∀ j, j < 60 → ∃ q, q < 65536 ∧ t j = nI q) (s : Bool × Nat) (hs : s.2 ≤ n) (a : Int32) (b : Int32) : q_Fi l yX7_sign kX7_sign 3 [.ref 112, .int a, .int b] (uQ_at S s) (uQ_v t n a b s) (uQ_at S (uQ_sg t n a b s)) := by
  refine q_Fi_of (maxL := 3) rfl (by decide +kernel) (fun ad => Nat.le_of_ble_eq_true rfl) rfl ?_
  intro K C hret
  have C : q_Cx K cX7_sign RX7 3 3 := C
  show q_V l K 0 [(0, .ref 112), (1, .int a), (2, .int b)] [] (uQ_at S s)
  refine q_aload_n C dX7_sign_0 rfl rfl ?_
  refine q_aload_n C dX7_sign_1 rfl rfl ?_
  refine q_iload_n C dX7_sign_2 rfl rfl ?_
  refine q_iload_n C dX7_sign_3 rfl rfl ?_
  by_cases h_4 : uQ_here t n a b s
  · refine q_ci2 C (q_Fi.cv (if_pos h_4) (c_X7_isHere l S t n ht hn hn60 hch s hs a b)) myX7_isHere mlX7_196 q_s112 ⟨by decide, by decide⟩ (Nat.le_of_ble_eq_true rfl) dX7_sign_4 ?_
    refine q_if_ne (tgt := 14) C dX7_sign_7 (by decide) (fun _ => ?_) (fun h9 => absurd h9 (by decide))
    refine q_iconst (v := 0) C dX7_sign_14 (by decide) ?_
    refine q_put (ty9 := .boolean) C flX7_190 q_s112 rfl (fun _ _ _ h => by cases h; exact ⟨rfl, by decide +kernel⟩) rfl rfl dX7_sign_15 ?_
    refine q_aload_n C dX7_sign_18 rfl rfl ?_
    refine q_getI (x := 0) C flX7_190 q_s112 rfl dX7_sign_19 rfl ?_
    refine q_if_eq (tgt := 27) C dX7_sign_22 (by decide) (fun _ => ?_) (fun h9 => absurd h9 (by decide))
    refine q_aload_n C dX7_sign_27 rfl rfl ?_
    refine q_dup C rfl dX7_sign_28 ?_
    refine q_getI (x := nI s.2) C flX7_193 q_s112 rfl dX7_sign_29 (uQ_at_14 S s) ?_
    refine q_iconst (v := 1) C dX7_sign_32 (by decide) ?_
    refine q_iaddN (a := s.2) (b := 1) C dX7_sign_33 rfl rfl ?_
    refine q_put (ty9 := .int) C flX7_193 q_s112 rfl (fun _ _ _ h => by cases h; exact ⟨rfl, by decide +kernel⟩) rfl rfl dX7_sign_34 ?_
    refine q_aload_n C dX7_sign_37 rfl rfl ?_
    refine q_getR C flX7_26 q_s112 rfl dX7_sign_38 ?_
    refine q_aload_n C dX7_sign_41 rfl rfl ?_
    refine q_getI (x := nI (s.2 + 1)) C flX7_193 q_s112 rfl dX7_sign_42 rfl ?_
    refine q_iconst (v := 1) C dX7_sign_45 (by decide) ?_
    refine q_isubN (a := s.2 + 1) (b := 1) C dX7_sign_46 rfl rfl (by omega) ?_
    refine q_caldN (i := s.2) (x := t s.2) C (by rw [Nat.add_sub_cancel]) q_s118 (by omega) (by decide) dX7_sign_47 (by rw [← ht]; rfl) ?_
    refine q_iload_n C dX7_sign_48 rfl rfl ?_
    refine q_isub C dX7_sign_49 ?_
    exact hret _ _ _ _ dX7_sign_50 (by rw [uQ_v, if_pos h_4]) ((uQ_at_w S s false (s.2 + 1)).trans (congrArg (uQ_at S) (by rw [uQ_sg, if_pos h_4])))
  · refine q_ci2 C (q_Fi.cv (if_neg h_4) (c_X7_isHere l S t n ht hn hn60 hch s hs a b)) myX7_isHere mlX7_196 q_s112 ⟨by decide, by decide⟩ (Nat.le_of_ble_eq_true rfl) dX7_sign_4 ?_
    refine q_if_ne (tgt := 14) C dX7_sign_7 (by decide) (fun h9 => absurd h9 (by decide)) (fun _ => ?_)
    refine q_iconst (v := 1) C dX7_sign_10 (by decide) ?_
    refine q_goto (tgt := 15) C dX7_sign_11 (by decide) ?_
    refine q_put (ty9 := .boolean) C flX7_190 q_s112 rfl (fun _ _ _ h => by cases h; exact ⟨rfl, by decide +kernel⟩) rfl rfl dX7_sign_15 ?_
    refine q_aload_n C dX7_sign_18 rfl rfl ?_
    refine q_getI (x := 1) C flX7_190 q_s112 rfl dX7_sign_19 rfl ?_
    refine q_if_eq (tgt := 27) C dX7_sign_22 (by decide) (fun h9 => absurd h9 (by decide)) (fun _ => ?_)
    refine q_iconst (v := 0) C dX7_sign_25 (by decide) ?_
    exact hret _ _ _ _ dX7_sign_26 (by rw [uQ_v, if_neg h_4]) ((uQ_at_w1 S s true).trans (congrArg (uQ_at S) (by rw [uQ_sg, if_neg h_4])))
theorem c_X7_digit (l : Launch) (S : q_St) (t : Nat → Int32) (n : Nat) (ht : S 118 = t) (hn : S 112 13 = nI n) (hn60 : n ≤ 60) (hch : ∀ j, j < 60 → ∃ q, q < 65536 ∧ t j = nI q) (s : Bool × Nat) (hs : s.2 ≤ n) : q_Fi l yX7_digit kX7_digit 4 [.ref 112] (uQ_at S s) (uQ_dv t n s) (uQ_at S (uP_dg t n s)) := by
  refine q_Fi_of (maxL := 1) rfl (by decide +kernel) (fun ad => Nat.le_of_ble_eq_true rfl) rfl ?_
  intro K C hret
  have C : q_Cx K cX7_digit RX7 4 1 := C
  show q_V l K 0 [(0, .ref 112)] [] (uQ_at S s)
  refine q_aload_n C dX7_digit_0 rfl rfl ?_
  rcases q_bc (s).1 with hb_1 | hb_1
  · refine q_getI (x := 0) C flX7_190 q_s112 rfl dX7_digit_1 (congrArg uO_b hb_1) ?_
    refine q_if_eq (tgt := 11) C dX7_digit_4 (by decide) (fun _ => ?_) (fun h9 => absurd h9 (by decide))
    refine q_aload_n C dX7_digit_11 rfl rfl ?_
    refine q_bipush (v := 48) C dX7_digit_12 (by decide) ?_
    refine q_bipush (v := 57) C dX7_digit_14 (by decide) ?_
    refine q_ci2 C (q_Fi.cs rfl (congrArg (uQ_at S) (uQ_sg_d t n s)) (c_X7_sign l S t n ht hn hn60 hch s hs 48 57)) myX7_sign mlX7_200 q_s112 ⟨by decide, by decide⟩ (Nat.le_of_ble_eq_true rfl) dX7_digit_16 ?_
    exact hret _ _ _ _ dX7_digit_19 rfl rfl
  · refine q_getI (x := 1) C flX7_190 q_s112 rfl dX7_digit_1 (congrArg uO_b hb_1) ?_
    refine q_if_eq (tgt := 11) C dX7_digit_4 (by decide) (fun h9 => absurd h9 (by decide)) (fun _ => ?_)
    refine q_iconst (v := 0) C dX7_digit_7 (by decide) ?_
    refine q_goto (tgt := 19) C dX7_digit_8 (by decide) ?_
    exact hret _ _ _ _ dX7_digit_19 (by rw [uQ_dv, uQ_v, if_neg (uQ_here_no hb_1)]) (congrArg (uQ_at S) (uP_dg_st hb_1).symm)
theorem c_X7_number (l : Launch) (S : q_St) (t : Nat → Int32) (n : Nat) (ht : S 118 = t) (hn : S 112 13 = nI n) (hn60 : n ≤ 60) (hch : ∀ j, j < 60 → ∃ q, q < 65536 ∧ t j = nI q) (s : Bool × Nat) (hs : s.2 ≤ n) : q_Fi l yX7_number kX7_number 5 [.ref 112] (uQ_at S s) (uQ_nv t n s) (uQ_at S (uP_nm t n s)) := by
  refine q_Fi_of (maxL := 2) rfl (by decide +kernel) (fun ad => Nat.le_of_ble_eq_true rfl) rfl ?_
  intro K C hret
  have C : q_Cx K cX7_number RX7 5 2 := C
  show q_V l K 0 [(0, .ref 112)] [] (uQ_at S s)
  refine q_aload_n C dX7_number_0 rfl rfl ?_
  refine q_ci0 C (c_X7_digit l S t n ht hn hn60 hch s hs) myX7_digit mlX7_204 q_s112 ⟨by decide, by decide⟩ (Nat.le_of_ble_eq_true rfl) dX7_number_1 ?_
  refine q_istore_n (lv' := [(1, .int (uQ_dv t n s)), (0, .ref 112)]) C dX7_number_4 rfl (by decide) rfl ?_
  refine q_aload_n C dX7_number_5 rfl rfl ?_
  refine q_bipush (v := 48) C dX7_number_6 (by decide) ?_
  refine q_bipush (v := 57) C dX7_number_8 (by decide) ?_
  by_cases h_10 : uQ_here t n 48 57 (uP_dg t n s)
  · refine q_ci2 C (q_Fi.cv (if_pos h_10) (c_X7_isHere l S t n ht hn hn60 hch (uP_dg t n s) (uP_dg_le _ _ hs) 48 57)) myX7_isHere mlX7_196 q_s112 ⟨by decide, by decide⟩ (Nat.le_of_ble_eq_true rfl) dX7_number_10 ?_
    refine q_if_eq (tgt := 28) C dX7_number_13 (by decide) (fun h9 => absurd h9 (by decide)) (fun _ => ?_)
    refine q_bipush (v := 10) C dX7_number_16 (by decide) ?_
    refine q_iload_n C dX7_number_18 rfl rfl ?_
    refine q_imul C dX7_number_19 ?_
    refine q_aload_n C dX7_number_20 rfl rfl ?_
    refine q_ci0 C (c_X7_digit l S t n ht hn hn60 hch (uP_dg t n s) (uP_dg_le _ _ hs)) myX7_digit mlX7_204 q_s112 ⟨by decide, by decide⟩ (Nat.le_of_ble_eq_true rfl) dX7_number_21 ?_
    refine q_iadd C dX7_number_24 ?_
    refine q_goto (tgt := 29) C dX7_number_25 (by decide) ?_
    exact hret _ _ _ _ dX7_number_29 (by simp only [uQ_nv, if_pos h_10]) (congrArg (uQ_at S) (by rw [uQ_nm_eq, if_pos h_10]))
  · refine q_ci2 C (q_Fi.cv (if_neg h_10) (c_X7_isHere l S t n ht hn hn60 hch (uP_dg t n s) (uP_dg_le _ _ hs) 48 57)) myX7_isHere mlX7_196 q_s112 ⟨by decide, by decide⟩ (Nat.le_of_ble_eq_true rfl) dX7_number_10 ?_
    refine q_if_eq (tgt := 28) C dX7_number_13 (by decide) (fun _ => ?_) (fun h9 => absurd h9 (by decide))
    refine q_iload_n C dX7_number_28 rfl rfl ?_
    exact hret _ _ _ _ dX7_number_29 (by simp only [uQ_nv, if_neg h_10]) (congrArg (uQ_at S) (by rw [uQ_nm_eq, if_neg h_10]))
theorem c_X7_behind (l : Launch) (S : q_St) (t : Nat → Int32) (n : Nat) (ht : S 118 = t) (hn : S 112 13 = nI n) (hn60 : n ≤ 60) (hch : ∀ j, j < 60 → ∃ q, q < 65536 ∧ t j = nI q) (s : Bool × Nat) (hs : s.2 ≤ n) (c : Int32) (hc0 : c ≠ 0) : q_Fi l yX7_behind kX7_behind 5 [.ref 112, .int c] (uQ_at S s) (uQ_dv t n (uP_sg t n c s)) (uQ_at S (uP_dg t n (uP_sg t n c s))) := by
  refine q_Fi_of (maxL := 3) rfl (by decide +kernel) (fun ad => Nat.le_of_ble_eq_true rfl) rfl ?_
  intro K C hret
  have C : q_Cx K cX7_behind RX7 5 3 := C
  show q_V l K 0 [(0, .ref 112), (1, .int c)] [] (uQ_at S s)
  refine q_aload_n C dX7_behind_0 rfl rfl ?_
  rcases q_bc (s).1 with hb_1 | hb_1
  · refine q_getI (x := 0) C flX7_190 q_s112 rfl dX7_behind_1 (congrArg uO_b hb_1) ?_
    refine q_if_eq (tgt := 11) C dX7_behind_4 (by decide) (fun _ => ?_) (fun h9 => absurd h9 (by decide))
    refine q_aload_n C dX7_behind_11 rfl rfl ?_
    refine q_iload_n C dX7_behind_12 rfl rfl ?_
    refine q_iload_n C dX7_behind_13 rfl rfl ?_
    refine q_ci2 C (q_Fi.cs rfl (congrArg (uQ_at S) (uQ_sg_c t n hc0 s)) (c_X7_sign l S t n ht hn hn60 hch s hs c c)) myX7_sign mlX7_200 q_s112 ⟨by decide, by decide⟩ (Nat.le_of_ble_eq_true rfl) dX7_behind_14 ?_
    refine q_istore_n (lv' := [(2, .int (uQ_v t n c c s)), (0, .ref 112), (1, .int c)]) C dX7_behind_17 rfl (by decide) rfl ?_
    refine q_aload_n C dX7_behind_18 rfl rfl ?_
    refine q_ci0 C (c_X7_digit l S t n ht hn hn60 hch (uP_sg t n c s) (uP_sg_le _ _ (by first | assumption | decide) hs)) myX7_digit mlX7_204 q_s112 ⟨by decide, by decide⟩ (Nat.le_of_ble_eq_true rfl) dX7_behind_19 ?_
    exact hret _ _ _ _ dX7_behind_22 rfl rfl
  · refine q_getI (x := 1) C flX7_190 q_s112 rfl dX7_behind_1 (congrArg uO_b hb_1) ?_
    refine q_if_eq (tgt := 11) C dX7_behind_4 (by decide) (fun h9 => absurd h9 (by decide)) (fun _ => ?_)
    refine q_iconst (v := 0) C dX7_behind_7 (by decide) ?_
    refine q_goto (tgt := 17) C dX7_behind_8 (by decide) ?_
    refine q_st (congrArg (uQ_at S) (uP_sg_st (t := t) (n := n) (c := c) hb_1).symm) ?_
    refine q_istore_n (lv' := [(2, .int 0), (0, .ref 112), (1, .int c)]) C dX7_behind_17 rfl (by decide) rfl ?_
    refine q_aload_n C dX7_behind_18 rfl rfl ?_
    refine q_ci0 C (c_X7_digit l S t n ht hn hn60 hch (uP_sg t n c s) (uP_sg_le _ _ (by first | assumption | decide) hs)) myX7_digit mlX7_204 q_s112 ⟨by decide, by decide⟩ (Nat.le_of_ble_eq_true rfl) dX7_behind_19 ?_
    exact hret _ _ _ _ dX7_behind_22 rfl rfl
