abbrev kL_matter : Cond := .codeWith yL_matter cL_matter 2 (some .int) [(0, 4, 5, 14)]
theorem w_matter (l : Launch) (S : q_St) (o : (Int32 ⊕ String) × q_St) (hM : q_Fx l yX6_matter kX6_matter 7 6 [.ref 0] S o) (hE : ∀ E, o.1 = .inr E → E = xEUn) : q_Fy l yL_matter kL_matter 9 6 [.ref 0] S (uW [(xEUn, (-2))] o.1) o.2 := by
  obtain ⟨o1, T⟩ := o
  refine q_Fw_of (maxL := 2) (hh := [(0, 4, 5, 14)]) rfl (by decide +kernel) (fun ad => Nat.le_of_ble_eq_true rfl) ?_
  intro K hX6 hX hC hT hret
  have C : q_Cx (q_Kw K 0) cL_matter RL 9 2 := hC 0 (by decide)
  have C6 : q_Cx (q_Kw K 6) cL_matter RL 9 2 := hC 6 (by decide)
  show q_V l (q_Kw K 0) 0 [(0, .ref 0)] [] S
  refine q_aload_n C dL_matter_0 rfl rfl ?_
  refine q_wi0 hX C C6 hM myX6_matter mlL_8 q_s0 ⟨by decide, by decide⟩ (Nat.le_of_ble_eq_true rfl) dL_matter_1 (fun E h9 => ?_) (fun v h9 => ?_)
  · subst h9
    rcases hE E rfl with rfl
    refine q_catch_n C6 hX6 hT [] ⟨0, 4, 5, 14⟩ [] rfl (fun z hz => nomatch hz) (by decide) (by decide) wk_Un wc_Un dL_matter_5 rfl (by decide) ?_
    show q_V l (q_Kw K 6) 6 [] [] T
    refine q_bipush (v := -2) C6 dL_matter_6 (by decide) ?_
    exact hret _ _ _ _ dL_matter_8 (by show _ = uWc [(xEUn, (-2))] xEUn; decide +kernel) rfl
  · subst h9
    exact hret _ _ _ _ dL_matter_4 rfl rfl
abbrev kL_set : Cond := .codeWith yL_set cL_set 5 (some .int) [(0, 7, 8, 20), (0, 7, 12, 22), (0, 7, 17, 14)]
theorem w_set (l : Launch) (S : q_St) (a0 : Int32) (a1 : Int32) (a2 : Int32) (o : (Int32 ⊕ String) × q_St) (hM : q_Fx l yX6_set kX6_set 7 6 [.ref 0, .int a0, .int a1, .int a2] S o) (hE : ∀ E, o.1 = .inr E → E = xENs ∨ E = xEIa ∨ E = xEUn) : q_Fy l yL_set kL_set 9 6 [.ref 0, .int a0, .int a1, .int a2] S (uW [(xENs, (-1)), (xEIa, (-2)), (xEUn, (-3))] o.1) o.2 := by
  obtain ⟨o1, T⟩ := o
  refine q_Fw_of (maxL := 5) (hh := [(0, 7, 8, 20), (0, 7, 12, 22), (0, 7, 17, 14)]) rfl (by decide +kernel) (fun ad => Nat.le_of_ble_eq_true rfl) ?_
  intro K hX6 hX hC hT hret
  have C : q_Cx (q_Kw K 0) cL_set RL 9 5 := hC 0 (by decide)
  have C6 : q_Cx (q_Kw K 6) cL_set RL 9 5 := hC 6 (by decide)
  show q_V l (q_Kw K 0) 0 [(0, .ref 0), (1, .int a0), (2, .int a1), (3, .int a2)] [] S
  refine q_aload_n C dL_set_0 rfl rfl ?_
  refine q_iload_n C dL_set_1 rfl rfl ?_
  refine q_iload_n C dL_set_2 rfl rfl ?_
  refine q_iload_n C dL_set_3 rfl rfl ?_
  refine q_wi3 hX C C6 hM myX6_set mlL_16 q_s0 ⟨by decide, by decide⟩ (Nat.le_of_ble_eq_true rfl) dL_set_4 (fun E h9 => ?_) (fun v h9 => ?_)
  · subst h9
    rcases hE E rfl with rfl | rfl | rfl
    · refine q_catch C6 hX6 hT [] ⟨0, 7, 8, 20⟩ [⟨0, 7, 12, 22⟩, ⟨0, 7, 17, 14⟩] rfl (fun z hz => nomatch hz) (by decide) (by decide) wk_Ns wc_Ns dL_set_8 (by decide) ?_
      show q_V l (q_Kw K 6) 10 [] [] T
      refine q_iconst (v := -1) C6 dL_set_10 (by decide) ?_
      exact hret _ _ _ _ dL_set_11 (by show _ = uWc [(xENs, (-1)), (xEIa, (-2)), (xEUn, (-3))] xENs; decide +kernel) rfl
    · refine q_catch C6 hX6 hT [⟨0, 7, 8, 20⟩] ⟨0, 7, 12, 22⟩ [⟨0, 7, 17, 14⟩] rfl (by intro z hz; simp only [List.mem_cons, List.not_mem_nil, or_false] at hz; rcases hz with rfl; exact ⟨by decide, xENs, wk_Ns, by decide +kernel⟩) (by decide) (by decide) wk_Ia wc_Ia dL_set_12 (by decide) ?_
      show q_V l (q_Kw K 6) 14 [] [] T
      refine q_bipush (v := -2) C6 dL_set_14 (by decide) ?_
      exact hret _ _ _ _ dL_set_16 (by show _ = uWc [(xENs, (-1)), (xEIa, (-2)), (xEUn, (-3))] xEIa; decide +kernel) rfl
    · refine q_catch C6 hX6 hT [⟨0, 7, 8, 20⟩, ⟨0, 7, 12, 22⟩] ⟨0, 7, 17, 14⟩ [] rfl (by intro z hz; simp only [List.mem_cons, List.not_mem_nil, or_false] at hz; rcases hz with rfl | rfl; exact ⟨by decide, xENs, wk_Ns, by decide +kernel⟩ ; exact ⟨by decide, xEIa, wk_Ia, by decide +kernel⟩) (by decide) (by decide) wk_Un wc_Un dL_set_17 (by decide) ?_
      show q_V l (q_Kw K 6) 19 [] [] T
      refine q_bipush (v := -3) C6 dL_set_19 (by decide) ?_
      exact hret _ _ _ _ dL_set_21 (by show _ = uWc [(xENs, (-1)), (xEIa, (-2)), (xEUn, (-3))] xEUn; decide +kernel) rfl
  · subst h9
    exact hret _ _ _ _ dL_set_7 rfl rfl
abbrev kL_of : Cond := .codeWith yL_of cL_of 4 (some .int) [(0, 6, 7, 20), (0, 6, 11, 22)]
theorem w_of (l : Launch) (S : q_St) (a0 : Int32) (a1 : Int32) (o : (Int32 ⊕ String) × q_St) (hM : q_Fx l yX6_matterOf kX6_matterOf 7 6 [.ref 0, .int a0, .int a1] S o) (hE : ∀ E, o.1 = .inr E → E = xENs ∨ E = xEIa) : q_Fy l yL_of kL_of 9 6 [.ref 0, .int a0, .int a1] S (uW [(xENs, (-13)), (xEIa, (-12))] o.1) o.2 := by
  obtain ⟨o1, T⟩ := o
  refine q_Fw_of (maxL := 4) (hh := [(0, 6, 7, 20), (0, 6, 11, 22)]) rfl (by decide +kernel) (fun ad => Nat.le_of_ble_eq_true rfl) ?_
  intro K hX6 hX hC hT hret
  have C : q_Cx (q_Kw K 0) cL_of RL 9 4 := hC 0 (by decide)
  have C6 : q_Cx (q_Kw K 6) cL_of RL 9 4 := hC 6 (by decide)
  show q_V l (q_Kw K 0) 0 [(0, .ref 0), (1, .int a0), (2, .int a1)] [] S
  refine q_aload_n C dL_of_0 rfl rfl ?_
  refine q_iload_n C dL_of_1 rfl rfl ?_
  refine q_iload_n C dL_of_2 rfl rfl ?_
  refine q_wi2 hX C C6 hM myX6_matterOf mlL_24 q_s0 ⟨by decide, by decide⟩ (Nat.le_of_ble_eq_true rfl) dL_of_3 (fun E h9 => ?_) (fun v h9 => ?_)
  · subst h9
    rcases hE E rfl with rfl | rfl
    · refine q_catch_n C6 hX6 hT [] ⟨0, 6, 7, 20⟩ [⟨0, 6, 11, 22⟩] rfl (fun z hz => nomatch hz) (by decide) (by decide) wk_Ns wc_Ns dL_of_7 rfl (by decide) ?_
      show q_V l (q_Kw K 6) 8 [] [] T
      refine q_bipush (v := -13) C6 dL_of_8 (by decide) ?_
      exact hret _ _ _ _ dL_of_10 (by show _ = uWc [(xENs, (-13)), (xEIa, (-12))] xENs; decide +kernel) rfl
    · refine q_catch_n C6 hX6 hT [⟨0, 6, 7, 20⟩] ⟨0, 6, 11, 22⟩ [] rfl (by intro z hz; simp only [List.mem_cons, List.not_mem_nil, or_false] at hz; rcases hz with rfl; exact ⟨by decide, xENs, wk_Ns, by decide +kernel⟩) (by decide) (by decide) wk_Ia wc_Ia dL_of_11 rfl (by decide) ?_
      show q_V l (q_Kw K 6) 12 [] [] T
      refine q_bipush (v := -12) C6 dL_of_12 (by decide) ?_
      exact hret _ _ _ _ dL_of_14 (by show _ = uWc [(xENs, (-13)), (xEIa, (-12))] xEIa; decide +kernel) rfl
  · subst h9
    exact hret _ _ _ _ dL_of_6 rfl rfl
abbrev kL_answer : Cond := .codeWith yL_answer cL_answer 4 (some .int) [(0, 6, 7, 20), (0, 6, 11, 31)]
theorem w_answer (l : Launch) (S : q_St) (a0 : Int32) (a1 : Int32) (o : (Int32 ⊕ String) × q_St) (hM : q_Fx l yX6_answer kX6_answer 7 6 [.ref 0, .int a0, .int a1] S o) (hE : ∀ E, o.1 = .inr E → E = xENs ∨ E = xEIo) : q_Fy l yL_answer kL_answer 9 6 [.ref 0, .int a0, .int a1] S (uW [(xENs, (-13)), (xEIo, (-11))] o.1) o.2 := by
  obtain ⟨o1, T⟩ := o
  refine q_Fw_of (maxL := 4) (hh := [(0, 6, 7, 20), (0, 6, 11, 31)]) rfl (by decide +kernel) (fun ad => Nat.le_of_ble_eq_true rfl) ?_
  intro K hX6 hX hC hT hret
  have C : q_Cx (q_Kw K 0) cL_answer RL 9 4 := hC 0 (by decide)
  have C6 : q_Cx (q_Kw K 6) cL_answer RL 9 4 := hC 6 (by decide)
  show q_V l (q_Kw K 0) 0 [(0, .ref 0), (1, .int a0), (2, .int a1)] [] S
  refine q_aload_n C dL_answer_0 rfl rfl ?_
  refine q_iload_n C dL_answer_1 rfl rfl ?_
  refine q_iload_n C dL_answer_2 rfl rfl ?_
  refine q_wi2 hX C C6 hM myX6_answer mlL_28 q_s0 ⟨by decide, by decide⟩ (Nat.le_of_ble_eq_true rfl) dL_answer_3 (fun E h9 => ?_) (fun v h9 => ?_)
  · subst h9
    rcases hE E rfl with rfl | rfl
    · refine q_catch_n C6 hX6 hT [] ⟨0, 6, 7, 20⟩ [⟨0, 6, 11, 31⟩] rfl (fun z hz => nomatch hz) (by decide) (by decide) wk_Ns wc_Ns dL_answer_7 rfl (by decide) ?_
      show q_V l (q_Kw K 6) 8 [] [] T
      refine q_bipush (v := -13) C6 dL_answer_8 (by decide) ?_
      exact hret _ _ _ _ dL_answer_10 (by show _ = uWc [(xENs, (-13)), (xEIo, (-11))] xENs; decide +kernel) rfl
    · refine q_catch_n C6 hX6 hT [⟨0, 6, 7, 20⟩] ⟨0, 6, 11, 31⟩ [] rfl (by intro z hz; simp only [List.mem_cons, List.not_mem_nil, or_false] at hz; rcases hz with rfl; exact ⟨by decide, xENs, wk_Ns, by decide +kernel⟩) (by decide) (by decide) wk_Io wc_Io dL_answer_11 rfl (by decide) ?_
      show q_V l (q_Kw K 6) 12 [] [] T
      refine q_bipush (v := -11) C6 dL_answer_12 (by decide) ?_
      exact hret _ _ _ _ dL_answer_14 (by show _ = uWc [(xENs, (-13)), (xEIo, (-11))] xEIo; decide +kernel) rfl
  · subst h9
    exact hret _ _ _ _ dL_answer_6 rfl rfl
abbrev kL_amount : Cond := .codeWith yL_amount cL_amount 4 (some .int) [(0, 6, 7, 20), (0, 6, 11, 31)]
theorem w_amount (l : Launch) (S : q_St) (a0 : Int32) (a1 : Int32) (o : (Int32 ⊕ String) × q_St) (hM : q_Fx l yX6_amount kX6_amount 7 6 [.ref 0, .int a0, .int a1] S o) (hE : ∀ E, o.1 = .inr E → E = xENs ∨ E = xEIo) : q_Fy l yL_amount kL_amount 9 6 [.ref 0, .int a0, .int a1] S (uW [(xENs, (-113)), (xEIo, (-111))] o.1) o.2 := by
  obtain ⟨o1, T⟩ := o
  refine q_Fw_of (maxL := 4) (hh := [(0, 6, 7, 20), (0, 6, 11, 31)]) rfl (by decide +kernel) (fun ad => Nat.le_of_ble_eq_true rfl) ?_
  intro K hX6 hX hC hT hret
  have C : q_Cx (q_Kw K 0) cL_amount RL 9 4 := hC 0 (by decide)
  have C6 : q_Cx (q_Kw K 6) cL_amount RL 9 4 := hC 6 (by decide)
  show q_V l (q_Kw K 0) 0 [(0, .ref 0), (1, .int a0), (2, .int a1)] [] S
  refine q_aload_n C dL_amount_0 rfl rfl ?_
  refine q_iload_n C dL_amount_1 rfl rfl ?_
  refine q_iload_n C dL_amount_2 rfl rfl ?_
  refine q_wi2 hX C C6 hM myX6_amount mlL_33 q_s0 ⟨by decide, by decide⟩ (Nat.le_of_ble_eq_true rfl) dL_amount_3 (fun E h9 => ?_) (fun v h9 => ?_)
  · subst h9
    rcases hE E rfl with rfl | rfl
    · refine q_catch_n C6 hX6 hT [] ⟨0, 6, 7, 20⟩ [⟨0, 6, 11, 31⟩] rfl (fun z hz => nomatch hz) (by decide) (by decide) wk_Ns wc_Ns dL_amount_7 rfl (by decide) ?_
      show q_V l (q_Kw K 6) 8 [] [] T
      refine q_bipush (v := -113) C6 dL_amount_8 (by decide) ?_
      exact hret _ _ _ _ dL_amount_10 (by show _ = uWc [(xENs, (-113)), (xEIo, (-111))] xENs; decide +kernel) rfl
    · refine q_catch_n C6 hX6 hT [⟨0, 6, 7, 20⟩] ⟨0, 6, 11, 31⟩ [] rfl (by intro z hz; simp only [List.mem_cons, List.not_mem_nil, or_false] at hz; rcases hz with rfl; exact ⟨by decide, xENs, wk_Ns, by decide +kernel⟩) (by decide) (by decide) wk_Io wc_Io dL_amount_11 rfl (by decide) ?_
      show q_V l (q_Kw K 6) 12 [] [] T
      refine q_bipush (v := -111) C6 dL_amount_12 (by decide) ?_
      exact hret _ _ _ _ dL_amount_14 (by show _ = uWc [(xENs, (-113)), (xEIo, (-111))] xEIo; decide +kernel) rfl
  · subst h9
    exact hret _ _ _ _ dL_amount_6 rfl rfl
abbrev kL_ask : Cond := .codeWith yL_ask cL_ask 4 (some .int) [(0, 6, 7, 20), (0, 6, 10, 31), (0, 6, 14, 14)]
theorem w_ask (l : Launch) (S : q_St) (a0 : Int32) (a1 : Int32) (o : (Int32 ⊕ String) × q_St) (hM : q_Fx l yX6_ask kX6_ask 7 6 [.ref 0, .int a0, .int a1] S o) (hE : ∀ E, o.1 = .inr E → E = xENs ∨ E = xEIo ∨ E = xEUn) : q_Fy l yL_ask kL_ask 9 6 [.ref 0, .int a0, .int a1] S (uW [(xENs, (-1)), (xEIo, (-2)), (xEUn, (-3))] o.1) o.2 := by
  obtain ⟨o1, T⟩ := o
  refine q_Fw_of (maxL := 4) (hh := [(0, 6, 7, 20), (0, 6, 10, 31), (0, 6, 14, 14)]) rfl (by decide +kernel) (fun ad => Nat.le_of_ble_eq_true rfl) ?_
  intro K hX6 hX hC hT hret
  have C : q_Cx (q_Kw K 0) cL_ask RL 9 4 := hC 0 (by decide)
  have C6 : q_Cx (q_Kw K 6) cL_ask RL 9 4 := hC 6 (by decide)
  show q_V l (q_Kw K 0) 0 [(0, .ref 0), (1, .int a0), (2, .int a1)] [] S
  refine q_aload_n C dL_ask_0 rfl rfl ?_
  refine q_iload_n C dL_ask_1 rfl rfl ?_
  refine q_iload_n C dL_ask_2 rfl rfl ?_
  refine q_wi2 hX C C6 hM myX6_ask mlL_36 q_s0 ⟨by decide, by decide⟩ (Nat.le_of_ble_eq_true rfl) dL_ask_3 (fun E h9 => ?_) (fun v h9 => ?_)
  · subst h9
    rcases hE E rfl with rfl | rfl | rfl
    · refine q_catch_n C6 hX6 hT [] ⟨0, 6, 7, 20⟩ [⟨0, 6, 10, 31⟩, ⟨0, 6, 14, 14⟩] rfl (fun z hz => nomatch hz) (by decide) (by decide) wk_Ns wc_Ns dL_ask_7 rfl (by decide) ?_
      show q_V l (q_Kw K 6) 8 [] [] T
      refine q_iconst (v := -1) C6 dL_ask_8 (by decide) ?_
      exact hret _ _ _ _ dL_ask_9 (by show _ = uWc [(xENs, (-1)), (xEIo, (-2)), (xEUn, (-3))] xENs; decide +kernel) rfl
    · refine q_catch_n C6 hX6 hT [⟨0, 6, 7, 20⟩] ⟨0, 6, 10, 31⟩ [⟨0, 6, 14, 14⟩] rfl (by intro z hz; simp only [List.mem_cons, List.not_mem_nil, or_false] at hz; rcases hz with rfl; exact ⟨by decide, xENs, wk_Ns, by decide +kernel⟩) (by decide) (by decide) wk_Io wc_Io dL_ask_10 rfl (by decide) ?_
      show q_V l (q_Kw K 6) 11 [] [] T
      refine q_bipush (v := -2) C6 dL_ask_11 (by decide) ?_
      exact hret _ _ _ _ dL_ask_13 (by show _ = uWc [(xENs, (-1)), (xEIo, (-2)), (xEUn, (-3))] xEIo; decide +kernel) rfl
    · refine q_catch_n C6 hX6 hT [⟨0, 6, 7, 20⟩, ⟨0, 6, 10, 31⟩] ⟨0, 6, 14, 14⟩ [] rfl (by intro z hz; simp only [List.mem_cons, List.not_mem_nil, or_false] at hz; rcases hz with rfl | rfl; exact ⟨by decide, xENs, wk_Ns, by decide +kernel⟩ ; exact ⟨by decide, xEIo, wk_Io, by decide +kernel⟩) (by decide) (by decide) wk_Un wc_Un dL_ask_14 rfl (by decide) ?_
      show q_V l (q_Kw K 6) 15 [] [] T
      refine q_bipush (v := -3) C6 dL_ask_15 (by decide) ?_
      exact hret _ _ _ _ dL_ask_17 (by show _ = uWc [(xENs, (-1)), (xEIo, (-2)), (xEUn, (-3))] xEUn; decide +kernel) rfl
  · subst h9
    exact hret _ _ _ _ dL_ask_6 rfl rfl
abbrev kL_decide : Cond := .codeWith yL_decide cL_decide 3 (some .int) [(0, 5, 6, 20), (0, 5, 9, 14)]
theorem w_decide (l : Launch) (S : q_St) (a0 : Int32) (o : (Int32 ⊕ String) × q_St) (hM : q_Fx l yX6_decide kX6_decide 7 6 [.ref 0, .int a0] S o) (hE : ∀ E, o.1 = .inr E → E = xENs ∨ E = xEUn) : q_Fy l yL_decide kL_decide 9 6 [.ref 0, .int a0] S (uW [(xENs, (-1)), (xEUn, (-2))] o.1) o.2 := by
  obtain ⟨o1, T⟩ := o
  refine q_Fw_of (maxL := 3) (hh := [(0, 5, 6, 20), (0, 5, 9, 14)]) rfl (by decide +kernel) (fun ad => Nat.le_of_ble_eq_true rfl) ?_
  intro K hX6 hX hC hT hret
  have C : q_Cx (q_Kw K 0) cL_decide RL 9 3 := hC 0 (by decide)
  have C6 : q_Cx (q_Kw K 6) cL_decide RL 9 3 := hC 6 (by decide)
  show q_V l (q_Kw K 0) 0 [(0, .ref 0), (1, .int a0)] [] S
  refine q_aload_n C dL_decide_0 rfl rfl ?_
  refine q_iload_n C dL_decide_1 rfl rfl ?_
  refine q_wi1 hX C C6 hM myX6_decide mlL_39 q_s0 ⟨by decide, by decide⟩ (Nat.le_of_ble_eq_true rfl) dL_decide_2 (fun E h9 => ?_) (fun v h9 => ?_)
  · subst h9
    rcases hE E rfl with rfl | rfl
    · refine q_catch_n C6 hX6 hT [] ⟨0, 5, 6, 20⟩ [⟨0, 5, 9, 14⟩] rfl (fun z hz => nomatch hz) (by decide) (by decide) wk_Ns wc_Ns dL_decide_6 rfl (by decide) ?_
      show q_V l (q_Kw K 6) 7 [] [] T
      refine q_iconst (v := -1) C6 dL_decide_7 (by decide) ?_
      exact hret _ _ _ _ dL_decide_8 (by show _ = uWc [(xENs, (-1)), (xEUn, (-2))] xENs; decide +kernel) rfl
    · refine q_catch_n C6 hX6 hT [⟨0, 5, 6, 20⟩] ⟨0, 5, 9, 14⟩ [] rfl (by intro z hz; simp only [List.mem_cons, List.not_mem_nil, or_false] at hz; rcases hz with rfl; exact ⟨by decide, xENs, wk_Ns, by decide +kernel⟩) (by decide) (by decide) wk_Un wc_Un dL_decide_9 rfl (by decide) ?_
      show q_V l (q_Kw K 6) 10 [] [] T
      refine q_bipush (v := -2) C6 dL_decide_10 (by decide) ?_
      exact hret _ _ _ _ dL_decide_12 (by show _ = uWc [(xENs, (-1)), (xEUn, (-2))] xEUn; decide +kernel) rfl
  · subst h9
    exact hret _ _ _ _ dL_decide_5 rfl rfl
abbrev kL_tell : Cond := .codeWith yL_tell cL_tell 4 (some .int) [(0, 6, 7, 20), (0, 6, 10, 31), (0, 6, 14, 14)]
theorem w_tell (l : Launch) (S : q_St) (a0 : Int32) (a1 : Int32) (o : (Int32 ⊕ String) × q_St) (hM : q_Fx l yX6_tell kX6_tell 7 6 [.ref 0, .int a0, .int a1] S o) (hE : ∀ E, o.1 = .inr E → E = xENs ∨ E = xEIo ∨ E = xEUn) : q_Fy l yL_tell kL_tell 9 6 [.ref 0, .int a0, .int a1] S (uW [(xENs, (-1)), (xEIo, (-2)), (xEUn, (-3))] o.1) o.2 := by
  obtain ⟨o1, T⟩ := o
  refine q_Fw_of (maxL := 4) (hh := [(0, 6, 7, 20), (0, 6, 10, 31), (0, 6, 14, 14)]) rfl (by decide +kernel) (fun ad => Nat.le_of_ble_eq_true rfl) ?_
  intro K hX6 hX hC hT hret
  have C : q_Cx (q_Kw K 0) cL_tell RL 9 4 := hC 0 (by decide)
  have C6 : q_Cx (q_Kw K 6) cL_tell RL 9 4 := hC 6 (by decide)
  show q_V l (q_Kw K 0) 0 [(0, .ref 0), (1, .int a0), (2, .int a1)] [] S
  refine q_aload_n C dL_tell_0 rfl rfl ?_
  refine q_iload_n C dL_tell_1 rfl rfl ?_
  refine q_iload_n C dL_tell_2 rfl rfl ?_
  refine q_wi2 hX C C6 hM myX6_tell mlL_43 q_s0 ⟨by decide, by decide⟩ (Nat.le_of_ble_eq_true rfl) dL_tell_3 (fun E h9 => ?_) (fun v h9 => ?_)
  · subst h9
    rcases hE E rfl with rfl | rfl | rfl
    · refine q_catch_n C6 hX6 hT [] ⟨0, 6, 7, 20⟩ [⟨0, 6, 10, 31⟩, ⟨0, 6, 14, 14⟩] rfl (fun z hz => nomatch hz) (by decide) (by decide) wk_Ns wc_Ns dL_tell_7 rfl (by decide) ?_
      show q_V l (q_Kw K 6) 8 [] [] T
      refine q_iconst (v := -1) C6 dL_tell_8 (by decide) ?_
      exact hret _ _ _ _ dL_tell_9 (by show _ = uWc [(xENs, (-1)), (xEIo, (-2)), (xEUn, (-3))] xENs; decide +kernel) rfl
    · refine q_catch_n C6 hX6 hT [⟨0, 6, 7, 20⟩] ⟨0, 6, 10, 31⟩ [⟨0, 6, 14, 14⟩] rfl (by intro z hz; simp only [List.mem_cons, List.not_mem_nil, or_false] at hz; rcases hz with rfl; exact ⟨by decide, xENs, wk_Ns, by decide +kernel⟩) (by decide) (by decide) wk_Io wc_Io dL_tell_10 rfl (by decide) ?_
      show q_V l (q_Kw K 6) 11 [] [] T
      refine q_bipush (v := -2) C6 dL_tell_11 (by decide) ?_
      exact hret _ _ _ _ dL_tell_13 (by show _ = uWc [(xENs, (-1)), (xEIo, (-2)), (xEUn, (-3))] xEIo; decide +kernel) rfl
    · refine q_catch_n C6 hX6 hT [⟨0, 6, 7, 20⟩, ⟨0, 6, 10, 31⟩] ⟨0, 6, 14, 14⟩ [] rfl (by intro z hz; simp only [List.mem_cons, List.not_mem_nil, or_false] at hz; rcases hz with rfl | rfl; exact ⟨by decide, xENs, wk_Ns, by decide +kernel⟩ ; exact ⟨by decide, xEIo, wk_Io, by decide +kernel⟩) (by decide) (by decide) wk_Un wc_Un dL_tell_14 rfl (by decide) ?_
      show q_V l (q_Kw K 6) 15 [] [] T
      refine q_bipush (v := -3) C6 dL_tell_15 (by decide) ?_
      exact hret _ _ _ _ dL_tell_17 (by show _ = uWc [(xENs, (-1)), (xEIo, (-2)), (xEUn, (-3))] xEUn; decide +kernel) rfl
  · subst h9
    exact hret _ _ _ _ dL_tell_6 rfl rfl
abbrev kL_faint : Cond := .codeWith yL_faint cL_faint 2 (some .int) [(0, 4, 5, 14)]
theorem w_faint (l : Launch) (S : q_St) (o : (Int32 ⊕ String) × q_St) (hM : q_Fx l yX6_faint kX6_faint 7 6 [.ref 0] S o) (hE : ∀ E, o.1 = .inr E → E = xEUn) : q_Fy l yL_faint kL_faint 9 6 [.ref 0] S (uW [(xEUn, (-2))] o.1) o.2 := by
  obtain ⟨o1, T⟩ := o
  refine q_Fw_of (maxL := 2) (hh := [(0, 4, 5, 14)]) rfl (by decide +kernel) (fun ad => Nat.le_of_ble_eq_true rfl) ?_
  intro K hX6 hX hC hT hret
  have C : q_Cx (q_Kw K 0) cL_faint RL 9 2 := hC 0 (by decide)
  have C6 : q_Cx (q_Kw K 6) cL_faint RL 9 2 := hC 6 (by decide)
  show q_V l (q_Kw K 0) 0 [(0, .ref 0)] [] S
  refine q_aload_n C dL_faint_0 rfl rfl ?_
  refine q_wi0 hX C C6 hM myX6_faint mlL_46 q_s0 ⟨by decide, by decide⟩ (Nat.le_of_ble_eq_true rfl) dL_faint_1 (fun E h9 => ?_) (fun v h9 => ?_)
  · subst h9
    rcases hE E rfl with rfl
    refine q_catch_n C6 hX6 hT [] ⟨0, 4, 5, 14⟩ [] rfl (fun z hz => nomatch hz) (by decide) (by decide) wk_Un wc_Un dL_faint_5 rfl (by decide) ?_
    show q_V l (q_Kw K 6) 6 [] [] T
    refine q_bipush (v := -2) C6 dL_faint_6 (by decide) ?_
    exact hret _ _ _ _ dL_faint_8 (by show _ = uWc [(xEUn, (-2))] xEUn; decide +kernel) rfl
  · subst h9
    exact hret _ _ _ _ dL_faint_4 rfl rfl
abbrev kL_wake : Cond := .codeWith yL_wake cL_wake 2 (some .int) [(0, 4, 5, 14)]
theorem w_wake (l : Launch) (S : q_St) (o : (Int32 ⊕ String) × q_St) (hM : q_Fx l yX6_wake kX6_wake 7 6 [.ref 0] S o) (hE : ∀ E, o.1 = .inr E → E = xEUn) : q_Fy l yL_wake kL_wake 9 6 [.ref 0] S (uW [(xEUn, (-2))] o.1) o.2 := by
  obtain ⟨o1, T⟩ := o
  refine q_Fw_of (maxL := 2) (hh := [(0, 4, 5, 14)]) rfl (by decide +kernel) (fun ad => Nat.le_of_ble_eq_true rfl) ?_
  intro K hX6 hX hC hT hret
  have C : q_Cx (q_Kw K 0) cL_wake RL 9 2 := hC 0 (by decide)
  have C6 : q_Cx (q_Kw K 6) cL_wake RL 9 2 := hC 6 (by decide)
  show q_V l (q_Kw K 0) 0 [(0, .ref 0)] [] S
  refine q_aload_n C dL_wake_0 rfl rfl ?_
  refine q_wi0 hX C C6 hM myX6_wake mlL_49 q_s0 ⟨by decide, by decide⟩ (Nat.le_of_ble_eq_true rfl) dL_wake_1 (fun E h9 => ?_) (fun v h9 => ?_)
  · subst h9
    rcases hE E rfl with rfl
    refine q_catch_n C6 hX6 hT [] ⟨0, 4, 5, 14⟩ [] rfl (fun z hz => nomatch hz) (by decide) (by decide) wk_Un wc_Un dL_wake_5 rfl (by decide) ?_
    show q_V l (q_Kw K 6) 6 [] [] T
    refine q_bipush (v := -2) C6 dL_wake_6 (by decide) ?_
    exact hret _ _ _ _ dL_wake_8 (by show _ = uWc [(xEUn, (-2))] xEUn; decide +kernel) rfl
  · subst h9
    exact hret _ _ _ _ dL_wake_4 rfl rfl
abbrev kL_book : Cond := .codeWith yL_book cL_book 3 (some .int) [(0, 5, 6, 20)]
theorem w_book (l : Launch) (S : q_St) (a0 : Int32) (o : (Int32 ⊕ String) × q_St) (hM : q_Fx l yX6_book kX6_book 7 6 [.ref 0, .int a0] S o) (hE : ∀ E, o.1 = .inr E → E = xENs) : q_Fy l yL_book kL_book 9 6 [.ref 0, .int a0] S (uW [(xENs, (-13))] o.1) o.2 := by
  obtain ⟨o1, T⟩ := o
  refine q_Fw_of (maxL := 3) (hh := [(0, 5, 6, 20)]) rfl (by decide +kernel) (fun ad => Nat.le_of_ble_eq_true rfl) ?_
  intro K hX6 hX hC hT hret
  have C : q_Cx (q_Kw K 0) cL_book RL 9 3 := hC 0 (by decide)
  have C6 : q_Cx (q_Kw K 6) cL_book RL 9 3 := hC 6 (by decide)
  show q_V l (q_Kw K 0) 0 [(0, .ref 0), (1, .int a0)] [] S
  refine q_aload_n C dL_book_0 rfl rfl ?_
  refine q_iload_n C dL_book_1 rfl rfl ?_
  refine q_wi1 hX C C6 hM myX6_book mlL_52 q_s0 ⟨by decide, by decide⟩ (Nat.le_of_ble_eq_true rfl) dL_book_2 (fun E h9 => ?_) (fun v h9 => ?_)
  · subst h9
    rcases hE E rfl with rfl
    refine q_catch_n C6 hX6 hT [] ⟨0, 5, 6, 20⟩ [] rfl (fun z hz => nomatch hz) (by decide) (by decide) wk_Ns wc_Ns dL_book_6 rfl (by decide) ?_
    show q_V l (q_Kw K 6) 7 [] [] T
    refine q_bipush (v := -13) C6 dL_book_7 (by decide) ?_
    exact hret _ _ _ _ dL_book_9 (by show _ = uWc [(xENs, (-13))] xENs; decide +kernel) rfl
  · subst h9
    exact hret _ _ _ _ dL_book_5 rfl rfl
abbrev kL_wouldSeal : Cond := .codeWith yL_wouldSeal cL_wouldSeal 3 (some .int) [(0, 13, 14, 20), (0, 13, 18, 59)]
theorem w_wouldSeal (l : Launch) (S : q_St) (a0 : Int32) (o : (Int32 ⊕ String) × q_St) (hM : q_Fx l yX6_wouldSeal kX6_wouldSeal 7 6 [.ref 0, .int a0] S o) (hE : ∀ E, o.1 = .inr E → E = xENs ∨ E = xEIs) (hb9 : ∀ v, o.1 = .inl v → v = 0 ∨ v = 1) : q_Fy l yL_wouldSeal kL_wouldSeal 9 6 [.ref 0, .int a0] S (uW [(xENs, (-13)), (xEIs, (-14))] o.1) o.2 := by
  obtain ⟨o1, T⟩ := o
  refine q_Fw_of (maxL := 3) (hh := [(0, 13, 14, 20), (0, 13, 18, 59)]) rfl (by decide +kernel) (fun ad => Nat.le_of_ble_eq_true rfl) ?_
  intro K hX6 hX hC hT hret
  have C : q_Cx (q_Kw K 0) cL_wouldSeal RL 9 3 := hC 0 (by decide)
  have C6 : q_Cx (q_Kw K 6) cL_wouldSeal RL 9 3 := hC 6 (by decide)
  show q_V l (q_Kw K 0) 0 [(0, .ref 0), (1, .int a0)] [] S
  refine q_aload_n C dL_wouldSeal_0 rfl rfl ?_
  refine q_iload_n C dL_wouldSeal_1 rfl rfl ?_
  refine q_wi1 hX C C6 hM myX6_wouldSeal mlL_55 q_s0 ⟨by decide, by decide⟩ (Nat.le_of_ble_eq_true rfl) dL_wouldSeal_2 (fun E h9 => ?_) (fun v h9 => ?_)
  · subst h9
    rcases hE E rfl with rfl | rfl
    · refine q_catch_n C6 hX6 hT [] ⟨0, 13, 14, 20⟩ [⟨0, 13, 18, 59⟩] rfl (fun z hz => nomatch hz) (by decide) (by decide) wk_Ns wc_Ns dL_wouldSeal_14 rfl (by decide) ?_
      show q_V l (q_Kw K 6) 15 [] [] T
      refine q_bipush (v := -13) C6 dL_wouldSeal_15 (by decide) ?_
      exact hret _ _ _ _ dL_wouldSeal_17 (by show _ = uWc [(xENs, (-13)), (xEIs, (-14))] xENs; decide +kernel) rfl
    · refine q_catch_n C6 hX6 hT [⟨0, 13, 14, 20⟩] ⟨0, 13, 18, 59⟩ [] rfl (by intro z hz; simp only [List.mem_cons, List.not_mem_nil, or_false] at hz; rcases hz with rfl; exact ⟨by decide, xENs, wk_Ns, by decide +kernel⟩) (by decide) (by decide) wk_Is wc_Is dL_wouldSeal_18 rfl (by decide) ?_
      show q_V l (q_Kw K 6) 19 [] [] T
      refine q_bipush (v := -14) C6 dL_wouldSeal_19 (by decide) ?_
      exact hret _ _ _ _ dL_wouldSeal_21 (by show _ = uWc [(xENs, (-13)), (xEIs, (-14))] xEIs; decide +kernel) rfl
  · subst h9
    rcases hb9 v rfl with rfl | rfl
    · refine q_if_eq (tgt := 12) C6 dL_wouldSeal_5 (by decide) (fun _ => ?_) (fun h9 => absurd rfl h9)
      refine q_iconst (v := 0) C6 dL_wouldSeal_12 (by decide) ?_
      exact hret _ _ _ _ dL_wouldSeal_13 rfl rfl
    · refine q_if_eq (tgt := 12) C6 dL_wouldSeal_5 (by decide) (fun h9 => absurd h9 (by decide)) (fun _ => ?_)
      refine q_iconst (v := 1) C6 dL_wouldSeal_8 (by decide) ?_
      refine q_goto (tgt := 13) C6 dL_wouldSeal_9 (by decide) ?_
      exact hret _ _ _ _ dL_wouldSeal_13 rfl rfl
abbrev kL_sleep : Cond := .codeWith yL_sleep cL_sleep 3 (some .int) [(0, 5, 6, 31), (0, 5, 9, 14)]
theorem w_sleep (l : Launch) (S : q_St) (a0 : Int32) (o : (Int32 ⊕ String) × q_St) (hM : q_Fx l yX6_sleep kX6_sleep 7 6 [.ref 0, .int a0] S o) (hE : ∀ E, o.1 = .inr E → E = xEIo ∨ E = xEUn) : q_Fy l yL_sleep kL_sleep 9 6 [.ref 0, .int a0] S (uW [(xEIo, (-1)), (xEUn, (-2))] o.1) o.2 := by
  obtain ⟨o1, T⟩ := o
  refine q_Fw_of (maxL := 3) (hh := [(0, 5, 6, 31), (0, 5, 9, 14)]) rfl (by decide +kernel) (fun ad => Nat.le_of_ble_eq_true rfl) ?_
  intro K hX6 hX hC hT hret
  have C : q_Cx (q_Kw K 0) cL_sleep RL 9 3 := hC 0 (by decide)
  have C6 : q_Cx (q_Kw K 6) cL_sleep RL 9 3 := hC 6 (by decide)
  show q_V l (q_Kw K 0) 0 [(0, .ref 0), (1, .int a0)] [] S
  refine q_aload_n C dL_sleep_0 rfl rfl ?_
  refine q_iload_n C dL_sleep_1 rfl rfl ?_
  refine q_wi1 hX C C6 hM myX6_sleep mlL_61 q_s0 ⟨by decide, by decide⟩ (Nat.le_of_ble_eq_true rfl) dL_sleep_2 (fun E h9 => ?_) (fun v h9 => ?_)
  · subst h9
    rcases hE E rfl with rfl | rfl
    · refine q_catch_n C6 hX6 hT [] ⟨0, 5, 6, 31⟩ [⟨0, 5, 9, 14⟩] rfl (fun z hz => nomatch hz) (by decide) (by decide) wk_Io wc_Io dL_sleep_6 rfl (by decide) ?_
      show q_V l (q_Kw K 6) 7 [] [] T
      refine q_iconst (v := -1) C6 dL_sleep_7 (by decide) ?_
      exact hret _ _ _ _ dL_sleep_8 (by show _ = uWc [(xEIo, (-1)), (xEUn, (-2))] xEIo; decide +kernel) rfl
    · refine q_catch_n C6 hX6 hT [⟨0, 5, 6, 31⟩] ⟨0, 5, 9, 14⟩ [] rfl (by intro z hz; simp only [List.mem_cons, List.not_mem_nil, or_false] at hz; rcases hz with rfl; exact ⟨by decide, xEIo, wk_Io, by decide +kernel⟩) (by decide) (by decide) wk_Un wc_Un dL_sleep_9 rfl (by decide) ?_
      show q_V l (q_Kw K 6) 10 [] [] T
      refine q_bipush (v := -2) C6 dL_sleep_10 (by decide) ?_
      exact hret _ _ _ _ dL_sleep_12 (by show _ = uWc [(xEIo, (-1)), (xEUn, (-2))] xEUn; decide +kernel) rfl
  · subst h9
    exact hret _ _ _ _ dL_sleep_5 rfl rfl
abbrev kL_rouse : Cond := .codeWith yL_rouse cL_rouse 3 (some .int) [(0, 5, 6, 31), (0, 5, 9, 14)]
theorem w_rouse (l : Launch) (S : q_St) (a0 : Int32) (o : (Int32 ⊕ String) × q_St) (hM : q_Fx l yX6_rouse kX6_rouse 7 6 [.ref 0, .int a0] S o) (hE : ∀ E, o.1 = .inr E → E = xEIo ∨ E = xEUn) : q_Fy l yL_rouse kL_rouse 9 6 [.ref 0, .int a0] S (uW [(xEIo, (-1)), (xEUn, (-2))] o.1) o.2 := by
  obtain ⟨o1, T⟩ := o
  refine q_Fw_of (maxL := 3) (hh := [(0, 5, 6, 31), (0, 5, 9, 14)]) rfl (by decide +kernel) (fun ad => Nat.le_of_ble_eq_true rfl) ?_
  intro K hX6 hX hC hT hret
  have C : q_Cx (q_Kw K 0) cL_rouse RL 9 3 := hC 0 (by decide)
  have C6 : q_Cx (q_Kw K 6) cL_rouse RL 9 3 := hC 6 (by decide)
  show q_V l (q_Kw K 0) 0 [(0, .ref 0), (1, .int a0)] [] S
  refine q_aload_n C dL_rouse_0 rfl rfl ?_
  refine q_iload_n C dL_rouse_1 rfl rfl ?_
  refine q_wi1 hX C C6 hM myX6_rouse mlL_64 q_s0 ⟨by decide, by decide⟩ (Nat.le_of_ble_eq_true rfl) dL_rouse_2 (fun E h9 => ?_) (fun v h9 => ?_)
  · subst h9
    rcases hE E rfl with rfl | rfl
    · refine q_catch_n C6 hX6 hT [] ⟨0, 5, 6, 31⟩ [⟨0, 5, 9, 14⟩] rfl (fun z hz => nomatch hz) (by decide) (by decide) wk_Io wc_Io dL_rouse_6 rfl (by decide) ?_
      show q_V l (q_Kw K 6) 7 [] [] T
      refine q_iconst (v := -1) C6 dL_rouse_7 (by decide) ?_
      exact hret _ _ _ _ dL_rouse_8 (by show _ = uWc [(xEIo, (-1)), (xEUn, (-2))] xEIo; decide +kernel) rfl
    · refine q_catch_n C6 hX6 hT [⟨0, 5, 6, 31⟩] ⟨0, 5, 9, 14⟩ [] rfl (by intro z hz; simp only [List.mem_cons, List.not_mem_nil, or_false] at hz; rcases hz with rfl; exact ⟨by decide, xEIo, wk_Io, by decide +kernel⟩) (by decide) (by decide) wk_Un wc_Un dL_rouse_9 rfl (by decide) ?_
      show q_V l (q_Kw K 6) 10 [] [] T
      refine q_bipush (v := -2) C6 dL_rouse_10 (by decide) ?_
      exact hret _ _ _ _ dL_rouse_12 (by show _ = uWc [(xEIo, (-1)), (xEUn, (-2))] xEUn; decide +kernel) rfl
  · subst h9
    exact hret _ _ _ _ dL_rouse_5 rfl rfl
abbrev kL_inquire : Cond := .codeWith yL_inquire cL_inquire 5 (some .int) [(0, 7, 8, 20), (0, 7, 12, 31), (0, 7, 17, 14)]
theorem w_inquire (l : Launch) (S : q_St) (a0 : Int32) (a1 : Int32) (a2 : Int32) (o : (Int32 ⊕ String) × q_St) (hM : q_Fx l yX6_inquire kX6_inquire 7 6 [.ref 0, .int a0, .int a1, .int a2] S o) (hE : ∀ E, o.1 = .inr E → E = xENs ∨ E = xEIo ∨ E = xEUn) : q_Fy l yL_inquire kL_inquire 9 6 [.ref 0, .int a0, .int a1, .int a2] S (uW [(xENs, (-1)), (xEIo, (-2)), (xEUn, (-3))] o.1) o.2 := by
  obtain ⟨o1, T⟩ := o
  refine q_Fw_of (maxL := 5) (hh := [(0, 7, 8, 20), (0, 7, 12, 31), (0, 7, 17, 14)]) rfl (by decide +kernel) (fun ad => Nat.le_of_ble_eq_true rfl) ?_
  intro K hX6 hX hC hT hret
  have C : q_Cx (q_Kw K 0) cL_inquire RL 9 5 := hC 0 (by decide)
  have C6 : q_Cx (q_Kw K 6) cL_inquire RL 9 5 := hC 6 (by decide)
  show q_V l (q_Kw K 0) 0 [(0, .ref 0), (1, .int a0), (2, .int a1), (3, .int a2)] [] S
  refine q_aload_n C dL_inquire_0 rfl rfl ?_
  refine q_iload_n C dL_inquire_1 rfl rfl ?_
  refine q_iload_n C dL_inquire_2 rfl rfl ?_
  refine q_iload_n C dL_inquire_3 rfl rfl ?_
  refine q_wi3 hX C C6 hM myX6_inquire mlL_67 q_s0 ⟨by decide, by decide⟩ (Nat.le_of_ble_eq_true rfl) dL_inquire_4 (fun E h9 => ?_) (fun v h9 => ?_)
  · subst h9
    rcases hE E rfl with rfl | rfl | rfl
    · refine q_catch C6 hX6 hT [] ⟨0, 7, 8, 20⟩ [⟨0, 7, 12, 31⟩, ⟨0, 7, 17, 14⟩] rfl (fun z hz => nomatch hz) (by decide) (by decide) wk_Ns wc_Ns dL_inquire_8 (by decide) ?_
      show q_V l (q_Kw K 6) 10 [] [] T
      refine q_iconst (v := -1) C6 dL_inquire_10 (by decide) ?_
      exact hret _ _ _ _ dL_inquire_11 (by show _ = uWc [(xENs, (-1)), (xEIo, (-2)), (xEUn, (-3))] xENs; decide +kernel) rfl
    · refine q_catch C6 hX6 hT [⟨0, 7, 8, 20⟩] ⟨0, 7, 12, 31⟩ [⟨0, 7, 17, 14⟩] rfl (by intro z hz; simp only [List.mem_cons, List.not_mem_nil, or_false] at hz; rcases hz with rfl; exact ⟨by decide, xENs, wk_Ns, by decide +kernel⟩) (by decide) (by decide) wk_Io wc_Io dL_inquire_12 (by decide) ?_
      show q_V l (q_Kw K 6) 14 [] [] T
      refine q_bipush (v := -2) C6 dL_inquire_14 (by decide) ?_
      exact hret _ _ _ _ dL_inquire_16 (by show _ = uWc [(xENs, (-1)), (xEIo, (-2)), (xEUn, (-3))] xEIo; decide +kernel) rfl
    · refine q_catch C6 hX6 hT [⟨0, 7, 8, 20⟩, ⟨0, 7, 12, 31⟩] ⟨0, 7, 17, 14⟩ [] rfl (by intro z hz; simp only [List.mem_cons, List.not_mem_nil, or_false] at hz; rcases hz with rfl | rfl; exact ⟨by decide, xENs, wk_Ns, by decide +kernel⟩ ; exact ⟨by decide, xEIo, wk_Io, by decide +kernel⟩) (by decide) (by decide) wk_Un wc_Un dL_inquire_17 (by decide) ?_
      show q_V l (q_Kw K 6) 19 [] [] T
      refine q_bipush (v := -3) C6 dL_inquire_19 (by decide) ?_
      exact hret _ _ _ _ dL_inquire_21 (by show _ = uWc [(xENs, (-1)), (xEIo, (-2)), (xEUn, (-3))] xEUn; decide +kernel) rfl
  · subst h9
    exact hret _ _ _ _ dL_inquire_7 rfl rfl
abbrev kL_guildOf : Cond := .codeWith yL_guildOf cL_guildOf 4 (some .int) [(0, 6, 7, 31), (0, 6, 11, 22)]
theorem w_guildOf (l : Launch) (S : q_St) (a0 : Int32) (a1 : Int32) (o : (Int32 ⊕ String) × q_St) (hM : q_Fx l yX6_guildOf kX6_guildOf 7 6 [.ref 0, .int a0, .int a1] S o) (hE : ∀ E, o.1 = .inr E → E = xEIo ∨ E = xEIa) : q_Fy l yL_guildOf kL_guildOf 9 6 [.ref 0, .int a0, .int a1] S (uW [(xEIo, (-11)), (xEIa, (-12))] o.1) o.2 := by
  obtain ⟨o1, T⟩ := o
  refine q_Fw_of (maxL := 4) (hh := [(0, 6, 7, 31), (0, 6, 11, 22)]) rfl (by decide +kernel) (fun ad => Nat.le_of_ble_eq_true rfl) ?_
  intro K hX6 hX hC hT hret
  have C : q_Cx (q_Kw K 0) cL_guildOf RL 9 4 := hC 0 (by decide)
  have C6 : q_Cx (q_Kw K 6) cL_guildOf RL 9 4 := hC 6 (by decide)
  show q_V l (q_Kw K 0) 0 [(0, .ref 0), (1, .int a0), (2, .int a1)] [] S
  refine q_aload_n C dL_guildOf_0 rfl rfl ?_
  refine q_iload_n C dL_guildOf_1 rfl rfl ?_
  refine q_iload_n C dL_guildOf_2 rfl rfl ?_
  refine q_wi2 hX C C6 hM myX6_guildOf mlL_70 q_s0 ⟨by decide, by decide⟩ (Nat.le_of_ble_eq_true rfl) dL_guildOf_3 (fun E h9 => ?_) (fun v h9 => ?_)
  · subst h9
    rcases hE E rfl with rfl | rfl
    · refine q_catch_n C6 hX6 hT [] ⟨0, 6, 7, 31⟩ [⟨0, 6, 11, 22⟩] rfl (fun z hz => nomatch hz) (by decide) (by decide) wk_Io wc_Io dL_guildOf_7 rfl (by decide) ?_
      show q_V l (q_Kw K 6) 8 [] [] T
      refine q_bipush (v := -11) C6 dL_guildOf_8 (by decide) ?_
      exact hret _ _ _ _ dL_guildOf_10 (by show _ = uWc [(xEIo, (-11)), (xEIa, (-12))] xEIo; decide +kernel) rfl
    · refine q_catch_n C6 hX6 hT [⟨0, 6, 7, 31⟩] ⟨0, 6, 11, 22⟩ [] rfl (by intro z hz; simp only [List.mem_cons, List.not_mem_nil, or_false] at hz; rcases hz with rfl; exact ⟨by decide, xEIo, wk_Io, by decide +kernel⟩) (by decide) (by decide) wk_Ia wc_Ia dL_guildOf_11 rfl (by decide) ?_
      show q_V l (q_Kw K 6) 12 [] [] T
      refine q_bipush (v := -12) C6 dL_guildOf_12 (by decide) ?_
      exact hret _ _ _ _ dL_guildOf_14 (by show _ = uWc [(xEIo, (-11)), (xEIa, (-12))] xEIa; decide +kernel) rfl
  · subst h9
    exact hret _ _ _ _ dL_guildOf_6 rfl rfl
abbrev kL_canLearn : Cond := .codeWith yL_canLearn cL_canLearn 4 (some .int) [(0, 14, 15, 31)]
theorem w_canLearn (l : Launch) (S : q_St) (a0 : Int32) (a1 : Int32) (o : (Int32 ⊕ String) × q_St) (hM : q_Fx l yX6_canLearn kX6_canLearn 7 6 [.ref 0, .int a0, .int a1] S o) (hE : ∀ E, o.1 = .inr E → E = xEIo) (hb9 : ∀ v, o.1 = .inl v → v = 0 ∨ v = 1) : q_Fy l yL_canLearn kL_canLearn 9 6 [.ref 0, .int a0, .int a1] S (uW [(xEIo, (-11))] o.1) o.2 := by
  obtain ⟨o1, T⟩ := o
  refine q_Fw_of (maxL := 4) (hh := [(0, 14, 15, 31)]) rfl (by decide +kernel) (fun ad => Nat.le_of_ble_eq_true rfl) ?_
  intro K hX6 hX hC hT hret
  have C : q_Cx (q_Kw K 0) cL_canLearn RL 9 4 := hC 0 (by decide)
  have C6 : q_Cx (q_Kw K 6) cL_canLearn RL 9 4 := hC 6 (by decide)
  show q_V l (q_Kw K 0) 0 [(0, .ref 0), (1, .int a0), (2, .int a1)] [] S
  refine q_aload_n C dL_canLearn_0 rfl rfl ?_
  refine q_iload_n C dL_canLearn_1 rfl rfl ?_
  refine q_iload_n C dL_canLearn_2 rfl rfl ?_
  refine q_wi2 hX C C6 hM myX6_canLearn mlL_73 q_s0 ⟨by decide, by decide⟩ (Nat.le_of_ble_eq_true rfl) dL_canLearn_3 (fun E h9 => ?_) (fun v h9 => ?_)
  · subst h9
    rcases hE E rfl with rfl
    refine q_catch_n C6 hX6 hT [] ⟨0, 14, 15, 31⟩ [] rfl (fun z hz => nomatch hz) (by decide) (by decide) wk_Io wc_Io dL_canLearn_15 rfl (by decide) ?_
    show q_V l (q_Kw K 6) 16 [] [] T
    refine q_bipush (v := -11) C6 dL_canLearn_16 (by decide) ?_
    exact hret _ _ _ _ dL_canLearn_18 (by show _ = uWc [(xEIo, (-11))] xEIo; decide +kernel) rfl
  · subst h9
    rcases hb9 v rfl with rfl | rfl
    · refine q_if_eq (tgt := 13) C6 dL_canLearn_6 (by decide) (fun _ => ?_) (fun h9 => absurd rfl h9)
      refine q_iconst (v := 0) C6 dL_canLearn_13 (by decide) ?_
      exact hret _ _ _ _ dL_canLearn_14 rfl rfl
    · refine q_if_eq (tgt := 13) C6 dL_canLearn_6 (by decide) (fun h9 => absurd h9 (by decide)) (fun _ => ?_)
      refine q_iconst (v := 1) C6 dL_canLearn_9 (by decide) ?_
      refine q_goto (tgt := 14) C6 dL_canLearn_10 (by decide) ?_
      exact hret _ _ _ _ dL_canLearn_14 rfl rfl
abbrev kL_pass : Cond := .codeWith yL_pass cL_pass 3 (some .int) [(0, 5, 6, 22)]
theorem w_pass (l : Launch) (S : q_St) (a0 : Int32) (o : (Int32 ⊕ String) × q_St) (hM : q_Fx l yX6_pass kX6_pass 7 6 [.ref 0, .int a0] S o) (hE : ∀ E, o.1 = .inr E → E = xEIa) : q_Fy l yL_pass kL_pass 9 6 [.ref 0, .int a0] S (uW [(xEIa, (-1))] o.1) o.2 := by
  obtain ⟨o1, T⟩ := o
  refine q_Fw_of (maxL := 3) (hh := [(0, 5, 6, 22)]) rfl (by decide +kernel) (fun ad => Nat.le_of_ble_eq_true rfl) ?_
  intro K hX6 hX hC hT hret
  have C : q_Cx (q_Kw K 0) cL_pass RL 9 3 := hC 0 (by decide)
  have C6 : q_Cx (q_Kw K 6) cL_pass RL 9 3 := hC 6 (by decide)
  show q_V l (q_Kw K 0) 0 [(0, .ref 0), (1, .int a0)] [] S
  refine q_aload_n C dL_pass_0 rfl rfl ?_
  refine q_iload_n C dL_pass_1 rfl rfl ?_
  refine q_wi1 hX C C6 hM myX6_pass mlL_77 q_s0 ⟨by decide, by decide⟩ (Nat.le_of_ble_eq_true rfl) dL_pass_2 (fun E h9 => ?_) (fun v h9 => ?_)
  · subst h9
    rcases hE E rfl with rfl
    refine q_catch_n C6 hX6 hT [] ⟨0, 5, 6, 22⟩ [] rfl (fun z hz => nomatch hz) (by decide) (by decide) wk_Ia wc_Ia dL_pass_6 rfl (by decide) ?_
    show q_V l (q_Kw K 6) 7 [] [] T
    refine q_iconst (v := -1) C6 dL_pass_7 (by decide) ?_
    exact hret _ _ _ _ dL_pass_8 (by show _ = uWc [(xEIa, (-1))] xEIa; decide +kernel) rfl
  · subst h9
    exact hret _ _ _ _ dL_pass_5 rfl rfl
abbrev kL_ranked : Cond := .codeWith yL_ranked cL_ranked 3 (some .int) [(0, 5, 6, 31)]
theorem w_ranked (l : Launch) (S : q_St) (a0 : Int32) (o : (Int32 ⊕ String) × q_St) (hM : q_Fx l yX6_ranked kX6_ranked 7 6 [.ref 0, .int a0] S o) (hE : ∀ E, o.1 = .inr E → E = xEIo) : q_Fy l yL_ranked kL_ranked 9 6 [.ref 0, .int a0] S (uW [(xEIo, (-11))] o.1) o.2 := by
  obtain ⟨o1, T⟩ := o
  refine q_Fw_of (maxL := 3) (hh := [(0, 5, 6, 31)]) rfl (by decide +kernel) (fun ad => Nat.le_of_ble_eq_true rfl) ?_
  intro K hX6 hX hC hT hret
  have C : q_Cx (q_Kw K 0) cL_ranked RL 9 3 := hC 0 (by decide)
  have C6 : q_Cx (q_Kw K 6) cL_ranked RL 9 3 := hC 6 (by decide)
  show q_V l (q_Kw K 0) 0 [(0, .ref 0), (1, .int a0)] [] S
  refine q_aload_n C dL_ranked_0 rfl rfl ?_
  refine q_iload_n C dL_ranked_1 rfl rfl ?_
  refine q_wi1 hX C C6 hM myX6_ranked mlL_80 q_s0 ⟨by decide, by decide⟩ (Nat.le_of_ble_eq_true rfl) dL_ranked_2 (fun E h9 => ?_) (fun v h9 => ?_)
  · subst h9
    rcases hE E rfl with rfl
    refine q_catch_n C6 hX6 hT [] ⟨0, 5, 6, 31⟩ [] rfl (fun z hz => nomatch hz) (by decide) (by decide) wk_Io wc_Io dL_ranked_6 rfl (by decide) ?_
    show q_V l (q_Kw K 6) 7 [] [] T
    refine q_bipush (v := -11) C6 dL_ranked_7 (by decide) ?_
    exact hret _ _ _ _ dL_ranked_9 (by show _ = uWc [(xEIo, (-11))] xEIo; decide +kernel) rfl
  · subst h9
    exact hret _ _ _ _ dL_ranked_5 rfl rfl
abbrev kL_line : Cond := .codeWith yL_line cL_line 3 (some .int) [(0, 5, 6, 20)]
theorem w_line (l : Launch) (S : q_St) (a0 : Int32) (o : (Int32 ⊕ String) × q_St) (hM : q_Fx l yX6_line kX6_line 7 6 [.ref 0, .int a0] S o) (hE : ∀ E, o.1 = .inr E → E = xENs) : q_Fy l yL_line kL_line 9 6 [.ref 0, .int a0] S (uW [(xENs, (-13))] o.1) o.2 := by
  obtain ⟨o1, T⟩ := o
  refine q_Fw_of (maxL := 3) (hh := [(0, 5, 6, 20)]) rfl (by decide +kernel) (fun ad => Nat.le_of_ble_eq_true rfl) ?_
  intro K hX6 hX hC hT hret
  have C : q_Cx (q_Kw K 0) cL_line RL 9 3 := hC 0 (by decide)
  have C6 : q_Cx (q_Kw K 6) cL_line RL 9 3 := hC 6 (by decide)
  show q_V l (q_Kw K 0) 0 [(0, .ref 0), (1, .int a0)] [] S
  refine q_aload_n C dL_line_0 rfl rfl ?_
  refine q_iload_n C dL_line_1 rfl rfl ?_
  refine q_wi1 hX C C6 hM myX6_line mlL_83 q_s0 ⟨by decide, by decide⟩ (Nat.le_of_ble_eq_true rfl) dL_line_2 (fun E h9 => ?_) (fun v h9 => ?_)
  · subst h9
    rcases hE E rfl with rfl
    refine q_catch_n C6 hX6 hT [] ⟨0, 5, 6, 20⟩ [] rfl (fun z hz => nomatch hz) (by decide) (by decide) wk_Ns wc_Ns dL_line_6 rfl (by decide) ?_
    show q_V l (q_Kw K 6) 7 [] [] T
    refine q_bipush (v := -13) C6 dL_line_7 (by decide) ?_
    exact hret _ _ _ _ dL_line_9 (by show _ = uWc [(xENs, (-13))] xENs; decide +kernel) rfl
  · subst h9
    exact hret _ _ _ _ dL_line_5 rfl rfl
abbrev kL_character : Cond := .codeWith yL_character cL_character 3 (some .int) [(0, 5, 6, 31)]
theorem w_character (l : Launch) (S : q_St) (a0 : Int32) (o : (Int32 ⊕ String) × q_St) (hM : q_Fx l yX6_character kX6_character 7 6 [.ref 0, .int a0] S o) (hE : ∀ E, o.1 = .inr E → E = xEIo) : q_Fy l yL_character kL_character 9 6 [.ref 0, .int a0] S (uW [(xEIo, (-11))] o.1) o.2 := by
  obtain ⟨o1, T⟩ := o
  refine q_Fw_of (maxL := 3) (hh := [(0, 5, 6, 31)]) rfl (by decide +kernel) (fun ad => Nat.le_of_ble_eq_true rfl) ?_
  intro K hX6 hX hC hT hret
  have C : q_Cx (q_Kw K 0) cL_character RL 9 3 := hC 0 (by decide)
  have C6 : q_Cx (q_Kw K 6) cL_character RL 9 3 := hC 6 (by decide)
  show q_V l (q_Kw K 0) 0 [(0, .ref 0), (1, .int a0)] [] S
  refine q_aload_n C dL_character_0 rfl rfl ?_
  refine q_iload_n C dL_character_1 rfl rfl ?_
  refine q_wi1 hX C C6 hM myX6_character mlL_86 q_s0 ⟨by decide, by decide⟩ (Nat.le_of_ble_eq_true rfl) dL_character_2 (fun E h9 => ?_) (fun v h9 => ?_)
  · subst h9
    rcases hE E rfl with rfl
    refine q_catch_n C6 hX6 hT [] ⟨0, 5, 6, 31⟩ [] rfl (fun z hz => nomatch hz) (by decide) (by decide) wk_Io wc_Io dL_character_6 rfl (by decide) ?_
    show q_V l (q_Kw K 6) 7 [] [] T
    refine q_bipush (v := -11) C6 dL_character_7 (by decide) ?_
    exact hret _ _ _ _ dL_character_9 (by show _ = uWc [(xEIo, (-11))] xEIo; decide +kernel) rfl
  · subst h9
    exact hret _ _ _ _ dL_character_5 rfl rfl
abbrev kL_append : Cond := .codeWith yL_append cL_append 3 (some .int) [(0, 5, 6, 59)]
theorem w_append (l : Launch) (S : q_St) (a0 : Int32) (o : (Int32 ⊕ String) × q_St) (hM : q_Fx l yX6_append kX6_append 7 6 [.ref 0, .int a0] S o) (hE : ∀ E, o.1 = .inr E → E = xEIs) : q_Fy l yL_append kL_append 9 6 [.ref 0, .int a0] S (uW [(xEIs, (-1))] o.1) o.2 := by
  obtain ⟨o1, T⟩ := o
  refine q_Fw_of (maxL := 3) (hh := [(0, 5, 6, 59)]) rfl (by decide +kernel) (fun ad => Nat.le_of_ble_eq_true rfl) ?_
  intro K hX6 hX hC hT hret
  have C : q_Cx (q_Kw K 0) cL_append RL 9 3 := hC 0 (by decide)
  have C6 : q_Cx (q_Kw K 6) cL_append RL 9 3 := hC 6 (by decide)
  show q_V l (q_Kw K 0) 0 [(0, .ref 0), (1, .int a0)] [] S
  refine q_aload_n C dL_append_0 rfl rfl ?_
  refine q_iload_n C dL_append_1 rfl rfl ?_
  refine q_wi1 hX C C6 hM myX6_append mlL_90 q_s0 ⟨by decide, by decide⟩ (Nat.le_of_ble_eq_true rfl) dL_append_2 (fun E h9 => ?_) (fun v h9 => ?_)
  · subst h9
    rcases hE E rfl with rfl
    refine q_catch_n C6 hX6 hT [] ⟨0, 5, 6, 59⟩ [] rfl (fun z hz => nomatch hz) (by decide) (by decide) wk_Is wc_Is dL_append_6 rfl (by decide) ?_
    show q_V l (q_Kw K 6) 7 [] [] T
    refine q_iconst (v := -1) C6 dL_append_7 (by decide) ?_
    exact hret _ _ _ _ dL_append_8 (by show _ = uWc [(xEIs, (-1))] xEIs; decide +kernel) rfl
  · subst h9
    exact hret _ _ _ _ dL_append_5 rfl rfl
abbrev kL_runs : Cond := .codeWith yL_runs cL_runs 2 (some .int) [(0, 4, 5, 22), (0, 4, 8, 14)]
theorem w_runs (l : Launch) (S : q_St) (o : (Int32 ⊕ String) × q_St) (hM : q_Fx l yX6_run kX6_run 8 6 [.ref 0] S o) (hE : ∀ E, o.1 = .inr E → E = xEIa ∨ E = xEUn) : q_Fy l yL_runs kL_runs 9 6 [.ref 0] S (uW [(xEIa, (-1)), (xEUn, (-2))] o.1) o.2 := by
  obtain ⟨o1, T⟩ := o
  refine q_Fw_of (maxL := 2) (hh := [(0, 4, 5, 22), (0, 4, 8, 14)]) rfl (by decide +kernel) (fun ad => Nat.le_of_ble_eq_true rfl) ?_
  intro K hX6 hX hC hT hret
  have C : q_Cx (q_Kw K 0) cL_runs RL 9 2 := hC 0 (by decide)
  have C6 : q_Cx (q_Kw K 6) cL_runs RL 9 2 := hC 6 (by decide)
  show q_V l (q_Kw K 0) 0 [(0, .ref 0)] [] S
  refine q_aload_n C dL_runs_0 rfl rfl ?_
  refine q_wi0 hX C C6 hM myX6_run mlL_94 q_s0 ⟨by decide, by decide⟩ (Nat.le_of_ble_eq_true rfl) dL_runs_1 (fun E h9 => ?_) (fun v h9 => ?_)
  · subst h9
    rcases hE E rfl with rfl | rfl
    · refine q_catch_n C6 hX6 hT [] ⟨0, 4, 5, 22⟩ [⟨0, 4, 8, 14⟩] rfl (fun z hz => nomatch hz) (by decide) (by decide) wk_Ia wc_Ia dL_runs_5 rfl (by decide) ?_
      show q_V l (q_Kw K 6) 6 [] [] T
      refine q_iconst (v := -1) C6 dL_runs_6 (by decide) ?_
      exact hret _ _ _ _ dL_runs_7 (by show _ = uWc [(xEIa, (-1)), (xEUn, (-2))] xEIa; decide +kernel) rfl
    · refine q_catch_n C6 hX6 hT [⟨0, 4, 5, 22⟩] ⟨0, 4, 8, 14⟩ [] rfl (by intro z hz; simp only [List.mem_cons, List.not_mem_nil, or_false] at hz; rcases hz with rfl; exact ⟨by decide, xEIa, wk_Ia, by decide +kernel⟩) (by decide) (by decide) wk_Un wc_Un dL_runs_8 rfl (by decide) ?_
      show q_V l (q_Kw K 6) 9 [] [] T
      refine q_bipush (v := -2) C6 dL_runs_9 (by decide) ?_
      exact hret _ _ _ _ dL_runs_11 (by show _ = uWc [(xEIa, (-1)), (xEUn, (-2))] xEUn; decide +kernel) rfl
  · subst h9
    exact hret _ _ _ _ dL_runs_4 rfl rfl
abbrev kL_undo : Cond := .codeWith yL_undo cL_undo 2 (some .int) [(0, 4, 5, 59)]
theorem w_undo (l : Launch) (S : q_St) (o : (Int32 ⊕ String) × q_St) (hM : q_Fx l yX6_undo kX6_undo 7 6 [.ref 0] S o) (hE : ∀ E, o.1 = .inr E → E = xEIs) : q_Fy l yL_undo kL_undo 9 6 [.ref 0] S (uW [(xEIs, (-1))] o.1) o.2 := by
  obtain ⟨o1, T⟩ := o
  refine q_Fw_of (maxL := 2) (hh := [(0, 4, 5, 59)]) rfl (by decide +kernel) (fun ad => Nat.le_of_ble_eq_true rfl) ?_
  intro K hX6 hX hC hT hret
  have C : q_Cx (q_Kw K 0) cL_undo RL 9 2 := hC 0 (by decide)
  have C6 : q_Cx (q_Kw K 6) cL_undo RL 9 2 := hC 6 (by decide)
  show q_V l (q_Kw K 0) 0 [(0, .ref 0)] [] S
  refine q_aload_n C dL_undo_0 rfl rfl ?_
  refine q_wi0 hX C C6 hM myX6_undo mlL_118 q_s0 ⟨by decide, by decide⟩ (Nat.le_of_ble_eq_true rfl) dL_undo_1 (fun E h9 => ?_) (fun v h9 => ?_)
  · subst h9
    rcases hE E rfl with rfl
    refine q_catch_n C6 hX6 hT [] ⟨0, 4, 5, 59⟩ [] rfl (fun z hz => nomatch hz) (by decide) (by decide) wk_Is wc_Is dL_undo_5 rfl (by decide) ?_
    show q_V l (q_Kw K 6) 6 [] [] T
    refine q_iconst (v := -1) C6 dL_undo_6 (by decide) ?_
    exact hret _ _ _ _ dL_undo_7 (by show _ = uWc [(xEIs, (-1))] xEIs; decide +kernel) rfl
  · subst h9
    exact hret _ _ _ _ dL_undo_4 rfl rfl
