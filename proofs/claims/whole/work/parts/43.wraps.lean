abbrev kL_matter : Cond := .codeWith yL_matter cL_matter 3 (some .int) [(0, 8, 11, 13)]
theorem w_matter (l : Launch) (S : q_St) (o : (Int32 ⊕ String) × q_St) (hM : q_Fx l yX6_matter kX6_matter 7 6 [.ref 0] S o) (hE : ∀ E, o.1 = .inr E → E = xEUn) : q_Fw l yL_matter kL_matter [.ref 0, .ref 120] S (uW [xEUn] o) := by
  obtain ⟨o1, T⟩ := o
  refine q_Fw_of (maxL := 3) (hh := [(0, 8, 11, 13)]) rfl (by decide +kernel) (fun ad => Nat.le_of_ble_eq_true rfl) ?_
  intro K hX6 hX hC hT hret
  have C : q_Cx (q_Kw K 0) cL_matter RL 9 3 := hC 0 (by decide)
  have C6 : q_Cx (q_Kw K 6) cL_matter RL 9 3 := hC 6 (by decide)
  show q_V l (q_Kw K 0) 0 [(0, .ref 0), (1, .ref 120)] [] S
  refine q_aload_n C dL_matter_0 rfl rfl ?_
  refine q_iconst (v := 0) C dL_matter_1 (by decide) ?_
  refine q_aload_n C dL_matter_2 rfl rfl ?_
  refine q_wi0 hX C C6 hM myX6_matter mlL_7 q_s0 ⟨by decide, by decide⟩ (Nat.le_of_ble_eq_true rfl) dL_matter_3 (fun E h9 => ?_) (fun v h9 => ?_)
  · subst h9
    rcases hE E rfl with rfl
    refine q_catch_n C6 hX6 hT [] ⟨0, 8, 11, 13⟩ [] rfl (fun z hz => nomatch hz) (by decide) (by decide) wk_Un wc_Un dL_matter_11 rfl (by decide) ?_
    have C := C6.KM (fun L => L)
    show q_V l (q_KM (q_Kw K 6) (fun L => L)) 12 [] [] T
    refine q_iconst (v := 1) C dL_matter_12 (by decide) ?_
    exact hret _ _ _ _ _ dL_matter_13 (by show uWc [xEUn] xEUn = 1; decide +kernel) rfl rfl
  · subst h9
    have C := C6
    refine q_i2l C dL_matter_6 ?_
    refine q_last C dL_matter_7 ?_
    have C := C6.KM (fun L => (vp_updL L.1 0 (v.toInt64), L.2))
    refine q_goto (tgt := 14) C dL_matter_8 (by decide) ?_
    refine q_iconst (v := 0) C dL_matter_14 (by decide) ?_
    exact hret _ _ _ _ _ dL_matter_15 rfl rfl rfl
abbrev kL_set : Cond := .codeWith yL_set cL_set 6 (some .int) [(0, 12, 15, 19), (0, 12, 19, 21), (0, 12, 23, 13)]
theorem w_set (l : Launch) (S : q_St) (a0 : Int32) (a1 : Int32) (a2 : Int32) (o : (Int32 ⊕ String) × q_St) (hM : q_Fx l yX6_set kX6_set 7 6 [.ref 0, .int a0, .int a1, .int a2] S o) (hE : ∀ E, o.1 = .inr E → E = xENs ∨ E = xEIa ∨ E = xEUn) : q_Fw l yL_set kL_set [.ref 0, .int a0, .int a1, .int a2, .ref 120] S (uW [xENs, xEIa, xEUn] o) := by
  obtain ⟨o1, T⟩ := o
  refine q_Fw_of (maxL := 6) (hh := [(0, 12, 15, 19), (0, 12, 19, 21), (0, 12, 23, 13)]) rfl (by decide +kernel) (fun ad => Nat.le_of_ble_eq_true rfl) ?_
  intro K hX6 hX hC hT hret
  have C : q_Cx (q_Kw K 0) cL_set RL 9 6 := hC 0 (by decide)
  have C6 : q_Cx (q_Kw K 6) cL_set RL 9 6 := hC 6 (by decide)
  show q_V l (q_Kw K 0) 0 [(0, .ref 0), (1, .int a0), (2, .int a1), (3, .int a2), (4, .ref 120)] [] S
  refine q_aload C dL_set_0 rfl ?_
  refine q_iconst (v := 0) C dL_set_2 (by decide) ?_
  refine q_aload_n C dL_set_3 rfl rfl ?_
  refine q_iload_n C dL_set_4 rfl rfl ?_
  refine q_iload_n C dL_set_5 rfl rfl ?_
  refine q_iload_n C dL_set_6 rfl rfl ?_
  refine q_wi3 hX C C6 hM myX6_set mlL_15 q_s0 ⟨by decide, by decide⟩ (Nat.le_of_ble_eq_true rfl) dL_set_7 (fun E h9 => ?_) (fun v h9 => ?_)
  · subst h9
    rcases hE E rfl with rfl | rfl | rfl
    · refine q_catch C6 hX6 hT [] ⟨0, 12, 15, 19⟩ [⟨0, 12, 19, 21⟩, ⟨0, 12, 23, 13⟩] rfl (fun z hz => nomatch hz) (by decide) (by decide) wk_Ns wc_Ns dL_set_15 (by decide) ?_
      have C := C6.KM (fun L => L)
      show q_V l (q_KM (q_Kw K 6) (fun L => L)) 17 [] [] T
      refine q_iconst (v := 1) C dL_set_17 (by decide) ?_
      exact hret _ _ _ _ _ dL_set_18 (by show uWc [xENs, xEIa, xEUn] xENs = 1; decide +kernel) rfl rfl
    · refine q_catch C6 hX6 hT [⟨0, 12, 15, 19⟩] ⟨0, 12, 19, 21⟩ [⟨0, 12, 23, 13⟩] rfl (by intro z hz; simp only [List.mem_cons, List.not_mem_nil, or_false] at hz; rcases hz with rfl; exact ⟨by decide, xENs, wk_Ns, by decide +kernel⟩) (by decide) (by decide) wk_Ia wc_Ia dL_set_19 (by decide) ?_
      have C := C6.KM (fun L => L)
      show q_V l (q_KM (q_Kw K 6) (fun L => L)) 21 [] [] T
      refine q_iconst (v := 2) C dL_set_21 (by decide) ?_
      exact hret _ _ _ _ _ dL_set_22 (by show uWc [xENs, xEIa, xEUn] xEIa = 2; decide +kernel) rfl rfl
    · refine q_catch C6 hX6 hT [⟨0, 12, 15, 19⟩, ⟨0, 12, 19, 21⟩] ⟨0, 12, 23, 13⟩ [] rfl (by intro z hz; simp only [List.mem_cons, List.not_mem_nil, or_false] at hz; rcases hz with rfl | rfl; exact ⟨by decide, xENs, wk_Ns, by decide +kernel⟩ ; exact ⟨by decide, xEIa, wk_Ia, by decide +kernel⟩) (by decide) (by decide) wk_Un wc_Un dL_set_23 (by decide) ?_
      have C := C6.KM (fun L => L)
      show q_V l (q_KM (q_Kw K 6) (fun L => L)) 25 [] [] T
      refine q_iconst (v := 3) C dL_set_25 (by decide) ?_
      exact hret _ _ _ _ _ dL_set_26 (by show uWc [xENs, xEIa, xEUn] xEUn = 3; decide +kernel) rfl rfl
  · subst h9
    have C := C6
    refine q_i2l C dL_set_10 ?_
    refine q_last C dL_set_11 ?_
    have C := C6.KM (fun L => (vp_updL L.1 0 (v.toInt64), L.2))
    refine q_goto (tgt := 27) C dL_set_12 (by decide) ?_
    refine q_iconst (v := 0) C dL_set_27 (by decide) ?_
    exact hret _ _ _ _ _ dL_set_28 rfl rfl rfl
abbrev kL_matterOf : Cond := .codeWith yL_matterOf cL_matterOf 5 (some .int) [(0, 10, 13, 19), (0, 10, 17, 21)]
theorem w_matterOf (l : Launch) (S : q_St) (a0 : Int32) (a1 : Int32) (o : (Int32 ⊕ String) × q_St) (hM : q_Fx l yX6_matterOf kX6_matterOf 7 6 [.ref 0, .int a0, .int a1] S o) (hE : ∀ E, o.1 = .inr E → E = xENs ∨ E = xEIa) : q_Fw l yL_matterOf kL_matterOf [.ref 0, .int a0, .int a1, .ref 120] S (uW [xENs, xEIa] o) := by
  obtain ⟨o1, T⟩ := o
  refine q_Fw_of (maxL := 5) (hh := [(0, 10, 13, 19), (0, 10, 17, 21)]) rfl (by decide +kernel) (fun ad => Nat.le_of_ble_eq_true rfl) ?_
  intro K hX6 hX hC hT hret
  have C : q_Cx (q_Kw K 0) cL_matterOf RL 9 5 := hC 0 (by decide)
  have C6 : q_Cx (q_Kw K 6) cL_matterOf RL 9 5 := hC 6 (by decide)
  show q_V l (q_Kw K 0) 0 [(0, .ref 0), (1, .int a0), (2, .int a1), (3, .ref 120)] [] S
  refine q_aload_n C dL_matterOf_0 rfl rfl ?_
  refine q_iconst (v := 0) C dL_matterOf_1 (by decide) ?_
  refine q_aload_n C dL_matterOf_2 rfl rfl ?_
  refine q_iload_n C dL_matterOf_3 rfl rfl ?_
  refine q_iload_n C dL_matterOf_4 rfl rfl ?_
  refine q_wi2 hX C C6 hM myX6_matterOf mlL_23 q_s0 ⟨by decide, by decide⟩ (Nat.le_of_ble_eq_true rfl) dL_matterOf_5 (fun E h9 => ?_) (fun v h9 => ?_)
  · subst h9
    rcases hE E rfl with rfl | rfl
    · refine q_catch C6 hX6 hT [] ⟨0, 10, 13, 19⟩ [⟨0, 10, 17, 21⟩] rfl (fun z hz => nomatch hz) (by decide) (by decide) wk_Ns wc_Ns dL_matterOf_13 (by decide) ?_
      have C := C6.KM (fun L => L)
      show q_V l (q_KM (q_Kw K 6) (fun L => L)) 15 [] [] T
      refine q_iconst (v := 1) C dL_matterOf_15 (by decide) ?_
      exact hret _ _ _ _ _ dL_matterOf_16 (by show uWc [xENs, xEIa] xENs = 1; decide +kernel) rfl rfl
    · refine q_catch C6 hX6 hT [⟨0, 10, 13, 19⟩] ⟨0, 10, 17, 21⟩ [] rfl (by intro z hz; simp only [List.mem_cons, List.not_mem_nil, or_false] at hz; rcases hz with rfl; exact ⟨by decide, xENs, wk_Ns, by decide +kernel⟩) (by decide) (by decide) wk_Ia wc_Ia dL_matterOf_17 (by decide) ?_
      have C := C6.KM (fun L => L)
      show q_V l (q_KM (q_Kw K 6) (fun L => L)) 19 [] [] T
      refine q_iconst (v := 2) C dL_matterOf_19 (by decide) ?_
      exact hret _ _ _ _ _ dL_matterOf_20 (by show uWc [xENs, xEIa] xEIa = 2; decide +kernel) rfl rfl
  · subst h9
    have C := C6
    refine q_i2l C dL_matterOf_8 ?_
    refine q_last C dL_matterOf_9 ?_
    have C := C6.KM (fun L => (vp_updL L.1 0 (v.toInt64), L.2))
    refine q_goto (tgt := 21) C dL_matterOf_10 (by decide) ?_
    refine q_iconst (v := 0) C dL_matterOf_21 (by decide) ?_
    exact hret _ _ _ _ _ dL_matterOf_22 rfl rfl rfl
abbrev kL_answer : Cond := .codeWith yL_answer cL_answer 5 (some .int) [(0, 10, 13, 19), (0, 10, 17, 30)]
theorem w_answer (l : Launch) (S : q_St) (a0 : Int32) (a1 : Int32) (o : (Int32 ⊕ String) × q_St) (hM : q_Fx l yX6_answer kX6_answer 7 6 [.ref 0, .int a0, .int a1] S o) (hE : ∀ E, o.1 = .inr E → E = xENs ∨ E = xEIo) : q_Fw l yL_answer kL_answer [.ref 0, .int a0, .int a1, .ref 120] S (uW [xENs, xEIo] o) := by
  obtain ⟨o1, T⟩ := o
  refine q_Fw_of (maxL := 5) (hh := [(0, 10, 13, 19), (0, 10, 17, 30)]) rfl (by decide +kernel) (fun ad => Nat.le_of_ble_eq_true rfl) ?_
  intro K hX6 hX hC hT hret
  have C : q_Cx (q_Kw K 0) cL_answer RL 9 5 := hC 0 (by decide)
  have C6 : q_Cx (q_Kw K 6) cL_answer RL 9 5 := hC 6 (by decide)
  show q_V l (q_Kw K 0) 0 [(0, .ref 0), (1, .int a0), (2, .int a1), (3, .ref 120)] [] S
  refine q_aload_n C dL_answer_0 rfl rfl ?_
  refine q_iconst (v := 0) C dL_answer_1 (by decide) ?_
  refine q_aload_n C dL_answer_2 rfl rfl ?_
  refine q_iload_n C dL_answer_3 rfl rfl ?_
  refine q_iload_n C dL_answer_4 rfl rfl ?_
  refine q_wi2 hX C C6 hM myX6_answer mlL_27 q_s0 ⟨by decide, by decide⟩ (Nat.le_of_ble_eq_true rfl) dL_answer_5 (fun E h9 => ?_) (fun v h9 => ?_)
  · subst h9
    rcases hE E rfl with rfl | rfl
    · refine q_catch C6 hX6 hT [] ⟨0, 10, 13, 19⟩ [⟨0, 10, 17, 30⟩] rfl (fun z hz => nomatch hz) (by decide) (by decide) wk_Ns wc_Ns dL_answer_13 (by decide) ?_
      have C := C6.KM (fun L => L)
      show q_V l (q_KM (q_Kw K 6) (fun L => L)) 15 [] [] T
      refine q_iconst (v := 1) C dL_answer_15 (by decide) ?_
      exact hret _ _ _ _ _ dL_answer_16 (by show uWc [xENs, xEIo] xENs = 1; decide +kernel) rfl rfl
    · refine q_catch C6 hX6 hT [⟨0, 10, 13, 19⟩] ⟨0, 10, 17, 30⟩ [] rfl (by intro z hz; simp only [List.mem_cons, List.not_mem_nil, or_false] at hz; rcases hz with rfl; exact ⟨by decide, xENs, wk_Ns, by decide +kernel⟩) (by decide) (by decide) wk_Io wc_Io dL_answer_17 (by decide) ?_
      have C := C6.KM (fun L => L)
      show q_V l (q_KM (q_Kw K 6) (fun L => L)) 19 [] [] T
      refine q_iconst (v := 2) C dL_answer_19 (by decide) ?_
      exact hret _ _ _ _ _ dL_answer_20 (by show uWc [xENs, xEIo] xEIo = 2; decide +kernel) rfl rfl
  · subst h9
    have C := C6
    refine q_i2l C dL_answer_8 ?_
    refine q_last C dL_answer_9 ?_
    have C := C6.KM (fun L => (vp_updL L.1 0 (v.toInt64), L.2))
    refine q_goto (tgt := 21) C dL_answer_10 (by decide) ?_
    refine q_iconst (v := 0) C dL_answer_21 (by decide) ?_
    exact hret _ _ _ _ _ dL_answer_22 rfl rfl rfl
abbrev kL_amount : Cond := .codeWith yL_amount cL_amount 5 (some .int) [(0, 10, 13, 19), (0, 10, 17, 30)]
theorem w_amount (l : Launch) (S : q_St) (a0 : Int32) (a1 : Int32) (o : (Int32 ⊕ String) × q_St) (hM : q_Fx l yX6_amount kX6_amount 7 6 [.ref 0, .int a0, .int a1] S o) (hE : ∀ E, o.1 = .inr E → E = xENs ∨ E = xEIo) : q_Fw l yL_amount kL_amount [.ref 0, .int a0, .int a1, .ref 120] S (uW [xENs, xEIo] o) := by
  obtain ⟨o1, T⟩ := o
  refine q_Fw_of (maxL := 5) (hh := [(0, 10, 13, 19), (0, 10, 17, 30)]) rfl (by decide +kernel) (fun ad => Nat.le_of_ble_eq_true rfl) ?_
  intro K hX6 hX hC hT hret
  have C : q_Cx (q_Kw K 0) cL_amount RL 9 5 := hC 0 (by decide)
  have C6 : q_Cx (q_Kw K 6) cL_amount RL 9 5 := hC 6 (by decide)
  show q_V l (q_Kw K 0) 0 [(0, .ref 0), (1, .int a0), (2, .int a1), (3, .ref 120)] [] S
  refine q_aload_n C dL_amount_0 rfl rfl ?_
  refine q_iconst (v := 0) C dL_amount_1 (by decide) ?_
  refine q_aload_n C dL_amount_2 rfl rfl ?_
  refine q_iload_n C dL_amount_3 rfl rfl ?_
  refine q_iload_n C dL_amount_4 rfl rfl ?_
  refine q_wi2 hX C C6 hM myX6_amount mlL_32 q_s0 ⟨by decide, by decide⟩ (Nat.le_of_ble_eq_true rfl) dL_amount_5 (fun E h9 => ?_) (fun v h9 => ?_)
  · subst h9
    rcases hE E rfl with rfl | rfl
    · refine q_catch C6 hX6 hT [] ⟨0, 10, 13, 19⟩ [⟨0, 10, 17, 30⟩] rfl (fun z hz => nomatch hz) (by decide) (by decide) wk_Ns wc_Ns dL_amount_13 (by decide) ?_
      have C := C6.KM (fun L => L)
      show q_V l (q_KM (q_Kw K 6) (fun L => L)) 15 [] [] T
      refine q_iconst (v := 1) C dL_amount_15 (by decide) ?_
      exact hret _ _ _ _ _ dL_amount_16 (by show uWc [xENs, xEIo] xENs = 1; decide +kernel) rfl rfl
    · refine q_catch C6 hX6 hT [⟨0, 10, 13, 19⟩] ⟨0, 10, 17, 30⟩ [] rfl (by intro z hz; simp only [List.mem_cons, List.not_mem_nil, or_false] at hz; rcases hz with rfl; exact ⟨by decide, xENs, wk_Ns, by decide +kernel⟩) (by decide) (by decide) wk_Io wc_Io dL_amount_17 (by decide) ?_
      have C := C6.KM (fun L => L)
      show q_V l (q_KM (q_Kw K 6) (fun L => L)) 19 [] [] T
      refine q_iconst (v := 2) C dL_amount_19 (by decide) ?_
      exact hret _ _ _ _ _ dL_amount_20 (by show uWc [xENs, xEIo] xEIo = 2; decide +kernel) rfl rfl
  · subst h9
    have C := C6
    refine q_i2l C dL_amount_8 ?_
    refine q_last C dL_amount_9 ?_
    have C := C6.KM (fun L => (vp_updL L.1 0 (v.toInt64), L.2))
    refine q_goto (tgt := 21) C dL_amount_10 (by decide) ?_
    refine q_iconst (v := 0) C dL_amount_21 (by decide) ?_
    exact hret _ _ _ _ _ dL_amount_22 rfl rfl rfl
abbrev kL_ask : Cond := .codeWith yL_ask cL_ask 5 (some .int) [(0, 10, 13, 19), (0, 10, 17, 30), (0, 10, 21, 13)]
theorem w_ask (l : Launch) (S : q_St) (a0 : Int32) (a1 : Int32) (o : (Int32 ⊕ String) × q_St) (hM : q_Fx l yX6_ask kX6_ask 7 6 [.ref 0, .int a0, .int a1] S o) (hE : ∀ E, o.1 = .inr E → E = xENs ∨ E = xEIo ∨ E = xEUn) : q_Fw l yL_ask kL_ask [.ref 0, .int a0, .int a1, .ref 120] S (uW [xENs, xEIo, xEUn] o) := by
  obtain ⟨o1, T⟩ := o
  refine q_Fw_of (maxL := 5) (hh := [(0, 10, 13, 19), (0, 10, 17, 30), (0, 10, 21, 13)]) rfl (by decide +kernel) (fun ad => Nat.le_of_ble_eq_true rfl) ?_
  intro K hX6 hX hC hT hret
  have C : q_Cx (q_Kw K 0) cL_ask RL 9 5 := hC 0 (by decide)
  have C6 : q_Cx (q_Kw K 6) cL_ask RL 9 5 := hC 6 (by decide)
  show q_V l (q_Kw K 0) 0 [(0, .ref 0), (1, .int a0), (2, .int a1), (3, .ref 120)] [] S
  refine q_aload_n C dL_ask_0 rfl rfl ?_
  refine q_iconst (v := 0) C dL_ask_1 (by decide) ?_
  refine q_aload_n C dL_ask_2 rfl rfl ?_
  refine q_iload_n C dL_ask_3 rfl rfl ?_
  refine q_iload_n C dL_ask_4 rfl rfl ?_
  refine q_wi2 hX C C6 hM myX6_ask mlL_35 q_s0 ⟨by decide, by decide⟩ (Nat.le_of_ble_eq_true rfl) dL_ask_5 (fun E h9 => ?_) (fun v h9 => ?_)
  · subst h9
    rcases hE E rfl with rfl | rfl | rfl
    · refine q_catch C6 hX6 hT [] ⟨0, 10, 13, 19⟩ [⟨0, 10, 17, 30⟩, ⟨0, 10, 21, 13⟩] rfl (fun z hz => nomatch hz) (by decide) (by decide) wk_Ns wc_Ns dL_ask_13 (by decide) ?_
      have C := C6.KM (fun L => L)
      show q_V l (q_KM (q_Kw K 6) (fun L => L)) 15 [] [] T
      refine q_iconst (v := 1) C dL_ask_15 (by decide) ?_
      exact hret _ _ _ _ _ dL_ask_16 (by show uWc [xENs, xEIo, xEUn] xENs = 1; decide +kernel) rfl rfl
    · refine q_catch C6 hX6 hT [⟨0, 10, 13, 19⟩] ⟨0, 10, 17, 30⟩ [⟨0, 10, 21, 13⟩] rfl (by intro z hz; simp only [List.mem_cons, List.not_mem_nil, or_false] at hz; rcases hz with rfl; exact ⟨by decide, xENs, wk_Ns, by decide +kernel⟩) (by decide) (by decide) wk_Io wc_Io dL_ask_17 (by decide) ?_
      have C := C6.KM (fun L => L)
      show q_V l (q_KM (q_Kw K 6) (fun L => L)) 19 [] [] T
      refine q_iconst (v := 2) C dL_ask_19 (by decide) ?_
      exact hret _ _ _ _ _ dL_ask_20 (by show uWc [xENs, xEIo, xEUn] xEIo = 2; decide +kernel) rfl rfl
    · refine q_catch C6 hX6 hT [⟨0, 10, 13, 19⟩, ⟨0, 10, 17, 30⟩] ⟨0, 10, 21, 13⟩ [] rfl (by intro z hz; simp only [List.mem_cons, List.not_mem_nil, or_false] at hz; rcases hz with rfl | rfl; exact ⟨by decide, xENs, wk_Ns, by decide +kernel⟩ ; exact ⟨by decide, xEIo, wk_Io, by decide +kernel⟩) (by decide) (by decide) wk_Un wc_Un dL_ask_21 (by decide) ?_
      have C := C6.KM (fun L => L)
      show q_V l (q_KM (q_Kw K 6) (fun L => L)) 23 [] [] T
      refine q_iconst (v := 3) C dL_ask_23 (by decide) ?_
      exact hret _ _ _ _ _ dL_ask_24 (by show uWc [xENs, xEIo, xEUn] xEUn = 3; decide +kernel) rfl rfl
  · subst h9
    have C := C6
    refine q_i2l C dL_ask_8 ?_
    refine q_last C dL_ask_9 ?_
    have C := C6.KM (fun L => (vp_updL L.1 0 (v.toInt64), L.2))
    refine q_goto (tgt := 25) C dL_ask_10 (by decide) ?_
    refine q_iconst (v := 0) C dL_ask_25 (by decide) ?_
    exact hret _ _ _ _ _ dL_ask_26 rfl rfl rfl
abbrev kL_decide : Cond := .codeWith yL_decide cL_decide 4 (some .int) [(0, 9, 12, 19), (0, 9, 15, 13)]
theorem w_decide (l : Launch) (S : q_St) (a0 : Int32) (o : (Int32 ⊕ String) × q_St) (hM : q_Fx l yX6_decide kX6_decide 7 6 [.ref 0, .int a0] S o) (hE : ∀ E, o.1 = .inr E → E = xENs ∨ E = xEUn) : q_Fw l yL_decide kL_decide [.ref 0, .int a0, .ref 120] S (uW [xENs, xEUn] o) := by
  obtain ⟨o1, T⟩ := o
  refine q_Fw_of (maxL := 4) (hh := [(0, 9, 12, 19), (0, 9, 15, 13)]) rfl (by decide +kernel) (fun ad => Nat.le_of_ble_eq_true rfl) ?_
  intro K hX6 hX hC hT hret
  have C : q_Cx (q_Kw K 0) cL_decide RL 9 4 := hC 0 (by decide)
  have C6 : q_Cx (q_Kw K 6) cL_decide RL 9 4 := hC 6 (by decide)
  show q_V l (q_Kw K 0) 0 [(0, .ref 0), (1, .int a0), (2, .ref 120)] [] S
  refine q_aload_n C dL_decide_0 rfl rfl ?_
  refine q_iconst (v := 0) C dL_decide_1 (by decide) ?_
  refine q_aload_n C dL_decide_2 rfl rfl ?_
  refine q_iload_n C dL_decide_3 rfl rfl ?_
  refine q_wi1 hX C C6 hM myX6_decide mlL_38 q_s0 ⟨by decide, by decide⟩ (Nat.le_of_ble_eq_true rfl) dL_decide_4 (fun E h9 => ?_) (fun v h9 => ?_)
  · subst h9
    rcases hE E rfl with rfl | rfl
    · refine q_catch_n C6 hX6 hT [] ⟨0, 9, 12, 19⟩ [⟨0, 9, 15, 13⟩] rfl (fun z hz => nomatch hz) (by decide) (by decide) wk_Ns wc_Ns dL_decide_12 rfl (by decide) ?_
      have C := C6.KM (fun L => L)
      show q_V l (q_KM (q_Kw K 6) (fun L => L)) 13 [] [] T
      refine q_iconst (v := 1) C dL_decide_13 (by decide) ?_
      exact hret _ _ _ _ _ dL_decide_14 (by show uWc [xENs, xEUn] xENs = 1; decide +kernel) rfl rfl
    · refine q_catch_n C6 hX6 hT [⟨0, 9, 12, 19⟩] ⟨0, 9, 15, 13⟩ [] rfl (by intro z hz; simp only [List.mem_cons, List.not_mem_nil, or_false] at hz; rcases hz with rfl; exact ⟨by decide, xENs, wk_Ns, by decide +kernel⟩) (by decide) (by decide) wk_Un wc_Un dL_decide_15 rfl (by decide) ?_
      have C := C6.KM (fun L => L)
      show q_V l (q_KM (q_Kw K 6) (fun L => L)) 16 [] [] T
      refine q_iconst (v := 2) C dL_decide_16 (by decide) ?_
      exact hret _ _ _ _ _ dL_decide_17 (by show uWc [xENs, xEUn] xEUn = 2; decide +kernel) rfl rfl
  · subst h9
    have C := C6
    refine q_i2l C dL_decide_7 ?_
    refine q_last C dL_decide_8 ?_
    have C := C6.KM (fun L => (vp_updL L.1 0 (v.toInt64), L.2))
    refine q_goto (tgt := 18) C dL_decide_9 (by decide) ?_
    refine q_iconst (v := 0) C dL_decide_18 (by decide) ?_
    exact hret _ _ _ _ _ dL_decide_19 rfl rfl rfl
abbrev kL_tell : Cond := .codeWith yL_tell cL_tell 5 (some .int) [(0, 10, 13, 19), (0, 10, 17, 30), (0, 10, 21, 13)]
theorem w_tell (l : Launch) (S : q_St) (a0 : Int32) (a1 : Int32) (o : (Int32 ⊕ String) × q_St) (hM : q_Fx l yX6_tell kX6_tell 7 6 [.ref 0, .int a0, .int a1] S o) (hE : ∀ E, o.1 = .inr E → E = xENs ∨ E = xEIo ∨ E = xEUn) : q_Fw l yL_tell kL_tell [.ref 0, .int a0, .int a1, .ref 120] S (uW [xENs, xEIo, xEUn] o) := by
  obtain ⟨o1, T⟩ := o
  refine q_Fw_of (maxL := 5) (hh := [(0, 10, 13, 19), (0, 10, 17, 30), (0, 10, 21, 13)]) rfl (by decide +kernel) (fun ad => Nat.le_of_ble_eq_true rfl) ?_
  intro K hX6 hX hC hT hret
  have C : q_Cx (q_Kw K 0) cL_tell RL 9 5 := hC 0 (by decide)
  have C6 : q_Cx (q_Kw K 6) cL_tell RL 9 5 := hC 6 (by decide)
  show q_V l (q_Kw K 0) 0 [(0, .ref 0), (1, .int a0), (2, .int a1), (3, .ref 120)] [] S
  refine q_aload_n C dL_tell_0 rfl rfl ?_
  refine q_iconst (v := 0) C dL_tell_1 (by decide) ?_
  refine q_aload_n C dL_tell_2 rfl rfl ?_
  refine q_iload_n C dL_tell_3 rfl rfl ?_
  refine q_iload_n C dL_tell_4 rfl rfl ?_
  refine q_wi2 hX C C6 hM myX6_tell mlL_42 q_s0 ⟨by decide, by decide⟩ (Nat.le_of_ble_eq_true rfl) dL_tell_5 (fun E h9 => ?_) (fun v h9 => ?_)
  · subst h9
    rcases hE E rfl with rfl | rfl | rfl
    · refine q_catch C6 hX6 hT [] ⟨0, 10, 13, 19⟩ [⟨0, 10, 17, 30⟩, ⟨0, 10, 21, 13⟩] rfl (fun z hz => nomatch hz) (by decide) (by decide) wk_Ns wc_Ns dL_tell_13 (by decide) ?_
      have C := C6.KM (fun L => L)
      show q_V l (q_KM (q_Kw K 6) (fun L => L)) 15 [] [] T
      refine q_iconst (v := 1) C dL_tell_15 (by decide) ?_
      exact hret _ _ _ _ _ dL_tell_16 (by show uWc [xENs, xEIo, xEUn] xENs = 1; decide +kernel) rfl rfl
    · refine q_catch C6 hX6 hT [⟨0, 10, 13, 19⟩] ⟨0, 10, 17, 30⟩ [⟨0, 10, 21, 13⟩] rfl (by intro z hz; simp only [List.mem_cons, List.not_mem_nil, or_false] at hz; rcases hz with rfl; exact ⟨by decide, xENs, wk_Ns, by decide +kernel⟩) (by decide) (by decide) wk_Io wc_Io dL_tell_17 (by decide) ?_
      have C := C6.KM (fun L => L)
      show q_V l (q_KM (q_Kw K 6) (fun L => L)) 19 [] [] T
      refine q_iconst (v := 2) C dL_tell_19 (by decide) ?_
      exact hret _ _ _ _ _ dL_tell_20 (by show uWc [xENs, xEIo, xEUn] xEIo = 2; decide +kernel) rfl rfl
    · refine q_catch C6 hX6 hT [⟨0, 10, 13, 19⟩, ⟨0, 10, 17, 30⟩] ⟨0, 10, 21, 13⟩ [] rfl (by intro z hz; simp only [List.mem_cons, List.not_mem_nil, or_false] at hz; rcases hz with rfl | rfl; exact ⟨by decide, xENs, wk_Ns, by decide +kernel⟩ ; exact ⟨by decide, xEIo, wk_Io, by decide +kernel⟩) (by decide) (by decide) wk_Un wc_Un dL_tell_21 (by decide) ?_
      have C := C6.KM (fun L => L)
      show q_V l (q_KM (q_Kw K 6) (fun L => L)) 23 [] [] T
      refine q_iconst (v := 3) C dL_tell_23 (by decide) ?_
      exact hret _ _ _ _ _ dL_tell_24 (by show uWc [xENs, xEIo, xEUn] xEUn = 3; decide +kernel) rfl rfl
  · subst h9
    have C := C6
    refine q_i2l C dL_tell_8 ?_
    refine q_last C dL_tell_9 ?_
    have C := C6.KM (fun L => (vp_updL L.1 0 (v.toInt64), L.2))
    refine q_goto (tgt := 25) C dL_tell_10 (by decide) ?_
    refine q_iconst (v := 0) C dL_tell_25 (by decide) ?_
    exact hret _ _ _ _ _ dL_tell_26 rfl rfl rfl
abbrev kL_faint : Cond := .codeWith yL_faint cL_faint 3 (some .int) [(0, 8, 11, 13)]
theorem w_faint (l : Launch) (S : q_St) (o : (Int32 ⊕ String) × q_St) (hM : q_Fx l yX6_faint kX6_faint 7 6 [.ref 0] S o) (hE : ∀ E, o.1 = .inr E → E = xEUn) : q_Fw l yL_faint kL_faint [.ref 0, .ref 120] S (uW [xEUn] o) := by
  obtain ⟨o1, T⟩ := o
  refine q_Fw_of (maxL := 3) (hh := [(0, 8, 11, 13)]) rfl (by decide +kernel) (fun ad => Nat.le_of_ble_eq_true rfl) ?_
  intro K hX6 hX hC hT hret
  have C : q_Cx (q_Kw K 0) cL_faint RL 9 3 := hC 0 (by decide)
  have C6 : q_Cx (q_Kw K 6) cL_faint RL 9 3 := hC 6 (by decide)
  show q_V l (q_Kw K 0) 0 [(0, .ref 0), (1, .ref 120)] [] S
  refine q_aload_n C dL_faint_0 rfl rfl ?_
  refine q_iconst (v := 0) C dL_faint_1 (by decide) ?_
  refine q_aload_n C dL_faint_2 rfl rfl ?_
  refine q_wi0 hX C C6 hM myX6_faint mlL_45 q_s0 ⟨by decide, by decide⟩ (Nat.le_of_ble_eq_true rfl) dL_faint_3 (fun E h9 => ?_) (fun v h9 => ?_)
  · subst h9
    rcases hE E rfl with rfl
    refine q_catch_n C6 hX6 hT [] ⟨0, 8, 11, 13⟩ [] rfl (fun z hz => nomatch hz) (by decide) (by decide) wk_Un wc_Un dL_faint_11 rfl (by decide) ?_
    have C := C6.KM (fun L => L)
    show q_V l (q_KM (q_Kw K 6) (fun L => L)) 12 [] [] T
    refine q_iconst (v := 1) C dL_faint_12 (by decide) ?_
    exact hret _ _ _ _ _ dL_faint_13 (by show uWc [xEUn] xEUn = 1; decide +kernel) rfl rfl
  · subst h9
    have C := C6
    refine q_i2l C dL_faint_6 ?_
    refine q_last C dL_faint_7 ?_
    have C := C6.KM (fun L => (vp_updL L.1 0 (v.toInt64), L.2))
    refine q_goto (tgt := 14) C dL_faint_8 (by decide) ?_
    refine q_iconst (v := 0) C dL_faint_14 (by decide) ?_
    exact hret _ _ _ _ _ dL_faint_15 rfl rfl rfl
abbrev kL_wake : Cond := .codeWith yL_wake cL_wake 3 (some .int) [(0, 8, 11, 13)]
theorem w_wake (l : Launch) (S : q_St) (o : (Int32 ⊕ String) × q_St) (hM : q_Fx l yX6_wake kX6_wake 7 6 [.ref 0] S o) (hE : ∀ E, o.1 = .inr E → E = xEUn) : q_Fw l yL_wake kL_wake [.ref 0, .ref 120] S (uW [xEUn] o) := by
  obtain ⟨o1, T⟩ := o
  refine q_Fw_of (maxL := 3) (hh := [(0, 8, 11, 13)]) rfl (by decide +kernel) (fun ad => Nat.le_of_ble_eq_true rfl) ?_
  intro K hX6 hX hC hT hret
  have C : q_Cx (q_Kw K 0) cL_wake RL 9 3 := hC 0 (by decide)
  have C6 : q_Cx (q_Kw K 6) cL_wake RL 9 3 := hC 6 (by decide)
  show q_V l (q_Kw K 0) 0 [(0, .ref 0), (1, .ref 120)] [] S
  refine q_aload_n C dL_wake_0 rfl rfl ?_
  refine q_iconst (v := 0) C dL_wake_1 (by decide) ?_
  refine q_aload_n C dL_wake_2 rfl rfl ?_
  refine q_wi0 hX C C6 hM myX6_wake mlL_48 q_s0 ⟨by decide, by decide⟩ (Nat.le_of_ble_eq_true rfl) dL_wake_3 (fun E h9 => ?_) (fun v h9 => ?_)
  · subst h9
    rcases hE E rfl with rfl
    refine q_catch_n C6 hX6 hT [] ⟨0, 8, 11, 13⟩ [] rfl (fun z hz => nomatch hz) (by decide) (by decide) wk_Un wc_Un dL_wake_11 rfl (by decide) ?_
    have C := C6.KM (fun L => L)
    show q_V l (q_KM (q_Kw K 6) (fun L => L)) 12 [] [] T
    refine q_iconst (v := 1) C dL_wake_12 (by decide) ?_
    exact hret _ _ _ _ _ dL_wake_13 (by show uWc [xEUn] xEUn = 1; decide +kernel) rfl rfl
  · subst h9
    have C := C6
    refine q_i2l C dL_wake_6 ?_
    refine q_last C dL_wake_7 ?_
    have C := C6.KM (fun L => (vp_updL L.1 0 (v.toInt64), L.2))
    refine q_goto (tgt := 14) C dL_wake_8 (by decide) ?_
    refine q_iconst (v := 0) C dL_wake_14 (by decide) ?_
    exact hret _ _ _ _ _ dL_wake_15 rfl rfl rfl
abbrev kL_book : Cond := .codeWith yL_book cL_book 4 (some .int) [(0, 9, 12, 19)]
theorem w_book (l : Launch) (S : q_St) (a0 : Int32) (o : (Int32 ⊕ String) × q_St) (hM : q_Fx l yX6_book kX6_book 7 6 [.ref 0, .int a0] S o) (hE : ∀ E, o.1 = .inr E → E = xENs) : q_Fw l yL_book kL_book [.ref 0, .int a0, .ref 120] S (uW [xENs] o) := by
  obtain ⟨o1, T⟩ := o
  refine q_Fw_of (maxL := 4) (hh := [(0, 9, 12, 19)]) rfl (by decide +kernel) (fun ad => Nat.le_of_ble_eq_true rfl) ?_
  intro K hX6 hX hC hT hret
  have C : q_Cx (q_Kw K 0) cL_book RL 9 4 := hC 0 (by decide)
  have C6 : q_Cx (q_Kw K 6) cL_book RL 9 4 := hC 6 (by decide)
  show q_V l (q_Kw K 0) 0 [(0, .ref 0), (1, .int a0), (2, .ref 120)] [] S
  refine q_aload_n C dL_book_0 rfl rfl ?_
  refine q_iconst (v := 0) C dL_book_1 (by decide) ?_
  refine q_aload_n C dL_book_2 rfl rfl ?_
  refine q_iload_n C dL_book_3 rfl rfl ?_
  refine q_wi1 hX C C6 hM myX6_book mlL_51 q_s0 ⟨by decide, by decide⟩ (Nat.le_of_ble_eq_true rfl) dL_book_4 (fun E h9 => ?_) (fun v h9 => ?_)
  · subst h9
    rcases hE E rfl with rfl
    refine q_catch_n C6 hX6 hT [] ⟨0, 9, 12, 19⟩ [] rfl (fun z hz => nomatch hz) (by decide) (by decide) wk_Ns wc_Ns dL_book_12 rfl (by decide) ?_
    have C := C6.KM (fun L => L)
    show q_V l (q_KM (q_Kw K 6) (fun L => L)) 13 [] [] T
    refine q_iconst (v := 1) C dL_book_13 (by decide) ?_
    exact hret _ _ _ _ _ dL_book_14 (by show uWc [xENs] xENs = 1; decide +kernel) rfl rfl
  · subst h9
    have C := C6
    refine q_i2l C dL_book_7 ?_
    refine q_last C dL_book_8 ?_
    have C := C6.KM (fun L => (vp_updL L.1 0 (v.toInt64), L.2))
    refine q_goto (tgt := 15) C dL_book_9 (by decide) ?_
    refine q_iconst (v := 0) C dL_book_15 (by decide) ?_
    exact hret _ _ _ _ _ dL_book_16 rfl rfl rfl
abbrev kL_wouldSeal : Cond := .codeWith yL_wouldSeal cL_wouldSeal 4 (some .int) [(0, 16, 19, 19), (0, 16, 22, 58)]
theorem w_wouldSeal (l : Launch) (S : q_St) (a0 : Int32) (o : (Int32 ⊕ String) × q_St) (hM : q_Fx l yX6_wouldSeal kX6_wouldSeal 7 6 [.ref 0, .int a0] S o) (hE : ∀ E, o.1 = .inr E → E = xENs ∨ E = xEIs) (hb9 : ∀ v, o.1 = .inl v → v = 0 ∨ v = 1) : q_Fw l yL_wouldSeal kL_wouldSeal [.ref 0, .int a0, .ref 120] S (uW [xENs, xEIs] o) := by
  obtain ⟨o1, T⟩ := o
  refine q_Fw_of (maxL := 4) (hh := [(0, 16, 19, 19), (0, 16, 22, 58)]) rfl (by decide +kernel) (fun ad => Nat.le_of_ble_eq_true rfl) ?_
  intro K hX6 hX hC hT hret
  have C : q_Cx (q_Kw K 0) cL_wouldSeal RL 9 4 := hC 0 (by decide)
  have C6 : q_Cx (q_Kw K 6) cL_wouldSeal RL 9 4 := hC 6 (by decide)
  show q_V l (q_Kw K 0) 0 [(0, .ref 0), (1, .int a0), (2, .ref 120)] [] S
  refine q_aload_n C dL_wouldSeal_0 rfl rfl ?_
  refine q_iconst (v := 0) C dL_wouldSeal_1 (by decide) ?_
  refine q_aload_n C dL_wouldSeal_2 rfl rfl ?_
  refine q_iload_n C dL_wouldSeal_3 rfl rfl ?_
  refine q_wi1 hX C C6 hM myX6_wouldSeal mlL_54 q_s0 ⟨by decide, by decide⟩ (Nat.le_of_ble_eq_true rfl) dL_wouldSeal_4 (fun E h9 => ?_) (fun v h9 => ?_)
  · subst h9
    rcases hE E rfl with rfl | rfl
    · refine q_catch_n C6 hX6 hT [] ⟨0, 16, 19, 19⟩ [⟨0, 16, 22, 58⟩] rfl (fun z hz => nomatch hz) (by decide) (by decide) wk_Ns wc_Ns dL_wouldSeal_19 rfl (by decide) ?_
      have C := C6.KM (fun L => L)
      show q_V l (q_KM (q_Kw K 6) (fun L => L)) 20 [] [] T
      refine q_iconst (v := 1) C dL_wouldSeal_20 (by decide) ?_
      exact hret _ _ _ _ _ dL_wouldSeal_21 (by show uWc [xENs, xEIs] xENs = 1; decide +kernel) rfl rfl
    · refine q_catch_n C6 hX6 hT [⟨0, 16, 19, 19⟩] ⟨0, 16, 22, 58⟩ [] rfl (by intro z hz; simp only [List.mem_cons, List.not_mem_nil, or_false] at hz; rcases hz with rfl; exact ⟨by decide, xENs, wk_Ns, by decide +kernel⟩) (by decide) (by decide) wk_Is wc_Is dL_wouldSeal_22 rfl (by decide) ?_
      have C := C6.KM (fun L => L)
      show q_V l (q_KM (q_Kw K 6) (fun L => L)) 23 [] [] T
      refine q_iconst (v := 2) C dL_wouldSeal_23 (by decide) ?_
      exact hret _ _ _ _ _ dL_wouldSeal_24 (by show uWc [xENs, xEIs] xEIs = 2; decide +kernel) rfl rfl
  · subst h9
    rcases hb9 v rfl with rfl | rfl
    · have C := C6
      refine q_if_eq (tgt := 14) C dL_wouldSeal_7 (by decide) (fun _ => ?_) (fun h9 => absurd rfl h9)
      refine q_lconst (v := 0) C dL_wouldSeal_14 rfl ?_
      refine q_last C dL_wouldSeal_15 ?_
      have C := C6.KM (fun L => (vp_updL L.1 0 (0), L.2))
      refine q_goto (tgt := 25) C dL_wouldSeal_16 (by decide) ?_
      refine q_iconst (v := 0) C dL_wouldSeal_25 (by decide) ?_
      exact hret _ _ _ _ _ dL_wouldSeal_26 rfl rfl rfl
    · have C := C6
      refine q_if_eq (tgt := 14) C dL_wouldSeal_7 (by decide) (fun h9 => absurd h9 (by decide)) (fun _ => ?_)
      refine q_lconst (v := 1) C dL_wouldSeal_10 rfl ?_
      refine q_goto (tgt := 15) C dL_wouldSeal_11 (by decide) ?_
      refine q_last C dL_wouldSeal_15 ?_
      have C := C6.KM (fun L => (vp_updL L.1 0 (1), L.2))
      refine q_goto (tgt := 25) C dL_wouldSeal_16 (by decide) ?_
      refine q_iconst (v := 0) C dL_wouldSeal_25 (by decide) ?_
      exact hret _ _ _ _ _ dL_wouldSeal_26 rfl rfl rfl
abbrev kL_sleep : Cond := .codeWith yL_sleep cL_sleep 4 (some .int) [(0, 9, 12, 30), (0, 9, 15, 13)]
theorem w_sleep (l : Launch) (S : q_St) (a0 : Int32) (o : (Int32 ⊕ String) × q_St) (hM : q_Fx l yX6_sleep kX6_sleep 7 6 [.ref 0, .int a0] S o) (hE : ∀ E, o.1 = .inr E → E = xEIo ∨ E = xEUn) : q_Fw l yL_sleep kL_sleep [.ref 0, .int a0, .ref 120] S (uW [xEIo, xEUn] o) := by
  obtain ⟨o1, T⟩ := o
  refine q_Fw_of (maxL := 4) (hh := [(0, 9, 12, 30), (0, 9, 15, 13)]) rfl (by decide +kernel) (fun ad => Nat.le_of_ble_eq_true rfl) ?_
  intro K hX6 hX hC hT hret
  have C : q_Cx (q_Kw K 0) cL_sleep RL 9 4 := hC 0 (by decide)
  have C6 : q_Cx (q_Kw K 6) cL_sleep RL 9 4 := hC 6 (by decide)
  show q_V l (q_Kw K 0) 0 [(0, .ref 0), (1, .int a0), (2, .ref 120)] [] S
  refine q_aload_n C dL_sleep_0 rfl rfl ?_
  refine q_iconst (v := 0) C dL_sleep_1 (by decide) ?_
  refine q_aload_n C dL_sleep_2 rfl rfl ?_
  refine q_iload_n C dL_sleep_3 rfl rfl ?_
  refine q_wi1 hX C C6 hM myX6_sleep mlL_60 q_s0 ⟨by decide, by decide⟩ (Nat.le_of_ble_eq_true rfl) dL_sleep_4 (fun E h9 => ?_) (fun v h9 => ?_)
  · subst h9
    rcases hE E rfl with rfl | rfl
    · refine q_catch_n C6 hX6 hT [] ⟨0, 9, 12, 30⟩ [⟨0, 9, 15, 13⟩] rfl (fun z hz => nomatch hz) (by decide) (by decide) wk_Io wc_Io dL_sleep_12 rfl (by decide) ?_
      have C := C6.KM (fun L => L)
      show q_V l (q_KM (q_Kw K 6) (fun L => L)) 13 [] [] T
      refine q_iconst (v := 1) C dL_sleep_13 (by decide) ?_
      exact hret _ _ _ _ _ dL_sleep_14 (by show uWc [xEIo, xEUn] xEIo = 1; decide +kernel) rfl rfl
    · refine q_catch_n C6 hX6 hT [⟨0, 9, 12, 30⟩] ⟨0, 9, 15, 13⟩ [] rfl (by intro z hz; simp only [List.mem_cons, List.not_mem_nil, or_false] at hz; rcases hz with rfl; exact ⟨by decide, xEIo, wk_Io, by decide +kernel⟩) (by decide) (by decide) wk_Un wc_Un dL_sleep_15 rfl (by decide) ?_
      have C := C6.KM (fun L => L)
      show q_V l (q_KM (q_Kw K 6) (fun L => L)) 16 [] [] T
      refine q_iconst (v := 2) C dL_sleep_16 (by decide) ?_
      exact hret _ _ _ _ _ dL_sleep_17 (by show uWc [xEIo, xEUn] xEUn = 2; decide +kernel) rfl rfl
  · subst h9
    have C := C6
    refine q_i2l C dL_sleep_7 ?_
    refine q_last C dL_sleep_8 ?_
    have C := C6.KM (fun L => (vp_updL L.1 0 (v.toInt64), L.2))
    refine q_goto (tgt := 18) C dL_sleep_9 (by decide) ?_
    refine q_iconst (v := 0) C dL_sleep_18 (by decide) ?_
    exact hret _ _ _ _ _ dL_sleep_19 rfl rfl rfl
abbrev kL_rouse : Cond := .codeWith yL_rouse cL_rouse 4 (some .int) [(0, 9, 12, 30), (0, 9, 15, 13)]
theorem w_rouse (l : Launch) (S : q_St) (a0 : Int32) (o : (Int32 ⊕ String) × q_St) (hM : q_Fx l yX6_rouse kX6_rouse 7 6 [.ref 0, .int a0] S o) (hE : ∀ E, o.1 = .inr E → E = xEIo ∨ E = xEUn) : q_Fw l yL_rouse kL_rouse [.ref 0, .int a0, .ref 120] S (uW [xEIo, xEUn] o) := by
  obtain ⟨o1, T⟩ := o
  refine q_Fw_of (maxL := 4) (hh := [(0, 9, 12, 30), (0, 9, 15, 13)]) rfl (by decide +kernel) (fun ad => Nat.le_of_ble_eq_true rfl) ?_
  intro K hX6 hX hC hT hret
  have C : q_Cx (q_Kw K 0) cL_rouse RL 9 4 := hC 0 (by decide)
  have C6 : q_Cx (q_Kw K 6) cL_rouse RL 9 4 := hC 6 (by decide)
  show q_V l (q_Kw K 0) 0 [(0, .ref 0), (1, .int a0), (2, .ref 120)] [] S
  refine q_aload_n C dL_rouse_0 rfl rfl ?_
  refine q_iconst (v := 0) C dL_rouse_1 (by decide) ?_
  refine q_aload_n C dL_rouse_2 rfl rfl ?_
  refine q_iload_n C dL_rouse_3 rfl rfl ?_
  refine q_wi1 hX C C6 hM myX6_rouse mlL_63 q_s0 ⟨by decide, by decide⟩ (Nat.le_of_ble_eq_true rfl) dL_rouse_4 (fun E h9 => ?_) (fun v h9 => ?_)
  · subst h9
    rcases hE E rfl with rfl | rfl
    · refine q_catch_n C6 hX6 hT [] ⟨0, 9, 12, 30⟩ [⟨0, 9, 15, 13⟩] rfl (fun z hz => nomatch hz) (by decide) (by decide) wk_Io wc_Io dL_rouse_12 rfl (by decide) ?_
      have C := C6.KM (fun L => L)
      show q_V l (q_KM (q_Kw K 6) (fun L => L)) 13 [] [] T
      refine q_iconst (v := 1) C dL_rouse_13 (by decide) ?_
      exact hret _ _ _ _ _ dL_rouse_14 (by show uWc [xEIo, xEUn] xEIo = 1; decide +kernel) rfl rfl
    · refine q_catch_n C6 hX6 hT [⟨0, 9, 12, 30⟩] ⟨0, 9, 15, 13⟩ [] rfl (by intro z hz; simp only [List.mem_cons, List.not_mem_nil, or_false] at hz; rcases hz with rfl; exact ⟨by decide, xEIo, wk_Io, by decide +kernel⟩) (by decide) (by decide) wk_Un wc_Un dL_rouse_15 rfl (by decide) ?_
      have C := C6.KM (fun L => L)
      show q_V l (q_KM (q_Kw K 6) (fun L => L)) 16 [] [] T
      refine q_iconst (v := 2) C dL_rouse_16 (by decide) ?_
      exact hret _ _ _ _ _ dL_rouse_17 (by show uWc [xEIo, xEUn] xEUn = 2; decide +kernel) rfl rfl
  · subst h9
    have C := C6
    refine q_i2l C dL_rouse_7 ?_
    refine q_last C dL_rouse_8 ?_
    have C := C6.KM (fun L => (vp_updL L.1 0 (v.toInt64), L.2))
    refine q_goto (tgt := 18) C dL_rouse_9 (by decide) ?_
    refine q_iconst (v := 0) C dL_rouse_18 (by decide) ?_
    exact hret _ _ _ _ _ dL_rouse_19 rfl rfl rfl
abbrev kL_inquire : Cond := .codeWith yL_inquire cL_inquire 6 (some .int) [(0, 12, 15, 19), (0, 12, 19, 30), (0, 12, 23, 13)]
theorem w_inquire (l : Launch) (S : q_St) (a0 : Int32) (a1 : Int32) (a2 : Int32) (o : (Int32 ⊕ String) × q_St) (hM : q_Fx l yX6_inquire kX6_inquire 7 6 [.ref 0, .int a0, .int a1, .int a2] S o) (hE : ∀ E, o.1 = .inr E → E = xENs ∨ E = xEIo ∨ E = xEUn) : q_Fw l yL_inquire kL_inquire [.ref 0, .int a0, .int a1, .int a2, .ref 120] S (uW [xENs, xEIo, xEUn] o) := by
  obtain ⟨o1, T⟩ := o
  refine q_Fw_of (maxL := 6) (hh := [(0, 12, 15, 19), (0, 12, 19, 30), (0, 12, 23, 13)]) rfl (by decide +kernel) (fun ad => Nat.le_of_ble_eq_true rfl) ?_
  intro K hX6 hX hC hT hret
  have C : q_Cx (q_Kw K 0) cL_inquire RL 9 6 := hC 0 (by decide)
  have C6 : q_Cx (q_Kw K 6) cL_inquire RL 9 6 := hC 6 (by decide)
  show q_V l (q_Kw K 0) 0 [(0, .ref 0), (1, .int a0), (2, .int a1), (3, .int a2), (4, .ref 120)] [] S
  refine q_aload C dL_inquire_0 rfl ?_
  refine q_iconst (v := 0) C dL_inquire_2 (by decide) ?_
  refine q_aload_n C dL_inquire_3 rfl rfl ?_
  refine q_iload_n C dL_inquire_4 rfl rfl ?_
  refine q_iload_n C dL_inquire_5 rfl rfl ?_
  refine q_iload_n C dL_inquire_6 rfl rfl ?_
  refine q_wi3 hX C C6 hM myX6_inquire mlL_66 q_s0 ⟨by decide, by decide⟩ (Nat.le_of_ble_eq_true rfl) dL_inquire_7 (fun E h9 => ?_) (fun v h9 => ?_)
  · subst h9
    rcases hE E rfl with rfl | rfl | rfl
    · refine q_catch C6 hX6 hT [] ⟨0, 12, 15, 19⟩ [⟨0, 12, 19, 30⟩, ⟨0, 12, 23, 13⟩] rfl (fun z hz => nomatch hz) (by decide) (by decide) wk_Ns wc_Ns dL_inquire_15 (by decide) ?_
      have C := C6.KM (fun L => L)
      show q_V l (q_KM (q_Kw K 6) (fun L => L)) 17 [] [] T
      refine q_iconst (v := 1) C dL_inquire_17 (by decide) ?_
      exact hret _ _ _ _ _ dL_inquire_18 (by show uWc [xENs, xEIo, xEUn] xENs = 1; decide +kernel) rfl rfl
    · refine q_catch C6 hX6 hT [⟨0, 12, 15, 19⟩] ⟨0, 12, 19, 30⟩ [⟨0, 12, 23, 13⟩] rfl (by intro z hz; simp only [List.mem_cons, List.not_mem_nil, or_false] at hz; rcases hz with rfl; exact ⟨by decide, xENs, wk_Ns, by decide +kernel⟩) (by decide) (by decide) wk_Io wc_Io dL_inquire_19 (by decide) ?_
      have C := C6.KM (fun L => L)
      show q_V l (q_KM (q_Kw K 6) (fun L => L)) 21 [] [] T
      refine q_iconst (v := 2) C dL_inquire_21 (by decide) ?_
      exact hret _ _ _ _ _ dL_inquire_22 (by show uWc [xENs, xEIo, xEUn] xEIo = 2; decide +kernel) rfl rfl
    · refine q_catch C6 hX6 hT [⟨0, 12, 15, 19⟩, ⟨0, 12, 19, 30⟩] ⟨0, 12, 23, 13⟩ [] rfl (by intro z hz; simp only [List.mem_cons, List.not_mem_nil, or_false] at hz; rcases hz with rfl | rfl; exact ⟨by decide, xENs, wk_Ns, by decide +kernel⟩ ; exact ⟨by decide, xEIo, wk_Io, by decide +kernel⟩) (by decide) (by decide) wk_Un wc_Un dL_inquire_23 (by decide) ?_
      have C := C6.KM (fun L => L)
      show q_V l (q_KM (q_Kw K 6) (fun L => L)) 25 [] [] T
      refine q_iconst (v := 3) C dL_inquire_25 (by decide) ?_
      exact hret _ _ _ _ _ dL_inquire_26 (by show uWc [xENs, xEIo, xEUn] xEUn = 3; decide +kernel) rfl rfl
  · subst h9
    have C := C6
    refine q_i2l C dL_inquire_10 ?_
    refine q_last C dL_inquire_11 ?_
    have C := C6.KM (fun L => (vp_updL L.1 0 (v.toInt64), L.2))
    refine q_goto (tgt := 27) C dL_inquire_12 (by decide) ?_
    refine q_iconst (v := 0) C dL_inquire_27 (by decide) ?_
    exact hret _ _ _ _ _ dL_inquire_28 rfl rfl rfl
abbrev kL_guildOf : Cond := .codeWith yL_guildOf cL_guildOf 5 (some .int) [(0, 10, 13, 30), (0, 10, 17, 21)]
theorem w_guildOf (l : Launch) (S : q_St) (a0 : Int32) (a1 : Int32) (o : (Int32 ⊕ String) × q_St) (hM : q_Fx l yX6_guildOf kX6_guildOf 7 6 [.ref 0, .int a0, .int a1] S o) (hE : ∀ E, o.1 = .inr E → E = xEIo ∨ E = xEIa) : q_Fw l yL_guildOf kL_guildOf [.ref 0, .int a0, .int a1, .ref 120] S (uW [xEIo, xEIa] o) := by
  obtain ⟨o1, T⟩ := o
  refine q_Fw_of (maxL := 5) (hh := [(0, 10, 13, 30), (0, 10, 17, 21)]) rfl (by decide +kernel) (fun ad => Nat.le_of_ble_eq_true rfl) ?_
  intro K hX6 hX hC hT hret
  have C : q_Cx (q_Kw K 0) cL_guildOf RL 9 5 := hC 0 (by decide)
  have C6 : q_Cx (q_Kw K 6) cL_guildOf RL 9 5 := hC 6 (by decide)
  show q_V l (q_Kw K 0) 0 [(0, .ref 0), (1, .int a0), (2, .int a1), (3, .ref 120)] [] S
  refine q_aload_n C dL_guildOf_0 rfl rfl ?_
  refine q_iconst (v := 0) C dL_guildOf_1 (by decide) ?_
  refine q_aload_n C dL_guildOf_2 rfl rfl ?_
  refine q_iload_n C dL_guildOf_3 rfl rfl ?_
  refine q_iload_n C dL_guildOf_4 rfl rfl ?_
  refine q_wi2 hX C C6 hM myX6_guildOf mlL_69 q_s0 ⟨by decide, by decide⟩ (Nat.le_of_ble_eq_true rfl) dL_guildOf_5 (fun E h9 => ?_) (fun v h9 => ?_)
  · subst h9
    rcases hE E rfl with rfl | rfl
    · refine q_catch C6 hX6 hT [] ⟨0, 10, 13, 30⟩ [⟨0, 10, 17, 21⟩] rfl (fun z hz => nomatch hz) (by decide) (by decide) wk_Io wc_Io dL_guildOf_13 (by decide) ?_
      have C := C6.KM (fun L => L)
      show q_V l (q_KM (q_Kw K 6) (fun L => L)) 15 [] [] T
      refine q_iconst (v := 1) C dL_guildOf_15 (by decide) ?_
      exact hret _ _ _ _ _ dL_guildOf_16 (by show uWc [xEIo, xEIa] xEIo = 1; decide +kernel) rfl rfl
    · refine q_catch C6 hX6 hT [⟨0, 10, 13, 30⟩] ⟨0, 10, 17, 21⟩ [] rfl (by intro z hz; simp only [List.mem_cons, List.not_mem_nil, or_false] at hz; rcases hz with rfl; exact ⟨by decide, xEIo, wk_Io, by decide +kernel⟩) (by decide) (by decide) wk_Ia wc_Ia dL_guildOf_17 (by decide) ?_
      have C := C6.KM (fun L => L)
      show q_V l (q_KM (q_Kw K 6) (fun L => L)) 19 [] [] T
      refine q_iconst (v := 2) C dL_guildOf_19 (by decide) ?_
      exact hret _ _ _ _ _ dL_guildOf_20 (by show uWc [xEIo, xEIa] xEIa = 2; decide +kernel) rfl rfl
  · subst h9
    have C := C6
    refine q_i2l C dL_guildOf_8 ?_
    refine q_last C dL_guildOf_9 ?_
    have C := C6.KM (fun L => (vp_updL L.1 0 (v.toInt64), L.2))
    refine q_goto (tgt := 21) C dL_guildOf_10 (by decide) ?_
    refine q_iconst (v := 0) C dL_guildOf_21 (by decide) ?_
    exact hret _ _ _ _ _ dL_guildOf_22 rfl rfl rfl
abbrev kL_canLearn : Cond := .codeWith yL_canLearn cL_canLearn 5 (some .int) [(0, 17, 20, 30)]
theorem w_canLearn (l : Launch) (S : q_St) (a0 : Int32) (a1 : Int32) (o : (Int32 ⊕ String) × q_St) (hM : q_Fx l yX6_canLearn kX6_canLearn 7 6 [.ref 0, .int a0, .int a1] S o) (hE : ∀ E, o.1 = .inr E → E = xEIo) (hb9 : ∀ v, o.1 = .inl v → v = 0 ∨ v = 1) : q_Fw l yL_canLearn kL_canLearn [.ref 0, .int a0, .int a1, .ref 120] S (uW [xEIo] o) := by
  obtain ⟨o1, T⟩ := o
  refine q_Fw_of (maxL := 5) (hh := [(0, 17, 20, 30)]) rfl (by decide +kernel) (fun ad => Nat.le_of_ble_eq_true rfl) ?_
  intro K hX6 hX hC hT hret
  have C : q_Cx (q_Kw K 0) cL_canLearn RL 9 5 := hC 0 (by decide)
  have C6 : q_Cx (q_Kw K 6) cL_canLearn RL 9 5 := hC 6 (by decide)
  show q_V l (q_Kw K 0) 0 [(0, .ref 0), (1, .int a0), (2, .int a1), (3, .ref 120)] [] S
  refine q_aload_n C dL_canLearn_0 rfl rfl ?_
  refine q_iconst (v := 0) C dL_canLearn_1 (by decide) ?_
  refine q_aload_n C dL_canLearn_2 rfl rfl ?_
  refine q_iload_n C dL_canLearn_3 rfl rfl ?_
  refine q_iload_n C dL_canLearn_4 rfl rfl ?_
  refine q_wi2 hX C C6 hM myX6_canLearn mlL_72 q_s0 ⟨by decide, by decide⟩ (Nat.le_of_ble_eq_true rfl) dL_canLearn_5 (fun E h9 => ?_) (fun v h9 => ?_)
  · subst h9
    rcases hE E rfl with rfl
    refine q_catch C6 hX6 hT [] ⟨0, 17, 20, 30⟩ [] rfl (fun z hz => nomatch hz) (by decide) (by decide) wk_Io wc_Io dL_canLearn_20 (by decide) ?_
    have C := C6.KM (fun L => L)
    show q_V l (q_KM (q_Kw K 6) (fun L => L)) 22 [] [] T
    refine q_iconst (v := 1) C dL_canLearn_22 (by decide) ?_
    exact hret _ _ _ _ _ dL_canLearn_23 (by show uWc [xEIo] xEIo = 1; decide +kernel) rfl rfl
  · subst h9
    rcases hb9 v rfl with rfl | rfl
    · have C := C6
      refine q_if_eq (tgt := 15) C dL_canLearn_8 (by decide) (fun _ => ?_) (fun h9 => absurd rfl h9)
      refine q_lconst (v := 0) C dL_canLearn_15 rfl ?_
      refine q_last C dL_canLearn_16 ?_
      have C := C6.KM (fun L => (vp_updL L.1 0 (0), L.2))
      refine q_goto (tgt := 24) C dL_canLearn_17 (by decide) ?_
      refine q_iconst (v := 0) C dL_canLearn_24 (by decide) ?_
      exact hret _ _ _ _ _ dL_canLearn_25 rfl rfl rfl
    · have C := C6
      refine q_if_eq (tgt := 15) C dL_canLearn_8 (by decide) (fun h9 => absurd h9 (by decide)) (fun _ => ?_)
      refine q_lconst (v := 1) C dL_canLearn_11 rfl ?_
      refine q_goto (tgt := 16) C dL_canLearn_12 (by decide) ?_
      refine q_last C dL_canLearn_16 ?_
      have C := C6.KM (fun L => (vp_updL L.1 0 (1), L.2))
      refine q_goto (tgt := 24) C dL_canLearn_17 (by decide) ?_
      refine q_iconst (v := 0) C dL_canLearn_24 (by decide) ?_
      exact hret _ _ _ _ _ dL_canLearn_25 rfl rfl rfl
abbrev kL_pass : Cond := .codeWith yL_pass cL_pass 4 (some .int) [(0, 9, 12, 21)]
theorem w_pass (l : Launch) (S : q_St) (a0 : Int32) (o : (Int32 ⊕ String) × q_St) (hM : q_Fx l yX6_pass kX6_pass 7 6 [.ref 0, .int a0] S o) (hE : ∀ E, o.1 = .inr E → E = xEIa) : q_Fw l yL_pass kL_pass [.ref 0, .int a0, .ref 120] S (uW [xEIa] o) := by
  obtain ⟨o1, T⟩ := o
  refine q_Fw_of (maxL := 4) (hh := [(0, 9, 12, 21)]) rfl (by decide +kernel) (fun ad => Nat.le_of_ble_eq_true rfl) ?_
  intro K hX6 hX hC hT hret
  have C : q_Cx (q_Kw K 0) cL_pass RL 9 4 := hC 0 (by decide)
  have C6 : q_Cx (q_Kw K 6) cL_pass RL 9 4 := hC 6 (by decide)
  show q_V l (q_Kw K 0) 0 [(0, .ref 0), (1, .int a0), (2, .ref 120)] [] S
  refine q_aload_n C dL_pass_0 rfl rfl ?_
  refine q_iconst (v := 0) C dL_pass_1 (by decide) ?_
  refine q_aload_n C dL_pass_2 rfl rfl ?_
  refine q_iload_n C dL_pass_3 rfl rfl ?_
  refine q_wi1 hX C C6 hM myX6_pass mlL_76 q_s0 ⟨by decide, by decide⟩ (Nat.le_of_ble_eq_true rfl) dL_pass_4 (fun E h9 => ?_) (fun v h9 => ?_)
  · subst h9
    rcases hE E rfl with rfl
    refine q_catch_n C6 hX6 hT [] ⟨0, 9, 12, 21⟩ [] rfl (fun z hz => nomatch hz) (by decide) (by decide) wk_Ia wc_Ia dL_pass_12 rfl (by decide) ?_
    have C := C6.KM (fun L => L)
    show q_V l (q_KM (q_Kw K 6) (fun L => L)) 13 [] [] T
    refine q_iconst (v := 1) C dL_pass_13 (by decide) ?_
    exact hret _ _ _ _ _ dL_pass_14 (by show uWc [xEIa] xEIa = 1; decide +kernel) rfl rfl
  · subst h9
    have C := C6
    refine q_i2l C dL_pass_7 ?_
    refine q_last C dL_pass_8 ?_
    have C := C6.KM (fun L => (vp_updL L.1 0 (v.toInt64), L.2))
    refine q_goto (tgt := 15) C dL_pass_9 (by decide) ?_
    refine q_iconst (v := 0) C dL_pass_15 (by decide) ?_
    exact hret _ _ _ _ _ dL_pass_16 rfl rfl rfl
abbrev kL_ranked : Cond := .codeWith yL_ranked cL_ranked 4 (some .int) [(0, 9, 12, 30)]
theorem w_ranked (l : Launch) (S : q_St) (a0 : Int32) (o : (Int32 ⊕ String) × q_St) (hM : q_Fx l yX6_ranked kX6_ranked 7 6 [.ref 0, .int a0] S o) (hE : ∀ E, o.1 = .inr E → E = xEIo) : q_Fw l yL_ranked kL_ranked [.ref 0, .int a0, .ref 120] S (uW [xEIo] o) := by
  obtain ⟨o1, T⟩ := o
  refine q_Fw_of (maxL := 4) (hh := [(0, 9, 12, 30)]) rfl (by decide +kernel) (fun ad => Nat.le_of_ble_eq_true rfl) ?_
  intro K hX6 hX hC hT hret
  have C : q_Cx (q_Kw K 0) cL_ranked RL 9 4 := hC 0 (by decide)
  have C6 : q_Cx (q_Kw K 6) cL_ranked RL 9 4 := hC 6 (by decide)
  show q_V l (q_Kw K 0) 0 [(0, .ref 0), (1, .int a0), (2, .ref 120)] [] S
  refine q_aload_n C dL_ranked_0 rfl rfl ?_
  refine q_iconst (v := 0) C dL_ranked_1 (by decide) ?_
  refine q_aload_n C dL_ranked_2 rfl rfl ?_
  refine q_iload_n C dL_ranked_3 rfl rfl ?_
  refine q_wi1 hX C C6 hM myX6_ranked mlL_79 q_s0 ⟨by decide, by decide⟩ (Nat.le_of_ble_eq_true rfl) dL_ranked_4 (fun E h9 => ?_) (fun v h9 => ?_)
  · subst h9
    rcases hE E rfl with rfl
    refine q_catch_n C6 hX6 hT [] ⟨0, 9, 12, 30⟩ [] rfl (fun z hz => nomatch hz) (by decide) (by decide) wk_Io wc_Io dL_ranked_12 rfl (by decide) ?_
    have C := C6.KM (fun L => L)
    show q_V l (q_KM (q_Kw K 6) (fun L => L)) 13 [] [] T
    refine q_iconst (v := 1) C dL_ranked_13 (by decide) ?_
    exact hret _ _ _ _ _ dL_ranked_14 (by show uWc [xEIo] xEIo = 1; decide +kernel) rfl rfl
  · subst h9
    have C := C6
    refine q_i2l C dL_ranked_7 ?_
    refine q_last C dL_ranked_8 ?_
    have C := C6.KM (fun L => (vp_updL L.1 0 (v.toInt64), L.2))
    refine q_goto (tgt := 15) C dL_ranked_9 (by decide) ?_
    refine q_iconst (v := 0) C dL_ranked_15 (by decide) ?_
    exact hret _ _ _ _ _ dL_ranked_16 rfl rfl rfl
abbrev kL_line : Cond := .codeWith yL_line cL_line 4 (some .int) [(0, 9, 12, 19)]
theorem w_line (l : Launch) (S : q_St) (a0 : Int32) (o : (Int32 ⊕ String) × q_St) (hM : q_Fx l yX6_line kX6_line 7 6 [.ref 0, .int a0] S o) (hE : ∀ E, o.1 = .inr E → E = xENs) : q_Fw l yL_line kL_line [.ref 0, .int a0, .ref 120] S (uW [xENs] o) := by
  obtain ⟨o1, T⟩ := o
  refine q_Fw_of (maxL := 4) (hh := [(0, 9, 12, 19)]) rfl (by decide +kernel) (fun ad => Nat.le_of_ble_eq_true rfl) ?_
  intro K hX6 hX hC hT hret
  have C : q_Cx (q_Kw K 0) cL_line RL 9 4 := hC 0 (by decide)
  have C6 : q_Cx (q_Kw K 6) cL_line RL 9 4 := hC 6 (by decide)
  show q_V l (q_Kw K 0) 0 [(0, .ref 0), (1, .int a0), (2, .ref 120)] [] S
  refine q_aload_n C dL_line_0 rfl rfl ?_
  refine q_iconst (v := 0) C dL_line_1 (by decide) ?_
  refine q_aload_n C dL_line_2 rfl rfl ?_
  refine q_iload_n C dL_line_3 rfl rfl ?_
  refine q_wi1 hX C C6 hM myX6_line mlL_82 q_s0 ⟨by decide, by decide⟩ (Nat.le_of_ble_eq_true rfl) dL_line_4 (fun E h9 => ?_) (fun v h9 => ?_)
  · subst h9
    rcases hE E rfl with rfl
    refine q_catch_n C6 hX6 hT [] ⟨0, 9, 12, 19⟩ [] rfl (fun z hz => nomatch hz) (by decide) (by decide) wk_Ns wc_Ns dL_line_12 rfl (by decide) ?_
    have C := C6.KM (fun L => L)
    show q_V l (q_KM (q_Kw K 6) (fun L => L)) 13 [] [] T
    refine q_iconst (v := 1) C dL_line_13 (by decide) ?_
    exact hret _ _ _ _ _ dL_line_14 (by show uWc [xENs] xENs = 1; decide +kernel) rfl rfl
  · subst h9
    have C := C6
    refine q_i2l C dL_line_7 ?_
    refine q_last C dL_line_8 ?_
    have C := C6.KM (fun L => (vp_updL L.1 0 (v.toInt64), L.2))
    refine q_goto (tgt := 15) C dL_line_9 (by decide) ?_
    refine q_iconst (v := 0) C dL_line_15 (by decide) ?_
    exact hret _ _ _ _ _ dL_line_16 rfl rfl rfl
abbrev kL_character : Cond := .codeWith yL_character cL_character 4 (some .int) [(0, 9, 12, 30)]
theorem w_character (l : Launch) (S : q_St) (a0 : Int32) (o : (Int32 ⊕ String) × q_St) (hM : q_Fx l yX6_character kX6_character 7 6 [.ref 0, .int a0] S o) (hE : ∀ E, o.1 = .inr E → E = xEIo) : q_Fw l yL_character kL_character [.ref 0, .int a0, .ref 120] S (uW [xEIo] o) := by
  obtain ⟨o1, T⟩ := o
  refine q_Fw_of (maxL := 4) (hh := [(0, 9, 12, 30)]) rfl (by decide +kernel) (fun ad => Nat.le_of_ble_eq_true rfl) ?_
  intro K hX6 hX hC hT hret
  have C : q_Cx (q_Kw K 0) cL_character RL 9 4 := hC 0 (by decide)
  have C6 : q_Cx (q_Kw K 6) cL_character RL 9 4 := hC 6 (by decide)
  show q_V l (q_Kw K 0) 0 [(0, .ref 0), (1, .int a0), (2, .ref 120)] [] S
  refine q_aload_n C dL_character_0 rfl rfl ?_
  refine q_iconst (v := 0) C dL_character_1 (by decide) ?_
  refine q_aload_n C dL_character_2 rfl rfl ?_
  refine q_iload_n C dL_character_3 rfl rfl ?_
  refine q_wi1 hX C C6 hM myX6_character mlL_85 q_s0 ⟨by decide, by decide⟩ (Nat.le_of_ble_eq_true rfl) dL_character_4 (fun E h9 => ?_) (fun v h9 => ?_)
  · subst h9
    rcases hE E rfl with rfl
    refine q_catch_n C6 hX6 hT [] ⟨0, 9, 12, 30⟩ [] rfl (fun z hz => nomatch hz) (by decide) (by decide) wk_Io wc_Io dL_character_12 rfl (by decide) ?_
    have C := C6.KM (fun L => L)
    show q_V l (q_KM (q_Kw K 6) (fun L => L)) 13 [] [] T
    refine q_iconst (v := 1) C dL_character_13 (by decide) ?_
    exact hret _ _ _ _ _ dL_character_14 (by show uWc [xEIo] xEIo = 1; decide +kernel) rfl rfl
  · subst h9
    have C := C6
    refine q_i2l C dL_character_7 ?_
    refine q_last C dL_character_8 ?_
    have C := C6.KM (fun L => (vp_updL L.1 0 (v.toInt64), L.2))
    refine q_goto (tgt := 15) C dL_character_9 (by decide) ?_
    refine q_iconst (v := 0) C dL_character_15 (by decide) ?_
    exact hret _ _ _ _ _ dL_character_16 rfl rfl rfl
abbrev kL_append : Cond := .codeWith yL_append cL_append 4 (some .int) [(0, 9, 12, 58)]
theorem w_append (l : Launch) (S : q_St) (a0 : Int32) (o : (Int32 ⊕ String) × q_St) (hM : q_Fx l yX6_append kX6_append 7 6 [.ref 0, .int a0] S o) (hE : ∀ E, o.1 = .inr E → E = xEIs) : q_Fw l yL_append kL_append [.ref 0, .int a0, .ref 120] S (uW [xEIs] o) := by
  obtain ⟨o1, T⟩ := o
  refine q_Fw_of (maxL := 4) (hh := [(0, 9, 12, 58)]) rfl (by decide +kernel) (fun ad => Nat.le_of_ble_eq_true rfl) ?_
  intro K hX6 hX hC hT hret
  have C : q_Cx (q_Kw K 0) cL_append RL 9 4 := hC 0 (by decide)
  have C6 : q_Cx (q_Kw K 6) cL_append RL 9 4 := hC 6 (by decide)
  show q_V l (q_Kw K 0) 0 [(0, .ref 0), (1, .int a0), (2, .ref 120)] [] S
  refine q_aload_n C dL_append_0 rfl rfl ?_
  refine q_iconst (v := 0) C dL_append_1 (by decide) ?_
  refine q_aload_n C dL_append_2 rfl rfl ?_
  refine q_iload_n C dL_append_3 rfl rfl ?_
  refine q_wi1 hX C C6 hM myX6_append mlL_89 q_s0 ⟨by decide, by decide⟩ (Nat.le_of_ble_eq_true rfl) dL_append_4 (fun E h9 => ?_) (fun v h9 => ?_)
  · subst h9
    rcases hE E rfl with rfl
    refine q_catch_n C6 hX6 hT [] ⟨0, 9, 12, 58⟩ [] rfl (fun z hz => nomatch hz) (by decide) (by decide) wk_Is wc_Is dL_append_12 rfl (by decide) ?_
    have C := C6.KM (fun L => L)
    show q_V l (q_KM (q_Kw K 6) (fun L => L)) 13 [] [] T
    refine q_iconst (v := 1) C dL_append_13 (by decide) ?_
    exact hret _ _ _ _ _ dL_append_14 (by show uWc [xEIs] xEIs = 1; decide +kernel) rfl rfl
  · subst h9
    have C := C6
    refine q_i2l C dL_append_7 ?_
    refine q_last C dL_append_8 ?_
    have C := C6.KM (fun L => (vp_updL L.1 0 (v.toInt64), L.2))
    refine q_goto (tgt := 15) C dL_append_9 (by decide) ?_
    refine q_iconst (v := 0) C dL_append_15 (by decide) ?_
    exact hret _ _ _ _ _ dL_append_16 rfl rfl rfl
abbrev kL_run : Cond := .codeWith yL_run cL_run 3 (some .int) [(0, 8, 11, 21), (0, 8, 14, 13)]
theorem w_run (l : Launch) (S : q_St) (o : (Int32 ⊕ String) × q_St) (hM : q_Fx l yX6_run kX6_run 8 6 [.ref 0] S o) (hE : ∀ E, o.1 = .inr E → E = xEIa ∨ E = xEUn) : q_Fw l yL_run kL_run [.ref 0, .ref 120] S (uW [xEIa, xEUn] o) := by
  obtain ⟨o1, T⟩ := o
  refine q_Fw_of (maxL := 3) (hh := [(0, 8, 11, 21), (0, 8, 14, 13)]) rfl (by decide +kernel) (fun ad => Nat.le_of_ble_eq_true rfl) ?_
  intro K hX6 hX hC hT hret
  have C : q_Cx (q_Kw K 0) cL_run RL 9 3 := hC 0 (by decide)
  have C6 : q_Cx (q_Kw K 6) cL_run RL 9 3 := hC 6 (by decide)
  show q_V l (q_Kw K 0) 0 [(0, .ref 0), (1, .ref 120)] [] S
  refine q_aload_n C dL_run_0 rfl rfl ?_
  refine q_iconst (v := 0) C dL_run_1 (by decide) ?_
  refine q_aload_n C dL_run_2 rfl rfl ?_
  refine q_wi0 hX C C6 hM myX6_run mlL_93 q_s0 ⟨by decide, by decide⟩ (Nat.le_of_ble_eq_true rfl) dL_run_3 (fun E h9 => ?_) (fun v h9 => ?_)
  · subst h9
    rcases hE E rfl with rfl | rfl
    · refine q_catch_n C6 hX6 hT [] ⟨0, 8, 11, 21⟩ [⟨0, 8, 14, 13⟩] rfl (fun z hz => nomatch hz) (by decide) (by decide) wk_Ia wc_Ia dL_run_11 rfl (by decide) ?_
      have C := C6.KM (fun L => L)
      show q_V l (q_KM (q_Kw K 6) (fun L => L)) 12 [] [] T
      refine q_iconst (v := 1) C dL_run_12 (by decide) ?_
      exact hret _ _ _ _ _ dL_run_13 (by show uWc [xEIa, xEUn] xEIa = 1; decide +kernel) rfl rfl
    · refine q_catch_n C6 hX6 hT [⟨0, 8, 11, 21⟩] ⟨0, 8, 14, 13⟩ [] rfl (by intro z hz; simp only [List.mem_cons, List.not_mem_nil, or_false] at hz; rcases hz with rfl; exact ⟨by decide, xEIa, wk_Ia, by decide +kernel⟩) (by decide) (by decide) wk_Un wc_Un dL_run_14 rfl (by decide) ?_
      have C := C6.KM (fun L => L)
      show q_V l (q_KM (q_Kw K 6) (fun L => L)) 15 [] [] T
      refine q_iconst (v := 2) C dL_run_15 (by decide) ?_
      exact hret _ _ _ _ _ dL_run_16 (by show uWc [xEIa, xEUn] xEUn = 2; decide +kernel) rfl rfl
  · subst h9
    have C := C6
    refine q_i2l C dL_run_6 ?_
    refine q_last C dL_run_7 ?_
    have C := C6.KM (fun L => (vp_updL L.1 0 (v.toInt64), L.2))
    refine q_goto (tgt := 17) C dL_run_8 (by decide) ?_
    refine q_iconst (v := 0) C dL_run_17 (by decide) ?_
    exact hret _ _ _ _ _ dL_run_18 rfl rfl rfl
abbrev kL_refusal : Cond := .codeWith yL_refusal cL_refusal 4 (some .int) [(0, 9, 12, 19)]
theorem w_refusal (l : Launch) (S : q_St) (a0 : Int32) (o : (Int32 ⊕ String) × q_St) (hM : q_Fx l yX6_refusal kX6_refusal 7 6 [.ref 0, .int a0] S o) (hE : ∀ E, o.1 = .inr E → E = xENs) : q_Fw l yL_refusal kL_refusal [.ref 0, .int a0, .ref 120] S (uW [xENs] o) := by
  obtain ⟨o1, T⟩ := o
  refine q_Fw_of (maxL := 4) (hh := [(0, 9, 12, 19)]) rfl (by decide +kernel) (fun ad => Nat.le_of_ble_eq_true rfl) ?_
  intro K hX6 hX hC hT hret
  have C : q_Cx (q_Kw K 0) cL_refusal RL 9 4 := hC 0 (by decide)
  have C6 : q_Cx (q_Kw K 6) cL_refusal RL 9 4 := hC 6 (by decide)
  show q_V l (q_Kw K 0) 0 [(0, .ref 0), (1, .int a0), (2, .ref 120)] [] S
  refine q_aload_n C dL_refusal_0 rfl rfl ?_
  refine q_iconst (v := 0) C dL_refusal_1 (by decide) ?_
  refine q_aload_n C dL_refusal_2 rfl rfl ?_
  refine q_iload_n C dL_refusal_3 rfl rfl ?_
  refine q_wi1 hX C C6 hM myX6_refusal mlL_96 q_s0 ⟨by decide, by decide⟩ (Nat.le_of_ble_eq_true rfl) dL_refusal_4 (fun E h9 => ?_) (fun v h9 => ?_)
  · subst h9
    rcases hE E rfl with rfl
    refine q_catch_n C6 hX6 hT [] ⟨0, 9, 12, 19⟩ [] rfl (fun z hz => nomatch hz) (by decide) (by decide) wk_Ns wc_Ns dL_refusal_12 rfl (by decide) ?_
    have C := C6.KM (fun L => L)
    show q_V l (q_KM (q_Kw K 6) (fun L => L)) 13 [] [] T
    refine q_iconst (v := 1) C dL_refusal_13 (by decide) ?_
    exact hret _ _ _ _ _ dL_refusal_14 (by show uWc [xENs] xENs = 1; decide +kernel) rfl rfl
  · subst h9
    have C := C6
    refine q_i2l C dL_refusal_7 ?_
    refine q_last C dL_refusal_8 ?_
    have C := C6.KM (fun L => (vp_updL L.1 0 (v.toInt64), L.2))
    refine q_goto (tgt := 15) C dL_refusal_9 (by decide) ?_
    refine q_iconst (v := 0) C dL_refusal_15 (by decide) ?_
    exact hret _ _ _ _ _ dL_refusal_16 rfl rfl rfl
abbrev kL_account : Cond := .codeWith yL_account cL_account 4 (some .int) [(0, 9, 12, 21)]
theorem w_account (l : Launch) (S : q_St) (a0 : Int32) (o : (Int32 ⊕ String) × q_St) (hM : q_Fx l yX6_account kX6_account 7 6 [.ref 0, .int a0] S o) (hE : ∀ E, o.1 = .inr E → E = xEIa) : q_Fw l yL_account kL_account [.ref 0, .int a0, .ref 120] S (uW [xEIa] o) := by
  obtain ⟨o1, T⟩ := o
  refine q_Fw_of (maxL := 4) (hh := [(0, 9, 12, 21)]) rfl (by decide +kernel) (fun ad => Nat.le_of_ble_eq_true rfl) ?_
  intro K hX6 hX hC hT hret
  have C : q_Cx (q_Kw K 0) cL_account RL 9 4 := hC 0 (by decide)
  have C6 : q_Cx (q_Kw K 6) cL_account RL 9 4 := hC 6 (by decide)
  show q_V l (q_Kw K 0) 0 [(0, .ref 0), (1, .int a0), (2, .ref 120)] [] S
  refine q_aload_n C dL_account_0 rfl rfl ?_
  refine q_iconst (v := 0) C dL_account_1 (by decide) ?_
  refine q_aload_n C dL_account_2 rfl rfl ?_
  refine q_iload_n C dL_account_3 rfl rfl ?_
  refine q_wi1 hX C C6 hM myX6_account mlL_100 q_s0 ⟨by decide, by decide⟩ (Nat.le_of_ble_eq_true rfl) dL_account_4 (fun E h9 => ?_) (fun v h9 => ?_)
  · subst h9
    rcases hE E rfl with rfl
    refine q_catch_n C6 hX6 hT [] ⟨0, 9, 12, 21⟩ [] rfl (fun z hz => nomatch hz) (by decide) (by decide) wk_Ia wc_Ia dL_account_12 rfl (by decide) ?_
    have C := C6.KM (fun L => L)
    show q_V l (q_KM (q_Kw K 6) (fun L => L)) 13 [] [] T
    refine q_iconst (v := 1) C dL_account_13 (by decide) ?_
    exact hret _ _ _ _ _ dL_account_14 (by show uWc [xEIa] xEIa = 1; decide +kernel) rfl rfl
  · subst h9
    have C := C6
    refine q_i2l C dL_account_7 ?_
    refine q_last C dL_account_8 ?_
    have C := C6.KM (fun L => (vp_updL L.1 0 (v.toInt64), L.2))
    refine q_goto (tgt := 15) C dL_account_9 (by decide) ?_
    refine q_iconst (v := 0) C dL_account_15 (by decide) ?_
    exact hret _ _ _ _ _ dL_account_16 rfl rfl rfl
abbrev kL_sealedShare : Cond := .codeWith yL_sealedShare cL_sealedShare 3 (some .int) [(0, 8, 11, 107)]
theorem w_sealedShare (l : Launch) (S : q_St) (o : (UInt32 ⊕ String) × q_St) (hM : q_Fxf l yX6_sealedShare kX6_sealedShare 7 6 [.ref 0] S o) (hE : ∀ E, o.1 = .inr E → E = xEAr) (hb9 : ∀ v, o.1 = .inl v → vf_n64 (FP.f2d v)) : q_Fw l yL_sealedShare kL_sealedShare [.ref 0, .ref 121] S (uWf [xEAr] o) := by
  obtain ⟨o1, T⟩ := o
  refine q_Fw_of (maxL := 3) (hh := [(0, 8, 11, 107)]) rfl (by decide +kernel) (fun ad => Nat.le_of_ble_eq_true rfl) ?_
  intro K hX6 hX hC hT hret
  have C : q_Cx (q_Kw K 0) cL_sealedShare RL 9 3 := hC 0 (by decide)
  have C6 : q_Cx (q_Kw K 6) cL_sealedShare RL 9 3 := hC 6 (by decide)
  show q_V l (q_Kw K 0) 0 [(0, .ref 0), (1, .ref 121)] [] S
  refine q_aload_n C dL_sealedShare_0 rfl rfl ?_
  refine q_iconst (v := 0) C dL_sealedShare_1 (by decide) ?_
  refine q_aload_n C dL_sealedShare_2 rfl rfl ?_
  refine q_wf0 hX C C6 hM myX6_sealedShare mlL_103 q_s0 ⟨by decide, by decide⟩ (Nat.le_of_ble_eq_true rfl) dL_sealedShare_3 (fun E h9 => ?_) (fun v h9 => ?_)
  · subst h9
    rcases hE E rfl with rfl
    refine q_catch_n C6 hX6 hT [] ⟨0, 8, 11, 107⟩ [] rfl (fun z hz => nomatch hz) (by decide) (by decide) wk_Ar wc_Ar dL_sealedShare_11 rfl (by decide) ?_
    have C := C6.KM (fun L => L)
    show q_V l (q_KM (q_Kw K 6) (fun L => L)) 12 [] [] T
    refine q_iconst (v := 1) C dL_sealedShare_12 (by decide) ?_
    exact hret _ _ _ _ _ dL_sealedShare_13 (by show uWc [xEAr] xEAr = 1; decide +kernel) rfl rfl
  · subst h9
    have C := C6
    refine q_f2d C (hb9 v rfl) dL_sealedShare_6 ?_
    refine q_dast C dL_sealedShare_7 ?_
    have C := C6.KM (fun L => (L.1, vf_upd L.2 0 (FP.f2d v)))
    refine q_goto (tgt := 14) C dL_sealedShare_8 (by decide) ?_
    refine q_iconst (v := 0) C dL_sealedShare_14 (by decide) ?_
    exact hret _ _ _ _ _ dL_sealedShare_15 rfl rfl rfl
abbrev kL_undo : Cond := .codeWith yL_undo cL_undo 3 (some .int) [(0, 8, 11, 58)]
theorem w_undo (l : Launch) (S : q_St) (o : (Int32 ⊕ String) × q_St) (hM : q_Fx l yX6_undo kX6_undo 7 6 [.ref 0] S o) (hE : ∀ E, o.1 = .inr E → E = xEIs) : q_Fw l yL_undo kL_undo [.ref 0, .ref 120] S (uW [xEIs] o) := by
  obtain ⟨o1, T⟩ := o
  refine q_Fw_of (maxL := 3) (hh := [(0, 8, 11, 58)]) rfl (by decide +kernel) (fun ad => Nat.le_of_ble_eq_true rfl) ?_
  intro K hX6 hX hC hT hret
  have C : q_Cx (q_Kw K 0) cL_undo RL 9 3 := hC 0 (by decide)
  have C6 : q_Cx (q_Kw K 6) cL_undo RL 9 3 := hC 6 (by decide)
  show q_V l (q_Kw K 0) 0 [(0, .ref 0), (1, .ref 120)] [] S
  refine q_aload_n C dL_undo_0 rfl rfl ?_
  refine q_iconst (v := 0) C dL_undo_1 (by decide) ?_
  refine q_aload_n C dL_undo_2 rfl rfl ?_
  refine q_wi0 hX C C6 hM myX6_undo mlL_109 q_s0 ⟨by decide, by decide⟩ (Nat.le_of_ble_eq_true rfl) dL_undo_3 (fun E h9 => ?_) (fun v h9 => ?_)
  · subst h9
    rcases hE E rfl with rfl
    refine q_catch_n C6 hX6 hT [] ⟨0, 8, 11, 58⟩ [] rfl (fun z hz => nomatch hz) (by decide) (by decide) wk_Is wc_Is dL_undo_11 rfl (by decide) ?_
    have C := C6.KM (fun L => L)
    show q_V l (q_KM (q_Kw K 6) (fun L => L)) 12 [] [] T
    refine q_iconst (v := 1) C dL_undo_12 (by decide) ?_
    exact hret _ _ _ _ _ dL_undo_13 (by show uWc [xEIs] xEIs = 1; decide +kernel) rfl rfl
  · subst h9
    have C := C6
    refine q_i2l C dL_undo_6 ?_
    refine q_last C dL_undo_7 ?_
    have C := C6.KM (fun L => (vp_updL L.1 0 (v.toInt64), L.2))
    refine q_goto (tgt := 14) C dL_undo_8 (by decide) ?_
    refine q_iconst (v := 0) C dL_undo_14 (by decide) ?_
    exact hret _ _ _ _ _ dL_undo_15 rfl rfl rfl
abbrev kL_restore : Cond := .codeWith yL_restore cL_restore 3 (some .int) [(0, 8, 11, 58)]
theorem w_restore (l : Launch) (S : q_St) (o : (Int32 ⊕ String) × q_St) (hM : q_Fx l yX6_restore kX6_restore 7 6 [.ref 0] S o) (hE : ∀ E, o.1 = .inr E → E = xEIs) : q_Fw l yL_restore kL_restore [.ref 0, .ref 120] S (uW [xEIs] o) := by
  obtain ⟨o1, T⟩ := o
  refine q_Fw_of (maxL := 3) (hh := [(0, 8, 11, 58)]) rfl (by decide +kernel) (fun ad => Nat.le_of_ble_eq_true rfl) ?_
  intro K hX6 hX hC hT hret
  have C : q_Cx (q_Kw K 0) cL_restore RL 9 3 := hC 0 (by decide)
  have C6 : q_Cx (q_Kw K 6) cL_restore RL 9 3 := hC 6 (by decide)
  show q_V l (q_Kw K 0) 0 [(0, .ref 0), (1, .ref 120)] [] S
  refine q_aload_n C dL_restore_0 rfl rfl ?_
  refine q_iconst (v := 0) C dL_restore_1 (by decide) ?_
  refine q_aload_n C dL_restore_2 rfl rfl ?_
  refine q_wi0 hX C C6 hM myX6_restore mlL_112 q_s0 ⟨by decide, by decide⟩ (Nat.le_of_ble_eq_true rfl) dL_restore_3 (fun E h9 => ?_) (fun v h9 => ?_)
  · subst h9
    rcases hE E rfl with rfl
    refine q_catch_n C6 hX6 hT [] ⟨0, 8, 11, 58⟩ [] rfl (fun z hz => nomatch hz) (by decide) (by decide) wk_Is wc_Is dL_restore_11 rfl (by decide) ?_
    have C := C6.KM (fun L => L)
    show q_V l (q_KM (q_Kw K 6) (fun L => L)) 12 [] [] T
    refine q_iconst (v := 1) C dL_restore_12 (by decide) ?_
    exact hret _ _ _ _ _ dL_restore_13 (by show uWc [xEIs] xEIs = 1; decide +kernel) rfl rfl
  · subst h9
    have C := C6
    refine q_i2l C dL_restore_6 ?_
    refine q_last C dL_restore_7 ?_
    have C := C6.KM (fun L => (vp_updL L.1 0 (v.toInt64), L.2))
    refine q_goto (tgt := 14) C dL_restore_8 (by decide) ?_
    refine q_iconst (v := 0) C dL_restore_14 (by decide) ?_
    exact hret _ _ _ _ _ dL_restore_15 rfl rfl rfl
