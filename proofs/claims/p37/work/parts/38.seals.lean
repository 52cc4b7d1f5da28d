theorem c_X6_startChange1 (l : Launch) (hst : l.stackTraces = false) (S : q_St) : q_Fxv l yX6_startChange kX6_startChange 6 1 [.ref 0, .int 1] S ((some xEUn, S)) := by
  refine q_Fxv_of hst (maxL := 2) rfl (by decide +kernel) (fun ad => Nat.le_of_ble_eq_true rfl) (by decide) ?_
  intro K hX hC hret hTh hNw
  have C : q_Cx (q_Kw K 0) cX6_startChange RX6 6 2 := hC 0 (by decide)
  show q_V l (q_Kw K 0) 0 [(0, .ref 0), (1, .int 1)] [] S
  refine q_iload_n C dX6_startChange_0 rfl rfl ?_
  refine q_if_eq (tgt := 15) C dX6_startChange_1 (by decide) (fun h9 => absurd h9 (by decide)) (fun _ => ?_)
  exact hNw 0 (by decide) xEUn _ rfl _ 253 321 257 7 24 xr_7 "refused" _ _ xr_7_d rfl xk_Un xi_Un xa_Un xf_Un (Nat.le_of_ble_eq_true rfl) ⟨⟨dX6_startChange_4, dX6_startChange_7⟩, Or.inr ⟨dX6_startChange_8, dX6_startChange_11, dX6_startChange_14⟩⟩
theorem c_X6_startChange0 (l : Launch) (hst : l.stackTraces = false) (S : q_St) (i z : Nat) (hi : S 28 1 = nI i) (hi8 : i < 8) (hzz : S 28 2 = nI z) (hz8 : z ≤ 8) (hz : q_bool S 1) : q_Fxv l yX6_startChange kX6_startChange 6 1 [.ref 0, .int 0] S ((none, uH_keep S i z 1)) := by
  refine q_Fxv_of hst (maxL := 2) rfl (by decide +kernel) (fun ad => Nat.le_of_ble_eq_true rfl) (by decide) ?_
  intro K hX hC hret hTh hNw
  have C : q_Cx (q_Kw K 0) cX6_startChange RX6 6 2 := hC 0 (by decide)
  show q_V l (q_Kw K 0) 0 [(0, .ref 0), (1, .int 0)] [] S
  refine q_iload_n C dX6_startChange_0 rfl rfl ?_
  refine q_if_eq (tgt := 15) C dX6_startChange_1 (by decide) (fun _ => ?_) (fun h9 => absurd h9 (by decide))
  refine q_aload_n C dX6_startChange_15 rfl rfl ?_
  refine q_getR C flX6_25 q_s0 rfl dX6_startChange_16 ?_
  refine q_aload_n C dX6_startChange_19 rfl rfl ?_
  refine q_getR C flX6_10 q_s0 rfl dX6_startChange_20 ?_
  refine q_cv1 C (c_X2_keep l S i z hi hi8 hzz hz8 hz) myX2_keep mlX6_260 q_s28 ⟨by decide, by decide⟩ (Nat.le_of_ble_eq_true rfl) dX6_startChange_23 ?_
  exact hret 0 (by decide) _ _ _ dX6_startChange_26 rfl
theorem c_X6_requireMatter (l : Launch) (hst : l.stackTraces = false) (S : q_St) (x : Int32) : q_Fxv l yX6_requireMatter kX6_requireMatter 6 1 [.ref 0, .int x] S (if 0 ≤ x ∧ x < S 1 0 then (none, S) else (some xENs, S)) := by
  refine q_Fxv_of hst (maxL := 2) rfl (by decide +kernel) (fun ad => Nat.le_of_ble_eq_true rfl) (by decide) ?_
  intro K hX hC hret hTh hNw
  have C : q_Cx (q_Kw K 0) cX6_requireMatter RX6 6 2 := hC 0 (by decide)
  show q_V l (q_Kw K 0) 0 [(0, .ref 0), (1, .int x)] [] S
  refine q_aload_n C dX6_requireMatter_0 rfl rfl ?_
  refine q_getR C flX6_10 q_s0 rfl dX6_requireMatter_1 ?_
  refine q_iload_n C dX6_requireMatter_4 rfl rfl ?_
  by_cases h_5 : 0 ≤ x ∧ x < S 1 0
  · refine q_ci1 C (q_Fi.cv (if_pos h_5) (c_X1_hasMatter l S x)) myX1_hasMatter mlX6_323 q_s1 ⟨by decide, by decide⟩ (Nat.le_of_ble_eq_true rfl) dX6_requireMatter_5 ?_
    refine q_if_ne (tgt := 22) C dX6_requireMatter_8 (by decide) (fun _ => ?_) (fun h9 => absurd h9 (by decide))
    exact hret 0 (by decide) _ _ _ dX6_requireMatter_22 (by simp [xENs, if_pos h_5, h_5])
  · refine q_ci1 C (q_Fi.cv (if_neg h_5) (c_X1_hasMatter l S x)) myX1_hasMatter mlX6_323 q_s1 ⟨by decide, by decide⟩ (Nat.le_of_ble_eq_true rfl) dX6_requireMatter_5 ?_
    refine q_if_ne (tgt := 22) C dX6_requireMatter_8 (by decide) (fun h9 => absurd h9 (by decide)) (fun _ => ?_)
    exact hNw 0 (by decide) xENs _ (by simp [xENs, if_neg h_5, h_5]) _ 81 326 85 13 25 xr_13 "no such matter" _ _ xr_13_d rfl xk_Ns xi_Ns xa_Ns xf_Ns (Nat.le_of_ble_eq_true rfl) ⟨⟨dX6_requireMatter_11, dX6_requireMatter_14⟩, Or.inr ⟨dX6_requireMatter_15, dX6_requireMatter_18, dX6_requireMatter_21⟩⟩
theorem c_X6_requireGuild (l : Launch) (hst : l.stackTraces = false) (S : q_St) (x : Int32) : q_Fxv l yX6_requireGuild kX6_requireGuild 6 1 [.ref 0, .int x] S (if 0 ≤ x ∧ x < 6 then (none, S) else (some xEIo, S)) := by
  refine q_Fxv_of hst (maxL := 2) rfl (by decide +kernel) (fun ad => Nat.le_of_ble_eq_true rfl) (by decide) ?_
  intro K hX hC hret hTh hNw
  have C : q_Cx (q_Kw K 0) cX6_requireGuild RX6 6 2 := hC 0 (by decide)
  show q_V l (q_Kw K 0) 0 [(0, .ref 0), (1, .int x)] [] S
  refine q_aload_n C dX6_requireGuild_0 rfl rfl ?_
  refine q_getR C flX6_10 q_s0 rfl dX6_requireGuild_1 ?_
  refine q_iload_n C dX6_requireGuild_4 rfl rfl ?_
  by_cases h_5 : 0 ≤ x ∧ x < 6
  · refine q_ci1 C (q_Fi.cv (if_pos h_5) (c_X1_hasGuild l S x)) myX1_hasGuild mlX6_77 q_s1 ⟨by decide, by decide⟩ (Nat.le_of_ble_eq_true rfl) dX6_requireGuild_5 ?_
    refine q_if_ne (tgt := 21) C dX6_requireGuild_8 (by decide) (fun _ => ?_) (fun h9 => absurd h9 (by decide))
    exact hret 0 (by decide) _ _ _ dX6_requireGuild_21 (by simp [xEIo, if_pos h_5, h_5])
  · refine q_ci1 C (q_Fi.cv (if_neg h_5) (c_X1_hasGuild l S x)) myX1_hasGuild mlX6_77 q_s1 ⟨by decide, by decide⟩ (Nat.le_of_ble_eq_true rfl) dX6_requireGuild_5 ?_
    refine q_if_ne (tgt := 21) C dX6_requireGuild_8 (by decide) (fun h9 => absurd h9 (by decide)) (fun _ => ?_)
    exact hNw 0 (by decide) xEIo _ (by simp [xEIo, if_neg h_5, h_5]) _ 204 83 208 7 13 xr_7 "no such guild" _ _ xr_7_d rfl xk_Io xi_Io xa_Io xf_Io (Nat.le_of_ble_eq_true rfl) ⟨⟨dX6_requireGuild_11, dX6_requireGuild_14⟩, Or.inl ⟨dX6_requireGuild_15, dX6_requireGuild_17, dX6_requireGuild_20⟩⟩
theorem c_X6_requireFromTo (l : Launch) (hst : l.stackTraces = false) (S : q_St) (x : Int32) (a : Int32) (b : Int32) : q_Fxv l yX6_requireFromTo kX6_requireFromTo 6 1 [.ref 0, .int x, .int a, .int b] S (if a ≤ x ∧ x ≤ b then (none, S) else (some xEIa, S)) := by
  refine q_Fxv_of hst (maxL := 4) rfl (by decide +kernel) (fun ad => Nat.le_of_ble_eq_true rfl) (by decide) ?_
  intro K hX hC hret hTh hNw
  have C : q_Cx (q_Kw K 0) cX6_requireFromTo RX6 6 4 := hC 0 (by decide)
  show q_V l (q_Kw K 0) 0 [(0, .ref 0), (1, .int x), (2, .int a), (3, .int b)] [] S
  refine q_iload_n C dX6_requireFromTo_0 rfl rfl ?_
  refine q_iload_n C dX6_requireFromTo_1 rfl rfl ?_
  refine q_icmp_lt (tgt := 10) C dX6_requireFromTo_2 (by decide)  (fun c_2 => ?_) (fun c_2 => ?_)
  · exact hNw 0 (by decide) xEIa _ (by simp [xEIa, c_2, Int32.not_le.mpr c_2, if_pos c_2]) _ 241 328 245 7 26 xr_7 "out of range" _ _ xr_7_d rfl xk_Ia xi_Ia xa_Ia xf_Ia (Nat.le_of_ble_eq_true rfl) ⟨⟨dX6_requireFromTo_10, dX6_requireFromTo_13⟩, Or.inr ⟨dX6_requireFromTo_14, dX6_requireFromTo_17, dX6_requireFromTo_20⟩⟩
  · refine q_iload_n C dX6_requireFromTo_5 rfl rfl ?_
    refine q_iload_n C dX6_requireFromTo_6 rfl rfl ?_
    refine q_icmp_le (tgt := 21) C dX6_requireFromTo_7 (by decide)  (fun c_7 => ?_) (fun c_7 => ?_)
    · exact hret 0 (by decide) _ _ _ dX6_requireFromTo_21 (by simp [xEIa, c_2, Int32.not_lt.mpr c_2, if_neg (Int32.not_lt.mpr c_2), c_7, Int32.not_lt.mpr c_7, if_neg (Int32.not_lt.mpr c_7)])
    · exact hNw 0 (by decide) xEIa _ (by simp [xEIa, c_2, Int32.not_lt.mpr c_2, if_neg (Int32.not_lt.mpr c_2), c_7, Int32.not_le.mpr c_7, if_pos c_7]) _ 241 328 245 7 26 xr_7 "out of range" _ _ xr_7_d rfl xk_Ia xi_Ia xa_Ia xf_Ia (Nat.le_of_ble_eq_true rfl) ⟨⟨dX6_requireFromTo_10, dX6_requireFromTo_13⟩, Or.inr ⟨dX6_requireFromTo_14, dX6_requireFromTo_17, dX6_requireFromTo_20⟩⟩
theorem c_X6_matter (l : Launch) (hst : l.stackTraces = false) (S : q_St) (M : Nat) (hM : S 1 0 = nI M) (hM8 : M ≤ 8) (i z : Nat) (hi : S 28 1 = nI i) (hi8 : i < 8) (hzz : S 28 2 = nI z) (hz8 : z ≤ 8) (hz : q_bool S 1) : q_Fx l yX6_matter kX6_matter 7 6 [.ref 0] S (uG_matter S M i z) := by
  refine q_Fx_of hst (maxL := 1) rfl (by decide +kernel) (fun ad => Nat.le_of_ble_eq_true rfl) (fun _ _ _ => rfl) (by decide) ?_
  intro K hX hC hret hTh hNw
  have C : q_Cx (q_Kw K 0) cX6_matter RX6 7 1 := hC 0 (by decide)
  show q_V l (q_Kw K 0) 0 [(0, .ref 0)] [] S
  refine q_aload_n C dX6_matter_0 rfl rfl ?_
  refine q_aload_n C dX6_matter_1 rfl rfl ?_
  refine q_getR C flX6_34 q_s0 rfl dX6_matter_2 ?_
  cases ho : uR_matter M with
  | none =>
    refine q_ci0 C (q_Fi.cs (v' := 0) (S3 := S) (by rw [ho]; rfl) (by rw [ho]; rfl) (c_X5_refusesMatter l S M hM hM8)) myX5_refusesMatter mlX6_61 q_s102 ⟨by decide, by decide⟩ (Nat.le_of_ble_eq_true rfl) dX6_matter_5 ?_
    refine q_xv1 hX (hC 0 (by decide)) (hC 1 (by decide)) (c_X6_startChange0 l hst S i z hi hi8 hzz hz8 hz) myX6_startChange mlX6_65 q_s0 ⟨by decide, by decide⟩ (Nat.le_of_ble_eq_true rfl) dX6_matter_8 (fun E9 h9 => nomatch h9) (fun h9 => ?_)
    have C := hC 1 (by decide)
    obtain ⟨T, hT9⟩ : ∃ T, T = uH_keep S i z 1 := ⟨_, rfl⟩
    rw [← hT9]
    have hk9 : ∀ k, k < 28 → T k = S k := fun k h => by {rw [hT9]; exact uH_keep_k S i z 1 k (Or.inl h) hi8}
    have hM_T : T 1 0 = nI M := by {rw [hk9 1 (by decide)]; exact hM}
    have hM7 : M < 8 := Nat.lt_of_not_le (fun q => by simp [uR_matter, q] at ho)
    refine q_aload_n C dX6_matter_11 rfl rfl ?_
    refine q_getR C flX6_10 q_s0 rfl dX6_matter_12 ?_
    refine q_ci0 C (q_Fi.cv hM_T (c_X1_makeMatter l T M hM_T hM8 hM7)) myX1_makeMatter mlX6_69 q_s1 ⟨by decide, by decide⟩ (Nat.le_of_ble_eq_true rfl) dX6_matter_15 ?_
    exact hret 1 (by decide) _ _ _ _ dX6_matter_18 (by subst hT9; simp [uG_matter, uG_req, ho])
  | some q =>
    refine q_ci0 C (q_Fi.cs (v' := 1) (S3 := (uR_set S q.1 q.2)) (by rw [ho]; rfl) (by rw [ho]; rfl) (c_X5_refusesMatter l S M hM hM8)) myX5_refusesMatter mlX6_61 q_s102 ⟨by decide, by decide⟩ (Nat.le_of_ble_eq_true rfl) dX6_matter_5 ?_
    refine q_xv1 hX (hC 0 (by decide)) (hC 1 (by decide)) (c_X6_startChange1 l hst (uR_set S q.1 q.2)) myX6_startChange mlX6_65 q_s0 ⟨by decide, by decide⟩ (Nat.le_of_ble_eq_true rfl) dX6_matter_8 (fun E9 h9 => ?_) (fun h9 => nomatch h9)
    cases h9
    exact hTh 1 (by decide) _ _ (by simp [uG_matter, uG_req, ho])
theorem c_X6_set (l : Launch) (hst : l.stackTraces = false) (S : q_St) (M : Nat) (hM : S 1 0 = nI M) (hM8 : M ≤ 8) (i z : Nat) (hi : S 28 1 = nI i) (hi8 : i < 8) (hzz : S 28 2 = nI z) (hz8 : z ≤ 8) (x : Int32) (y : Int32) (a : Int32) (hz : q_bool S 1) : q_Fx l yX6_set kX6_set 7 6 [.ref 0, .int x, .int y, .int a] S (uG_set S i z x y a) := by
  refine q_Fx_of hst (maxL := 4) rfl (by decide +kernel) (fun ad => Nat.le_of_ble_eq_true rfl) (fun _ _ _ => rfl) (by decide) ?_
  intro K hX hC hret hTh hNw
  have C : q_Cx (q_Kw K 0) cX6_set RX6 7 4 := hC 0 (by decide)
  show q_V l (q_Kw K 0) 0 [(0, .ref 0), (1, .int x), (2, .int y), (3, .int a)] [] S
  refine q_aload_n C dX6_set_0 rfl rfl ?_
  refine q_iload_n C dX6_set_1 rfl rfl ?_
  by_cases h_2 : 0 ≤ x ∧ x < S 1 0
  · refine q_xv1 hX (hC 0 (by decide)) (hC 1 (by decide)) ((c_X6_requireMatter l hst S x).cs (if_pos h_2)) myX6_requireMatter mlX6_73 q_s0 ⟨by decide, by decide⟩ (Nat.le_of_ble_eq_true rfl) dX6_set_2 (fun E9 h9 => nomatch h9) (fun h9 => ?_)
    have C := hC 1 (by decide)
    obtain ⟨m, hmM, rfl⟩ := uK_okM hM hM8 h_2
    refine q_aload_n C dX6_set_5 rfl rfl ?_
    refine q_getR C flX6_10 q_s0 rfl dX6_set_6 ?_
    refine q_iload_n C dX6_set_9 rfl rfl ?_
    by_cases h_10 : 0 ≤ y ∧ y < 6
    · refine q_ci1 C (q_Fi.cv (if_pos h_10) (c_X1_hasGuild l S y)) myX1_hasGuild mlX6_77 q_s1 ⟨by decide, by decide⟩ (Nat.le_of_ble_eq_true rfl) dX6_set_10 ?_
      refine q_if_ne (tgt := 26) C dX6_set_13 (by decide) (fun _ => ?_) (fun h9 => absurd h9 (by decide))
      obtain ⟨g, hg6, rfl⟩ := uK_okG h_10
      refine q_aload_n C dX6_set_26 rfl rfl ?_
      refine q_iload_n C dX6_set_27 rfl rfl ?_
      refine q_bipush (v := (-50)) C dX6_set_28 (by decide) ?_
      refine q_bipush (v := 50) C dX6_set_30 (by decide) ?_
      by_cases h_32 : (-50) ≤ a ∧ a ≤ 50
      · refine q_xv3 hX (hC 1 (by decide)) (hC 2 (by decide)) ((c_X6_requireFromTo l hst S a (-50) 50).cs (if_pos h_32)) myX6_requireFromTo mlX6_88 q_s0 ⟨by decide, by decide⟩ (Nat.le_of_ble_eq_true rfl) dX6_set_32 (fun E9 h9 => nomatch h9) (fun h9 => ?_)
        have C := hC 2 (by decide)
        refine q_aload_n C dX6_set_35 rfl rfl ?_
        refine q_aload_n C dX6_set_36 rfl rfl ?_
        refine q_getR C flX6_34 q_s0 rfl dX6_set_37 ?_
        refine q_iload_n C dX6_set_40 rfl rfl ?_
        refine q_iload_n C dX6_set_41 rfl rfl ?_
        refine q_iload_n C dX6_set_42 rfl rfl ?_
        cases ho : uR_setA S m g a with
        | none =>
          refine q_ci3 C (q_Fi.cs (v' := 0) (S3 := S) (by rw [ho]; rfl) (by rw [ho]; rfl) (c_X5_refusesSet l S m (by omega) g (by omega) a)) myX5_refusesSet mlX6_92 q_s102 ⟨by decide, by decide⟩ (Nat.le_of_ble_eq_true rfl) dX6_set_43 ?_
          refine q_xv1 hX (hC 2 (by decide)) (hC 3 (by decide)) (c_X6_startChange0 l hst S i z hi hi8 hzz hz8 hz) myX6_startChange mlX6_65 q_s0 ⟨by decide, by decide⟩ (Nat.le_of_ble_eq_true rfl) dX6_set_46 (fun E9 h9 => nomatch h9) (fun h9 => ?_)
          have C := hC 3 (by decide)
          obtain ⟨T, hT9⟩ : ∃ T, T = uH_keep S i z 1 := ⟨_, rfl⟩
          rw [← hT9]
          have hk9 : ∀ k, k < 28 → T k = S k := fun k h => by {rw [hT9]; exact uH_keep_k S i z 1 k (Or.inl h) hi8}
          have hM_T : T 1 0 = nI M := by {rw [hk9 1 (by decide)]; exact hM}
          refine q_aload_n C dX6_set_49 rfl rfl ?_
          refine q_getR C flX6_10 q_s0 rfl dX6_set_50 ?_
          refine q_iload_n C dX6_set_53 rfl rfl ?_
          refine q_iload_n C dX6_set_54 rfl rfl ?_
          refine q_iload_n C dX6_set_55 rfl rfl ?_
          refine q_ci3 C (c_X1_setAmount l T m (by omega) g (by omega) a) myX1_setAmount mlX6_96 q_s1 ⟨by decide, by decide⟩ (Nat.le_of_ble_eq_true rfl) dX6_set_56 ?_
          exact hret 3 (by decide) _ _ _ _ dX6_set_59 (by subst hT9; simp [uG_set, uG_req, if_pos h_2, h_2, uN_nI (show m < 2 ^ 31 by omega), if_pos h_10, h_10, uN_nI (show g < 2 ^ 31 by omega), if_pos h_32, h_32, ho])
        | some q =>
          refine q_ci3 C (q_Fi.cs (v' := 1) (S3 := (uR_set S q.1 q.2)) (by rw [ho]; rfl) (by rw [ho]; rfl) (c_X5_refusesSet l S m (by omega) g (by omega) a)) myX5_refusesSet mlX6_92 q_s102 ⟨by decide, by decide⟩ (Nat.le_of_ble_eq_true rfl) dX6_set_43 ?_
          refine q_xv1 hX (hC 2 (by decide)) (hC 3 (by decide)) (c_X6_startChange1 l hst (uR_set S q.1 q.2)) myX6_startChange mlX6_65 q_s0 ⟨by decide, by decide⟩ (Nat.le_of_ble_eq_true rfl) dX6_set_46 (fun E9 h9 => ?_) (fun h9 => nomatch h9)
          cases h9
          exact hTh 3 (by decide) _ _ (by simp [uG_set, uG_req, if_pos h_2, h_2, uN_nI (show m < 2 ^ 31 by omega), if_pos h_10, h_10, uN_nI (show g < 2 ^ 31 by omega), if_pos h_32, h_32, ho])
      · refine q_xv3 hX (hC 1 (by decide)) (hC 2 (by decide)) ((c_X6_requireFromTo l hst S a (-50) 50).cs (if_neg h_32)) myX6_requireFromTo mlX6_88 q_s0 ⟨by decide, by decide⟩ (Nat.le_of_ble_eq_true rfl) dX6_set_32 (fun E9 h9 => ?_) (fun h9 => nomatch h9)
        cases h9
        exact hTh 2 (by decide) _ _ (by simp [uG_set, uG_req, if_pos h_2, h_2, uN_nI (show m < 2 ^ 31 by omega), if_pos h_10, h_10, uN_nI (show g < 2 ^ 31 by omega), if_neg h_32, h_32])
    · refine q_ci1 C (q_Fi.cv (if_neg h_10) (c_X1_hasGuild l S y)) myX1_hasGuild mlX6_77 q_s1 ⟨by decide, by decide⟩ (Nat.le_of_ble_eq_true rfl) dX6_set_10 ?_
      refine q_if_ne (tgt := 26) C dX6_set_13 (by decide) (fun h9 => absurd h9 (by decide)) (fun _ => ?_)
      exact hNw 1 (by decide) xENs _ (by simp [uG_set, uG_req, if_pos h_2, h_2, uN_nI (show m < 2 ^ 31 by omega), if_neg h_10, h_10]) _ 81 83 85 13 13 xr_13 "no such guild" _ _ xr_13_d rfl xk_Ns xi_Ns xa_Ns xf_Ns (Nat.le_of_ble_eq_true rfl) ⟨⟨dX6_set_16, dX6_set_19⟩, Or.inl ⟨dX6_set_20, dX6_set_22, dX6_set_25⟩⟩
  · refine q_xv1 hX (hC 0 (by decide)) (hC 1 (by decide)) ((c_X6_requireMatter l hst S x).cs (if_neg h_2)) myX6_requireMatter mlX6_73 q_s0 ⟨by decide, by decide⟩ (Nat.le_of_ble_eq_true rfl) dX6_set_2 (fun E9 h9 => ?_) (fun h9 => nomatch h9)
    cases h9
    exact hTh 1 (by decide) _ _ (by simp [uG_set, uG_req, if_neg h_2, h_2])
theorem c_X6_matterOf (l : Launch) (hst : l.stackTraces = false) (S : q_St) (M : Nat) (hM : S 1 0 = nI M) (hM8 : M ≤ 8) (x : Int32) (v : Int32) : q_Fx l yX6_matterOf kX6_matterOf 7 6 [.ref 0, .int x, .int v] S (uG_matterOf S x v) := by
  refine q_Fx_of hst (maxL := 3) rfl (by decide +kernel) (fun ad => Nat.le_of_ble_eq_true rfl) (fun _ _ _ => rfl) (by decide) ?_
  intro K hX hC hret hTh hNw
  have C : q_Cx (q_Kw K 0) cX6_matterOf RX6 7 3 := hC 0 (by decide)
  show q_V l (q_Kw K 0) 0 [(0, .ref 0), (1, .int x), (2, .int v)] [] S
  refine q_aload_n C dX6_matterOf_0 rfl rfl ?_
  refine q_iload_n C dX6_matterOf_1 rfl rfl ?_
  by_cases h_2 : 0 ≤ x ∧ x < S 1 0
  · refine q_xv1 hX (hC 0 (by decide)) (hC 1 (by decide)) ((c_X6_requireMatter l hst S x).cs (if_pos h_2)) myX6_requireMatter mlX6_73 q_s0 ⟨by decide, by decide⟩ (Nat.le_of_ble_eq_true rfl) dX6_matterOf_2 (fun E9 h9 => nomatch h9) (fun h9 => ?_)
    have C := hC 1 (by decide)
    obtain ⟨m, hmM, rfl⟩ := uK_okM hM hM8 h_2
    refine q_aload_n C dX6_matterOf_5 rfl rfl ?_
    refine q_iload_n C dX6_matterOf_6 rfl rfl ?_
    refine q_iconst (v := 0) C dX6_matterOf_7 (by decide) ?_
    refine q_bipush (v := 7) C dX6_matterOf_8 (by decide) ?_
    by_cases h_10 : 0 ≤ v ∧ v ≤ 7
    · refine q_xv3 hX (hC 1 (by decide)) (hC 2 (by decide)) ((c_X6_requireFromTo l hst S v 0 7).cs (if_pos h_10)) myX6_requireFromTo mlX6_88 q_s0 ⟨by decide, by decide⟩ (Nat.le_of_ble_eq_true rfl) dX6_matterOf_10 (fun E9 h9 => nomatch h9) (fun h9 => ?_)
      have C := hC 2 (by decide)
      obtain ⟨w, hw9, rfl⟩ := uM_okK (M := 8) rfl (by omega) h_10
      refine q_aload_n C dX6_matterOf_13 rfl rfl ?_
      refine q_getR C flX6_10 q_s0 rfl dX6_matterOf_14 ?_
      refine q_iload_n C dX6_matterOf_17 rfl rfl ?_
      refine q_iload_n C dX6_matterOf_18 rfl rfl ?_
      refine q_ci2 C (c_X1_numberOfMatter l S m (by omega) w (by omega)) myX1_numberOfMatter mlX6_100 q_s1 ⟨by decide, by decide⟩ (Nat.le_of_ble_eq_true rfl) dX6_matterOf_19 ?_
      exact hret 2 (by decide) _ _ _ _ dX6_matterOf_22 (by simp [uG_matterOf, uG_req, if_pos h_2, h_2, uN_nI (show m < 2 ^ 31 by omega), if_pos h_10, h_10, uN_nI (show w < 2 ^ 31 by omega)])
    · refine q_xv3 hX (hC 1 (by decide)) (hC 2 (by decide)) ((c_X6_requireFromTo l hst S v 0 7).cs (if_neg h_10)) myX6_requireFromTo mlX6_88 q_s0 ⟨by decide, by decide⟩ (Nat.le_of_ble_eq_true rfl) dX6_matterOf_10 (fun E9 h9 => ?_) (fun h9 => nomatch h9)
      cases h9
      exact hTh 2 (by decide) _ _ (by simp [uG_matterOf, uG_req, if_pos h_2, h_2, uN_nI (show m < 2 ^ 31 by omega), if_neg h_10, h_10])
  · refine q_xv1 hX (hC 0 (by decide)) (hC 1 (by decide)) ((c_X6_requireMatter l hst S x).cs (if_neg h_2)) myX6_requireMatter mlX6_73 q_s0 ⟨by decide, by decide⟩ (Nat.le_of_ble_eq_true rfl) dX6_matterOf_2 (fun E9 h9 => ?_) (fun h9 => nomatch h9)
    cases h9
    exact hTh 1 (by decide) _ _ (by simp [uG_matterOf, uG_req, if_neg h_2, h_2])
theorem c_X6_answer (l : Launch) (hst : l.stackTraces = false) (S : q_St) (M : Nat) (hM : S 1 0 = nI M) (hM8 : M ≤ 8) (x : Int32) (y : Int32) : q_Fx l yX6_answer kX6_answer 7 6 [.ref 0, .int x, .int y] S (uG_answer S x y) := by
  refine q_Fx_of hst (maxL := 3) rfl (by decide +kernel) (fun ad => Nat.le_of_ble_eq_true rfl) (fun _ _ _ => rfl) (by decide) ?_
  intro K hX hC hret hTh hNw
  have C : q_Cx (q_Kw K 0) cX6_answer RX6 7 3 := hC 0 (by decide)
  show q_V l (q_Kw K 0) 0 [(0, .ref 0), (1, .int x), (2, .int y)] [] S
  refine q_aload_n C dX6_answer_0 rfl rfl ?_
  refine q_iload_n C dX6_answer_1 rfl rfl ?_
  by_cases h_2 : 0 ≤ x ∧ x < S 1 0
  · refine q_xv1 hX (hC 0 (by decide)) (hC 1 (by decide)) ((c_X6_requireMatter l hst S x).cs (if_pos h_2)) myX6_requireMatter mlX6_73 q_s0 ⟨by decide, by decide⟩ (Nat.le_of_ble_eq_true rfl) dX6_answer_2 (fun E9 h9 => nomatch h9) (fun h9 => ?_)
    have C := hC 1 (by decide)
    obtain ⟨m, hmM, rfl⟩ := uK_okM hM hM8 h_2
    refine q_aload_n C dX6_answer_5 rfl rfl ?_
    refine q_iload_n C dX6_answer_6 rfl rfl ?_
    by_cases h_7 : 0 ≤ y ∧ y < 6
    · refine q_xv1 hX (hC 1 (by decide)) (hC 2 (by decide)) ((c_X6_requireGuild l hst S y).cs (if_pos h_7)) myX6_requireGuild mlX6_104 q_s0 ⟨by decide, by decide⟩ (Nat.le_of_ble_eq_true rfl) dX6_answer_7 (fun E9 h9 => nomatch h9) (fun h9 => ?_)
      have C := hC 2 (by decide)
      obtain ⟨g, hg6, rfl⟩ := uK_okG h_7
      refine q_aload_n C dX6_answer_10 rfl rfl ?_
      refine q_getR C flX6_10 q_s0 rfl dX6_answer_11 ?_
      refine q_iload_n C dX6_answer_14 rfl rfl ?_
      refine q_iload_n C dX6_answer_15 rfl rfl ?_
      by_cases h_16 : S 5 (m * 6 + g) ≠ 0
      · refine q_ci2 C (q_Fi.cv (if_pos h_16) (c_X1_isGuildOf l S m (by omega) g (by omega))) myX1_isGuildOf mlX6_107 q_s1 ⟨by decide, by decide⟩ (Nat.le_of_ble_eq_true rfl) dX6_answer_16 ?_
        refine q_if_eq (tgt := 34) C dX6_answer_19 (by decide) (fun h9 => absurd h9 (by decide)) (fun _ => ?_)
        refine q_aload_n C dX6_answer_22 rfl rfl ?_
        refine q_getR C flX6_10 q_s0 rfl dX6_answer_23 ?_
        refine q_iload_n C dX6_answer_26 rfl rfl ?_
        refine q_iload_n C dX6_answer_27 rfl rfl ?_
        refine q_ci2 C (c_X1_answerOf l S m (by omega) g (by omega)) myX1_answerOf mlX6_111 q_s1 ⟨by decide, by decide⟩ (Nat.le_of_ble_eq_true rfl) dX6_answer_28 ?_
        refine q_goto (tgt := 35) C dX6_answer_31 (by decide) ?_
        exact hret 2 (by decide) _ _ _ _ dX6_answer_35 (by simp [uG_answer, uG_req, if_pos h_2, h_2, uN_nI (show m < 2 ^ 31 by omega), if_pos h_7, h_7, uN_nI (show g < 2 ^ 31 by omega), if_pos h_16, h_16])
      · refine q_ci2 C (q_Fi.cv (if_neg h_16) (c_X1_isGuildOf l S m (by omega) g (by omega))) myX1_isGuildOf mlX6_107 q_s1 ⟨by decide, by decide⟩ (Nat.le_of_ble_eq_true rfl) dX6_answer_16 ?_
        refine q_if_eq (tgt := 34) C dX6_answer_19 (by decide) (fun _ => ?_) (fun h9 => absurd h9 (by decide))
        refine q_iconst (v := (-1)) C dX6_answer_34 (by decide) ?_
        exact hret 2 (by decide) _ _ _ _ dX6_answer_35 (by simp [uG_answer, uG_req, if_pos h_2, h_2, uN_nI (show m < 2 ^ 31 by omega), if_pos h_7, h_7, uN_nI (show g < 2 ^ 31 by omega), if_neg h_16, h_16, Decidable.not_not.mp h_16])
    · refine q_xv1 hX (hC 1 (by decide)) (hC 2 (by decide)) ((c_X6_requireGuild l hst S y).cs (if_neg h_7)) myX6_requireGuild mlX6_104 q_s0 ⟨by decide, by decide⟩ (Nat.le_of_ble_eq_true rfl) dX6_answer_7 (fun E9 h9 => ?_) (fun h9 => nomatch h9)
      cases h9
      exact hTh 2 (by decide) _ _ (by simp [uG_answer, uG_req, if_pos h_2, h_2, uN_nI (show m < 2 ^ 31 by omega), if_neg h_7, h_7])
  · refine q_xv1 hX (hC 0 (by decide)) (hC 1 (by decide)) ((c_X6_requireMatter l hst S x).cs (if_neg h_2)) myX6_requireMatter mlX6_73 q_s0 ⟨by decide, by decide⟩ (Nat.le_of_ble_eq_true rfl) dX6_answer_2 (fun E9 h9 => ?_) (fun h9 => nomatch h9)
    cases h9
    exact hTh 1 (by decide) _ _ (by simp [uG_answer, uG_req, if_neg h_2, h_2])
theorem c_X6_amount (l : Launch) (hst : l.stackTraces = false) (S : q_St) (M : Nat) (hM : S 1 0 = nI M) (hM8 : M ≤ 8) (x : Int32) (y : Int32) : q_Fx l yX6_amount kX6_amount 7 6 [.ref 0, .int x, .int y] S (uG_amount S x y) := by
  refine q_Fx_of hst (maxL := 3) rfl (by decide +kernel) (fun ad => Nat.le_of_ble_eq_true rfl) (fun _ _ _ => rfl) (by decide) ?_
  intro K hX hC hret hTh hNw
  have C : q_Cx (q_Kw K 0) cX6_amount RX6 7 3 := hC 0 (by decide)
  show q_V l (q_Kw K 0) 0 [(0, .ref 0), (1, .int x), (2, .int y)] [] S
  refine q_aload_n C dX6_amount_0 rfl rfl ?_
  refine q_iload_n C dX6_amount_1 rfl rfl ?_
  by_cases h_2 : 0 ≤ x ∧ x < S 1 0
  · refine q_xv1 hX (hC 0 (by decide)) (hC 1 (by decide)) ((c_X6_requireMatter l hst S x).cs (if_pos h_2)) myX6_requireMatter mlX6_73 q_s0 ⟨by decide, by decide⟩ (Nat.le_of_ble_eq_true rfl) dX6_amount_2 (fun E9 h9 => nomatch h9) (fun h9 => ?_)
    have C := hC 1 (by decide)
    obtain ⟨m, hmM, rfl⟩ := uK_okM hM hM8 h_2
    refine q_aload_n C dX6_amount_5 rfl rfl ?_
    refine q_iload_n C dX6_amount_6 rfl rfl ?_
    by_cases h_7 : 0 ≤ y ∧ y < 6
    · refine q_xv1 hX (hC 1 (by decide)) (hC 2 (by decide)) ((c_X6_requireGuild l hst S y).cs (if_pos h_7)) myX6_requireGuild mlX6_104 q_s0 ⟨by decide, by decide⟩ (Nat.le_of_ble_eq_true rfl) dX6_amount_7 (fun E9 h9 => nomatch h9) (fun h9 => ?_)
      have C := hC 2 (by decide)
      obtain ⟨g, hg6, rfl⟩ := uK_okG h_7
      refine q_aload_n C dX6_amount_10 rfl rfl ?_
      refine q_getR C flX6_10 q_s0 rfl dX6_amount_11 ?_
      refine q_iload_n C dX6_amount_14 rfl rfl ?_
      refine q_iload_n C dX6_amount_15 rfl rfl ?_
      refine q_ci2 C (c_X1_amountOf l S m (by omega) g (by omega)) myX1_amountOf mlX6_114 q_s1 ⟨by decide, by decide⟩ (Nat.le_of_ble_eq_true rfl) dX6_amount_16 ?_
      exact hret 2 (by decide) _ _ _ _ dX6_amount_19 (by simp [uG_amount, uG_req, if_pos h_2, h_2, uN_nI (show m < 2 ^ 31 by omega), if_pos h_7, h_7, uN_nI (show g < 2 ^ 31 by omega)])
    · refine q_xv1 hX (hC 1 (by decide)) (hC 2 (by decide)) ((c_X6_requireGuild l hst S y).cs (if_neg h_7)) myX6_requireGuild mlX6_104 q_s0 ⟨by decide, by decide⟩ (Nat.le_of_ble_eq_true rfl) dX6_amount_7 (fun E9 h9 => ?_) (fun h9 => nomatch h9)
      cases h9
      exact hTh 2 (by decide) _ _ (by simp [uG_amount, uG_req, if_pos h_2, h_2, uN_nI (show m < 2 ^ 31 by omega), if_neg h_7, h_7])
  · refine q_xv1 hX (hC 0 (by decide)) (hC 1 (by decide)) ((c_X6_requireMatter l hst S x).cs (if_neg h_2)) myX6_requireMatter mlX6_73 q_s0 ⟨by decide, by decide⟩ (Nat.le_of_ble_eq_true rfl) dX6_amount_2 (fun E9 h9 => ?_) (fun h9 => nomatch h9)
    cases h9
    exact hTh 1 (by decide) _ _ (by simp [uG_amount, uG_req, if_neg h_2, h_2])
theorem c_X6_ask (l : Launch) (hst : l.stackTraces = false) (S : q_St) (M : Nat) (hM : S 1 0 = nI M) (hM8 : M ≤ 8) (i z : Nat) (hi : S 28 1 = nI i) (hi8 : i < 8) (hzz : S 28 2 = nI z) (hz8 : z ≤ 8) (x : Int32) (y : Int32) (hz : q_bool S 1) : q_Fx l yX6_ask kX6_ask 7 6 [.ref 0, .int x, .int y] S (uG_ask S M i z x y) := by
  refine q_Fx_of hst (maxL := 3) rfl (by decide +kernel) (fun ad => Nat.le_of_ble_eq_true rfl) (fun _ _ _ => rfl) (by decide) ?_
  intro K hX hC hret hTh hNw
  have C : q_Cx (q_Kw K 0) cX6_ask RX6 7 3 := hC 0 (by decide)
  show q_V l (q_Kw K 0) 0 [(0, .ref 0), (1, .int x), (2, .int y)] [] S
  refine q_aload_n C dX6_ask_0 rfl rfl ?_
  refine q_iload_n C dX6_ask_1 rfl rfl ?_
  by_cases h_2 : 0 ≤ x ∧ x < S 1 0
  · refine q_xv1 hX (hC 0 (by decide)) (hC 1 (by decide)) ((c_X6_requireMatter l hst S x).cs (if_pos h_2)) myX6_requireMatter mlX6_73 q_s0 ⟨by decide, by decide⟩ (Nat.le_of_ble_eq_true rfl) dX6_ask_2 (fun E9 h9 => nomatch h9) (fun h9 => ?_)
    have C := hC 1 (by decide)
    obtain ⟨m, hmM, rfl⟩ := uK_okM hM hM8 h_2
    refine q_aload_n C dX6_ask_5 rfl rfl ?_
    refine q_iload_n C dX6_ask_6 rfl rfl ?_
    by_cases h_7 : 0 ≤ y ∧ y < 6
    · refine q_xv1 hX (hC 1 (by decide)) (hC 2 (by decide)) ((c_X6_requireGuild l hst S y).cs (if_pos h_7)) myX6_requireGuild mlX6_104 q_s0 ⟨by decide, by decide⟩ (Nat.le_of_ble_eq_true rfl) dX6_ask_7 (fun E9 h9 => nomatch h9) (fun h9 => ?_)
      have C := hC 2 (by decide)
      obtain ⟨g, hg6, rfl⟩ := uK_okG h_7
      refine q_aload_n C dX6_ask_10 rfl rfl ?_
      refine q_aload_n C dX6_ask_11 rfl rfl ?_
      refine q_getR C flX6_34 q_s0 rfl dX6_ask_12 ?_
      refine q_iload_n C dX6_ask_15 rfl rfl ?_
      refine q_iload_n C dX6_ask_16 rfl rfl ?_
      cases ho : uR_ask S M m g with
      | none =>
        refine q_ci2 C (q_Fi.cs (v' := 0) (S3 := S) (by rw [ho]; rfl) (by rw [ho]; rfl) (c_X5_refusesAsk l S M hM hM8 m (by omega) g (by omega))) myX5_refusesAsk mlX6_117 q_s102 ⟨by decide, by decide⟩ (Nat.le_of_ble_eq_true rfl) dX6_ask_17 ?_
        refine q_xv1 hX (hC 2 (by decide)) (hC 3 (by decide)) (c_X6_startChange0 l hst S i z hi hi8 hzz hz8 hz) myX6_startChange mlX6_65 q_s0 ⟨by decide, by decide⟩ (Nat.le_of_ble_eq_true rfl) dX6_ask_20 (fun E9 h9 => nomatch h9) (fun h9 => ?_)
        have C := hC 3 (by decide)
        obtain ⟨T, hT9⟩ : ∃ T, T = uH_keep S i z 1 := ⟨_, rfl⟩
        rw [← hT9]
        have hk9 : ∀ k, k < 28 → T k = S k := fun k h => by {rw [hT9]; exact uH_keep_k S i z 1 k (Or.inl h) hi8}
        have hM_T : T 1 0 = nI M := by {rw [hk9 1 (by decide)]; exact hM}
        refine q_aload_n C dX6_ask_23 rfl rfl ?_
        refine q_getR C flX6_10 q_s0 rfl dX6_ask_24 ?_
        refine q_iload_n C dX6_ask_27 rfl rfl ?_
        refine q_iload_n C dX6_ask_28 rfl rfl ?_
        refine q_ci2 C (c_X1_askGuild l T M hM_T hM8 m (by omega) g (by omega)) myX1_askGuild mlX6_120 q_s1 ⟨by decide, by decide⟩ (Nat.le_of_ble_eq_true rfl) dX6_ask_29 ?_
        exact hret 3 (by decide) _ _ _ _ dX6_ask_32 (by subst hT9; simp [uG_ask, uG_req, if_pos h_2, h_2, uN_nI (show m < 2 ^ 31 by omega), if_pos h_7, h_7, uN_nI (show g < 2 ^ 31 by omega), ho])
      | some q =>
        refine q_ci2 C (q_Fi.cs (v' := 1) (S3 := (uR_set S q.1 q.2)) (by rw [ho]; rfl) (by rw [ho]; rfl) (c_X5_refusesAsk l S M hM hM8 m (by omega) g (by omega))) myX5_refusesAsk mlX6_117 q_s102 ⟨by decide, by decide⟩ (Nat.le_of_ble_eq_true rfl) dX6_ask_17 ?_
        refine q_xv1 hX (hC 2 (by decide)) (hC 3 (by decide)) (c_X6_startChange1 l hst (uR_set S q.1 q.2)) myX6_startChange mlX6_65 q_s0 ⟨by decide, by decide⟩ (Nat.le_of_ble_eq_true rfl) dX6_ask_20 (fun E9 h9 => ?_) (fun h9 => nomatch h9)
        cases h9
        exact hTh 3 (by decide) _ _ (by simp [uG_ask, uG_req, if_pos h_2, h_2, uN_nI (show m < 2 ^ 31 by omega), if_pos h_7, h_7, uN_nI (show g < 2 ^ 31 by omega), ho])
    · refine q_xv1 hX (hC 1 (by decide)) (hC 2 (by decide)) ((c_X6_requireGuild l hst S y).cs (if_neg h_7)) myX6_requireGuild mlX6_104 q_s0 ⟨by decide, by decide⟩ (Nat.le_of_ble_eq_true rfl) dX6_ask_7 (fun E9 h9 => ?_) (fun h9 => nomatch h9)
      cases h9
      exact hTh 2 (by decide) _ _ (by simp [uG_ask, uG_req, if_pos h_2, h_2, uN_nI (show m < 2 ^ 31 by omega), if_neg h_7, h_7])
  · refine q_xv1 hX (hC 0 (by decide)) (hC 1 (by decide)) ((c_X6_requireMatter l hst S x).cs (if_neg h_2)) myX6_requireMatter mlX6_73 q_s0 ⟨by decide, by decide⟩ (Nat.le_of_ble_eq_true rfl) dX6_ask_2 (fun E9 h9 => ?_) (fun h9 => nomatch h9)
    cases h9
    exact hTh 1 (by decide) _ _ (by simp [uG_ask, uG_req, if_neg h_2, h_2])
theorem c_X6_tell (l : Launch) (hst : l.stackTraces = false) (S : q_St) (M : Nat) (hM : S 1 0 = nI M) (hM8 : M ≤ 8) (i z : Nat) (hi : S 28 1 = nI i) (hi8 : i < 8) (hzz : S 28 2 = nI z) (hz8 : z ≤ 8) (x : Int32) (y : Int32) (hz : q_bool S 1) : q_Fx l yX6_tell kX6_tell 7 6 [.ref 0, .int x, .int y] S (uG_tell S M i z x y) := by
  refine q_Fx_of hst (maxL := 3) rfl (by decide +kernel) (fun ad => Nat.le_of_ble_eq_true rfl) (fun _ _ _ => rfl) (by decide) ?_
  intro K hX hC hret hTh hNw
  have C : q_Cx (q_Kw K 0) cX6_tell RX6 7 3 := hC 0 (by decide)
  show q_V l (q_Kw K 0) 0 [(0, .ref 0), (1, .int x), (2, .int y)] [] S
  refine q_aload_n C dX6_tell_0 rfl rfl ?_
  refine q_iload_n C dX6_tell_1 rfl rfl ?_
  by_cases h_2 : 0 ≤ x ∧ x < S 1 0
  · refine q_xv1 hX (hC 0 (by decide)) (hC 1 (by decide)) ((c_X6_requireMatter l hst S x).cs (if_pos h_2)) myX6_requireMatter mlX6_73 q_s0 ⟨by decide, by decide⟩ (Nat.le_of_ble_eq_true rfl) dX6_tell_2 (fun E9 h9 => nomatch h9) (fun h9 => ?_)
    have C := hC 1 (by decide)
    obtain ⟨m, hmM, rfl⟩ := uK_okM hM hM8 h_2
    refine q_aload_n C dX6_tell_5 rfl rfl ?_
    refine q_iload_n C dX6_tell_6 rfl rfl ?_
    by_cases h_7 : 0 ≤ y ∧ y < 6
    · refine q_xv1 hX (hC 1 (by decide)) (hC 2 (by decide)) ((c_X6_requireGuild l hst S y).cs (if_pos h_7)) myX6_requireGuild mlX6_104 q_s0 ⟨by decide, by decide⟩ (Nat.le_of_ble_eq_true rfl) dX6_tell_7 (fun E9 h9 => nomatch h9) (fun h9 => ?_)
      have C := hC 2 (by decide)
      obtain ⟨g, hg6, rfl⟩ := uK_okG h_7
      refine q_aload_n C dX6_tell_10 rfl rfl ?_
      refine q_aload_n C dX6_tell_11 rfl rfl ?_
      refine q_getR C flX6_34 q_s0 rfl dX6_tell_12 ?_
      refine q_iload_n C dX6_tell_15 rfl rfl ?_
      refine q_iload_n C dX6_tell_16 rfl rfl ?_
      cases ho : uR_tell S M m g with
      | none =>
        refine q_ci2 C (q_Fi.cs (v' := 0) (S3 := S) (by rw [ho]; rfl) (by rw [ho]; rfl) (c_X5_refusesTell l S M hM hM8 m (by omega) g (by omega))) myX5_refusesTell mlX6_130 q_s102 ⟨by decide, by decide⟩ (Nat.le_of_ble_eq_true rfl) dX6_tell_17 ?_
        refine q_xv1 hX (hC 2 (by decide)) (hC 3 (by decide)) (c_X6_startChange0 l hst S i z hi hi8 hzz hz8 hz) myX6_startChange mlX6_65 q_s0 ⟨by decide, by decide⟩ (Nat.le_of_ble_eq_true rfl) dX6_tell_20 (fun E9 h9 => nomatch h9) (fun h9 => ?_)
        have C := hC 3 (by decide)
        obtain ⟨T, hT9⟩ : ∃ T, T = uH_keep S i z 1 := ⟨_, rfl⟩
        rw [← hT9]
        have hk9 : ∀ k, k < 28 → T k = S k := fun k h => by {rw [hT9]; exact uH_keep_k S i z 1 k (Or.inl h) hi8}
        have hM_T : T 1 0 = nI M := by {rw [hk9 1 (by decide)]; exact hM}
        refine q_aload_n C dX6_tell_23 rfl rfl ?_
        refine q_getR C flX6_10 q_s0 rfl dX6_tell_24 ?_
        refine q_iload_n C dX6_tell_27 rfl rfl ?_
        refine q_iload_n C dX6_tell_28 rfl rfl ?_
        refine q_ci2 C (c_X1_tellGuild l T m (by omega) g (by omega)) myX1_tellGuild mlX6_133 q_s1 ⟨by decide, by decide⟩ (Nat.le_of_ble_eq_true rfl) dX6_tell_29 ?_
        exact hret 3 (by decide) _ _ _ _ dX6_tell_32 (by subst hT9; simp [uG_tell, uG_req, if_pos h_2, h_2, uN_nI (show m < 2 ^ 31 by omega), if_pos h_7, h_7, uN_nI (show g < 2 ^ 31 by omega), ho])
      | some q =>
        refine q_ci2 C (q_Fi.cs (v' := 1) (S3 := (uR_set S q.1 q.2)) (by rw [ho]; rfl) (by rw [ho]; rfl) (c_X5_refusesTell l S M hM hM8 m (by omega) g (by omega))) myX5_refusesTell mlX6_130 q_s102 ⟨by decide, by decide⟩ (Nat.le_of_ble_eq_true rfl) dX6_tell_17 ?_
        refine q_xv1 hX (hC 2 (by decide)) (hC 3 (by decide)) (c_X6_startChange1 l hst (uR_set S q.1 q.2)) myX6_startChange mlX6_65 q_s0 ⟨by decide, by decide⟩ (Nat.le_of_ble_eq_true rfl) dX6_tell_20 (fun E9 h9 => ?_) (fun h9 => nomatch h9)
        cases h9
        exact hTh 3 (by decide) _ _ (by simp [uG_tell, uG_req, if_pos h_2, h_2, uN_nI (show m < 2 ^ 31 by omega), if_pos h_7, h_7, uN_nI (show g < 2 ^ 31 by omega), ho])
    · refine q_xv1 hX (hC 1 (by decide)) (hC 2 (by decide)) ((c_X6_requireGuild l hst S y).cs (if_neg h_7)) myX6_requireGuild mlX6_104 q_s0 ⟨by decide, by decide⟩ (Nat.le_of_ble_eq_true rfl) dX6_tell_7 (fun E9 h9 => ?_) (fun h9 => nomatch h9)
      cases h9
      exact hTh 2 (by decide) _ _ (by simp [uG_tell, uG_req, if_pos h_2, h_2, uN_nI (show m < 2 ^ 31 by omega), if_neg h_7, h_7])
  · refine q_xv1 hX (hC 0 (by decide)) (hC 1 (by decide)) ((c_X6_requireMatter l hst S x).cs (if_neg h_2)) myX6_requireMatter mlX6_73 q_s0 ⟨by decide, by decide⟩ (Nat.le_of_ble_eq_true rfl) dX6_tell_2 (fun E9 h9 => ?_) (fun h9 => nomatch h9)
    cases h9
    exact hTh 1 (by decide) _ _ (by simp [uG_tell, uG_req, if_neg h_2, h_2])
theorem c_X6_faint (l : Launch) (hst : l.stackTraces = false) (S : q_St) (M : Nat) (hM : S 1 0 = nI M) (hM8 : M ≤ 8) (i z : Nat) (hi : S 28 1 = nI i) (hi8 : i < 8) (hzz : S 28 2 = nI z) (hz8 : z ≤ 8) (hz : q_bool S 1) : q_Fx l yX6_faint kX6_faint 7 6 [.ref 0] S (uG_faint S M i z) := by
  refine q_Fx_of hst (maxL := 1) rfl (by decide +kernel) (fun ad => Nat.le_of_ble_eq_true rfl) (fun _ _ _ => rfl) (by decide) ?_
  intro K hX hC hret hTh hNw
  have C : q_Cx (q_Kw K 0) cX6_faint RX6 7 1 := hC 0 (by decide)
  show q_V l (q_Kw K 0) 0 [(0, .ref 0)] [] S
  refine q_aload_n C dX6_faint_0 rfl rfl ?_
  refine q_aload_n C dX6_faint_1 rfl rfl ?_
  refine q_getR C flX6_34 q_s0 rfl dX6_faint_2 ?_
  cases ho : uR_fainted S M with
  | none =>
    refine q_ci0 C (q_Fi.cs (v' := 0) (S3 := S) (by rw [ho]; rfl) (by rw [ho]; rfl) (c_X5_refusesFaint l S M hM hM8)) myX5_refusesFaint mlX6_136 q_s102 ⟨by decide, by decide⟩ (Nat.le_of_ble_eq_true rfl) dX6_faint_5 ?_
    refine q_xv1 hX (hC 0 (by decide)) (hC 1 (by decide)) (c_X6_startChange0 l hst S i z hi hi8 hzz hz8 hz) myX6_startChange mlX6_65 q_s0 ⟨by decide, by decide⟩ (Nat.le_of_ble_eq_true rfl) dX6_faint_8 (fun E9 h9 => nomatch h9) (fun h9 => ?_)
    have C := hC 1 (by decide)
    obtain ⟨T, hT9⟩ : ∃ T, T = uH_keep S i z 1 := ⟨_, rfl⟩
    rw [← hT9]
    have hk9 : ∀ k, k < 28 → T k = S k := fun k h => by {rw [hT9]; exact uH_keep_k S i z 1 k (Or.inl h) hi8}
    have hM_T : T 1 0 = nI M := by {rw [hk9 1 (by decide)]; exact hM}
    refine q_aload_n C dX6_faint_11 rfl rfl ?_
    refine q_getR C flX6_10 q_s0 rfl dX6_faint_12 ?_
    refine q_ci0 C (c_X1_letHeraldFaint l T M hM_T hM8) myX1_letHeraldFaint mlX6_139 q_s1 ⟨by decide, by decide⟩ (Nat.le_of_ble_eq_true rfl) dX6_faint_15 ?_
    exact hret 1 (by decide) _ _ _ _ dX6_faint_18 (by subst hT9; simp [uG_faint, uG_req, ho])
  | some q =>
    refine q_ci0 C (q_Fi.cs (v' := 1) (S3 := (uR_set S q.1 q.2)) (by rw [ho]; rfl) (by rw [ho]; rfl) (c_X5_refusesFaint l S M hM hM8)) myX5_refusesFaint mlX6_136 q_s102 ⟨by decide, by decide⟩ (Nat.le_of_ble_eq_true rfl) dX6_faint_5 ?_
    refine q_xv1 hX (hC 0 (by decide)) (hC 1 (by decide)) (c_X6_startChange1 l hst (uR_set S q.1 q.2)) myX6_startChange mlX6_65 q_s0 ⟨by decide, by decide⟩ (Nat.le_of_ble_eq_true rfl) dX6_faint_8 (fun E9 h9 => ?_) (fun h9 => nomatch h9)
    cases h9
    exact hTh 1 (by decide) _ _ (by simp [uG_faint, uG_req, ho])
theorem c_X6_sleep (l : Launch) (hst : l.stackTraces = false) (S : q_St) (i z : Nat) (hi : S 28 1 = nI i) (hi8 : i < 8) (hzz : S 28 2 = nI z) (hz8 : z ≤ 8) (y : Int32) (hz : q_bool S 1) : q_Fx l yX6_sleep kX6_sleep 7 6 [.ref 0, .int y] S (uG_sleep S i z y) := by
  refine q_Fx_of hst (maxL := 2) rfl (by decide +kernel) (fun ad => Nat.le_of_ble_eq_true rfl) (fun _ _ _ => rfl) (by decide) ?_
  intro K hX hC hret hTh hNw
  have C : q_Cx (q_Kw K 0) cX6_sleep RX6 7 2 := hC 0 (by decide)
  show q_V l (q_Kw K 0) 0 [(0, .ref 0), (1, .int y)] [] S
  refine q_aload_n C dX6_sleep_0 rfl rfl ?_
  refine q_iload_n C dX6_sleep_1 rfl rfl ?_
  by_cases h_2 : 0 ≤ y ∧ y < 6
  · refine q_xv1 hX (hC 0 (by decide)) (hC 1 (by decide)) ((c_X6_requireGuild l hst S y).cs (if_pos h_2)) myX6_requireGuild mlX6_104 q_s0 ⟨by decide, by decide⟩ (Nat.le_of_ble_eq_true rfl) dX6_sleep_2 (fun E9 h9 => nomatch h9) (fun h9 => ?_)
    have C := hC 1 (by decide)
    obtain ⟨g, hg6, rfl⟩ := uK_okG h_2
    refine q_aload_n C dX6_sleep_5 rfl rfl ?_
    refine q_aload_n C dX6_sleep_6 rfl rfl ?_
    refine q_getR C flX6_34 q_s0 rfl dX6_sleep_7 ?_
    refine q_iload_n C dX6_sleep_10 rfl rfl ?_
    cases ho : uR_sleep S g with
    | none =>
      refine q_ci1 C (q_Fi.cs (v' := 0) (S3 := S) (by rw [ho]; rfl) (by rw [ho]; rfl) (c_X5_refusesSleep l S g (by omega))) myX5_refusesSleep mlX6_176 q_s102 ⟨by decide, by decide⟩ (Nat.le_of_ble_eq_true rfl) dX6_sleep_11 ?_
      refine q_xv1 hX (hC 1 (by decide)) (hC 2 (by decide)) (c_X6_startChange0 l hst S i z hi hi8 hzz hz8 hz) myX6_startChange mlX6_65 q_s0 ⟨by decide, by decide⟩ (Nat.le_of_ble_eq_true rfl) dX6_sleep_14 (fun E9 h9 => nomatch h9) (fun h9 => ?_)
      have C := hC 2 (by decide)
      obtain ⟨T, hT9⟩ : ∃ T, T = uH_keep S i z 1 := ⟨_, rfl⟩
      rw [← hT9]
      have hk9 : ∀ k, k < 28 → T k = S k := fun k h => by {rw [hT9]; exact uH_keep_k S i z 1 k (Or.inl h) hi8}
      refine q_aload_n C dX6_sleep_17 rfl rfl ?_
      refine q_getR C flX6_10 q_s0 rfl dX6_sleep_18 ?_
      refine q_iload_n C dX6_sleep_21 rfl rfl ?_
      refine q_iconst (v := 0) C dX6_sleep_22 (by decide) ?_
      refine q_ci2 C (c_X1_makeAwake0 l T g (by omega)) myX1_makeAwake mlX6_179 q_s1 ⟨by decide, by decide⟩ (Nat.le_of_ble_eq_true rfl) dX6_sleep_23 ?_
      exact hret 2 (by decide) _ _ _ _ dX6_sleep_26 (by subst hT9; simp [uG_sleep, uG_req, if_pos h_2, h_2, uN_nI (show g < 2 ^ 31 by omega), ho])
    | some q =>
      refine q_ci1 C (q_Fi.cs (v' := 1) (S3 := (uR_set S q.1 q.2)) (by rw [ho]; rfl) (by rw [ho]; rfl) (c_X5_refusesSleep l S g (by omega))) myX5_refusesSleep mlX6_176 q_s102 ⟨by decide, by decide⟩ (Nat.le_of_ble_eq_true rfl) dX6_sleep_11 ?_
      refine q_xv1 hX (hC 1 (by decide)) (hC 2 (by decide)) (c_X6_startChange1 l hst (uR_set S q.1 q.2)) myX6_startChange mlX6_65 q_s0 ⟨by decide, by decide⟩ (Nat.le_of_ble_eq_true rfl) dX6_sleep_14 (fun E9 h9 => ?_) (fun h9 => nomatch h9)
      cases h9
      exact hTh 2 (by decide) _ _ (by simp [uG_sleep, uG_req, if_pos h_2, h_2, uN_nI (show g < 2 ^ 31 by omega), ho])
  · refine q_xv1 hX (hC 0 (by decide)) (hC 1 (by decide)) ((c_X6_requireGuild l hst S y).cs (if_neg h_2)) myX6_requireGuild mlX6_104 q_s0 ⟨by decide, by decide⟩ (Nat.le_of_ble_eq_true rfl) dX6_sleep_2 (fun E9 h9 => ?_) (fun h9 => nomatch h9)
    cases h9
    exact hTh 1 (by decide) _ _ (by simp [uG_sleep, uG_req, if_neg h_2, h_2])
theorem c_X6_rouse (l : Launch) (hst : l.stackTraces = false) (S : q_St) (i z : Nat) (hi : S 28 1 = nI i) (hi8 : i < 8) (hzz : S 28 2 = nI z) (hz8 : z ≤ 8) (y : Int32) (hz : q_bool S 1) : q_Fx l yX6_rouse kX6_rouse 7 6 [.ref 0, .int y] S (uG_rouse S i z y) := by
  refine q_Fx_of hst (maxL := 2) rfl (by decide +kernel) (fun ad => Nat.le_of_ble_eq_true rfl) (fun _ _ _ => rfl) (by decide) ?_
  intro K hX hC hret hTh hNw
  have C : q_Cx (q_Kw K 0) cX6_rouse RX6 7 2 := hC 0 (by decide)
  show q_V l (q_Kw K 0) 0 [(0, .ref 0), (1, .int y)] [] S
  refine q_aload_n C dX6_rouse_0 rfl rfl ?_
  refine q_iload_n C dX6_rouse_1 rfl rfl ?_
  by_cases h_2 : 0 ≤ y ∧ y < 6
  · refine q_xv1 hX (hC 0 (by decide)) (hC 1 (by decide)) ((c_X6_requireGuild l hst S y).cs (if_pos h_2)) myX6_requireGuild mlX6_104 q_s0 ⟨by decide, by decide⟩ (Nat.le_of_ble_eq_true rfl) dX6_rouse_2 (fun E9 h9 => nomatch h9) (fun h9 => ?_)
    have C := hC 1 (by decide)
    obtain ⟨g, hg6, rfl⟩ := uK_okG h_2
    refine q_aload_n C dX6_rouse_5 rfl rfl ?_
    refine q_aload_n C dX6_rouse_6 rfl rfl ?_
    refine q_getR C flX6_34 q_s0 rfl dX6_rouse_7 ?_
    refine q_iload_n C dX6_rouse_10 rfl rfl ?_
    cases ho : uR_rouse S g with
    | none =>
      refine q_ci1 C (q_Fi.cs (v' := 0) (S3 := S) (by rw [ho]; rfl) (by rw [ho]; rfl) (c_X5_refusesRouse l S g (by omega) hz)) myX5_refusesRouse mlX6_183 q_s102 ⟨by decide, by decide⟩ (Nat.le_of_ble_eq_true rfl) dX6_rouse_11 ?_
      refine q_xv1 hX (hC 1 (by decide)) (hC 2 (by decide)) (c_X6_startChange0 l hst S i z hi hi8 hzz hz8 hz) myX6_startChange mlX6_65 q_s0 ⟨by decide, by decide⟩ (Nat.le_of_ble_eq_true rfl) dX6_rouse_14 (fun E9 h9 => nomatch h9) (fun h9 => ?_)
      have C := hC 2 (by decide)
      obtain ⟨T, hT9⟩ : ∃ T, T = uH_keep S i z 1 := ⟨_, rfl⟩
      rw [← hT9]
      have hk9 : ∀ k, k < 28 → T k = S k := fun k h => by {rw [hT9]; exact uH_keep_k S i z 1 k (Or.inl h) hi8}
      refine q_aload_n C dX6_rouse_17 rfl rfl ?_
      refine q_getR C flX6_10 q_s0 rfl dX6_rouse_18 ?_
      refine q_iload_n C dX6_rouse_21 rfl rfl ?_
      refine q_iconst (v := 1) C dX6_rouse_22 (by decide) ?_
      refine q_ci2 C (c_X1_makeAwake1 l T g (by omega)) myX1_makeAwake mlX6_179 q_s1 ⟨by decide, by decide⟩ (Nat.le_of_ble_eq_true rfl) dX6_rouse_23 ?_
      exact hret 2 (by decide) _ _ _ _ dX6_rouse_26 (by subst hT9; simp [uG_rouse, uG_req, if_pos h_2, h_2, uN_nI (show g < 2 ^ 31 by omega), ho])
    | some q =>
      refine q_ci1 C (q_Fi.cs (v' := 1) (S3 := (uR_set S q.1 q.2)) (by rw [ho]; rfl) (by rw [ho]; rfl) (c_X5_refusesRouse l S g (by omega) hz)) myX5_refusesRouse mlX6_183 q_s102 ⟨by decide, by decide⟩ (Nat.le_of_ble_eq_true rfl) dX6_rouse_11 ?_
      refine q_xv1 hX (hC 1 (by decide)) (hC 2 (by decide)) (c_X6_startChange1 l hst (uR_set S q.1 q.2)) myX6_startChange mlX6_65 q_s0 ⟨by decide, by decide⟩ (Nat.le_of_ble_eq_true rfl) dX6_rouse_14 (fun E9 h9 => ?_) (fun h9 => nomatch h9)
      cases h9
      exact hTh 2 (by decide) _ _ (by simp [uG_rouse, uG_req, if_pos h_2, h_2, uN_nI (show g < 2 ^ 31 by omega), ho])
  · refine q_xv1 hX (hC 0 (by decide)) (hC 1 (by decide)) ((c_X6_requireGuild l hst S y).cs (if_neg h_2)) myX6_requireGuild mlX6_104 q_s0 ⟨by decide, by decide⟩ (Nat.le_of_ble_eq_true rfl) dX6_rouse_2 (fun E9 h9 => ?_) (fun h9 => nomatch h9)
    cases h9
    exact hTh 1 (by decide) _ _ (by simp [uG_rouse, uG_req, if_neg h_2, h_2])
theorem c_X6_inquire (l : Launch) (hst : l.stackTraces = false) (S : q_St) (M : Nat) (hM : S 1 0 = nI M) (hM8 : M ≤ 8) (i z : Nat) (hi : S 28 1 = nI i) (hi8 : i < 8) (hzz : S 28 2 = nI z) (hz8 : z ≤ 8) (x : Int32) (y : Int32) (w : Int32) (hz : q_bool S 1) : q_Fx l yX6_inquire kX6_inquire 7 6 [.ref 0, .int x, .int y, .int w] S (uG_inq S i z x y w) := by
  refine q_Fx_of hst (maxL := 4) rfl (by decide +kernel) (fun ad => Nat.le_of_ble_eq_true rfl) (fun _ _ _ => rfl) (by decide) ?_
  intro K hX hC hret hTh hNw
  have C : q_Cx (q_Kw K 0) cX6_inquire RX6 7 4 := hC 0 (by decide)
  show q_V l (q_Kw K 0) 0 [(0, .ref 0), (1, .int x), (2, .int y), (3, .int w)] [] S
  refine q_aload_n C dX6_inquire_0 rfl rfl ?_
  refine q_iload_n C dX6_inquire_1 rfl rfl ?_
  by_cases h_2 : 0 ≤ x ∧ x < S 1 0
  · refine q_xv1 hX (hC 0 (by decide)) (hC 1 (by decide)) ((c_X6_requireMatter l hst S x).cs (if_pos h_2)) myX6_requireMatter mlX6_73 q_s0 ⟨by decide, by decide⟩ (Nat.le_of_ble_eq_true rfl) dX6_inquire_2 (fun E9 h9 => nomatch h9) (fun h9 => ?_)
    have C := hC 1 (by decide)
    obtain ⟨m, hmM, rfl⟩ := uK_okM hM hM8 h_2
    refine q_aload_n C dX6_inquire_5 rfl rfl ?_
    refine q_iload_n C dX6_inquire_6 rfl rfl ?_
    by_cases h_7 : 0 ≤ y ∧ y < 6
    · refine q_xv1 hX (hC 1 (by decide)) (hC 2 (by decide)) ((c_X6_requireGuild l hst S y).cs (if_pos h_7)) myX6_requireGuild mlX6_104 q_s0 ⟨by decide, by decide⟩ (Nat.le_of_ble_eq_true rfl) dX6_inquire_7 (fun E9 h9 => nomatch h9) (fun h9 => ?_)
      have C := hC 2 (by decide)
      obtain ⟨g, hg6, rfl⟩ := uK_okG h_7
      refine q_aload_n C dX6_inquire_10 rfl rfl ?_
      refine q_iload_n C dX6_inquire_11 rfl rfl ?_
      by_cases h_12 : 0 ≤ w ∧ w < 6
      · refine q_xv1 hX (hC 2 (by decide)) (hC 3 (by decide)) ((c_X6_requireGuild l hst S w).cs (if_pos h_12)) myX6_requireGuild mlX6_104 q_s0 ⟨by decide, by decide⟩ (Nat.le_of_ble_eq_true rfl) dX6_inquire_12 (fun E9 h9 => nomatch h9) (fun h9 => ?_)
        have C := hC 3 (by decide)
        obtain ⟨o, ho6, rfl⟩ := uK_okG h_12
        refine q_aload_n C dX6_inquire_15 rfl rfl ?_
        refine q_aload_n C dX6_inquire_16 rfl rfl ?_
        refine q_getR C flX6_34 q_s0 rfl dX6_inquire_17 ?_
        refine q_iload_n C dX6_inquire_20 rfl rfl ?_
        refine q_iload_n C dX6_inquire_21 rfl rfl ?_
        refine q_iload_n C dX6_inquire_22 rfl rfl ?_
        cases ho : uR_inq S m g o with
        | none =>
          refine q_ci3 C (q_Fi.cs (v' := 0) (S3 := S) (by rw [ho]; rfl) (by rw [ho]; rfl) (c_X5_refusesInquire l S m (by omega) g (by omega) o (by omega))) myX5_refusesInquire mlX6_186 q_s102 ⟨by decide, by decide⟩ (Nat.le_of_ble_eq_true rfl) dX6_inquire_23 ?_
          refine q_xv1 hX (hC 3 (by decide)) (hC 4 (by decide)) (c_X6_startChange0 l hst S i z hi hi8 hzz hz8 hz) myX6_startChange mlX6_65 q_s0 ⟨by decide, by decide⟩ (Nat.le_of_ble_eq_true rfl) dX6_inquire_26 (fun E9 h9 => nomatch h9) (fun h9 => ?_)
          have C := hC 4 (by decide)
          obtain ⟨T, hT9⟩ : ∃ T, T = uH_keep S i z 1 := ⟨_, rfl⟩
          rw [← hT9]
          have hk9 : ∀ k, k < 28 → T k = S k := fun k h => by {rw [hT9]; exact uH_keep_k S i z 1 k (Or.inl h) hi8}
          have hM_T : T 1 0 = nI M := by {rw [hk9 1 (by decide)]; exact hM}
          refine q_aload_n C dX6_inquire_29 rfl rfl ?_
          refine q_getR C flX6_10 q_s0 rfl dX6_inquire_30 ?_
          refine q_iload_n C dX6_inquire_33 rfl rfl ?_
          refine q_iload_n C dX6_inquire_34 rfl rfl ?_
          refine q_iload_n C dX6_inquire_35 rfl rfl ?_
          refine q_ci3 C (c_X1_inquireOf l T m (by omega) g (by omega) o (by omega)) myX1_inquireOf mlX6_189 q_s1 ⟨by decide, by decide⟩ (Nat.le_of_ble_eq_true rfl) dX6_inquire_36 ?_
          exact hret 4 (by decide) _ _ _ _ dX6_inquire_39 (by subst hT9; simp [uG_inq, uG_req, if_pos h_2, h_2, uN_nI (show m < 2 ^ 31 by omega), if_pos h_7, h_7, uN_nI (show g < 2 ^ 31 by omega), if_pos h_12, h_12, uN_nI (show o < 2 ^ 31 by omega), ho])
        | some q =>
          refine q_ci3 C (q_Fi.cs (v' := 1) (S3 := (uR_set S q.1 q.2)) (by rw [ho]; rfl) (by rw [ho]; rfl) (c_X5_refusesInquire l S m (by omega) g (by omega) o (by omega))) myX5_refusesInquire mlX6_186 q_s102 ⟨by decide, by decide⟩ (Nat.le_of_ble_eq_true rfl) dX6_inquire_23 ?_
          refine q_xv1 hX (hC 3 (by decide)) (hC 4 (by decide)) (c_X6_startChange1 l hst (uR_set S q.1 q.2)) myX6_startChange mlX6_65 q_s0 ⟨by decide, by decide⟩ (Nat.le_of_ble_eq_true rfl) dX6_inquire_26 (fun E9 h9 => ?_) (fun h9 => nomatch h9)
          cases h9
          exact hTh 4 (by decide) _ _ (by simp [uG_inq, uG_req, if_pos h_2, h_2, uN_nI (show m < 2 ^ 31 by omega), if_pos h_7, h_7, uN_nI (show g < 2 ^ 31 by omega), if_pos h_12, h_12, uN_nI (show o < 2 ^ 31 by omega), ho])
      · refine q_xv1 hX (hC 2 (by decide)) (hC 3 (by decide)) ((c_X6_requireGuild l hst S w).cs (if_neg h_12)) myX6_requireGuild mlX6_104 q_s0 ⟨by decide, by decide⟩ (Nat.le_of_ble_eq_true rfl) dX6_inquire_12 (fun E9 h9 => ?_) (fun h9 => nomatch h9)
        cases h9
        exact hTh 3 (by decide) _ _ (by simp [uG_inq, uG_req, if_pos h_2, h_2, uN_nI (show m < 2 ^ 31 by omega), if_pos h_7, h_7, uN_nI (show g < 2 ^ 31 by omega), if_neg h_12, h_12])
    · refine q_xv1 hX (hC 1 (by decide)) (hC 2 (by decide)) ((c_X6_requireGuild l hst S y).cs (if_neg h_7)) myX6_requireGuild mlX6_104 q_s0 ⟨by decide, by decide⟩ (Nat.le_of_ble_eq_true rfl) dX6_inquire_7 (fun E9 h9 => ?_) (fun h9 => nomatch h9)
      cases h9
      exact hTh 2 (by decide) _ _ (by simp [uG_inq, uG_req, if_pos h_2, h_2, uN_nI (show m < 2 ^ 31 by omega), if_neg h_7, h_7])
  · refine q_xv1 hX (hC 0 (by decide)) (hC 1 (by decide)) ((c_X6_requireMatter l hst S x).cs (if_neg h_2)) myX6_requireMatter mlX6_73 q_s0 ⟨by decide, by decide⟩ (Nat.le_of_ble_eq_true rfl) dX6_inquire_2 (fun E9 h9 => ?_) (fun h9 => nomatch h9)
    cases h9
    exact hTh 1 (by decide) _ _ (by simp [uG_inq, uG_req, if_neg h_2, h_2])
theorem c_X6_guildOf (l : Launch) (hst : l.stackTraces = false) (S : q_St) (M : Nat) (hM : S 1 0 = nI M) (hM8 : M ≤ 8) (y : Int32) (v : Int32) : q_Fx l yX6_guildOf kX6_guildOf 7 6 [.ref 0, .int y, .int v] S (uG_guildOf S M y v) := by
  refine q_Fx_of hst (maxL := 3) rfl (by decide +kernel) (fun ad => Nat.le_of_ble_eq_true rfl) (fun _ _ _ => rfl) (by decide) ?_
  intro K hX hC hret hTh hNw
  have C : q_Cx (q_Kw K 0) cX6_guildOf RX6 7 3 := hC 0 (by decide)
  show q_V l (q_Kw K 0) 0 [(0, .ref 0), (1, .int y), (2, .int v)] [] S
  refine q_aload_n C dX6_guildOf_0 rfl rfl ?_
  refine q_iload_n C dX6_guildOf_1 rfl rfl ?_
  by_cases h_2 : 0 ≤ y ∧ y < 6
  · refine q_xv1 hX (hC 0 (by decide)) (hC 1 (by decide)) ((c_X6_requireGuild l hst S y).cs (if_pos h_2)) myX6_requireGuild mlX6_104 q_s0 ⟨by decide, by decide⟩ (Nat.le_of_ble_eq_true rfl) dX6_guildOf_2 (fun E9 h9 => nomatch h9) (fun h9 => ?_)
    have C := hC 1 (by decide)
    obtain ⟨g, hg6, rfl⟩ := uK_okG h_2
    refine q_aload_n C dX6_guildOf_5 rfl rfl ?_
    refine q_iload_n C dX6_guildOf_6 rfl rfl ?_
    refine q_iconst (v := 0) C dX6_guildOf_7 (by decide) ?_
    refine q_iconst (v := 5) C dX6_guildOf_8 (by decide) ?_
    by_cases h_9 : 0 ≤ v ∧ v ≤ 5
    · refine q_xv3 hX (hC 1 (by decide)) (hC 2 (by decide)) ((c_X6_requireFromTo l hst S v 0 5).cs (if_pos h_9)) myX6_requireFromTo mlX6_88 q_s0 ⟨by decide, by decide⟩ (Nat.le_of_ble_eq_true rfl) dX6_guildOf_9 (fun E9 h9 => nomatch h9) (fun h9 => ?_)
      have C := hC 2 (by decide)
      obtain ⟨w, hw9, rfl⟩ := uM_okK (M := 6) rfl (by omega) h_9
      refine q_aload_n C dX6_guildOf_12 rfl rfl ?_
      refine q_getR C flX6_10 q_s0 rfl dX6_guildOf_13 ?_
      refine q_iload_n C dX6_guildOf_16 rfl rfl ?_
      refine q_iload_n C dX6_guildOf_17 rfl rfl ?_
      refine q_ci2 C (c_X1_numberOfGuild l S M hM hM8 g (by omega) w (by omega)) myX1_numberOfGuild mlX6_192 q_s1 ⟨by decide, by decide⟩ (Nat.le_of_ble_eq_true rfl) dX6_guildOf_18 ?_
      exact hret 2 (by decide) _ _ _ _ dX6_guildOf_21 (by simp [uG_guildOf, uG_req, if_pos h_2, h_2, uN_nI (show g < 2 ^ 31 by omega), if_pos h_9, h_9, uN_nI (show w < 2 ^ 31 by omega)])
    · refine q_xv3 hX (hC 1 (by decide)) (hC 2 (by decide)) ((c_X6_requireFromTo l hst S v 0 5).cs (if_neg h_9)) myX6_requireFromTo mlX6_88 q_s0 ⟨by decide, by decide⟩ (Nat.le_of_ble_eq_true rfl) dX6_guildOf_9 (fun E9 h9 => ?_) (fun h9 => nomatch h9)
      cases h9
      exact hTh 2 (by decide) _ _ (by simp [uG_guildOf, uG_req, if_pos h_2, h_2, uN_nI (show g < 2 ^ 31 by omega), if_neg h_9, h_9])
  · refine q_xv1 hX (hC 0 (by decide)) (hC 1 (by decide)) ((c_X6_requireGuild l hst S y).cs (if_neg h_2)) myX6_requireGuild mlX6_104 q_s0 ⟨by decide, by decide⟩ (Nat.le_of_ble_eq_true rfl) dX6_guildOf_2 (fun E9 h9 => ?_) (fun h9 => nomatch h9)
    cases h9
    exact hTh 1 (by decide) _ _ (by simp [uG_guildOf, uG_req, if_neg h_2, h_2])
theorem c_X6_pass (l : Launch) (hst : l.stackTraces = false) (S : q_St) (M : Nat) (hM : S 1 0 = nI M) (hM8 : M ≤ 8) (i z : Nat) (hi : S 28 1 = nI i) (hi8 : i < 8) (hzz : S 28 2 = nI z) (hz8 : z ≤ 8) (h : Int32) (hz : q_bool S 1) : q_Fx l yX6_pass kX6_pass 7 6 [.ref 0, .int h] S (uG_pass S M i z h) := by
  refine q_Fx_of hst (maxL := 2) rfl (by decide +kernel) (fun ad => Nat.le_of_ble_eq_true rfl) (fun _ _ _ => rfl) (by decide) ?_
  intro K hX hC hret hTh hNw
  have C : q_Cx (q_Kw K 0) cX6_pass RX6 7 2 := hC 0 (by decide)
  show q_V l (q_Kw K 0) 0 [(0, .ref 0), (1, .int h)] [] S
  refine q_aload_n C dX6_pass_0 rfl rfl ?_
  refine q_iload_n C dX6_pass_1 rfl rfl ?_
  refine q_iconst (v := 1) C dX6_pass_2 (by decide) ?_
  refine q_bipush (v := 24) C dX6_pass_3 (by decide) ?_
  by_cases h_5 : 1 ≤ h ∧ h ≤ 24
  · refine q_xv3 hX (hC 0 (by decide)) (hC 1 (by decide)) ((c_X6_requireFromTo l hst S h 1 24).cs (if_pos h_5)) myX6_requireFromTo mlX6_88 q_s0 ⟨by decide, by decide⟩ (Nat.le_of_ble_eq_true rfl) dX6_pass_5 (fun E9 h9 => nomatch h9) (fun h9 => ?_)
    have C := hC 1 (by decide)
    refine q_aload_n C dX6_pass_8 rfl rfl ?_
    refine q_iconst (v := 0) C dX6_pass_9 (by decide) ?_
    refine q_xv1 hX (hC 1 (by decide)) (hC 2 (by decide)) (c_X6_startChange0 l hst S i z hi hi8 hzz hz8 hz) myX6_startChange mlX6_65 q_s0 ⟨by decide, by decide⟩ (Nat.le_of_ble_eq_true rfl) dX6_pass_10 (fun E9 h9 => nomatch h9) (fun h9 => ?_)
    have C := hC 2 (by decide)
    obtain ⟨T, hT9⟩ : ∃ T, T = uH_keep S i z 1 := ⟨_, rfl⟩
    rw [← hT9]
    have hk9 : ∀ k, k < 28 → T k = S k := fun k h => by {rw [hT9]; exact uH_keep_k S i z 1 k (Or.inl h) hi8}
    have hM_T : T 1 0 = nI M := by {rw [hk9 1 (by decide)]; exact hM}
    refine q_aload_n C dX6_pass_13 rfl rfl ?_
    refine q_getR C flX6_10 q_s0 rfl dX6_pass_14 ?_
    refine q_iload_n C dX6_pass_17 rfl rfl ?_
    refine q_ci1 C (c_X1_letHoursPass l T M hM_T hM8 h) myX1_letHoursPass mlX6_201 q_s1 ⟨by decide, by decide⟩ (Nat.le_of_ble_eq_true rfl) dX6_pass_18 ?_
    exact hret 2 (by decide) _ _ _ _ dX6_pass_21 (by subst hT9; simp [uG_pass, uG_req, if_pos h_5, h_5])
  · refine q_xv3 hX (hC 0 (by decide)) (hC 1 (by decide)) ((c_X6_requireFromTo l hst S h 1 24).cs (if_neg h_5)) myX6_requireFromTo mlX6_88 q_s0 ⟨by decide, by decide⟩ (Nat.le_of_ble_eq_true rfl) dX6_pass_5 (fun E9 h9 => ?_) (fun h9 => nomatch h9)
    cases h9
    exact hTh 1 (by decide) _ _ (by simp [uG_pass, uG_req, if_neg h_5, h_5])
theorem c_X6_ranked (l : Launch) (hst : l.stackTraces = false) (S : q_St) (x : Int32) : q_Fx l yX6_ranked kX6_ranked 7 6 [.ref 0, .int x] S (uG_ranked S x) := by
  refine q_Fx_of hst (maxL := 2) rfl (by decide +kernel) (fun ad => Nat.le_of_ble_eq_true rfl) (fun _ _ _ => rfl) (by decide) ?_
  intro K hX hC hret hTh hNw
  have C : q_Cx (q_Kw K 0) cX6_ranked RX6 7 2 := hC 0 (by decide)
  show q_V l (q_Kw K 0) 0 [(0, .ref 0), (1, .int x)] [] S
  refine q_iload_n C dX6_ranked_0 rfl rfl ?_
  refine q_if_lt (tgt := 10) C dX6_ranked_1 (by decide)  (fun c_1 => ?_) (fun c_1 => ?_)
  · exact hNw 0 (by decide) xEIo _ (by simp [uG_ranked, uG_req, c_1, Int32.not_le.mpr c_1, if_pos c_1]) _ 204 206 208 7 16 xr_7 "no such place" _ _ xr_7_d rfl xk_Io xi_Io xa_Io xf_Io (Nat.le_of_ble_eq_true rfl) ⟨⟨dX6_ranked_10, dX6_ranked_13⟩, Or.inl ⟨dX6_ranked_14, dX6_ranked_16, dX6_ranked_19⟩⟩
  · refine q_iload_n C dX6_ranked_4 rfl rfl ?_
    refine q_bipush (v := 6) C dX6_ranked_5 (by decide) ?_
    refine q_icmp_lt (tgt := 20) C dX6_ranked_7 (by decide)  (fun c_7 => ?_) (fun c_7 => ?_)
    · refine q_aload_n C dX6_ranked_20 rfl rfl ?_
      refine q_getR C flX6_10 q_s0 rfl dX6_ranked_21 ?_
      refine q_iload_n C dX6_ranked_24 rfl rfl ?_
      refine q_ci1 C (c_X1_guildAtRank l S x) myX1_guildAtRank mlX6_209 q_s1 ⟨by decide, by decide⟩ (Nat.le_of_ble_eq_true rfl) dX6_ranked_25 ?_
      exact hret 0 (by decide) _ _ _ _ dX6_ranked_28 (by simp [uG_ranked, uG_req, c_1, Int32.not_lt.mpr c_1, if_neg (Int32.not_lt.mpr c_1), c_7, Int32.not_le.mpr c_7, if_pos c_7])
    · exact hNw 0 (by decide) xEIo _ (by simp [uG_ranked, uG_req, c_1, Int32.not_lt.mpr c_1, if_neg (Int32.not_lt.mpr c_1), c_7, Int32.not_lt.mpr c_7, if_neg (Int32.not_lt.mpr c_7)]) _ 204 206 208 7 16 xr_7 "no such place" _ _ xr_7_d rfl xk_Io xi_Io xa_Io xf_Io (Nat.le_of_ble_eq_true rfl) ⟨⟨dX6_ranked_10, dX6_ranked_13⟩, Or.inl ⟨dX6_ranked_14, dX6_ranked_16, dX6_ranked_19⟩⟩
theorem c_X6_decide (l : Launch) (hst : l.stackTraces = false) (S : q_St) (M : Nat) (hM : S 1 0 = nI M) (hM8 : M ≤ 8) (i z : Nat) (hi : S 28 1 = nI i) (hi8 : i < 8) (hzz : S 28 2 = nI z) (hz8 : z ≤ 8) (N : Nat) (hN : S 1 1 = nI N) (hNd : ∀ m, m < M → S 2 m = 0 → N < 8) (x : Int32) (hz : q_bool S 1) : q_Fx l yX6_decide kX6_decide 7 6 [.ref 0, .int x] S (uG_decide S M N i z x) := by
  refine q_Fx_of hst (maxL := 2) rfl (by decide +kernel) (fun ad => Nat.le_of_ble_eq_true rfl) (fun _ _ _ => rfl) (by decide) ?_
  intro K hX hC hret hTh hNw
  have C : q_Cx (q_Kw K 0) cX6_decide RX6 7 2 := hC 0 (by decide)
  show q_V l (q_Kw K 0) 0 [(0, .ref 0), (1, .int x)] [] S
  refine q_aload_n C dX6_decide_0 rfl rfl ?_
  refine q_iload_n C dX6_decide_1 rfl rfl ?_
  by_cases h_2 : 0 ≤ x ∧ x < S 1 0
  · refine q_xv1 hX (hC 0 (by decide)) (hC 1 (by decide)) ((c_X6_requireMatter l hst S x).cs (if_pos h_2)) myX6_requireMatter mlX6_73 q_s0 ⟨by decide, by decide⟩ (Nat.le_of_ble_eq_true rfl) dX6_decide_2 (fun E9 h9 => nomatch h9) (fun h9 => ?_)
    have C := hC 1 (by decide)
    obtain ⟨m, hmM, rfl⟩ := uK_okM hM hM8 h_2
    refine q_aload_n C dX6_decide_5 rfl rfl ?_
    refine q_aload_n C dX6_decide_6 rfl rfl ?_
    refine q_getR C flX6_34 q_s0 rfl dX6_decide_7 ?_
    refine q_iload_n C dX6_decide_10 rfl rfl ?_
    cases ho : uR_decide S M m with
    | none =>
      refine q_ci1 C (q_Fi.cs (v' := 0) (S3 := S) (by rw [ho]; rfl) (by rw [ho]; rfl) (c_X5_refusesDecide l S M hM hM8 m (by omega))) myX5_refusesDecide mlX6_123 q_s102 ⟨by decide, by decide⟩ (Nat.le_of_ble_eq_true rfl) dX6_decide_11 ?_
      refine q_xv1 hX (hC 1 (by decide)) (hC 2 (by decide)) (c_X6_startChange0 l hst S i z hi hi8 hzz hz8 hz) myX6_startChange mlX6_65 q_s0 ⟨by decide, by decide⟩ (Nat.le_of_ble_eq_true rfl) dX6_decide_14 (fun E9 h9 => nomatch h9) (fun h9 => ?_)
      have C := hC 2 (by decide)
      obtain ⟨T, hT9⟩ : ∃ T, T = uH_keep S i z 1 := ⟨_, rfl⟩
      rw [← hT9]
      have hk9 : ∀ k, k < 28 → T k = S k := fun k h => by {rw [hT9]; exact uH_keep_k S i z 1 k (Or.inl h) hi8}
      have hM_T : T 1 0 = nI M := by {rw [hk9 1 (by decide)]; exact hM}
      have hN_T : T 1 1 = nI N := by {rw [hk9 1 (by decide)]; exact hN}
      refine q_aload_n C dX6_decide_17 rfl rfl ?_
      refine q_getR C flX6_10 q_s0 rfl dX6_decide_18 ?_
      refine q_iload_n C dX6_decide_21 rfl rfl ?_
      have h2m : S 2 m = 0 := Decidable.byContradiction (fun q => by by_cases q1 : S 1 5 = 0 <;> simp [uR_decide, q1, q] at ho)
      refine q_ci1 C (c_X1_decideMatter l T N hN_T (hNd m hmM h2m) m (by omega)) myX1_decideMatter mlX6_126 q_s1 ⟨by decide, by decide⟩ (Nat.le_of_ble_eq_true rfl) dX6_decide_22 ?_
      exact hret 2 (by decide) _ _ _ _ dX6_decide_25 (by subst hT9; simp [uG_decide, uG_req, if_pos h_2, h_2, uN_nI (show m < 2 ^ 31 by omega), ho])
    | some q =>
      refine q_ci1 C (q_Fi.cs (v' := 1) (S3 := (uR_set S q.1 q.2)) (by rw [ho]; rfl) (by rw [ho]; rfl) (c_X5_refusesDecide l S M hM hM8 m (by omega))) myX5_refusesDecide mlX6_123 q_s102 ⟨by decide, by decide⟩ (Nat.le_of_ble_eq_true rfl) dX6_decide_11 ?_
      refine q_xv1 hX (hC 1 (by decide)) (hC 2 (by decide)) (c_X6_startChange1 l hst (uR_set S q.1 q.2)) myX6_startChange mlX6_65 q_s0 ⟨by decide, by decide⟩ (Nat.le_of_ble_eq_true rfl) dX6_decide_14 (fun E9 h9 => ?_) (fun h9 => nomatch h9)
      cases h9
      exact hTh 2 (by decide) _ _ (by simp [uG_decide, uG_req, if_pos h_2, h_2, uN_nI (show m < 2 ^ 31 by omega), ho])
  · refine q_xv1 hX (hC 0 (by decide)) (hC 1 (by decide)) ((c_X6_requireMatter l hst S x).cs (if_neg h_2)) myX6_requireMatter mlX6_73 q_s0 ⟨by decide, by decide⟩ (Nat.le_of_ble_eq_true rfl) dX6_decide_2 (fun E9 h9 => ?_) (fun h9 => nomatch h9)
    cases h9
    exact hTh 1 (by decide) _ _ (by simp [uG_decide, uG_req, if_neg h_2, h_2])
theorem c_X6_wake (l : Launch) (hst : l.stackTraces = false) (S : q_St) (M : Nat) (hM : S 1 0 = nI M) (hM8 : M ≤ 8) (i z : Nat) (hi : S 28 1 = nI i) (hi8 : i < 8) (hzz : S 28 2 = nI z) (hz8 : z ≤ 8) (N : Nat) (hN : S 1 1 = nI N) (hW : uC_wkN (q_p (uH_keep S i z 1) 1 5 1) N M ≤ 8) (hz : q_bool S 1) : q_Fx l yX6_wake kX6_wake 7 6 [.ref 0] S (uG_wake S M N i z) := by
  refine q_Fx_of hst (maxL := 1) rfl (by decide +kernel) (fun ad => Nat.le_of_ble_eq_true rfl) (fun _ _ _ => rfl) (by decide) ?_
  intro K hX hC hret hTh hNw
  have C : q_Cx (q_Kw K 0) cX6_wake RX6 7 1 := hC 0 (by decide)
  show q_V l (q_Kw K 0) 0 [(0, .ref 0)] [] S
  refine q_aload_n C dX6_wake_0 rfl rfl ?_
  refine q_aload_n C dX6_wake_1 rfl rfl ?_
  refine q_getR C flX6_34 q_s0 rfl dX6_wake_2 ?_
  cases ho : uR_wake S with
  | none =>
    refine q_ci0 C (q_Fi.cs (v' := 0) (S3 := S) (by rw [ho]; rfl) (by rw [ho]; rfl) (c_X5_refusesWake l S hz)) myX5_refusesWake mlX6_142 q_s102 ⟨by decide, by decide⟩ (Nat.le_of_ble_eq_true rfl) dX6_wake_5 ?_
    refine q_xv1 hX (hC 0 (by decide)) (hC 1 (by decide)) (c_X6_startChange0 l hst S i z hi hi8 hzz hz8 hz) myX6_startChange mlX6_65 q_s0 ⟨by decide, by decide⟩ (Nat.le_of_ble_eq_true rfl) dX6_wake_8 (fun E9 h9 => nomatch h9) (fun h9 => ?_)
    have C := hC 1 (by decide)
    obtain ⟨T, hT9⟩ : ∃ T, T = uH_keep S i z 1 := ⟨_, rfl⟩
    rw [← hT9]
    have hk9 : ∀ k, k < 28 → T k = S k := fun k h => by {rw [hT9]; exact uH_keep_k S i z 1 k (Or.inl h) hi8}
    have hM_T : T 1 0 = nI M := by {rw [hk9 1 (by decide)]; exact hM}
    refine q_aload_n C dX6_wake_11 rfl rfl ?_
    refine q_getR C flX6_10 q_s0 rfl dX6_wake_12 ?_
    have hN_T : T 1 1 = nI N := by {rw [hk9 1 (by decide)]; exact hN}
    refine q_ci0 C (c_X1_letHeraldWake l T M hM_T hM8 N hN_T (by rw [hT9]; exact hW)) myX1_letHeraldWake mlX6_145 q_s1 ⟨by decide, by decide⟩ (Nat.le_of_ble_eq_true rfl) dX6_wake_15 ?_
    exact hret 1 (by decide) _ _ _ _ dX6_wake_18 (by subst hT9; simp [uG_wake, uG_req, ho])
  | some q =>
    refine q_ci0 C (q_Fi.cs (v' := 1) (S3 := (uR_set S q.1 q.2)) (by rw [ho]; rfl) (by rw [ho]; rfl) (c_X5_refusesWake l S hz)) myX5_refusesWake mlX6_142 q_s102 ⟨by decide, by decide⟩ (Nat.le_of_ble_eq_true rfl) dX6_wake_5 ?_
    refine q_xv1 hX (hC 0 (by decide)) (hC 1 (by decide)) (c_X6_startChange1 l hst (uR_set S q.1 q.2)) myX6_startChange mlX6_65 q_s0 ⟨by decide, by decide⟩ (Nat.le_of_ble_eq_true rfl) dX6_wake_8 (fun E9 h9 => ?_) (fun h9 => nomatch h9)
    cases h9
    exact hTh 1 (by decide) _ _ (by simp [uG_wake, uG_req, ho])
theorem c_X6_book (l : Launch) (hst : l.stackTraces = false) (S : q_St) (N : Nat) (hN : S 1 1 = nI N) (hN8 : N ≤ 8) (x : Int32) : q_Fx l yX6_book kX6_book 7 6 [.ref 0, .int x] S (uG_book S x) := by
  refine q_Fx_of hst (maxL := 2) rfl (by decide +kernel) (fun ad => Nat.le_of_ble_eq_true rfl) (fun _ _ _ => rfl) (by decide) ?_
  intro K hX hC hret hTh hNw
  have C : q_Cx (q_Kw K 0) cX6_book RX6 7 2 := hC 0 (by decide)
  show q_V l (q_Kw K 0) 0 [(0, .ref 0), (1, .int x)] [] S
  refine q_iload_n C dX6_book_0 rfl rfl ?_
  refine q_if_lt (tgt := 15) C dX6_book_1 (by decide)  (fun c_1 => ?_) (fun c_1 => ?_)
  · exact hNw 0 (by decide) xENs _ (by rw [uG_book, if_neg (fun q => absurd q.1 (Int32.not_le.mpr c_1))]) _ 81 156 85 13 14 xr_13 "no such place in the book" _ _ xr_13_d rfl xk_Ns xi_Ns xa_Ns xf_Ns (Nat.le_of_ble_eq_true rfl) ⟨⟨dX6_book_15, dX6_book_18⟩, Or.inl ⟨dX6_book_19, dX6_book_21, dX6_book_24⟩⟩
  · refine q_iload_n C dX6_book_4 rfl rfl ?_
    refine q_aload_n C dX6_book_5 rfl rfl ?_
    refine q_getR C flX6_10 q_s0 rfl dX6_book_6 ?_
    refine q_getI (x := S 1 1) C flX6_152 q_s1 rfl dX6_book_9 rfl ?_
    refine q_icmp_lt (tgt := 25) C dX6_book_12 (by decide)  (fun c_12 => ?_) (fun c_12 => ?_)
    · obtain ⟨w, hw9, rfl⟩ := uK_okX (X := S 1 1) (M := N) hN (by omega) ⟨c_1, c_12⟩
      refine q_aload_n C dX6_book_25 rfl rfl ?_
      refine q_getR C flX6_10 q_s0 rfl dX6_book_26 ?_
      refine q_getR C flX6_158 q_s1 rfl dX6_book_29 ?_
      refine q_iload_n C dX6_book_32 rfl rfl ?_
      refine q_ialdN (i := w) (x := S 4 w) C rfl q_s4 (by omega) (by decide) dX6_book_33 rfl ?_
      exact hret 0 (by decide) _ _ _ _ dX6_book_34 (by simp [uG_book, c_1, Int32.not_lt.mpr c_1, if_neg (Int32.not_lt.mpr c_1), c_12, Int32.not_le.mpr c_12, if_pos c_12, uN_nI (show w < 2 ^ 31 by omega)])
    · exact hNw 0 (by decide) xENs _ (by rw [uG_book, if_neg (fun q => absurd q.2 (Int32.not_lt.mpr c_12))]) _ 81 156 85 13 14 xr_13 "no such place in the book" _ _ xr_13_d rfl xk_Ns xi_Ns xa_Ns xf_Ns (Nat.le_of_ble_eq_true rfl) ⟨⟨dX6_book_15, dX6_book_18⟩, Or.inl ⟨dX6_book_19, dX6_book_21, dX6_book_24⟩⟩
theorem c_X6_character (l : Launch) (hst : l.stackTraces = false) (S : q_St) (n : Nat) (hn : S 110 1 = nI n) (hn9 : n ≤ 39) (hch : ∀ j, j < n → ∃ z, z < 65536 ∧ S 111 j = nI z) (x : Int32) : q_Fx l yX6_character kX6_character 7 6 [.ref 0, .int x] S (uG_char S x) := by
  refine q_Fx_of hst (maxL := 2) rfl (by decide +kernel) (fun ad => Nat.le_of_ble_eq_true rfl) (fun v u h => by unfold uG_char at h; split at h; (rename_i h9; obtain ⟨w, hw9, rfl⟩ := uK_okX hn (by omega) h9; rw [uN_nI (by omega)] at h; injection h with h1 h2; injection h1 with h3; rw [← h3]; exact q_narrow_c (hch w hw9)); injection h with h1 h2; exact nomatch h1) (by decide) ?_
  intro K hX hC hret hTh hNw
  have C : q_Cx (q_Kw K 0) cX6_character RX6 7 2 := hC 0 (by decide)
  show q_V l (q_Kw K 0) 0 [(0, .ref 0), (1, .int x)] [] S
  refine q_iload_n C dX6_character_0 rfl rfl ?_
  refine q_if_lt (tgt := 15) C dX6_character_1 (by decide)  (fun c_1 => ?_) (fun c_1 => ?_)
  · exact hNw 0 (by decide) xEIo _ (by rw [uG_char, if_neg (fun q => absurd q.1 (Int32.not_le.mpr c_1))]) _ 204 225 208 7 17 xr_7 "no such index in the line" _ _ xr_7_d rfl xk_Io xi_Io xa_Io xf_Io (Nat.le_of_ble_eq_true rfl) ⟨⟨dX6_character_15, dX6_character_18⟩, Or.inl ⟨dX6_character_19, dX6_character_21, dX6_character_24⟩⟩
  · refine q_iload_n C dX6_character_4 rfl rfl ?_
    refine q_aload_n C dX6_character_5 rfl rfl ?_
    refine q_getR C flX6_57 q_s0 rfl dX6_character_6 ?_
    refine q_getI (x := S 110 1) C flX6_222 q_s110 rfl dX6_character_9 rfl ?_
    refine q_icmp_lt (tgt := 25) C dX6_character_12 (by decide)  (fun c_12 => ?_) (fun c_12 => ?_)
    · obtain ⟨w, hw9, rfl⟩ := uK_okX (X := S 110 1) (M := n) hn (by omega) ⟨c_1, c_12⟩
      refine q_aload_n C dX6_character_25 rfl rfl ?_
      refine q_getR C flX6_57 q_s0 rfl dX6_character_26 ?_
      refine q_getR C flX6_227 q_s110 rfl dX6_character_29 ?_
      refine q_iload_n C dX6_character_32 rfl rfl ?_
      refine q_caldN (i := w) (x := S 111 w) C rfl q_s111 (by omega) (by decide) dX6_character_33 rfl ?_
      exact hret 0 (by decide) _ _ _ _ dX6_character_34 (by simp [uG_char, c_1, Int32.not_lt.mpr c_1, if_neg (Int32.not_lt.mpr c_1), c_12, Int32.not_le.mpr c_12, if_pos c_12, uN_nI (show w < 2 ^ 31 by omega)])
    · exact hNw 0 (by decide) xEIo _ (by rw [uG_char, if_neg (fun q => absurd q.2 (Int32.not_lt.mpr c_12))]) _ 204 225 208 7 17 xr_7 "no such index in the line" _ _ xr_7_d rfl xk_Io xi_Io xa_Io xf_Io (Nat.le_of_ble_eq_true rfl) ⟨⟨dX6_character_15, dX6_character_18⟩, Or.inl ⟨dX6_character_19, dX6_character_21, dX6_character_24⟩⟩
theorem c_X6_wouldSeal (l : Launch) (hst : l.stackTraces = false) (S : q_St) (M : Nat) (hM : S 1 0 = nI M) (hM8 : M ≤ 8) (x : Int32) : q_Fx l yX6_wouldSeal kX6_wouldSeal 7 6 [.ref 0, .int x] S (uG_would S M x) := by
  refine q_Fx_of hst (maxL := 2) rfl (by decide +kernel) (fun ad => Nat.le_of_ble_eq_true rfl) (fun v u h => by unfold uG_would at h; split at h; (split at h; (injection h with h1 h2; exact nomatch h1); (injection h with h1 h2; injection h1 with h3; rw [← h3]; exact uO_b_nb _)); (injection h with h1 h2; exact nomatch h1)) (by decide) ?_
  intro K hX hC hret hTh hNw
  have C : q_Cx (q_Kw K 0) cX6_wouldSeal RX6 7 2 := hC 0 (by decide)
  show q_V l (q_Kw K 0) 0 [(0, .ref 0), (1, .int x)] [] S
  refine q_aload_n C dX6_wouldSeal_0 rfl rfl ?_
  refine q_iload_n C dX6_wouldSeal_1 rfl rfl ?_
  by_cases h_2 : 0 ≤ x ∧ x < S 1 0
  · refine q_xv1 hX (hC 0 (by decide)) (hC 1 (by decide)) ((c_X6_requireMatter l hst S x).cs (if_pos h_2)) myX6_requireMatter mlX6_73 q_s0 ⟨by decide, by decide⟩ (Nat.le_of_ble_eq_true rfl) dX6_wouldSeal_2 (fun E9 h9 => nomatch h9) (fun h9 => ?_)
    have C := hC 1 (by decide)
    obtain ⟨m, hmM, rfl⟩ := uK_okM hM hM8 h_2
    refine q_aload_n C dX6_wouldSeal_5 rfl rfl ?_
    refine q_getR C flX6_10 q_s0 rfl dX6_wouldSeal_6 ?_
    refine q_getR C flX6_162 q_s1 rfl dX6_wouldSeal_9 ?_
    refine q_iload_n C dX6_wouldSeal_12 rfl rfl ?_
    refine q_ialdN (i := m) (x := S 2 m) C rfl q_s2 (by omega) (by decide) dX6_wouldSeal_13 rfl ?_
    refine q_if_ne (tgt := 28) C dX6_wouldSeal_14 (by decide)  (fun c_14 => ?_) (fun c_14 => ?_)
    · exact hNw 1 (by decide) xEIs _ (by simp [uG_would, if_pos h_2, h_2, uN_nI (show m < 2 ^ 31 by omega), c_14]) _ 168 170 172 7 15 xr_7 "not open, or without guilds" _ _ xr_7_d rfl xk_Is xi_Is xa_Is xf_Is (Nat.le_of_ble_eq_true rfl) ⟨⟨dX6_wouldSeal_28, dX6_wouldSeal_31⟩, Or.inl ⟨dX6_wouldSeal_32, dX6_wouldSeal_34, dX6_wouldSeal_37⟩⟩
    · refine q_aload_n C dX6_wouldSeal_17 rfl rfl ?_
      refine q_getR C flX6_10 q_s0 rfl dX6_wouldSeal_18 ?_
      refine q_iload_n C dX6_wouldSeal_21 rfl rfl ?_
      refine q_ci1 C (c_X1_countGuilds l S m (by omega)) myX1_countGuilds mlX6_165 q_s1 ⟨by decide, by decide⟩ (Nat.le_of_ble_eq_true rfl) dX6_wouldSeal_22 ?_
      refine q_if_ne (tgt := 38) C dX6_wouldSeal_25 (by decide)  (fun c_25 => ?_) (fun c_25 => ?_)
      · refine q_aload_n C dX6_wouldSeal_38 rfl rfl ?_
        refine q_getR C flX6_10 q_s0 rfl dX6_wouldSeal_39 ?_
        refine q_iload_n C dX6_wouldSeal_42 rfl rfl ?_
        by_cases h_43 : q_every (uC_pAll S M m) 6 0 = true
        · refine q_ci1 C (q_Fi.cv (if_pos h_43) (c_X1_wouldAllBeReady l S M hM hM8 m (by omega))) myX1_wouldAllBeReady mlX6_173 q_s1 ⟨by decide, by decide⟩ (Nat.le_of_ble_eq_true rfl) dX6_wouldSeal_43 ?_
          exact hret 1 (by decide) _ _ _ _ dX6_wouldSeal_46 (by simp [uG_would, uO_b, if_pos h_2, h_2, uN_nI (show m < 2 ^ 31 by omega), c_14, c_25, if_pos h_43, h_43])
        · refine q_ci1 C (q_Fi.cv (if_neg h_43) (c_X1_wouldAllBeReady l S M hM hM8 m (by omega))) myX1_wouldAllBeReady mlX6_173 q_s1 ⟨by decide, by decide⟩ (Nat.le_of_ble_eq_true rfl) dX6_wouldSeal_43 ?_
          exact hret 1 (by decide) _ _ _ _ dX6_wouldSeal_46 (by simp [uG_would, uO_b, if_pos h_2, h_2, uN_nI (show m < 2 ^ 31 by omega), c_14, c_25, if_neg h_43, h_43])
      · exact hNw 1 (by decide) xEIs _ (by simp [uG_would, if_pos h_2, h_2, uN_nI (show m < 2 ^ 31 by omega), c_14, c_25]) _ 168 170 172 7 15 xr_7 "not open, or without guilds" _ _ xr_7_d rfl xk_Is xi_Is xa_Is xf_Is (Nat.le_of_ble_eq_true rfl) ⟨⟨dX6_wouldSeal_28, dX6_wouldSeal_31⟩, Or.inl ⟨dX6_wouldSeal_32, dX6_wouldSeal_34, dX6_wouldSeal_37⟩⟩
  · refine q_xv1 hX (hC 0 (by decide)) (hC 1 (by decide)) ((c_X6_requireMatter l hst S x).cs (if_neg h_2)) myX6_requireMatter mlX6_73 q_s0 ⟨by decide, by decide⟩ (Nat.le_of_ble_eq_true rfl) dX6_wouldSeal_2 (fun E9 h9 => ?_) (fun h9 => nomatch h9)
    cases h9
    exact hTh 1 (by decide) _ _ (by simp [uG_would, if_neg h_2, h_2])
theorem c_X6_canLearn (l : Launch) (hst : l.stackTraces = false) (S : q_St) (M : Nat) (hM : S 1 0 = nI M) (hM8 : M ≤ 8) (y : Int32) (b : Int32) : q_Fx l yX6_canLearn kX6_canLearn 7 6 [.ref 0, .int y, .int b] S (uG_learn S M y b) := by
  refine q_Fx_of hst (maxL := 3) rfl (by decide +kernel) (fun ad => Nat.le_of_ble_eq_true rfl) (fun v u h => by unfold uG_learn at h; split at h; (injection h with h1 h2; injection h1 with h3; rw [← h3]; split; (split <;> rfl); (split <;> rfl)); (injection h with h1 h2; exact nomatch h1)) (by decide) ?_
  intro K hX hC hret hTh hNw
  have C : q_Cx (q_Kw K 0) cX6_canLearn RX6 7 3 := hC 0 (by decide)
  show q_V l (q_Kw K 0) 0 [(0, .ref 0), (1, .int y), (2, .int b)] [] S
  refine q_aload_n C dX6_canLearn_0 rfl rfl ?_
  refine q_iload_n C dX6_canLearn_1 rfl rfl ?_
  by_cases h_2 : 0 ≤ y ∧ y < 6
  · refine q_xv1 hX (hC 0 (by decide)) (hC 1 (by decide)) ((c_X6_requireGuild l hst S y).cs (if_pos h_2)) myX6_requireGuild mlX6_104 q_s0 ⟨by decide, by decide⟩ (Nat.le_of_ble_eq_true rfl) dX6_canLearn_2 (fun E9 h9 => nomatch h9) (fun h9 => ?_)
    have C := hC 1 (by decide)
    obtain ⟨g, hg6, rfl⟩ := uK_okG h_2
    refine q_iload_n C dX6_canLearn_5 rfl rfl ?_
    refine q_if_eq (tgt := 20) C dX6_canLearn_6 (by decide)  (fun c_6 => ?_) (fun c_6 => ?_)
    · refine q_aload_n C dX6_canLearn_20 rfl rfl ?_
      refine q_getR C flX6_10 q_s0 rfl dX6_canLearn_21 ?_
      refine q_iload_n C dX6_canLearn_24 rfl rfl ?_
      by_cases h_25 : uC_learn S M g
      · refine q_ci1 C (q_Fi.cv (if_pos h_25) (c_X1_canLearnByGuilds l S M hM hM8 g (by omega))) myX1_canLearnByGuilds mlX6_198 q_s1 ⟨by decide, by decide⟩ (Nat.le_of_ble_eq_true rfl) dX6_canLearn_25 ?_
        exact hret 1 (by decide) _ _ _ _ dX6_canLearn_28 (by simp [uG_learn, if_pos h_2, h_2, uN_nI (show g < 2 ^ 31 by omega), c_6, if_pos h_25, h_25])
      · refine q_ci1 C (q_Fi.cv (if_neg h_25) (c_X1_canLearnByGuilds l S M hM hM8 g (by omega))) myX1_canLearnByGuilds mlX6_198 q_s1 ⟨by decide, by decide⟩ (Nat.le_of_ble_eq_true rfl) dX6_canLearn_25 ?_
        exact hret 1 (by decide) _ _ _ _ dX6_canLearn_28 (by simp [uG_learn, if_pos h_2, h_2, uN_nI (show g < 2 ^ 31 by omega), c_6, if_neg h_25, h_25])
    · refine q_aload_n C dX6_canLearn_9 rfl rfl ?_
      refine q_getR C flX6_10 q_s0 rfl dX6_canLearn_10 ?_
      refine q_iload_n C dX6_canLearn_13 rfl rfl ?_
      by_cases h_14 : uC_learnS S M g
      · refine q_ci1 C (q_Fi.cv (if_pos h_14) (c_X1_canLearnBySets l S M hM hM8 g (by omega))) myX1_canLearnBySets mlX6_195 q_s1 ⟨by decide, by decide⟩ (Nat.le_of_ble_eq_true rfl) dX6_canLearn_14 ?_
        refine q_goto (tgt := 28) C dX6_canLearn_17 (by decide) ?_
        exact hret 1 (by decide) _ _ _ _ dX6_canLearn_28 (by simp [uG_learn, if_pos h_2, h_2, uN_nI (show g < 2 ^ 31 by omega), c_6, if_pos h_14, h_14])
      · refine q_ci1 C (q_Fi.cv (if_neg h_14) (c_X1_canLearnBySets l S M hM hM8 g (by omega))) myX1_canLearnBySets mlX6_195 q_s1 ⟨by decide, by decide⟩ (Nat.le_of_ble_eq_true rfl) dX6_canLearn_14 ?_
        refine q_goto (tgt := 28) C dX6_canLearn_17 (by decide) ?_
        exact hret 1 (by decide) _ _ _ _ dX6_canLearn_28 (by simp [uG_learn, if_pos h_2, h_2, uN_nI (show g < 2 ^ 31 by omega), c_6, if_neg h_14, h_14])
  · refine q_xv1 hX (hC 0 (by decide)) (hC 1 (by decide)) ((c_X6_requireGuild l hst S y).cs (if_neg h_2)) myX6_requireGuild mlX6_104 q_s0 ⟨by decide, by decide⟩ (Nat.le_of_ble_eq_true rfl) dX6_canLearn_2 (fun E9 h9 => ?_) (fun h9 => nomatch h9)
    cases h9
    exact hTh 1 (by decide) _ _ (by simp [uG_learn, if_neg h_2, h_2])
theorem c_X6_account (l : Launch) (hst : l.stackTraces = false) (S : q_St) (M : Nat) (hM : S 1 0 = nI M) (hM8 : M ≤ 8) (x : Int32) : q_Fx l yX6_account kX6_account 7 6 [.ref 0, .int x] S (uG_account S M x) := by
  refine q_Fx_of hst (maxL := 2) rfl (by decide +kernel) (fun ad => Nat.le_of_ble_eq_true rfl) (fun _ _ _ => rfl) (by decide) ?_
  intro K hX hC hret hTh hNw
  have C : q_Cx (q_Kw K 0) cX6_account RX6 7 2 := hC 0 (by decide)
  show q_V l (q_Kw K 0) 0 [(0, .ref 0), (1, .int x)] [] S
  refine q_aload_n C dX6_account_0 rfl rfl ?_
  refine q_iload_n C dX6_account_1 rfl rfl ?_
  refine q_iconst (v := 0) C dX6_account_2 (by decide) ?_
  refine q_bipush (v := 12) C dX6_account_3 (by decide) ?_
  by_cases h_5 : 0 ≤ x ∧ x ≤ 12
  · refine q_xv3 hX (hC 0 (by decide)) (hC 1 (by decide)) ((c_X6_requireFromTo l hst S x 0 12).cs (if_pos h_5)) myX6_requireFromTo mlX6_88 q_s0 ⟨by decide, by decide⟩ (Nat.le_of_ble_eq_true rfl) dX6_account_5 (fun E9 h9 => nomatch h9) (fun h9 => ?_)
    have C := hC 1 (by decide)
    obtain ⟨w, hw9, rfl⟩ := uM_okK (M := 13) rfl (by omega) h_5
    refine q_iload_n C dX6_account_8 rfl rfl ?_
    by_cases h_9_11 : nI w = 11
    · refine q_lookup (off := 27) (tgt := 36) C dX6_account_9 (by decide) (by rw [h_9_11]; decide) (by decide) ?_
      refine q_aload_n C dX6_account_36 rfl rfl ?_
      refine q_getR C flX6_41 q_s0 rfl dX6_account_37 ?_
      refine q_getI (x := S 103 1) C flX6_231 q_s103 rfl dX6_account_40 rfl ?_
      exact hret 1 (by decide) _ _ _ _ dX6_account_43 (by simp [uG_account, if_pos h_5, h_5, uN_nI (show w < 2 ^ 31 by omega), h_9_11])
    by_cases h_9_12 : nI w = 12
    · refine q_lookup (off := 35) (tgt := 44) C dX6_account_9 (by decide) (by rw [h_9_12]; decide) (by decide) ?_
      refine q_aload_n C dX6_account_44 rfl rfl ?_
      refine q_getR C flX6_25 q_s0 rfl dX6_account_45 ?_
      refine q_getI (x := S 28 2) C flX6_277 q_s28 rfl dX6_account_48 rfl ?_
      exact hret 1 (by decide) _ _ _ _ dX6_account_51 (by simp [uG_account, if_pos h_5, h_5, uN_nI (show w < 2 ^ 31 by omega), h_9_12, h_9_11])
    refine q_lookup (off := 43) (tgt := 52) C dX6_account_9 (by decide) (by show Op.lookupswitch.offset [(11, 27), (12, 35)] 43 _ = _; rw [lv_osw (k := 11) (a := 11) h_9_11 (by decide)]; rw [lv_osw (k := 12) (a := 12) h_9_12 (by decide)]; rfl) (by decide) ?_
    have hw11 : w < 11 := by {rcases (show w < 11 ∨ w = 11 ∨ w = 12 by omega) with q | q | q; exact q; subst q; exact absurd rfl h_9_11; subst q; exact absurd rfl h_9_12}
    refine q_aload_n C dX6_account_52 rfl rfl ?_
    refine q_getR C flX6_10 q_s0 rfl dX6_account_53 ?_
    refine q_iload_n C dX6_account_56 rfl rfl ?_
    refine q_ci1 C (c_X1_numberOfAll l S M hM hM8 w (by omega)) myX1_numberOfAll mlX6_280 q_s1 ⟨by decide, by decide⟩ (Nat.le_of_ble_eq_true rfl) dX6_account_57 ?_
    exact hret 1 (by decide) _ _ _ _ dX6_account_60 (by simp [uG_account, if_pos h_5, h_5, uN_nI (show w < 2 ^ 31 by omega), h_9_11, h_9_12])
  · refine q_xv3 hX (hC 0 (by decide)) (hC 1 (by decide)) ((c_X6_requireFromTo l hst S x 0 12).cs (if_neg h_5)) myX6_requireFromTo mlX6_88 q_s0 ⟨by decide, by decide⟩ (Nat.le_of_ble_eq_true rfl) dX6_account_5 (fun E9 h9 => ?_) (fun h9 => nomatch h9)
    cases h9
    exact hTh 1 (by decide) _ _ (by simp [uG_account, if_neg h_5, h_5])
theorem c_X6_line (l : Launch) (hst : l.stackTraces = false) (S : q_St) (M : Nat) (hM : S 1 0 = nI M) (hM8 : M ≤ 8) (x : Int32) (hA : ∀ m, m < M → ∀ g, g < 6 → -50 ≤ S 5 (m * 6 + g) ∧ S 5 (m * 6 + g) ≤ 50) (hB : ∀ m, m < M → ∀ g, g < 6 → (S 6 (m * 6 + g) = 0 ∨ S 6 (m * 6 + g) = 1 ∨ S 6 (m * 6 + g) = 2 ∨ S 6 (m * 6 + g) = 3 ∨ S 6 (m * 6 + g) = 4)) : q_Fx l yX6_line kX6_line 7 6 [.ref 0, .int x] S (uG_line S x) := by
  refine q_Fx_of hst (maxL := 2) rfl (by decide +kernel) (fun ad => Nat.le_of_ble_eq_true rfl) (fun _ _ _ => rfl) (by decide) ?_
  intro K hX hC hret hTh hNw
  have C : q_Cx (q_Kw K 0) cX6_line RX6 7 2 := hC 0 (by decide)
  show q_V l (q_Kw K 0) 0 [(0, .ref 0), (1, .int x)] [] S
  refine q_aload_n C dX6_line_0 rfl rfl ?_
  refine q_iload_n C dX6_line_1 rfl rfl ?_
  by_cases h_2 : 0 ≤ x ∧ x < S 1 0
  · refine q_xv1 hX (hC 0 (by decide)) (hC 1 (by decide)) ((c_X6_requireMatter l hst S x).cs (if_pos h_2)) myX6_requireMatter mlX6_73 q_s0 ⟨by decide, by decide⟩ (Nat.le_of_ble_eq_true rfl) dX6_line_2 (fun E9 h9 => nomatch h9) (fun h9 => ?_)
    have C := hC 1 (by decide)
    obtain ⟨m, hmM, rfl⟩ := uK_okM hM hM8 h_2
    refine q_aload_n C dX6_line_5 rfl rfl ?_
    refine q_getR C flX6_57 q_s0 rfl dX6_line_6 ?_
    refine q_aload_n C dX6_line_9 rfl rfl ?_
    refine q_getR C flX6_10 q_s0 rfl dX6_line_10 ?_
    refine q_iload_n C dX6_line_13 rfl rfl ?_
    refine q_cv2 C (c_X3_write l S m (by omega) (hA m hmM) (hB m hmM)) myX3_write mlX6_218 q_s110 ⟨by decide, by decide⟩ (Nat.le_of_ble_eq_true rfl) dX6_line_14 ?_
    refine q_aload_n C dX6_line_17 rfl rfl ?_
    refine q_getR C flX6_57 q_s0 rfl dX6_line_18 ?_
    refine q_getI (x := nI ((uL_gs S m 6).1)) C flX6_222 q_s110 rfl dX6_line_21 rfl ?_
    exact hret 1 (by decide) _ _ _ _ dX6_line_24 (by simp [uG_line, if_pos h_2, h_2, uN_nI (show m < 2 ^ 31 by omega)])
  · refine q_xv1 hX (hC 0 (by decide)) (hC 1 (by decide)) ((c_X6_requireMatter l hst S x).cs (if_neg h_2)) myX6_requireMatter mlX6_73 q_s0 ⟨by decide, by decide⟩ (Nat.le_of_ble_eq_true rfl) dX6_line_2 (fun E9 h9 => ?_) (fun h9 => nomatch h9)
    cases h9
    exact hTh 1 (by decide) _ _ (by simp [uG_line, if_neg h_2, h_2])
theorem c_X6_append (l : Launch) (hst : l.stackTraces = false) (S : q_St) (n : Nat) (hn : S 103 1 = nI n) (hn60 : n ≤ 60) (c : Int32) (hc : ∃ z, z < 65536 ∧ c = nI z) : q_Fx l yX6_append kX6_append 7 6 [.ref 0, .int c] S (uG_append S n c) := by
  refine q_Fx_of hst (maxL := 2) rfl (by decide +kernel) (fun ad => Nat.le_of_ble_eq_true rfl) (fun _ _ _ => rfl) (by decide) ?_
  intro K hX hC hret hTh hNw
  have C : q_Cx (q_Kw K 0) cX6_append RX6 7 2 := hC 0 (by decide)
  show q_V l (q_Kw K 0) 0 [(0, .ref 0), (1, .int c)] [] S
  refine q_aload_n C dX6_append_0 rfl rfl ?_
  refine q_getR C flX6_41 q_s0 rfl dX6_append_1 ?_
  refine q_getI (x := nI n) C flX6_231 q_s103 rfl dX6_append_4 hn ?_
  refine q_bipush (v := 60) C dX6_append_7 (by decide) ?_
  refine q_icmp_ltN (a := n) (b := 60) (tgt := 22) C dX6_append_9 (by decide) rfl rfl (by omega) (by omega) (fun c_9 => ?_) (fun c_9 => ?_)
  · refine q_aload_n C dX6_append_22 rfl rfl ?_
    refine q_getR C flX6_41 q_s0 rfl dX6_append_23 ?_
    refine q_iload_n C dX6_append_26 rfl rfl ?_
    refine q_cv1 C (c_X4_addCharacter l S n hn c_9 c hc) myX4_addCharacter mlX6_234 q_s103 ⟨by decide, by decide⟩ (Nat.le_of_ble_eq_true rfl) dX6_append_27 ?_
    refine q_aload_n C dX6_append_30 rfl rfl ?_
    refine q_getR C flX6_41 q_s0 rfl dX6_append_31 ?_
    refine q_getI (x := nI (n + 1)) C flX6_231 q_s103 rfl dX6_append_34 rfl ?_
    exact hret 0 (by decide) _ _ _ _ dX6_append_37 (by simp [uG_append, c_9, Nat.not_le.mpr c_9])
  · exact hNw 0 (by decide) xEIs _ (by simp [uG_append, c_9, Nat.not_lt.mpr c_9]) _ 168 232 172 7 18 xr_7 "the input is full" _ _ xr_7_d rfl xk_Is xi_Is xa_Is xf_Is (Nat.le_of_ble_eq_true rfl) ⟨⟨dX6_append_12, dX6_append_15⟩, Or.inl ⟨dX6_append_16, dX6_append_18, dX6_append_21⟩⟩
theorem c_X6_undo (l : Launch) (hst : l.stackTraces = false) (S : q_St) (i z : Nat) (hi : S 28 1 = nI i) (hi8 : i < 8) (hzz : S 28 2 = nI z) (hz8 : z ≤ 8) (hzb : 1 ≤ z → q_bool S (30 + 9 * ((i + 8 - 1) % 8))) : q_Fx l yX6_undo kX6_undo 7 6 [.ref 0] S (uG_undo S i z) := by
  refine q_Fx_of hst (maxL := 1) rfl (by decide +kernel) (fun ad => Nat.le_of_ble_eq_true rfl) (fun _ _ _ => rfl) (by decide) ?_
  intro K hX hC hret hTh hNw
  have C : q_Cx (q_Kw K 0) cX6_undo RX6 7 1 := hC 0 (by decide)
  show q_V l (q_Kw K 0) 0 [(0, .ref 0)] [] S
  refine q_aload_n C dX6_undo_0 rfl rfl ?_
  refine q_getR C flX6_25 q_s0 rfl dX6_undo_1 ?_
  refine q_getI (x := nI z) C flX6_277 q_s28 rfl dX6_undo_4 hzz ?_
  refine q_if_neN (a := z) (tgt := 21) C dX6_undo_7 (by decide) rfl (by omega) (fun c_7 => ?_) (fun c_7 => ?_)
  · refine q_aload_n C dX6_undo_21 rfl rfl ?_
    refine q_getR C flX6_25 q_s0 rfl dX6_undo_22 ?_
    refine q_aload_n C dX6_undo_25 rfl rfl ?_
    refine q_getR C flX6_10 q_s0 rfl dX6_undo_26 ?_
    refine q_cv1 C (c_X2_takeBack l S i z hi hi8 hzz hz8 (by omega) (hzb (by omega))) myX2_takeBack mlX6_307 q_s28 ⟨by decide, by decide⟩ (Nat.le_of_ble_eq_true rfl) dX6_undo_29 ?_
    refine q_aload_n C dX6_undo_32 rfl rfl ?_
    refine q_getR C flX6_25 q_s0 rfl dX6_undo_33 ?_
    refine q_getI (x := nI (z - 1)) C flX6_277 q_s28 rfl dX6_undo_36 (by simp [uH_back, q_cp, q_p, upd]) ?_
    exact hret 0 (by decide) _ _ _ _ dX6_undo_39 (by simp [uG_undo, c_7])
  · exact hNw 0 (by decide) xEIs _ (by simp [uG_undo, c_7]) _ 168 305 172 7 23 xr_7 "no change can be undone" _ _ xr_7_d rfl xk_Is xi_Is xa_Is xf_Is (Nat.le_of_ble_eq_true rfl) ⟨⟨dX6_undo_10, dX6_undo_13⟩, Or.inr ⟨dX6_undo_14, dX6_undo_17, dX6_undo_20⟩⟩
theorem c_X6_isAwake (l : Launch) (S : q_St) (hz : q_bool S 1) : q_Fi l yX6_isAwake kX6_isAwake 1 [.ref 0] S (S 1 5) S := by
  refine q_Fi_of (maxL := 1) rfl (by decide +kernel) (fun ad => Nat.le_of_ble_eq_true rfl) (q_narrow_b hz.1) ?_
  intro K C hret
  have C : q_Cx K cX6_isAwake RX6 1 1 := C
  show q_V l K 0 [(0, .ref 0)] [] S
  refine q_aload_n C dX6_isAwake_0 rfl rfl ?_
  refine q_getR C flX6_10 q_s0 rfl dX6_isAwake_1 ?_
  refine q_getI (x := S 1 5) C flX6_148 q_s1 rfl dX6_isAwake_4 rfl ?_
  exact hret _ _ _ _ dX6_isAwake_7 rfl rfl
theorem c_X6_coins (l : Launch) (S : q_St) (M : Nat) (hM : S 1 0 = nI M) (hM8 : M ≤ 8) (b : Int32) : q_Fi l yX6_coins kX6_coins 3 [.ref 0, .int b] S (if b = 0 then uC_coins S else uC_coinsS S M) S := by
  refine q_Fi_of (maxL := 2) rfl (by decide +kernel) (fun ad => Nat.le_of_ble_eq_true rfl) rfl ?_
  intro K C hret
  have C : q_Cx K cX6_coins RX6 3 2 := C
  show q_V l K 0 [(0, .ref 0), (1, .int b)] [] S
  refine q_iload_n C dX6_coins_0 rfl rfl ?_
  refine q_if_eq (tgt := 14) C dX6_coins_1 (by decide)  (fun c_1 => ?_) (fun c_1 => ?_)
  · refine q_aload_n C dX6_coins_14 rfl rfl ?_
    refine q_getR C flX6_10 q_s0 rfl dX6_coins_15 ?_
    refine q_ci0 C (c_X1_coinsByGuilds l S) myX1_coinsByGuilds mlX6_215 q_s1 ⟨by decide, by decide⟩ (Nat.le_of_ble_eq_true rfl) dX6_coins_18 ?_
    exact hret _ _ _ _ dX6_coins_21 (by simp [c_1]) rfl
  · refine q_aload_n C dX6_coins_4 rfl rfl ?_
    refine q_getR C flX6_10 q_s0 rfl dX6_coins_5 ?_
    refine q_ci0 C (c_X1_coinsBySeals l S M hM hM8) myX1_coinsBySeals mlX6_212 q_s1 ⟨by decide, by decide⟩ (Nat.le_of_ble_eq_true rfl) dX6_coins_8 ?_
    refine q_goto (tgt := 21) C dX6_coins_11 (by decide) ?_
    exact hret _ _ _ _ dX6_coins_21 (by simp [c_1]) rfl
theorem c_X6_isWell (l : Launch) (S : q_St) (M : Nat) (hM : S 1 0 = nI M) (hM8 : M ≤ 8) : q_Fi l yX6_isWell kX6_isWell 5 [.ref 0] S (if q_every (uC_pWhole S) M 0 = true ∧ uC_alike S M ∧ q_every (uC_pSingle S M) 6 0 = true then 1 else 0) S := by
  refine q_Fi_of (maxL := 1) rfl (by decide +kernel) (fun ad => Nat.le_of_ble_eq_true rfl) (by split <;> rfl) ?_
  intro K C hret
  have C : q_Cx K cX6_isWell RX6 5 1 := C
  show q_V l K 0 [(0, .ref 0)] [] S
  refine q_aload_n C dX6_isWell_0 rfl rfl ?_
  refine q_getR C flX6_10 q_s0 rfl dX6_isWell_1 ?_
  by_cases h_4 : q_every (uC_pWhole S) M 0 = true
  · refine q_ci0 C (q_Fi.cv (if_pos h_4) (c_X1_areSealsWhole l S M hM hM8)) myX1_areSealsWhole mlX6_283 q_s1 ⟨by decide, by decide⟩ (Nat.le_of_ble_eq_true rfl) dX6_isWell_4 ?_
    refine q_if_eq (tgt := 34) C dX6_isWell_7 (by decide) (fun h9 => absurd h9 (by decide)) (fun _ => ?_)
    refine q_aload_n C dX6_isWell_10 rfl rfl ?_
    refine q_getR C flX6_10 q_s0 rfl dX6_isWell_11 ?_
    by_cases h_14 : uC_alike S M
    · refine q_ci0 C (q_Fi.cv (if_pos h_14) (c_X1_areWaysAlike l S M hM hM8)) myX1_areWaysAlike mlX6_286 q_s1 ⟨by decide, by decide⟩ (Nat.le_of_ble_eq_true rfl) dX6_isWell_14 ?_
      refine q_if_eq (tgt := 34) C dX6_isWell_17 (by decide) (fun h9 => absurd h9 (by decide)) (fun _ => ?_)
      refine q_aload_n C dX6_isWell_20 rfl rfl ?_
      refine q_getR C flX6_10 q_s0 rfl dX6_isWell_21 ?_
      by_cases h_24 : q_every (uC_pSingle S M) 6 0 = true
      · refine q_ci0 C (q_Fi.cv (if_pos h_24) (c_X1_areDoubtsSingle l S M hM hM8)) myX1_areDoubtsSingle mlX6_289 q_s1 ⟨by decide, by decide⟩ (Nat.le_of_ble_eq_true rfl) dX6_isWell_24 ?_
        refine q_if_eq (tgt := 34) C dX6_isWell_27 (by decide) (fun h9 => absurd h9 (by decide)) (fun _ => ?_)
        refine q_iconst (v := 1) C dX6_isWell_30 (by decide) ?_
        refine q_goto (tgt := 35) C dX6_isWell_31 (by decide) ?_
        exact hret _ _ _ _ dX6_isWell_35 (by rw [if_pos ⟨h_4, h_14, h_24⟩]) rfl
      · refine q_ci0 C (q_Fi.cv (if_neg h_24) (c_X1_areDoubtsSingle l S M hM hM8)) myX1_areDoubtsSingle mlX6_289 q_s1 ⟨by decide, by decide⟩ (Nat.le_of_ble_eq_true rfl) dX6_isWell_24 ?_
        refine q_if_eq (tgt := 34) C dX6_isWell_27 (by decide) (fun _ => ?_) (fun h9 => absurd h9 (by decide))
        refine q_iconst (v := 0) C dX6_isWell_34 (by decide) ?_
        exact hret _ _ _ _ dX6_isWell_35 (by rw [if_neg (fun q => h_24 q.2.2)]) rfl
    · refine q_ci0 C (q_Fi.cv (if_neg h_14) (c_X1_areWaysAlike l S M hM hM8)) myX1_areWaysAlike mlX6_286 q_s1 ⟨by decide, by decide⟩ (Nat.le_of_ble_eq_true rfl) dX6_isWell_14 ?_
      refine q_if_eq (tgt := 34) C dX6_isWell_17 (by decide) (fun _ => ?_) (fun h9 => absurd h9 (by decide))
      refine q_iconst (v := 0) C dX6_isWell_34 (by decide) ?_
      exact hret _ _ _ _ dX6_isWell_35 (by rw [if_neg (fun q => h_14 q.2.1)]) rfl
  · refine q_ci0 C (q_Fi.cv (if_neg h_4) (c_X1_areSealsWhole l S M hM hM8)) myX1_areSealsWhole mlX6_283 q_s1 ⟨by decide, by decide⟩ (Nat.le_of_ble_eq_true rfl) dX6_isWell_4 ?_
    refine q_if_eq (tgt := 34) C dX6_isWell_7 (by decide) (fun _ => ?_) (fun h9 => absurd h9 (by decide))
    refine q_iconst (v := 0) C dX6_isWell_34 (by decide) ?_
    exact hret _ _ _ _ dX6_isWell_35 (by rw [if_neg (fun q => h_4 q.1)]) rfl
