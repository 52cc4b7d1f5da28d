
/-! a number is appended -/
theorem ng10 : ∀ a, a < 100 → ((-(nI a) ≤ -10 ↔ 10 ≤ a) ∧ ¬ -(nI a) ≤ -100 ∧ (1 ≤ a → -(nI a) < 0) ∧ (-9 ≤ -(nI a) ↔ a < 10) ∧ -100 < -(nI a) ∧ -(-(nI a)) = nI a) := by decide +kernel
theorem jones : ∀ a, a < 100 → (q_ones a).toInt8.toInt32 = q_ones a ∧ (q_tens a).toInt8.toInt32 = q_tens a := by decide +kernel
theorem nI_dec (n : Nat) : nI (n + 1) + (-1) = nI n := by
  rw [← nI_add, Int32.add_assoc, show nI 1 + (-1) = 0 from by decide, Int32.add_zero]
theorem m_ss00 (l : Launch) (a : Nat) (h2 : a < 10) : q_Jm l yJ6_stringSize_0f7a4 kJ6_stringSize_0f7a4 1 0 [.int (nI a)] (fun cy => []) (fun cy sz rv w' => rv = some (.int (nI 1)) ∧ w' = []) := by
  refine q_Jm_of (maxL := 4) rfl (by decide +kernel) (Nat.le_of_ble_eq_true rfl) ?_
  intro K C hi hrI hrA hrV
  have C : q_Cj K cJ6_stringSize_0f7a4 RJ6 1 4 0 := C
  show q_J l K 0 [] 0 [(0, .int (nI a))] []
  refine j_iconst (v := 1) C dJ6_stringSize_0f7a4_0 (by decide) ?_
  refine j_istore_n (lv' := [(1, .int 1), (0, .int (nI a))]) C dJ6_stringSize_0f7a4_1 rfl (by decide) rfl ?_
  refine j_iload_n C dJ6_stringSize_0f7a4_2 rfl rfl ?_
  refine j_if_ltN (a := a) (tgt := 11) C dJ6_stringSize_0f7a4_3 (by decide) rfl (by omega) (fun c_3 => (c_3).elim) (fun c_3 => ?_)
  refine j_iconst (v := 0) C dJ6_stringSize_0f7a4_6 (by decide) ?_
  refine j_istore_n (lv' := [(1, .int 0), (0, .int (nI a))]) C dJ6_stringSize_0f7a4_7 rfl (by decide) rfl ?_
  refine j_iload_n C dJ6_stringSize_0f7a4_8 rfl rfl ?_
  refine j_ineg C dJ6_stringSize_0f7a4_9 ?_
  refine j_istore_n (lv' := [(0, .int (-(nI a))), (1, .int 0)]) C dJ6_stringSize_0f7a4_10 rfl (by decide) rfl ?_
  refine j_bipush (v := (-10)) C dJ6_stringSize_0f7a4_11 (by decide) ?_
  refine j_istore_n (lv' := [(2, .int (-10)), (0, .int (-(nI a))), (1, .int 0)]) C dJ6_stringSize_0f7a4_13 rfl (by decide) rfl ?_
  refine j_iconst (v := 1) C dJ6_stringSize_0f7a4_14 (by decide) ?_
  refine j_istore_n (lv' := [(3, .int 1), (2, .int (-10)), (0, .int (-(nI a))), (1, .int 0)]) C dJ6_stringSize_0f7a4_15 rfl (by decide) rfl ?_
  refine j_iload_n C dJ6_stringSize_0f7a4_16 rfl rfl ?_
  refine j_bipush (v := 10) C dJ6_stringSize_0f7a4_17 (by decide) ?_
  refine j_icmp_ge (tgt := 42) C dJ6_stringSize_0f7a4_19 (by decide) (fun h9 => absurd h9 (by decide)) (fun _ => ?_)
  refine j_iload_n C dJ6_stringSize_0f7a4_22 rfl rfl ?_
  refine j_iload_n C dJ6_stringSize_0f7a4_23 rfl rfl ?_
  refine j_icmp_le (tgt := 31) C dJ6_stringSize_0f7a4_24 (by decide)  (fun c_24 => absurd ((ng10 a (by omega)).1.mp c_24) (by omega)) (fun c_24 => ?_)
  refine j_iload_n C dJ6_stringSize_0f7a4_27 rfl rfl ?_
  refine j_iload_n C dJ6_stringSize_0f7a4_28 rfl rfl ?_
  refine j_iaddE (v := 1) C dJ6_stringSize_0f7a4_29 (by decide) ?_
  exact hrI _ _ _ _ _ _ (by omega) dJ6_stringSize_0f7a4_30 rfl rfl ⟨rfl, rfl⟩
theorem m_ss01 (l : Launch) (a : Nat) (h1 : 10 ≤ a) (h2 : a < 100) : q_Jm l yJ6_stringSize_0f7a4 kJ6_stringSize_0f7a4 1 0 [.int (nI a)] (fun cy => []) (fun cy sz rv w' => rv = some (.int (nI 2)) ∧ w' = []) := by
  refine q_Jm_of (maxL := 4) rfl (by decide +kernel) (Nat.le_of_ble_eq_true rfl) ?_
  intro K C hi hrI hrA hrV
  have C : q_Cj K cJ6_stringSize_0f7a4 RJ6 1 4 0 := C
  show q_J l K 0 [] 0 [(0, .int (nI a))] []
  refine j_iconst (v := 1) C dJ6_stringSize_0f7a4_0 (by decide) ?_
  refine j_istore_n (lv' := [(1, .int 1), (0, .int (nI a))]) C dJ6_stringSize_0f7a4_1 rfl (by decide) rfl ?_
  refine j_iload_n C dJ6_stringSize_0f7a4_2 rfl rfl ?_
  refine j_if_ltN (a := a) (tgt := 11) C dJ6_stringSize_0f7a4_3 (by decide) rfl (by omega) (fun c_3 => (c_3).elim) (fun c_3 => ?_)
  refine j_iconst (v := 0) C dJ6_stringSize_0f7a4_6 (by decide) ?_
  refine j_istore_n (lv' := [(1, .int 0), (0, .int (nI a))]) C dJ6_stringSize_0f7a4_7 rfl (by decide) rfl ?_
  refine j_iload_n C dJ6_stringSize_0f7a4_8 rfl rfl ?_
  refine j_ineg C dJ6_stringSize_0f7a4_9 ?_
  refine j_istore_n (lv' := [(0, .int (-(nI a))), (1, .int 0)]) C dJ6_stringSize_0f7a4_10 rfl (by decide) rfl ?_
  refine j_bipush (v := (-10)) C dJ6_stringSize_0f7a4_11 (by decide) ?_
  refine j_istore_n (lv' := [(2, .int (-10)), (0, .int (-(nI a))), (1, .int 0)]) C dJ6_stringSize_0f7a4_13 rfl (by decide) rfl ?_
  refine j_iconst (v := 1) C dJ6_stringSize_0f7a4_14 (by decide) ?_
  refine j_istore_n (lv' := [(3, .int 1), (2, .int (-10)), (0, .int (-(nI a))), (1, .int 0)]) C dJ6_stringSize_0f7a4_15 rfl (by decide) rfl ?_
  refine j_iload_n C dJ6_stringSize_0f7a4_16 rfl rfl ?_
  refine j_bipush (v := 10) C dJ6_stringSize_0f7a4_17 (by decide) ?_
  refine j_icmp_ge (tgt := 42) C dJ6_stringSize_0f7a4_19 (by decide) (fun h9 => absurd h9 (by decide)) (fun _ => ?_)
  refine j_iload_n C dJ6_stringSize_0f7a4_22 rfl rfl ?_
  refine j_iload_n C dJ6_stringSize_0f7a4_23 rfl rfl ?_
  refine j_icmp_le (tgt := 31) C dJ6_stringSize_0f7a4_24 (by decide)  (fun c_24 => ?_) (fun c_24 => absurd ((ng10 a (by omega)).1.mpr (by omega)) (Int32.not_le.mpr c_24))
  refine j_bipush (v := 10) C dJ6_stringSize_0f7a4_31 (by decide) ?_
  refine j_iload_n C dJ6_stringSize_0f7a4_33 rfl rfl ?_
  refine j_imulE (v := (-100)) C dJ6_stringSize_0f7a4_34 (by decide) ?_
  refine j_istore_n (lv' := [(2, .int (-100)), (3, .int 1), (0, .int (-(nI a))), (1, .int 0)]) C dJ6_stringSize_0f7a4_35 rfl (by decide) rfl ?_
  refine j_iinc (v := nI 2) (lv' := [(3, .int (nI 2)), (2, .int (-100)), (0, .int (-(nI a))), (1, .int 0)]) C dJ6_stringSize_0f7a4_36 rfl (by decide) (by decide) rfl ?_
  refine j_goto (tgt := 16) C dJ6_stringSize_0f7a4_39 (by decide) ?_
  refine j_iload_n C dJ6_stringSize_0f7a4_16 rfl rfl ?_
  refine j_bipush (v := 10) C dJ6_stringSize_0f7a4_17 (by decide) ?_
  refine j_icmp_geN (a := 2) (b := 10) (tgt := 42) C dJ6_stringSize_0f7a4_19 (by decide) rfl rfl (by omega) (by omega) (fun c_19 => absurd c_19 (by omega)) (fun c_19 => ?_)
  refine j_iload_n C dJ6_stringSize_0f7a4_22 rfl rfl ?_
  refine j_iload_n C dJ6_stringSize_0f7a4_23 rfl rfl ?_
  refine j_icmp_le (tgt := 31) C dJ6_stringSize_0f7a4_24 (by decide)  (fun c_24 => absurd c_24 (ng10 a (by omega)).2.1) (fun c_24 => ?_)
  refine j_iload_n C dJ6_stringSize_0f7a4_27 rfl rfl ?_
  refine j_iload_n C dJ6_stringSize_0f7a4_28 rfl rfl ?_
  refine j_iaddN (a := 2) (b := 0) C dJ6_stringSize_0f7a4_29 rfl rfl ?_
  exact hrI _ _ _ _ _ _ (by omega) dJ6_stringSize_0f7a4_30 rfl rfl ⟨rfl, rfl⟩
theorem m_ss10 (l : Launch) (a : Nat) (h1 : 1 ≤ a) (h2 : a < 10) : q_Jm l yJ6_stringSize_0f7a4 kJ6_stringSize_0f7a4 1 0 [.int (-(nI a))] (fun cy => []) (fun cy sz rv w' => rv = some (.int (nI 2)) ∧ w' = []) := by
  refine q_Jm_of (maxL := 4) rfl (by decide +kernel) (Nat.le_of_ble_eq_true rfl) ?_
  intro K C hi hrI hrA hrV
  have C : q_Cj K cJ6_stringSize_0f7a4 RJ6 1 4 0 := C
  show q_J l K 0 [] 0 [(0, .int (-(nI a)))] []
  refine j_iconst (v := 1) C dJ6_stringSize_0f7a4_0 (by decide) ?_
  refine j_istore_n (lv' := [(1, .int 1), (0, .int (-(nI a)))]) C dJ6_stringSize_0f7a4_1 rfl (by decide) rfl ?_
  refine j_iload_n C dJ6_stringSize_0f7a4_2 rfl rfl ?_
  refine j_if_lt (tgt := 11) C dJ6_stringSize_0f7a4_3 (by decide)  (fun c_3 => ?_) (fun c_3 => absurd ((ng10 a (by omega)).2.2.1 (by omega)) (Int32.not_lt.mpr c_3))
  refine j_bipush (v := (-10)) C dJ6_stringSize_0f7a4_11 (by decide) ?_
  refine j_istore_n (lv' := [(2, .int (-10)), (1, .int 1), (0, .int (-(nI a)))]) C dJ6_stringSize_0f7a4_13 rfl (by decide) rfl ?_
  refine j_iconst (v := 1) C dJ6_stringSize_0f7a4_14 (by decide) ?_
  refine j_istore_n (lv' := [(3, .int 1), (2, .int (-10)), (1, .int 1), (0, .int (-(nI a)))]) C dJ6_stringSize_0f7a4_15 rfl (by decide) rfl ?_
  refine j_iload_n C dJ6_stringSize_0f7a4_16 rfl rfl ?_
  refine j_bipush (v := 10) C dJ6_stringSize_0f7a4_17 (by decide) ?_
  refine j_icmp_ge (tgt := 42) C dJ6_stringSize_0f7a4_19 (by decide) (fun h9 => absurd h9 (by decide)) (fun _ => ?_)
  refine j_iload_n C dJ6_stringSize_0f7a4_22 rfl rfl ?_
  refine j_iload_n C dJ6_stringSize_0f7a4_23 rfl rfl ?_
  refine j_icmp_le (tgt := 31) C dJ6_stringSize_0f7a4_24 (by decide)  (fun c_24 => absurd ((ng10 a (by omega)).1.mp c_24) (by omega)) (fun c_24 => ?_)
  refine j_iload_n C dJ6_stringSize_0f7a4_27 rfl rfl ?_
  refine j_iload_n C dJ6_stringSize_0f7a4_28 rfl rfl ?_
  refine j_iaddE (v := 2) C dJ6_stringSize_0f7a4_29 (by decide) ?_
  exact hrI _ _ _ _ _ _ (by omega) dJ6_stringSize_0f7a4_30 rfl rfl ⟨rfl, rfl⟩
theorem m_ss11 (l : Launch) (a : Nat) (h1 : 10 ≤ a) (h2 : a < 100) : q_Jm l yJ6_stringSize_0f7a4 kJ6_stringSize_0f7a4 1 0 [.int (-(nI a))] (fun cy => []) (fun cy sz rv w' => rv = some (.int (nI 3)) ∧ w' = []) := by
  refine q_Jm_of (maxL := 4) rfl (by decide +kernel) (Nat.le_of_ble_eq_true rfl) ?_
  intro K C hi hrI hrA hrV
  have C : q_Cj K cJ6_stringSize_0f7a4 RJ6 1 4 0 := C
  show q_J l K 0 [] 0 [(0, .int (-(nI a)))] []
  refine j_iconst (v := 1) C dJ6_stringSize_0f7a4_0 (by decide) ?_
  refine j_istore_n (lv' := [(1, .int 1), (0, .int (-(nI a)))]) C dJ6_stringSize_0f7a4_1 rfl (by decide) rfl ?_
  refine j_iload_n C dJ6_stringSize_0f7a4_2 rfl rfl ?_
  refine j_if_lt (tgt := 11) C dJ6_stringSize_0f7a4_3 (by decide)  (fun c_3 => ?_) (fun c_3 => absurd ((ng10 a (by omega)).2.2.1 (by omega)) (Int32.not_lt.mpr c_3))
  refine j_bipush (v := (-10)) C dJ6_stringSize_0f7a4_11 (by decide) ?_
  refine j_istore_n (lv' := [(2, .int (-10)), (1, .int 1), (0, .int (-(nI a)))]) C dJ6_stringSize_0f7a4_13 rfl (by decide) rfl ?_
  refine j_iconst (v := 1) C dJ6_stringSize_0f7a4_14 (by decide) ?_
  refine j_istore_n (lv' := [(3, .int 1), (2, .int (-10)), (1, .int 1), (0, .int (-(nI a)))]) C dJ6_stringSize_0f7a4_15 rfl (by decide) rfl ?_
  refine j_iload_n C dJ6_stringSize_0f7a4_16 rfl rfl ?_
  refine j_bipush (v := 10) C dJ6_stringSize_0f7a4_17 (by decide) ?_
  refine j_icmp_ge (tgt := 42) C dJ6_stringSize_0f7a4_19 (by decide) (fun h9 => absurd h9 (by decide)) (fun _ => ?_)
  refine j_iload_n C dJ6_stringSize_0f7a4_22 rfl rfl ?_
  refine j_iload_n C dJ6_stringSize_0f7a4_23 rfl rfl ?_
  refine j_icmp_le (tgt := 31) C dJ6_stringSize_0f7a4_24 (by decide)  (fun c_24 => ?_) (fun c_24 => absurd ((ng10 a (by omega)).1.mpr (by omega)) (Int32.not_le.mpr c_24))
  refine j_bipush (v := 10) C dJ6_stringSize_0f7a4_31 (by decide) ?_
  refine j_iload_n C dJ6_stringSize_0f7a4_33 rfl rfl ?_
  refine j_imulE (v := (-100)) C dJ6_stringSize_0f7a4_34 (by decide) ?_
  refine j_istore_n (lv' := [(2, .int (-100)), (3, .int 1), (1, .int 1), (0, .int (-(nI a)))]) C dJ6_stringSize_0f7a4_35 rfl (by decide) rfl ?_
  refine j_iinc (v := nI 2) (lv' := [(3, .int (nI 2)), (2, .int (-100)), (1, .int 1), (0, .int (-(nI a)))]) C dJ6_stringSize_0f7a4_36 rfl (by decide) (by decide) rfl ?_
  refine j_goto (tgt := 16) C dJ6_stringSize_0f7a4_39 (by decide) ?_
  refine j_iload_n C dJ6_stringSize_0f7a4_16 rfl rfl ?_
  refine j_bipush (v := 10) C dJ6_stringSize_0f7a4_17 (by decide) ?_
  refine j_icmp_geN (a := 2) (b := 10) (tgt := 42) C dJ6_stringSize_0f7a4_19 (by decide) rfl rfl (by omega) (by omega) (fun c_19 => absurd c_19 (by omega)) (fun c_19 => ?_)
  refine j_iload_n C dJ6_stringSize_0f7a4_22 rfl rfl ?_
  refine j_iload_n C dJ6_stringSize_0f7a4_23 rfl rfl ?_
  refine j_icmp_le (tgt := 31) C dJ6_stringSize_0f7a4_24 (by decide)  (fun c_24 => absurd c_24 (ng10 a (by omega)).2.1) (fun c_24 => ?_)
  refine j_iload_n C dJ6_stringSize_0f7a4_27 rfl rfl ?_
  refine j_iload_n C dJ6_stringSize_0f7a4_28 rfl rfl ?_
  refine j_iaddN (a := 2) (b := 1) C dJ6_stringSize_0f7a4_29 rfl rfl ?_
  exact hrI _ _ _ _ _ _ (by omega) dJ6_stringSize_0f7a4_30 rfl rfl ⟨rfl, rfl⟩
theorem m_gc00 (l : Launch) (da N : Nat) (f : Nat → Int32) (n : Nat) (a : Nat) (h2 : a < 10) (hN : n + 1 ≤ N) (hN9 : N < 1000) : q_Jm l yJ6_getChars_ba4f3 kJ6_getChars_ba4f3 1 0 [.int (nI a), .int (nI (n + 1)), .ref da] (fun cy => [(da, .inl (cy 5, N, .inl f))]) (fun cy sz rv w' => rv = some (.int (nI n)) ∧ w' = [(da, .inl (cy 5, N, .inl (upd f n (q_ones a))))]) := by
  refine q_Jm_of (maxL := 7) rfl (by decide +kernel) (Nat.le_of_ble_eq_true rfl) ?_
  intro K C hi hrI hrA hrV
  have C : q_Cj K cJ6_getChars_ba4f3 RJ6 1 7 0 := C
  show q_J l K 0 [(da, .inl (q_cy K 5, N, .inl f))] 0 [(0, .int (nI a)), (1, .int (nI (n + 1))), (2, .ref da)] []
  refine j_iload_n C dJ6_getChars_ba4f3_0 rfl rfl ?_
  refine j_istore (lv' := [(5, .int (nI (n + 1))), (0, .int (nI a)), (1, .int (nI (n + 1))), (2, .ref da)]) C dJ6_getChars_ba4f3_1 (by decide) rfl ?_
  refine j_iload_n C dJ6_getChars_ba4f3_3 rfl rfl ?_
  refine j_if_geN (a := a) (tgt := 11) C dJ6_getChars_ba4f3_4 (by decide) rfl (by omega) (fun c_4 => ?_) (fun c_4 => (c_4.elim))
  refine j_iconst (v := 0) C dJ6_getChars_ba4f3_11 (by decide) ?_
  refine j_istore (lv' := [(6, .int 0), (5, .int (nI (n + 1))), (0, .int (nI a)), (1, .int (nI (n + 1))), (2, .ref da)]) C dJ6_getChars_ba4f3_12 (by decide) rfl ?_
  refine j_iload C dJ6_getChars_ba4f3_14 rfl ?_
  refine j_if_ne (tgt := 22) C dJ6_getChars_ba4f3_16 (by decide) (fun h9 => absurd h9 (by decide)) (fun _ => ?_)
  refine j_iload_n C dJ6_getChars_ba4f3_19 rfl rfl ?_
  refine j_ineg C dJ6_getChars_ba4f3_20 ?_
  refine j_istore_n (lv' := [(0, .int (-(nI a))), (6, .int 0), (5, .int (nI (n + 1))), (1, .int (nI (n + 1))), (2, .ref da)]) C dJ6_getChars_ba4f3_21 rfl (by decide) rfl ?_
  refine j_iload_n C dJ6_getChars_ba4f3_22 rfl rfl ?_
  refine j_bipush (v := (-100)) C dJ6_getChars_ba4f3_23 (by decide) ?_
  refine j_icmp_gt (tgt := 72) C dJ6_getChars_ba4f3_25 (by decide)  (fun c_25 => ?_) (fun c_25 => absurd (ng10 a (by omega)).2.2.2.2.1 (Int32.not_lt.mpr c_25))
  refine j_aload_n C dJ6_getChars_ba4f3_72 rfl rfl ?_
  refine j_iinc (v := nI n) (lv' := [(5, .int (nI n)), (0, .int (-(nI a))), (6, .int 0), (1, .int (nI (n + 1))), (2, .ref da)]) C dJ6_getChars_ba4f3_73 rfl (nI_dec (n)) (by decide) rfl ?_
  refine j_iload C dJ6_getChars_ba4f3_76 rfl ?_
  refine j_tones C flJ6_83 dJ6_getChars_ba4f3_78 ?_
  refine j_iload_n C dJ6_getChars_ba4f3_81 rfl rfl ?_
  refine j_ineg C dJ6_getChars_ba4f3_82 ?_
  refine j_top ((ng10 a (by omega)).2.2.2.2.2) ?_
  refine j_bones (i := a) C rfl (by omega) dJ6_getChars_ba4f3_83 ?_
  refine j_bast (i := n) (ws' := [(da, .inl (q_cy K 5, N, .inl (upd f n (q_ones a))))]) C rfl 0 rfl (by omega) (by omega) (jones a (by omega)).1 rfl dJ6_getChars_ba4f3_84 ?_
  refine j_iload_n C dJ6_getChars_ba4f3_85 rfl rfl ?_
  refine j_bipush (v := (-9)) C dJ6_getChars_ba4f3_86 (by decide) ?_
  refine j_icmp_ge (tgt := 104) C dJ6_getChars_ba4f3_88 (by decide)  (fun c_88 => ?_) (fun c_88 => absurd ((ng10 a (by omega)).2.2.2.1.mpr (by omega)) (Int32.not_le.mpr c_88))
  refine j_iload C dJ6_getChars_ba4f3_104 rfl ?_
  refine j_if_eq (tgt := 118) C dJ6_getChars_ba4f3_106 (by decide) (fun _ => ?_) (fun h9 => absurd h9 (by decide))
  refine j_iload C dJ6_getChars_ba4f3_118 rfl ?_
  exact hrI _ _ _ _ _ _ (by omega) dJ6_getChars_ba4f3_120 rfl rfl ⟨rfl, rfl⟩
theorem m_appI500 (l : Launch) (b da N : Nat) (f : Nat → Int32) (n : Nat) (hf : jB f) (hn : n ≤ N) (hb : N ≤ 2 * n + 16) (a : Nat) (h2 : a < 10) (hn9 : n < 110) : q_Jm l yJ5_append_c97b9 kJ5_append_c97b9 6 101 [.ref b, .int (nI a)] (fun cy => [(b, .inr (7, [.ref da, .int 0, .int 0, .int (nI n)])), (da, .inl (cy 5, N, .inl f))]) (fun cy sz rv w' => ∃ da' N' f', rv = some (.ref b) ∧ w' = uB cy b da' N' f' (n + 1) ∧ (da' = da ∨ sz ≤ da') ∧ n + 1 ≤ N' ∧ N' ≤ 2 * (n + 1) + 16 ∧ jB f' ∧ (∀ j, j < n → f' j = f j) ∧ f' n = q_ones a) := by
  refine q_Jm_of (maxL := 4) rfl (by decide +kernel) (Nat.le_of_ble_eq_true rfl) ?_
  intro K C hi hrI hrA hrV
  have C : q_Cj K cJ5_append_c97b9 RJ5 6 4 101 := C
  show q_J l K 0 [(b, .inr (7, [.ref da, .int 0, .int 0, .int (nI n)])), (da, .inl (q_cy K 5, N, .inl f))] 0 [(0, .ref b), (1, .int (nI a))] []
  refine j_aload_n C dJ5_append_c97b9_0 rfl rfl ?_
  refine j_get C fjJ5_79 0 rfl rfl dJ5_append_c97b9_1 ?_
  refine j_istore_n (lv' := [(2, .int (nI n)), (0, .ref b), (1, .int (nI a))]) C dJ5_append_c97b9_4 rfl (by decide) rfl ?_
  refine j_iload_n C dJ5_append_c97b9_5 rfl rfl ?_
  refine j_iload_n C dJ5_append_c97b9_6 rfl rfl ?_
  refine j_cs (w := (fun _ => [])) (fr := [(b, .inr (7, [.ref da, .int 0, .int 0, .int (nI n)])), (da, .inl (q_cy K 5, N, .inl f))]) (As := [.int (nI a)]) (rest := [.int (nI n)]) C (m_ss00 l a (by omega)) rfl jhJ6_stringSize_0f7a4 mlJ5_245 jsJ6_stringSize_0f7a4 jnJ6_stringSize_0f7a4 jcJ6_stringSize_0f7a4 rfl rfl ⟨by decide, by decide⟩ (by omega) (Nat.le_of_ble_eq_true rfl) dJ5_append_c97b9_7 (fun sz_7 rv w' hz_7 hl_7 hp_7 => ?_)
  obtain ⟨rfl, rfl⟩ := hp_7
  show q_J l K 0 [(b, .inr (7, [.ref da, .int 0, .int 0, .int (nI n)])), (da, .inl (q_cy K 5, N, .inl f))] 10 [(2, .int (nI n)), (0, .ref b), (1, .int (nI a))] [.int 1, .int (nI n)]
  refine j_iaddN (a := n) (b := 1) C dJ5_append_c97b9_10 rfl rfl ?_
  refine j_istore_n (lv' := [(3, .int (nI (n + 1))), (2, .int (nI n)), (0, .ref b), (1, .int (nI a))]) C dJ5_append_c97b9_11 rfl (by decide) rfl ?_
  refine j_aload_n C dJ5_append_c97b9_12 rfl rfl ?_
  refine j_iload_n C dJ5_append_c97b9_13 rfl rfl ?_
  refine j_cu (k0 := 0) (ci := 7) (w := (fun cy => uB cy b da N f n)) (fr := []) (As := [.int (nI (n + 1))]) (rest := []) C rfl (m_ensure l b da N f n hf (n + 1) (by omega) (by omega)) rfl rfl jhJ5_ensureCapacityInternal_d00df mlJ5_100 jiJ5_ensureCapacityInternal_d00df jnJ5_ensureCapacityInternal_d00df jcJ5_ensureCapacityInternal_d00df jmJ5_ensureCapacityInternal_d00df jSJ5_ensureCapacityInternal_d00df rfl rfl ⟨by decide, by decide⟩ (by omega) (Nat.le_of_ble_eq_true rfl) dJ5_append_c97b9_14 (fun sz_14 rv w' hz_14 hl_14 hp_14 => ?_)
  obtain ⟨da_14, N_14, f_14, rfl, rfl, hd_14, hq_14⟩ := hp_14
  show q_J l K (0 + 101) [(b, .inr (7, [.ref da_14, .int 0, .int 0, .int (nI n)])), (da_14, .inl (q_cy K 5, N_14, .inl f_14))] 17 [(3, .int (nI (n + 1))), (2, .int (nI n)), (0, .ref b), (1, .int (nI a))] []
  obtain ⟨e1, e2, e3, e4⟩ := m_ens hf hd_14 hn hb (show n ≤ n + 1 by omega)
  refine j_aload_n C dJ5_append_c97b9_17 rfl rfl ?_
  refine j_cu (k0 := 0) (ci := 7) (w := (fun cy => uB cy b da_14 N_14 f_14 n)) (fr := []) (As := []) (rest := []) C rfl (m_isLatin1 l b da_14 N_14 f_14 n) rfl rfl jhJ5_isLatin1_aae02 mlJ5_83 jiJ5_isLatin1_aae02 jnJ5_isLatin1_aae02 jcJ5_isLatin1_aae02 jmJ5_isLatin1_aae02 jSJ5_isLatin1_aae02 rfl rfl ⟨by decide, by decide⟩ (by omega) (Nat.le_of_ble_eq_true rfl) dJ5_append_c97b9_18 (fun sz_18 rv w' hz_18 hl_18 hp_18 => ?_)
  obtain ⟨rfl, rfl⟩ := hp_18
  show q_J l K (0 + 101) [(b, .inr (7, [.ref da_14, .int 0, .int 0, .int (nI n)])), (da_14, .inl (q_cy K 5, N_14, .inl f_14))] 21 [(3, .int (nI (n + 1))), (2, .int (nI n)), (0, .ref b), (1, .int (nI a))] [.int 1]
  refine j_if_eq (tgt := 37) C dJ5_append_c97b9_21 (by decide) (fun h9 => absurd h9 (by decide)) (fun _ => ?_)
  refine j_iload_n C dJ5_append_c97b9_24 rfl rfl ?_
  refine j_iload_n C dJ5_append_c97b9_25 rfl rfl ?_
  refine j_aload_n C dJ5_append_c97b9_26 rfl rfl ?_
  refine j_get C fjJ5_15 0 rfl rfl dJ5_append_c97b9_27 ?_
  refine j_sel [1, 0] (by decide) rfl ?_
  refine j_cs (w := (fun cy => [(da_14, .inl (cy 5, N_14, .inl f_14))])) (fr := [(b, .inr (7, [.ref da_14, .int 0, .int 0, .int (nI n)]))]) (As := [.int (nI a), .int (nI (n + 1)), .ref da_14]) (rest := []) C (m_gc00 l da_14 N_14 f_14 n a (by omega) (by omega) (by omega)) rfl jhJ6_getChars_ba4f3 mlJ5_248 jsJ6_getChars_ba4f3 jnJ6_getChars_ba4f3 jcJ6_getChars_ba4f3 rfl rfl ⟨by decide, by decide⟩ (by omega) (Nat.le_of_ble_eq_true rfl) dJ5_append_c97b9_30 (fun sz_30 rv w' hz_30 hl_30 hp_30 => ?_)
  obtain ⟨rfl, rfl⟩ := hp_30
  show q_J l K (0 + 101) [(da_14, .inl (q_cy K 5, N_14, .inl (upd f_14 n (q_ones a)))), (b, .inr (7, [.ref da_14, .int 0, .int 0, .int (nI n)]))] 33 [(3, .int (nI (n + 1))), (2, .int (nI n)), (0, .ref b), (1, .int (nI a))] [.int (nI n)]
  refine j_pop C rfl dJ5_append_c97b9_33 ?_
  refine j_goto (tgt := 48) C dJ5_append_c97b9_34 (by decide) ?_
  refine j_aload_n C dJ5_append_c97b9_48 rfl rfl ?_
  refine j_iload_n C dJ5_append_c97b9_49 rfl rfl ?_
  refine j_put (ws' := [(da_14, .inl (q_cy K 5, N_14, .inl (upd f_14 n (q_ones a)))), (b, .inr (7, [.ref da_14, .int 0, .int 0, .int (nI (n + 1))]))]) (ty9 := .int) C fjJ5_79 1 rfl (fun _ _ _ h => by cases h; exact ⟨rfl, rfl⟩) rfl rfl (Nat.le_of_ble_eq_true rfl) rfl dJ5_append_c97b9_50 ?_
  refine j_sel [1, 0] (by decide) rfl ?_
  refine j_aload_n C dJ5_append_c97b9_53 rfl rfl ?_
  exact hrA _ _ _ _ _ _ (by omega) dJ5_append_c97b9_54 rfl (Or.inl ⟨_, rfl⟩) ⟨_, _, _, rfl, rfl, e1.imp id (fun h => Nat.le_trans hz_14 h), by omega, by omega, jB_upd e2 _ (jones a (by omega)).1, fun j hj => by rw [← e3 j hj]; simp only [upd]; repeat rw [if_neg (by omega)], by simp [upd]⟩
theorem m_appI00 (l : Launch) (b da N : Nat) (f : Nat → Int32) (n : Nat) (hf : jB f) (hn : n ≤ N) (hb : N ≤ 2 * n + 16) (a : Nat) (h2 : a < 10) (hn9 : n < 110) : q_Jm l yJ4_append_bf812 kJ4_append_bf812 7 101 [.ref b, .int (nI a)] (fun cy => [(b, .inr (7, [.ref da, .int 0, .int 0, .int (nI n)])), (da, .inl (cy 5, N, .inl f))]) (fun cy sz rv w' => ∃ da' N' f', rv = some (.ref b) ∧ w' = uB cy b da' N' f' (n + 1) ∧ (da' = da ∨ sz ≤ da') ∧ n + 1 ≤ N' ∧ N' ≤ 2 * (n + 1) + 16 ∧ jB f' ∧ (∀ j, j < n → f' j = f j) ∧ f' n = q_ones a) := by
  refine q_Jm_of (maxL := 2) rfl (by decide +kernel) (Nat.le_of_ble_eq_true rfl) ?_
  intro K C hi hrI hrA hrV
  have C : q_Cj K cJ4_append_bf812 RJ4 7 2 101 := C
  show q_J l K 0 [(b, .inr (7, [.ref da, .int 0, .int 0, .int (nI n)])), (da, .inl (q_cy K 5, N, .inl f))] 0 [(0, .ref b), (1, .int (nI a))] []
  refine j_aload_n C dJ4_append_bf812_0 rfl rfl ?_
  refine j_iload_n C dJ4_append_bf812_1 rfl rfl ?_
  refine j_csu (k0 := 0) (w := (fun cy => uB cy b da N f n)) (fr := []) (As := [.int (nI a)]) (rest := []) C (m_appI500 l b da N f n hf hn hb a (by omega) (by omega)) rfl rfl rfl ⟨by decide, jhJ5_append_c97b9.2.2⟩ mlJ4_53 jiJ5_append_c97b9 jnJ5_append_c97b9 jcJ5_append_c97b9 jmJ5_append_c97b9 jw_su rfl rfl ⟨by decide, by decide⟩ (by omega) (Nat.le_of_ble_eq_true rfl) dJ4_append_bf812_2 (fun sz_2 rv w' hz_2 hl_2 hp_2 => ?_)
  obtain ⟨da_2, N_2, f_2, rfl, rfl, h1_2, h2_2⟩ := hp_2
  show q_J l K (0 + 101) [(b, .inr (7, [.ref da_2, .int 0, .int 0, .int (nI (n + 1))])), (da_2, .inl (q_cy K 5, N_2, .inl f_2))] 5 [(0, .ref b), (1, .int (nI a))] [.ref b]
  refine j_pop C rfl dJ4_append_bf812_5 ?_
  refine j_aload_n C dJ4_append_bf812_6 rfl rfl ?_
  exact hrA _ _ _ _ _ _ (by omega) dJ4_append_bf812_7 rfl (Or.inl ⟨_, rfl⟩) ⟨_, _, _, rfl, rfl, h1_2.imp id (fun h => Nat.le_trans hz_2 h), h2_2⟩
theorem m_gc01 (l : Launch) (da N : Nat) (f : Nat → Int32) (n : Nat) (a : Nat) (h1 : 10 ≤ a) (h2 : a < 100) (hN : n + 2 ≤ N) (hN9 : N < 1000) : q_Jm l yJ6_getChars_ba4f3 kJ6_getChars_ba4f3 1 0 [.int (nI a), .int (nI (n + 2)), .ref da] (fun cy => [(da, .inl (cy 5, N, .inl f))]) (fun cy sz rv w' => rv = some (.int (nI n)) ∧ w' = [(da, .inl (cy 5, N, .inl (upd (upd f (n + 1) (q_ones a)) n (q_tens a))))]) := by
  refine q_Jm_of (maxL := 7) rfl (by decide +kernel) (Nat.le_of_ble_eq_true rfl) ?_
  intro K C hi hrI hrA hrV
  have C : q_Cj K cJ6_getChars_ba4f3 RJ6 1 7 0 := C
  show q_J l K 0 [(da, .inl (q_cy K 5, N, .inl f))] 0 [(0, .int (nI a)), (1, .int (nI (n + 2))), (2, .ref da)] []
  refine j_iload_n C dJ6_getChars_ba4f3_0 rfl rfl ?_
  refine j_istore (lv' := [(5, .int (nI (n + 2))), (0, .int (nI a)), (1, .int (nI (n + 2))), (2, .ref da)]) C dJ6_getChars_ba4f3_1 (by decide) rfl ?_
  refine j_iload_n C dJ6_getChars_ba4f3_3 rfl rfl ?_
  refine j_if_geN (a := a) (tgt := 11) C dJ6_getChars_ba4f3_4 (by decide) rfl (by omega) (fun c_4 => ?_) (fun c_4 => (c_4.elim))
  refine j_iconst (v := 0) C dJ6_getChars_ba4f3_11 (by decide) ?_
  refine j_istore (lv' := [(6, .int 0), (5, .int (nI (n + 2))), (0, .int (nI a)), (1, .int (nI (n + 2))), (2, .ref da)]) C dJ6_getChars_ba4f3_12 (by decide) rfl ?_
  refine j_iload C dJ6_getChars_ba4f3_14 rfl ?_
  refine j_if_ne (tgt := 22) C dJ6_getChars_ba4f3_16 (by decide) (fun h9 => absurd h9 (by decide)) (fun _ => ?_)
  refine j_iload_n C dJ6_getChars_ba4f3_19 rfl rfl ?_
  refine j_ineg C dJ6_getChars_ba4f3_20 ?_
  refine j_istore_n (lv' := [(0, .int (-(nI a))), (6, .int 0), (5, .int (nI (n + 2))), (1, .int (nI (n + 2))), (2, .ref da)]) C dJ6_getChars_ba4f3_21 rfl (by decide) rfl ?_
  refine j_iload_n C dJ6_getChars_ba4f3_22 rfl rfl ?_
  refine j_bipush (v := (-100)) C dJ6_getChars_ba4f3_23 (by decide) ?_
  refine j_icmp_gt (tgt := 72) C dJ6_getChars_ba4f3_25 (by decide)  (fun c_25 => ?_) (fun c_25 => absurd (ng10 a (by omega)).2.2.2.2.1 (Int32.not_lt.mpr c_25))
  refine j_aload_n C dJ6_getChars_ba4f3_72 rfl rfl ?_
  refine j_iinc (v := nI (n + 1)) (lv' := [(5, .int (nI (n + 1))), (0, .int (-(nI a))), (6, .int 0), (1, .int (nI (n + 2))), (2, .ref da)]) C dJ6_getChars_ba4f3_73 rfl (nI_dec (n + 1)) (by decide) rfl ?_
  refine j_iload C dJ6_getChars_ba4f3_76 rfl ?_
  refine j_tones C flJ6_83 dJ6_getChars_ba4f3_78 ?_
  refine j_iload_n C dJ6_getChars_ba4f3_81 rfl rfl ?_
  refine j_ineg C dJ6_getChars_ba4f3_82 ?_
  refine j_top ((ng10 a (by omega)).2.2.2.2.2) ?_
  refine j_bones (i := a) C rfl (by omega) dJ6_getChars_ba4f3_83 ?_
  refine j_bast (i := n + 1) (ws' := [(da, .inl (q_cy K 5, N, .inl (upd f (n + 1) (q_ones a))))]) C rfl 0 rfl (by omega) (by omega) (jones a (by omega)).1 rfl dJ6_getChars_ba4f3_84 ?_
  refine j_iload_n C dJ6_getChars_ba4f3_85 rfl rfl ?_
  refine j_bipush (v := (-9)) C dJ6_getChars_ba4f3_86 (by decide) ?_
  refine j_icmp_ge (tgt := 104) C dJ6_getChars_ba4f3_88 (by decide)  (fun c_88 => absurd ((ng10 a (by omega)).2.2.2.1.mp c_88) (by omega)) (fun c_88 => ?_)
  refine j_aload_n C dJ6_getChars_ba4f3_91 rfl rfl ?_
  refine j_iinc (v := nI n) (lv' := [(5, .int (nI n)), (0, .int (-(nI a))), (6, .int 0), (1, .int (nI (n + 2))), (2, .ref da)]) C dJ6_getChars_ba4f3_92 rfl (nI_dec (n)) (by decide) rfl ?_
  refine j_iload C dJ6_getChars_ba4f3_95 rfl ?_
  refine j_ttens C flJ6_87 dJ6_getChars_ba4f3_97 ?_
  refine j_iload_n C dJ6_getChars_ba4f3_100 rfl rfl ?_
  refine j_ineg C dJ6_getChars_ba4f3_101 ?_
  refine j_top ((ng10 a (by omega)).2.2.2.2.2) ?_
  refine j_btens (i := a) C rfl (by omega) dJ6_getChars_ba4f3_102 ?_
  refine j_bast (i := n) (ws' := [(da, .inl (q_cy K 5, N, .inl (upd (upd f (n + 1) (q_ones a)) n (q_tens a))))]) C rfl 0 rfl (by omega) (by omega) (jones a (by omega)).2 rfl dJ6_getChars_ba4f3_103 ?_
  refine j_iload C dJ6_getChars_ba4f3_104 rfl ?_
  refine j_if_eq (tgt := 118) C dJ6_getChars_ba4f3_106 (by decide) (fun _ => ?_) (fun h9 => absurd h9 (by decide))
  refine j_iload C dJ6_getChars_ba4f3_118 rfl ?_
  exact hrI _ _ _ _ _ _ (by omega) dJ6_getChars_ba4f3_120 rfl rfl ⟨rfl, rfl⟩
theorem m_appI501 (l : Launch) (b da N : Nat) (f : Nat → Int32) (n : Nat) (hf : jB f) (hn : n ≤ N) (hb : N ≤ 2 * n + 16) (a : Nat) (h1 : 10 ≤ a) (h2 : a < 100) (hn9 : n < 110) : q_Jm l yJ5_append_c97b9 kJ5_append_c97b9 6 101 [.ref b, .int (nI a)] (fun cy => [(b, .inr (7, [.ref da, .int 0, .int 0, .int (nI n)])), (da, .inl (cy 5, N, .inl f))]) (fun cy sz rv w' => ∃ da' N' f', rv = some (.ref b) ∧ w' = uB cy b da' N' f' (n + 2) ∧ (da' = da ∨ sz ≤ da') ∧ n + 2 ≤ N' ∧ N' ≤ 2 * (n + 2) + 16 ∧ jB f' ∧ (∀ j, j < n → f' j = f j) ∧ f' n = q_tens a ∧ f' (n + 1) = q_ones a) := by
  refine q_Jm_of (maxL := 4) rfl (by decide +kernel) (Nat.le_of_ble_eq_true rfl) ?_
  intro K C hi hrI hrA hrV
  have C : q_Cj K cJ5_append_c97b9 RJ5 6 4 101 := C
  show q_J l K 0 [(b, .inr (7, [.ref da, .int 0, .int 0, .int (nI n)])), (da, .inl (q_cy K 5, N, .inl f))] 0 [(0, .ref b), (1, .int (nI a))] []
  refine j_aload_n C dJ5_append_c97b9_0 rfl rfl ?_
  refine j_get C fjJ5_79 0 rfl rfl dJ5_append_c97b9_1 ?_
  refine j_istore_n (lv' := [(2, .int (nI n)), (0, .ref b), (1, .int (nI a))]) C dJ5_append_c97b9_4 rfl (by decide) rfl ?_
  refine j_iload_n C dJ5_append_c97b9_5 rfl rfl ?_
  refine j_iload_n C dJ5_append_c97b9_6 rfl rfl ?_
  refine j_cs (w := (fun _ => [])) (fr := [(b, .inr (7, [.ref da, .int 0, .int 0, .int (nI n)])), (da, .inl (q_cy K 5, N, .inl f))]) (As := [.int (nI a)]) (rest := [.int (nI n)]) C (m_ss01 l a (by omega) (by omega)) rfl jhJ6_stringSize_0f7a4 mlJ5_245 jsJ6_stringSize_0f7a4 jnJ6_stringSize_0f7a4 jcJ6_stringSize_0f7a4 rfl rfl ⟨by decide, by decide⟩ (by omega) (Nat.le_of_ble_eq_true rfl) dJ5_append_c97b9_7 (fun sz_7 rv w' hz_7 hl_7 hp_7 => ?_)
  obtain ⟨rfl, rfl⟩ := hp_7
  show q_J l K 0 [(b, .inr (7, [.ref da, .int 0, .int 0, .int (nI n)])), (da, .inl (q_cy K 5, N, .inl f))] 10 [(2, .int (nI n)), (0, .ref b), (1, .int (nI a))] [.int 2, .int (nI n)]
  refine j_iaddN (a := n) (b := 2) C dJ5_append_c97b9_10 rfl rfl ?_
  refine j_istore_n (lv' := [(3, .int (nI (n + 2))), (2, .int (nI n)), (0, .ref b), (1, .int (nI a))]) C dJ5_append_c97b9_11 rfl (by decide) rfl ?_
  refine j_aload_n C dJ5_append_c97b9_12 rfl rfl ?_
  refine j_iload_n C dJ5_append_c97b9_13 rfl rfl ?_
  refine j_cu (k0 := 0) (ci := 7) (w := (fun cy => uB cy b da N f n)) (fr := []) (As := [.int (nI (n + 2))]) (rest := []) C rfl (m_ensure l b da N f n hf (n + 2) (by omega) (by omega)) rfl rfl jhJ5_ensureCapacityInternal_d00df mlJ5_100 jiJ5_ensureCapacityInternal_d00df jnJ5_ensureCapacityInternal_d00df jcJ5_ensureCapacityInternal_d00df jmJ5_ensureCapacityInternal_d00df jSJ5_ensureCapacityInternal_d00df rfl rfl ⟨by decide, by decide⟩ (by omega) (Nat.le_of_ble_eq_true rfl) dJ5_append_c97b9_14 (fun sz_14 rv w' hz_14 hl_14 hp_14 => ?_)
  obtain ⟨da_14, N_14, f_14, rfl, rfl, hd_14, hq_14⟩ := hp_14
  show q_J l K (0 + 101) [(b, .inr (7, [.ref da_14, .int 0, .int 0, .int (nI n)])), (da_14, .inl (q_cy K 5, N_14, .inl f_14))] 17 [(3, .int (nI (n + 2))), (2, .int (nI n)), (0, .ref b), (1, .int (nI a))] []
  obtain ⟨e1, e2, e3, e4⟩ := m_ens hf hd_14 hn hb (show n ≤ n + 2 by omega)
  refine j_aload_n C dJ5_append_c97b9_17 rfl rfl ?_
  refine j_cu (k0 := 0) (ci := 7) (w := (fun cy => uB cy b da_14 N_14 f_14 n)) (fr := []) (As := []) (rest := []) C rfl (m_isLatin1 l b da_14 N_14 f_14 n) rfl rfl jhJ5_isLatin1_aae02 mlJ5_83 jiJ5_isLatin1_aae02 jnJ5_isLatin1_aae02 jcJ5_isLatin1_aae02 jmJ5_isLatin1_aae02 jSJ5_isLatin1_aae02 rfl rfl ⟨by decide, by decide⟩ (by omega) (Nat.le_of_ble_eq_true rfl) dJ5_append_c97b9_18 (fun sz_18 rv w' hz_18 hl_18 hp_18 => ?_)
  obtain ⟨rfl, rfl⟩ := hp_18
  show q_J l K (0 + 101) [(b, .inr (7, [.ref da_14, .int 0, .int 0, .int (nI n)])), (da_14, .inl (q_cy K 5, N_14, .inl f_14))] 21 [(3, .int (nI (n + 2))), (2, .int (nI n)), (0, .ref b), (1, .int (nI a))] [.int 1]
  refine j_if_eq (tgt := 37) C dJ5_append_c97b9_21 (by decide) (fun h9 => absurd h9 (by decide)) (fun _ => ?_)
  refine j_iload_n C dJ5_append_c97b9_24 rfl rfl ?_
  refine j_iload_n C dJ5_append_c97b9_25 rfl rfl ?_
  refine j_aload_n C dJ5_append_c97b9_26 rfl rfl ?_
  refine j_get C fjJ5_15 0 rfl rfl dJ5_append_c97b9_27 ?_
  refine j_sel [1, 0] (by decide) rfl ?_
  refine j_cs (w := (fun cy => [(da_14, .inl (cy 5, N_14, .inl f_14))])) (fr := [(b, .inr (7, [.ref da_14, .int 0, .int 0, .int (nI n)]))]) (As := [.int (nI a), .int (nI (n + 2)), .ref da_14]) (rest := []) C (m_gc01 l da_14 N_14 f_14 n a (by omega) (by omega) (by omega) (by omega)) rfl jhJ6_getChars_ba4f3 mlJ5_248 jsJ6_getChars_ba4f3 jnJ6_getChars_ba4f3 jcJ6_getChars_ba4f3 rfl rfl ⟨by decide, by decide⟩ (by omega) (Nat.le_of_ble_eq_true rfl) dJ5_append_c97b9_30 (fun sz_30 rv w' hz_30 hl_30 hp_30 => ?_)
  obtain ⟨rfl, rfl⟩ := hp_30
  show q_J l K (0 + 101) [(da_14, .inl (q_cy K 5, N_14, .inl (upd (upd f_14 (n + 1) (q_ones a)) n (q_tens a)))), (b, .inr (7, [.ref da_14, .int 0, .int 0, .int (nI n)]))] 33 [(3, .int (nI (n + 2))), (2, .int (nI n)), (0, .ref b), (1, .int (nI a))] [.int (nI n)]
  refine j_pop C rfl dJ5_append_c97b9_33 ?_
  refine j_goto (tgt := 48) C dJ5_append_c97b9_34 (by decide) ?_
  refine j_aload_n C dJ5_append_c97b9_48 rfl rfl ?_
  refine j_iload_n C dJ5_append_c97b9_49 rfl rfl ?_
  refine j_put (ws' := [(da_14, .inl (q_cy K 5, N_14, .inl (upd (upd f_14 (n + 1) (q_ones a)) n (q_tens a)))), (b, .inr (7, [.ref da_14, .int 0, .int 0, .int (nI (n + 2))]))]) (ty9 := .int) C fjJ5_79 1 rfl (fun _ _ _ h => by cases h; exact ⟨rfl, rfl⟩) rfl rfl (Nat.le_of_ble_eq_true rfl) rfl dJ5_append_c97b9_50 ?_
  refine j_sel [1, 0] (by decide) rfl ?_
  refine j_aload_n C dJ5_append_c97b9_53 rfl rfl ?_
  exact hrA _ _ _ _ _ _ (by omega) dJ5_append_c97b9_54 rfl (Or.inl ⟨_, rfl⟩) ⟨_, _, _, rfl, rfl, e1.imp id (fun h => Nat.le_trans hz_14 h), by omega, by omega, jB_upd (jB_upd e2 _ (jones a (by omega)).1) _ (jones a (by omega)).2, fun j hj => by rw [← e3 j hj]; simp only [upd]; repeat rw [if_neg (by omega)], by simp [upd], by simp [upd]⟩
theorem m_appI01 (l : Launch) (b da N : Nat) (f : Nat → Int32) (n : Nat) (hf : jB f) (hn : n ≤ N) (hb : N ≤ 2 * n + 16) (a : Nat) (h1 : 10 ≤ a) (h2 : a < 100) (hn9 : n < 110) : q_Jm l yJ4_append_bf812 kJ4_append_bf812 7 101 [.ref b, .int (nI a)] (fun cy => [(b, .inr (7, [.ref da, .int 0, .int 0, .int (nI n)])), (da, .inl (cy 5, N, .inl f))]) (fun cy sz rv w' => ∃ da' N' f', rv = some (.ref b) ∧ w' = uB cy b da' N' f' (n + 2) ∧ (da' = da ∨ sz ≤ da') ∧ n + 2 ≤ N' ∧ N' ≤ 2 * (n + 2) + 16 ∧ jB f' ∧ (∀ j, j < n → f' j = f j) ∧ f' n = q_tens a ∧ f' (n + 1) = q_ones a) := by
  refine q_Jm_of (maxL := 2) rfl (by decide +kernel) (Nat.le_of_ble_eq_true rfl) ?_
  intro K C hi hrI hrA hrV
  have C : q_Cj K cJ4_append_bf812 RJ4 7 2 101 := C
  show q_J l K 0 [(b, .inr (7, [.ref da, .int 0, .int 0, .int (nI n)])), (da, .inl (q_cy K 5, N, .inl f))] 0 [(0, .ref b), (1, .int (nI a))] []
  refine j_aload_n C dJ4_append_bf812_0 rfl rfl ?_
  refine j_iload_n C dJ4_append_bf812_1 rfl rfl ?_
  refine j_csu (k0 := 0) (w := (fun cy => uB cy b da N f n)) (fr := []) (As := [.int (nI a)]) (rest := []) C (m_appI501 l b da N f n hf hn hb a (by omega) (by omega) (by omega)) rfl rfl rfl ⟨by decide, jhJ5_append_c97b9.2.2⟩ mlJ4_53 jiJ5_append_c97b9 jnJ5_append_c97b9 jcJ5_append_c97b9 jmJ5_append_c97b9 jw_su rfl rfl ⟨by decide, by decide⟩ (by omega) (Nat.le_of_ble_eq_true rfl) dJ4_append_bf812_2 (fun sz_2 rv w' hz_2 hl_2 hp_2 => ?_)
  obtain ⟨da_2, N_2, f_2, rfl, rfl, h1_2, h2_2⟩ := hp_2
  show q_J l K (0 + 101) [(b, .inr (7, [.ref da_2, .int 0, .int 0, .int (nI (n + 2))])), (da_2, .inl (q_cy K 5, N_2, .inl f_2))] 5 [(0, .ref b), (1, .int (nI a))] [.ref b]
  refine j_pop C rfl dJ4_append_bf812_5 ?_
  refine j_aload_n C dJ4_append_bf812_6 rfl rfl ?_
  exact hrA _ _ _ _ _ _ (by omega) dJ4_append_bf812_7 rfl (Or.inl ⟨_, rfl⟩) ⟨_, _, _, rfl, rfl, h1_2.imp id (fun h => Nat.le_trans hz_2 h), h2_2⟩
theorem m_gc10 (l : Launch) (da N : Nat) (f : Nat → Int32) (n : Nat) (a : Nat) (h1 : 1 ≤ a) (h2 : a < 10) (hN : n + 2 ≤ N) (hN9 : N < 1000) : q_Jm l yJ6_getChars_ba4f3 kJ6_getChars_ba4f3 1 0 [.int (-(nI a)), .int (nI (n + 2)), .ref da] (fun cy => [(da, .inl (cy 5, N, .inl f))]) (fun cy sz rv w' => rv = some (.int (nI n)) ∧ w' = [(da, .inl (cy 5, N, .inl (upd (upd f (n + 1) (q_ones a)) n 45)))]) := by
  refine q_Jm_of (maxL := 7) rfl (by decide +kernel) (Nat.le_of_ble_eq_true rfl) ?_
  intro K C hi hrI hrA hrV
  have C : q_Cj K cJ6_getChars_ba4f3 RJ6 1 7 0 := C
  show q_J l K 0 [(da, .inl (q_cy K 5, N, .inl f))] 0 [(0, .int (-(nI a))), (1, .int (nI (n + 2))), (2, .ref da)] []
  refine j_iload_n C dJ6_getChars_ba4f3_0 rfl rfl ?_
  refine j_istore (lv' := [(5, .int (nI (n + 2))), (0, .int (-(nI a))), (1, .int (nI (n + 2))), (2, .ref da)]) C dJ6_getChars_ba4f3_1 (by decide) rfl ?_
  refine j_iload_n C dJ6_getChars_ba4f3_3 rfl rfl ?_
  refine j_if_ge (tgt := 11) C dJ6_getChars_ba4f3_4 (by decide)  (fun c_4 => absurd ((ng10 a (by omega)).2.2.1 (by omega)) (Int32.not_lt.mpr c_4)) (fun c_4 => ?_)
  refine j_iconst (v := 1) C dJ6_getChars_ba4f3_7 (by decide) ?_
  refine j_goto (tgt := 12) C dJ6_getChars_ba4f3_8 (by decide) ?_
  refine j_istore (lv' := [(6, .int 1), (5, .int (nI (n + 2))), (0, .int (-(nI a))), (1, .int (nI (n + 2))), (2, .ref da)]) C dJ6_getChars_ba4f3_12 (by decide) rfl ?_
  refine j_iload C dJ6_getChars_ba4f3_14 rfl ?_
  refine j_if_ne (tgt := 22) C dJ6_getChars_ba4f3_16 (by decide) (fun _ => ?_) (fun h9 => absurd h9 (by decide))
  refine j_iload_n C dJ6_getChars_ba4f3_22 rfl rfl ?_
  refine j_bipush (v := (-100)) C dJ6_getChars_ba4f3_23 (by decide) ?_
  refine j_icmp_gt (tgt := 72) C dJ6_getChars_ba4f3_25 (by decide)  (fun c_25 => ?_) (fun c_25 => absurd (ng10 a (by omega)).2.2.2.2.1 (Int32.not_lt.mpr c_25))
  refine j_aload_n C dJ6_getChars_ba4f3_72 rfl rfl ?_
  refine j_iinc (v := nI (n + 1)) (lv' := [(5, .int (nI (n + 1))), (6, .int 1), (0, .int (-(nI a))), (1, .int (nI (n + 2))), (2, .ref da)]) C dJ6_getChars_ba4f3_73 rfl (nI_dec (n + 1)) (by decide) rfl ?_
  refine j_iload C dJ6_getChars_ba4f3_76 rfl ?_
  refine j_tones C flJ6_83 dJ6_getChars_ba4f3_78 ?_
  refine j_iload_n C dJ6_getChars_ba4f3_81 rfl rfl ?_
  refine j_ineg C dJ6_getChars_ba4f3_82 ?_
  refine j_top ((ng10 a (by omega)).2.2.2.2.2) ?_
  refine j_bones (i := a) C rfl (by omega) dJ6_getChars_ba4f3_83 ?_
  refine j_bast (i := n + 1) (ws' := [(da, .inl (q_cy K 5, N, .inl (upd f (n + 1) (q_ones a))))]) C rfl 0 rfl (by omega) (by omega) (jones a (by omega)).1 rfl dJ6_getChars_ba4f3_84 ?_
  refine j_iload_n C dJ6_getChars_ba4f3_85 rfl rfl ?_
  refine j_bipush (v := (-9)) C dJ6_getChars_ba4f3_86 (by decide) ?_
  refine j_icmp_ge (tgt := 104) C dJ6_getChars_ba4f3_88 (by decide)  (fun c_88 => ?_) (fun c_88 => absurd ((ng10 a (by omega)).2.2.2.1.mpr (by omega)) (Int32.not_le.mpr c_88))
  refine j_iload C dJ6_getChars_ba4f3_104 rfl ?_
  refine j_if_eq (tgt := 118) C dJ6_getChars_ba4f3_106 (by decide) (fun h9 => absurd h9 (by decide)) (fun _ => ?_)
  refine j_aload_n C dJ6_getChars_ba4f3_109 rfl rfl ?_
  refine j_iinc (v := nI n) (lv' := [(5, .int (nI n)), (6, .int 1), (0, .int (-(nI a))), (1, .int (nI (n + 2))), (2, .ref da)]) C dJ6_getChars_ba4f3_110 rfl (nI_dec (n)) (by decide) rfl ?_
  refine j_iload C dJ6_getChars_ba4f3_113 rfl ?_
  refine j_bipush (v := 45) C dJ6_getChars_ba4f3_115 (by decide) ?_
  refine j_bast (i := n) (ws' := [(da, .inl (q_cy K 5, N, .inl (upd (upd f (n + 1) (q_ones a)) n 45)))]) C rfl 0 rfl (by omega) (by omega) (by decide) rfl dJ6_getChars_ba4f3_117 ?_
  refine j_iload C dJ6_getChars_ba4f3_118 rfl ?_
  exact hrI _ _ _ _ _ _ (by omega) dJ6_getChars_ba4f3_120 rfl rfl ⟨rfl, rfl⟩
theorem m_appI510 (l : Launch) (b da N : Nat) (f : Nat → Int32) (n : Nat) (hf : jB f) (hn : n ≤ N) (hb : N ≤ 2 * n + 16) (a : Nat) (h1 : 1 ≤ a) (h2 : a < 10) (hn9 : n < 110) : q_Jm l yJ5_append_c97b9 kJ5_append_c97b9 6 101 [.ref b, .int (-(nI a))] (fun cy => [(b, .inr (7, [.ref da, .int 0, .int 0, .int (nI n)])), (da, .inl (cy 5, N, .inl f))]) (fun cy sz rv w' => ∃ da' N' f', rv = some (.ref b) ∧ w' = uB cy b da' N' f' (n + 2) ∧ (da' = da ∨ sz ≤ da') ∧ n + 2 ≤ N' ∧ N' ≤ 2 * (n + 2) + 16 ∧ jB f' ∧ (∀ j, j < n → f' j = f j) ∧ f' n = 45 ∧ f' (n + 1) = q_ones a) := by
  refine q_Jm_of (maxL := 4) rfl (by decide +kernel) (Nat.le_of_ble_eq_true rfl) ?_
  intro K C hi hrI hrA hrV
  have C : q_Cj K cJ5_append_c97b9 RJ5 6 4 101 := C
  show q_J l K 0 [(b, .inr (7, [.ref da, .int 0, .int 0, .int (nI n)])), (da, .inl (q_cy K 5, N, .inl f))] 0 [(0, .ref b), (1, .int (-(nI a)))] []
  refine j_aload_n C dJ5_append_c97b9_0 rfl rfl ?_
  refine j_get C fjJ5_79 0 rfl rfl dJ5_append_c97b9_1 ?_
  refine j_istore_n (lv' := [(2, .int (nI n)), (0, .ref b), (1, .int (-(nI a)))]) C dJ5_append_c97b9_4 rfl (by decide) rfl ?_
  refine j_iload_n C dJ5_append_c97b9_5 rfl rfl ?_
  refine j_iload_n C dJ5_append_c97b9_6 rfl rfl ?_
  refine j_cs (w := (fun _ => [])) (fr := [(b, .inr (7, [.ref da, .int 0, .int 0, .int (nI n)])), (da, .inl (q_cy K 5, N, .inl f))]) (As := [.int (-(nI a))]) (rest := [.int (nI n)]) C (m_ss10 l a (by omega) (by omega)) rfl jhJ6_stringSize_0f7a4 mlJ5_245 jsJ6_stringSize_0f7a4 jnJ6_stringSize_0f7a4 jcJ6_stringSize_0f7a4 rfl rfl ⟨by decide, by decide⟩ (by omega) (Nat.le_of_ble_eq_true rfl) dJ5_append_c97b9_7 (fun sz_7 rv w' hz_7 hl_7 hp_7 => ?_)
  obtain ⟨rfl, rfl⟩ := hp_7
  show q_J l K 0 [(b, .inr (7, [.ref da, .int 0, .int 0, .int (nI n)])), (da, .inl (q_cy K 5, N, .inl f))] 10 [(2, .int (nI n)), (0, .ref b), (1, .int (-(nI a)))] [.int 2, .int (nI n)]
  refine j_iaddN (a := n) (b := 2) C dJ5_append_c97b9_10 rfl rfl ?_
  refine j_istore_n (lv' := [(3, .int (nI (n + 2))), (2, .int (nI n)), (0, .ref b), (1, .int (-(nI a)))]) C dJ5_append_c97b9_11 rfl (by decide) rfl ?_
  refine j_aload_n C dJ5_append_c97b9_12 rfl rfl ?_
  refine j_iload_n C dJ5_append_c97b9_13 rfl rfl ?_
  refine j_cu (k0 := 0) (ci := 7) (w := (fun cy => uB cy b da N f n)) (fr := []) (As := [.int (nI (n + 2))]) (rest := []) C rfl (m_ensure l b da N f n hf (n + 2) (by omega) (by omega)) rfl rfl jhJ5_ensureCapacityInternal_d00df mlJ5_100 jiJ5_ensureCapacityInternal_d00df jnJ5_ensureCapacityInternal_d00df jcJ5_ensureCapacityInternal_d00df jmJ5_ensureCapacityInternal_d00df jSJ5_ensureCapacityInternal_d00df rfl rfl ⟨by decide, by decide⟩ (by omega) (Nat.le_of_ble_eq_true rfl) dJ5_append_c97b9_14 (fun sz_14 rv w' hz_14 hl_14 hp_14 => ?_)
  obtain ⟨da_14, N_14, f_14, rfl, rfl, hd_14, hq_14⟩ := hp_14
  show q_J l K (0 + 101) [(b, .inr (7, [.ref da_14, .int 0, .int 0, .int (nI n)])), (da_14, .inl (q_cy K 5, N_14, .inl f_14))] 17 [(3, .int (nI (n + 2))), (2, .int (nI n)), (0, .ref b), (1, .int (-(nI a)))] []
  obtain ⟨e1, e2, e3, e4⟩ := m_ens hf hd_14 hn hb (show n ≤ n + 2 by omega)
  refine j_aload_n C dJ5_append_c97b9_17 rfl rfl ?_
  refine j_cu (k0 := 0) (ci := 7) (w := (fun cy => uB cy b da_14 N_14 f_14 n)) (fr := []) (As := []) (rest := []) C rfl (m_isLatin1 l b da_14 N_14 f_14 n) rfl rfl jhJ5_isLatin1_aae02 mlJ5_83 jiJ5_isLatin1_aae02 jnJ5_isLatin1_aae02 jcJ5_isLatin1_aae02 jmJ5_isLatin1_aae02 jSJ5_isLatin1_aae02 rfl rfl ⟨by decide, by decide⟩ (by omega) (Nat.le_of_ble_eq_true rfl) dJ5_append_c97b9_18 (fun sz_18 rv w' hz_18 hl_18 hp_18 => ?_)
  obtain ⟨rfl, rfl⟩ := hp_18
  show q_J l K (0 + 101) [(b, .inr (7, [.ref da_14, .int 0, .int 0, .int (nI n)])), (da_14, .inl (q_cy K 5, N_14, .inl f_14))] 21 [(3, .int (nI (n + 2))), (2, .int (nI n)), (0, .ref b), (1, .int (-(nI a)))] [.int 1]
  refine j_if_eq (tgt := 37) C dJ5_append_c97b9_21 (by decide) (fun h9 => absurd h9 (by decide)) (fun _ => ?_)
  refine j_iload_n C dJ5_append_c97b9_24 rfl rfl ?_
  refine j_iload_n C dJ5_append_c97b9_25 rfl rfl ?_
  refine j_aload_n C dJ5_append_c97b9_26 rfl rfl ?_
  refine j_get C fjJ5_15 0 rfl rfl dJ5_append_c97b9_27 ?_
  refine j_sel [1, 0] (by decide) rfl ?_
  refine j_cs (w := (fun cy => [(da_14, .inl (cy 5, N_14, .inl f_14))])) (fr := [(b, .inr (7, [.ref da_14, .int 0, .int 0, .int (nI n)]))]) (As := [.int (-(nI a)), .int (nI (n + 2)), .ref da_14]) (rest := []) C (m_gc10 l da_14 N_14 f_14 n a (by omega) (by omega) (by omega) (by omega)) rfl jhJ6_getChars_ba4f3 mlJ5_248 jsJ6_getChars_ba4f3 jnJ6_getChars_ba4f3 jcJ6_getChars_ba4f3 rfl rfl ⟨by decide, by decide⟩ (by omega) (Nat.le_of_ble_eq_true rfl) dJ5_append_c97b9_30 (fun sz_30 rv w' hz_30 hl_30 hp_30 => ?_)
  obtain ⟨rfl, rfl⟩ := hp_30
  show q_J l K (0 + 101) [(da_14, .inl (q_cy K 5, N_14, .inl (upd (upd f_14 (n + 1) (q_ones a)) n 45))), (b, .inr (7, [.ref da_14, .int 0, .int 0, .int (nI n)]))] 33 [(3, .int (nI (n + 2))), (2, .int (nI n)), (0, .ref b), (1, .int (-(nI a)))] [.int (nI n)]
  refine j_pop C rfl dJ5_append_c97b9_33 ?_
  refine j_goto (tgt := 48) C dJ5_append_c97b9_34 (by decide) ?_
  refine j_aload_n C dJ5_append_c97b9_48 rfl rfl ?_
  refine j_iload_n C dJ5_append_c97b9_49 rfl rfl ?_
  refine j_put (ws' := [(da_14, .inl (q_cy K 5, N_14, .inl (upd (upd f_14 (n + 1) (q_ones a)) n 45))), (b, .inr (7, [.ref da_14, .int 0, .int 0, .int (nI (n + 2))]))]) (ty9 := .int) C fjJ5_79 1 rfl (fun _ _ _ h => by cases h; exact ⟨rfl, rfl⟩) rfl rfl (Nat.le_of_ble_eq_true rfl) rfl dJ5_append_c97b9_50 ?_
  refine j_sel [1, 0] (by decide) rfl ?_
  refine j_aload_n C dJ5_append_c97b9_53 rfl rfl ?_
  exact hrA _ _ _ _ _ _ (by omega) dJ5_append_c97b9_54 rfl (Or.inl ⟨_, rfl⟩) ⟨_, _, _, rfl, rfl, e1.imp id (fun h => Nat.le_trans hz_14 h), by omega, by omega, jB_upd (jB_upd e2 _ (jones a (by omega)).1) _ (by decide), fun j hj => by rw [← e3 j hj]; simp only [upd]; repeat rw [if_neg (by omega)], by simp [upd], by simp [upd]⟩
theorem m_appI10 (l : Launch) (b da N : Nat) (f : Nat → Int32) (n : Nat) (hf : jB f) (hn : n ≤ N) (hb : N ≤ 2 * n + 16) (a : Nat) (h1 : 1 ≤ a) (h2 : a < 10) (hn9 : n < 110) : q_Jm l yJ4_append_bf812 kJ4_append_bf812 7 101 [.ref b, .int (-(nI a))] (fun cy => [(b, .inr (7, [.ref da, .int 0, .int 0, .int (nI n)])), (da, .inl (cy 5, N, .inl f))]) (fun cy sz rv w' => ∃ da' N' f', rv = some (.ref b) ∧ w' = uB cy b da' N' f' (n + 2) ∧ (da' = da ∨ sz ≤ da') ∧ n + 2 ≤ N' ∧ N' ≤ 2 * (n + 2) + 16 ∧ jB f' ∧ (∀ j, j < n → f' j = f j) ∧ f' n = 45 ∧ f' (n + 1) = q_ones a) := by
  refine q_Jm_of (maxL := 2) rfl (by decide +kernel) (Nat.le_of_ble_eq_true rfl) ?_
  intro K C hi hrI hrA hrV
  have C : q_Cj K cJ4_append_bf812 RJ4 7 2 101 := C
  show q_J l K 0 [(b, .inr (7, [.ref da, .int 0, .int 0, .int (nI n)])), (da, .inl (q_cy K 5, N, .inl f))] 0 [(0, .ref b), (1, .int (-(nI a)))] []
  refine j_aload_n C dJ4_append_bf812_0 rfl rfl ?_
  refine j_iload_n C dJ4_append_bf812_1 rfl rfl ?_
  refine j_csu (k0 := 0) (w := (fun cy => uB cy b da N f n)) (fr := []) (As := [.int (-(nI a))]) (rest := []) C (m_appI510 l b da N f n hf hn hb a (by omega) (by omega) (by omega)) rfl rfl rfl ⟨by decide, jhJ5_append_c97b9.2.2⟩ mlJ4_53 jiJ5_append_c97b9 jnJ5_append_c97b9 jcJ5_append_c97b9 jmJ5_append_c97b9 jw_su rfl rfl ⟨by decide, by decide⟩ (by omega) (Nat.le_of_ble_eq_true rfl) dJ4_append_bf812_2 (fun sz_2 rv w' hz_2 hl_2 hp_2 => ?_)
  obtain ⟨da_2, N_2, f_2, rfl, rfl, h1_2, h2_2⟩ := hp_2
  show q_J l K (0 + 101) [(b, .inr (7, [.ref da_2, .int 0, .int 0, .int (nI (n + 2))])), (da_2, .inl (q_cy K 5, N_2, .inl f_2))] 5 [(0, .ref b), (1, .int (-(nI a)))] [.ref b]
  refine j_pop C rfl dJ4_append_bf812_5 ?_
  refine j_aload_n C dJ4_append_bf812_6 rfl rfl ?_
  exact hrA _ _ _ _ _ _ (by omega) dJ4_append_bf812_7 rfl (Or.inl ⟨_, rfl⟩) ⟨_, _, _, rfl, rfl, h1_2.imp id (fun h => Nat.le_trans hz_2 h), h2_2⟩
theorem m_gc11 (l : Launch) (da N : Nat) (f : Nat → Int32) (n : Nat) (a : Nat) (h1 : 10 ≤ a) (h2 : a < 100) (hN : n + 3 ≤ N) (hN9 : N < 1000) : q_Jm l yJ6_getChars_ba4f3 kJ6_getChars_ba4f3 1 0 [.int (-(nI a)), .int (nI (n + 3)), .ref da] (fun cy => [(da, .inl (cy 5, N, .inl f))]) (fun cy sz rv w' => rv = some (.int (nI n)) ∧ w' = [(da, .inl (cy 5, N, .inl (upd (upd (upd f (n + 2) (q_ones a)) (n + 1) (q_tens a)) n 45)))]) := by
  refine q_Jm_of (maxL := 7) rfl (by decide +kernel) (Nat.le_of_ble_eq_true rfl) ?_
  intro K C hi hrI hrA hrV
  have C : q_Cj K cJ6_getChars_ba4f3 RJ6 1 7 0 := C
  show q_J l K 0 [(da, .inl (q_cy K 5, N, .inl f))] 0 [(0, .int (-(nI a))), (1, .int (nI (n + 3))), (2, .ref da)] []
  refine j_iload_n C dJ6_getChars_ba4f3_0 rfl rfl ?_
  refine j_istore (lv' := [(5, .int (nI (n + 3))), (0, .int (-(nI a))), (1, .int (nI (n + 3))), (2, .ref da)]) C dJ6_getChars_ba4f3_1 (by decide) rfl ?_
  refine j_iload_n C dJ6_getChars_ba4f3_3 rfl rfl ?_
  refine j_if_ge (tgt := 11) C dJ6_getChars_ba4f3_4 (by decide)  (fun c_4 => absurd ((ng10 a (by omega)).2.2.1 (by omega)) (Int32.not_lt.mpr c_4)) (fun c_4 => ?_)
  refine j_iconst (v := 1) C dJ6_getChars_ba4f3_7 (by decide) ?_
  refine j_goto (tgt := 12) C dJ6_getChars_ba4f3_8 (by decide) ?_
  refine j_istore (lv' := [(6, .int 1), (5, .int (nI (n + 3))), (0, .int (-(nI a))), (1, .int (nI (n + 3))), (2, .ref da)]) C dJ6_getChars_ba4f3_12 (by decide) rfl ?_
  refine j_iload C dJ6_getChars_ba4f3_14 rfl ?_
  refine j_if_ne (tgt := 22) C dJ6_getChars_ba4f3_16 (by decide) (fun _ => ?_) (fun h9 => absurd h9 (by decide))
  refine j_iload_n C dJ6_getChars_ba4f3_22 rfl rfl ?_
  refine j_bipush (v := (-100)) C dJ6_getChars_ba4f3_23 (by decide) ?_
  refine j_icmp_gt (tgt := 72) C dJ6_getChars_ba4f3_25 (by decide)  (fun c_25 => ?_) (fun c_25 => absurd (ng10 a (by omega)).2.2.2.2.1 (Int32.not_lt.mpr c_25))
  refine j_aload_n C dJ6_getChars_ba4f3_72 rfl rfl ?_
  refine j_iinc (v := nI (n + 2)) (lv' := [(5, .int (nI (n + 2))), (6, .int 1), (0, .int (-(nI a))), (1, .int (nI (n + 3))), (2, .ref da)]) C dJ6_getChars_ba4f3_73 rfl (nI_dec (n + 2)) (by decide) rfl ?_
  refine j_iload C dJ6_getChars_ba4f3_76 rfl ?_
  refine j_tones C flJ6_83 dJ6_getChars_ba4f3_78 ?_
  refine j_iload_n C dJ6_getChars_ba4f3_81 rfl rfl ?_
  refine j_ineg C dJ6_getChars_ba4f3_82 ?_
  refine j_top ((ng10 a (by omega)).2.2.2.2.2) ?_
  refine j_bones (i := a) C rfl (by omega) dJ6_getChars_ba4f3_83 ?_
  refine j_bast (i := n + 2) (ws' := [(da, .inl (q_cy K 5, N, .inl (upd f (n + 2) (q_ones a))))]) C rfl 0 rfl (by omega) (by omega) (jones a (by omega)).1 rfl dJ6_getChars_ba4f3_84 ?_
  refine j_iload_n C dJ6_getChars_ba4f3_85 rfl rfl ?_
  refine j_bipush (v := (-9)) C dJ6_getChars_ba4f3_86 (by decide) ?_
  refine j_icmp_ge (tgt := 104) C dJ6_getChars_ba4f3_88 (by decide)  (fun c_88 => absurd ((ng10 a (by omega)).2.2.2.1.mp c_88) (by omega)) (fun c_88 => ?_)
  refine j_aload_n C dJ6_getChars_ba4f3_91 rfl rfl ?_
  refine j_iinc (v := nI (n + 1)) (lv' := [(5, .int (nI (n + 1))), (6, .int 1), (0, .int (-(nI a))), (1, .int (nI (n + 3))), (2, .ref da)]) C dJ6_getChars_ba4f3_92 rfl (nI_dec (n + 1)) (by decide) rfl ?_
  refine j_iload C dJ6_getChars_ba4f3_95 rfl ?_
  refine j_ttens C flJ6_87 dJ6_getChars_ba4f3_97 ?_
  refine j_iload_n C dJ6_getChars_ba4f3_100 rfl rfl ?_
  refine j_ineg C dJ6_getChars_ba4f3_101 ?_
  refine j_top ((ng10 a (by omega)).2.2.2.2.2) ?_
  refine j_btens (i := a) C rfl (by omega) dJ6_getChars_ba4f3_102 ?_
  refine j_bast (i := n + 1) (ws' := [(da, .inl (q_cy K 5, N, .inl (upd (upd f (n + 2) (q_ones a)) (n + 1) (q_tens a))))]) C rfl 0 rfl (by omega) (by omega) (jones a (by omega)).2 rfl dJ6_getChars_ba4f3_103 ?_
  refine j_iload C dJ6_getChars_ba4f3_104 rfl ?_
  refine j_if_eq (tgt := 118) C dJ6_getChars_ba4f3_106 (by decide) (fun h9 => absurd h9 (by decide)) (fun _ => ?_)
  refine j_aload_n C dJ6_getChars_ba4f3_109 rfl rfl ?_
  refine j_iinc (v := nI n) (lv' := [(5, .int (nI n)), (6, .int 1), (0, .int (-(nI a))), (1, .int (nI (n + 3))), (2, .ref da)]) C dJ6_getChars_ba4f3_110 rfl (nI_dec (n)) (by decide) rfl ?_
  refine j_iload C dJ6_getChars_ba4f3_113 rfl ?_
  refine j_bipush (v := 45) C dJ6_getChars_ba4f3_115 (by decide) ?_
  refine j_bast (i := n) (ws' := [(da, .inl (q_cy K 5, N, .inl (upd (upd (upd f (n + 2) (q_ones a)) (n + 1) (q_tens a)) n 45)))]) C rfl 0 rfl (by omega) (by omega) (by decide) rfl dJ6_getChars_ba4f3_117 ?_
  refine j_iload C dJ6_getChars_ba4f3_118 rfl ?_
  exact hrI _ _ _ _ _ _ (by omega) dJ6_getChars_ba4f3_120 rfl rfl ⟨rfl, rfl⟩
theorem m_appI511 (l : Launch) (b da N : Nat) (f : Nat → Int32) (n : Nat) (hf : jB f) (hn : n ≤ N) (hb : N ≤ 2 * n + 16) (a : Nat) (h1 : 10 ≤ a) (h2 : a < 100) (hn9 : n < 110) : q_Jm l yJ5_append_c97b9 kJ5_append_c97b9 6 101 [.ref b, .int (-(nI a))] (fun cy => [(b, .inr (7, [.ref da, .int 0, .int 0, .int (nI n)])), (da, .inl (cy 5, N, .inl f))]) (fun cy sz rv w' => ∃ da' N' f', rv = some (.ref b) ∧ w' = uB cy b da' N' f' (n + 3) ∧ (da' = da ∨ sz ≤ da') ∧ n + 3 ≤ N' ∧ N' ≤ 2 * (n + 3) + 16 ∧ jB f' ∧ (∀ j, j < n → f' j = f j) ∧ f' n = 45 ∧ f' (n + 1) = q_tens a ∧ f' (n + 2) = q_ones a) := by
  refine q_Jm_of (maxL := 4) rfl (by decide +kernel) (Nat.le_of_ble_eq_true rfl) ?_
  intro K C hi hrI hrA hrV
  have C : q_Cj K cJ5_append_c97b9 RJ5 6 4 101 := C
  show q_J l K 0 [(b, .inr (7, [.ref da, .int 0, .int 0, .int (nI n)])), (da, .inl (q_cy K 5, N, .inl f))] 0 [(0, .ref b), (1, .int (-(nI a)))] []
  refine j_aload_n C dJ5_append_c97b9_0 rfl rfl ?_
  refine j_get C fjJ5_79 0 rfl rfl dJ5_append_c97b9_1 ?_
  refine j_istore_n (lv' := [(2, .int (nI n)), (0, .ref b), (1, .int (-(nI a)))]) C dJ5_append_c97b9_4 rfl (by decide) rfl ?_
  refine j_iload_n C dJ5_append_c97b9_5 rfl rfl ?_
  refine j_iload_n C dJ5_append_c97b9_6 rfl rfl ?_
  refine j_cs (w := (fun _ => [])) (fr := [(b, .inr (7, [.ref da, .int 0, .int 0, .int (nI n)])), (da, .inl (q_cy K 5, N, .inl f))]) (As := [.int (-(nI a))]) (rest := [.int (nI n)]) C (m_ss11 l a (by omega) (by omega)) rfl jhJ6_stringSize_0f7a4 mlJ5_245 jsJ6_stringSize_0f7a4 jnJ6_stringSize_0f7a4 jcJ6_stringSize_0f7a4 rfl rfl ⟨by decide, by decide⟩ (by omega) (Nat.le_of_ble_eq_true rfl) dJ5_append_c97b9_7 (fun sz_7 rv w' hz_7 hl_7 hp_7 => ?_)
  obtain ⟨rfl, rfl⟩ := hp_7
  show q_J l K 0 [(b, .inr (7, [.ref da, .int 0, .int 0, .int (nI n)])), (da, .inl (q_cy K 5, N, .inl f))] 10 [(2, .int (nI n)), (0, .ref b), (1, .int (-(nI a)))] [.int 3, .int (nI n)]
  refine j_iaddN (a := n) (b := 3) C dJ5_append_c97b9_10 rfl rfl ?_
  refine j_istore_n (lv' := [(3, .int (nI (n + 3))), (2, .int (nI n)), (0, .ref b), (1, .int (-(nI a)))]) C dJ5_append_c97b9_11 rfl (by decide) rfl ?_
  refine j_aload_n C dJ5_append_c97b9_12 rfl rfl ?_
  refine j_iload_n C dJ5_append_c97b9_13 rfl rfl ?_
  refine j_cu (k0 := 0) (ci := 7) (w := (fun cy => uB cy b da N f n)) (fr := []) (As := [.int (nI (n + 3))]) (rest := []) C rfl (m_ensure l b da N f n hf (n + 3) (by omega) (by omega)) rfl rfl jhJ5_ensureCapacityInternal_d00df mlJ5_100 jiJ5_ensureCapacityInternal_d00df jnJ5_ensureCapacityInternal_d00df jcJ5_ensureCapacityInternal_d00df jmJ5_ensureCapacityInternal_d00df jSJ5_ensureCapacityInternal_d00df rfl rfl ⟨by decide, by decide⟩ (by omega) (Nat.le_of_ble_eq_true rfl) dJ5_append_c97b9_14 (fun sz_14 rv w' hz_14 hl_14 hp_14 => ?_)
  obtain ⟨da_14, N_14, f_14, rfl, rfl, hd_14, hq_14⟩ := hp_14
  show q_J l K (0 + 101) [(b, .inr (7, [.ref da_14, .int 0, .int 0, .int (nI n)])), (da_14, .inl (q_cy K 5, N_14, .inl f_14))] 17 [(3, .int (nI (n + 3))), (2, .int (nI n)), (0, .ref b), (1, .int (-(nI a)))] []
  obtain ⟨e1, e2, e3, e4⟩ := m_ens hf hd_14 hn hb (show n ≤ n + 3 by omega)
  refine j_aload_n C dJ5_append_c97b9_17 rfl rfl ?_
  refine j_cu (k0 := 0) (ci := 7) (w := (fun cy => uB cy b da_14 N_14 f_14 n)) (fr := []) (As := []) (rest := []) C rfl (m_isLatin1 l b da_14 N_14 f_14 n) rfl rfl jhJ5_isLatin1_aae02 mlJ5_83 jiJ5_isLatin1_aae02 jnJ5_isLatin1_aae02 jcJ5_isLatin1_aae02 jmJ5_isLatin1_aae02 jSJ5_isLatin1_aae02 rfl rfl ⟨by decide, by decide⟩ (by omega) (Nat.le_of_ble_eq_true rfl) dJ5_append_c97b9_18 (fun sz_18 rv w' hz_18 hl_18 hp_18 => ?_)
  obtain ⟨rfl, rfl⟩ := hp_18
  show q_J l K (0 + 101) [(b, .inr (7, [.ref da_14, .int 0, .int 0, .int (nI n)])), (da_14, .inl (q_cy K 5, N_14, .inl f_14))] 21 [(3, .int (nI (n + 3))), (2, .int (nI n)), (0, .ref b), (1, .int (-(nI a)))] [.int 1]
  refine j_if_eq (tgt := 37) C dJ5_append_c97b9_21 (by decide) (fun h9 => absurd h9 (by decide)) (fun _ => ?_)
  refine j_iload_n C dJ5_append_c97b9_24 rfl rfl ?_
  refine j_iload_n C dJ5_append_c97b9_25 rfl rfl ?_
  refine j_aload_n C dJ5_append_c97b9_26 rfl rfl ?_
  refine j_get C fjJ5_15 0 rfl rfl dJ5_append_c97b9_27 ?_
  refine j_sel [1, 0] (by decide) rfl ?_
  refine j_cs (w := (fun cy => [(da_14, .inl (cy 5, N_14, .inl f_14))])) (fr := [(b, .inr (7, [.ref da_14, .int 0, .int 0, .int (nI n)]))]) (As := [.int (-(nI a)), .int (nI (n + 3)), .ref da_14]) (rest := []) C (m_gc11 l da_14 N_14 f_14 n a (by omega) (by omega) (by omega) (by omega)) rfl jhJ6_getChars_ba4f3 mlJ5_248 jsJ6_getChars_ba4f3 jnJ6_getChars_ba4f3 jcJ6_getChars_ba4f3 rfl rfl ⟨by decide, by decide⟩ (by omega) (Nat.le_of_ble_eq_true rfl) dJ5_append_c97b9_30 (fun sz_30 rv w' hz_30 hl_30 hp_30 => ?_)
  obtain ⟨rfl, rfl⟩ := hp_30
  show q_J l K (0 + 101) [(da_14, .inl (q_cy K 5, N_14, .inl (upd (upd (upd f_14 (n + 2) (q_ones a)) (n + 1) (q_tens a)) n 45))), (b, .inr (7, [.ref da_14, .int 0, .int 0, .int (nI n)]))] 33 [(3, .int (nI (n + 3))), (2, .int (nI n)), (0, .ref b), (1, .int (-(nI a)))] [.int (nI n)]
  refine j_pop C rfl dJ5_append_c97b9_33 ?_
  refine j_goto (tgt := 48) C dJ5_append_c97b9_34 (by decide) ?_
  refine j_aload_n C dJ5_append_c97b9_48 rfl rfl ?_
  refine j_iload_n C dJ5_append_c97b9_49 rfl rfl ?_
  refine j_put (ws' := [(da_14, .inl (q_cy K 5, N_14, .inl (upd (upd (upd f_14 (n + 2) (q_ones a)) (n + 1) (q_tens a)) n 45))), (b, .inr (7, [.ref da_14, .int 0, .int 0, .int (nI (n + 3))]))]) (ty9 := .int) C fjJ5_79 1 rfl (fun _ _ _ h => by cases h; exact ⟨rfl, rfl⟩) rfl rfl (Nat.le_of_ble_eq_true rfl) rfl dJ5_append_c97b9_50 ?_
  refine j_sel [1, 0] (by decide) rfl ?_
  refine j_aload_n C dJ5_append_c97b9_53 rfl rfl ?_
  exact hrA _ _ _ _ _ _ (by omega) dJ5_append_c97b9_54 rfl (Or.inl ⟨_, rfl⟩) ⟨_, _, _, rfl, rfl, e1.imp id (fun h => Nat.le_trans hz_14 h), by omega, by omega, jB_upd (jB_upd (jB_upd e2 _ (jones a (by omega)).1) _ (jones a (by omega)).2) _ (by decide), fun j hj => by rw [← e3 j hj]; simp only [upd]; repeat rw [if_neg (by omega)], by simp [upd], by simp [upd], by simp [upd]⟩
theorem m_appI11 (l : Launch) (b da N : Nat) (f : Nat → Int32) (n : Nat) (hf : jB f) (hn : n ≤ N) (hb : N ≤ 2 * n + 16) (a : Nat) (h1 : 10 ≤ a) (h2 : a < 100) (hn9 : n < 110) : q_Jm l yJ4_append_bf812 kJ4_append_bf812 7 101 [.ref b, .int (-(nI a))] (fun cy => [(b, .inr (7, [.ref da, .int 0, .int 0, .int (nI n)])), (da, .inl (cy 5, N, .inl f))]) (fun cy sz rv w' => ∃ da' N' f', rv = some (.ref b) ∧ w' = uB cy b da' N' f' (n + 3) ∧ (da' = da ∨ sz ≤ da') ∧ n + 3 ≤ N' ∧ N' ≤ 2 * (n + 3) + 16 ∧ jB f' ∧ (∀ j, j < n → f' j = f j) ∧ f' n = 45 ∧ f' (n + 1) = q_tens a ∧ f' (n + 2) = q_ones a) := by
  refine q_Jm_of (maxL := 2) rfl (by decide +kernel) (Nat.le_of_ble_eq_true rfl) ?_
  intro K C hi hrI hrA hrV
  have C : q_Cj K cJ4_append_bf812 RJ4 7 2 101 := C
  show q_J l K 0 [(b, .inr (7, [.ref da, .int 0, .int 0, .int (nI n)])), (da, .inl (q_cy K 5, N, .inl f))] 0 [(0, .ref b), (1, .int (-(nI a)))] []
  refine j_aload_n C dJ4_append_bf812_0 rfl rfl ?_
  refine j_iload_n C dJ4_append_bf812_1 rfl rfl ?_
  refine j_csu (k0 := 0) (w := (fun cy => uB cy b da N f n)) (fr := []) (As := [.int (-(nI a))]) (rest := []) C (m_appI511 l b da N f n hf hn hb a (by omega) (by omega) (by omega)) rfl rfl rfl ⟨by decide, jhJ5_append_c97b9.2.2⟩ mlJ4_53 jiJ5_append_c97b9 jnJ5_append_c97b9 jcJ5_append_c97b9 jmJ5_append_c97b9 jw_su rfl rfl ⟨by decide, by decide⟩ (by omega) (Nat.le_of_ble_eq_true rfl) dJ4_append_bf812_2 (fun sz_2 rv w' hz_2 hl_2 hp_2 => ?_)
  obtain ⟨da_2, N_2, f_2, rfl, rfl, h1_2, h2_2⟩ := hp_2
  show q_J l K (0 + 101) [(b, .inr (7, [.ref da_2, .int 0, .int 0, .int (nI (n + 3))])), (da_2, .inl (q_cy K 5, N_2, .inl f_2))] 5 [(0, .ref b), (1, .int (-(nI a)))] [.ref b]
  refine j_pop C rfl dJ4_append_bf812_5 ?_
  refine j_aload_n C dJ4_append_bf812_6 rfl rfl ?_
  exact hrA _ _ _ _ _ _ (by omega) dJ4_append_bf812_7 rfl (Or.inl ⟨_, rfl⟩) ⟨_, _, _, rfl, rfl, h1_2.imp id (fun h => Nat.le_trans hz_2 h), h2_2⟩
theorem m_appC (l : Launch) (b da N : Nat) (f : Nat → Int32) (n : Nat) (hf : jB f) (hn : n ≤ N) (hb : N ≤ 2 * n + 16) (c : Nat) (hc : c < 128) (hn9 : n < 120) : q_Jm l yJ4_append_cf468 kJ4_append_cf468 7 101 [.ref b, .int (nI c)] (fun cy => [(b, .inr (7, [.ref da, .int 0, .int 0, .int (nI n)])), (da, .inl (cy 5, N, .inl f))]) (fun cy sz rv w' => ∃ da' N' f', rv = some (.ref b) ∧ w' = uB cy b da' N' f' (n + 1) ∧ (da' = da ∨ sz ≤ da') ∧ n + 1 ≤ N' ∧ N' ≤ 2 * (n + 1) + 16 ∧ jB f' ∧ (∀ j, j < n → f' j = f j) ∧ f' n = nI c) := by
  refine q_Jm_of (maxL := 2) rfl (by decide +kernel) (Nat.le_of_ble_eq_true rfl) ?_
  intro K C hi hrI hrA hrV
  have C : q_Cj K cJ4_append_cf468 RJ4 7 2 101 := C
  show q_J l K 0 [(b, .inr (7, [.ref da, .int 0, .int 0, .int (nI n)])), (da, .inl (q_cy K 5, N, .inl f))] 0 [(0, .ref b), (1, .int (nI c))] []
  refine j_aload_n C dJ4_append_cf468_0 rfl rfl ?_
  refine j_iload_n C dJ4_append_cf468_1 rfl rfl ?_
  refine j_csu (k0 := 0) (w := (fun cy => uB cy b da N f n)) (fr := []) (As := [.int (nI c)]) (rest := []) C (m_appC5 l b da N f n hf hn hb c hc hn9) rfl rfl rfl ⟨by decide, jhJ5_append_3fe6f.2.2⟩ mlJ4_50 jiJ5_append_3fe6f jnJ5_append_3fe6f jcJ5_append_3fe6f jmJ5_append_3fe6f jw_su rfl rfl ⟨by decide, by decide⟩ (by omega) (Nat.le_of_ble_eq_true rfl) dJ4_append_cf468_2 (fun sz_2 rv w' hz_2 hl_2 hp_2 => ?_)
  obtain ⟨da_2, N_2, f_2, rfl, rfl, h1_2, h2_2⟩ := hp_2
  show q_J l K (0 + 101) [(b, .inr (7, [.ref da_2, .int 0, .int 0, .int (nI (n + 1))])), (da_2, .inl (q_cy K 5, N_2, .inl f_2))] 5 [(0, .ref b), (1, .int (nI c))] [.ref b]
  refine j_pop C rfl dJ4_append_cf468_5 ?_
  refine j_aload_n C dJ4_append_cf468_6 rfl rfl ?_
  exact hrA _ _ _ _ _ _ (by omega) dJ4_append_cf468_7 rfl (Or.inl ⟨_, rfl⟩) ⟨_, _, _, rfl, rfl, h1_2.imp id (fun h => Nat.le_trans hz_2 h), h2_2⟩
theorem m_appS (l : Launch) (b da N : Nat) (f : Nat → Int32) (n : Nat) (hf : jB f) (hn : n ≤ N) (hb : N ≤ 2 * n + 16) (q sd k : Nat) (g : Nat → Int32) (h z : Int32) (hg : jB g) (hn9 : n + k < 120) : q_Jm l yJ4_append_15ec4 kJ4_append_15ec4 7 101 [.ref b, .ref q] (fun cy => [(b, .inr (7, [.ref da, .int 0, .int 0, .int (nI n)])), (da, .inl (cy 5, N, .inl f)), (q, .inr (8, [.ref sd, .int 0, .int h, .int z])), (sd, .inl (cy 5, k, .inl g))]) (fun cy sz rv w' => ∃ da' N' f', rv = some (.ref b) ∧ w' = uB cy b da' N' f' (n + k) ++ uS cy q sd k g h z ∧ (da' = da ∨ sz ≤ da') ∧ n + k ≤ N' ∧ N' ≤ 2 * (n + k) + 16 ∧ jB f' ∧ (∀ j, j < n → f' j = f j) ∧ ∀ j, j < k → f' (n + j) = g j) := by
  refine q_Jm_of (maxL := 2) rfl (by decide +kernel) (Nat.le_of_ble_eq_true rfl) ?_
  intro K C hi hrI hrA hrV
  have C : q_Cj K cJ4_append_15ec4 RJ4 7 2 101 := C
  show q_J l K 0 [(b, .inr (7, [.ref da, .int 0, .int 0, .int (nI n)])), (da, .inl (q_cy K 5, N, .inl f)), (q, .inr (8, [.ref sd, .int 0, .int h, .int z])), (sd, .inl (q_cy K 5, k, .inl g))] 0 [(0, .ref b), (1, .ref q)] []
  refine j_aload_n C dJ4_append_15ec4_0 rfl rfl ?_
  refine j_aload_n C dJ4_append_15ec4_1 rfl rfl ?_
  refine j_csu (k0 := 0) (w := (fun cy => [(b, .inr (7, [.ref da, .int 0, .int 0, .int (nI n)])), (da, .inl (cy 5, N, .inl f)), (q, .inr (8, [.ref sd, .int 0, .int h, .int z])), (sd, .inl (cy 5, k, .inl g))])) (fr := []) (As := [.ref q]) (rest := []) C (m_appS5 l b da N f n hf hn hb q sd k g h z hg hn9) rfl rfl rfl ⟨by decide, jhJ5_append_cf1ce.2.2⟩ mlJ4_29 jiJ5_append_cf1ce jnJ5_append_cf1ce jcJ5_append_cf1ce jmJ5_append_cf1ce jw_su rfl rfl ⟨by decide, by decide⟩ (by omega) (Nat.le_of_ble_eq_true rfl) dJ4_append_15ec4_2 (fun sz_2 rv w' hz_2 hl_2 hp_2 => ?_)
  obtain ⟨da_2, N_2, f_2, rfl, rfl, h1_2, h2_2⟩ := hp_2
  show q_J l K (0 + 101) [(b, .inr (7, [.ref da_2, .int 0, .int 0, .int (nI (n + k))])), (da_2, .inl (q_cy K 5, N_2, .inl f_2)), (q, .inr (8, [.ref sd, .int 0, .int h, .int z])), (sd, .inl (q_cy K 5, k, .inl g))] 5 [(0, .ref b), (1, .ref q)] [.ref b]
  refine j_pop C rfl dJ4_append_15ec4_5 ?_
  refine j_aload_n C dJ4_append_15ec4_6 rfl rfl ?_
  exact hrA _ _ _ _ _ _ (by omega) dJ4_append_15ec4_7 rfl (Or.inl ⟨_, rfl⟩) ⟨_, _, _, rfl, rfl, h1_2.imp id (fun h => Nat.le_trans hz_2 h), h2_2⟩
theorem m_init5 (l : Launch) (b : Nat) : q_Jm l yJ5_init_d00df kJ5_init_d00df 2 101 [.ref b, .int (nI 16)] (fun cy => [(b, .inr (7, [.null, .int 0, .int 0, .int 0]))]) (fun cy sz rv w' => ∃ da, rv = none ∧ w' = uB cy b da 16 (fun _ => 0) 0 ∧ sz ≤ da) := by
  refine q_Jm_of (maxL := 2) rfl (by decide +kernel) (Nat.le_of_ble_eq_true rfl) ?_
  intro K C hi hrI hrA hrV
  have C : q_Cj K cJ5_init_d00df RJ5 2 2 101 := C
  show q_J l K 0 [(b, .inr (7, [.null, .int 0, .int 0, .int 0]))] 0 [(0, .ref b), (1, .int (nI 16))] []
  refine j_aload_n C dJ5_init_d00df_0 rfl rfl ?_
  refine j_obj C mlJ5_3 wB_oi wB_oc (by decide) rfl dJ5_init_d00df_1 ?_
  refine j_compact C flJ5_18 dJ5_init_d00df_4 ?_
  refine j_if_eq (tgt := 25) C dJ5_init_d00df_7 (by decide) (fun h9 => absurd h9 (by decide)) (fun _ => ?_)
  refine j_aload_n C dJ5_init_d00df_10 rfl rfl ?_
  refine j_iload_n C dJ5_init_d00df_11 rfl rfl ?_
  refine j_newa (N := 16) C wB_byte rfl (by omega) (by omega) dJ5_init_d00df_12 (fun a_12 hn_12 hm_12 => ?_)
  show q_J l K (0 + 101) [(b, .inr (7, [.null, .int 0, .int 0, .int 0])), (a_12, .inl (q_cy K 5, 16, .inl (fun _ => 0)))] 14 [(0, .ref b), (1, .int (nI 16))] [.ref a_12, .ref b]
  refine j_put (ws' := [(b, .inr (7, [.ref a_12, .int 0, .int 0, .int 0])), (a_12, .inl (q_cy K 5, 16, .inl (fun _ => 0)))]) (ty9 := .array .byte) C fjJ5_15 0 rfl (fun _ _ _ h => by cases h; exact ⟨rfl, rfl⟩) rfl rfl (Nat.le_of_ble_eq_true rfl) rfl dJ5_init_d00df_14 ?_
  refine j_aload_n C dJ5_init_d00df_17 rfl rfl ?_
  refine j_iconst (v := 0) C dJ5_init_d00df_18 (by decide) ?_
  refine j_put (ws' := [(b, .inr (7, [.ref a_12, .int 0, .int 0, .int 0])), (a_12, .inl (q_cy K 5, 16, .inl (fun _ => 0)))]) (ty9 := .byte) C fjJ5_22 0 rfl (fun _ _ _ h => by cases h; exact ⟨rfl, rfl⟩) rfl rfl (Nat.le_of_ble_eq_true rfl) rfl dJ5_init_d00df_19 ?_
  refine j_goto (tgt := 38) C dJ5_init_d00df_22 (by decide) ?_
  exact hrV _ _ _ _ (by omega) dJ5_init_d00df_38 rfl ⟨_, rfl, rfl, hn_12⟩
theorem m_init (l : Launch) (b : Nat) : q_Jm l yJ4_init_da8c8 kJ4_init_da8c8 3 101 [.ref b] (fun cy => [(b, .inr (7, [.null, .int 0, .int 0, .int 0]))]) (fun cy sz rv w' => ∃ da, rv = none ∧ w' = uB cy b da 16 (fun _ => 0) 0 ∧ sz ≤ da) := by
  refine q_Jm_of (maxL := 1) rfl (by decide +kernel) (Nat.le_of_ble_eq_true rfl) ?_
  intro K C hi hrI hrA hrV
  have C : q_Cj K cJ4_init_da8c8 RJ4 3 1 101 := C
  show q_J l K 0 [(b, .inr (7, [.null, .int 0, .int 0, .int 0]))] 0 [(0, .ref b)] []
  refine j_aload_n C dJ4_init_da8c8_0 rfl rfl ?_
  refine j_bipush (v := nI 16) C dJ4_init_da8c8_1 (by decide) ?_
  refine j_ci (w := (fun cy => [(b, .inr (7, [.null, .int 0, .int 0, .int 0]))])) (fr := []) (As := [.int (nI 16)]) (rest := []) C (m_init5 l b) rfl rfl jhJ5_init_d00df mlJ4_1 jiJ5_init_d00df jnJ5_init_d00df jcJ5_init_d00df rfl rfl ⟨by decide, by decide⟩ (by omega) (Nat.le_of_ble_eq_true rfl) dJ4_init_da8c8_3 (fun sz_3 rv w' hz_3 hl_3 hp_3 => ?_)
  obtain ⟨da_3, rfl, rfl, ha_3⟩ := hp_3
  show q_J l K (0 + 101) [(b, .inr (7, [.ref da_3, .int 0, .int 0, .int (nI 0)])), (da_3, .inl (q_cy K 5, 16, .inl (fun _ => 0)))] 6 [(0, .ref b)] []
  exact hrV _ _ _ _ (by omega) dJ4_init_da8c8_6 rfl ⟨_, rfl, rfl, Nat.le_trans hz_3 ha_3⟩
