
/-! a String is appended -/
theorem m_scoder (l : Launch) (q sd k : Nat) (g : Nat → Int32) (h z : Int32) : q_Jm l yJ0_coder_7d493 kJ0_coder_7d493 1 0 [.ref q] (fun cy => [(q, .inr (8, [.ref sd, .int 0, .int h, .int z])), (sd, .inl (cy 5, k, .inl g))]) (fun cy sz rv w' => rv = some (.int 0) ∧ w' = uS cy q sd k g h z) := by
  refine q_Jm_of (maxL := 1) rfl (by decide +kernel) (Nat.le_of_ble_eq_true rfl) ?_
  intro K C hi hrI hrA hrV
  have C : q_Cj K cJ0_coder_7d493 RJ0 1 1 0 := C
  show q_J l K 0 [(q, .inr (8, [.ref sd, .int 0, .int h, .int z])), (sd, .inl (q_cy K 5, k, .inl g))] 0 [(0, .ref q)] []
  refine j_compact C flJ0_38 dJ0_coder_7d493_0 ?_
  refine j_if_eq (tgt := 13) C dJ0_coder_7d493_3 (by decide) (fun h9 => absurd h9 (by decide)) (fun _ => ?_)
  refine j_aload_n C dJ0_coder_7d493_6 rfl rfl ?_
  refine j_get C fjJ0_15 0 rfl rfl dJ0_coder_7d493_7 ?_
  refine j_goto (tgt := 14) C dJ0_coder_7d493_10 (by decide) ?_
  exact hrI _ _ _ _ _ _ (by omega) dJ0_coder_7d493_14 rfl rfl ⟨rfl, rfl⟩
theorem m_slength (l : Launch) (q sd k : Nat) (g : Nat → Int32) (h z : Int32) : q_Jm l yJ0_length_8abf5 kJ0_length_8abf5 2 0 [.ref q] (fun cy => [(q, .inr (8, [.ref sd, .int 0, .int h, .int z])), (sd, .inl (cy 5, k, .inl g))]) (fun cy sz rv w' => rv = some (.int (nI k)) ∧ w' = uS cy q sd k g h z) := by
  refine q_Jm_of (maxL := 1) rfl (by decide +kernel) (Nat.le_of_ble_eq_true rfl) ?_
  intro K C hi hrI hrA hrV
  have C : q_Cj K cJ0_length_8abf5 RJ0 2 1 0 := C
  show q_J l K 0 [(q, .inr (8, [.ref sd, .int 0, .int h, .int z])), (sd, .inl (q_cy K 5, k, .inl g))] 0 [(0, .ref q)] []
  refine j_aload_n C dJ0_length_8abf5_0 rfl rfl ?_
  refine j_get C fjJ0_9 0 rfl rfl dJ0_length_8abf5_1 ?_
  refine j_alen C 1 rfl dJ0_length_8abf5_4 ?_
  refine j_aload_n C dJ0_length_8abf5_5 rfl rfl ?_
  refine j_cv (k0 := 0) (w := (fun cy => uS cy q sd k g h z)) (fr := []) (As := []) (rest := [.int (nI k)]) C (m_scoder l q sd k g h z) rfl rfl rfl jhJ0_coder_7d493 mlJ0_335 jiJ0_coder_7d493 jSJ0_coder_7d493 jnJ0_coder_7d493 jcJ0_coder_7d493 rfl rfl ⟨by decide, by decide⟩ (by omega) (Nat.le_of_ble_eq_true rfl) dJ0_length_8abf5_6 (fun sz_6 rv w' hz_6 hl_6 hp_6 => ?_)
  obtain ⟨rfl, rfl⟩ := hp_6
  show q_J l K 0 [(q, .inr (8, [.ref sd, .int 0, .int h, .int z])), (sd, .inl (q_cy K 5, k, .inl g))] 9 [(0, .ref q)] [.int 0, .int (nI k)]
  refine j_ishr (v := nI k) C (ish0 _) dJ0_length_8abf5_9 ?_
  exact hrI _ _ _ _ _ _ (by omega) dJ0_length_8abf5_10 rfl rfl ⟨rfl, rfl⟩
theorem m_getBytes (l : Launch) (q sd k : Nat) (g : Nat → Int32) (h z : Int32) (hg : jB g) (da N : Nat) (f : Nat → Int32) (n : Nat) (hN : n + k ≤ N) (hN9 : N < 1000) : q_Jm l yJ0_getBytes_840e7 kJ0_getBytes_840e7 2 0 [.ref q, .ref da, .int (nI n), .int 0] (fun cy => [(q, .inr (8, [.ref sd, .int 0, .int h, .int z])), (sd, .inl (cy 5, k, .inl g)), (da, .inl (cy 5, N, .inl f))]) (fun cy sz rv w' => rv = none ∧ w' = [(q, .inr (8, [.ref sd, .int 0, .int h, .int z])), (sd, .inl (cy 5, k, .inl g)), (da, .inl (cy 5, N, .inl (va_cpy g f 0 n k)))]) := by
  refine q_Jm_of (maxL := 4) rfl (by decide +kernel) (Nat.le_of_ble_eq_true rfl) ?_
  intro K C hi hrI hrA hrV
  have C : q_Cj K cJ0_getBytes_840e7 RJ0 2 4 0 := C
  show q_J l K 0 [(q, .inr (8, [.ref sd, .int 0, .int h, .int z])), (sd, .inl (q_cy K 5, k, .inl g)), (da, .inl (q_cy K 5, N, .inl f))] 0 [(0, .ref q), (1, .ref da), (2, .int (nI n)), (3, .int 0)] []
  refine j_aload_n C dJ0_getBytes_840e7_0 rfl rfl ?_
  refine j_cv (k0 := 0) (w := (fun cy => uS cy q sd k g h z)) (fr := [(da, .inl (q_cy K 5, N, .inl f))]) (As := []) (rest := []) C (m_scoder l q sd k g h z) rfl rfl rfl jhJ0_coder_7d493 mlJ0_335 jiJ0_coder_7d493 jSJ0_coder_7d493 jnJ0_coder_7d493 jcJ0_coder_7d493 rfl rfl ⟨by decide, by decide⟩ (by omega) (Nat.le_of_ble_eq_true rfl) dJ0_getBytes_840e7_1 (fun sz_1 rv w' hz_1 hl_1 hp_1 => ?_)
  obtain ⟨rfl, rfl⟩ := hp_1
  show q_J l K 0 [(q, .inr (8, [.ref sd, .int 0, .int h, .int z])), (sd, .inl (q_cy K 5, k, .inl g)), (da, .inl (q_cy K 5, N, .inl f))] 4 [(0, .ref q), (1, .ref da), (2, .int (nI n)), (3, .int 0)] [.int 0]
  refine j_iload_n C dJ0_getBytes_840e7_4 rfl rfl ?_
  refine j_icmp_ne (tgt := 28) C dJ0_getBytes_840e7_5 (by decide) (fun h9 => absurd h9 (by decide)) (fun _ => ?_)
  refine j_aload_n C dJ0_getBytes_840e7_8 rfl rfl ?_
  refine j_get C fjJ0_9 0 rfl rfl dJ0_getBytes_840e7_9 ?_
  refine j_iconst (v := 0) C dJ0_getBytes_840e7_12 (by decide) ?_
  refine j_aload_n C dJ0_getBytes_840e7_13 rfl rfl ?_
  refine j_iload_n C dJ0_getBytes_840e7_14 rfl rfl ?_
  refine j_iload_n C dJ0_getBytes_840e7_15 rfl rfl ?_
  refine j_ishl C dJ0_getBytes_840e7_16 ?_
  refine j_top (ishl0 _) ?_
  refine j_aload_n C dJ0_getBytes_840e7_17 rfl rfl ?_
  refine j_get C fjJ0_9 0 rfl rfl dJ0_getBytes_840e7_18 ?_
  refine j_alen C 1 rfl dJ0_getBytes_840e7_21 ?_
  refine j_acopy (sp := 0) (dp := n) (n' := k) (ws' := [(q, .inr (8, [.ref sd, .int 0, .int h, .int z])), (sd, .inl (q_cy K 5, k, .inl g)), (da, .inl (q_cy K 5, N, .inl (va_cpy g f 0 n k)))]) C 1 2 rfl rfl rfl rfl rfl (by omega) (by omega) ⟨by omega, by omega⟩ (jfit hg) rfl mlJ0_212 jw_na jw_st jw_in (by decide) (Nat.le_of_ble_eq_true rfl) dJ0_getBytes_840e7_22 ?_
  refine j_goto (tgt := 43) C dJ0_getBytes_840e7_25 (by decide) ?_
  exact hrV _ _ _ _ (by omega) dJ0_getBytes_840e7_43 rfl ⟨rfl, rfl⟩
theorem m_infl (l : Launch) (b da N : Nat) (f : Nat → Int32) (n : Nat) (q sd k : Nat) (g : Nat → Int32) (h z : Int32) : q_Jm l yJ5_inflateIfNeededFor_a7421 kJ5_inflateIfNeededFor_a7421 3 0 [.ref b, .ref q] (fun cy => [(b, .inr (7, [.ref da, .int 0, .int 0, .int (nI n)])), (da, .inl (cy 5, N, .inl f)), (q, .inr (8, [.ref sd, .int 0, .int h, .int z])), (sd, .inl (cy 5, k, .inl g))]) (fun cy sz rv w' => rv = none ∧ w' = [(b, .inr (7, [.ref da, .int 0, .int 0, .int (nI n)])), (da, .inl (cy 5, N, .inl f)), (q, .inr (8, [.ref sd, .int 0, .int h, .int z])), (sd, .inl (cy 5, k, .inl g))]) := by
  refine q_Jm_of (maxL := 2) rfl (by decide +kernel) (Nat.le_of_ble_eq_true rfl) ?_
  intro K C hi hrI hrA hrV
  have C : q_Cj K cJ5_inflateIfNeededFor_a7421 RJ5 3 2 0 := C
  show q_J l K 0 [(b, .inr (7, [.ref da, .int 0, .int 0, .int (nI n)])), (da, .inl (q_cy K 5, N, .inl f)), (q, .inr (8, [.ref sd, .int 0, .int h, .int z])), (sd, .inl (q_cy K 5, k, .inl g))] 0 [(0, .ref b), (1, .ref q)] []
  refine j_compact C flJ5_18 dJ5_inflateIfNeededFor_a7421_0 ?_
  refine j_if_eq (tgt := 21) C dJ5_inflateIfNeededFor_a7421_3 (by decide) (fun h9 => absurd h9 (by decide)) (fun _ => ?_)
  refine j_aload_n C dJ5_inflateIfNeededFor_a7421_6 rfl rfl ?_
  refine j_get C fjJ5_22 0 rfl rfl dJ5_inflateIfNeededFor_a7421_7 ?_
  refine j_aload_n C dJ5_inflateIfNeededFor_a7421_10 rfl rfl ?_
  refine j_sel [2, 3, 0, 1] (by decide) rfl ?_
  refine j_cv (k0 := 0) (w := (fun cy => uS cy q sd k g h z)) (fr := [(b, .inr (7, [.ref da, .int 0, .int 0, .int (nI n)])), (da, .inl (q_cy K 5, N, .inl f))]) (As := []) (rest := [.int 0]) C (m_scoder l q sd k g h z) rfl rfl rfl jhJ0_coder_7d493 mlJ5_40 jiJ0_coder_7d493 jSJ0_coder_7d493 jnJ0_coder_7d493 jcJ0_coder_7d493 rfl rfl ⟨by decide, by decide⟩ (by omega) (Nat.le_of_ble_eq_true rfl) dJ5_inflateIfNeededFor_a7421_11 (fun sz_11 rv w' hz_11 hl_11 hp_11 => ?_)
  obtain ⟨rfl, rfl⟩ := hp_11
  show q_J l K 0 [(q, .inr (8, [.ref sd, .int 0, .int h, .int z])), (sd, .inl (q_cy K 5, k, .inl g)), (b, .inr (7, [.ref da, .int 0, .int 0, .int (nI n)])), (da, .inl (q_cy K 5, N, .inl f))] 14 [(0, .ref b), (1, .ref q)] [.int 0, .int 0]
  refine j_icmp_eq (tgt := 21) C dJ5_inflateIfNeededFor_a7421_14 (by decide) (fun _ => ?_) (fun h9 => absurd h9 (by decide))
  refine j_sel [2, 3, 0, 1] (by decide) rfl ?_
  exact hrV _ _ _ _ (by omega) dJ5_inflateIfNeededFor_a7421_21 rfl ⟨rfl, rfl⟩
theorem m_putStr (l : Launch) (b da N : Nat) (f : Nat → Int32) (n : Nat) (q sd k : Nat) (g : Nat → Int32) (h z : Int32) (hg : jB g) (hN : n + k ≤ N) (hN9 : N < 1000) : q_Jm l yJ5_putStringAt_47b60 kJ5_putStringAt_47b60 4 0 [.ref b, .int (nI n), .ref q] (fun cy => [(b, .inr (7, [.ref da, .int 0, .int 0, .int (nI n)])), (da, .inl (cy 5, N, .inl f)), (q, .inr (8, [.ref sd, .int 0, .int h, .int z])), (sd, .inl (cy 5, k, .inl g))]) (fun cy sz rv w' => rv = none ∧ w' = [(b, .inr (7, [.ref da, .int 0, .int 0, .int (nI n)])), (da, .inl (cy 5, N, .inl (va_cpy g f 0 n k))), (q, .inr (8, [.ref sd, .int 0, .int h, .int z])), (sd, .inl (cy 5, k, .inl g))]) := by
  refine q_Jm_of (maxL := 3) rfl (by decide +kernel) (Nat.le_of_ble_eq_true rfl) ?_
  intro K C hi hrI hrA hrV
  have C : q_Cj K cJ5_putStringAt_47b60 RJ5 4 3 0 := C
  show q_J l K 0 [(b, .inr (7, [.ref da, .int 0, .int 0, .int (nI n)])), (da, .inl (q_cy K 5, N, .inl f)), (q, .inr (8, [.ref sd, .int 0, .int h, .int z])), (sd, .inl (q_cy K 5, k, .inl g))] 0 [(0, .ref b), (1, .int (nI n)), (2, .ref q)] []
  refine j_aload_n C dJ5_putStringAt_47b60_0 rfl rfl ?_
  refine j_aload_n C dJ5_putStringAt_47b60_1 rfl rfl ?_
  refine j_cu (k0 := 0) (ci := 7) (w := (fun cy => [(b, .inr (7, [.ref da, .int 0, .int 0, .int (nI n)])), (da, .inl (cy 5, N, .inl f)), (q, .inr (8, [.ref sd, .int 0, .int h, .int z])), (sd, .inl (cy 5, k, .inl g))])) (fr := []) (As := [.ref q]) (rest := []) C rfl (m_infl l b da N f n q sd k g h z) rfl rfl jhJ5_inflateIfNeededFor_a7421 mlJ5_397 jiJ5_inflateIfNeededFor_a7421 jnJ5_inflateIfNeededFor_a7421 jcJ5_inflateIfNeededFor_a7421 jmJ5_inflateIfNeededFor_a7421 jSJ5_inflateIfNeededFor_a7421 rfl rfl ⟨by decide, by decide⟩ (by omega) (Nat.le_of_ble_eq_true rfl) dJ5_putStringAt_47b60_2 (fun sz_2 rv w' hz_2 hl_2 hp_2 => ?_)
  obtain ⟨rfl, rfl⟩ := hp_2
  show q_J l K 0 [(b, .inr (7, [.ref da, .int 0, .int 0, .int (nI n)])), (da, .inl (q_cy K 5, N, .inl f)), (q, .inr (8, [.ref sd, .int 0, .int h, .int z])), (sd, .inl (q_cy K 5, k, .inl g))] 5 [(0, .ref b), (1, .int (nI n)), (2, .ref q)] []
  refine j_aload_n C dJ5_putStringAt_47b60_5 rfl rfl ?_
  refine j_aload_n C dJ5_putStringAt_47b60_6 rfl rfl ?_
  refine j_get C fjJ5_15 0 rfl rfl dJ5_putStringAt_47b60_7 ?_
  refine j_iload_n C dJ5_putStringAt_47b60_10 rfl rfl ?_
  refine j_aload_n C dJ5_putStringAt_47b60_11 rfl rfl ?_
  refine j_get C fjJ5_22 0 rfl rfl dJ5_putStringAt_47b60_12 ?_
  refine j_sel [2, 3, 1, 0] (by decide) rfl ?_
  refine j_cv (k0 := 0) (w := (fun cy => [(q, .inr (8, [.ref sd, .int 0, .int h, .int z])), (sd, .inl (cy 5, k, .inl g)), (da, .inl (cy 5, N, .inl f))])) (fr := [(b, .inr (7, [.ref da, .int 0, .int 0, .int (nI n)]))]) (As := [.ref da, .int (nI n), .int 0]) (rest := []) C (m_getBytes l q sd k g h z hg da N f n (by omega) (by omega)) rfl rfl rfl jhJ0_getBytes_840e7 mlJ5_399 jiJ0_getBytes_840e7 jSJ0_getBytes_840e7 jnJ0_getBytes_840e7 jcJ0_getBytes_840e7 rfl rfl ⟨by decide, by decide⟩ (by omega) (Nat.le_of_ble_eq_true rfl) dJ5_putStringAt_47b60_15 (fun sz_15 rv w' hz_15 hl_15 hp_15 => ?_)
  obtain ⟨rfl, rfl⟩ := hp_15
  show q_J l K 0 [(q, .inr (8, [.ref sd, .int 0, .int h, .int z])), (sd, .inl (q_cy K 5, k, .inl g)), (da, .inl (q_cy K 5, N, .inl (va_cpy g f 0 n k))), (b, .inr (7, [.ref da, .int 0, .int 0, .int (nI n)]))] 18 [(0, .ref b), (1, .int (nI n)), (2, .ref q)] []
  refine j_sel [3, 2, 0, 1] (by decide) rfl ?_
  exact hrV _ _ _ _ (by omega) dJ5_putStringAt_47b60_18 rfl ⟨rfl, rfl⟩
theorem m_appS5 (l : Launch) (b da N : Nat) (f : Nat → Int32) (n : Nat) (hf : jB f) (hn : n ≤ N) (hb : N ≤ 2 * n + 16) (q sd k : Nat) (g : Nat → Int32) (h z : Int32) (hg : jB g) (hn9 : n + k < 120) : q_Jm l yJ5_append_cf1ce kJ5_append_cf1ce 6 101 [.ref b, .ref q] (fun cy => [(b, .inr (7, [.ref da, .int 0, .int 0, .int (nI n)])), (da, .inl (cy 5, N, .inl f)), (q, .inr (8, [.ref sd, .int 0, .int h, .int z])), (sd, .inl (cy 5, k, .inl g))]) (fun cy sz rv w' => ∃ da' N' f', rv = some (.ref b) ∧ w' = uB cy b da' N' f' (n + k) ++ uS cy q sd k g h z ∧ (da' = da ∨ sz ≤ da') ∧ n + k ≤ N' ∧ N' ≤ 2 * (n + k) + 16 ∧ jB f' ∧ (∀ j, j < n → f' j = f j) ∧ ∀ j, j < k → f' (n + j) = g j) := by
  refine q_Jm_of (maxL := 3) rfl (by decide +kernel) (Nat.le_of_ble_eq_true rfl) ?_
  intro K C hi hrI hrA hrV
  have C : q_Cj K cJ5_append_cf1ce RJ5 6 3 101 := C
  show q_J l K 0 [(b, .inr (7, [.ref da, .int 0, .int 0, .int (nI n)])), (da, .inl (q_cy K 5, N, .inl f)), (q, .inr (8, [.ref sd, .int 0, .int h, .int z])), (sd, .inl (q_cy K 5, k, .inl g))] 0 [(0, .ref b), (1, .ref q)] []
  refine j_aload_n C dJ5_append_cf1ce_0 rfl rfl ?_
  refine j_ifnn (tgt := 9) C dJ5_append_cf1ce_1 (by decide) ?_
  refine j_aload_n C dJ5_append_cf1ce_9 rfl rfl ?_
  refine j_sel [2, 3, 0, 1] (by decide) rfl ?_
  refine j_cv (k0 := 0) (w := (fun cy => uS cy q sd k g h z)) (fr := [(b, .inr (7, [.ref da, .int 0, .int 0, .int (nI n)])), (da, .inl (q_cy K 5, N, .inl f))]) (As := []) (rest := []) C (m_slength l q sd k g h z) rfl rfl rfl jhJ0_length_8abf5 mlJ5_32 jiJ0_length_8abf5 jSJ0_length_8abf5 jnJ0_length_8abf5 jcJ0_length_8abf5 rfl rfl ⟨by decide, by decide⟩ (by omega) (Nat.le_of_ble_eq_true rfl) dJ5_append_cf1ce_10 (fun sz_10 rv w' hz_10 hl_10 hp_10 => ?_)
  obtain ⟨rfl, rfl⟩ := hp_10
  show q_J l K 0 [(q, .inr (8, [.ref sd, .int 0, .int h, .int z])), (sd, .inl (q_cy K 5, k, .inl g)), (b, .inr (7, [.ref da, .int 0, .int 0, .int (nI n)])), (da, .inl (q_cy K 5, N, .inl f))] 13 [(0, .ref b), (1, .ref q)] [.int (nI k)]
  refine j_istore_n (lv' := [(2, .int (nI k)), (0, .ref b), (1, .ref q)]) C dJ5_append_cf1ce_13 rfl (by decide) rfl ?_
  refine j_aload_n C dJ5_append_cf1ce_14 rfl rfl ?_
  refine j_aload_n C dJ5_append_cf1ce_15 rfl rfl ?_
  refine j_get C fjJ5_79 2 rfl rfl dJ5_append_cf1ce_16 ?_
  refine j_iload_n C dJ5_append_cf1ce_19 rfl rfl ?_
  refine j_iaddN (a := n) (b := k) C dJ5_append_cf1ce_20 rfl rfl ?_
  refine j_sel [2, 3, 0, 1] (by decide) rfl ?_
  refine j_cu (k0 := 0) (ci := 7) (w := (fun cy => uB cy b da N f n)) (fr := [(q, .inr (8, [.ref sd, .int 0, .int h, .int z])), (sd, .inl (q_cy K 5, k, .inl g))]) (As := [.int (nI (n + k))]) (rest := []) C rfl (m_ensure l b da N f n hf (n + k) (by omega) (by omega)) rfl rfl jhJ5_ensureCapacityInternal_d00df mlJ5_100 jiJ5_ensureCapacityInternal_d00df jnJ5_ensureCapacityInternal_d00df jcJ5_ensureCapacityInternal_d00df jmJ5_ensureCapacityInternal_d00df jSJ5_ensureCapacityInternal_d00df rfl rfl ⟨by decide, by decide⟩ (by omega) (Nat.le_of_ble_eq_true rfl) dJ5_append_cf1ce_21 (fun sz_21 rv w' hz_21 hl_21 hp_21 => ?_)
  obtain ⟨da_21, N_21, f_21, rfl, rfl, hd_21, hq_21⟩ := hp_21
  show q_J l K (0 + 101) [(b, .inr (7, [.ref da_21, .int 0, .int 0, .int (nI n)])), (da_21, .inl (q_cy K 5, N_21, .inl f_21)), (q, .inr (8, [.ref sd, .int 0, .int h, .int z])), (sd, .inl (q_cy K 5, k, .inl g))] 24 [(2, .int (nI k)), (0, .ref b), (1, .ref q)] []
  obtain ⟨e1, e2, e3, e4⟩ := m_ens hf hd_21 hn hb (show n ≤ n + k by omega)
  refine j_aload_n C dJ5_append_cf1ce_24 rfl rfl ?_
  refine j_aload_n C dJ5_append_cf1ce_25 rfl rfl ?_
  refine j_get C fjJ5_79 0 rfl rfl dJ5_append_cf1ce_26 ?_
  refine j_aload_n C dJ5_append_cf1ce_29 rfl rfl ?_
  refine j_cu (k0 := 0) (ci := 7) (w := (fun cy => [(b, .inr (7, [.ref da_21, .int 0, .int 0, .int (nI n)])), (da_21, .inl (cy 5, N_21, .inl f_21)), (q, .inr (8, [.ref sd, .int 0, .int h, .int z])), (sd, .inl (cy 5, k, .inl g))])) (fr := []) (As := [.int (nI n), .ref q]) (rest := []) C rfl (m_putStr l b da_21 N_21 f_21 n q sd k g h z hg (by omega) (by omega)) rfl rfl jhJ5_putStringAt_47b60 mlJ5_208 jiJ5_putStringAt_47b60 jnJ5_putStringAt_47b60 jcJ5_putStringAt_47b60 jmJ5_putStringAt_47b60 jSJ5_putStringAt_47b60 rfl rfl ⟨by decide, by decide⟩ (by omega) (Nat.le_of_ble_eq_true rfl) dJ5_append_cf1ce_30 (fun sz_30 rv w' hz_30 hl_30 hp_30 => ?_)
  obtain ⟨rfl, rfl⟩ := hp_30
  show q_J l K (0 + 101) [(b, .inr (7, [.ref da_21, .int 0, .int 0, .int (nI n)])), (da_21, .inl (q_cy K 5, N_21, .inl (va_cpy g f_21 0 n k))), (q, .inr (8, [.ref sd, .int 0, .int h, .int z])), (sd, .inl (q_cy K 5, k, .inl g))] 33 [(2, .int (nI k)), (0, .ref b), (1, .ref q)] []
  refine j_aload_n C dJ5_append_cf1ce_33 rfl rfl ?_
  refine j_dup C rfl dJ5_append_cf1ce_34 ?_
  refine j_get C fjJ5_79 0 rfl rfl dJ5_append_cf1ce_35 ?_
  refine j_iload_n C dJ5_append_cf1ce_38 rfl rfl ?_
  refine j_iaddN (a := n) (b := k) C dJ5_append_cf1ce_39 rfl rfl ?_
  refine j_put (ws' := [(b, .inr (7, [.ref da_21, .int 0, .int 0, .int (nI (n + k))])), (da_21, .inl (q_cy K 5, N_21, .inl (va_cpy g f_21 0 n k))), (q, .inr (8, [.ref sd, .int 0, .int h, .int z])), (sd, .inl (q_cy K 5, k, .inl g))]) (ty9 := .int) C fjJ5_79 0 rfl (fun _ _ _ h => by cases h; exact ⟨rfl, rfl⟩) rfl rfl (Nat.le_of_ble_eq_true rfl) rfl dJ5_append_cf1ce_40 ?_
  refine j_aload_n C dJ5_append_cf1ce_43 rfl rfl ?_
  exact hrA _ _ _ _ _ _ (by omega) dJ5_append_cf1ce_44 rfl (Or.inl ⟨_, rfl⟩) ⟨_, _, _, rfl, rfl, e1.imp id (fun h => Nat.le_trans hz_21 h), by omega, by omega, jB_cpy hg e2 _ _ _, fun j hj => by rw [← e3 j hj]; unfold va_cpy; rw [if_neg (by omega)], fun j hj => by unfold va_cpy; rw [if_pos (by omega)]; congr 1; omega⟩
