
/-! a constant String is appended -/
theorem kL_lt {i : Nat} (hi : i < 13) : kL i < 13 := by
  have key : ∀ i, i < 13 → kL i < 13 := by decide +kernel
  exact key i hi
theorem kB_jB {i : Nat} (hi : i < 13) : jB (kB i) := fun j => by
  have key : ∀ i, i < 13 → ∀ x ∈ q_byt.getD i [], x.toInt8.toInt32 = x := by decide +kernel
  show ((q_byt.getD i []).getD j 0).toInt8.toInt32 = (q_byt.getD i []).getD j 0
  rw [List.getD_eq_getElem?_getD]
  rcases h : (q_byt.getD i [])[j]? with _ | x
  · exact (by decide : (0 : Int32).toInt8.toInt32 = 0)
  · exact key i hi x (List.mem_of_getElem? h)
theorem k_coder (l : Launch) {i : Nat} (hi3 : i < 13) (ka : Nat)  : q_JmK i ka l yJ0_coder_7d493 kJ0_coder_7d493 1 0 [.ref ka] (fun cy => []) (fun cy sz rv w' => rv = some (.int 0) ∧ w' = []) := by
  refine q_JmK_of (maxL := 1) rfl (by decide +kernel) (Nat.le_of_ble_eq_true rfl) ?_
  intro K hG C hi hrI hrA hrV
  have C : q_Cj K cJ0_coder_7d493 RJ0 1 1 0 := C
  have hk9 : kL i < 13 := kL_lt hi3
  show q_J l K 0 [] 0 [(0, .ref ka)] []
  refine j_compact C flJ0_38 dJ0_coder_7d493_0 ?_
  refine j_if_eq (tgt := 13) C dJ0_coder_7d493_3 (by decide) (fun h9 => absurd h9 (by decide)) (fun _ => ?_)
  refine j_aload_n C dJ0_coder_7d493_6 rfl rfl ?_
  refine j_kcoder C hi3 hG flJ0_15 dJ0_coder_7d493_7 ?_
  refine j_goto (tgt := 14) C dJ0_coder_7d493_10 (by decide) ?_
  exact hrI _ _ _ _ _ _ (by omega) dJ0_coder_7d493_14 rfl rfl ⟨rfl, rfl⟩
theorem k_length (l : Launch) {i : Nat} (hi3 : i < 13) (ka : Nat)  : q_JmK i ka l yJ0_length_8abf5 kJ0_length_8abf5 2 0 [.ref ka] (fun cy => []) (fun cy sz rv w' => rv = some (.int (nI (kL i))) ∧ w' = []) := by
  refine q_JmK_of (maxL := 1) rfl (by decide +kernel) (Nat.le_of_ble_eq_true rfl) ?_
  intro K hG C hi hrI hrA hrV
  have C : q_Cj K cJ0_length_8abf5 RJ0 2 1 0 := C
  have hk9 : kL i < 13 := kL_lt hi3
  show q_J l K 0 [] 0 [(0, .ref ka)] []
  refine j_aload_n C dJ0_length_8abf5_0 rfl rfl ?_
  refine j_kval C hi3 hG flJ0_9 dJ0_length_8abf5_1 ?_
  refine j_kalen C hi3 dJ0_length_8abf5_4 ?_
  refine j_aload_n C dJ0_length_8abf5_5 rfl rfl ?_
  refine j_cvK (w := (fun _ => [])) (fr := []) (As := []) (rest := [.int (nI (kL i))]) C hi3 hG (k_coder l hi3 ka) rfl rfl jhJ0_coder_7d493 mlJ0_335 jiJ0_coder_7d493 jSJ0_coder_7d493 jnJ0_coder_7d493 jcJ0_coder_7d493 rfl rfl ⟨by decide, by decide⟩ (by omega) (Nat.le_of_ble_eq_true rfl) dJ0_length_8abf5_6 (fun sz_6 rv w' hz_6 hl_6 hp_6 => ?_)
  obtain ⟨rfl, rfl⟩ := hp_6
  show q_J l K 0 [] 9 [(0, .ref ka)] [.int 0, .int (nI (kL i))]
  refine j_ishr (v := nI (kL i)) C (ish0 _) dJ0_length_8abf5_9 ?_
  exact hrI _ _ _ _ _ _ (by omega) dJ0_length_8abf5_10 rfl rfl ⟨rfl, rfl⟩
theorem k_getBytes (l : Launch) {i : Nat} (hi3 : i < 13) (ka : Nat) (da N : Nat) (f : Nat → Int32) (n : Nat) (hN : n + kL i ≤ N) (hN9 : N < 1000) : q_JmK i ka l yJ0_getBytes_840e7 kJ0_getBytes_840e7 2 0 [.ref ka, .ref da, .int (nI n), .int 0] (fun cy => [(da, .inl (cy 5, N, .inl f))]) (fun cy sz rv w' => rv = none ∧ w' = [(da, .inl (cy 5, N, .inl (va_cpy (kB i) f 0 n (kL i))))]) := by
  refine q_JmK_of (maxL := 4) rfl (by decide +kernel) (Nat.le_of_ble_eq_true rfl) ?_
  intro K hG C hi hrI hrA hrV
  have C : q_Cj K cJ0_getBytes_840e7 RJ0 2 4 0 := C
  have hk9 : kL i < 13 := kL_lt hi3
  show q_J l K 0 [(da, .inl (q_cy K 5, N, .inl f))] 0 [(0, .ref ka), (1, .ref da), (2, .int (nI n)), (3, .int 0)] []
  refine j_aload_n C dJ0_getBytes_840e7_0 rfl rfl ?_
  refine j_cvK (w := (fun _ => [])) (fr := [(da, .inl (q_cy K 5, N, .inl f))]) (As := []) (rest := []) C hi3 hG (k_coder l hi3 ka) rfl rfl jhJ0_coder_7d493 mlJ0_335 jiJ0_coder_7d493 jSJ0_coder_7d493 jnJ0_coder_7d493 jcJ0_coder_7d493 rfl rfl ⟨by decide, by decide⟩ (by omega) (Nat.le_of_ble_eq_true rfl) dJ0_getBytes_840e7_1 (fun sz_1 rv w' hz_1 hl_1 hp_1 => ?_)
  obtain ⟨rfl, rfl⟩ := hp_1
  show q_J l K 0 [(da, .inl (q_cy K 5, N, .inl f))] 4 [(0, .ref ka), (1, .ref da), (2, .int (nI n)), (3, .int 0)] [.int 0]
  refine j_iload_n C dJ0_getBytes_840e7_4 rfl rfl ?_
  refine j_icmp_ne (tgt := 28) C dJ0_getBytes_840e7_5 (by decide) (fun h9 => absurd h9 (by decide)) (fun _ => ?_)
  refine j_aload_n C dJ0_getBytes_840e7_8 rfl rfl ?_
  refine j_kval C hi3 hG flJ0_9 dJ0_getBytes_840e7_9 ?_
  refine j_iconst (v := 0) C dJ0_getBytes_840e7_12 (by decide) ?_
  refine j_aload_n C dJ0_getBytes_840e7_13 rfl rfl ?_
  refine j_iload_n C dJ0_getBytes_840e7_14 rfl rfl ?_
  refine j_iload_n C dJ0_getBytes_840e7_15 rfl rfl ?_
  refine j_ishl C dJ0_getBytes_840e7_16 ?_
  refine j_top (ishl0 _) ?_
  refine j_aload_n C dJ0_getBytes_840e7_17 rfl rfl ?_
  refine j_kval C hi3 hG flJ0_9 dJ0_getBytes_840e7_18 ?_
  refine j_kalen C hi3 dJ0_getBytes_840e7_21 ?_
  refine j_kcopy (dp := n) (n' := kL i) (ws' := [(da, .inl (q_cy K 5, N, .inl (va_cpy (kB i) f 0 n (kL i))))]) C hi3 0 rfl rfl rfl (by omega) (by omega) (by omega) (by omega) (jfit (kB_jB hi3)) rfl mlJ0_212 jw_na jw_st jw_in (by decide) (Nat.le_of_ble_eq_true rfl) dJ0_getBytes_840e7_22 ?_
  refine j_goto (tgt := 43) C dJ0_getBytes_840e7_25 (by decide) ?_
  exact hrV _ _ _ _ (by omega) dJ0_getBytes_840e7_43 rfl ⟨rfl, rfl⟩
theorem k_infl (l : Launch) {i : Nat} (hi3 : i < 13) (ka : Nat) (b da N : Nat) (f : Nat → Int32) (n : Nat) : q_JmK i ka l yJ5_inflateIfNeededFor_a7421 kJ5_inflateIfNeededFor_a7421 3 0 [.ref b, .ref ka] (fun cy => [(b, .inr (7, [.ref da, .int 0, .int 0, .int (nI n)])), (da, .inl (cy 5, N, .inl f))]) (fun cy sz rv w' => rv = none ∧ w' = uB cy b da N f n) := by
  refine q_JmK_of (maxL := 2) rfl (by decide +kernel) (Nat.le_of_ble_eq_true rfl) ?_
  intro K hG C hi hrI hrA hrV
  have C : q_Cj K cJ5_inflateIfNeededFor_a7421 RJ5 3 2 0 := C
  have hk9 : kL i < 13 := kL_lt hi3
  show q_J l K 0 [(b, .inr (7, [.ref da, .int 0, .int 0, .int (nI n)])), (da, .inl (q_cy K 5, N, .inl f))] 0 [(0, .ref b), (1, .ref ka)] []
  refine j_compact C flJ5_18 dJ5_inflateIfNeededFor_a7421_0 ?_
  refine j_if_eq (tgt := 21) C dJ5_inflateIfNeededFor_a7421_3 (by decide) (fun h9 => absurd h9 (by decide)) (fun _ => ?_)
  refine j_aload_n C dJ5_inflateIfNeededFor_a7421_6 rfl rfl ?_
  refine j_get C fjJ5_22 0 rfl rfl dJ5_inflateIfNeededFor_a7421_7 ?_
  refine j_aload_n C dJ5_inflateIfNeededFor_a7421_10 rfl rfl ?_
  refine j_cvK (w := (fun _ => [])) (fr := [(b, .inr (7, [.ref da, .int 0, .int 0, .int (nI n)])), (da, .inl (q_cy K 5, N, .inl f))]) (As := []) (rest := [.int 0]) C hi3 hG (k_coder l hi3 ka) rfl rfl jhJ0_coder_7d493 mlJ5_40 jiJ0_coder_7d493 jSJ0_coder_7d493 jnJ0_coder_7d493 jcJ0_coder_7d493 rfl rfl ⟨by decide, by decide⟩ (by omega) (Nat.le_of_ble_eq_true rfl) dJ5_inflateIfNeededFor_a7421_11 (fun sz_11 rv w' hz_11 hl_11 hp_11 => ?_)
  obtain ⟨rfl, rfl⟩ := hp_11
  show q_J l K 0 [(b, .inr (7, [.ref da, .int 0, .int 0, .int (nI n)])), (da, .inl (q_cy K 5, N, .inl f))] 14 [(0, .ref b), (1, .ref ka)] [.int 0, .int 0]
  refine j_icmp_eq (tgt := 21) C dJ5_inflateIfNeededFor_a7421_14 (by decide) (fun _ => ?_) (fun h9 => absurd h9 (by decide))
  exact hrV _ _ _ _ (by omega) dJ5_inflateIfNeededFor_a7421_21 rfl ⟨rfl, rfl⟩
theorem k_putStr (l : Launch) {i : Nat} (hi3 : i < 13) (ka : Nat) (b da N : Nat) (f : Nat → Int32) (n : Nat) (hN : n + kL i ≤ N) (hN9 : N < 1000) : q_JmK i ka l yJ5_putStringAt_47b60 kJ5_putStringAt_47b60 4 0 [.ref b, .int (nI n), .ref ka] (fun cy => [(b, .inr (7, [.ref da, .int 0, .int 0, .int (nI n)])), (da, .inl (cy 5, N, .inl f))]) (fun cy sz rv w' => rv = none ∧ w' = [(b, .inr (7, [.ref da, .int 0, .int 0, .int (nI n)])), (da, .inl (cy 5, N, .inl (va_cpy (kB i) f 0 n (kL i))))]) := by
  refine q_JmK_of (maxL := 3) rfl (by decide +kernel) (Nat.le_of_ble_eq_true rfl) ?_
  intro K hG C hi hrI hrA hrV
  have C : q_Cj K cJ5_putStringAt_47b60 RJ5 4 3 0 := C
  have hk9 : kL i < 13 := kL_lt hi3
  show q_J l K 0 [(b, .inr (7, [.ref da, .int 0, .int 0, .int (nI n)])), (da, .inl (q_cy K 5, N, .inl f))] 0 [(0, .ref b), (1, .int (nI n)), (2, .ref ka)] []
  refine j_aload_n C dJ5_putStringAt_47b60_0 rfl rfl ?_
  refine j_aload_n C dJ5_putStringAt_47b60_1 rfl rfl ?_
  refine j_cuK (k0 := 0) (ci := 7) (w := (fun cy => uB cy b da N f n)) (fr := []) (As := [.ref ka]) (rest := []) C hi3 hG rfl (k_infl l hi3 ka b da N f n) rfl rfl jhJ5_inflateIfNeededFor_a7421 mlJ5_397 jiJ5_inflateIfNeededFor_a7421 jnJ5_inflateIfNeededFor_a7421 jcJ5_inflateIfNeededFor_a7421 jmJ5_inflateIfNeededFor_a7421 jSJ5_inflateIfNeededFor_a7421 rfl rfl ⟨by decide, by decide⟩ (by omega) (Nat.le_of_ble_eq_true rfl) dJ5_putStringAt_47b60_2 (fun sz_2 rv w' hz_2 hl_2 hp_2 => ?_)
  obtain ⟨rfl, rfl⟩ := hp_2
  show q_J l K 0 [(b, .inr (7, [.ref da, .int 0, .int 0, .int (nI n)])), (da, .inl (q_cy K 5, N, .inl f))] 5 [(0, .ref b), (1, .int (nI n)), (2, .ref ka)] []
  refine j_aload_n C dJ5_putStringAt_47b60_5 rfl rfl ?_
  refine j_aload_n C dJ5_putStringAt_47b60_6 rfl rfl ?_
  refine j_get C fjJ5_15 0 rfl rfl dJ5_putStringAt_47b60_7 ?_
  refine j_iload_n C dJ5_putStringAt_47b60_10 rfl rfl ?_
  refine j_aload_n C dJ5_putStringAt_47b60_11 rfl rfl ?_
  refine j_get C fjJ5_22 0 rfl rfl dJ5_putStringAt_47b60_12 ?_
  refine j_sel [1, 0] (by decide) rfl ?_
  refine j_cvK (w := (fun cy => [(da, .inl (cy 5, N, .inl f))])) (fr := [(b, .inr (7, [.ref da, .int 0, .int 0, .int (nI n)]))]) (As := [.ref da, .int (nI n), .int 0]) (rest := []) C hi3 hG (k_getBytes l hi3 ka da N f n (by omega) (by omega)) rfl rfl jhJ0_getBytes_840e7 mlJ5_399 jiJ0_getBytes_840e7 jSJ0_getBytes_840e7 jnJ0_getBytes_840e7 jcJ0_getBytes_840e7 rfl rfl ⟨by decide, by decide⟩ (by omega) (Nat.le_of_ble_eq_true rfl) dJ5_putStringAt_47b60_15 (fun sz_15 rv w' hz_15 hl_15 hp_15 => ?_)
  obtain ⟨rfl, rfl⟩ := hp_15
  show q_J l K 0 [(da, .inl (q_cy K 5, N, .inl (va_cpy (kB i) f 0 n (kL i)))), (b, .inr (7, [.ref da, .int 0, .int 0, .int (nI n)]))] 18 [(0, .ref b), (1, .int (nI n)), (2, .ref ka)] []
  refine j_sel [1, 0] (by decide) rfl ?_
  exact hrV _ _ _ _ (by omega) dJ5_putStringAt_47b60_18 rfl ⟨rfl, rfl⟩
theorem k_appS5 (l : Launch) {i : Nat} (hi3 : i < 13) (ka : Nat) (b da N : Nat) (f : Nat → Int32) (n : Nat) (hf : jB f) (hn : n ≤ N) (hb : N ≤ 2 * n + 16) (hn9 : n + kL i < 120) : q_JmK i ka l yJ5_append_cf1ce kJ5_append_cf1ce 6 101 [.ref b, .ref ka] (fun cy => [(b, .inr (7, [.ref da, .int 0, .int 0, .int (nI n)])), (da, .inl (cy 5, N, .inl f))]) (fun cy sz rv w' => ∃ da' N' f', rv = some (.ref b) ∧ w' = uB cy b da' N' f' (n + kL i) ∧ (da' = da ∨ sz ≤ da') ∧ n + kL i ≤ N' ∧ N' ≤ 2 * (n + kL i) + 16 ∧ jB f' ∧ (∀ j, j < n → f' j = f j) ∧ ∀ j, j < kL i → f' (n + j) = kB i j) := by
  refine q_JmK_of (maxL := 3) rfl (by decide +kernel) (Nat.le_of_ble_eq_true rfl) ?_
  intro K hG C hi hrI hrA hrV
  have C : q_Cj K cJ5_append_cf1ce RJ5 6 3 101 := C
  have hk9 : kL i < 13 := kL_lt hi3
  show q_J l K 0 [(b, .inr (7, [.ref da, .int 0, .int 0, .int (nI n)])), (da, .inl (q_cy K 5, N, .inl f))] 0 [(0, .ref b), (1, .ref ka)] []
  refine j_aload_n C dJ5_append_cf1ce_0 rfl rfl ?_
  refine j_ifnn (tgt := 9) C dJ5_append_cf1ce_1 (by decide) ?_
  refine j_aload_n C dJ5_append_cf1ce_9 rfl rfl ?_
  refine j_cvK (w := (fun _ => [])) (fr := [(b, .inr (7, [.ref da, .int 0, .int 0, .int (nI n)])), (da, .inl (q_cy K 5, N, .inl f))]) (As := []) (rest := []) C hi3 hG (k_length l hi3 ka) rfl rfl jhJ0_length_8abf5 mlJ5_32 jiJ0_length_8abf5 jSJ0_length_8abf5 jnJ0_length_8abf5 jcJ0_length_8abf5 rfl rfl ⟨by decide, by decide⟩ (by omega) (Nat.le_of_ble_eq_true rfl) dJ5_append_cf1ce_10 (fun sz_10 rv w' hz_10 hl_10 hp_10 => ?_)
  obtain ⟨rfl, rfl⟩ := hp_10
  show q_J l K 0 [(b, .inr (7, [.ref da, .int 0, .int 0, .int (nI n)])), (da, .inl (q_cy K 5, N, .inl f))] 13 [(0, .ref b), (1, .ref ka)] [.int (nI (kL i))]
  refine j_istore_n (lv' := [(2, .int (nI (kL i))), (0, .ref b), (1, .ref ka)]) C dJ5_append_cf1ce_13 rfl (by decide) rfl ?_
  refine j_aload_n C dJ5_append_cf1ce_14 rfl rfl ?_
  refine j_aload_n C dJ5_append_cf1ce_15 rfl rfl ?_
  refine j_get C fjJ5_79 0 rfl rfl dJ5_append_cf1ce_16 ?_
  refine j_iload_n C dJ5_append_cf1ce_19 rfl rfl ?_
  refine j_iaddN (a := n) (b := kL i) C dJ5_append_cf1ce_20 rfl rfl ?_
  refine j_cu (k0 := 0) (ci := 7) (w := (fun cy => uB cy b da N f n)) (fr := []) (As := [.int (nI (n + (kL i)))]) (rest := []) C rfl (m_ensure l b da N f n hf (n + (kL i)) (by omega) (by omega)) rfl rfl jhJ5_ensureCapacityInternal_d00df mlJ5_100 jiJ5_ensureCapacityInternal_d00df jnJ5_ensureCapacityInternal_d00df jcJ5_ensureCapacityInternal_d00df jmJ5_ensureCapacityInternal_d00df jSJ5_ensureCapacityInternal_d00df rfl rfl ⟨by decide, by decide⟩ (by omega) (Nat.le_of_ble_eq_true rfl) dJ5_append_cf1ce_21 (fun sz_21 rv w' hz_21 hl_21 hp_21 => ?_)
  obtain ⟨da_21, N_21, f_21, rfl, rfl, hd_21, hq_21⟩ := hp_21
  show q_J l K (0 + 101) [(b, .inr (7, [.ref da_21, .int 0, .int 0, .int (nI n)])), (da_21, .inl (q_cy K 5, N_21, .inl f_21))] 24 [(2, .int (nI (kL i))), (0, .ref b), (1, .ref ka)] []
  obtain ⟨e1, e2, e3, e4⟩ := m_ens hf hd_21 hn hb (show n ≤ n + kL i by omega)
  refine j_aload_n C dJ5_append_cf1ce_24 rfl rfl ?_
  refine j_aload_n C dJ5_append_cf1ce_25 rfl rfl ?_
  refine j_get C fjJ5_79 0 rfl rfl dJ5_append_cf1ce_26 ?_
  refine j_aload_n C dJ5_append_cf1ce_29 rfl rfl ?_
  refine j_cuK (k0 := 0) (ci := 7) (w := (fun cy => uB cy b da_21 N_21 f_21 n)) (fr := []) (As := [.int (nI n), .ref ka]) (rest := []) C hi3 hG rfl (k_putStr l hi3 ka b da_21 N_21 f_21 n (by omega) (by omega)) rfl rfl jhJ5_putStringAt_47b60 mlJ5_208 jiJ5_putStringAt_47b60 jnJ5_putStringAt_47b60 jcJ5_putStringAt_47b60 jmJ5_putStringAt_47b60 jSJ5_putStringAt_47b60 rfl rfl ⟨by decide, by decide⟩ (by omega) (Nat.le_of_ble_eq_true rfl) dJ5_append_cf1ce_30 (fun sz_30 rv w' hz_30 hl_30 hp_30 => ?_)
  obtain ⟨rfl, rfl⟩ := hp_30
  show q_J l K (0 + 101) [(b, .inr (7, [.ref da_21, .int 0, .int 0, .int (nI n)])), (da_21, .inl (q_cy K 5, N_21, .inl (va_cpy (kB i) f_21 0 n (kL i))))] 33 [(2, .int (nI (kL i))), (0, .ref b), (1, .ref ka)] []
  refine j_aload_n C dJ5_append_cf1ce_33 rfl rfl ?_
  refine j_dup C rfl dJ5_append_cf1ce_34 ?_
  refine j_get C fjJ5_79 0 rfl rfl dJ5_append_cf1ce_35 ?_
  refine j_iload_n C dJ5_append_cf1ce_38 rfl rfl ?_
  refine j_iaddN (a := n) (b := kL i) C dJ5_append_cf1ce_39 rfl rfl ?_
  refine j_put (ws' := [(b, .inr (7, [.ref da_21, .int 0, .int 0, .int (nI (n + (kL i)))])), (da_21, .inl (q_cy K 5, N_21, .inl (va_cpy (kB i) f_21 0 n (kL i))))]) (ty9 := .int) C fjJ5_79 0 rfl (fun _ _ _ h => by cases h; exact ⟨rfl, rfl⟩) rfl rfl (Nat.le_of_ble_eq_true rfl) rfl dJ5_append_cf1ce_40 ?_
  refine j_aload_n C dJ5_append_cf1ce_43 rfl rfl ?_
  exact hrA _ _ _ _ _ _ (by omega) dJ5_append_cf1ce_44 rfl (Or.inl ⟨_, rfl⟩) ⟨_, _, _, rfl, rfl, e1.imp id (fun h => Nat.le_trans hz_21 h), by omega, by omega, jB_cpy (kB_jB hi3) e2 _ _ _, fun j hj => by rw [← e3 j hj]; unfold va_cpy; rw [if_neg (by omega)], fun j hj => by unfold va_cpy; rw [if_pos (by omega), show 0 + (n + j - n) = j by omega]⟩
theorem k_appS (l : Launch) {i : Nat} (hi3 : i < 13) (ka : Nat) (b da N : Nat) (f : Nat → Int32) (n : Nat) (hf : jB f) (hn : n ≤ N) (hb : N ≤ 2 * n + 16) (hn9 : n + kL i < 120) : q_JmK i ka l yJ4_append_15ec4 kJ4_append_15ec4 7 101 [.ref b, .ref ka] (fun cy => [(b, .inr (7, [.ref da, .int 0, .int 0, .int (nI n)])), (da, .inl (cy 5, N, .inl f))]) (fun cy sz rv w' => ∃ da' N' f', rv = some (.ref b) ∧ w' = uB cy b da' N' f' (n + kL i) ∧ (da' = da ∨ sz ≤ da') ∧ n + kL i ≤ N' ∧ N' ≤ 2 * (n + kL i) + 16 ∧ jB f' ∧ (∀ j, j < n → f' j = f j) ∧ ∀ j, j < kL i → f' (n + j) = kB i j) := by
  refine q_JmK_of (maxL := 2) rfl (by decide +kernel) (Nat.le_of_ble_eq_true rfl) ?_
  intro K hG C hi hrI hrA hrV
  have C : q_Cj K cJ4_append_15ec4 RJ4 7 2 101 := C
  have hk9 : kL i < 13 := kL_lt hi3
  show q_J l K 0 [(b, .inr (7, [.ref da, .int 0, .int 0, .int (nI n)])), (da, .inl (q_cy K 5, N, .inl f))] 0 [(0, .ref b), (1, .ref ka)] []
  refine j_aload_n C dJ4_append_15ec4_0 rfl rfl ?_
  refine j_aload_n C dJ4_append_15ec4_1 rfl rfl ?_
  refine j_csuK (k0 := 0) (w := (fun cy => uB cy b da N f n)) (fr := []) (As := [.ref ka]) (rest := []) C hi3 hG (k_appS5 l hi3 ka b da N f n hf hn hb hn9) rfl rfl rfl ⟨by decide, jhJ5_append_cf1ce.2.2⟩ mlJ4_29 jiJ5_append_cf1ce jnJ5_append_cf1ce jcJ5_append_cf1ce jmJ5_append_cf1ce jw_su rfl rfl ⟨by decide, by decide⟩ (by omega) (Nat.le_of_ble_eq_true rfl) dJ4_append_15ec4_2 (fun sz_2 rv w' hz_2 hl_2 hp_2 => ?_)
  obtain ⟨da_2, N_2, f_2, rfl, rfl, h1_2, h2_2⟩ := hp_2
  show q_J l K (0 + 101) [(b, .inr (7, [.ref da_2, .int 0, .int 0, .int (nI (n + kL i))])), (da_2, .inl (q_cy K 5, N_2, .inl f_2))] 5 [(0, .ref b), (1, .ref ka)] [.ref b]
  refine j_pop C rfl dJ4_append_15ec4_5 ?_
  refine j_aload_n C dJ4_append_15ec4_6 rfl rfl ?_
  exact hrA _ _ _ _ _ _ (by omega) dJ4_append_15ec4_7 rfl (Or.inl ⟨_, rfl⟩) ⟨_, _, _, rfl, rfl, h1_2.imp id (fun h => Nat.le_trans hz_2 h), h2_2⟩
