
/-! the methods of text, one by one -/
theorem ishl0 (x : Int32) : x <<< ((0 : Int32) &&& 31) = x := by simp
theorem sub_le0 {q N : Nat} (h : q ≤ N) (hN : N < 2 ^ 30) : nI q - nI N ≤ 0 := by
  have e1 : (nI q - nI N).toInt = (q : Int) - N := pk_sub_toInt (by omega) (by omega)
  rw [Int32.le_iff_toInt_le, e1, Int32.toInt_zero]
  omega
def jB (f : Nat → Int32) : Prop := ∀ i, (f i).toInt8.toInt32 = f i
theorem jB0 : jB (fun _ => 0) := fun _ => by
  show (0 : Int32).toInt8.toInt32 = 0
  decide
theorem jfit {f : Nat → Int32} (h : jB f) (i : Nat) : fits .byte (.int (f i)) = true := by
  rw [← h i]
  exact pk_fb (f i)
theorem jB_cpy {f g : Nat → Int32} (hf : jB f) (hg : jB g) (a b n : Nat) : jB (va_cpy f g a b n) := fun i => by
  unfold va_cpy
  split
  · exact hf _
  · exact hg _
theorem jB_upd {f : Nat → Int32} (hf : jB f) (i : Nat) {x : Int32} (hx : x.toInt8.toInt32 = x) : jB (upd f i x) := fun j => by
  unfold upd
  split
  · exact hx
  · exact hf j
theorem jbyte {c : Nat} (h : c < 128) : (nI c).toInt8.toInt32 = nI c := by
  have key : ∀ c, c < 128 → (nI c).toInt8.toInt32 = nI c := by decide +kernel
  exact key c h
abbrev uB (cy : Nat → ClassId) (b da N : Nat) (f : Nat → Int32) (n : Nat) : va_W := [(b, .inr (7, [.ref da, .int 0, .int 0, .int (nI n)])), (da, .inl (cy 5, N, .inl f))]
abbrev uS (cy : Nat → ClassId) (q sd n : Nat) (g : Nat → Int32) (h z : Int32) : va_W := [(q, .inr (8, [.ref sd, .int 0, .int h, .int z])), (sd, .inl (cy 5, n, .inl g))]

theorem m_newLength (l : Launch) (a b c : Nat) (h0 : 0 < b) (h1 : a + max b c < 2147483639) : q_Jm l yJ8_newLength_cabcc kJ8_newLength_cabcc 2 0 [.int (nI a), .int (nI b), .int (nI c)] (fun cy => []) (fun cy sz rv w' => rv = some (.int (nI (a + max b c))) ∧ w' = []) := by
  refine q_Jm_of (maxL := 4) rfl (by decide +kernel) (Nat.le_of_ble_eq_true rfl) ?_
  intro K C hi hrI hrA hrV
  have C : q_Cj K cJ8_newLength_cabcc RJ8 2 4 0 := C
  show q_J l K 0 [] 0 [(0, .int (nI a)), (1, .int (nI b)), (2, .int (nI c))] []
  refine j_iload_n C dJ8_newLength_cabcc_0 rfl rfl ?_
  refine j_iload_n C dJ8_newLength_cabcc_1 rfl rfl ?_
  refine j_iload_n C dJ8_newLength_cabcc_2 rfl rfl ?_
  refine j_maxN (a := b) (b := c) C rfl rfl (by omega) (by omega) mlJ8_194 (by decide) (by omega) (Nat.le_of_ble_eq_true rfl) dJ8_newLength_cabcc_3 ?_
  refine j_iaddN (a := a) (b := max b c) C dJ8_newLength_cabcc_6 rfl rfl ?_
  refine j_istore_n (lv' := [(3, .int (nI (a + (max b c)))), (0, .int (nI a)), (1, .int (nI b)), (2, .int (nI c))]) C dJ8_newLength_cabcc_7 rfl (by decide) rfl ?_
  refine j_iconst (v := 0) C dJ8_newLength_cabcc_8 (by decide) ?_
  refine j_iload_n C dJ8_newLength_cabcc_9 rfl rfl ?_
  refine j_icmp_geN (a := 0) (b := a + (max b c)) (tgt := 21) C dJ8_newLength_cabcc_10 (by decide) rfl rfl (by omega) (by omega) (fun c_10 => absurd c_10 (by omega)) (fun c_10 => ?_)
  refine j_iload_n C dJ8_newLength_cabcc_13 rfl rfl ?_
  refine j_ldc (v := 2147483639) C jw_nl dJ8_newLength_cabcc_14 ?_
  refine j_icmp_gtN (a := a + (max b c)) (b := 2147483639) (tgt := 21) C dJ8_newLength_cabcc_16 (by decide) rfl rfl (by omega) (by omega) (fun c_16 => absurd c_16 (by omega)) (fun c_16 => ?_)
  refine j_iload_n C dJ8_newLength_cabcc_19 rfl rfl ?_
  exact hrI _ _ _ _ _ _ (by omega) dJ8_newLength_cabcc_20 rfl rfl ⟨rfl, rfl⟩
theorem m_isLatin1 (l : Launch) (b da N : Nat) (f : Nat → Int32) (n : Nat) : q_Jm l yJ5_isLatin1_aae02 kJ5_isLatin1_aae02 1 0 [.ref b] (fun cy => [(b, .inr (7, [.ref da, .int 0, .int 0, .int (nI n)])), (da, .inl (cy 5, N, .inl f))]) (fun cy sz rv w' => rv = some (.int 1) ∧ w' = uB cy b da N f n) := by
  refine q_Jm_of (maxL := 1) rfl (by decide +kernel) (Nat.le_of_ble_eq_true rfl) ?_
  intro K C hi hrI hrA hrV
  have C : q_Cj K cJ5_isLatin1_aae02 RJ5 1 1 0 := C
  show q_J l K 0 [(b, .inr (7, [.ref da, .int 0, .int 0, .int (nI n)])), (da, .inl (q_cy K 5, N, .inl f))] 0 [(0, .ref b)] []
  refine j_compact C flJ5_18 dJ5_isLatin1_aae02_0 ?_
  refine j_if_eq (tgt := 17) C dJ5_isLatin1_aae02_3 (by decide) (fun h9 => absurd h9 (by decide)) (fun _ => ?_)
  refine j_aload_n C dJ5_isLatin1_aae02_6 rfl rfl ?_
  refine j_get C fjJ5_22 0 rfl rfl dJ5_isLatin1_aae02_7 ?_
  refine j_if_ne (tgt := 17) C dJ5_isLatin1_aae02_10 (by decide) (fun h9 => absurd h9 (by decide)) (fun _ => ?_)
  refine j_iconst (v := 1) C dJ5_isLatin1_aae02_13 (by decide) ?_
  refine j_goto (tgt := 18) C dJ5_isLatin1_aae02_14 (by decide) ?_
  exact hrI _ _ _ _ _ _ (by omega) dJ5_isLatin1_aae02_18 rfl rfl ⟨rfl, rfl⟩
theorem m_getValue (l : Launch) (b da N : Nat) (f : Nat → Int32) (n : Nat) : q_Jm l yJ5_getValue_6d5f1 kJ5_getValue_6d5f1 1 0 [.ref b] (fun cy => [(b, .inr (7, [.ref da, .int 0, .int 0, .int (nI n)])), (da, .inl (cy 5, N, .inl f))]) (fun cy sz rv w' => rv = some (.ref da) ∧ w' = uB cy b da N f n) := by
  refine q_Jm_of (maxL := 1) rfl (by decide +kernel) (Nat.le_of_ble_eq_true rfl) ?_
  intro K C hi hrI hrA hrV
  have C : q_Cj K cJ5_getValue_6d5f1 RJ5 1 1 0 := C
  show q_J l K 0 [(b, .inr (7, [.ref da, .int 0, .int 0, .int (nI n)])), (da, .inl (q_cy K 5, N, .inl f))] 0 [(0, .ref b)] []
  refine j_aload_n C dJ5_getValue_6d5f1_0 rfl rfl ?_
  refine j_get C fjJ5_15 0 rfl rfl dJ5_getValue_6d5f1_1 ?_
  exact hrA _ _ _ _ _ _ (by omega) dJ5_getValue_6d5f1_4 rfl (Or.inr ⟨_, rfl⟩) ⟨rfl, rfl⟩
theorem m_blength (l : Launch) (b da N : Nat) (f : Nat → Int32) (n : Nat) : q_Jm l yJ5_length_8abf5 kJ5_length_8abf5 1 0 [.ref b] (fun cy => [(b, .inr (7, [.ref da, .int 0, .int 0, .int (nI n)])), (da, .inl (cy 5, N, .inl f))]) (fun cy sz rv w' => rv = some (.int (nI n)) ∧ w' = uB cy b da N f n) := by
  refine q_Jm_of (maxL := 1) rfl (by decide +kernel) (Nat.le_of_ble_eq_true rfl) ?_
  intro K C hi hrI hrA hrV
  have C : q_Cj K cJ5_length_8abf5 RJ5 1 1 0 := C
  show q_J l K 0 [(b, .inr (7, [.ref da, .int 0, .int 0, .int (nI n)])), (da, .inl (q_cy K 5, N, .inl f))] 0 [(0, .ref b)] []
  refine j_aload_n C dJ5_length_8abf5_0 rfl rfl ?_
  refine j_get C fjJ5_79 0 rfl rfl dJ5_length_8abf5_1 ?_
  exact hrI _ _ _ _ _ _ (by omega) dJ5_length_8abf5_4 rfl rfl ⟨rfl, rfl⟩
theorem m_newCap (l : Launch) (b da N : Nat) (f : Nat → Int32) (n : Nat) (q : Nat) (hq : N < q) (hN : q < 1000) : q_Jm l yJ5_newCapacity_0f7a4 kJ5_newCapacity_0f7a4 3 0 [.ref b, .int (nI q)] (fun cy => [(b, .inr (7, [.ref da, .int 0, .int 0, .int (nI n)])), (da, .inl (cy 5, N, .inl f))]) (fun cy sz rv w' => rv = some (.int (nI (N + max (q - N) (N + 2)))) ∧ w' = uB cy b da N f n) := by
  refine q_Jm_of (maxL := 6) rfl (by decide +kernel) (Nat.le_of_ble_eq_true rfl) ?_
  intro K C hi hrI hrA hrV
  have C : q_Cj K cJ5_newCapacity_0f7a4 RJ5 3 6 0 := C
  show q_J l K 0 [(b, .inr (7, [.ref da, .int 0, .int 0, .int (nI n)])), (da, .inl (q_cy K 5, N, .inl f))] 0 [(0, .ref b), (1, .int (nI q))] []
  refine j_aload_n C dJ5_newCapacity_0f7a4_0 rfl rfl ?_
  refine j_get C fjJ5_15 0 rfl rfl dJ5_newCapacity_0f7a4_1 ?_
  refine j_alen C 1 rfl dJ5_newCapacity_0f7a4_4 ?_
  refine j_istore_n (lv' := [(2, .int (nI N)), (0, .ref b), (1, .int (nI q))]) C dJ5_newCapacity_0f7a4_5 rfl (by decide) rfl ?_
  refine j_iload_n C dJ5_newCapacity_0f7a4_6 rfl rfl ?_
  refine j_aload_n C dJ5_newCapacity_0f7a4_7 rfl rfl ?_
  refine j_get C fjJ5_22 0 rfl rfl dJ5_newCapacity_0f7a4_8 ?_
  refine j_ishl C dJ5_newCapacity_0f7a4_11 ?_
  refine j_top (ishl0 _) ?_
  refine j_istore_n (lv' := [(3, .int (nI q)), (2, .int (nI N)), (0, .ref b), (1, .int (nI q))]) C dJ5_newCapacity_0f7a4_12 rfl (by decide) rfl ?_
  refine j_iload_n C dJ5_newCapacity_0f7a4_13 rfl rfl ?_
  refine j_iload_n C dJ5_newCapacity_0f7a4_14 rfl rfl ?_
  refine j_isubN (a := q) (b := N) C dJ5_newCapacity_0f7a4_15 rfl rfl (by omega) ?_
  refine j_istore (lv' := [(4, .int (nI (q - N))), (3, .int (nI q)), (2, .int (nI N)), (0, .ref b), (1, .int (nI q))]) C dJ5_newCapacity_0f7a4_16 (by decide) rfl ?_
  refine j_iload_n C dJ5_newCapacity_0f7a4_18 rfl rfl ?_
  refine j_iload C dJ5_newCapacity_0f7a4_19 rfl ?_
  refine j_iload_n C dJ5_newCapacity_0f7a4_21 rfl rfl ?_
  refine j_iconst (v := 2) C dJ5_newCapacity_0f7a4_22 (by decide) ?_
  refine j_aload_n C dJ5_newCapacity_0f7a4_23 rfl rfl ?_
  refine j_get C fjJ5_22 0 rfl rfl dJ5_newCapacity_0f7a4_24 ?_
  refine j_ishl C dJ5_newCapacity_0f7a4_27 ?_
  refine j_top (ishl0 _) ?_
  refine j_iaddN (a := N) (b := 2) C dJ5_newCapacity_0f7a4_28 rfl rfl ?_
  refine j_cs (w := (fun _ => [])) (fr := [(b, .inr (7, [.ref da, .int 0, .int 0, .int (nI n)])), (da, .inl (q_cy K 5, N, .inl f))]) (As := [.int (nI N), .int (nI (q - N)), .int (nI (N + 2))]) (rest := []) C (m_newLength l N (q - N) (N + 2) (by omega) (by omega)) rfl jhJ8_newLength_cabcc mlJ5_114 jsJ8_newLength_cabcc jnJ8_newLength_cabcc jcJ8_newLength_cabcc rfl rfl ⟨by decide, by decide⟩ (by omega) (Nat.le_of_ble_eq_true rfl) dJ5_newCapacity_0f7a4_29 (fun sz_29 rv w' hz_29 hl_29 hp_29 => ?_)
  obtain ⟨rfl, rfl⟩ := hp_29
  show q_J l K 0 [(b, .inr (7, [.ref da, .int 0, .int 0, .int (nI n)])), (da, .inl (q_cy K 5, N, .inl f))] 32 [(4, .int (nI (q - N))), (3, .int (nI q)), (2, .int (nI N)), (0, .ref b), (1, .int (nI q))] [.int (nI (N + max (q - N) (N + 2)))]
  refine j_istore (lv' := [(5, .int (nI (N + max (q - N) (N + 2)))), (4, .int (nI (q - N))), (3, .int (nI q)), (2, .int (nI N)), (0, .ref b), (1, .int (nI q))]) C dJ5_newCapacity_0f7a4_32 (by decide) rfl ?_
  refine j_iload C dJ5_newCapacity_0f7a4_34 rfl ?_
  refine j_ldc (v := 2147483647) C jw_mx dJ5_newCapacity_0f7a4_36 ?_
  refine j_icmp_neN (a := N + max (q - N) (N + 2)) (b := 2147483647) (tgt := 51) C dJ5_newCapacity_0f7a4_38 (by decide) rfl rfl (by omega) (by omega) (fun c_38 => ?_) (fun c_38 => absurd c_38 (by omega))
  refine j_iload C dJ5_newCapacity_0f7a4_51 rfl ?_
  refine j_aload_n C dJ5_newCapacity_0f7a4_53 rfl rfl ?_
  refine j_get C fjJ5_22 0 rfl rfl dJ5_newCapacity_0f7a4_54 ?_
  refine j_ishr (v := nI (N + max (q - N) (N + 2))) C (ish0 _) dJ5_newCapacity_0f7a4_57 ?_
  exact hrI _ _ _ _ _ _ (by omega) dJ5_newCapacity_0f7a4_58 rfl rfl ⟨rfl, rfl⟩
theorem m_copyOf (l : Launch) (da N : Nat) (f : Nat → Int32) (hf : jB f) (q : Nat) (hq : N < q) (hN : q ≤ 600) : q_Jm l yJ7_copyOf_9075b kJ7_copyOf_9075b 3 101 [.ref da, .int (nI q)] (fun cy => [(da, .inl (cy 5, N, .inl f))]) (fun cy sz rv w' => ∃ a, rv = some (.ref a) ∧ sz ≤ a ∧ w' = [(da, .inl (cy 5, N, .inl f)), (a, .inl (cy 5, q, .inl (va_cpy f (fun _ => 0) 0 0 N)))]) := by
  refine q_Jm_of (maxL := 3) rfl (by decide +kernel) (Nat.le_of_ble_eq_true rfl) ?_
  intro K C hi hrI hrA hrV
  have C : q_Cj K cJ7_copyOf_9075b RJ7 3 3 101 := C
  show q_J l K 0 [(da, .inl (q_cy K 5, N, .inl f))] 0 [(0, .ref da), (1, .int (nI q))] []
  refine j_iload_n C dJ7_copyOf_9075b_0 rfl rfl ?_
  refine j_aload_n C dJ7_copyOf_9075b_1 rfl rfl ?_
  refine j_alen C 0 rfl dJ7_copyOf_9075b_2 ?_
  refine j_icmp_neN (a := q) (b := N) (tgt := 14) C dJ7_copyOf_9075b_3 (by decide) rfl rfl (by omega) (by omega) (fun c_3 => ?_) (fun c_3 => absurd c_3 (by omega))
  refine j_iload_n C dJ7_copyOf_9075b_14 rfl rfl ?_
  refine j_newa (N := q) C wB_byte rfl (by omega) (by omega) dJ7_copyOf_9075b_15 (fun a_15 hn_15 hm_15 => ?_)
  show q_J l K (0 + 101) [(da, .inl (q_cy K 5, N, .inl f)), (a_15, .inl (q_cy K 5, q, .inl (fun _ => 0)))] 17 [(0, .ref da), (1, .int (nI q))] [.ref a_15]
  refine j_astore_n (lv' := [(2, .ref a_15), (0, .ref da), (1, .int (nI q))]) C dJ7_copyOf_9075b_17 rfl (by decide) rfl ?_
  refine j_aload_n C dJ7_copyOf_9075b_18 rfl rfl ?_
  refine j_iconst (v := 0) C dJ7_copyOf_9075b_19 (by decide) ?_
  refine j_aload_n C dJ7_copyOf_9075b_20 rfl rfl ?_
  refine j_iconst (v := 0) C dJ7_copyOf_9075b_21 (by decide) ?_
  refine j_aload_n C dJ7_copyOf_9075b_22 rfl rfl ?_
  refine j_alen C 0 rfl dJ7_copyOf_9075b_23 ?_
  refine j_iload_n C dJ7_copyOf_9075b_24 rfl rfl ?_
  refine j_minN (a := N) (b := q) C rfl rfl (by omega) (by omega) mlJ7_304 (by decide) (by omega) (Nat.le_of_ble_eq_true rfl) dJ7_copyOf_9075b_25 ?_
  refine j_acopy (sp := 0) (dp := 0) (n' := min N q) (ws' := [(da, .inl (q_cy K 5, N, .inl f)), (a_15, .inl (q_cy K 5, q, .inl (va_cpy f (fun _ => 0) 0 0 (min N q))))]) C 0 1 rfl rfl rfl rfl rfl (by omega) (by omega) ⟨by omega, by omega⟩ (jfit hf) rfl mlJ7_150 jw_na jw_st jw_in (by decide) (Nat.le_of_ble_eq_true rfl) dJ7_copyOf_9075b_28 ?_
  refine j_aload_n C dJ7_copyOf_9075b_31 rfl rfl ?_
  exact hrA _ _ _ _ _ _ (by omega) dJ7_copyOf_9075b_32 rfl (Or.inr ⟨_, rfl⟩) ⟨_, rfl, hn_15, by rw [show min N q = N by omega]⟩
theorem m_ensure (l : Launch) (b da N : Nat) (f : Nat → Int32) (n : Nat) (hf : jB f) (q : Nat) (hN : N < 290) (hq9 : q < 290) : q_Jm l yJ5_ensureCapacityInternal_d00df kJ5_ensureCapacityInternal_d00df 4 101 [.ref b, .int (nI q)] (fun cy => [(b, .inr (7, [.ref da, .int 0, .int 0, .int (nI n)])), (da, .inl (cy 5, N, .inl f))]) (fun cy sz rv w' => ∃ da' N' f', rv = none ∧ w' = uB cy b da' N' f' n ∧ ((da' = da ∧ N' = N ∧ f' = f) ∨ (sz ≤ da' ∧ N' = N + max (q - N) (N + 2) ∧ f' = va_cpy f (fun _ => 0) 0 0 N ∧ N < q)) ∧ q ≤ N') := by
  refine q_Jm_of (maxL := 3) rfl (by decide +kernel) (Nat.le_of_ble_eq_true rfl) ?_
  intro K C hi hrI hrA hrV
  have C : q_Cj K cJ5_ensureCapacityInternal_d00df RJ5 4 3 101 := C
  show q_J l K 0 [(b, .inr (7, [.ref da, .int 0, .int 0, .int (nI n)])), (da, .inl (q_cy K 5, N, .inl f))] 0 [(0, .ref b), (1, .int (nI q))] []
  refine j_aload_n C dJ5_ensureCapacityInternal_d00df_0 rfl rfl ?_
  refine j_get C fjJ5_15 0 rfl rfl dJ5_ensureCapacityInternal_d00df_1 ?_
  refine j_alen C 1 rfl dJ5_ensureCapacityInternal_d00df_4 ?_
  refine j_aload_n C dJ5_ensureCapacityInternal_d00df_5 rfl rfl ?_
  refine j_get C fjJ5_22 0 rfl rfl dJ5_ensureCapacityInternal_d00df_6 ?_
  refine j_ishr (v := nI N) C (ish0 _) dJ5_ensureCapacityInternal_d00df_9 ?_
  refine j_istore_n (lv' := [(2, .int (nI N)), (0, .ref b), (1, .int (nI q))]) C dJ5_ensureCapacityInternal_d00df_10 rfl (by decide) rfl ?_
  refine j_iload_n C dJ5_ensureCapacityInternal_d00df_11 rfl rfl ?_
  refine j_iload_n C dJ5_ensureCapacityInternal_d00df_12 rfl rfl ?_
  by_cases hq : q ≤ N
  · refine j_isub C dJ5_ensureCapacityInternal_d00df_13 ?_
    refine j_if_le (tgt := 38) C dJ5_ensureCapacityInternal_d00df_14 (by decide) (fun _ => ?_) (fun c => absurd c (Int32.not_lt.mpr (sub_le0 hq (by omega))))
    exact hrV _ _ _ _ (by omega) dJ5_ensureCapacityInternal_d00df_38 rfl ⟨_, _, _, rfl, rfl, Or.inl ⟨rfl, rfl, rfl⟩, hq⟩
  · refine j_isubN (a := q) (b := N) C dJ5_ensureCapacityInternal_d00df_13 rfl rfl (by omega) ?_
    refine j_if_leN (a := q - N) (tgt := 38) C dJ5_ensureCapacityInternal_d00df_14 (by decide) rfl (by omega) (fun c_14 => absurd c_14 (by omega)) (fun c_14 => ?_)
    refine j_aload_n C dJ5_ensureCapacityInternal_d00df_17 rfl rfl ?_
    refine j_aload_n C dJ5_ensureCapacityInternal_d00df_18 rfl rfl ?_
    refine j_get C fjJ5_15 0 rfl rfl dJ5_ensureCapacityInternal_d00df_19 ?_
    refine j_aload_n C dJ5_ensureCapacityInternal_d00df_22 rfl rfl ?_
    refine j_iload_n C dJ5_ensureCapacityInternal_d00df_23 rfl rfl ?_
    refine j_cu (k0 := 0) (ci := 7) (w := (fun cy => uB cy b da N f n)) (fr := []) (As := [.int (nI q)]) (rest := [.ref da, .ref b]) C rfl (m_newCap l b da N f n q (by omega) (by omega)) rfl rfl jhJ5_newCapacity_0f7a4 mlJ5_104 jiJ5_newCapacity_0f7a4 jnJ5_newCapacity_0f7a4 jcJ5_newCapacity_0f7a4 jmJ5_newCapacity_0f7a4 jSJ5_newCapacity_0f7a4 rfl rfl ⟨by decide, by decide⟩ (by omega) (Nat.le_of_ble_eq_true rfl) dJ5_ensureCapacityInternal_d00df_24 (fun sz_24 rv w' hz_24 hl_24 hp_24 => ?_)
    obtain ⟨rfl, rfl⟩ := hp_24
    show q_J l K 0 [(b, .inr (7, [.ref da, .int 0, .int 0, .int (nI n)])), (da, .inl (q_cy K 5, N, .inl f))] 27 [(2, .int (nI N)), (0, .ref b), (1, .int (nI q))] [.int (nI (N + max (q - N) (N + 2))), .ref da, .ref b]
    refine j_aload_n C dJ5_ensureCapacityInternal_d00df_27 rfl rfl ?_
    refine j_get C fjJ5_22 0 rfl rfl dJ5_ensureCapacityInternal_d00df_28 ?_
    refine j_ishl C dJ5_ensureCapacityInternal_d00df_31 ?_
    refine j_top (ishl0 _) ?_
    refine j_sel [1, 0] (by decide) rfl ?_
    refine j_cs (w := (fun cy => [(da, .inl (cy 5, N, .inl f))])) (fr := [(b, .inr (7, [.ref da, .int 0, .int 0, .int (nI n)]))]) (As := [.ref da, .int (nI (N + max (q - N) (N + 2)))]) (rest := [.ref b]) C (m_copyOf l da N f hf (N + max (q - N) (N + 2)) (by omega) (by omega)) rfl jhJ7_copyOf_9075b mlJ5_108 jsJ7_copyOf_9075b jnJ7_copyOf_9075b jcJ7_copyOf_9075b rfl rfl ⟨by decide, by decide⟩ (by omega) (Nat.le_of_ble_eq_true rfl) dJ5_ensureCapacityInternal_d00df_32 (fun sz_32 rv w' hz_32 hl_32 hp_32 => ?_)
    obtain ⟨a_32, rfl, ha_32, rfl⟩ := hp_32
    show q_J l K (0 + 101) [(da, .inl (q_cy K 5, N, .inl f)), (a_32, .inl (q_cy K 5, N + max (q - N) (N + 2), .inl (va_cpy f (fun _ => 0) 0 0 N))), (b, .inr (7, [.ref da, .int 0, .int 0, .int (nI n)]))] 35 [(2, .int (nI N)), (0, .ref b), (1, .int (nI q))] [.ref a_32, .ref b]
    refine j_put (ws' := [(da, .inl (q_cy K 5, N, .inl f)), (a_32, .inl (q_cy K 5, N + max (q - N) (N + 2), .inl (va_cpy f (fun _ => 0) 0 0 N))), (b, .inr (7, [.ref a_32, .int 0, .int 0, .int (nI n)]))]) (ty9 := .array .byte) C fjJ5_15 2 rfl (fun _ _ _ h => by cases h; exact ⟨rfl, rfl⟩) rfl rfl (Nat.le_of_ble_eq_true rfl) rfl dJ5_ensureCapacityInternal_d00df_35 ?_
    refine j_sel [2, 1] (by decide) rfl ?_
    exact hrV _ _ _ _ (by omega) dJ5_ensureCapacityInternal_d00df_38 rfl ⟨_, _, _, rfl, rfl, Or.inr ⟨Nat.le_trans hz_32 ha_32, rfl, rfl, by omega⟩, by omega⟩
/-- what an append needs of the bytes behind 'ensure' -/
theorem m_ens {da N q sz da' N' : Nat} {f f' : Nat → Int32} (hf : jB f) (h : (da' = da ∧ N' = N ∧ f' = f) ∨ (sz ≤ da' ∧ N' = N + max (q - N) (N + 2) ∧ f' = va_cpy f (fun _ => 0) 0 0 N ∧ N < q)) {n : Nat} (hn : n ≤ N) (hb : N ≤ 2 * n + 16) (hq : n ≤ q) : (da' = da ∨ sz ≤ da') ∧ jB f' ∧ (∀ j, j < n → f' j = f j) ∧ N' ≤ 2 * q + 16 := by
  rcases h with ⟨h1, h2, h3⟩ | ⟨h1, h2, h3, h4⟩
  · subst h2; subst h3
    exact ⟨Or.inl h1, hf, fun _ _ => rfl, by omega⟩
  · subst h3
    refine ⟨Or.inr h1, jB_cpy hf jB0 _ _ _, fun j hj => ?_, by omega⟩
    unfold va_cpy
    rw [if_pos (by omega)]
    congr 1
    omega
theorem m_canEnc (l : Launch) (c : Nat) (hc : c < 128) : q_Jm l yJ1_canEncode_fc78d kJ1_canEncode_fc78d 1 0 [.int (nI c)] (fun cy => []) (fun cy sz rv w' => rv = some (.int 1) ∧ w' = []) := by
  refine q_Jm_of (maxL := 1) rfl (by decide +kernel) (Nat.le_of_ble_eq_true rfl) ?_
  intro K C hi hrI hrA hrV
  have C : q_Cj K cJ1_canEncode_fc78d RJ1 1 1 0 := C
  show q_J l K 0 [] 0 [(0, .int (nI c))] []
  refine j_iload_n C dJ1_canEncode_fc78d_0 rfl rfl ?_
  refine j_sipush (v := 255) C dJ1_canEncode_fc78d_1 (by decide) ?_
  refine j_icmp_gtN (a := c) (b := 255) (tgt := 11) C dJ1_canEncode_fc78d_4 (by decide) rfl rfl (by omega) (by omega) (fun c_4 => absurd c_4 (by omega)) (fun c_4 => ?_)
  refine j_iconst (v := 1) C dJ1_canEncode_fc78d_7 (by decide) ?_
  refine j_goto (tgt := 12) C dJ1_canEncode_fc78d_8 (by decide) ?_
  exact hrI _ _ _ _ _ _ (by omega) dJ1_canEncode_fc78d_12 rfl rfl ⟨rfl, rfl⟩
theorem m_appC5 (l : Launch) (b da N : Nat) (f : Nat → Int32) (n : Nat) (hf : jB f) (hn : n ≤ N) (hb : N ≤ 2 * n + 16) (c : Nat) (hc : c < 128) (hn9 : n < 120) : q_Jm l yJ5_append_3fe6f kJ5_append_3fe6f 5 101 [.ref b, .int (nI c)] (fun cy => [(b, .inr (7, [.ref da, .int 0, .int 0, .int (nI n)])), (da, .inl (cy 5, N, .inl f))]) (fun cy sz rv w' => ∃ da' N' f', rv = some (.ref b) ∧ w' = uB cy b da' N' f' (n + 1) ∧ (da' = da ∨ sz ≤ da') ∧ n + 1 ≤ N' ∧ N' ≤ 2 * (n + 1) + 16 ∧ jB f' ∧ (∀ j, j < n → f' j = f j) ∧ f' n = nI c) := by
  refine q_Jm_of (maxL := 2) rfl (by decide +kernel) (Nat.le_of_ble_eq_true rfl) ?_
  intro K C hi hrI hrA hrV
  have C : q_Cj K cJ5_append_3fe6f RJ5 5 2 101 := C
  show q_J l K 0 [(b, .inr (7, [.ref da, .int 0, .int 0, .int (nI n)])), (da, .inl (q_cy K 5, N, .inl f))] 0 [(0, .ref b), (1, .int (nI c))] []
  refine j_aload_n C dJ5_append_3fe6f_0 rfl rfl ?_
  refine j_aload_n C dJ5_append_3fe6f_1 rfl rfl ?_
  refine j_get C fjJ5_79 0 rfl rfl dJ5_append_3fe6f_2 ?_
  refine j_iconst (v := 1) C dJ5_append_3fe6f_5 (by decide) ?_
  refine j_iaddN (a := n) (b := 1) C dJ5_append_3fe6f_6 rfl rfl ?_
  refine j_cu (k0 := 0) (ci := 7) (w := (fun cy => uB cy b da N f n)) (fr := []) (As := [.int (nI (n + 1))]) (rest := []) C rfl (m_ensure l b da N f n hf (n + 1) (by omega) (by omega)) rfl rfl jhJ5_ensureCapacityInternal_d00df mlJ5_100 jiJ5_ensureCapacityInternal_d00df jnJ5_ensureCapacityInternal_d00df jcJ5_ensureCapacityInternal_d00df jmJ5_ensureCapacityInternal_d00df jSJ5_ensureCapacityInternal_d00df rfl rfl ⟨by decide, by decide⟩ (by omega) (Nat.le_of_ble_eq_true rfl) dJ5_append_3fe6f_7 (fun sz_7 rv w' hz_7 hl_7 hp_7 => ?_)
  obtain ⟨da_7, N_7, f_7, rfl, rfl, hd_7, hq_7⟩ := hp_7
  show q_J l K (0 + 101) [(b, .inr (7, [.ref da_7, .int 0, .int 0, .int (nI n)])), (da_7, .inl (q_cy K 5, N_7, .inl f_7))] 10 [(0, .ref b), (1, .int (nI c))] []
  obtain ⟨e1, e2, e3, e4⟩ := m_ens hf hd_7 hn hb (show n ≤ n + 1 by omega)
  refine j_aload_n C dJ5_append_3fe6f_10 rfl rfl ?_
  refine j_cu (k0 := 0) (ci := 7) (w := (fun cy => uB cy b da_7 N_7 f_7 n)) (fr := []) (As := []) (rest := []) C rfl (m_isLatin1 l b da_7 N_7 f_7 n) rfl rfl jhJ5_isLatin1_aae02 mlJ5_83 jiJ5_isLatin1_aae02 jnJ5_isLatin1_aae02 jcJ5_isLatin1_aae02 jmJ5_isLatin1_aae02 jSJ5_isLatin1_aae02 rfl rfl ⟨by decide, by decide⟩ (by omega) (Nat.le_of_ble_eq_true rfl) dJ5_append_3fe6f_11 (fun sz_11 rv w' hz_11 hl_11 hp_11 => ?_)
  obtain ⟨rfl, rfl⟩ := hp_11
  show q_J l K (0 + 101) [(b, .inr (7, [.ref da_7, .int 0, .int 0, .int (nI n)])), (da_7, .inl (q_cy K 5, N_7, .inl f_7))] 14 [(0, .ref b), (1, .int (nI c))] [.int 1]
  refine j_if_eq (tgt := 45) C dJ5_append_3fe6f_14 (by decide) (fun h9 => absurd h9 (by decide)) (fun _ => ?_)
  refine j_iload_n C dJ5_append_3fe6f_17 rfl rfl ?_
  refine j_cs (w := (fun _ => [])) (fr := [(b, .inr (7, [.ref da_7, .int 0, .int 0, .int (nI n)])), (da_7, .inl (q_cy K 5, N_7, .inl f_7))]) (As := [.int (nI c)]) (rest := []) C (m_canEnc l c hc) rfl jhJ1_canEncode_fc78d mlJ5_191 jsJ1_canEncode_fc78d jnJ1_canEncode_fc78d jcJ1_canEncode_fc78d rfl rfl ⟨by decide, by decide⟩ (by omega) (Nat.le_of_ble_eq_true rfl) dJ5_append_3fe6f_18 (fun sz_18 rv w' hz_18 hl_18 hp_18 => ?_)
  obtain ⟨rfl, rfl⟩ := hp_18
  show q_J l K (0 + 101) [(b, .inr (7, [.ref da_7, .int 0, .int 0, .int (nI n)])), (da_7, .inl (q_cy K 5, N_7, .inl f_7))] 21 [(0, .ref b), (1, .int (nI c))] [.int 1]
  refine j_if_eq (tgt := 45) C dJ5_append_3fe6f_21 (by decide) (fun h9 => absurd h9 (by decide)) (fun _ => ?_)
  refine j_aload_n C dJ5_append_3fe6f_24 rfl rfl ?_
  refine j_get C fjJ5_15 0 rfl rfl dJ5_append_3fe6f_25 ?_
  refine j_aload_n C dJ5_append_3fe6f_28 rfl rfl ?_
  refine j_dup C rfl dJ5_append_3fe6f_29 ?_
  refine j_get C fjJ5_79 0 rfl rfl dJ5_append_3fe6f_30 ?_
  refine j_dupx1 C dJ5_append_3fe6f_33 rfl rfl ?_
  refine j_iconst (v := 1) C dJ5_append_3fe6f_34 (by decide) ?_
  refine j_iaddN (a := n) (b := 1) C dJ5_append_3fe6f_35 rfl rfl ?_
  refine j_put (ws' := [(b, .inr (7, [.ref da_7, .int 0, .int 0, .int (nI (n + 1))])), (da_7, .inl (q_cy K 5, N_7, .inl f_7))]) (ty9 := .int) C fjJ5_79 0 rfl (fun _ _ _ h => by cases h; exact ⟨rfl, rfl⟩) rfl rfl (Nat.le_of_ble_eq_true rfl) rfl dJ5_append_3fe6f_36 ?_
  refine j_iload_n C dJ5_append_3fe6f_39 rfl rfl ?_
  refine j_i2b (v := nI c) C (jbyte hc) dJ5_append_3fe6f_40 ?_
  refine j_bast (i := n) (ws' := [(b, .inr (7, [.ref da_7, .int 0, .int 0, .int (nI (n + 1))])), (da_7, .inl (q_cy K 5, N_7, .inl (upd f_7 n (nI c))))]) C rfl 1 rfl (by omega) (by omega) (jbyte hc) rfl dJ5_append_3fe6f_41 ?_
  refine j_goto (tgt := 75) C dJ5_append_3fe6f_42 (by decide) ?_
  refine j_aload_n C dJ5_append_3fe6f_75 rfl rfl ?_
  exact hrA _ _ _ _ _ _ (by omega) dJ5_append_3fe6f_76 rfl (Or.inl ⟨_, rfl⟩) ⟨_, _, _, rfl, rfl, e1.imp id (fun h => Nat.le_trans hz_7 h), by omega, by omega, jB_upd e2 _ (jbyte hc), fun j hj => by rw [← e3 j hj]; unfold upd; rw [if_neg (by omega)], by unfold upd; rw [if_pos rfl]⟩
