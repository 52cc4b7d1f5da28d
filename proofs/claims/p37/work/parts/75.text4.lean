
/-! a builder's text -/
section QJT
variable {l : Launch} {K : q_K} {cc : ByteArray} {own : String} {dd n0 U u pc idx : Nat} {ws fr : va_W} {lv : List (Nat × Value)} {st : List Value}
theorem j_clone (C : q_Cj K cc own dd n0 U) {a N : Nat} {f : Nat → Int32} (q0 : Nat) (ha : ws[q0]? = some (a, .inl (q_cy K 5, N, .inl f))) (hfit : ∀ i, fits .byte (.int (f i)) = true) (hlk : Cond.methodLink own idx ⟨"[B", "clone", "()Ljava/lang/Object;"⟩ ∈ q_WS) (w1 : Cond.sameMethod "[B" "java/lang/Object" "clone" "()Ljava/lang/Object;" ∈ q_WS) (w2 : Cond.native ⟨"java/lang/Object", "clone", "()Ljava/lang/Object;"⟩ ∈ q_WS) (w3 : Cond.instanceMethod ⟨"java/lang/Object", "clone", "()Ljava/lang/Object;"⟩ ∈ q_WS) (w4 : Cond.selects "[B" ⟨"[B", "clone", "()Ljava/lang/Object;"⟩ ⟨"java/lang/Object", "clone", "()Ljava/lang/Object;"⟩ ∈ q_WS) (w5 : Cond.castable "[B" "java/lang/Cloneable" ∈ q_nws) (hN : N ≤ 600) (hdd : 1 ≤ dd) (hU : u + 101 ≤ U) (hroom : (st.map Value.category).sum ≤ 8) (d : decode cc pc = .ok (.invokevirtual idx, 3)) (kk : ∀ q, q_J l K (u + 101) (ws ++ [(q, .inl (q_cy K 5, N, .inl f))]) (pc + 3) lv (.ref q :: st)) : q_J l K u ws pc lv (.ref a :: st) := by
  obtain ⟨p, e, R, s, m, args, below, meth, c, cells, slots, Q, D, cy, ad, A, nL, L⟩ := K
  obtain ⟨hx, hb, hml, hnl, hown, hts, hK, hA2, hf1, hf2, hc1, hc2, hE, hEX⟩ := C
  intro cl sl H locs ls hc9 hs9 hP hD hS hl
  have hr9 : (st.map (fun v => v.category)).sum ≤ 8 := hroom
  have hnm : s.vm.findClass "[B" = some (cy 5) := (hK.2 5 _ rfl).2
  refine va_clone hx hb (hml.trans hl.1.symm) hown (hts _ hlk) (hts _ w1) (hts _ w2) (hts _ w3) (hts _ w4) (hEX _ w5) hK hP hD hS hA2 q0 5 ha rfl hnm (va_fit (fun i _ => hfit i)) (by omega) (by omega) (by omega) ?_ d (fun q H1 hK1 hP1 hD1 hS1 => ?_)
  · show sl + N ≤ _
    omega
  · exact kk q (cl + 1) (sl + N) H1 locs ls (by omega) (by omega) hP1 hD1 hS1 hl
theorem j_castB (C : q_Cj K cc own dd n0 U) {a N : Nat} {f : Nat → Int32} (q0 : Nat) (ha : ws[q0]? = some (a, .inl (q_cy K 5, N, .inl f))) (hlk : Cond.classLink own idx "[B" ∈ q_WS) (d : decode cc pc = .ok (.checkcast idx, 3)) (kk : q_J l K u ws (pc + 3) lv (.ref a :: st)) : q_J l K u ws pc lv (.ref a :: st) := by
  obtain ⟨p, e, R, s, m, args, below, meth, c, cells, slots, Q, D, cy, ad, A, nL, L⟩ := K
  obtain ⟨hx, hb, hml, hnl, hown, hts, hK, hA2, hf1, hf2, hc1, hc2, hE, hEX⟩ := C
  intro cl sl H locs ls hc9 hs9 hP hD hS hl
  have hnm : s.vm.findClass "[B" = some (cy 5) := (hK.2 5 _ rfl).2
  exact va_castA hx hb hown (hts _ hlk) hP q0 ha hnm d (kk cl sl H locs ls hc9 hs9 hP hD hS hl)
set_option maxHeartbeats 1000000 in
theorem j_co (C : q_Cj K cc own dd n0 U) {y : MethodName} {cd : Cond} {d u1 maxL n : Nat} {bytes : ByteArray} {ret : Option FieldType} {As rest st0 : List Value} {w : (Nat → ClassId) → va_W} {P : (Nat → ClassId) → Nat → Option Value → va_W → Prop} {x : MethodName} {cdx : Cond} {bx : ByteArray} {mx : Nat} {rx : Option FieldType} {b k0 : Nat} {fs : List Value} (hM : q_Jm l y cd d u1 (.ref b :: As) w P) (hrc : (w (q_cy K))[k0]? = some (b, .inr (7, fs))) (y1 : cd = .code y bytes maxL ret) (x1 : cdx = .code x bx mx rx) (x9 : cdx ∈ q_WS) (x2 : x.cls ≠ "java/lang/invoke/MethodHandle" ∧ x.cls ≠ "java/lang/invoke/VarHandle" ∧ (parseMethodDescriptor x.desc).map (fun d => d.parameters.length) = some n) (hlk : Cond.methodLink own idx x ∈ q_WS) (x6 : Cond.instanceMethod x ∈ q_WS) (x10 : Cond.sameMethod x.cls x.cls x.name x.desc ∈ q_WS) (y7 : Cond.selects RSB x y ∈ q_WS) (y6 : Cond.instanceMethod y ∈ q_WS) (y8 : Cond.initialized y.cls ∈ q_WS) (y9 : cd ∈ q_WS) (hn : As.length = n) (hst : st0 = As.reverse ++ .ref b :: rest) (hR : d + 1 ≤ dd ∧ maxL ≤ 21) (hU : u + u1 ≤ U) (hroom : (rest.map Value.category).sum ≤ 8) (dg : decode cc pc = .ok (.invokevirtual idx, 3)) (kk : ∀ (sz : Nat) (rv : Option Value) (w' : va_W), q_sz0 K ≤ sz → (∀ q ∈ w (q_cy K) ++ fr, q.1 < sz) → P (q_cy K) sz rv w' → q_J l K (u + u1) (w' ++ fr) (pc + 3) lv (rv.toList ++ rest)) : q_J l K u (w (q_cy K) ++ fr) pc lv st0 := by
  obtain ⟨p, e, R, s, m, args, below, meth, c, cells, slots, Q, D, cy, ad, A, nL, L⟩ := K
  obtain ⟨hx, hb, hml, hnl, hown, hts, hK, hA2, hf1, hf2, hc1, hc2, hE, hEX⟩ := C
  intro cl sl H locs ls hc9 hs9 hP hD hS hl
  have hF := q_freeJ hD hS hA2
  have hlt : ∀ q ∈ w cy ++ fr, q.1 < H.size := fun q hq => by
    obtain ⟨i, hi⟩ := q_mem_at hq
    exact vx_lt hP hi
  have hpre : ∀ T : State, T.heap = H → s.WarmedH T.vm → q_Pj (.ref b :: As) (w cy) H.size D cy ad L (.ref b :: As).toArray T := fun T hT hW => ⟨rfl, by rw [hT], by rw [hT]; exact q_P_l hP, q_ownJ hD _, va_K.moved hW.alike hK, by rw [hT]; exact q_E.go hE hS.2.1 hF hW, q_EX.go hEX hW⟩
  refine q_runJ (va_runU (As := As) (rest := rest) (C := RSB) (owner := x.cls) (x := x) ⟨hx, hb, hml, hown, hts⟩ (hM D cy ad H.size L) ⟨⟨rfl, rfl, Nat.le_trans hR.1 hf1, ?_, pay_in hts (q_goodI y9), by rw [y1]; exact List.mem_cons_self⟩, by rw [← y1]; exact hts _ y9, hts _ y8, ⟨x2.1, x2.2.1⟩, fun sig h => ?_, hts _ hlk, hts _ x10, va_Decl.of (hts _ x6) (by rw [← x1]; exact hts _ x9), hts _ y7, hts _ y6⟩ ⟨q_Pj_blind _ _ _ _ _ _ _, va_recv (q := (RSB, TSB, 4)) hK (q_P_l hP) rfl hrc, hpre⟩ rfl hn hl.1 hst (lv_room hroom) dg ⟨by omega, by omega⟩) hP hD hS hA2 (fun rv w' H1 locs1 hp hP1 hD1 hS1 => kk H.size rv w' hS.1 hlt hp (cl + u1) (sl + 6 * u1) H1 locs1 ls (by omega) (by omega) hP1 hD1 hS1 hl)
  · have h9 : (q_rmX d u1).locals = 40 * d := rfl
    rw [h9]
    have h8 := hR.1
    have h7 := hR.2
    omega
  · have h2 := x2.2.2
    rw [h] at h2
    exact (Option.some.inj h2).symm

end QJT
theorem jw_c1 : Cond.methodLink RJ7 310 ⟨"[B", "clone", "()Ljava/lang/Object;"⟩ ∈ q_WS := q_in 1022 (by decide +kernel) rfl
theorem jw_c2 : Cond.sameMethod "[B" "java/lang/Object" "clone" "()Ljava/lang/Object;" ∈ q_WS := q_in 1023 (by decide +kernel) rfl
theorem jw_c3 : Cond.native ⟨"java/lang/Object", "clone", "()Ljava/lang/Object;"⟩ ∈ q_WS := q_in 1024 (by decide +kernel) rfl
theorem jw_c4 : Cond.instanceMethod ⟨"java/lang/Object", "clone", "()Ljava/lang/Object;"⟩ ∈ q_WS := q_in 1025 (by decide +kernel) rfl
theorem jw_c5 : Cond.selects "[B" ⟨"[B", "clone", "()Ljava/lang/Object;"⟩ ⟨"java/lang/Object", "clone", "()Ljava/lang/Object;"⟩ ∈ q_WS := q_in 1026 (by decide +kernel) rfl
theorem jw_c6 : Cond.classLink RJ7 311 "[B" ∈ q_WS := q_in 1028 (by decide +kernel) rfl
theorem jw_c7 : Cond.selects RSB yJ5_length_8abf5 yJ4_length_8abf5 ∈ q_WS := q_in 1191 (by decide +kernel) rfl
theorem jw_c8 : Cond.castable "[B" "java/lang/Cloneable" ∈ q_nws := List.mem_filter.mpr ⟨by decide +kernel, rfl⟩
theorem m_blength4 (l : Launch) (b da N : Nat) (f : Nat → Int32) (n : Nat) : q_Jm l yJ4_length_8abf5 kJ4_length_8abf5 2 0 [.ref b] (fun cy => [(b, .inr (7, [.ref da, .int 0, .int 0, .int (nI n)])), (da, .inl (cy 5, N, .inl f))]) (fun cy sz rv w' => rv = some (.int (nI n)) ∧ w' = uB cy b da N f n) := by
  refine q_Jm_of (maxL := 1) rfl (by decide +kernel) (Nat.le_of_ble_eq_true rfl) ?_
  intro K C hi hrI hrA hrV
  have C : q_Cj K cJ4_length_8abf5 RJ4 2 1 0 := C
  show q_J l K 0 [(b, .inr (7, [.ref da, .int 0, .int 0, .int (nI n)])), (da, .inl (q_cy K 5, N, .inl f))] 0 [(0, .ref b)] []
  refine j_aload_n C dJ4_length_8abf5_0 rfl rfl ?_
  refine j_csu (k0 := 0) (w := (fun cy => uB cy b da N f n)) (fr := []) (As := []) (rest := []) C (m_blength l b da N f n) rfl rfl rfl ⟨by decide, jhJ5_length_8abf5.2.2⟩ mlJ4_343 jiJ5_length_8abf5 jnJ5_length_8abf5 jcJ5_length_8abf5 jmJ5_length_8abf5 jw_su rfl rfl ⟨by decide, by decide⟩ (by omega) (Nat.le_of_ble_eq_true rfl) dJ4_length_8abf5_1 (fun sz_1 rv w' hz_1 hl_1 hp_1 => ?_)
  obtain ⟨rfl, rfl⟩ := hp_1
  show q_J l K 0 [(b, .inr (7, [.ref da, .int 0, .int 0, .int (nI n)])), (da, .inl (q_cy K 5, N, .inl f))] 4 [(0, .ref b)] [.int (nI n)]
  exact hrI _ _ _ _ _ _ (by omega) dJ4_length_8abf5_4 rfl rfl ⟨rfl, rfl⟩
theorem m_checkLen (l : Launch) (b : Nat) (hb : b < 1000) : q_Jm l yJ7_checkLength_df160 kJ7_checkLength_df160 1 0 [.int 0, .int (nI b)] (fun cy => []) (fun cy sz rv w' => rv = none ∧ w' = []) := by
  refine q_Jm_of (maxL := 2) rfl (by decide +kernel) (Nat.le_of_ble_eq_true rfl) ?_
  intro K C hi hrI hrA hrV
  have C : q_Cj K cJ7_checkLength_df160 RJ7 1 2 0 := C
  show q_J l K 0 [] 0 [(0, .int 0), (1, .int (nI b))] []
  refine j_iload_n C dJ7_checkLength_df160_0 rfl rfl ?_
  refine j_iload_n C dJ7_checkLength_df160_1 rfl rfl ?_
  refine j_icmp_geN (a := b) (b := 0) (tgt := 37) C dJ7_checkLength_df160_2 (by decide) rfl rfl (by omega) (by omega) (fun c_2 => ?_) (fun c_2 => absurd c_2 (by omega))
  exact hrV _ _ _ _ (by omega) dJ7_checkLength_df160_37 rfl ⟨rfl, rfl⟩
theorem m_copyRB (l : Launch) (da N : Nat) (f : Nat → Int32) (hf : jB f) (n : Nat) (hn : n ≤ N) (hN : N ≤ 600) : q_Jm l yJ7_copyOfRangeByte_39247 kJ7_copyOfRangeByte_39247 3 101 [.ref da, .int 0, .int (nI n)] (fun cy => [(da, .inl (cy 5, N, .inl f))]) (fun cy sz rv w' => ∃ a g, rv = some (.ref a) ∧ w' = [(da, .inl (cy 5, N, .inl f)), (a, .inl (cy 5, n, .inl g))] ∧ jB g ∧ ∀ j, j < n → g j = f j) := by
  refine q_Jm_of (maxL := 5) rfl (by decide +kernel) (Nat.le_of_ble_eq_true rfl) ?_
  intro K C hi hrI hrA hrV
  have C : q_Cj K cJ7_copyOfRangeByte_39247 RJ7 3 5 101 := C
  show q_J l K 0 [(da, .inl (q_cy K 5, N, .inl f))] 0 [(0, .ref da), (1, .int 0), (2, .int (nI n))] []
  refine j_iload_n C dJ7_copyOfRangeByte_39247_0 rfl rfl ?_
  refine j_iload_n C dJ7_copyOfRangeByte_39247_1 rfl rfl ?_
  refine j_cs (w := (fun _ => [])) (fr := [(da, .inl (q_cy K 5, N, .inl f))]) (As := [.int 0, .int (nI n)]) (rest := []) C (m_checkLen l n (by omega)) rfl jhJ7_checkLength_df160 mlJ7_343 jsJ7_checkLength_df160 jnJ7_checkLength_df160 jcJ7_checkLength_df160 rfl rfl ⟨by decide, by decide⟩ (by omega) (Nat.le_of_ble_eq_true rfl) dJ7_copyOfRangeByte_39247_2 (fun sz_2 rv w' hz_2 hl_2 hp_2 => ?_)
  obtain ⟨rfl, rfl⟩ := hp_2
  show q_J l K 0 [(da, .inl (q_cy K 5, N, .inl f))] 5 [(0, .ref da), (1, .int 0), (2, .int (nI n))] []
  refine j_iload_n C dJ7_copyOfRangeByte_39247_5 rfl rfl ?_
  refine j_iload_n C dJ7_copyOfRangeByte_39247_6 rfl rfl ?_
  refine j_isubN (a := n) (b := 0) C dJ7_copyOfRangeByte_39247_7 rfl rfl (by omega) ?_
  refine j_istore_n (lv' := [(3, .int (nI (n - 0))), (0, .ref da), (1, .int 0), (2, .int (nI n))]) C dJ7_copyOfRangeByte_39247_8 rfl (by decide) rfl ?_
  refine j_iload_n C dJ7_copyOfRangeByte_39247_9 rfl rfl ?_
  refine j_newa (N := n - 0) C wB_byte rfl (by omega) (by omega) dJ7_copyOfRangeByte_39247_10 (fun a_10 hn_10 hm_10 => ?_)
  show q_J l K (0 + 101) [(da, .inl (q_cy K 5, N, .inl f)), (a_10, .inl (q_cy K 5, n - 0, .inl (fun _ => 0)))] 12 [(3, .int (nI (n - 0))), (0, .ref da), (1, .int 0), (2, .int (nI n))] [.ref a_10]
  refine j_astore (lv' := [(4, .ref a_10), (3, .int (nI (n - 0))), (0, .ref da), (1, .int 0), (2, .int (nI n))]) C dJ7_copyOfRangeByte_39247_12 (by decide) rfl ?_
  refine j_aload_n C dJ7_copyOfRangeByte_39247_14 rfl rfl ?_
  refine j_iload_n C dJ7_copyOfRangeByte_39247_15 rfl rfl ?_
  refine j_aload C dJ7_copyOfRangeByte_39247_16 rfl ?_
  refine j_iconst (v := 0) C dJ7_copyOfRangeByte_39247_18 (by decide) ?_
  refine j_aload_n C dJ7_copyOfRangeByte_39247_19 rfl rfl ?_
  refine j_alen C 0 rfl dJ7_copyOfRangeByte_39247_20 ?_
  refine j_iload_n C dJ7_copyOfRangeByte_39247_21 rfl rfl ?_
  refine j_isubN (a := N) (b := 0) C dJ7_copyOfRangeByte_39247_22 rfl rfl (by omega) ?_
  refine j_iload_n C dJ7_copyOfRangeByte_39247_23 rfl rfl ?_
  refine j_minN (a := N - 0) (b := n - 0) C rfl rfl (by omega) (by omega) mlJ7_304 (by decide) (by omega) (Nat.le_of_ble_eq_true rfl) dJ7_copyOfRangeByte_39247_24 ?_
  refine j_acopy (sp := 0) (dp := 0) (n' := min (N - 0) (n - 0)) (ws' := [(da, .inl (q_cy K 5, N, .inl f)), (a_10, .inl (q_cy K 5, n - 0, .inl (va_cpy f (fun _ => 0) 0 0 (min (N - 0) (n - 0)))))]) C 0 1 rfl rfl rfl rfl rfl (by omega) (by omega) ⟨by omega, by omega⟩ (jfit hf) rfl mlJ7_150 jw_na jw_st jw_in (by decide) (Nat.le_of_ble_eq_true rfl) dJ7_copyOfRangeByte_39247_27 ?_
  refine j_aload C dJ7_copyOfRangeByte_39247_30 rfl ?_
  exact hrA _ _ _ _ _ _ (by omega) dJ7_copyOfRangeByte_39247_32 rfl (Or.inr ⟨_, rfl⟩) ⟨_, _, rfl, rfl, jB_cpy hf jB0 _ _ _, fun j hj => by unfold va_cpy; rw [if_pos (by omega)]; congr 1; omega⟩
theorem m_copyR (l : Launch) (da N : Nat) (f : Nat → Int32) (hf : jB f) (n : Nat) (hn : n ≤ N) (hN : N ≤ 600) : q_Jm l yJ7_copyOfRange_39247 kJ7_copyOfRange_39247 4 101 [.ref da, .int 0, .int (nI n)] (fun cy => [(da, .inl (cy 5, N, .inl f))]) (fun cy sz rv w' => ∃ a g, rv = some (.ref a) ∧ w' = [(da, .inl (cy 5, N, .inl f)), (a, .inl (cy 5, n, .inl g))] ∧ jB g ∧ ∀ j, j < n → g j = f j) := by
  refine q_Jm_of (maxL := 3) rfl (by decide +kernel) (Nat.le_of_ble_eq_true rfl) ?_
  intro K C hi hrI hrA hrV
  have C : q_Cj K cJ7_copyOfRange_39247 RJ7 4 3 101 := C
  show q_J l K 0 [(da, .inl (q_cy K 5, N, .inl f))] 0 [(0, .ref da), (1, .int 0), (2, .int (nI n))] []
  refine j_iload_n C dJ7_copyOfRange_39247_0 rfl rfl ?_
  refine j_if_ne (tgt := 10) C dJ7_copyOfRange_39247_1 (by decide) (fun h9 => absurd h9 (by decide)) (fun _ => ?_)
  refine j_iload_n C dJ7_copyOfRange_39247_4 rfl rfl ?_
  refine j_aload_n C dJ7_copyOfRange_39247_5 rfl rfl ?_
  refine j_alen C 0 rfl dJ7_copyOfRange_39247_6 ?_
  refine j_icmp_eqN (a := n) (b := N) (tgt := 17) C dJ7_copyOfRange_39247_7 (by decide) rfl rfl (by omega) (by omega) (fun c_7 => ?_) (fun c_7 => ?_)
  · refine j_aload_n C dJ7_copyOfRange_39247_17 rfl rfl ?_
    refine j_clone C 0 rfl (jfit hf) jw_c1 jw_c2 jw_c3 jw_c4 jw_c5 jw_c8 (by omega) (by decide) (by omega) (Nat.le_of_ble_eq_true rfl) dJ7_copyOfRange_39247_18 (fun q => ?_)
    show q_J l K (0 + 101) [(da, .inl (q_cy K 5, N, .inl f)), (q, .inl (q_cy K 5, N, .inl f))] 21 [(0, .ref da), (1, .int 0), (2, .int (nI n))] [.ref q]
    refine j_castB C 1 rfl jw_c6 dJ7_copyOfRange_39247_21 ?_
    exact hrA _ _ _ _ _ _ (by omega) dJ7_copyOfRange_39247_24 rfl (Or.inr ⟨_, rfl⟩) ⟨_, f, rfl, by rw [c_7], hf, fun _ _ => rfl⟩
  · refine j_aload_n C dJ7_copyOfRange_39247_10 rfl rfl ?_
    refine j_iload_n C dJ7_copyOfRange_39247_11 rfl rfl ?_
    refine j_iload_n C dJ7_copyOfRange_39247_12 rfl rfl ?_
    refine j_cs (w := (fun cy => [(da, .inl (cy 5, N, .inl f))])) (fr := []) (As := [.ref da, .int 0, .int (nI n)]) (rest := []) C (m_copyRB l da N f hf n (by omega) (by omega)) rfl jhJ7_copyOfRangeByte_39247 mlJ7_339 jsJ7_copyOfRangeByte_39247 jnJ7_copyOfRangeByte_39247 jcJ7_copyOfRangeByte_39247 rfl rfl ⟨by decide, by decide⟩ (by omega) (Nat.le_of_ble_eq_true rfl) dJ7_copyOfRange_39247_13 (fun sz_13 rv w' hz_13 hl_13 hp_13 => ?_)
    obtain ⟨a_13, g_13, rfl, rfl, hg_13, he_13⟩ := hp_13
    show q_J l K (0 + 101) [(da, .inl (q_cy K 5, N, .inl f)), (a_13, .inl (q_cy K 5, n, .inl g_13))] 16 [(0, .ref da), (1, .int 0), (2, .int (nI n))] [.ref a_13]
    exact hrA _ _ _ _ _ _ (by omega) dJ7_copyOfRange_39247_16 rfl (Or.inr ⟨_, rfl⟩) ⟨_, _, rfl, rfl, hg_13, he_13⟩
theorem m_sinit0 (l : Launch) (q b da N : Nat) (f : Nat → Int32) (n : Nat) (hf : jB f) (hn : n ≤ N) (hN : N ≤ 600) : q_Jm l yJ0_init_db425 kJ0_init_db425 5 101 [.ref q, .ref b, .null] (fun cy => [(q, .inr (8, [.null, .int 0, .int 0, .int 0])), (b, .inr (7, [.ref da, .int 0, .int 0, .int (nI n)])), (da, .inl (cy 5, N, .inl f))]) (fun cy sz rv w' => ∃ sd g, rv = none ∧ w' = [(q, .inr (8, [.ref sd, .int 0, .int 0, .int 0])), (sd, .inl (cy 5, n, .inl g))] ++ uB cy b da N f n ∧ jB g ∧ ∀ j, j < n → g j = f j) := by
  refine q_Jm_of (maxL := 5) rfl (by decide +kernel) (Nat.le_of_ble_eq_true rfl) ?_
  intro K C hi hrI hrA hrV
  have C : q_Cj K cJ0_init_db425 RJ0 5 5 101 := C
  show q_J l K 0 [(q, .inr (8, [.null, .int 0, .int 0, .int 0])), (b, .inr (7, [.ref da, .int 0, .int 0, .int (nI n)])), (da, .inl (q_cy K 5, N, .inl f))] 0 [(0, .ref q), (1, .ref b), (2, .null)] []
  refine j_aload_n C dJ0_init_db425_0 rfl rfl ?_
  refine j_obj C mlJ0_1 wB_oi wB_oc (by decide) rfl dJ0_init_db425_1 ?_
  refine j_aload_n C dJ0_init_db425_4 rfl rfl ?_
  refine j_sel [1, 2, 0] (by decide) rfl ?_
  refine j_cu (k0 := 0) (ci := 7) (w := (fun cy => uB cy b da N f n)) (fr := [(q, .inr (8, [.null, .int 0, .int 0, .int 0]))]) (As := []) (rest := []) C rfl (m_getValue l b da N f n) rfl rfl jhJ5_getValue_6d5f1 mlJ0_552 jiJ5_getValue_6d5f1 jnJ5_getValue_6d5f1 jcJ5_getValue_6d5f1 jmJ5_getValue_6d5f1 jSJ5_getValue_6d5f1 rfl rfl ⟨by decide, by decide⟩ (by omega) (Nat.le_of_ble_eq_true rfl) dJ0_init_db425_5 (fun sz_5 rv w' hz_5 hl_5 hp_5 => ?_)
  obtain ⟨rfl, rfl⟩ := hp_5
  show q_J l K 0 [(b, .inr (7, [.ref da, .int 0, .int 0, .int (nI n)])), (da, .inl (q_cy K 5, N, .inl f)), (q, .inr (8, [.null, .int 0, .int 0, .int 0]))] 8 [(0, .ref q), (1, .ref b), (2, .null)] [.ref da]
  refine j_astore_n (lv' := [(3, .ref da), (0, .ref q), (1, .ref b), (2, .null)]) C dJ0_init_db425_8 rfl (by decide) rfl ?_
  refine j_aload_n C dJ0_init_db425_9 rfl rfl ?_
  refine j_co (k0 := 0) (w := (fun cy => uB cy b da N f n)) (fr := [(q, .inr (8, [.null, .int 0, .int 0, .int 0]))]) (As := []) (rest := []) C (m_blength4 l b da N f n) rfl rfl rfl jcJ5_length_8abf5 jhJ5_length_8abf5 mlJ0_549 jiJ5_length_8abf5 jmJ5_length_8abf5 jw_c7 jiJ4_length_8abf5 jnJ4_length_8abf5 jcJ4_length_8abf5 rfl rfl ⟨by decide, by decide⟩ (by omega) (Nat.le_of_ble_eq_true rfl) dJ0_init_db425_10 (fun sz_10 rv w' hz_10 hl_10 hp_10 => ?_)
  obtain ⟨rfl, rfl⟩ := hp_10
  show q_J l K 0 [(b, .inr (7, [.ref da, .int 0, .int 0, .int (nI n)])), (da, .inl (q_cy K 5, N, .inl f)), (q, .inr (8, [.null, .int 0, .int 0, .int 0]))] 13 [(3, .ref da), (0, .ref q), (1, .ref b), (2, .null)] [.int (nI n)]
  refine j_istore (lv' := [(4, .int (nI n)), (3, .ref da), (0, .ref q), (1, .ref b), (2, .null)]) C dJ0_init_db425_13 (by decide) rfl ?_
  refine j_aload_n C dJ0_init_db425_15 rfl rfl ?_
  refine j_cu (k0 := 0) (ci := 7) (w := (fun cy => uB cy b da N f n)) (fr := [(q, .inr (8, [.null, .int 0, .int 0, .int 0]))]) (As := []) (rest := []) C rfl (m_isLatin1 l b da N f n) rfl rfl jhJ5_isLatin1_aae02 mlJ0_1047 jiJ5_isLatin1_aae02 jnJ5_isLatin1_aae02 jcJ5_isLatin1_aae02 jmJ5_isLatin1_aae02 jSJ5_isLatin1_aae02 rfl rfl ⟨by decide, by decide⟩ (by omega) (Nat.le_of_ble_eq_true rfl) dJ0_init_db425_16 (fun sz_16 rv w' hz_16 hl_16 hp_16 => ?_)
  obtain ⟨rfl, rfl⟩ := hp_16
  show q_J l K 0 [(b, .inr (7, [.ref da, .int 0, .int 0, .int (nI n)])), (da, .inl (q_cy K 5, N, .inl f)), (q, .inr (8, [.null, .int 0, .int 0, .int 0]))] 19 [(4, .int (nI n)), (3, .ref da), (0, .ref q), (1, .ref b), (2, .null)] [.int 1]
  refine j_if_eq (tgt := 41) C dJ0_init_db425_19 (by decide) (fun h9 => absurd h9 (by decide)) (fun _ => ?_)
  refine j_aload_n C dJ0_init_db425_22 rfl rfl ?_
  refine j_iconst (v := 0) C dJ0_init_db425_23 (by decide) ?_
  refine j_putF (ws' := [(b, .inr (7, [.ref da, .int 0, .int 0, .int (nI n)])), (da, .inl (q_cy K 5, N, .inl f)), (q, .inr (8, [.null, .int 0, .int 0, .int 0]))]) (ty9 := .byte) C (hi rfl) fjJ0_15 2 rfl (fun _ _ _ h => by cases h; exact ⟨rfl, rfl, rfl⟩) rfl rfl (Nat.le_of_ble_eq_true rfl) rfl dJ0_init_db425_24 ?_
  refine j_aload_n C dJ0_init_db425_27 rfl rfl ?_
  refine j_aload_n C dJ0_init_db425_28 rfl rfl ?_
  refine j_iconst (v := 0) C dJ0_init_db425_29 (by decide) ?_
  refine j_iload C dJ0_init_db425_30 rfl ?_
  refine j_sel [1, 0, 2] (by decide) rfl ?_
  refine j_cs (w := (fun cy => [(da, .inl (cy 5, N, .inl f))])) (fr := [(b, .inr (7, [.ref da, .int 0, .int 0, .int (nI n)])), (q, .inr (8, [.null, .int 0, .int 0, .int 0]))]) (As := [.ref da, .int 0, .int (nI n)]) (rest := [.ref q]) C (m_copyR l da N f hf n (by omega) (by omega)) rfl jhJ7_copyOfRange_39247 mlJ0_54 jsJ7_copyOfRange_39247 jnJ7_copyOfRange_39247 jcJ7_copyOfRange_39247 rfl rfl ⟨by decide, by decide⟩ (by omega) (Nat.le_of_ble_eq_true rfl) dJ0_init_db425_32 (fun sz_32 rv w' hz_32 hl_32 hp_32 => ?_)
  obtain ⟨a_32, g_32, rfl, rfl, hg_32, he_32⟩ := hp_32
  show q_J l K (0 + 101) [(da, .inl (q_cy K 5, N, .inl f)), (a_32, .inl (q_cy K 5, n, .inl g_32)), (b, .inr (7, [.ref da, .int 0, .int 0, .int (nI n)])), (q, .inr (8, [.null, .int 0, .int 0, .int 0]))] 35 [(4, .int (nI n)), (3, .ref da), (0, .ref q), (1, .ref b), (2, .null)] [.ref a_32, .ref q]
  refine j_putF (ws' := [(da, .inl (q_cy K 5, N, .inl f)), (a_32, .inl (q_cy K 5, n, .inl g_32)), (b, .inr (7, [.ref da, .int 0, .int 0, .int (nI n)])), (q, .inr (8, [.ref a_32, .int 0, .int 0, .int 0]))]) (ty9 := .array .byte) C (hi rfl) fjJ0_9 3 rfl (fun _ _ _ h => by cases h; exact ⟨rfl, rfl, rfl⟩) rfl rfl (Nat.le_of_ble_eq_true rfl) rfl dJ0_init_db425_35 ?_
  refine j_goto (tgt := 97) C dJ0_init_db425_38 (by decide) ?_
  refine j_sel [3, 1, 2, 0] (by decide) rfl ?_
  exact hrV _ _ _ _ (by omega) dJ0_init_db425_97 rfl ⟨_, _, rfl, rfl, hg_32, he_32⟩
theorem m_sinit (l : Launch) (q b da N : Nat) (f : Nat → Int32) (n : Nat) (hf : jB f) (hn : n ≤ N) (hN : N ≤ 600) : q_Jm l yJ0_init_81219 kJ0_init_81219 6 101 [.ref q, .ref b] (fun cy => [(q, .inr (8, [.null, .int 0, .int 0, .int 0])), (b, .inr (7, [.ref da, .int 0, .int 0, .int (nI n)])), (da, .inl (cy 5, N, .inl f))]) (fun cy sz rv w' => ∃ sd g, rv = none ∧ w' = [(q, .inr (8, [.ref sd, .int 0, .int 0, .int 0])), (sd, .inl (cy 5, n, .inl g))] ++ uB cy b da N f n ∧ jB g ∧ ∀ j, j < n → g j = f j) := by
  refine q_Jm_of (maxL := 2) rfl (by decide +kernel) (Nat.le_of_ble_eq_true rfl) ?_
  intro K C hi hrI hrA hrV
  have C : q_Cj K cJ0_init_81219 RJ0 6 2 101 := C
  show q_J l K 0 [(q, .inr (8, [.null, .int 0, .int 0, .int 0])), (b, .inr (7, [.ref da, .int 0, .int 0, .int (nI n)])), (da, .inl (q_cy K 5, N, .inl f))] 0 [(0, .ref q), (1, .ref b)] []
  refine j_aload_n C dJ0_init_81219_0 rfl rfl ?_
  refine j_aload_n C dJ0_init_81219_1 rfl rfl ?_
  refine j_null C dJ0_init_81219_2 ?_
  refine j_ci (w := (fun cy => [(q, .inr (8, [.null, .int 0, .int 0, .int 0])), (b, .inr (7, [.ref da, .int 0, .int 0, .int (nI n)])), (da, .inl (cy 5, N, .inl f))])) (fr := []) (As := [.ref b, .null]) (rest := []) C (m_sinit0 l q b da N f n hf hn hN) rfl rfl jhJ0_init_db425 mlJ0_489 jiJ0_init_db425 jnJ0_init_db425 jcJ0_init_db425 rfl rfl ⟨by decide, by decide⟩ (by omega) (Nat.le_of_ble_eq_true rfl) dJ0_init_81219_3 (fun sz_3 rv w' hz_3 hl_3 hp_3 => ?_)
  obtain ⟨sd_3, g_3, rfl, rfl, hg_3, he_3⟩ := hp_3
  show q_J l K (0 + 101) [(q, .inr (8, [.ref sd_3, .int 0, .int 0, .int 0])), (sd_3, .inl (q_cy K 5, n, .inl g_3)), (b, .inr (7, [.ref da, .int 0, .int 0, .int (nI n)])), (da, .inl (q_cy K 5, N, .inl f))] 6 [(0, .ref q), (1, .ref b)] []
  exact hrV _ _ _ _ (by omega) dJ0_init_81219_6 rfl ⟨_, _, rfl, rfl, hg_3, he_3⟩
theorem m_toString (l : Launch) (b da N : Nat) (f : Nat → Int32) (n : Nat) (hf : jB f) (hn : n ≤ N) (hN : N ≤ 600) : q_Jm l yJ4_toString_0e30d kJ4_toString_0e30d 7 102 [.ref b] (fun cy => [(b, .inr (7, [.ref da, .int 0, .int 0, .int (nI n)])), (da, .inl (cy 5, N, .inl f))]) (fun cy sz rv w' => ∃ q sd g, rv = some (.ref q) ∧ w' = [(q, .inr (8, [.ref sd, .int 0, .int 0, .int 0])), (sd, .inl (cy 5, n, .inl g))] ++ uB cy b da N f n ∧ jB g ∧ ∀ j, j < n → g j = f j) := by
  refine q_Jm_of (maxL := 1) rfl (by decide +kernel) (Nat.le_of_ble_eq_true rfl) ?_
  intro K C hi hrI hrA hrV
  have C : q_Cj K cJ4_toString_0e30d RJ4 7 1 102 := C
  show q_J l K 0 [(b, .inr (7, [.ref da, .int 0, .int 0, .int (nI n)])), (da, .inl (q_cy K 5, N, .inl f))] 0 [(0, .ref b)] []
  refine j_new (ci := 8) (fs := [.null, .int 0, .int 0, .int 0]) C rfl cl_ST tyST_ok (fun j hj => by rcases j with _ | _ | _ | _ | j <;> first | rfl | omega) jw_k18 wB_nST jw_iST (by decide) (by omega) dJ4_toString_0e30d_0 (fun q hz_0 hl_0 => ?_)
  show q_J l K (0 + 1) [(b, .inr (7, [.ref da, .int 0, .int 0, .int (nI n)])), (da, .inl (q_cy K 5, N, .inl f)), (q, .inr (8, [.null, .int 0, .int 0, .int 0]))] 3 [(0, .ref b)] [.ref q]
  refine j_dup C rfl dJ4_toString_0e30d_3 ?_
  refine j_aload_n C dJ4_toString_0e30d_4 rfl rfl ?_
  refine j_sel [2, 0, 1] (by decide) rfl ?_
  refine j_ci (w := (fun cy => [(q, .inr (8, [.null, .int 0, .int 0, .int 0])), (b, .inr (7, [.ref da, .int 0, .int 0, .int (nI n)])), (da, .inl (cy 5, N, .inl f))])) (fr := []) (As := [.ref b]) (rest := [.ref q]) C (m_sinit l q b da N f n hf hn hN) rfl rfl jhJ0_init_81219 mlJ4_137 jiJ0_init_81219 jnJ0_init_81219 jcJ0_init_81219 rfl rfl ⟨by decide, by decide⟩ (by omega) (Nat.le_of_ble_eq_true rfl) dJ4_toString_0e30d_5 (fun sz_5 rv w' hz_5 hl_5 hp_5 => ?_)
  obtain ⟨sd_5, g_5, rfl, rfl, hg_5, he_5⟩ := hp_5
  show q_J l K (0 + 1 + 101) [(q, .inr (8, [.ref sd_5, .int 0, .int 0, .int 0])), (sd_5, .inl (q_cy K 5, n, .inl g_5)), (b, .inr (7, [.ref da, .int 0, .int 0, .int (nI n)])), (da, .inl (q_cy K 5, N, .inl f))] 8 [(0, .ref b)] [.ref q]
  exact hrA _ _ _ _ _ _ (by omega) dJ4_toString_0e30d_8 rfl (Or.inl ⟨_, rfl⟩) ⟨_, _, _, rfl, rfl, hg_5, he_5⟩
