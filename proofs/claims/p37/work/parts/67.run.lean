
/-! a text is run -/
def q_FyD (bs : List Int32) (l : Launch) (y : MethodName) (cd : Cond) (d u : Nat) (avs : List Value) (S : q_St) (v : Int32) (S2 : q_St) : Prop := ∀ (D : va_G) (cy : Nat → ClassId) (ad : Nat → Nat) (sz : Nat) (L : q_L), L.2 = bs → Met l y (cd :: q_WS) (q_rmX d u) (q_Px avs S D cy ad sz L) (va_Qi (fun (r : Int32) (w : q_St) => r = v ∧ w = S2) (fun w t => va_P D q_cl (q_wl cy ad L w) t.heap) (q_A ad sz)) u (6 * u) (q_A ad sz)
set_option maxHeartbeats 1000000 in
theorem q_FyD_of {l : Launch} {y : MethodName} {cd : Cond} {cc : ByteArray} {maxL d U : Nat} {ty : FieldType} {avs : List Value} {S S2 : q_St} {v : Int32} {bs : List Int32} (hcd : cd = .code y cc maxL (some ty)) (hy : plainName y.cls = true) (hlen : ∀ ad : Nat → Nat, (lg_sl (avs.map (q_gv ad))).length ≤ maxL) (hn : narrow ty (.int v) = .int v)
    (body : ∀ K : q_K, q_Cy K cc y.cls d maxL U [] q_Tr → (q_LL K).2 = bs → (∀ (u : Nat) (ex : va_W) (Z : Heap → Prop) (pc : Nat) (lv : List (Nat × Value)) (r : Int32) (S' : q_St), u ≤ U → decode cc pc = .ok (.ireturn, 1) → r = v → S' = S2 → q_Y l K u ex Z pc lv [.int r] S') → q_Y l K 0 [] q_Tr 0 (q_ml (q_ad K) (lv_args 0 avs)) [] S) : q_FyD bs l y cd d U avs S v S2 := by
  intro D cy ad sz L hLb
  subst hcd
  refine Met.ofW (cc := cc) (maxL := maxL) (ret := (some ty)) hy rfl ?_
  intro p e s m args below meth c s₁ B hml hv
  obtain ⟨⟨rfl, hsz, hP, hK, hi, hE⟩, hEX⟩ := hv
  subst hsz
  have hts0 := atoms_spec (ws := Cond.code y cc maxL (some ty) :: q_WS) B.pre
  have hts : ∀ w ∈ q_WS, w.before (avs.map (q_gv ad)).toArray s = true := fun w h => hts0 w (List.mem_cons_of_mem _ h)
  have hown : s.vm.findClass y.cls = some m.cls := findClass_of_methodNamed B.named
  have hlocks := B.notSynchronized
  have hl := lv_entry (avs.map (q_gv ad)) (n := maxL) (hlen ad)
  rw [lg_entry_eq]
  generalize (lg_sl (avs.map (q_gv ad)) ++ List.replicate (maxL - (lg_sl (avs.map (q_gv ad))).length) Slot.unset).toArray = ls at hl ⊢
  rw [q_args] at hl
  refine body (p, e, (headSpec (Cond.code y cc maxL (some ty) :: q_WS) (q_rmX d U)).room, s, m, (avs.map (q_gv ad)).toArray, below, meth, c, 0, 0, MQ below (va_Qi (fun (r : Int32) (w : q_St) => r = v ∧ w = S2) (fun w t => va_P D q_cl (q_wl cy ad L w) t.heap) (q_A ad s.heap.size)) (avs.map (q_gv ad)).toArray s U (6 * U) (q_A ad s.heap.size), D, cy, ad, q_A ad s.heap.size, maxL, L) ⟨B.exec, B.bytes, hml, rfl, hown, hts, hK, hi, fun k hk => Or.inl ⟨k, hk, rfl⟩, fun q h => Or.inr h, Nat.le_refl _, Nat.le_refl _, Nat.le_refl _, Nat.le_refl _, hE, hEX, ⟨List.nodup_nil, fun a ha => nomatch ha⟩, q_Zs_Tr _ _⟩ hLb ?_ 0 0 s.heap [] ls (Nat.le_refl _) (Nat.zero_le _) (by rw [List.append_nil]; exact hP) trivial va_S.rf hl
  intro u ex Z pc lv r S' hu hd h1 h2 cl sl H locs ls hc9 hs9 hP hZ hS hl
  subst h1; subst h2
  exact W.widen (Nat.le_trans hc9 hu) (Nat.le_trans hs9 (Nat.mul_le_mul_left 6 hu)) (W.zret B.exec B.bytes B.returns hn (fun t ht hW => ⟨⟨r, S', rfl, ⟨rfl, rfl⟩, by show va_P D q_cl (q_wl cy ad L S') t.heap; rw [ht]; exact q_P_l hP⟩, hS.F ht⟩) hS.2.2 hd hlocks)
section QYD
variable {l : Launch} {K : q_K} {cc : ByteArray} {own : String} {dd n0 U u pc idx : Nat} {xa : List Nat} {ex : va_W} {Z : Heap → Prop} {lv : List (Nat × Value)} {st : List Value} {S : q_St}
set_option maxHeartbeats 1000000 in
theorem y_dj (C : q_Cy K cc own dd n0 U xa Z) {y : MethodName} {cd : Cond} {d maxL n : Nat} {bytes : ByteArray} {ret : Option FieldType} {As rest st0 : List Value} {S2 : q_St} {v : Int32} {bs : List Int32} (hL : (q_LL K).2 = bs) (hbs : bs ≠ []) (hM : q_Gi bs l y cd d (.ref 229 :: As) S v S2) (hy : q_mj y cd bytes maxL ret n) (hcls : y.cls = "java/lang/String") (hlk : Cond.methodLink own idx y ∈ q_WS) (hn : As.length = n) (hst : st0 = (As.map (q_gv (q_ad K))).reverse ++ .ref (q_ad K 229) :: rest) (hex : ex.map (fun q => q.1) = xa) (hR : d + 1 ≤ dd ∧ maxL ≤ 21) (hU : u ≤ U) (hroom : (rest.map Value.category).sum ≤ 8) (dg : decode cc pc = .ok (.invokevirtual idx, 3)) (kk : q_Y l K u ex Z (pc + 3) lv (.int v :: rest) S2) : q_Y l K u ex Z pc lv st0 S := by
  obtain ⟨p, e, R, s, m, args, below, meth, c, cells, slots, Q, D, cy, ad, A, nL, L⟩ := K
  obtain ⟨hx, hb, hml, hnl, hown, hts, hK, hi, hA1, hA2, hf1, hf2, hc1, hc2, hE, hEX, hxa, hZs⟩ := C
  obtain ⟨y1, y2, y3, y4, y6, y7, y8, y9⟩ := hy
  intro cl sl H locs ls hc9 hs9 hP hZ hS hl
  have hd := hE.2.2.2.2.2.2.2.2.2.2 (by rw [show L.2 = bs from hL]; exact hbs)
  have hrec : ∃ cell : Cell, H[ad 229]? = some cell ∧ cell.vm.isStatics = false ∧ s.vm.findClass "java/lang/String" = some cell.cls := by
    obtain ⟨cell, h1, h2, h3, -⟩ := hd.1.kept hS.2.1
    exact ⟨cell, h1, h2, h3⟩
  have hF := q_free (ad := ad) hS hA1 hA2
  have hn2 : (As.map (q_gv ad)).length = n := by rw [List.length_map]; exact hn
  refine va_calli  (va_runV (As := As.map (q_gv ad)) (rest := rest) ⟨hx, hb, hml, hown, hts⟩ (hM D cy ad H.size L hL) (cwV n hts (q_goodV hlk y6 y7 y8 y9) (congrArg (fun z => z :: q_WS) y1) rfl rfl ⟨rfl, y2, y3, y4⟩ ⟨Nat.le_trans hR.1 hf1, ?_⟩) ⟨q_Pc_blind _ _ _ _ _ _ _, by rw [hcls]; exact hrec, fun U hU hW => ⟨rfl, by rw [hU], by rw [hU]; exact q_P_l hP, va_K.moved hW.alike hK, hi, by rw [hU]; exact q_E.go hE hS.2.1 hF hW⟩⟩ rfl hn2 hl.1 hst ?_ dg ⟨by omega, by omega⟩) hS (fun q _ h => hF q h) hF (fun r w t H1 locs1 ht hvm hw hB hz1 hk1 hS1 => ?_)
  · have h9 : (q_rm d).locals = 40 * d := rfl
    rw [h9]
    have h8 := hR.1
    have h7 := hR.2
    omega
  · exact lv_room hroom
  · obtain ⟨rfl, rfl⟩ := hw
    exact kk cl sl H1 locs1 ls (by omega) (by omega) (va_P.app (by rw [← ht]; exact hB) (q_keepX (q_P_r hP) hex hxa hk1)) (q_keepZ hZs hz1 hk1 hZ) hS1 hl
set_option maxHeartbeats 1000000 in
theorem y_cj (C : q_Cy K cc own dd n0 U xa Z) {y : MethodName} {cd : Cond} {d maxL n : Nat} {bytes : ByteArray} {ret : Option FieldType} {As rest st0 : List Value} {S2 : q_St} {v : Int32} {i : Nat} (hi3 : i < 13) (hM : q_Fi l y cd d (.ref (200 + i) :: As) S v S2) (hy : q_mj y cd bytes maxL ret n) (hcls : y.cls = "java/lang/String") (hlk : Cond.methodLink own idx y ∈ q_WS) (hn : As.length = n) (hst : st0 = (As.map (q_gv (q_ad K))).reverse ++ .ref (q_ad K (200 + i)) :: rest) (hex : ex.map (fun q => q.1) = xa) (hR : d + 1 ≤ dd ∧ maxL ≤ 21) (hU : u ≤ U) (hroom : (rest.map Value.category).sum ≤ 8) (dg : decode cc pc = .ok (.invokevirtual idx, 3)) (kk : q_Y l K u ex Z (pc + 3) lv (.int v :: rest) S2) : q_Y l K u ex Z pc lv st0 S := by
  obtain ⟨p, e, R, s, m, args, below, meth, c, cells, slots, Q, D, cy, ad, A, nL, L⟩ := K
  obtain ⟨hx, hb, hml, hnl, hown, hts, hK, hi, hA1, hA2, hf1, hf2, hc1, hc2, hE, hEX, hxa, hZs⟩ := C
  obtain ⟨y1, y2, y3, y4, y6, y7, y8, y9⟩ := hy
  intro cl sl H locs ls hc9 hs9 hP hZ hS hl
  have hF := q_free (ad := ad) hS hA1 hA2
  have hn2 : (As.map (q_gv ad)).length = n := by rw [List.length_map]; exact hn
  refine va_calli  (va_runV (As := As.map (q_gv ad)) (rest := rest) ⟨hx, hb, hml, hown, hts⟩ (hM D cy ad H.size L) (cwV n hts (q_goodV hlk y6 y7 y8 y9) (congrArg (fun z => z :: q_WS) y1) rfl rfl ⟨rfl, y2, y3, y4⟩ ⟨Nat.le_trans hR.1 hf1, ?_⟩) ⟨q_Pc_blind _ _ _ _ _ _ _, by rw [hcls]; exact vk_recv (i := i) (adK := fun i => ad (200 + i)) hE.1 hi3 hS, fun U hU hW => ⟨rfl, by rw [hU], by rw [hU]; exact q_P_l hP, va_K.moved hW.alike hK, hi, by rw [hU]; exact q_E.go hE hS.2.1 hF hW⟩⟩ rfl hn2 hl.1 hst ?_ dg ⟨by omega, by omega⟩) hS (fun q _ h => hF q h) hF (fun r w t H1 locs1 ht hvm hw hB hz1 hk1 hS1 => ?_)
  · have h9 : (q_rm d).locals = 40 * d := rfl
    rw [h9]
    have h8 := hR.1
    have h7 := hR.2
    omega
  · exact lv_room hroom
  · obtain ⟨rfl, rfl⟩ := hw
    exact kk cl sl H1 locs1 ls (by omega) (by omega) (va_P.app (by rw [← ht]; exact hB) (q_keepX (q_P_r hP) hex hxa hk1)) (q_keepZ hZs hz1 hk1 hZ) hS1 hl
end QYD
def uApp (S : q_St) (bs : List Int32) : Nat → q_St
  | 0 => S
  | i + 1 => q_p (q_p (uApp S bs i) 104 i (bs.getD i 0)) 103 1 (nI (i + 1))
theorem uApp_k (S : q_St) (bs : List Int32) (k : Nat) (h : k ≠ 103 ∧ k ≠ 104) : ∀ i, uApp S bs i k = S k
  | 0 => rfl
  | i + 1 => by
    rw [uApp, pP_k _ _ _ _ h.1, pP_k _ _ _ _ h.2]
    exact uApp_k S bs k h i
theorem uApp_1 (S : q_St) (bs : List Int32) (h : S 103 1 = 0) : ∀ i, uApp S bs i 103 1 = nI i
  | 0 => h
  | i + 1 => by rw [uApp, pP_s, if_pos rfl]
theorem uApp_ch (S : q_St) (bs : List Int32) (h : pCh S) (ha : q_asc bs) : ∀ i, i ≤ bs.length → pCh (uApp S bs i)
  | 0, _ => h
  | i + 1, hi => fun j hj => by
    rw [uApp, pP_k _ _ _ _ (by decide), pP_s]
    split
    · obtain ⟨k, k1, k2⟩ := ha.2.2 i (by omega)
      exact ⟨k, by omega, k2⟩
    · exact uApp_ch S bs h ha i (by omega) j hj
theorem b_append (l : Launch) (hst : l.stackTraces = false) (S : q_St) (n : Nat) (hn : S 103 1 = nI n) (hn60 : n < 60) (c : Int32) (hc : ∃ z, z < 65536 ∧ c = nI z) : q_Fy l yL_append kL_append 9 6 [.ref 0, .int c] S (nI (n + 1)) (q_p (q_p S 104 n c) 103 1 (nI (n + 1))) := by
  have k := kk_append l hst S n hn (by omega) c hc
  have e : uG_append S n c = (.inl (nI (n + 1)), q_p (q_p S 104 n c) 103 1 (nI (n + 1))) := by unfold uG_append; rw [if_pos hn60]
  rw [e] at k
  exact k
theorem r_runs (l : Launch) (hst : l.stackTraces = false) {d M N i z n : Nat} {S : q_St} (h : pI d M N S) (x1 : S 28 1 = nI i) (x2 : i < 8) (x3 : S 28 2 = nI z) (x4 : z ≤ 8) (hn : S 103 1 = nI n) (hn60 : n ≤ 60) (hc : pCh S) : ∃ v T, q_Fy l yL_runs kL_runs 9 6 [.ref 0] S v T ∧ pStep (d + 720) S i z v T := by
  obtain ⟨cnt, hO⟩ := pOrd_P (t := S 104) (n := n) S
  have hP : pI d M N (uG_P (S 104) n S) := h.cg (fun k a b j _ => by rw [uG_P_k _ _ _ _ (by omega)])
  have c := c_X6_run l hst S i z x1 x2 x3 x4 (S 104) n rfl hn hn60 hc cnt h.bool (fun _ => hO.1) (fun _ => hO.2.1) (fun _ j hj => hO.2.2 j hj) (fun _ => hP.uJ)
  have w := w_runs l S (uG_run (S 104) n S cnt i z) c (by
    intro E hE
    unfold uG_run at hE
    split at hE
    · cases hE; exact Or.inl rfl
    · split at hE
      · cases hE
      · split at hE
        · cases hE; exact Or.inr rfl
        · cases hE; exact Or.inl rfl)
  refine ⟨_, _, w, ?_⟩
  rcases o_run (i := i) (z := z) h x2 hO [(xEIa, (-1)), (xEUn, (-2))] (by decide) (by decide) with ⟨a1, a2, a3, a4, a5⟩ | ⟨a1, a2, a3, a4, a5, a6, a7⟩
  · exact Or.inl ⟨a1, a2, a3, a4, fun j hj => by rw [a5]; exact hc j hj⟩
  · obtain ⟨k1, k2, k3, k4⟩ := keep_sl (uG_U (S 104) n S cnt).2 i z 10 x2
    refine Or.inr ⟨a1, a2, ⟨by rw [a5]; exact k3, by rw [a5]; exact k4, fun k hk x hx => ?_, fun i' hi' hne k hk x => ?_⟩, a3, fun j hj => by rw [a4]; exact hc j hj⟩
    · rw [a5, k1 k hk x hx]
      exact a7 k hk x hx
    · rw [a5, k2 i' hi' hne k hk, a6 _ (by omega) (by omega)]
theorem pStep.from {d' i z : Nat} {S S0 T : q_St} {v : Int32} (h : pStep d' S i z v T) (e : ∀ k, k < 103 → S k = S0 k) : pStep d' S0 i z v T := by
  rcases h with ⟨a1, a2, a3, a4, a5⟩ | ⟨a1, a2, ⟨k1, k2, k3, k4⟩, a4, a5⟩
  · exact Or.inl ⟨a1, fun k a b j hj => by rw [a2 k a b j hj, e k (by omega)], fun k a b => by rw [a3 k a b, e k (by omega)], a4, a5⟩
  · refine Or.inr ⟨a1, a2, ⟨k1, k2, fun k hk x hx => ?_, fun i' hi' hne k hk x => ?_⟩, a4, a5⟩
    · rw [k3 k hk x hx, e _ (by omega)]
    · rw [k4 i' hi' hne k hk x, e _ (by omega)]
theorem r_run (l : Launch) (hst : l.stackTraces = false) {d M N i z : Nat} {S : q_St} (h : pI d M N S) (x : pCx S i z) {bs : List Int32} (ha : q_asc bs) (h60 : bs.length ≤ 60) : ∃ v T, q_FyD bs l yL_run kL_run 10 400 [.ref 0, .ref 229] S v T ∧ pStep (d + 720) S i z v T := by
  obtain ⟨x1, x2, x3, x4, x5, x6⟩ := x
  have kk : ∀ k, k < 103 → uApp S bs bs.length k = S k := fun k hk => uApp_k S bs k (by omega) _
  obtain ⟨v, T, hr, hs⟩ := r_runs l hst (S := uApp S bs bs.length) (n := bs.length) (h.cg (fun k a b j _ => by rw [kk k (by omega)])) (by rw [kk 28 (by decide)]; exact x1) x2 (by rw [kk 28 (by decide)]; exact x3) x4 (uApp_1 S bs x5 _) h60 (uApp_ch S bs x6 ha _ (Nat.le_refl _))
  refine ⟨v, T, ?_, hs.from kk⟩
  refine q_FyD_of (maxL := 3) rfl (by decide +kernel) (fun ad => Nat.le_of_ble_eq_true rfl) rfl ?_
  intro K C hL hret
  have C : q_Cy K cL_run RL 10 3 400 [] q_Tr := C
  show q_Y l K 0 [] q_Tr 0 [(0, .ref (q_ad K 0)), (1, .ref (q_ad K 229))] [] S
  refine y_iconst (v := 0) C dL_run_0 (by decide) ?_
  refine y_istore_n (lv' := [(2, .int 0), (0, .ref (q_ad K 0)), (1, .ref (q_ad K 229))]) C dL_run_1 rfl (by decide) rfl ?_
  have loop_2 : ∀ (n_2 i_2 u_2 : Nat), i_2 + n_2 = bs.length → u_2 + n_2 * 6 ≤ 0 + bs.length * 6 → q_Y l K u_2 [] q_Tr 2 [(0, .ref (q_ad K 0)), (1, .ref (q_ad K 229)), (2, .int (nI i_2))] [] (uApp S bs i_2) := by
    intro n_2
    induction n_2 with
    | zero =>
      intro i_2 u_2 hi_2 hu_2
      have e_2 : i_2 = bs.length := by omega
      refine y_iload_n C dL_run_2 rfl rfl ?_
      refine y_aload_n C dL_run_3 rfl rfl ?_
      refine y_dj (As := []) (rest := [.int (nI i_2)]) C hL ha.1 (c_J0_length_d l (uApp S bs i_2) ha) myJ0_length_8abf5 rfl mlL_97 rfl rfl rfl ⟨by decide, by decide⟩ (by omega) (Nat.le_of_ble_eq_true rfl) dL_run_4 ?_
      refine y_icmp_geN (a := i_2) (b := bs.length) (tgt := 34) C dL_run_7 (by decide) rfl rfl (by omega) (by omega) (fun c_7 => ?_) (fun c_7 => absurd c_7 (by omega))
      have e9 : i_2 = bs.length := by omega
      subst e9
      refine y_aload_n C dL_run_34 rfl rfl ?_
      refine y_sw (rest := []) C hr mwL_runs mlL_110 rfl rfl rfl ⟨by decide, by decide⟩ (by omega) (Nat.le_of_ble_eq_true rfl) dL_run_35 ?_
      exact hret _ _ _ _ _ _ _ (by omega) dL_run_38 rfl rfl
    | succ n_2 ih_2 =>
      intro i_2 u_2 hi_2 hu_2
      refine y_iload_n C dL_run_2 rfl rfl ?_
      refine y_aload_n C dL_run_3 rfl rfl ?_
      refine y_dj (As := []) (rest := [.int (nI i_2)]) C hL ha.1 (c_J0_length_d l (uApp S bs i_2) ha) myJ0_length_8abf5 rfl mlL_97 rfl rfl rfl ⟨by decide, by decide⟩ (by omega) (Nat.le_of_ble_eq_true rfl) dL_run_4 ?_
      refine y_icmp_geN (a := i_2) (b := bs.length) (tgt := 34) C dL_run_7 (by decide) rfl rfl (by omega) (by omega) (fun c_7 => absurd c_7 (by omega)) (fun c_7 => ?_)
      refine y_aload_n C dL_run_10 rfl rfl ?_
      refine y_aload_n C dL_run_11 rfl rfl ?_
      refine y_iload_n C dL_run_12 rfl rfl ?_
      refine y_dj (As := [.int (nI i_2)]) (rest := [.ref (q_ad K 0)]) C hL ha.1 (c_J0_charAt_d l (uApp S bs i_2) ha i_2 (by omega)) myJ0_charAt_5068e rfl mlL_102 rfl rfl rfl ⟨by decide, by decide⟩ (by omega) (Nat.le_of_ble_eq_true rfl) dL_run_13 ?_
      refine y_sw (rest := []) C (b_append l hst (uApp S bs i_2) i_2 (uApp_1 S bs x5 i_2) (by omega) (bs.getD i_2 0) (by obtain ⟨k, k1, k2⟩ := ha.2.2 i_2 (by omega); exact ⟨k, by omega, k2⟩)) mwL_append mlL_105 rfl rfl rfl ⟨by decide, by decide⟩ (by omega) (Nat.le_of_ble_eq_true rfl) dL_run_16 ?_
      refine y_iload_n C dL_run_19 rfl rfl ?_
      refine y_iconst (v := 1) C dL_run_20 (by decide) ?_
      refine y_iaddN (a := i_2) (b := 1) C dL_run_21 rfl rfl ?_
      refine y_icmp_eqN (a := i_2 + 1) (b := i_2 + 1) (tgt := 28) C dL_run_22 (by decide) rfl rfl (by omega) (by omega) (fun c_22 => ?_) (fun c_22 => absurd rfl c_22)
      refine y_iinc (v := nI (i_2 + 1)) (lv' := [(2, .int (nI (i_2 + 1))), (0, .ref (q_ad K 0)), (1, .ref (q_ad K 229))]) C dL_run_28 rfl (nI_add _ _) (by decide) rfl ?_
      refine y_goto (tgt := 2) C dL_run_31 (by decide) ?_
      exact y_to (ih_2 (i_2 + 1) _ (by omega) (by omega)) ⟨rfl, rfl, rfl, trivial⟩ rfl
  exact y_to (loop_2 (bs.length - 0) 0 _ (by omega) (by omega)) ⟨rfl, rfl, rfl, trivial⟩ rfl
