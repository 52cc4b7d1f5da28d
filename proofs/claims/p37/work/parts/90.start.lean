
theorem q_Fd2_blind {av : List Value} {D : va_G} {cy : Nat → ClassId} {ad : Nat → Nat} {sz n : Nat} {L : q_L} {xs : Nat → Int32} : FrameBlind (va_Pc av (fun U => U.heap.size = sz ∧ va_K D q_cl (q_tys cy) U ∧ va_AO "GuildSeals$Council" U ∧ q_E ad L (fun q => sz ≤ q) U U.heap ∧ q_EX U ∧ va_X (ad 300) n xs U U.heap ∧ ad 300 < sz)) := fun a U g mk q => by
  obtain ⟨q0, q1, qK, qA, qE, qEX, qX⟩ := q
  exact ⟨q0, q1, va_K.moved (u := U) (U := U.calling g mk a) (Vm.Alike.refl U.vm) qK, va_AO.moved (u := U) (U := U.calling g mk a) (Vm.Alike.refl U.vm) qA, q_E.same (U := U.calling g mk a) rfl qE, q_EX.same (u := U) (U := U.calling g mk a) rfl qEX, qX⟩
theorem pDi.hi {M : Nat} {S T : q_St} (h : pDi 225 M S) (e : ∀ k, k < 110 → T k = S k) : ∃ i0, pHi 225 i0 0 (fun _ => T) T := by
  obtain ⟨N, i, z, hI, h1, h2, h3, h4, h5, h6⟩ := h
  refine ⟨i, h2, ⟨M, N, hI.cg (fun k _ hk j _ => by rw [e k (by omega)])⟩, ⟨z, Nat.zero_le _, ?_, Nat.mod_lt _ (by decide), ?_, h4, ?_, fun j hj => ?_⟩, fun j hj => absurd hj (Nat.not_lt_zero _)⟩
  · rw [e 28 (by decide), h1, Nat.add_zero, Nat.mod_eq_of_lt h2]
  · rw [e 28 (by decide)]
    exact h3
  · rw [e 103 (by decide), h5 103 (by decide)]
    rfl
  · rw [e 104 (by decide), h5 104 (by decide)]
    exact ⟨0, by decide, rfl⟩
set_option maxHeartbeats 4000000 in
theorem whole_start {p : Program} {e : Env} {s : State} {m : MethodId} {below : List Frame} {meth : Method} {c : Code} (l : Launch) (hflags : l.flags = flags0) {b L : Nat} {xs : Nat → Int32} (hL : L ≤ 260) (C0 : lw_At p s m meth c b L xs) : W p l e room_1 s m #[Value.ref b] below meth c s.heap [] 0 0 (lw_Z below #[Value.ref b] s) (entryFrame m ([Value.ref b] : List Value).toArray 2) := by
  have hst : l.stackTraces = false := by
    unfold Launch.stackTraces
    rw [hflags]
    decide +kernel
  obtain ⟨D, cy, fm, t1, t2, str, adV, hK, hAO, hEX, hE⟩ := uEntry C0
  obtain ⟨hx, hb, hr, hml, hown, hts, hX, hbl, hlocks, hgv⟩ := id C0
  have htw : ∀ w ∈ q_WS, w.before #[Value.ref b] s = true := uWS hts
  have hl := lv_entry ([.ref b]) (n := 2) (Nat.le_of_ble_eq_true rfl)
  rw [lg_entry_eq]
  generalize (lg_sl ([.ref b]) ++ List.replicate (2 - (lg_sl ([.ref b])).length) Slot.unset).toArray = ls at hl ⊢
  have hl : lv_has ls 2 [(0, .ref b)] := hl
  have had : ∀ k, k < 112 → uAd9 s.heap.size b fm t1 t2 str adV k = s.heap.size + k := fun k hk => by
    unfold uAd9
    rw [if_pos hk]
  have h300 : uAd9 s.heap.size b fm t1 t2 str adV 300 = b := rfl
  generalize uAd9 s.heap.size b fm t1 t2 str adV = ad at hE had h300
  subst h300
  have hM := l_drawn l hst L xs (by omega) D cy ad s.heap.size ((fun _ => 0, []) : q_L) had
  obtain ⟨y1, y2, y3, y4, y6, y8, y9⟩ := msL_drawn
  refine lv_aload_n hx hb dL_law_0 rfl (q_hasY hl rfl) ?_
  refine va_callr (A0 := fun q : Nat => s.heap.size ≤ q) (H0 := s.heap) (mc := 2100) (ms := 6 * 2100) (va_runS (As := [.ref (ad 300)]) (rest := []) ⟨hx, hb, hml, hown, htw⟩ hM (cwS 1 htw (q_goodS (own := RL) mlL_162 y6 y8 y9) (congrArg (fun z => z :: q_WS) y1) rfl rfl ⟨rfl, y2, y3, y4⟩ ⟨Nat.le_of_ble_eq_true rfl, Nat.le_of_ble_eq_true rfl⟩) ⟨q_Fd2_blind, fun U hU hW => ⟨rfl, by rw [hU], va_K.moved hW.alike hK, va_AO.moved hW.alike hAO, by rw [hU]; exact q_E.go hE (fun _ _ _ => rfl) (fun _ h => h) hW, q_EX.go hEX hW, by rw [hU]; exact va_X.moved hW.alike hX, hbl⟩⟩ rfl rfl hl.1 rfl (Nat.le_of_ble_eq_true rfl) dL_law_1 ⟨Nat.le_of_ble_eq_true rfl, Nat.le_of_ble_eq_true rfl⟩) va_S.rf (fun q _ h => h) (fun q h => h) (fun S0 ra t H1 locs1 ht hvm hG hB hz1 hk1 hS1 => ?_)
  obtain ⟨M, hD⟩ := hG
  obtain ⟨hra, hP⟩ := hB
  have e0 : ra = ad 0 := hra.trans (had 0 (by decide)).symm
  subst e0
  obtain ⟨N, i, z, hI, -, -, -, -, -, h3⟩ := id hD
  obtain ⟨i0, hH⟩ := hD.hi (T := uTl S0 M) (fun k hk => uTl_k S0 hk M)
  obtain ⟨K, hKd⟩ : ∃ K : q_K, K = (p, e, room_1, s, m, #[Value.ref (ad 300)], below, meth, c, 0, 0, lw_Z below #[Value.ref (ad 300)] s, D, cy, ad, (fun q : Nat => s.heap.size ≤ q), 2, ((fun _ => 0, []) : q_L)) := ⟨_, rfl⟩
  have C : q_Cy K cL_law RL 20 2 130000 [] q_Tr := by
    rw [hKd]
    refine ⟨hx, hb, hml, rfl, hown, htw, hK, fun i j hi hj he => ?_, fun k hk => ?_, fun q h => h, Nat.le_of_ble_eq_true rfl, Nat.le_of_ble_eq_true rfl, Nat.le_of_ble_eq_true rfl, Nat.le_of_ble_eq_true rfl, hE, hEX, ⟨List.nodup_nil, fun a ha => nomatch ha⟩, q_Zs_Tr _ _⟩
    · rw [had i hi, had j hj] at he
      omega
    · show s.heap.size ≤ ad k
      rw [had k hk]
      omega
  have hKS : q_KS K L xs := by
    rw [hKd]
    show va_X (ad 300) L xs s s.heap ∧ ad 300 < s.heap.size ∧ ¬ s.heap.size ≤ ad 300
    exact ⟨hX, hbl, Nat.not_le.mpr hbl⟩
  have main : q_Y l K 2100 [] q_Tr 4 [(0, .ref (q_ad K 300))] [.ref (q_ad K 0)] S0 := by
    refine y_astore_n (lv' := [(1, .ref (q_ad K 0)), (0, .ref (q_ad K 300))]) C dL_law_4 rfl (by decide) rfl ?_
    refine y_aload_n C dL_law_5 rfl rfl ?_
    refine y_ifnullR C dL_law_6 ?_
    refine y_aload_n C dL_law_9 rfl rfl ?_
    refine y_si (rest := []) C (l_matters l hst S0 225 M N hI (fun m _ => h3 m)) msL_matters rfl mlL_166 rfl rfl rfl ⟨by decide, by decide⟩ (by decide) (Nat.le_of_ble_eq_true rfl) dL_law_10 ?_
    refine y_if_eq (tgt := 49) C dL_law_13 (by decide) (fun h9 => absurd h9 (by decide)) (fun _ => ?_)
    refine y_aload_n C dL_law_16 rfl rfl ?_
    refine y_si (rest := []) C (l_guilds l hst S0 225 M N hI (by decide)) msL_guilds rfl mlL_170 rfl rfl rfl ⟨by decide, by decide⟩ (by decide) (Nat.le_of_ble_eq_true rfl) dL_law_17 ?_
    refine y_if_eq (tgt := 49) C dL_law_20 (by decide) (fun h9 => absurd h9 (by decide)) (fun _ => ?_)
    refine y_aload_n C dL_law_23 rfl rfl ?_
    refine y_si (rest := []) C (l_book_ l hst S0 225 M N hI) msL_book_ rfl mlL_173 rfl rfl rfl ⟨by decide, by decide⟩ (by decide) (Nat.le_of_ble_eq_true rfl) dL_law_24 ?_
    refine y_if_eq (tgt := 49) C dL_law_27 (by decide) (fun h9 => absurd h9 (by decide)) (fun _ => ?_)
    refine y_aload_n C dL_law_30 rfl rfl ?_
    refine y_si (rest := []) C (l_told l hst S0 225 M N hI) msL_told rfl mlL_175 rfl rfl rfl ⟨by decide, by decide⟩ (by decide) (Nat.le_of_ble_eq_true rfl) dL_law_31 ?_
    refine y_if_eq (tgt := 49) C dL_law_34 (by decide) (fun h9 => absurd h9 (by decide)) (fun _ => ?_)
    refine y_aload_n C dL_law_37 rfl rfl ?_
    refine y_aload_n C dL_law_38 rfl rfl ?_
    refine y_sU (rest := []) C hKS (l_undone l hst L xs (by omega) (uTl S0 M) i0 hH) msL_undone rfl mlL_178 rfl rfl rfl ⟨by decide, by decide⟩ (by decide) (Nat.le_of_ble_eq_true rfl) dL_law_39 (fun S2 => ?_)
    refine y_if_eq (tgt := 49) C dL_law_42 (by decide) (fun h9 => absurd h9 (by decide)) (fun _ => ?_)
    refine y_iconst (v := 1) C dL_law_45 (by decide) ?_
    refine y_goto (tgt := 50) C dL_law_46 (by decide) ?_
    subst hKd
    intro cl sl H locs ls hc9 hs9 hP hZ hS hl
    refine va_forget hS.2.2 ?_
    refine W.widen (k := 676445) (n := 7062514) (Nat.le_trans hc9 (Nat.le_of_ble_eq_true rfl)) (Nat.le_trans hs9 (Nat.le_of_ble_eq_true rfl)) ?_
    exact lw_ret (Drawn.sameBut.refl s.drawn lw_cs) hx hb hr hlocks dL_law_50
  subst hKd
  refine main 2100 (6 * 2100) H1 locs1 ls (Nat.le_refl _) (Nat.le_refl _) (by rw [List.append_nil, ← ht]; exact hP) trivial hS1 ?_
  exact hl

