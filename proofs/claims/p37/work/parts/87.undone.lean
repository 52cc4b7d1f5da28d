
/-! undone -/
def q_FyU (l : Launch) (y : MethodName) (cd : Cond) (d u : Nat) (avs : List Value) (n : Nat) (xs : Nat → Int32) (S : q_St) (v : Int32) : Prop := ∀ (D : va_G) (cy : Nat → ClassId) (ad : Nat → Nat) (sz : Nat) (L : q_L), Met l y (cd :: q_WS) (q_rmX d u) (q_PxS avs S D cy ad sz L n xs) (va_Qi (fun (r : Int32) (_ : q_St) => r = v) (fun w t => va_P D q_cl (q_wl cy ad L w) t.heap) (q_A ad sz)) u (6 * u) (q_A ad sz)
set_option maxHeartbeats 1000000 in
theorem q_FyU_of {l : Launch} {y : MethodName} {cd : Cond} {cc : ByteArray} {maxL d U : Nat} {ty : FieldType} {avs : List Value} {S : q_St} {v : Int32} {n : Nat} {xs : Nat → Int32} (hcd : cd = .code y cc maxL (some ty)) (hy : plainName y.cls = true) (hlen : ∀ ad : Nat → Nat, (lg_sl (avs.map (q_gv ad))).length ≤ maxL) (hn : narrow ty (.int v) = .int v)
    (body : ∀ K : q_K, q_KA K → q_Cy K cc y.cls d maxL U [] q_Tr → q_KS K n xs → (∀ (u : Nat) (ex : va_W) (Z : Heap → Prop) (pc : Nat) (lv : List (Nat × Value)) (r : Int32) (S' : q_St), u ≤ U → decode cc pc = .ok (.ireturn, 1) → r = v → q_Y l K u ex Z pc lv [.int r] S') → q_Y l K 0 [] q_Tr 0 (q_ml (q_ad K) (lv_args 0 avs)) [] S) : q_FyU l y cd d U avs n xs S v := by
  intro D cy ad sz L
  subst hcd
  refine Met.ofW (cc := cc) (maxL := maxL) (ret := (some ty)) hy rfl ?_
  intro p e s m args below meth c s₁ B hml hv
  obtain ⟨⟨⟨rfl, hsz, hP, hK, hi, hE⟩, hEX⟩, hX1, hX2, hX3⟩ := hv
  subst hsz
  have hts0 := atoms_spec (ws := Cond.code y cc maxL (some ty) :: q_WS) B.pre
  have hts : ∀ w ∈ q_WS, w.before (avs.map (q_gv ad)).toArray s = true := fun w h => hts0 w (List.mem_cons_of_mem _ h)
  have hown : s.vm.findClass y.cls = some m.cls := findClass_of_methodNamed B.named
  have hlocks := B.notSynchronized
  have hl := lv_entry (avs.map (q_gv ad)) (n := maxL) (hlen ad)
  rw [lg_entry_eq]
  generalize (lg_sl (avs.map (q_gv ad)) ++ List.replicate (maxL - (lg_sl (avs.map (q_gv ad))).length) Slot.unset).toArray = ls at hl ⊢
  rw [q_args] at hl
  refine body (p, e, (headSpec (Cond.code y cc maxL (some ty) :: q_WS) (q_rmX d U)).room, s, m, (avs.map (q_gv ad)).toArray, below, meth, c, 0, 0, MQ below (va_Qi (fun (r : Int32) (_ : q_St) => r = v) (fun w t => va_P D q_cl (q_wl cy ad L w) t.heap) (q_A ad s.heap.size)) (avs.map (q_gv ad)).toArray s U (6 * U) (q_A ad s.heap.size), D, cy, ad, q_A ad s.heap.size, maxL, L) (fun q h => h) ⟨B.exec, B.bytes, hml, rfl, hown, hts, hK, hi, fun k hk => Or.inl ⟨k, hk, rfl⟩, fun q h => Or.inr h, Nat.le_refl _, Nat.le_refl _, Nat.le_refl _, Nat.le_refl _, hE, hEX, ⟨List.nodup_nil, fun a ha => nomatch ha⟩, q_Zs_Tr _ _⟩ ⟨hX1, hX2, hX3⟩ ?_ 0 0 s.heap [] ls (Nat.le_refl _) (Nat.zero_le _) (by rw [List.append_nil]; exact hP) trivial va_S.rf hl
  intro u ex Z pc lv r S' hu hd h1 cl sl H locs ls hc9 hs9 hP hZ hS hl
  subst h1
  exact W.widen (Nat.le_trans hc9 hu) (Nat.le_trans hs9 (Nat.mul_le_mul_left 6 hu)) (W.zret B.exec B.bytes B.returns hn (fun t ht hW => ⟨⟨r, S', rfl, rfl, by show va_P D q_cl (q_wl cy ad L S') t.heap; rw [ht]; exact q_P_l hP⟩, hS.F ht⟩) hS.2.2 hd hlocks)
section QYU
variable {l : Launch} {K : q_K} {cc : ByteArray} {own : String} {dd n0 U u pc idx : Nat} {xa : List Nat} {ex : va_W} {Z : Heap → Prop} {lv : List (Nat × Value)} {st : List Value} {S : q_St}
set_option maxHeartbeats 1000000 in
theorem y_sU (C : q_Cy K cc own dd n0 U xa Z) {y : MethodName} {cd : Cond} {d u1 maxL n : Nat} {bytes : ByteArray} {As rest st0 : List Value} {v : Int32} {ns : Nat} {xs : Nat → Int32} (hKS : q_KS K ns xs) (hM : q_FyU l y cd d u1 As ns xs S v) {ret : Option FieldType} (hy : q_ms y cd bytes maxL ret n) (hco : y.cls = own) (hlk : Cond.methodLink own idx y ∈ q_WS) (hn : As.length = n) (hst : st0 = (As.map (q_gv (q_ad K))).reverse ++ rest) (hex : ex.map (fun q => q.1) = xa) (hR : d + 1 ≤ dd ∧ maxL ≤ 21) (hU : u + u1 ≤ U) (hroom : (rest.map Value.category).sum ≤ 8) (dg : decode cc pc = .ok (.invokestatic idx, 3)) (kk : ∀ S2, q_Y l K (u + u1) ex Z (pc + 3) lv (.int v :: rest) S2) : q_Y l K u ex Z pc lv st0 S := by
  obtain ⟨p, e, R, s, m, args, below, meth, c, cells, slots, Q, D, cy, ad, A, nL, L⟩ := K
  obtain ⟨hx, hb, hml, hnl, hown, hts, hK, hi, hA1, hA2, hf1, hf2, hc1, hc2, hE, hEX, hxa, hZs⟩ := C
  obtain ⟨y1, y2, y3, y4, y6, y8, y9⟩ := hy
  intro cl sl H locs ls hc9 hs9 hP hZ hS hl
  have hF := q_free (ad := ad) hS hA1 hA2
  obtain ⟨hX1, hX2, hX3⟩ := hKS
  have hX4 : ad 300 < H.size := Nat.lt_of_lt_of_le hX2 hS.1
  have hn2 : (As.map (q_gv ad)).length = n := by rw [List.length_map]; exact hn
  refine va_calli (mc := u1) (ms := 6 * u1) (va_runS (As := As.map (q_gv ad)) (rest := rest) ⟨hx, hb, hml, hown, hts⟩ (hM D cy ad H.size L) (cwS n hts (q_goodS hlk y6 (by rw [← hco]; exact y8) y9) (congrArg (fun z => z :: q_WS) y1) rfl rfl ⟨hco, y2, y3, y4⟩ ⟨Nat.le_trans hR.1 hf1, ?_⟩) ⟨q_PxS_blind _ _ _ _ _ _ _ _ _, fun U hU hW => ⟨⟨⟨rfl, by rw [hU], by rw [hU]; exact q_P_l hP, va_K.moved hW.alike hK, hi, by rw [hU]; exact q_E.go hE hS.2.1 hF hW⟩, q_EX.go hEX hW⟩, by rw [hU]; exact (hX1.kept (hS.2.1 _ hX2 hX3)).moved hW.alike, hX4, fun q => hX3 (hF _ q)⟩⟩ rfl hn2 hl.1 hst ?_ dg ⟨by omega, by omega⟩) hS (fun q _ h => hF q h) hF (fun r w t H1 locs1 ht hvm hw hB hz1 hk1 hS1 => ?_)
  · have h9 : (q_rmX d u1).locals = 40 * d := rfl
    rw [h9]
    have h8 := hR.1
    have h7 := hR.2
    omega
  · exact lv_room hroom
  · obtain rfl := hw
    exact kk _ (cl + u1) (sl + 6 * u1) H1 locs1 ls (by omega) (by omega) (va_P.app (by rw [← ht]; exact hB) (q_keepX (q_P_r hP) hex hxa hk1)) (q_keepZ hZs hz1 hk1 hZ) hS1 hl
end QYU
theorem lgc0 (x : Int64) : lg_cmp x x = 0 := (lg_cmp_eq x x).mpr rfl
theorem nI_m1 (n : Nat) : nI n - 1 = nI n + (-1) := Int32.sub_eq_add_neg _ _
theorem uf_keep {f : Nat → Int64} {dn : Nat} {x : Int64} {g : Nat → Int64} (h : ∀ j, j < dn → f j = g j) : ∀ j, j < dn → vp_updL f dn x j = g j := fun j hj => by
  show (if j = dn then x else f j) = g j
  rw [if_neg (show ¬ j = dn by omega)]
  exact h j hj
theorem uf_at {f : Nat → Int64} {dn : Nat} {x : Int64} : vp_updL f dn x dn = x := if_pos rfl
theorem uf_more {f : Nat → Int64} {dn : Nat} {Ts : Nat → q_St} {S : q_St} (h : ∀ j, j < dn → f j = uSm (Ts j)) : ∀ j, j < dn + 1 → vp_updL f dn (uSm S) j = uSm ((fun j => if j = dn then S else Ts j) j) := fun j hj => by
  show (if j = dn then uSm S else f j) = uSm (if j = dn then S else Ts j)
  by_cases c : j = dn
  · rw [if_pos c, if_pos c]
  · rw [if_neg c, if_neg c]
    exact h j (by omega)
set_option maxHeartbeats 4000000 in
theorem l_undone (l : Launch) (hst : l.stackTraces = false) (n : Nat) (xs : Nat → Int32) (hn : n < 2 ^ 31) (S : q_St) (i0 : Nat) (hH : pHi 225 i0 0 (fun _ => S) S) : q_FyU l yL_undone kL_undone 11 43000 [.ref 300, .ref 0] n xs S 1 := by
  refine q_FyU_of (maxL := 10) rfl (by decide +kernel) (fun ad => Nat.le_of_ble_eq_true rfl) rfl ?_
  intro K hA C hKS hret
  have C : q_Cy K cL_undone RL 11 10 43000 [] q_Tr := C
  show q_Y l K 0 [] q_Tr 0 [(0, .ref (q_ad K 300)), (1, .ref (q_ad K 0))] [] S
  refine y_bipush (v := 9) C dL_undone_0 (by decide) ?_
  refine y_newL C wB_long (N := 9) rfl (by decide) (by omega) dL_undone_2 (fun a_2 C => ?_)
  refine y_astore_n (lv' := [(2, .ref a_2), (0, .ref (q_ad K 300)), (1, .ref (q_ad K 0))]) C dL_undone_4 rfl (by decide) rfl ?_
  refine y_iconst (v := 0) C dL_undone_5 (by decide) ?_
  refine y_istore_n (lv' := [(3, .int 0), (2, .ref a_2), (0, .ref (q_ad K 300)), (1, .ref (q_ad K 0))]) C dL_undone_6 rfl (by decide) rfl ?_
  refine y_iconst (v := 0) C dL_undone_7 (by decide) ?_
  refine y_istore (lv' := [(4, .int 0), (3, .int 0), (2, .ref a_2), (0, .ref (q_ad K 300)), (1, .ref (q_ad K 0))]) C dL_undone_8 (by decide) rfl ?_
  have loop_10 : ∀ (n_10 i_10 u_10 : Nat) (dn_10 : Nat) (Ts_10 : Nat → q_St) (S_10 : q_St) (f_10 : Nat → Int64), i_10 + n_10 = 7 → u_10 + n_10 * 4800 ≤ 0 + 2 + 7 * 4800 → dn_10 ≤ i_10 → pHi (225 + 720 * i_10) i0 dn_10 Ts_10 S_10 → (∀ j, j < dn_10 → f_10 j = uSm (Ts_10 j)) → q_Y l K u_10 ([(a_2, .inl (q_cy K 4, 9, .inr (.inl f_10)))] : va_W) q_Tr 10 [(0, .ref (q_ad K 300)), (1, .ref (q_ad K 0)), (2, .ref a_2), (3, .int (nI dn_10)), (4, .int (nI i_10))] [] S_10 := by
    intro n_10
    induction n_10 with
    | zero =>
      intro i_10 u_10 dn_10 Ts_10 S_10 f_10 hi_10 hu_10 hd_10 hH_10 hfs_10
      have e_10 : i_10 = 7 := by omega
      refine y_iload C dL_undone_10 rfl ?_
      refine y_bipush (v := 7) C dL_undone_12 (by decide) ?_
      refine y_icmp_geN (a := i_10) (b := 7) (tgt := 437) C dL_undone_14 (by decide) rfl rfl (by omega) (by omega) (fun c_14 => ?_) (fun c_14 => absurd c_14 (by omega))
      refine y_iload_n C dL_undone_437 rfl rfl ?_
      refine y_iconst (v := 1) C dL_undone_438 (by decide) ?_
      refine y_isubE (v := nI dn_10 + (-1)) C dL_undone_439 (nI_m1 _) ?_
      refine y_istore (lv' := [(4, .int (nI dn_10 + (-1))), (0, .ref (q_ad K 300)), (1, .ref (q_ad K 0)), (2, .ref a_2), (3, .int (nI dn_10))]) C dL_undone_440 (by decide) rfl ?_
      have loop_442 : ∀ (n_442 u_442 : Nat) (S_442 : q_St), n_442 ≤ dn_10 → u_442 + n_442 * 1210 ≤ u_10 + dn_10 * 1210 → pHi (225 + 720 * i_10) i0 n_442 Ts_10 S_442 → q_Y l K u_442 ([(a_2, .inl (q_cy K 4, 9, .inr (.inl f_10)))] : va_W) q_Tr 442 [(0, .ref (q_ad K 300)), (1, .ref (q_ad K 0)), (2, .ref a_2), (3, .int (nI dn_10)), (4, .int (nI n_442 + (-1)))] [] S_442 := by
        intro n_442
        induction n_442 with
        | zero =>
          intro u_442 S_442 hn_442 hu_442 hH_442
          refine y_iload C dL_undone_442 rfl ?_
          refine y_if_lt (tgt := 474) C dL_undone_444 (by decide) (fun c_444 => ?_) (fun c_444 => absurd c_444 (by decide))
          refine y_iconst (v := 1) C dL_undone_474 (by decide) ?_
          exact hret _ _ _ _ _ _ _ (by omega) dL_undone_475 rfl
        | succ n_442 ih_442 =>
          intro u_442 S_442 hn_442 hu_442 hH_442
          refine y_iload C dL_undone_442 rfl ?_
          refine y_top (nI_dec n_442) ?_
          refine y_if_ltN (a := n_442) (tgt := 474) C dL_undone_444 (by decide) rfl (by omega) (fun c_444 => c_444.elim) (fun c_444 => ?_)
          obtain ⟨v_448, T_448, hc_448, hv_448, hH_448, hq_448⟩ := r_undo l hst hH_442 (by omega)
          refine y_aload_n C dL_undone_447 rfl rfl ?_
          refine y_sw (rest := []) C hc_448 mwL_undo mlL_289 rfl rfl rfl ⟨by decide, by decide⟩ (by omega) (Nat.le_of_ble_eq_true rfl) dL_undone_448 ?_
          refine y_if_lt (tgt := 466) C dL_undone_451 (by decide)  (fun c_451 => absurd c_451 hv_448) (fun c_451 => ?_)
          refine y_aload_n C dL_undone_454 rfl rfl ?_
          refine y_sl (rest := []) C (r_sum l hst hH_448.2.1) msL_sum rfl mlL_270 rfl rfl rfl ⟨by decide, by decide⟩ (by omega) (Nat.le_of_ble_eq_true rfl) dL_undone_455 ?_
          refine y_aload_n C dL_undone_458 rfl rfl ?_
          refine y_iload C dL_undone_459 rfl ?_
          refine y_top (nI_dec n_442) ?_
          refine y_lald (i := n_442) (N := 9) (v := uSm (Ts_10 n_442)) C rfl (by omega) (by decide) (hfs_10 _ (by omega)) dL_undone_461 ?_
          refine y_lcmp (v := 0) C (by rw [hq_448]; exact lgc0 _) dL_undone_462 ?_
          refine y_if_eq (tgt := 468) C dL_undone_463 (by decide) (fun _ => ?_) (fun h9 => absurd h9 (by decide))
          refine y_iinc (v := nI n_442 + (-1)) (lv' := [(4, .int (nI n_442 + (-1))), (0, .ref (q_ad K 300)), (1, .ref (q_ad K 0)), (2, .ref a_2), (3, .int (nI dn_10))]) C dL_undone_468 rfl (by rw [nI_dec]; rfl) (by decide) rfl ?_
          refine y_goto (tgt := 442) C dL_undone_471 (by decide) ?_
          exact y_to (ih_442 _ _ (by omega) (by omega) hH_448) ⟨rfl, rfl, rfl, rfl, rfl, trivial⟩ rfl
      exact y_to (loop_442 dn_10 _ S_10 (Nat.le_refl _) (Nat.le_refl _) hH_10) ⟨rfl, rfl, rfl, rfl, rfl, trivial⟩ rfl
    | succ n_10 ih_10 =>
      intro i_10 u_10 dn_10 Ts_10 S_10 f_10 hi_10 hu_10 hd_10 hH_10 hfs_10
      obtain ⟨M_10, N_10, z_10, hI_10, hx_10⟩ := hH_10.cx
      refine y_iload C dL_undone_10 rfl ?_
      refine y_bipush (v := 7) C dL_undone_12 (by decide) ?_
      refine y_icmp_geN (a := i_10) (b := 7) (tgt := 437) C dL_undone_14 (by decide) rfl rfl (by omega) (by omega) (fun c_14 => absurd c_14 (by omega)) (fun c_14 => ?_)
      refine y_aload_n C dL_undone_17 rfl rfl ?_
      refine y_bipush (v := 52) C dL_undone_18 (by decide) ?_
      refine y_iload C dL_undone_20 rfl ?_
      refine y_iaddN (a := 52) (b := i_10) C dL_undone_22 rfl rfl ?_
      refine y_sS (rest := []) C hKS (l_cell l S_10 n xs hn (52 + i_10) (by omega)) msL_cell rfl mlL_122 rfl rfl rfl ⟨by decide, by decide⟩ (by omega) (Nat.le_of_ble_eq_true rfl) dL_undone_23 ?_
      refine y_iconst (v := 1) C dL_undone_26 (by decide) ?_
      obtain ⟨w_27, hw_27, ew_27⟩ := ius1 (uCell n xs (52 + i_10))
      refine y_iushr (v := nI w_27) C ew_27 dL_undone_27 ?_
      refine y_istore (lv' := [(5, .int (nI w_27)), (0, .ref (q_ad K 300)), (1, .ref (q_ad K 0)), (2, .ref a_2), (3, .int (nI dn_10)), (4, .int (nI i_10))]) C dL_undone_28 (by decide) rfl ?_
      refine y_iload C dL_undone_30 rfl ?_
      refine y_iconst (v := 4) C dL_undone_32 (by decide) ?_
      obtain ⟨w_33, hw_33, ew_33⟩ := iusN w_27 (by omega) 4
      refine y_iushr (v := nI w_33) C ew_33 dL_undone_33 ?_
      refine y_istore (lv' := [(6, .int (nI w_33)), (5, .int (nI w_27)), (0, .ref (q_ad K 300)), (1, .ref (q_ad K 0)), (2, .ref a_2), (3, .int (nI dn_10)), (4, .int (nI i_10))]) C dL_undone_34 (by decide) rfl ?_
      refine y_iload C dL_undone_36 rfl ?_
      refine y_bipush (v := 6) C dL_undone_38 (by decide) ?_
      refine y_iremN (a := w_33) (b := 6) C dL_undone_40 rfl rfl (by omega) (by omega) (by omega) ?_
      refine y_istore (lv' := [(7, .int (nI (w_33 % 6))), (6, .int (nI w_33)), (5, .int (nI w_27)), (0, .ref (q_ad K 300)), (1, .ref (q_ad K 0)), (2, .ref a_2), (3, .int (nI dn_10)), (4, .int (nI i_10))]) C dL_undone_41 (by decide) rfl ?_
      refine y_iload C dL_undone_43 rfl ?_
      refine y_iconst (v := 3) C dL_undone_45 (by decide) ?_
      obtain ⟨w_46, hw_46, ew_46⟩ := iusN w_33 (by omega) 3
      refine y_iushr (v := nI w_46) C ew_46 dL_undone_46 ?_
      refine y_bipush (v := 7) C dL_undone_47 (by decide) ?_
      refine y_iremN (a := w_46) (b := 7) C dL_undone_49 rfl rfl (by omega) (by omega) (by omega) ?_
      refine y_istore (lv' := [(8, .int (nI (w_46 % 7))), (7, .int (nI (w_33 % 6))), (6, .int (nI w_33)), (5, .int (nI w_27)), (0, .ref (q_ad K 300)), (1, .ref (q_ad K 0)), (2, .ref a_2), (3, .int (nI dn_10)), (4, .int (nI i_10))]) C dL_undone_50 (by decide) rfl ?_
      refine y_aload_n C dL_undone_52 rfl rfl ?_
      refine y_iload_n C dL_undone_53 rfl rfl ?_
      refine y_aload_n C dL_undone_54 rfl rfl ?_
      refine y_sl (rest := [.int (nI dn_10), .ref a_2]) C (r_sum l hst hH_10.2.1) msL_sum rfl mlL_270 rfl rfl rfl ⟨by decide, by decide⟩ (by omega) (Nat.le_of_ble_eq_true rfl) dL_undone_55 ?_
      refine y_last (i := dn_10) (N := 9) C rfl (by omega) (by decide) dL_undone_58 ?_
      refine y_iload C dL_undone_59 rfl ?_
      refine y_bipush (v := 13) C dL_undone_61 (by decide) ?_
      refine y_iremN (a := w_27) (b := 13) C dL_undone_63 rfl rfl (by omega) (by omega) (by omega) ?_
      have j_400 : ∀ (v : Int32) (T2 : q_St) (u2 : Nat), u2 ≤ u_10 + 1200 + 2300 → pStep ((225 + 720 * i_10) + 720) S_10 ((i0 + dn_10) % 8) z_10 v T2 → q_Y l K u2 ([(a_2, .inl (q_cy K 4, 9, .inr (.inl (vp_updL f_10 dn_10 (uSm S_10)))))] : va_W) q_Tr 400 [(8, .int (nI (w_46 % 7))), (7, .int (nI (w_33 % 6))), (6, .int (nI w_33)), (5, .int (nI w_27)), (0, .ref (q_ad K 300)), (1, .ref (q_ad K 0)), (2, .ref a_2), (3, .int (nI dn_10)), (4, .int (nI i_10)), (9, .int v)] [] T2 := by
        intro v T2 u2 hu2 hs2
        refine y_iload C dL_undone_400 rfl ?_
        refine y_if_ge (tgt := 418) C dL_undone_402 (by decide) (fun c_402 => ?_) (fun c_402 => ?_)
        · have hg_402 : pHi (225 + 720 * (i_10 + 1)) i0 (dn_10 + 1) (fun j => if j = dn_10 then S_10 else Ts_10 j) T2 := hH_10.good (by omega) (by omega) c_402 hx_10 (hs2.up (by omega))
          refine y_iload_n C dL_undone_418 rfl rfl ?_
          refine y_iload C dL_undone_419 rfl ?_
          refine y_if_ge (tgt := 428) C dL_undone_421 (by decide) (fun c_421 => ?_) (fun c_421 => absurd c_421 (Int32.not_lt.mpr c_402))
          refine y_iconst (v := 1) C dL_undone_428 (by decide) ?_
          refine y_iaddN (a := dn_10) (b := 1) C dL_undone_429 rfl rfl ?_
          refine y_istore_n (lv' := [(3, .int (nI (dn_10 + 1))), (8, .int (nI (w_46 % 7))), (7, .int (nI (w_33 % 6))), (6, .int (nI w_33)), (5, .int (nI w_27)), (0, .ref (q_ad K 300)), (1, .ref (q_ad K 0)), (2, .ref a_2), (4, .int (nI i_10)), (9, .int v)]) C dL_undone_430 rfl (by decide) rfl ?_
          refine y_iinc (v := nI (i_10 + 1)) (lv' := [(4, .int (nI (i_10 + 1))), (3, .int (nI (dn_10 + 1))), (8, .int (nI (w_46 % 7))), (7, .int (nI (w_33 % 6))), (6, .int (nI w_33)), (5, .int (nI w_27)), (0, .ref (q_ad K 300)), (1, .ref (q_ad K 0)), (2, .ref a_2), (9, .int v)]) C dL_undone_431 rfl (nI_add _ _) (by decide) rfl ?_
          refine y_goto (tgt := 10) C dL_undone_434 (by decide) ?_
          exact y_to (ih_10 (i_10 + 1) _ _ _ _ _ (by omega) (by omega) (by omega) hg_402 (uf_more hfs_10)) ⟨rfl, rfl, rfl, rfl, rfl, trivial⟩ rfl
        · obtain ⟨hf_402, hq_402⟩ := hH_10.fail c_402 hs2
          refine y_aload_n C dL_undone_405 rfl rfl ?_
          refine y_sl (rest := []) C (r_sum l hst hf_402.2.1) msL_sum rfl mlL_270 rfl rfl rfl ⟨by decide, by decide⟩ (by omega) (Nat.le_of_ble_eq_true rfl) dL_undone_406 ?_
          refine y_aload_n C dL_undone_409 rfl rfl ?_
          refine y_iload_n C dL_undone_410 rfl rfl ?_
          refine y_lald (i := dn_10) (N := 9) (v := uSm S_10) C rfl (by omega) (by decide) uf_at dL_undone_411 ?_
          refine y_lcmp (v := 0) C (by rw [hq_402]; exact lgc0 _) dL_undone_412 ?_
          refine y_if_eq (tgt := 418) C dL_undone_413 (by decide) (fun _ => ?_) (fun h9 => absurd h9 (by decide))
          refine y_iload_n C dL_undone_418 rfl rfl ?_
          refine y_iload C dL_undone_419 rfl ?_
          refine y_if_ge (tgt := 428) C dL_undone_421 (by decide) (fun c_421 => absurd c_402 (Int32.not_lt.mpr c_421)) (fun c_421 => ?_)
          refine y_iconst (v := 0) C dL_undone_424 (by decide) ?_
          refine y_goto (tgt := 429) C dL_undone_425 (by decide) ?_
          refine y_iaddN (a := dn_10) (b := 0) C dL_undone_429 rfl rfl ?_
          refine y_istore_n (lv' := [(3, .int (nI (dn_10 + 0))), (8, .int (nI (w_46 % 7))), (7, .int (nI (w_33 % 6))), (6, .int (nI w_33)), (5, .int (nI w_27)), (0, .ref (q_ad K 300)), (1, .ref (q_ad K 0)), (2, .ref a_2), (4, .int (nI i_10)), (9, .int v)]) C dL_undone_430 rfl (by decide) rfl ?_
          refine y_iinc (v := nI (i_10 + 1)) (lv' := [(4, .int (nI (i_10 + 1))), (3, .int (nI (dn_10 + 0))), (8, .int (nI (w_46 % 7))), (7, .int (nI (w_33 % 6))), (6, .int (nI w_33)), (5, .int (nI w_27)), (0, .ref (q_ad K 300)), (1, .ref (q_ad K 0)), (2, .ref a_2), (9, .int v)]) C dL_undone_431 rfl (nI_add _ _) (by decide) rfl ?_
          refine y_goto (tgt := 10) C dL_undone_434 (by decide) ?_
          exact y_to (ih_10 (i_10 + 1) _ _ _ _ _ (by omega) (by omega) (by omega) (hf_402.up (by omega)) (uf_keep hfs_10)) ⟨rfl, rfl, rfl, rfl, rfl, trivial⟩ rfl
      have j_272 : q_Y l K (u_10 + 1200) ([(a_2, .inl (q_cy K 4, 9, .inr (.inl (vp_updL f_10 dn_10 (uSm S_10)))))] : va_W) q_Tr 272 [(8, .int (nI (w_46 % 7))), (7, .int (nI (w_33 % 6))), (6, .int (nI w_33)), (5, .int (nI w_27)), (0, .ref (q_ad K 300)), (1, .ref (q_ad K 0)), (2, .ref a_2), (3, .int (nI dn_10)), (4, .int (nI i_10))] [] S_10 := by
        refine y_aload_n C dL_undone_272 rfl rfl ?_
        refine y_sbnew C hA jw_kL mlL_220 (by omega) (by omega) (Nat.le_of_ble_eq_true rfl) dL_undone_273 dL_undone_276 dL_undone_277 rfl (fun b_273 da_273 C => ?_)
        refine y_ldcTW (i := 7) C rfl dL_undone_280 ?_
        refine y_appT (xs := []) (ys := [113]) (rest := [.ref (q_ad K 0)]) (fr := ([(a_2, .inl (q_cy K 4, 9, .inr (.inl (vp_updL f_10 dn_10 (uSm S_10)))))] : va_W)) C hA 7 jX_nil jB0 (by decide) (by decide) (by decide) rfl (by simp only [List.length_append, List.length_cons, List.length_nil] <;> omega) mlL_223 (by omega) (by omega) (Nat.le_of_ble_eq_true rfl) dL_undone_283 rfl (fun da_283 N_283 n_283 f_283 hX_283 hf_283 hn_283 hb_283 C => ?_)
        refine y_iload C dL_undone_286 rfl ?_
        refine y_appI00 (a := w_33 % 6) (xs := [] ++ [113]) (rest := [.ref (q_ad K 0)]) (fr := ([(a_2, .inl (q_cy K 4, 9, .inr (.inl (vp_updL f_10 dn_10 (uSm S_10)))))] : va_W)) C hA hX_283 hf_283 hn_283 hb_283 (by omega) (by simp only [List.length_append, List.length_cons, List.length_nil] <;> omega) mlL_226 (by omega) (by omega) (Nat.le_of_ble_eq_true rfl) dL_undone_288 rfl (fun da_288 N_288 n_288 f_288 hX_288 hf_288 hn_288 hb_288 C => ?_)
        refine y_ldcTW (i := 8) C rfl dL_undone_291 ?_
        refine y_appT (xs := [] ++ [113] ++ [nI (48 + (w_33 % 6) % 10)]) (ys := [46]) (rest := [.ref (q_ad K 0)]) (fr := ([(a_2, .inl (q_cy K 4, 9, .inr (.inl (vp_updL f_10 dn_10 (uSm S_10)))))] : va_W)) C hA 8 hX_288 hf_288 hn_288 hb_288 (by decide) rfl (by simp only [List.length_append, List.length_cons, List.length_nil] <;> omega) mlL_223 (by omega) (by omega) (Nat.le_of_ble_eq_true rfl) dL_undone_294 rfl (fun da_294 N_294 n_294 f_294 hX_294 hf_294 hn_294 hb_294 C => ?_)
        refine y_iload C dL_undone_297 rfl ?_
        refine y_appI00 (a := w_46 % 7) (xs := [] ++ [113] ++ [nI (48 + (w_33 % 6) % 10)] ++ [46]) (rest := [.ref (q_ad K 0)]) (fr := ([(a_2, .inl (q_cy K 4, 9, .inr (.inl (vp_updL f_10 dn_10 (uSm S_10)))))] : va_W)) C hA hX_294 hf_294 hn_294 hb_294 (by omega) (by simp only [List.length_append, List.length_cons, List.length_nil] <;> omega) mlL_226 (by omega) (by omega) (Nat.le_of_ble_eq_true rfl) dL_undone_299 rfl (fun da_299 N_299 n_299 f_299 hX_299 hf_299 hn_299 hb_299 C => ?_)
        refine y_ldcTW (i := 9) C rfl dL_undone_302 ?_
        refine y_appT (xs := [] ++ [113] ++ [nI (48 + (w_33 % 6) % 10)] ++ [46] ++ [nI (48 + (w_46 % 7) % 10)]) (ys := [59, 110, 59, 104, 50, 59, 113]) (rest := [.ref (q_ad K 0)]) (fr := ([(a_2, .inl (q_cy K 4, 9, .inr (.inl (vp_updL f_10 dn_10 (uSm S_10)))))] : va_W)) C hA 9 hX_299 hf_299 hn_299 hb_299 (by decide) rfl (by simp only [List.length_append, List.length_cons, List.length_nil] <;> omega) mlL_223 (by omega) (by omega) (Nat.le_of_ble_eq_true rfl) dL_undone_305 rfl (fun da_305 N_305 n_305 f_305 hX_305 hf_305 hn_305 hb_305 C => ?_)
        refine y_iload C dL_undone_308 rfl ?_
        refine y_appI00 (a := w_33 % 6) (xs := [] ++ [113] ++ [nI (48 + (w_33 % 6) % 10)] ++ [46] ++ [nI (48 + (w_46 % 7) % 10)] ++ [59, 110, 59, 104, 50, 59, 113]) (rest := [.ref (q_ad K 0)]) (fr := ([(a_2, .inl (q_cy K 4, 9, .inr (.inl (vp_updL f_10 dn_10 (uSm S_10)))))] : va_W)) C hA hX_305 hf_305 hn_305 hb_305 (by omega) (by simp only [List.length_append, List.length_cons, List.length_nil] <;> omega) mlL_226 (by omega) (by omega) (Nat.le_of_ble_eq_true rfl) dL_undone_310 rfl (fun da_310 N_310 n_310 f_310 hX_310 hf_310 hn_310 hb_310 C => ?_)
        refine y_ldcTW (i := 8) C rfl dL_undone_313 ?_
        refine y_appT (xs := [] ++ [113] ++ [nI (48 + (w_33 % 6) % 10)] ++ [46] ++ [nI (48 + (w_46 % 7) % 10)] ++ [59, 110, 59, 104, 50, 59, 113] ++ [nI (48 + (w_33 % 6) % 10)]) (ys := [46]) (rest := [.ref (q_ad K 0)]) (fr := ([(a_2, .inl (q_cy K 4, 9, .inr (.inl (vp_updL f_10 dn_10 (uSm S_10)))))] : va_W)) C hA 8 hX_310 hf_310 hn_310 hb_310 (by decide) rfl (by simp only [List.length_append, List.length_cons, List.length_nil] <;> omega) mlL_223 (by omega) (by omega) (Nat.le_of_ble_eq_true rfl) dL_undone_316 rfl (fun da_316 N_316 n_316 f_316 hX_316 hf_316 hn_316 hb_316 C => ?_)
        refine y_iload C dL_undone_319 rfl ?_
        refine y_bipush (v := 6) C dL_undone_321 (by decide) ?_
        obtain ⟨w_323, hw_323, ew_323⟩ := iusN w_33 (by omega) 6
        refine y_iushr (v := nI w_323) C ew_323 dL_undone_323 ?_
        refine y_bipush (v := 6) C dL_undone_324 (by decide) ?_
        refine y_iremN (a := w_323) (b := 6) C dL_undone_326 rfl rfl (by omega) (by omega) (by omega) ?_
        refine y_appI00 (a := w_323 % 6) (xs := [] ++ [113] ++ [nI (48 + (w_33 % 6) % 10)] ++ [46] ++ [nI (48 + (w_46 % 7) % 10)] ++ [59, 110, 59, 104, 50, 59, 113] ++ [nI (48 + (w_33 % 6) % 10)] ++ [46]) (rest := [.ref (q_ad K 0)]) (fr := ([(a_2, .inl (q_cy K 4, 9, .inr (.inl (vp_updL f_10 dn_10 (uSm S_10)))))] : va_W)) C hA hX_316 hf_316 hn_316 hb_316 (by omega) (by simp only [List.length_append, List.length_cons, List.length_nil] <;> omega) mlL_226 (by omega) (by omega) (Nat.le_of_ble_eq_true rfl) dL_undone_327 rfl (fun da_327 N_327 n_327 f_327 hX_327 hf_327 hn_327 hb_327 C => ?_)
        refine y_iload C dL_undone_330 rfl ?_
        refine y_bipush (v := 26) C dL_undone_332 (by decide) ?_
        refine y_iremN (a := w_27) (b := 26) C dL_undone_334 rfl rfl (by omega) (by omega) (by omega) ?_
        refine y_bipush (v := 13) C dL_undone_335 (by decide) ?_
        refine y_icmp_geN (a := w_27 % 26) (b := 13) (tgt := 345) C dL_undone_337 (by decide) rfl rfl (by omega) (by omega) (fun c_337 => ?_) (fun c_337 => ?_)
        · refine y_sbnew C hA jw_kL mlL_220 (by omega) (by omega) (Nat.le_of_ble_eq_true rfl) dL_undone_345 dL_undone_348 dL_undone_349 rfl (fun b_345 da_345 C => ?_)
          refine y_ldcTW (i := 10) C rfl dL_undone_352 ?_
          refine y_appT (xs := []) (ys := [59, 100]) (rest := [.ref b_273, .ref (q_ad K 0)]) (fr := uB (q_cy K) b_273 da_327 N_327 f_327 n_327 ++ ([(a_2, .inl (q_cy K 4, 9, .inr (.inl (vp_updL f_10 dn_10 (uSm S_10)))))] : va_W)) C hA 10 jX_nil jB0 (by decide) (by decide) (by decide) rfl (by simp only [List.length_append, List.length_cons, List.length_nil] <;> omega) mlL_223 (by omega) (by omega) (Nat.le_of_ble_eq_true rfl) dL_undone_355 rfl (fun da_355 N_355 n_355 f_355 hX_355 hf_355 hn_355 hb_355 C => ?_)
          refine y_iload C dL_undone_358 rfl ?_
          refine y_appI00 (a := w_33 % 6) (xs := [] ++ [59, 100]) (rest := [.ref b_273, .ref (q_ad K 0)]) (fr := uB (q_cy K) b_273 da_327 N_327 f_327 n_327 ++ ([(a_2, .inl (q_cy K 4, 9, .inr (.inl (vp_updL f_10 dn_10 (uSm S_10)))))] : va_W)) C hA hX_355 hf_355 hn_355 hb_355 (by omega) (by simp only [List.length_append, List.length_cons, List.length_nil] <;> omega) mlL_226 (by omega) (by omega) (Nat.le_of_ble_eq_true rfl) dL_undone_360 rfl (fun da_360 N_360 n_360 f_360 hX_360 hf_360 hn_360 hb_360 C => ?_)
          refine y_tstr (xs := [] ++ [59, 100] ++ [nI (48 + (w_33 % 6) % 10)]) (rest := [.ref b_273, .ref (q_ad K 0)]) (fr := uB (q_cy K) b_273 da_327 N_327 f_327 n_327 ++ ([(a_2, .inl (q_cy K 4, 9, .inr (.inl (vp_updL f_10 dn_10 (uSm S_10)))))] : va_W)) C hA hX_360 hf_360 hn_360 hb_360 (by simp only [List.length_append, List.length_cons, List.length_nil] <;> omega) mlL_234 (by omega) (by omega) (Nat.le_of_ble_eq_true rfl) dL_undone_363 rfl (fun q_363 sd_363 g_363 hX_363 hg_363 C => ?_)
          refine y_tsel [4, 5, 0, 1, 6] (by decide) (ex' := uB (q_cy K) b_273 da_327 N_327 f_327 n_327 ++ (uS (q_cy K) q_363 sd_363 n_360 g_363 0 0 ++ ([(a_2, .inl (q_cy K 4, 9, .inr (.inl (vp_updL f_10 dn_10 (uSm S_10)))))] : va_W))) C rfl rfl (fun C => ?_)
          refine y_appS2 (xs := [] ++ [113] ++ [nI (48 + (w_33 % 6) % 10)] ++ [46] ++ [nI (48 + (w_46 % 7) % 10)] ++ [59, 110, 59, 104, 50, 59, 113] ++ [nI (48 + (w_33 % 6) % 10)] ++ [46] ++ [nI (48 + (w_323 % 6) % 10)]) (ys := [] ++ [59, 100] ++ [nI (48 + (w_33 % 6) % 10)]) (rest := [.ref (q_ad K 0)]) (fr := ([(a_2, .inl (q_cy K 4, 9, .inr (.inl (vp_updL f_10 dn_10 (uSm S_10)))))] : va_W)) C hA hX_327 hf_327 hn_327 hb_327 hX_363 hg_363 (Or.inr (by simp only [List.length_append, List.length_cons, List.length_nil] <;> omega)) (by simp only [List.length_append, List.length_cons, List.length_nil] <;> omega) mlL_223 (by omega) (by omega) (Nat.le_of_ble_eq_true rfl) dL_undone_366 rfl (fun da_366 N_366 n_366 f_366 hX_366 hf_366 hn_366 hb_366 C => ?_)
          refine y_ldcTW (i := 11) C rfl dL_undone_369 ?_
          refine y_appT (xs := [] ++ [113] ++ [nI (48 + (w_33 % 6) % 10)] ++ [46] ++ [nI (48 + (w_46 % 7) % 10)] ++ [59, 110, 59, 104, 50, 59, 113] ++ [nI (48 + (w_33 % 6) % 10)] ++ [46] ++ [nI (48 + (w_323 % 6) % 10)] ++ ([] ++ [59, 100] ++ [nI (48 + (w_33 % 6) % 10)])) (ys := [59, 97]) (rest := [.ref (q_ad K 0)]) (fr := uS (q_cy K) q_363 sd_363 n_360 g_363 0 0 ++ ([(a_2, .inl (q_cy K 4, 9, .inr (.inl (vp_updL f_10 dn_10 (uSm S_10)))))] : va_W)) C hA 11 hX_366 hf_366 hn_366 hb_366 (by decide) rfl (by simp only [List.length_append, List.length_cons, List.length_nil] <;> omega) mlL_223 (by omega) (by omega) (Nat.le_of_ble_eq_true rfl) dL_undone_372 rfl (fun da_372 N_372 n_372 f_372 hX_372 hf_372 hn_372 hb_372 C => ?_)
          refine y_iload C dL_undone_375 rfl ?_
          refine y_bipush (v := 9) C dL_undone_377 (by decide) ?_
          obtain ⟨w_379, hw_379, ew_379⟩ := iusN w_33 (by omega) 9
          refine y_iushr (v := nI w_379) C ew_379 dL_undone_379 ?_
          refine y_bipush (v := 6) C dL_undone_380 (by decide) ?_
          refine y_iremN (a := w_379) (b := 6) C dL_undone_382 rfl rfl (by omega) (by omega) (by omega) ?_
          refine y_appI00 (a := w_379 % 6) (xs := [] ++ [113] ++ [nI (48 + (w_33 % 6) % 10)] ++ [46] ++ [nI (48 + (w_46 % 7) % 10)] ++ [59, 110, 59, 104, 50, 59, 113] ++ [nI (48 + (w_33 % 6) % 10)] ++ [46] ++ [nI (48 + (w_323 % 6) % 10)] ++ ([] ++ [59, 100] ++ [nI (48 + (w_33 % 6) % 10)]) ++ [59, 97]) (rest := [.ref (q_ad K 0)]) (fr := uS (q_cy K) q_363 sd_363 n_360 g_363 0 0 ++ ([(a_2, .inl (q_cy K 4, 9, .inr (.inl (vp_updL f_10 dn_10 (uSm S_10)))))] : va_W)) C hA hX_372 hf_372 hn_372 hb_372 (by omega) (by simp only [List.length_append, List.length_cons, List.length_nil] <;> omega) mlL_226 (by omega) (by omega) (Nat.le_of_ble_eq_true rfl) dL_undone_383 rfl (fun da_383 N_383 n_383 f_383 hX_383 hf_383 hn_383 hb_383 C => ?_)
          refine y_ldcTW (i := 12) C rfl dL_undone_386 ?_
          refine y_appT (xs := [] ++ [113] ++ [nI (48 + (w_33 % 6) % 10)] ++ [46] ++ [nI (48 + (w_46 % 7) % 10)] ++ [59, 110, 59, 104, 50, 59, 113] ++ [nI (48 + (w_33 % 6) % 10)] ++ [46] ++ [nI (48 + (w_323 % 6) % 10)] ++ ([] ++ [59, 100] ++ [nI (48 + (w_33 % 6) % 10)]) ++ [59, 97] ++ [nI (48 + (w_379 % 6) % 10)]) (ys := [46, 48, 61, 45, 55]) (rest := [.ref (q_ad K 0)]) (fr := uS (q_cy K) q_363 sd_363 n_360 g_363 0 0 ++ ([(a_2, .inl (q_cy K 4, 9, .inr (.inl (vp_updL f_10 dn_10 (uSm S_10)))))] : va_W)) C hA 12 hX_383 hf_383 hn_383 hb_383 (by decide) rfl (by simp only [List.length_append, List.length_cons, List.length_nil] <;> omega) mlL_223 (by omega) (by omega) (Nat.le_of_ble_eq_true rfl) dL_undone_389 rfl (fun da_389 N_389 n_389 f_389 hX_389 hf_389 hn_389 hb_389 C => ?_)
          refine y_tstr (xs := [] ++ [113] ++ [nI (48 + (w_33 % 6) % 10)] ++ [46] ++ [nI (48 + (w_46 % 7) % 10)] ++ [59, 110, 59, 104, 50, 59, 113] ++ [nI (48 + (w_33 % 6) % 10)] ++ [46] ++ [nI (48 + (w_323 % 6) % 10)] ++ ([] ++ [59, 100] ++ [nI (48 + (w_33 % 6) % 10)]) ++ [59, 97] ++ [nI (48 + (w_379 % 6) % 10)] ++ [46, 48, 61, 45, 55]) (rest := [.ref (q_ad K 0)]) (fr := uS (q_cy K) q_363 sd_363 n_360 g_363 0 0 ++ ([(a_2, .inl (q_cy K 4, 9, .inr (.inl (vp_updL f_10 dn_10 (uSm S_10)))))] : va_W)) C hA hX_389 hf_389 hn_389 hb_389 (by simp only [List.length_append, List.length_cons, List.length_nil] <;> omega) mlL_234 (by omega) (by omega) (Nat.le_of_ble_eq_true rfl) dL_undone_392 rfl (fun q_392 sd_392 g_392 hX_392 hg_392 C => ?_)
          have hl_395 : ([] ++ [113] ++ [nI (48 + (w_33 % 6) % 10)] ++ [46] ++ [nI (48 + (w_46 % 7) % 10)] ++ [59, 110, 59, 104, 50, 59, 113] ++ [nI (48 + (w_33 % 6) % 10)] ++ [46] ++ [nI (48 + (w_323 % 6) % 10)] ++ ([] ++ [59, 100] ++ [nI (48 + (w_33 % 6) % 10)]) ++ [59, 97] ++ [nI (48 + (w_379 % 6) % 10)] ++ [46, 48, 61, 45, 55]).length ≤ 30 ∧ 1 ≤ ([] ++ [113] ++ [nI (48 + (w_33 % 6) % 10)] ++ [46] ++ [nI (48 + (w_46 % 7) % 10)] ++ [59, 110, 59, 104, 50, 59, 113] ++ [nI (48 + (w_33 % 6) % 10)] ++ [46] ++ [nI (48 + (w_323 % 6) % 10)] ++ ([] ++ [59, 100] ++ [nI (48 + (w_33 % 6) % 10)]) ++ [59, 97] ++ [nI (48 + (w_379 % 6) % 10)] ++ [46, 48, 61, 45, 55]).length := by simp only [List.length_append, List.length_cons, List.length_nil] <;> omega
          have ha_395 : q_asc ([] ++ [113] ++ [nI (48 + (w_33 % 6) % 10)] ++ [46] ++ [nI (48 + (w_46 % 7) % 10)] ++ [59, 110, 59, 104, 50, 59, 113] ++ [nI (48 + (w_33 % 6) % 10)] ++ [46] ++ [nI (48 + (w_323 % 6) % 10)] ++ ([] ++ [59, 100] ++ [nI (48 + (w_33 % 6) % 10)]) ++ [59, 97] ++ [nI (48 + (w_379 % 6) % 10)] ++ [46, 48, 61, 45, 55]) := jA_asc (jA_app (jA_app (jA_app (jA_app (jA_app (jA_app (jA_app (jA_app (jA_app (jA_app (jA_app (jA_app jA_nil (jA_cons (k := 113) (by decide) jA_nil)) (jA_cons (k := 48 + (w_33 % 6) % 10) (by omega) jA_nil)) (jA_cons (k := 46) (by decide) jA_nil)) (jA_cons (k := 48 + (w_46 % 7) % 10) (by omega) jA_nil)) (jA_cons (k := 59) (by decide) (jA_cons (k := 110) (by decide) (jA_cons (k := 59) (by decide) (jA_cons (k := 104) (by decide) (jA_cons (k := 50) (by decide) (jA_cons (k := 59) (by decide) (jA_cons (k := 113) (by decide) jA_nil)))))))) (jA_cons (k := 48 + (w_33 % 6) % 10) (by omega) jA_nil)) (jA_cons (k := 46) (by decide) jA_nil)) (jA_cons (k := 48 + (w_323 % 6) % 10) (by omega) jA_nil)) (jA_app (jA_app jA_nil (jA_cons (k := 59) (by decide) (jA_cons (k := 100) (by decide) jA_nil))) (jA_cons (k := 48 + (w_33 % 6) % 10) (by omega) jA_nil))) (jA_cons (k := 59) (by decide) (jA_cons (k := 97) (by decide) jA_nil))) (jA_cons (k := 48 + (w_379 % 6) % 10) (by omega) jA_nil)) (jA_cons (k := 46) (by decide) (jA_cons (k := 48) (by decide) (jA_cons (k := 61) (by decide) (jA_cons (k := 45) (by decide) (jA_cons (k := 55) (by decide) jA_nil)))))) (fun h9 => absurd (congrArg List.length h9) (Nat.ne_of_gt hl_395.2)) (by omega)
          obtain ⟨v_395, T_395, hc_395, hs_395⟩ := r_run l hst hI_10 hx_10 ha_395 (by omega)
          refine y_grun (xs := [] ++ [113] ++ [nI (48 + (w_33 % 6) % 10)] ++ [46] ++ [nI (48 + (w_46 % 7) % 10)] ++ [59, 110, 59, 104, 50, 59, 113] ++ [nI (48 + (w_33 % 6) % 10)] ++ [46] ++ [nI (48 + (w_323 % 6) % 10)] ++ ([] ++ [59, 100] ++ [nI (48 + (w_33 % 6) % 10)]) ++ [59, 97] ++ [nI (48 + (w_379 % 6) % 10)] ++ [46, 48, 61, 45, 55]) (rest := []) (i := 0) (j := 1) C hX_392 hc_395 rfl rfl rfl mlL_286 rfl (by omega) (by omega) (Nat.le_of_ble_eq_true rfl) dL_undone_395 ?_
          refine y_tsel [6] (by decide) (ex' := ([(a_2, .inl (q_cy K 4, 9, .inr (.inl (vp_updL f_10 dn_10 (uSm S_10)))))] : va_W)) C rfl rfl (fun C => ?_)
          refine y_istore (lv' := [(9, .int v_395), (8, .int (nI (w_46 % 7))), (7, .int (nI (w_33 % 6))), (6, .int (nI w_33)), (5, .int (nI w_27)), (0, .ref (q_ad K 300)), (1, .ref (q_ad K 0)), (2, .ref a_2), (3, .int (nI dn_10)), (4, .int (nI i_10))]) C dL_undone_398 (by decide) rfl ?_
          exact y_to (j_400 _ _ _ (by omega) (hs_395.up (by omega))) ⟨rfl, rfl, rfl, rfl, rfl, rfl, rfl, rfl, rfl, rfl, trivial⟩ rfl
        · refine y_ldcT (i := 3) C rfl dL_undone_340 ?_
          refine y_goto (tgt := 366) C dL_undone_342 (by decide) ?_
          refine y_appT (xs := [] ++ [113] ++ [nI (48 + (w_33 % 6) % 10)] ++ [46] ++ [nI (48 + (w_46 % 7) % 10)] ++ [59, 110, 59, 104, 50, 59, 113] ++ [nI (48 + (w_33 % 6) % 10)] ++ [46] ++ [nI (48 + (w_323 % 6) % 10)]) (ys := []) (rest := [.ref (q_ad K 0)]) (fr := ([(a_2, .inl (q_cy K 4, 9, .inr (.inl (vp_updL f_10 dn_10 (uSm S_10)))))] : va_W)) C hA 3 hX_327 hf_327 hn_327 hb_327 (by decide) rfl (by simp only [List.length_append, List.length_cons, List.length_nil] <;> omega) mlL_223 (by omega) (by omega) (Nat.le_of_ble_eq_true rfl) dL_undone_366 rfl (fun da_366 N_366 n_366 f_366 hX_366 hf_366 hn_366 hb_366 C => ?_)
          refine y_ldcTW (i := 11) C rfl dL_undone_369 ?_
          refine y_appT (xs := [] ++ [113] ++ [nI (48 + (w_33 % 6) % 10)] ++ [46] ++ [nI (48 + (w_46 % 7) % 10)] ++ [59, 110, 59, 104, 50, 59, 113] ++ [nI (48 + (w_33 % 6) % 10)] ++ [46] ++ [nI (48 + (w_323 % 6) % 10)] ++ []) (ys := [59, 97]) (rest := [.ref (q_ad K 0)]) (fr := ([(a_2, .inl (q_cy K 4, 9, .inr (.inl (vp_updL f_10 dn_10 (uSm S_10)))))] : va_W)) C hA 11 hX_366 hf_366 hn_366 hb_366 (by decide) rfl (by simp only [List.length_append, List.length_cons, List.length_nil] <;> omega) mlL_223 (by omega) (by omega) (Nat.le_of_ble_eq_true rfl) dL_undone_372 rfl (fun da_372 N_372 n_372 f_372 hX_372 hf_372 hn_372 hb_372 C => ?_)
          refine y_iload C dL_undone_375 rfl ?_
          refine y_bipush (v := 9) C dL_undone_377 (by decide) ?_
          obtain ⟨w_379, hw_379, ew_379⟩ := iusN w_33 (by omega) 9
          refine y_iushr (v := nI w_379) C ew_379 dL_undone_379 ?_
          refine y_bipush (v := 6) C dL_undone_380 (by decide) ?_
          refine y_iremN (a := w_379) (b := 6) C dL_undone_382 rfl rfl (by omega) (by omega) (by omega) ?_
          refine y_appI00 (a := w_379 % 6) (xs := [] ++ [113] ++ [nI (48 + (w_33 % 6) % 10)] ++ [46] ++ [nI (48 + (w_46 % 7) % 10)] ++ [59, 110, 59, 104, 50, 59, 113] ++ [nI (48 + (w_33 % 6) % 10)] ++ [46] ++ [nI (48 + (w_323 % 6) % 10)] ++ [] ++ [59, 97]) (rest := [.ref (q_ad K 0)]) (fr := ([(a_2, .inl (q_cy K 4, 9, .inr (.inl (vp_updL f_10 dn_10 (uSm S_10)))))] : va_W)) C hA hX_372 hf_372 hn_372 hb_372 (by omega) (by simp only [List.length_append, List.length_cons, List.length_nil] <;> omega) mlL_226 (by omega) (by omega) (Nat.le_of_ble_eq_true rfl) dL_undone_383 rfl (fun da_383 N_383 n_383 f_383 hX_383 hf_383 hn_383 hb_383 C => ?_)
          refine y_ldcTW (i := 12) C rfl dL_undone_386 ?_
          refine y_appT (xs := [] ++ [113] ++ [nI (48 + (w_33 % 6) % 10)] ++ [46] ++ [nI (48 + (w_46 % 7) % 10)] ++ [59, 110, 59, 104, 50, 59, 113] ++ [nI (48 + (w_33 % 6) % 10)] ++ [46] ++ [nI (48 + (w_323 % 6) % 10)] ++ [] ++ [59, 97] ++ [nI (48 + (w_379 % 6) % 10)]) (ys := [46, 48, 61, 45, 55]) (rest := [.ref (q_ad K 0)]) (fr := ([(a_2, .inl (q_cy K 4, 9, .inr (.inl (vp_updL f_10 dn_10 (uSm S_10)))))] : va_W)) C hA 12 hX_383 hf_383 hn_383 hb_383 (by decide) rfl (by simp only [List.length_append, List.length_cons, List.length_nil] <;> omega) mlL_223 (by omega) (by omega) (Nat.le_of_ble_eq_true rfl) dL_undone_389 rfl (fun da_389 N_389 n_389 f_389 hX_389 hf_389 hn_389 hb_389 C => ?_)
          refine y_tstr (xs := [] ++ [113] ++ [nI (48 + (w_33 % 6) % 10)] ++ [46] ++ [nI (48 + (w_46 % 7) % 10)] ++ [59, 110, 59, 104, 50, 59, 113] ++ [nI (48 + (w_33 % 6) % 10)] ++ [46] ++ [nI (48 + (w_323 % 6) % 10)] ++ [] ++ [59, 97] ++ [nI (48 + (w_379 % 6) % 10)] ++ [46, 48, 61, 45, 55]) (rest := [.ref (q_ad K 0)]) (fr := ([(a_2, .inl (q_cy K 4, 9, .inr (.inl (vp_updL f_10 dn_10 (uSm S_10)))))] : va_W)) C hA hX_389 hf_389 hn_389 hb_389 (by simp only [List.length_append, List.length_cons, List.length_nil] <;> omega) mlL_234 (by omega) (by omega) (Nat.le_of_ble_eq_true rfl) dL_undone_392 rfl (fun q_392 sd_392 g_392 hX_392 hg_392 C => ?_)
          have hl_395 : ([] ++ [113] ++ [nI (48 + (w_33 % 6) % 10)] ++ [46] ++ [nI (48 + (w_46 % 7) % 10)] ++ [59, 110, 59, 104, 50, 59, 113] ++ [nI (48 + (w_33 % 6) % 10)] ++ [46] ++ [nI (48 + (w_323 % 6) % 10)] ++ [] ++ [59, 97] ++ [nI (48 + (w_379 % 6) % 10)] ++ [46, 48, 61, 45, 55]).length ≤ 30 ∧ 1 ≤ ([] ++ [113] ++ [nI (48 + (w_33 % 6) % 10)] ++ [46] ++ [nI (48 + (w_46 % 7) % 10)] ++ [59, 110, 59, 104, 50, 59, 113] ++ [nI (48 + (w_33 % 6) % 10)] ++ [46] ++ [nI (48 + (w_323 % 6) % 10)] ++ [] ++ [59, 97] ++ [nI (48 + (w_379 % 6) % 10)] ++ [46, 48, 61, 45, 55]).length := by simp only [List.length_append, List.length_cons, List.length_nil] <;> omega
          have ha_395 : q_asc ([] ++ [113] ++ [nI (48 + (w_33 % 6) % 10)] ++ [46] ++ [nI (48 + (w_46 % 7) % 10)] ++ [59, 110, 59, 104, 50, 59, 113] ++ [nI (48 + (w_33 % 6) % 10)] ++ [46] ++ [nI (48 + (w_323 % 6) % 10)] ++ [] ++ [59, 97] ++ [nI (48 + (w_379 % 6) % 10)] ++ [46, 48, 61, 45, 55]) := jA_asc (jA_app (jA_app (jA_app (jA_app (jA_app (jA_app (jA_app (jA_app (jA_app (jA_app (jA_app (jA_app jA_nil (jA_cons (k := 113) (by decide) jA_nil)) (jA_cons (k := 48 + (w_33 % 6) % 10) (by omega) jA_nil)) (jA_cons (k := 46) (by decide) jA_nil)) (jA_cons (k := 48 + (w_46 % 7) % 10) (by omega) jA_nil)) (jA_cons (k := 59) (by decide) (jA_cons (k := 110) (by decide) (jA_cons (k := 59) (by decide) (jA_cons (k := 104) (by decide) (jA_cons (k := 50) (by decide) (jA_cons (k := 59) (by decide) (jA_cons (k := 113) (by decide) jA_nil)))))))) (jA_cons (k := 48 + (w_33 % 6) % 10) (by omega) jA_nil)) (jA_cons (k := 46) (by decide) jA_nil)) (jA_cons (k := 48 + (w_323 % 6) % 10) (by omega) jA_nil)) jA_nil) (jA_cons (k := 59) (by decide) (jA_cons (k := 97) (by decide) jA_nil))) (jA_cons (k := 48 + (w_379 % 6) % 10) (by omega) jA_nil)) (jA_cons (k := 46) (by decide) (jA_cons (k := 48) (by decide) (jA_cons (k := 61) (by decide) (jA_cons (k := 45) (by decide) (jA_cons (k := 55) (by decide) jA_nil)))))) (fun h9 => absurd (congrArg List.length h9) (Nat.ne_of_gt hl_395.2)) (by omega)
          obtain ⟨v_395, T_395, hc_395, hs_395⟩ := r_run l hst hI_10 hx_10 ha_395 (by omega)
          refine y_grun (xs := [] ++ [113] ++ [nI (48 + (w_33 % 6) % 10)] ++ [46] ++ [nI (48 + (w_46 % 7) % 10)] ++ [59, 110, 59, 104, 50, 59, 113] ++ [nI (48 + (w_33 % 6) % 10)] ++ [46] ++ [nI (48 + (w_323 % 6) % 10)] ++ [] ++ [59, 97] ++ [nI (48 + (w_379 % 6) % 10)] ++ [46, 48, 61, 45, 55]) (rest := []) (i := 0) (j := 1) C hX_392 hc_395 rfl rfl rfl mlL_286 rfl (by omega) (by omega) (Nat.le_of_ble_eq_true rfl) dL_undone_395 ?_
          refine y_tsel [4] (by decide) (ex' := ([(a_2, .inl (q_cy K 4, 9, .inr (.inl (vp_updL f_10 dn_10 (uSm S_10)))))] : va_W)) C rfl rfl (fun C => ?_)
          refine y_istore (lv' := [(9, .int v_395), (8, .int (nI (w_46 % 7))), (7, .int (nI (w_33 % 6))), (6, .int (nI w_33)), (5, .int (nI w_27)), (0, .ref (q_ad K 300)), (1, .ref (q_ad K 0)), (2, .ref a_2), (3, .int (nI dn_10)), (4, .int (nI i_10))]) C dL_undone_398 (by decide) rfl ?_
          exact y_to (j_400 _ _ _ (by omega) (hs_395.up (by omega))) ⟨rfl, rfl, rfl, rfl, rfl, rfl, rfl, rfl, rfl, rfl, trivial⟩ rfl
      have hk13 : w_27 % 13 < 13 := Nat.mod_lt _ (by decide)
      generalize w_27 % 13 = k13 at hk13 ⊢
      rcases (show k13 = 0 ∨ k13 = 1 ∨ k13 = 2 ∨ k13 = 3 ∨ k13 = 4 ∨ k13 = 5 ∨ k13 = 6 ∨ k13 = 7 ∨ k13 = 8 ∨ k13 = 9 ∨ k13 = 10 ∨ k13 = 11 ∨ k13 = 12 by omega) with rfl | rfl | rfl | rfl | rfl | rfl | rfl | rfl | rfl | rfl | rfl | rfl | rfl
      · refine y_tabin (off := 60) (tgt := 124) C dL_undone_64 (by decide) (by decide) rfl (by decide) ?_
        refine y_aload_n C dL_undone_124 rfl rfl ?_
        obtain ⟨v_125, T_125, hc_125, hs_125⟩ := r_matter l hst hI_10 hx_10
        refine y_sw (rest := []) C hc_125 mwL_matter mlL_126 rfl rfl rfl ⟨by decide, by decide⟩ (by omega) (Nat.le_of_ble_eq_true rfl) dL_undone_125 ?_
        refine y_istore (lv' := [(9, .int v_125), (8, .int (nI (w_46 % 7))), (7, .int (nI (w_33 % 6))), (6, .int (nI w_33)), (5, .int (nI w_27)), (0, .ref (q_ad K 300)), (1, .ref (q_ad K 0)), (2, .ref a_2), (3, .int (nI dn_10)), (4, .int (nI i_10))]) C dL_undone_128 (by decide) rfl ?_
        refine y_goto (tgt := 400) C dL_undone_130 (by decide) ?_
        exact y_to (j_400 _ _ _ (by omega) (hs_125.up (by omega))) ⟨rfl, rfl, rfl, rfl, rfl, rfl, rfl, rfl, rfl, rfl, trivial⟩ rfl
      · refine y_tabin (off := 69) (tgt := 133) C dL_undone_64 (by decide) (by decide) rfl (by decide) ?_
        refine y_aload_n C dL_undone_133 rfl rfl ?_
        refine y_iload C dL_undone_134 rfl ?_
        refine y_iload C dL_undone_136 rfl ?_
        refine y_iload C dL_undone_138 rfl ?_
        refine y_bipush (v := 6) C dL_undone_140 (by decide) ?_
        obtain ⟨w_142, hw_142, ew_142⟩ := iusN w_33 (by omega) 6
        refine y_iushr (v := nI w_142) C ew_142 dL_undone_142 ?_
        refine y_bipush (v := 103) C dL_undone_143 (by decide) ?_
        refine y_iremN (a := w_142) (b := 103) C dL_undone_145 rfl rfl (by omega) (by omega) (by omega) ?_
        refine y_bipush (v := 51) C dL_undone_146 (by decide) ?_
        refine y_isub C dL_undone_148 ?_
        obtain ⟨v_149, T_149, hc_149, hs_149⟩ := r_set l hst hI_10 hx_10 (m := (w_33 % 6)) (g := (w_46 % 7)) (by omega) (by omega) ((nI (w_142 % 103)) - 51)
        refine y_sw (rest := []) C hc_149 mwL_set mlL_128 rfl rfl rfl ⟨by decide, by decide⟩ (by omega) (Nat.le_of_ble_eq_true rfl) dL_undone_149 ?_
        refine y_istore (lv' := [(9, .int v_149), (8, .int (nI (w_46 % 7))), (7, .int (nI (w_33 % 6))), (6, .int (nI w_33)), (5, .int (nI w_27)), (0, .ref (q_ad K 300)), (1, .ref (q_ad K 0)), (2, .ref a_2), (3, .int (nI dn_10)), (4, .int (nI i_10))]) C dL_undone_152 (by decide) rfl ?_
        refine y_goto (tgt := 400) C dL_undone_154 (by decide) ?_
        exact y_to (j_400 _ _ _ (by omega) (hs_149.up (by omega))) ⟨rfl, rfl, rfl, rfl, rfl, rfl, rfl, rfl, rfl, rfl, trivial⟩ rfl
      · refine y_tabin (off := 93) (tgt := 157) C dL_undone_64 (by decide) (by decide) rfl (by decide) ?_
        refine y_aload_n C dL_undone_157 rfl rfl ?_
        refine y_iload C dL_undone_158 rfl ?_
        refine y_iload C dL_undone_160 rfl ?_
        obtain ⟨v_162, T_162, hc_162, hs_162⟩ := r_ask l hst hI_10 hx_10 (m := (w_33 % 6)) (g := (w_46 % 7)) (by omega) (by omega)
        refine y_sw (rest := []) C hc_162 mwL_ask mlL_131 rfl rfl rfl ⟨by decide, by decide⟩ (by omega) (Nat.le_of_ble_eq_true rfl) dL_undone_162 ?_
        refine y_istore (lv' := [(9, .int v_162), (8, .int (nI (w_46 % 7))), (7, .int (nI (w_33 % 6))), (6, .int (nI w_33)), (5, .int (nI w_27)), (0, .ref (q_ad K 300)), (1, .ref (q_ad K 0)), (2, .ref a_2), (3, .int (nI dn_10)), (4, .int (nI i_10))]) C dL_undone_165 (by decide) rfl ?_
        refine y_goto (tgt := 400) C dL_undone_167 (by decide) ?_
        exact y_to (j_400 _ _ _ (by omega) (hs_162.up (by omega))) ⟨rfl, rfl, rfl, rfl, rfl, rfl, rfl, rfl, rfl, rfl, trivial⟩ rfl
      · refine y_tabin (off := 106) (tgt := 170) C dL_undone_64 (by decide) (by decide) rfl (by decide) ?_
        refine y_aload_n C dL_undone_170 rfl rfl ?_
        refine y_iload C dL_undone_171 rfl ?_
        obtain ⟨v_173, T_173, hc_173, hs_173⟩ := r_decide l hst hI_10 hx_10 (m := (w_33 % 6)) (by omega)
        refine y_sw (rest := []) C hc_173 mwL_decide mlL_134 rfl rfl rfl ⟨by decide, by decide⟩ (by omega) (Nat.le_of_ble_eq_true rfl) dL_undone_173 ?_
        refine y_istore (lv' := [(9, .int v_173), (8, .int (nI (w_46 % 7))), (7, .int (nI (w_33 % 6))), (6, .int (nI w_33)), (5, .int (nI w_27)), (0, .ref (q_ad K 300)), (1, .ref (q_ad K 0)), (2, .ref a_2), (3, .int (nI dn_10)), (4, .int (nI i_10))]) C dL_undone_176 (by decide) rfl ?_
        refine y_goto (tgt := 400) C dL_undone_178 (by decide) ?_
        exact y_to (j_400 _ _ _ (by omega) (hs_173.up (by omega))) ⟨rfl, rfl, rfl, rfl, rfl, rfl, rfl, rfl, rfl, rfl, trivial⟩ rfl
      · refine y_tabin (off := 117) (tgt := 181) C dL_undone_64 (by decide) (by decide) rfl (by decide) ?_
        refine y_aload_n C dL_undone_181 rfl rfl ?_
        refine y_iload C dL_undone_182 rfl ?_
        refine y_iload C dL_undone_184 rfl ?_
        obtain ⟨v_186, T_186, hc_186, hs_186⟩ := r_tell l hst hI_10 hx_10 (m := (w_33 % 6)) (g := (w_46 % 7)) (by omega) (by omega)
        refine y_sw (rest := []) C hc_186 mwL_tell mlL_137 rfl rfl rfl ⟨by decide, by decide⟩ (by omega) (Nat.le_of_ble_eq_true rfl) dL_undone_186 ?_
        refine y_istore (lv' := [(9, .int v_186), (8, .int (nI (w_46 % 7))), (7, .int (nI (w_33 % 6))), (6, .int (nI w_33)), (5, .int (nI w_27)), (0, .ref (q_ad K 300)), (1, .ref (q_ad K 0)), (2, .ref a_2), (3, .int (nI dn_10)), (4, .int (nI i_10))]) C dL_undone_189 (by decide) rfl ?_
        refine y_goto (tgt := 400) C dL_undone_191 (by decide) ?_
        exact y_to (j_400 _ _ _ (by omega) (hs_186.up (by omega))) ⟨rfl, rfl, rfl, rfl, rfl, rfl, rfl, rfl, rfl, rfl, trivial⟩ rfl
      · refine y_tabin (off := 130) (tgt := 194) C dL_undone_64 (by decide) (by decide) rfl (by decide) ?_
        refine y_aload_n C dL_undone_194 rfl rfl ?_
        obtain ⟨v_195, T_195, hc_195, hs_195⟩ := r_faint l hst hI_10 hx_10
        refine y_sw (rest := []) C hc_195 mwL_faint mlL_145 rfl rfl rfl ⟨by decide, by decide⟩ (by omega) (Nat.le_of_ble_eq_true rfl) dL_undone_195 ?_
        refine y_istore (lv' := [(9, .int v_195), (8, .int (nI (w_46 % 7))), (7, .int (nI (w_33 % 6))), (6, .int (nI w_33)), (5, .int (nI w_27)), (0, .ref (q_ad K 300)), (1, .ref (q_ad K 0)), (2, .ref a_2), (3, .int (nI dn_10)), (4, .int (nI i_10))]) C dL_undone_198 (by decide) rfl ?_
        refine y_goto (tgt := 400) C dL_undone_200 (by decide) ?_
        exact y_to (j_400 _ _ _ (by omega) (hs_195.up (by omega))) ⟨rfl, rfl, rfl, rfl, rfl, rfl, rfl, rfl, rfl, rfl, trivial⟩ rfl
      · refine y_tabin (off := 139) (tgt := 203) C dL_undone_64 (by decide) (by decide) rfl (by decide) ?_
        refine y_aload_n C dL_undone_203 rfl rfl ?_
        obtain ⟨v_204, T_204, hc_204, hs_204⟩ := r_wake l hst hI_10 hx_10
        refine y_sw (rest := []) C hc_204 mwL_wake mlL_147 rfl rfl rfl ⟨by decide, by decide⟩ (by omega) (Nat.le_of_ble_eq_true rfl) dL_undone_204 ?_
        refine y_istore (lv' := [(9, .int v_204), (8, .int (nI (w_46 % 7))), (7, .int (nI (w_33 % 6))), (6, .int (nI w_33)), (5, .int (nI w_27)), (0, .ref (q_ad K 300)), (1, .ref (q_ad K 0)), (2, .ref a_2), (3, .int (nI dn_10)), (4, .int (nI i_10))]) C dL_undone_207 (by decide) rfl ?_
        refine y_goto (tgt := 400) C dL_undone_209 (by decide) ?_
        exact y_to (j_400 _ _ _ (by omega) (hs_204.up (by omega))) ⟨rfl, rfl, rfl, rfl, rfl, rfl, rfl, rfl, rfl, rfl, trivial⟩ rfl
      · refine y_tabin (off := 148) (tgt := 212) C dL_undone_64 (by decide) (by decide) rfl (by decide) ?_
        refine y_aload_n C dL_undone_212 rfl rfl ?_
        refine y_iload C dL_undone_213 rfl ?_
        obtain ⟨v_215, T_215, hc_215, hs_215⟩ := r_sleep l hst hI_10 hx_10 (g := (w_46 % 7)) (by omega)
        refine y_sw (rest := []) C hc_215 mwL_sleep mlL_151 rfl rfl rfl ⟨by decide, by decide⟩ (by omega) (Nat.le_of_ble_eq_true rfl) dL_undone_215 ?_
        refine y_istore (lv' := [(9, .int v_215), (8, .int (nI (w_46 % 7))), (7, .int (nI (w_33 % 6))), (6, .int (nI w_33)), (5, .int (nI w_27)), (0, .ref (q_ad K 300)), (1, .ref (q_ad K 0)), (2, .ref a_2), (3, .int (nI dn_10)), (4, .int (nI i_10))]) C dL_undone_218 (by decide) rfl ?_
        refine y_goto (tgt := 400) C dL_undone_220 (by decide) ?_
        exact y_to (j_400 _ _ _ (by omega) (hs_215.up (by omega))) ⟨rfl, rfl, rfl, rfl, rfl, rfl, rfl, rfl, rfl, rfl, trivial⟩ rfl
      · refine y_tabin (off := 159) (tgt := 223) C dL_undone_64 (by decide) (by decide) rfl (by decide) ?_
        refine y_aload_n C dL_undone_223 rfl rfl ?_
        refine y_iload C dL_undone_224 rfl ?_
        obtain ⟨v_226, T_226, hc_226, hs_226⟩ := r_rouse l hst hI_10 hx_10 (g := (w_46 % 7)) (by omega)
        refine y_sw (rest := []) C hc_226 mwL_rouse mlL_153 rfl rfl rfl ⟨by decide, by decide⟩ (by omega) (Nat.le_of_ble_eq_true rfl) dL_undone_226 ?_
        refine y_istore (lv' := [(9, .int v_226), (8, .int (nI (w_46 % 7))), (7, .int (nI (w_33 % 6))), (6, .int (nI w_33)), (5, .int (nI w_27)), (0, .ref (q_ad K 300)), (1, .ref (q_ad K 0)), (2, .ref a_2), (3, .int (nI dn_10)), (4, .int (nI i_10))]) C dL_undone_229 (by decide) rfl ?_
        refine y_goto (tgt := 400) C dL_undone_231 (by decide) ?_
        exact y_to (j_400 _ _ _ (by omega) (hs_226.up (by omega))) ⟨rfl, rfl, rfl, rfl, rfl, rfl, rfl, rfl, rfl, rfl, trivial⟩ rfl
      · refine y_tabin (off := 170) (tgt := 234) C dL_undone_64 (by decide) (by decide) rfl (by decide) ?_
        refine y_aload_n C dL_undone_234 rfl rfl ?_
        refine y_iload C dL_undone_235 rfl ?_
        refine y_iload C dL_undone_237 rfl ?_
        refine y_iload C dL_undone_239 rfl ?_
        refine y_bipush (v := 6) C dL_undone_241 (by decide) ?_
        obtain ⟨w_243, hw_243, ew_243⟩ := iusN w_33 (by omega) 6
        refine y_iushr (v := nI w_243) C ew_243 dL_undone_243 ?_
        refine y_bipush (v := 6) C dL_undone_244 (by decide) ?_
        refine y_iremN (a := w_243) (b := 6) C dL_undone_246 rfl rfl (by omega) (by omega) (by omega) ?_
        obtain ⟨v_247, T_247, hc_247, hs_247⟩ := r_inq l hst hI_10 hx_10 (m := (w_33 % 6)) (g := (w_46 % 7)) (o := (w_243 % 6)) (by omega) (by omega) (by omega)
        refine y_sw (rest := []) C hc_247 mwL_inquire mlL_139 rfl rfl rfl ⟨by decide, by decide⟩ (by omega) (Nat.le_of_ble_eq_true rfl) dL_undone_247 ?_
        refine y_istore (lv' := [(9, .int v_247), (8, .int (nI (w_46 % 7))), (7, .int (nI (w_33 % 6))), (6, .int (nI w_33)), (5, .int (nI w_27)), (0, .ref (q_ad K 300)), (1, .ref (q_ad K 0)), (2, .ref a_2), (3, .int (nI dn_10)), (4, .int (nI i_10))]) C dL_undone_250 (by decide) rfl ?_
        refine y_goto (tgt := 400) C dL_undone_252 (by decide) ?_
        exact y_to (j_400 _ _ _ (by omega) (hs_247.up (by omega))) ⟨rfl, rfl, rfl, rfl, rfl, rfl, rfl, rfl, rfl, rfl, trivial⟩ rfl
      · refine y_tabin (off := 191) (tgt := 255) C dL_undone_64 (by decide) (by decide) rfl (by decide) ?_
        refine y_aload_n C dL_undone_255 rfl rfl ?_
        refine y_iload C dL_undone_256 rfl ?_
        refine y_bipush (v := 6) C dL_undone_258 (by decide) ?_
        obtain ⟨w_260, hw_260, ew_260⟩ := iusN w_33 (by omega) 6
        refine y_iushr (v := nI w_260) C ew_260 dL_undone_260 ?_
        refine y_bipush (v := 26) C dL_undone_261 (by decide) ?_
        refine y_iremN (a := w_260) (b := 26) C dL_undone_263 rfl rfl (by omega) (by omega) (by omega) ?_
        obtain ⟨v_264, T_264, hc_264, hs_264⟩ := r_pass l hst hI_10 hx_10 (y := (w_260 % 26)) (by omega)
        refine y_sw (rest := []) C hc_264 mwL_pass mlL_155 rfl rfl rfl ⟨by decide, by decide⟩ (by omega) (Nat.le_of_ble_eq_true rfl) dL_undone_264 ?_
        refine y_istore (lv' := [(9, .int v_264), (8, .int (nI (w_46 % 7))), (7, .int (nI (w_33 % 6))), (6, .int (nI w_33)), (5, .int (nI w_27)), (0, .ref (q_ad K 300)), (1, .ref (q_ad K 0)), (2, .ref a_2), (3, .int (nI dn_10)), (4, .int (nI i_10))]) C dL_undone_267 (by decide) rfl ?_
        refine y_goto (tgt := 400) C dL_undone_269 (by decide) ?_
        exact y_to (j_400 _ _ _ (by omega) (hs_264.up (by omega))) ⟨rfl, rfl, rfl, rfl, rfl, rfl, rfl, rfl, rfl, rfl, trivial⟩ rfl
      · refine y_tabout (tgt := 272) C dL_undone_64 (by decide) (by decide) ?_
        exact j_272
      · refine y_tabout (tgt := 272) C dL_undone_64 (by decide) (by decide) ?_
        exact j_272
  exact y_to (loop_10 (7 - 0) 0 _ 0 (fun _ => S) S (fun _ => 0) (by omega) (by omega) (Nat.le_refl _) hH (fun _ h9 => absurd h9 (Nat.not_lt_zero _))) ⟨rfl, rfl, rfl, rfl, rfl, trivial⟩ rfl
