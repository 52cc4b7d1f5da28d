
set_option maxHeartbeats 4000000 in
theorem l_drawn (l : Launch) (hst : l.stackTraces = false) (n : Nat) (xs : Nat → Int32) (hn : n < 2 ^ 31) : q_Fd2 l yL_drawn kL_drawn 12 2100 n xs (fun S => ∃ M, pDi 225 M S) := by
  refine q_Fd2_of ?_
  intro K C hKS hret
  refine y_aload_n C dL_drawn_8 rfl rfl ?_
  refine y_iconst (v := 0) C dL_drawn_9 (by decide) ?_
  refine y_sS (rest := []) C hKS (l_cell l uS0 n xs hn 0 (by omega)) msL_cell rfl mlL_122 rfl rfl rfl ⟨by decide, by decide⟩ (by omega) (Nat.le_of_ble_eq_true rfl) dL_drawn_10 ?_
  refine y_iconst (v := 1) C dL_drawn_13 (by decide) ?_
  obtain ⟨w_14, hw_14, ew_14⟩ := ius1 (uCell n xs 0)
  refine y_iushr (v := nI w_14) C ew_14 dL_drawn_14 ?_
  refine y_istore_n (lv' := [(2, .int (nI w_14)), (1, .ref (q_ad K 0)), (0, .ref (q_ad K 300))]) C dL_drawn_15 rfl (by decide) rfl ?_
  refine y_iconst (v := 1) C dL_drawn_16 (by decide) ?_
  refine y_iload_n C dL_drawn_17 rfl rfl ?_
  refine y_iconst (v := 5) C dL_drawn_18 (by decide) ?_
  refine y_iremN (a := w_14) (b := 5) C dL_drawn_19 rfl rfl (by omega) (by omega) (by omega) ?_
  refine y_iaddN (a := 1) (b := w_14 % 5) C dL_drawn_20 rfl rfl ?_
  refine y_istore_n (lv' := [(3, .int (nI (1 + (w_14 % 5)))), (2, .int (nI w_14)), (1, .ref (q_ad K 0)), (0, .ref (q_ad K 300))]) C dL_drawn_21 rfl (by decide) rfl ?_
  refine y_iconst (v := 0) C dL_drawn_22 (by decide) ?_
  refine y_istore (lv' := [(4, .int 0), (3, .int (nI (1 + (w_14 % 5)))), (2, .int (nI w_14)), (1, .ref (q_ad K 0)), (0, .ref (q_ad K 300))]) C dL_drawn_23 (by decide) rfl ?_
  have loop_25 : ∀ (n_25 i_25 u_25 : Nat) (T_25 : q_St), i_25 + n_25 = (1 + w_14 % 5) → u_25 + n_25 * 60 ≤ 322 + (1 + w_14 % 5) * 60 → pSt0 i_25 T_25 → q_Y l K u_25 [] q_Tr 25 [(0, .ref (q_ad K 300)), (1, .ref (q_ad K 0)), (2, .int (nI w_14)), (3, .int (nI (1 + (w_14 % 5)))), (4, .int (nI i_25))] [] T_25 := by
    intro n_25
    induction n_25 with
    | zero =>
      intro i_25 u_25 T_25 hi_25 hu_25 hs_25
      have e_25 : i_25 = (1 + w_14 % 5) := by omega
      refine y_iload C dL_drawn_25 rfl ?_
      refine y_iload_n C dL_drawn_27 rfl rfl ?_
      refine y_icmp_geN (a := i_25) (b := 1 + (w_14 % 5)) (tgt := 128) C dL_drawn_28 (by decide) rfl rfl (by omega) (by omega) (fun c_28 => ?_) (fun c_28 => absurd c_28 (by omega))
      have e9i_25 : i_25 = (1 + w_14 % 5) := by omega
      subst e9i_25
      refine y_iload_n C dL_drawn_128 rfl rfl ?_
      refine y_iconst (v := 4) C dL_drawn_129 (by decide) ?_
      obtain ⟨w_130, hw_130, ew_130⟩ := iusN w_14 (by omega) 4
      refine y_iushr (v := nI w_130) C ew_130 dL_drawn_130 ?_
      refine y_bipush (v := 45) C dL_drawn_131 (by decide) ?_
      refine y_iremN (a := w_130) (b := 45) C dL_drawn_133 rfl rfl (by omega) (by omega) (by omega) ?_
      refine y_istore (lv' := [(4, .int (nI (w_130 % 45))), (0, .ref (q_ad K 300)), (1, .ref (q_ad K 0)), (2, .int (nI w_14)), (3, .int (nI (1 + (w_14 % 5))))]) C dL_drawn_134 (by decide) rfl ?_
      refine y_iconst (v := 0) C dL_drawn_136 (by decide) ?_
      refine y_istore (lv' := [(5, .int 0), (4, .int (nI (w_130 % 45))), (0, .ref (q_ad K 300)), (1, .ref (q_ad K 0)), (2, .int (nI w_14)), (3, .int (nI (1 + (w_14 % 5))))]) C dL_drawn_137 (by decide) rfl ?_
      have loop_139 : ∀ (n_139 i_139 u_139 : Nat) (T : q_St), i_139 + n_139 = (w_130 % 45) → u_139 + n_139 * 30 ≤ u_25 + (w_130 % 45) * 30 → pDi (5 * i_139) (1 + w_14 % 5) T → q_Y l K u_139 [] q_Tr 139 [(0, .ref (q_ad K 300)), (1, .ref (q_ad K 0)), (2, .int (nI w_14)), (3, .int (nI (1 + (w_14 % 5)))), (4, .int (nI (w_130 % 45))), (5, .int (nI i_139))] [] T := by
        intro n_139
        induction n_139 with
        | zero =>
          intro i_139 u_139 T hi_139 hu_139 hT
          have e_139 : i_139 = (w_130 % 45) := by omega
          refine y_iload C dL_drawn_139 rfl ?_
          refine y_iload C dL_drawn_141 rfl ?_
          refine y_icmp_geN (a := i_139) (b := w_130 % 45) (tgt := 480) C dL_drawn_143 (by decide) rfl rfl (by omega) (by omega) (fun c_143 => ?_) (fun c_143 => absurd c_143 (by omega))
          refine y_aload_n C dL_drawn_480 rfl rfl ?_
          exact hret _ _ _ _ (by omega) dL_drawn_481 ⟨_, hT.up (by omega)⟩
        | succ n_139 ih_139 =>
          intro i_139 u_139 T hi_139 hu_139 hT
          refine y_iload C dL_drawn_139 rfl ?_
          refine y_iload C dL_drawn_141 rfl ?_
          refine y_icmp_geN (a := i_139) (b := w_130 % 45) (tgt := 480) C dL_drawn_143 (by decide) rfl rfl (by omega) (by omega) (fun c_143 => absurd c_143 (by omega)) (fun c_143 => ?_)
          refine y_aload_n C dL_drawn_146 rfl rfl ?_
          refine y_bipush (v := 6) C dL_drawn_147 (by decide) ?_
          refine y_iload C dL_drawn_149 rfl ?_
          refine y_iaddN (a := 6) (b := i_139) C dL_drawn_151 rfl rfl ?_
          refine y_sS (rest := []) C hKS (l_cell l T n xs hn (6 + i_139) (by omega)) msL_cell rfl mlL_122 rfl rfl rfl ⟨by decide, by decide⟩ (by omega) (Nat.le_of_ble_eq_true rfl) dL_drawn_152 ?_
          refine y_iconst (v := 1) C dL_drawn_155 (by decide) ?_
          obtain ⟨w_156, hw_156, ew_156⟩ := ius1 (uCell n xs (6 + i_139))
          refine y_iushr (v := nI w_156) C ew_156 dL_drawn_156 ?_
          refine y_istore (lv' := [(6, .int (nI w_156)), (0, .ref (q_ad K 300)), (1, .ref (q_ad K 0)), (2, .int (nI w_14)), (3, .int (nI (1 + (w_14 % 5)))), (4, .int (nI (w_130 % 45))), (5, .int (nI i_139))]) C dL_drawn_157 (by decide) rfl ?_
          refine y_iload C dL_drawn_159 rfl ?_
          refine y_iconst (v := 4) C dL_drawn_161 (by decide) ?_
          obtain ⟨w_162, hw_162, ew_162⟩ := iusN w_156 (by omega) 4
          refine y_iushr (v := nI w_162) C ew_162 dL_drawn_162 ?_
          refine y_istore (lv' := [(7, .int (nI w_162)), (6, .int (nI w_156)), (0, .ref (q_ad K 300)), (1, .ref (q_ad K 0)), (2, .int (nI w_14)), (3, .int (nI (1 + (w_14 % 5)))), (4, .int (nI (w_130 % 45))), (5, .int (nI i_139))]) C dL_drawn_163 (by decide) rfl ?_
          refine y_iload C dL_drawn_165 rfl ?_
          refine y_iload_n C dL_drawn_167 rfl rfl ?_
          refine y_iremN (a := w_162) (b := 1 + (w_14 % 5)) C dL_drawn_168 rfl rfl (by omega) (by omega) (by omega) ?_
          refine y_istore (lv' := [(8, .int (nI (w_162 % (1 + (w_14 % 5))))), (7, .int (nI w_162)), (6, .int (nI w_156)), (0, .ref (q_ad K 300)), (1, .ref (q_ad K 0)), (2, .int (nI w_14)), (3, .int (nI (1 + (w_14 % 5)))), (4, .int (nI (w_130 % 45))), (5, .int (nI i_139))]) C dL_drawn_169 (by decide) rfl ?_
          refine y_iload C dL_drawn_171 rfl ?_
          refine y_iconst (v := 3) C dL_drawn_173 (by decide) ?_
          obtain ⟨w_174, hw_174, ew_174⟩ := iusN w_162 (by omega) 3
          refine y_iushr (v := nI w_174) C ew_174 dL_drawn_174 ?_
          refine y_bipush (v := 6) C dL_drawn_175 (by decide) ?_
          refine y_iremN (a := w_174) (b := 6) C dL_drawn_177 rfl rfl (by omega) (by omega) (by omega) ?_
          refine y_istore (lv' := [(9, .int (nI (w_174 % 6))), (8, .int (nI (w_162 % (1 + (w_14 % 5))))), (7, .int (nI w_162)), (6, .int (nI w_156)), (0, .ref (q_ad K 300)), (1, .ref (q_ad K 0)), (2, .int (nI w_14)), (3, .int (nI (1 + (w_14 % 5)))), (4, .int (nI (w_130 % 45))), (5, .int (nI i_139))]) C dL_drawn_178 (by decide) rfl ?_
          refine y_iload C dL_drawn_180 rfl ?_
          refine y_bipush (v := 14) C dL_drawn_182 (by decide) ?_
          refine y_iremN (a := w_156) (b := 14) C dL_drawn_184 rfl rfl (by omega) (by omega) (by omega) ?_
          have j_467 : ∀ (v : Int32) (T2 : q_St) (u2 : Nat), u2 ≤ u_139 + 30 → 0 ≤ v → pDi (5 * i_139 + 5) (1 + w_14 % 5) T2 → q_Y l K u2 [] q_Tr 467 [(9, .int (nI (w_174 % 6))), (8, .int (nI (w_162 % (1 + (w_14 % 5))))), (7, .int (nI w_162)), (6, .int (nI w_156)), (0, .ref (q_ad K 300)), (1, .ref (q_ad K 0)), (2, .int (nI w_14)), (3, .int (nI (1 + (w_14 % 5)))), (4, .int (nI (w_130 % 45))), (5, .int (nI i_139)), (10, .int v)] [] T2 := by
            intro v T2 u2 hu2 hv hD2
            refine y_iload C dL_drawn_467 rfl ?_
            refine y_if_ge (tgt := 474) C dL_drawn_469 (by decide)  (fun c_469 => ?_) (fun c_469 => absurd c_469 (Int32.not_lt.mpr hv))
            refine y_iinc (v := nI (i_139 + 1)) (lv' := [(5, .int (nI (i_139 + 1))), (9, .int (nI (w_174 % 6))), (8, .int (nI (w_162 % (1 + (w_14 % 5))))), (7, .int (nI w_162)), (6, .int (nI w_156)), (0, .ref (q_ad K 300)), (1, .ref (q_ad K 0)), (2, .int (nI w_14)), (3, .int (nI (1 + (w_14 % 5)))), (4, .int (nI (w_130 % 45))), (10, .int v)]) C dL_drawn_474 rfl (nI_add _ _) (by decide) rfl ?_
            refine y_goto (tgt := 139) C dL_drawn_477 (by decide) ?_
            exact y_to (ih_139 (i_139 + 1) _ _ (by omega) (by omega) hD2) ⟨rfl, rfl, rfl, rfl, rfl, rfl, trivial⟩ rfl
          have j_252 : q_Y l K u_139 [] q_Tr 252 [(9, .int (nI (w_174 % 6))), (8, .int (nI (w_162 % (1 + (w_14 % 5))))), (7, .int (nI w_162)), (6, .int (nI w_156)), (0, .ref (q_ad K 300)), (1, .ref (q_ad K 0)), (2, .int (nI w_14)), (3, .int (nI (1 + (w_14 % 5)))), (4, .int (nI (w_130 % 45))), (5, .int (nI i_139))] [] T := by
            refine y_aload_n C dL_drawn_252 rfl rfl ?_
            refine y_iload C dL_drawn_253 rfl ?_
            refine y_iload C dL_drawn_255 rfl ?_
            obtain ⟨v_257, T_257, hc_257, hD_257, hv_257⟩ := b_ask l hst hT (m := (w_162 % (1 + (w_14 % 5)))) (g := (w_174 % 6)) (Nat.mod_lt _ (by omega)) (Nat.mod_lt _ (by decide))
            refine y_sw (rest := []) C hc_257 mwL_ask mlL_131 rfl rfl rfl ⟨by decide, by decide⟩ (by omega) (Nat.le_of_ble_eq_true rfl) dL_drawn_257 ?_
            refine y_istore (lv' := [(10, .int v_257), (9, .int (nI (w_174 % 6))), (8, .int (nI (w_162 % (1 + (w_14 % 5))))), (7, .int (nI w_162)), (6, .int (nI w_156)), (0, .ref (q_ad K 300)), (1, .ref (q_ad K 0)), (2, .int (nI w_14)), (3, .int (nI (1 + (w_14 % 5)))), (4, .int (nI (w_130 % 45))), (5, .int (nI i_139))]) C dL_drawn_260 (by decide) rfl ?_
            refine y_iload C dL_drawn_262 rfl ?_
            refine y_bipush (v := (-3)) C dL_drawn_264 (by decide) ?_
            refine y_icmp_ne (tgt := 273) C dL_drawn_266 (by decide)  (fun c_266 => ?_) (fun c_266 => ?_)
            · refine y_iload C dL_drawn_273 rfl ?_
              refine y_istore (lv' := [(10, .int v_257), (9, .int (nI (w_174 % 6))), (8, .int (nI (w_162 % (1 + (w_14 % 5))))), (7, .int (nI w_162)), (6, .int (nI w_156)), (0, .ref (q_ad K 300)), (1, .ref (q_ad K 0)), (2, .int (nI w_14)), (3, .int (nI (1 + (w_14 % 5)))), (4, .int (nI (w_130 % 45))), (5, .int (nI i_139))]) C dL_drawn_275 (by decide) rfl ?_
              refine y_goto (tgt := 467) C dL_drawn_277 (by decide) ?_
              exact y_to (j_467 _ _ _ (by omega) (hv_257.resolve_left c_266) (hD_257.up (by omega))) ⟨rfl, rfl, rfl, rfl, rfl, rfl, rfl, rfl, rfl, rfl, rfl, trivial⟩ rfl
            · refine y_iconst (v := 0) C dL_drawn_269 (by decide) ?_
              refine y_goto (tgt := 275) C dL_drawn_270 (by decide) ?_
              refine y_istore (lv' := [(10, .int 0), (9, .int (nI (w_174 % 6))), (8, .int (nI (w_162 % (1 + (w_14 % 5))))), (7, .int (nI w_162)), (6, .int (nI w_156)), (0, .ref (q_ad K 300)), (1, .ref (q_ad K 0)), (2, .int (nI w_14)), (3, .int (nI (1 + (w_14 % 5)))), (4, .int (nI (w_130 % 45))), (5, .int (nI i_139))]) C dL_drawn_275 (by decide) rfl ?_
              refine y_goto (tgt := 467) C dL_drawn_277 (by decide) ?_
              exact y_to (j_467 _ _ _ (by omega) (by decide) (hD_257.up (by omega))) ⟨rfl, rfl, rfl, rfl, rfl, rfl, rfl, rfl, rfl, rfl, rfl, trivial⟩ rfl
          have j_280 : q_Y l K u_139 [] q_Tr 280 [(9, .int (nI (w_174 % 6))), (8, .int (nI (w_162 % (1 + (w_14 % 5))))), (7, .int (nI w_162)), (6, .int (nI w_156)), (0, .ref (q_ad K 300)), (1, .ref (q_ad K 0)), (2, .int (nI w_14)), (3, .int (nI (1 + (w_14 % 5)))), (4, .int (nI (w_130 % 45))), (5, .int (nI i_139))] [] T := by
            refine y_aload_n C dL_drawn_280 rfl rfl ?_
            refine y_iload C dL_drawn_281 rfl ?_
            obtain ⟨v_283, T_283, hc_283, hD_283, hv_283⟩ := b_decide l hst hT (m := (w_162 % (1 + (w_14 % 5)))) (Nat.mod_lt _ (by omega))
            refine y_sw (rest := []) C hc_283 mwL_decide mlL_134 rfl rfl rfl ⟨by decide, by decide⟩ (by omega) (Nat.le_of_ble_eq_true rfl) dL_drawn_283 ?_
            refine y_istore (lv' := [(10, .int v_283), (9, .int (nI (w_174 % 6))), (8, .int (nI (w_162 % (1 + (w_14 % 5))))), (7, .int (nI w_162)), (6, .int (nI w_156)), (0, .ref (q_ad K 300)), (1, .ref (q_ad K 0)), (2, .int (nI w_14)), (3, .int (nI (1 + (w_14 % 5)))), (4, .int (nI (w_130 % 45))), (5, .int (nI i_139))]) C dL_drawn_286 (by decide) rfl ?_
            refine y_iload C dL_drawn_288 rfl ?_
            refine y_bipush (v := (-2)) C dL_drawn_290 (by decide) ?_
            refine y_icmp_ne (tgt := 299) C dL_drawn_292 (by decide)  (fun c_292 => ?_) (fun c_292 => ?_)
            · refine y_iload C dL_drawn_299 rfl ?_
              refine y_istore (lv' := [(10, .int v_283), (9, .int (nI (w_174 % 6))), (8, .int (nI (w_162 % (1 + (w_14 % 5))))), (7, .int (nI w_162)), (6, .int (nI w_156)), (0, .ref (q_ad K 300)), (1, .ref (q_ad K 0)), (2, .int (nI w_14)), (3, .int (nI (1 + (w_14 % 5)))), (4, .int (nI (w_130 % 45))), (5, .int (nI i_139))]) C dL_drawn_301 (by decide) rfl ?_
              refine y_goto (tgt := 467) C dL_drawn_303 (by decide) ?_
              exact y_to (j_467 _ _ _ (by omega) (hv_283.resolve_left c_292) (hD_283.up (by omega))) ⟨rfl, rfl, rfl, rfl, rfl, rfl, rfl, rfl, rfl, rfl, rfl, trivial⟩ rfl
            · refine y_iconst (v := 0) C dL_drawn_295 (by decide) ?_
              refine y_goto (tgt := 301) C dL_drawn_296 (by decide) ?_
              refine y_istore (lv' := [(10, .int 0), (9, .int (nI (w_174 % 6))), (8, .int (nI (w_162 % (1 + (w_14 % 5))))), (7, .int (nI w_162)), (6, .int (nI w_156)), (0, .ref (q_ad K 300)), (1, .ref (q_ad K 0)), (2, .int (nI w_14)), (3, .int (nI (1 + (w_14 % 5)))), (4, .int (nI (w_130 % 45))), (5, .int (nI i_139))]) C dL_drawn_301 (by decide) rfl ?_
              refine y_goto (tgt := 467) C dL_drawn_303 (by decide) ?_
              exact y_to (j_467 _ _ _ (by omega) (by decide) (hD_283.up (by omega))) ⟨rfl, rfl, rfl, rfl, rfl, rfl, rfl, rfl, rfl, rfl, rfl, trivial⟩ rfl
          have j_306 : q_Y l K u_139 [] q_Tr 306 [(9, .int (nI (w_174 % 6))), (8, .int (nI (w_162 % (1 + (w_14 % 5))))), (7, .int (nI w_162)), (6, .int (nI w_156)), (0, .ref (q_ad K 300)), (1, .ref (q_ad K 0)), (2, .int (nI w_14)), (3, .int (nI (1 + (w_14 % 5)))), (4, .int (nI (w_130 % 45))), (5, .int (nI i_139))] [] T := by
            refine y_aload_n C dL_drawn_306 rfl rfl ?_
            refine y_iload C dL_drawn_307 rfl ?_
            refine y_iload C dL_drawn_309 rfl ?_
            obtain ⟨v_311, T_311, hc_311, hD_311, hv_311⟩ := b_tell l hst hT (m := (w_162 % (1 + (w_14 % 5)))) (g := (w_174 % 6)) (Nat.mod_lt _ (by omega)) (Nat.mod_lt _ (by decide))
            refine y_sw (rest := []) C hc_311 mwL_tell mlL_137 rfl rfl rfl ⟨by decide, by decide⟩ (by omega) (Nat.le_of_ble_eq_true rfl) dL_drawn_311 ?_
            refine y_istore (lv' := [(10, .int v_311), (9, .int (nI (w_174 % 6))), (8, .int (nI (w_162 % (1 + (w_14 % 5))))), (7, .int (nI w_162)), (6, .int (nI w_156)), (0, .ref (q_ad K 300)), (1, .ref (q_ad K 0)), (2, .int (nI w_14)), (3, .int (nI (1 + (w_14 % 5)))), (4, .int (nI (w_130 % 45))), (5, .int (nI i_139))]) C dL_drawn_314 (by decide) rfl ?_
            refine y_iload C dL_drawn_316 rfl ?_
            refine y_bipush (v := (-3)) C dL_drawn_318 (by decide) ?_
            refine y_icmp_ne (tgt := 327) C dL_drawn_320 (by decide)  (fun c_320 => ?_) (fun c_320 => ?_)
            · refine y_iload C dL_drawn_327 rfl ?_
              refine y_istore (lv' := [(10, .int v_311), (9, .int (nI (w_174 % 6))), (8, .int (nI (w_162 % (1 + (w_14 % 5))))), (7, .int (nI w_162)), (6, .int (nI w_156)), (0, .ref (q_ad K 300)), (1, .ref (q_ad K 0)), (2, .int (nI w_14)), (3, .int (nI (1 + (w_14 % 5)))), (4, .int (nI (w_130 % 45))), (5, .int (nI i_139))]) C dL_drawn_329 (by decide) rfl ?_
              refine y_goto (tgt := 467) C dL_drawn_331 (by decide) ?_
              exact y_to (j_467 _ _ _ (by omega) (hv_311.resolve_left c_320) (hD_311.up (by omega))) ⟨rfl, rfl, rfl, rfl, rfl, rfl, rfl, rfl, rfl, rfl, rfl, trivial⟩ rfl
            · refine y_iconst (v := 0) C dL_drawn_323 (by decide) ?_
              refine y_goto (tgt := 329) C dL_drawn_324 (by decide) ?_
              refine y_istore (lv' := [(10, .int 0), (9, .int (nI (w_174 % 6))), (8, .int (nI (w_162 % (1 + (w_14 % 5))))), (7, .int (nI w_162)), (6, .int (nI w_156)), (0, .ref (q_ad K 300)), (1, .ref (q_ad K 0)), (2, .int (nI w_14)), (3, .int (nI (1 + (w_14 % 5)))), (4, .int (nI (w_130 % 45))), (5, .int (nI i_139))]) C dL_drawn_329 (by decide) rfl ?_
              refine y_goto (tgt := 467) C dL_drawn_331 (by decide) ?_
              exact y_to (j_467 _ _ _ (by omega) (by decide) (hD_311.up (by omega))) ⟨rfl, rfl, rfl, rfl, rfl, rfl, rfl, rfl, rfl, rfl, rfl, trivial⟩ rfl
          have hk14 : w_156 % 14 < 14 := Nat.mod_lt _ (by decide)
          generalize w_156 % 14 = k14 at hk14 ⊢
          rcases (show k14 = 0 ∨ k14 = 1 ∨ k14 = 2 ∨ k14 = 3 ∨ k14 = 4 ∨ k14 = 5 ∨ k14 = 6 ∨ k14 = 7 ∨ k14 = 8 ∨ k14 = 9 ∨ k14 = 10 ∨ k14 = 11 ∨ k14 = 12 ∨ k14 = 13 by omega) with rfl | rfl | rfl | rfl | rfl | rfl | rfl | rfl | rfl | rfl | rfl | rfl | rfl | rfl
          · refine y_tabin (off := 67) (tgt := 252) C dL_drawn_185 (by decide) (by decide) rfl (by decide) ?_
            exact j_252
          · refine y_tabin (off := 67) (tgt := 252) C dL_drawn_185 (by decide) (by decide) rfl (by decide) ?_
            exact j_252
          · refine y_tabin (off := 67) (tgt := 252) C dL_drawn_185 (by decide) (by decide) rfl (by decide) ?_
            exact j_252
          · refine y_tabin (off := 67) (tgt := 252) C dL_drawn_185 (by decide) (by decide) rfl (by decide) ?_
            exact j_252
          · refine y_tabin (off := 67) (tgt := 252) C dL_drawn_185 (by decide) (by decide) rfl (by decide) ?_
            exact j_252
          · refine y_tabin (off := 95) (tgt := 280) C dL_drawn_185 (by decide) (by decide) rfl (by decide) ?_
            exact j_280
          · refine y_tabin (off := 95) (tgt := 280) C dL_drawn_185 (by decide) (by decide) rfl (by decide) ?_
            exact j_280
          · refine y_tabin (off := 121) (tgt := 306) C dL_drawn_185 (by decide) (by decide) rfl (by decide) ?_
            exact j_306
          · refine y_tabin (off := 121) (tgt := 306) C dL_drawn_185 (by decide) (by decide) rfl (by decide) ?_
            exact j_306
          · refine y_tabin (off := 121) (tgt := 306) C dL_drawn_185 (by decide) (by decide) rfl (by decide) ?_
            exact j_306
          · refine y_tabin (off := 149) (tgt := 334) C dL_drawn_185 (by decide) (by decide) rfl (by decide) ?_
            refine y_aload_n C dL_drawn_334 rfl rfl ?_
            refine y_iload C dL_drawn_335 rfl ?_
            refine y_iload C dL_drawn_337 rfl ?_
            refine y_iload C dL_drawn_339 rfl ?_
            refine y_bipush (v := 6) C dL_drawn_341 (by decide) ?_
            obtain ⟨w_343, hw_343, ew_343⟩ := iusN w_162 (by omega) 6
            refine y_iushr (v := nI w_343) C ew_343 dL_drawn_343 ?_
            refine y_bipush (v := 6) C dL_drawn_344 (by decide) ?_
            refine y_iremN (a := w_343) (b := 6) C dL_drawn_346 rfl rfl (by omega) (by omega) (by omega) ?_
            obtain ⟨v_347, T_347, hc_347, hD_347, hv_347⟩ := b_inq l hst hT (m := (w_162 % (1 + (w_14 % 5)))) (g := (w_174 % 6)) (o := (w_343 % 6)) (Nat.mod_lt _ (by omega)) (Nat.mod_lt _ (by decide)) (Nat.mod_lt _ (by decide))
            refine y_sw (rest := []) C hc_347 mwL_inquire mlL_139 rfl rfl rfl ⟨by decide, by decide⟩ (by omega) (Nat.le_of_ble_eq_true rfl) dL_drawn_347 ?_
            refine y_istore (lv' := [(10, .int v_347), (9, .int (nI (w_174 % 6))), (8, .int (nI (w_162 % (1 + (w_14 % 5))))), (7, .int (nI w_162)), (6, .int (nI w_156)), (0, .ref (q_ad K 300)), (1, .ref (q_ad K 0)), (2, .int (nI w_14)), (3, .int (nI (1 + (w_14 % 5)))), (4, .int (nI (w_130 % 45))), (5, .int (nI i_139))]) C dL_drawn_350 (by decide) rfl ?_
            refine y_iload C dL_drawn_352 rfl ?_
            refine y_bipush (v := (-3)) C dL_drawn_354 (by decide) ?_
            refine y_icmp_ne (tgt := 363) C dL_drawn_356 (by decide)  (fun c_356 => ?_) (fun c_356 => ?_)
            · refine y_iload C dL_drawn_363 rfl ?_
              refine y_istore (lv' := [(10, .int v_347), (9, .int (nI (w_174 % 6))), (8, .int (nI (w_162 % (1 + (w_14 % 5))))), (7, .int (nI w_162)), (6, .int (nI w_156)), (0, .ref (q_ad K 300)), (1, .ref (q_ad K 0)), (2, .int (nI w_14)), (3, .int (nI (1 + (w_14 % 5)))), (4, .int (nI (w_130 % 45))), (5, .int (nI i_139))]) C dL_drawn_365 (by decide) rfl ?_
              refine y_goto (tgt := 467) C dL_drawn_367 (by decide) ?_
              exact y_to (j_467 _ _ _ (by omega) (hv_347.resolve_left c_356) (hD_347.up (by omega))) ⟨rfl, rfl, rfl, rfl, rfl, rfl, rfl, rfl, rfl, rfl, rfl, trivial⟩ rfl
            · refine y_iconst (v := 0) C dL_drawn_359 (by decide) ?_
              refine y_goto (tgt := 365) C dL_drawn_360 (by decide) ?_
              refine y_istore (lv' := [(10, .int 0), (9, .int (nI (w_174 % 6))), (8, .int (nI (w_162 % (1 + (w_14 % 5))))), (7, .int (nI w_162)), (6, .int (nI w_156)), (0, .ref (q_ad K 300)), (1, .ref (q_ad K 0)), (2, .int (nI w_14)), (3, .int (nI (1 + (w_14 % 5)))), (4, .int (nI (w_130 % 45))), (5, .int (nI i_139))]) C dL_drawn_365 (by decide) rfl ?_
              refine y_goto (tgt := 467) C dL_drawn_367 (by decide) ?_
              exact y_to (j_467 _ _ _ (by omega) (by decide) (hD_347.up (by omega))) ⟨rfl, rfl, rfl, rfl, rfl, rfl, rfl, rfl, rfl, rfl, rfl, trivial⟩ rfl
          · refine y_tabin (off := 185) (tgt := 370) C dL_drawn_185 (by decide) (by decide) rfl (by decide) ?_
            refine y_iload C dL_drawn_370 rfl ?_
            refine y_bipush (v := 6) C dL_drawn_372 (by decide) ?_
            obtain ⟨w_374, hw_374, ew_374⟩ := iusN w_162 (by omega) 6
            refine y_iushr (v := nI w_374) C ew_374 dL_drawn_374 ?_
            refine y_iconst (v := 3) C dL_drawn_375 (by decide) ?_
            refine y_iremN (a := w_374) (b := 3) C dL_drawn_376 rfl rfl (by omega) (by omega) (by omega) ?_
            refine y_if_neN (a := w_374 % 3) (tgt := 401) C dL_drawn_377 (by decide) rfl (by omega) (fun c_377 => ?_) (fun c_377 => ?_)
            · refine y_iconst (v := 0) C dL_drawn_401 (by decide) ?_
              refine y_istore (lv' := [(10, .int 0), (9, .int (nI (w_174 % 6))), (8, .int (nI (w_162 % (1 + (w_14 % 5))))), (7, .int (nI w_162)), (6, .int (nI w_156)), (0, .ref (q_ad K 300)), (1, .ref (q_ad K 0)), (2, .int (nI w_14)), (3, .int (nI (1 + (w_14 % 5)))), (4, .int (nI (w_130 % 45))), (5, .int (nI i_139))]) C dL_drawn_402 (by decide) rfl ?_
              refine y_goto (tgt := 467) C dL_drawn_404 (by decide) ?_
              exact y_to (j_467 _ _ _ (by omega) (by decide) (hT.up (by omega))) ⟨rfl, rfl, rfl, rfl, rfl, rfl, rfl, rfl, rfl, rfl, rfl, trivial⟩ rfl
            · refine y_aload_n C dL_drawn_380 rfl rfl ?_
              obtain ⟨N_T, i_T, z_T, hI_T, _⟩ := id hT
              refine y_ci (rest := []) C (c_X6_isAwake l T hI_T.bool) myX6_isAwake mlL_141 rfl rfl rfl ⟨by decide, by decide⟩ (by omega) (Nat.le_of_ble_eq_true rfl) dL_drawn_381 ?_
              refine y_if_eq (tgt := 394) C dL_drawn_384 (by decide)  (fun c_384 => ?_) (fun c_384 => ?_)
              · refine y_aload_n C dL_drawn_394 rfl rfl ?_
                obtain ⟨v_395, T_395, hc_395, hD_395, hv_395⟩ := b_wake l hst hT c_384
                refine y_sw (rest := []) C hc_395 mwL_wake mlL_147 rfl rfl rfl ⟨by decide, by decide⟩ (by omega) (Nat.le_of_ble_eq_true rfl) dL_drawn_395 ?_
                refine y_goto (tgt := 402) C dL_drawn_398 (by decide) ?_
                refine y_istore (lv' := [(10, .int v_395), (9, .int (nI (w_174 % 6))), (8, .int (nI (w_162 % (1 + (w_14 % 5))))), (7, .int (nI w_162)), (6, .int (nI w_156)), (0, .ref (q_ad K 300)), (1, .ref (q_ad K 0)), (2, .int (nI w_14)), (3, .int (nI (1 + (w_14 % 5)))), (4, .int (nI (w_130 % 45))), (5, .int (nI i_139))]) C dL_drawn_402 (by decide) rfl ?_
                refine y_goto (tgt := 467) C dL_drawn_404 (by decide) ?_
                exact y_to (j_467 _ _ _ (by omega) hv_395 (hD_395.up (by omega))) ⟨rfl, rfl, rfl, rfl, rfl, rfl, rfl, rfl, rfl, rfl, rfl, trivial⟩ rfl
              · refine y_aload_n C dL_drawn_387 rfl rfl ?_
                obtain ⟨v_388, T_388, hc_388, hD_388, hv_388⟩ := b_faint l hst hT c_384
                refine y_sw (rest := []) C hc_388 mwL_faint mlL_145 rfl rfl rfl ⟨by decide, by decide⟩ (by omega) (Nat.le_of_ble_eq_true rfl) dL_drawn_388 ?_
                refine y_goto (tgt := 402) C dL_drawn_391 (by decide) ?_
                refine y_istore (lv' := [(10, .int v_388), (9, .int (nI (w_174 % 6))), (8, .int (nI (w_162 % (1 + (w_14 % 5))))), (7, .int (nI w_162)), (6, .int (nI w_156)), (0, .ref (q_ad K 300)), (1, .ref (q_ad K 0)), (2, .int (nI w_14)), (3, .int (nI (1 + (w_14 % 5)))), (4, .int (nI (w_130 % 45))), (5, .int (nI i_139))]) C dL_drawn_402 (by decide) rfl ?_
                refine y_goto (tgt := 467) C dL_drawn_404 (by decide) ?_
                exact y_to (j_467 _ _ _ (by omega) hv_388 (hD_388.up (by omega))) ⟨rfl, rfl, rfl, rfl, rfl, rfl, rfl, rfl, rfl, rfl, rfl, trivial⟩ rfl
          · refine y_tabin (off := 222) (tgt := 407) C dL_drawn_185 (by decide) (by decide) rfl (by decide) ?_
            refine y_iload C dL_drawn_407 rfl ?_
            refine y_bipush (v := 6) C dL_drawn_409 (by decide) ?_
            obtain ⟨w_411, hw_411, ew_411⟩ := iusN w_162 (by omega) 6
            refine y_iushr (v := nI w_411) C ew_411 dL_drawn_411 ?_
            refine y_iconst (v := 3) C dL_drawn_412 (by decide) ?_
            refine y_iremN (a := w_411) (b := 3) C dL_drawn_413 rfl rfl (by omega) (by omega) (by omega) ?_
            refine y_if_leN (a := w_411 % 3) (tgt := 421) C dL_drawn_414 (by decide) rfl (by omega) (fun c_414 => ?_) (fun c_414 => ?_)
            · refine y_aload_n C dL_drawn_421 rfl rfl ?_
              refine y_iload C dL_drawn_422 rfl ?_
              refine y_iconst (v := 1) C dL_drawn_424 (by decide) ?_
              obtain ⟨N_T, i_T, z_T, hI_T, _⟩ := id hT
              refine y_sw (rest := []) C (k_guildOf l hst T (1 + w_14 % 5) hI_T.hM (w_174 % 6) 1 (by omega) (by decide)) mwL_guildOf mlL_149 rfl rfl rfl ⟨by decide, by decide⟩ (by omega) (Nat.le_of_ble_eq_true rfl) dL_drawn_425 ?_
              refine y_iconst (v := 1) C dL_drawn_428 (by decide) ?_
              refine y_icmp_ne (tgt := 441) C dL_drawn_429 (by decide)  (fun c_429 => ?_) (fun c_429 => ?_)
              · refine y_aload_n C dL_drawn_441 rfl rfl ?_
                refine y_iload C dL_drawn_442 rfl ?_
                obtain ⟨v_444, T_444, hc_444, hD_444, hv_444⟩ := b_rouse l hst hT (g := (w_174 % 6)) (Nat.mod_lt _ (by decide)) (Decidable.byContradiction (fun q => c_429 (if_neg q)))
                refine y_sw (rest := []) C hc_444 mwL_rouse mlL_153 rfl rfl rfl ⟨by decide, by decide⟩ (by omega) (Nat.le_of_ble_eq_true rfl) dL_drawn_444 ?_
                refine y_istore (lv' := [(10, .int v_444), (9, .int (nI (w_174 % 6))), (8, .int (nI (w_162 % (1 + (w_14 % 5))))), (7, .int (nI w_162)), (6, .int (nI w_156)), (0, .ref (q_ad K 300)), (1, .ref (q_ad K 0)), (2, .int (nI w_14)), (3, .int (nI (1 + (w_14 % 5)))), (4, .int (nI (w_130 % 45))), (5, .int (nI i_139))]) C dL_drawn_447 (by decide) rfl ?_
                refine y_goto (tgt := 467) C dL_drawn_449 (by decide) ?_
                exact y_to (j_467 _ _ _ (by omega) hv_444 (hD_444.up (by omega))) ⟨rfl, rfl, rfl, rfl, rfl, rfl, rfl, rfl, rfl, rfl, rfl, trivial⟩ rfl
              · refine y_aload_n C dL_drawn_432 rfl rfl ?_
                refine y_iload C dL_drawn_433 rfl ?_
                obtain ⟨v_435, T_435, hc_435, hD_435, hv_435⟩ := b_sleep l hst hT (g := (w_174 % 6)) (Nat.mod_lt _ (by decide)) (fun q => absurd (show (if T 9 (w_174 % 6) = 0 then (0 : Int32) else 1) = 1 from c_429) (by rw [if_pos q]; decide))
                refine y_sw (rest := []) C hc_435 mwL_sleep mlL_151 rfl rfl rfl ⟨by decide, by decide⟩ (by omega) (Nat.le_of_ble_eq_true rfl) dL_drawn_435 ?_
                refine y_goto (tgt := 447) C dL_drawn_438 (by decide) ?_
                refine y_istore (lv' := [(10, .int v_435), (9, .int (nI (w_174 % 6))), (8, .int (nI (w_162 % (1 + (w_14 % 5))))), (7, .int (nI w_162)), (6, .int (nI w_156)), (0, .ref (q_ad K 300)), (1, .ref (q_ad K 0)), (2, .int (nI w_14)), (3, .int (nI (1 + (w_14 % 5)))), (4, .int (nI (w_130 % 45))), (5, .int (nI i_139))]) C dL_drawn_447 (by decide) rfl ?_
                refine y_goto (tgt := 467) C dL_drawn_449 (by decide) ?_
                exact y_to (j_467 _ _ _ (by omega) hv_435 (hD_435.up (by omega))) ⟨rfl, rfl, rfl, rfl, rfl, rfl, rfl, rfl, rfl, rfl, rfl, trivial⟩ rfl
            · refine y_iconst (v := 0) C dL_drawn_417 (by decide) ?_
              refine y_goto (tgt := 447) C dL_drawn_418 (by decide) ?_
              refine y_istore (lv' := [(10, .int 0), (9, .int (nI (w_174 % 6))), (8, .int (nI (w_162 % (1 + (w_14 % 5))))), (7, .int (nI w_162)), (6, .int (nI w_156)), (0, .ref (q_ad K 300)), (1, .ref (q_ad K 0)), (2, .int (nI w_14)), (3, .int (nI (1 + (w_14 % 5)))), (4, .int (nI (w_130 % 45))), (5, .int (nI i_139))]) C dL_drawn_447 (by decide) rfl ?_
              refine y_goto (tgt := 467) C dL_drawn_449 (by decide) ?_
              exact y_to (j_467 _ _ _ (by omega) (by decide) (hT.up (by omega))) ⟨rfl, rfl, rfl, rfl, rfl, rfl, rfl, rfl, rfl, rfl, rfl, trivial⟩ rfl
          · refine y_tabout (tgt := 452) C dL_drawn_185 (by decide) (by decide) ?_
            refine y_aload_n C dL_drawn_452 rfl rfl ?_
            refine y_iconst (v := 1) C dL_drawn_453 (by decide) ?_
            refine y_iload C dL_drawn_454 rfl ?_
            refine y_bipush (v := 6) C dL_drawn_456 (by decide) ?_
            obtain ⟨w_458, hw_458, ew_458⟩ := iusN w_162 (by omega) 6
            refine y_iushr (v := nI w_458) C ew_458 dL_drawn_458 ?_
            refine y_iconst (v := 5) C dL_drawn_459 (by decide) ?_
            refine y_iremN (a := w_458) (b := 5) C dL_drawn_460 rfl rfl (by omega) (by omega) (by omega) ?_
            refine y_iaddN (a := 1) (b := w_458 % 5) C dL_drawn_461 rfl rfl ?_
            obtain ⟨v_462, T_462, hc_462, hD_462, hv_462⟩ := b_pass l hst hT (x := (1 + (w_458 % 5))) (by omega) (by omega)
            refine y_sw (rest := []) C hc_462 mwL_pass mlL_155 rfl rfl rfl ⟨by decide, by decide⟩ (by omega) (Nat.le_of_ble_eq_true rfl) dL_drawn_462 ?_
            refine y_istore (lv' := [(10, .int v_462), (9, .int (nI (w_174 % 6))), (8, .int (nI (w_162 % (1 + (w_14 % 5))))), (7, .int (nI w_162)), (6, .int (nI w_156)), (0, .ref (q_ad K 300)), (1, .ref (q_ad K 0)), (2, .int (nI w_14)), (3, .int (nI (1 + (w_14 % 5)))), (4, .int (nI (w_130 % 45))), (5, .int (nI i_139))]) C dL_drawn_465 (by decide) rfl ?_
            exact y_to (j_467 _ _ _ (by omega) hv_462 (hD_462.up (by omega))) ⟨rfl, rfl, rfl, rfl, rfl, rfl, rfl, rfl, rfl, rfl, rfl, trivial⟩ rfl
      exact y_to (loop_139 ((w_130 % 45) - 0) 0 _ _ (by omega) (by omega) hs_25.1) ⟨rfl, rfl, rfl, rfl, rfl, rfl, trivial⟩ rfl
    | succ n_25 ih_25 =>
      intro i_25 u_25 T_25 hi_25 hu_25 hs_25
      refine y_iload C dL_drawn_25 rfl ?_
      refine y_iload_n C dL_drawn_27 rfl rfl ?_
      refine y_icmp_geN (a := i_25) (b := 1 + (w_14 % 5)) (tgt := 128) C dL_drawn_28 (by decide) rfl rfl (by omega) (by omega) (fun c_28 => absurd c_28 (by omega)) (fun c_28 => ?_)
      refine y_aload_n C dL_drawn_31 rfl rfl ?_
      obtain ⟨T_32, hc_32, hs_32⟩ := c_matter l hst hs_25 (by omega)
      refine y_sw (rest := []) C hc_32 mwL_matter mlL_126 rfl rfl rfl ⟨by decide, by decide⟩ (by omega) (Nat.le_of_ble_eq_true rfl) dL_drawn_32 ?_
      refine y_iload C dL_drawn_35 rfl ?_
      refine y_icmp_eqN (a := i_25) (b := i_25) (tgt := 42) C dL_drawn_37 (by decide) rfl rfl (by omega) (by omega) (fun c_37 => ?_) (fun c_37 => absurd rfl c_37)
      refine y_aload_n C dL_drawn_42 rfl rfl ?_
      refine y_iconst (v := 1) C dL_drawn_43 (by decide) ?_
      refine y_iload C dL_drawn_44 rfl ?_
      refine y_iaddN (a := 1) (b := i_25) C dL_drawn_46 rfl rfl ?_
      refine y_sS (rest := []) C hKS (l_cell l T_32 n xs hn (1 + i_25) (by omega)) msL_cell rfl mlL_122 rfl rfl rfl ⟨by decide, by decide⟩ (by omega) (Nat.le_of_ble_eq_true rfl) dL_drawn_47 ?_
      refine y_iconst (v := 1) C dL_drawn_50 (by decide) ?_
      obtain ⟨w_51, hw_51, ew_51⟩ := ius1 (uCell n xs (1 + i_25))
      refine y_iushr (v := nI w_51) C ew_51 dL_drawn_51 ?_
      refine y_istore (lv' := [(5, .int (nI w_51)), (0, .ref (q_ad K 300)), (1, .ref (q_ad K 0)), (2, .int (nI w_14)), (3, .int (nI (1 + (w_14 % 5)))), (4, .int (nI i_25))]) C dL_drawn_52 (by decide) rfl ?_
      refine y_iconst (v := 0) C dL_drawn_54 (by decide) ?_
      refine y_istore (lv' := [(6, .int 0), (5, .int (nI w_51)), (0, .ref (q_ad K 300)), (1, .ref (q_ad K 0)), (2, .int (nI w_14)), (3, .int (nI (1 + (w_14 % 5)))), (4, .int (nI i_25))]) C dL_drawn_55 (by decide) rfl ?_
      have loop_57 : ∀ (n_57 i_57 u_57 : Nat) (T_57 : q_St), i_57 + n_57 = 6 → u_57 + n_57 * 6 ≤ u_25 + 6 + 6 * 6 → pSt1 i_25 i_57 T_57 → q_Y l K u_57 [] q_Tr 57 [(0, .ref (q_ad K 300)), (1, .ref (q_ad K 0)), (2, .int (nI w_14)), (3, .int (nI (1 + (w_14 % 5)))), (4, .int (nI i_25)), (5, .int (nI w_51)), (6, .int (nI i_57))] [] T_57 := by
        intro n_57
        induction n_57 with
        | zero =>
          intro i_57 u_57 T_57 hi_57 hu_57 hs_57
          have e_57 : i_57 = 6 := by omega
          refine y_iload C dL_drawn_57 rfl ?_
          refine y_bipush (v := 6) C dL_drawn_59 (by decide) ?_
          refine y_icmp_geN (a := i_57) (b := 6) (tgt := 122) C dL_drawn_61 (by decide) rfl rfl (by omega) (by omega) (fun c_61 => ?_) (fun c_61 => absurd c_61 (by omega))
          refine y_iinc (v := nI (i_25 + 1)) (lv' := [(4, .int (nI (i_25 + 1))), (0, .ref (q_ad K 300)), (1, .ref (q_ad K 0)), (2, .int (nI w_14)), (3, .int (nI (1 + (w_14 % 5)))), (5, .int (nI w_51)), (6, .int (nI i_57))]) C dL_drawn_122 rfl (nI_add _ _) (by decide) rfl ?_
          refine y_goto (tgt := 25) C dL_drawn_125 (by decide) ?_
          exact y_to (ih_25 (i_25 + 1) _ _ (by omega) (by omega) hs_57.1) ⟨rfl, rfl, rfl, rfl, rfl, trivial⟩ rfl
        | succ n_57 ih_57 =>
          intro i_57 u_57 T_57 hi_57 hu_57 hs_57
          refine y_iload C dL_drawn_57 rfl ?_
          refine y_bipush (v := 6) C dL_drawn_59 (by decide) ?_
          refine y_icmp_geN (a := i_57) (b := 6) (tgt := 122) C dL_drawn_61 (by decide) rfl rfl (by omega) (by omega) (fun c_61 => absurd c_61 (by omega)) (fun c_61 => ?_)
          refine y_iload C dL_drawn_64 rfl ?_
          refine y_iconst (v := 4) C dL_drawn_66 (by decide) ?_
          refine y_iload C dL_drawn_67 rfl ?_
          refine y_imulN (a := 4) (b := i_57) C dL_drawn_69 rfl rfl ?_
          obtain ⟨w_70, hw_70, ew_70⟩ := iusN w_51 (by omega) (nI (4 * i_57))
          refine y_iushr (v := nI w_70) C ew_70 dL_drawn_70 ?_
          refine y_iconst (v := 3) C dL_drawn_71 (by decide) ?_
          refine y_iremN (a := w_70) (b := 3) C dL_drawn_72 rfl rfl (by omega) (by omega) (by omega) ?_
          have j_73 : ∀ v : Int32, (-50 ≤ v ∧ v ≤ 50) → q_Y l K u_57 [] q_Tr 93 [(0, .ref (q_ad K 300)), (1, .ref (q_ad K 0)), (2, .int (nI w_14)), (3, .int (nI (1 + (w_14 % 5)))), (4, .int (nI i_25)), (5, .int (nI w_51)), (6, .int (nI i_57))] [.int v] T_57 := by
            intro v hv
            refine y_istore (lv' := [(7, .int v), (0, .ref (q_ad K 300)), (1, .ref (q_ad K 0)), (2, .int (nI w_14)), (3, .int (nI (1 + (w_14 % 5)))), (4, .int (nI i_25)), (5, .int (nI w_51)), (6, .int (nI i_57))]) C dL_drawn_93 (by decide) rfl ?_
            refine y_iload C dL_drawn_95 rfl ?_
            refine y_if_eq (tgt := 116) C dL_drawn_97 (by decide)  (fun c_97 => ?_) (fun c_97 => ?_)
            · refine y_iinc (v := nI (i_57 + 1)) (lv' := [(6, .int (nI (i_57 + 1))), (7, .int v), (0, .ref (q_ad K 300)), (1, .ref (q_ad K 0)), (2, .int (nI w_14)), (3, .int (nI (1 + (w_14 % 5)))), (4, .int (nI i_25)), (5, .int (nI w_51))]) C dL_drawn_116 rfl (nI_add _ _) (by decide) rfl ?_
              refine y_goto (tgt := 57) C dL_drawn_119 (by decide) ?_
              exact y_to (ih_57 (i_57 + 1) _ _ (by omega) (by omega) hs_57.skip) ⟨rfl, rfl, rfl, rfl, rfl, rfl, rfl, trivial⟩ rfl
            · refine y_aload_n C dL_drawn_100 rfl rfl ?_
              refine y_iload C dL_drawn_101 rfl ?_
              refine y_iload C dL_drawn_103 rfl ?_
              refine y_iload C dL_drawn_105 rfl ?_
              obtain ⟨v_107, T_107, hc_107, hs_107, hv_107⟩ := c_set l hst hs_57 (by omega) hv c_97
              refine y_sw (rest := []) C hc_107 mwL_set mlL_128 rfl rfl rfl ⟨by decide, by decide⟩ (by omega) (Nat.le_of_ble_eq_true rfl) dL_drawn_107 ?_
              refine y_iconst (v := 1) C dL_drawn_110 (by decide) ?_
              refine y_icmp_ge (tgt := 116) C dL_drawn_111 (by decide)  (fun c_111 => ?_) (fun c_111 => absurd c_111 hv_107)
              refine y_iinc (v := nI (i_57 + 1)) (lv' := [(6, .int (nI (i_57 + 1))), (7, .int v), (0, .ref (q_ad K 300)), (1, .ref (q_ad K 0)), (2, .int (nI w_14)), (3, .int (nI (1 + (w_14 % 5)))), (4, .int (nI i_25)), (5, .int (nI w_51))]) C dL_drawn_116 rfl (nI_add _ _) (by decide) rfl ?_
              refine y_goto (tgt := 57) C dL_drawn_119 (by decide) ?_
              exact y_to (ih_57 (i_57 + 1) _ _ (by omega) (by omega) hs_107) ⟨rfl, rfl, rfl, rfl, rfl, rfl, rfl, trivial⟩ rfl
          refine y_if_neN (a := w_70 % 3) (tgt := 80) C dL_drawn_73 (by decide) rfl (by omega) (fun c_73 => ?_) (fun c_73 => ?_)
          · refine y_iload C dL_drawn_80 rfl ?_
            refine y_iconst (v := 4) C dL_drawn_82 (by decide) ?_
            refine y_iload C dL_drawn_83 rfl ?_
            refine y_imulN (a := 4) (b := i_57) C dL_drawn_85 rfl rfl ?_
            obtain ⟨w_86, hw_86, ew_86⟩ := iusN w_51 (by omega) (nI (4 * i_57))
            refine y_iushr (v := nI w_86) C ew_86 dL_drawn_86 ?_
            refine y_bipush (v := 60) C dL_drawn_87 (by decide) ?_
            refine y_iremN (a := w_86) (b := 60) C dL_drawn_89 rfl rfl (by omega) (by omega) (by omega) ?_
            refine y_bipush (v := 30) C dL_drawn_90 (by decide) ?_
            refine y_isub C dL_drawn_92 ?_
            exact j_73 _ (am_rng _ (Nat.mod_lt _ (by decide)))
          · refine y_iconst (v := 0) C dL_drawn_76 (by decide) ?_
            refine y_goto (tgt := 93) C dL_drawn_77 (by decide) ?_
            exact j_73 _ ⟨by decide, by decide⟩
      exact y_to (loop_57 (6 - 0) 0 _ _ (by omega) (by omega) hs_32) ⟨rfl, rfl, rfl, rfl, rfl, rfl, rfl, trivial⟩ rfl
  exact y_to (loop_25 ((1 + w_14 % 5) - 0) 0 _ _ (by omega) (by omega) ⟨uS0_pDi, rfl, fun j _ => uS0_z (by decide) j, fun j _ => uS0_z (by decide) j⟩) ⟨rfl, rfl, rfl, rfl, rfl, trivial⟩ rfl
