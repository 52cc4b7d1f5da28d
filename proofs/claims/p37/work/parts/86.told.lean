
/-! told -/
set_option maxHeartbeats 4000000 in
theorem l_told (l : Launch) (hst : l.stackTraces = false) (S : q_St) (d M N : Nat) (hI : pI d M N S) : q_Fy l yL_told kL_told 10 61000 [.ref 0] S 1 (uTl S M) := by
  have hM8 := hI.M8
  refine q_FyA_of (maxL := 5) rfl (by decide +kernel) (fun ad => Nat.le_of_ble_eq_true rfl) rfl ?_
  intro K hA C hret
  have C : q_Cy K cL_told RL 10 5 61000 [] q_Tr := C
  show q_Y l K 0 [] q_Tr 0 [(0, .ref (q_ad K 0))] [] S
  refine y_iconst (v := 0) C dL_told_0 (by decide) ?_
  refine y_istore_n (lv' := [(1, .int 0), (0, .ref (q_ad K 0))]) C dL_told_1 rfl (by decide) rfl ?_
  have loop_2 : ∀ (n_2 i_2 u_2 : Nat), i_2 + n_2 = M → u_2 + n_2 * 7600 ≤ 0 + M * 7600 → q_Y l K u_2 ([]) q_Tr 2 [(0, .ref (q_ad K 0)), (1, .int (nI i_2))] [] (uTl S i_2) := by
    intro n_2
    induction n_2 with
    | zero =>
      intro i_2 u_2 hi_2 hu_2
      have e_2 : i_2 = M := by omega
      have hI_2 := hI.tl i_2
      refine y_iload_n C dL_told_2 rfl rfl ?_
      refine y_aload_n C dL_told_3 rfl rfl ?_
      refine y_iconst (v := 0) C dL_told_4 (by decide) ?_
      refine y_cx (rest := [.int (nI i_2)]) C (k_account l hst (uTl S i_2) M hI_2.hM 0 (by decide)) myX6_account mlL_157 rfl rfl rfl ⟨by decide, by decide⟩ (by omega) (Nat.le_of_ble_eq_true rfl) dL_told_5 ?_
      refine y_icmp_geN (a := i_2) (b := M) (tgt := 234) C dL_told_8 (by decide) rfl rfl (by omega) (by omega) (fun c_8 => ?_) (fun c_8 => absurd c_8 (by omega))
      refine y_aload_n C dL_told_234 rfl rfl ?_
      refine y_aload_n C dL_told_235 rfl rfl ?_
      refine y_iconst (v := 0) C dL_told_236 (by decide) ?_
      refine y_cx (rest := [.ref (q_ad K 0)]) C (k_account l hst (uTl S i_2) M hI_2.hM 0 (by decide)) myX6_account mlL_157 rfl rfl rfl ⟨by decide, by decide⟩ (by omega) (Nat.le_of_ble_eq_true rfl) dL_told_237 ?_
      refine y_sw (rest := []) C (b_lineM l hst hI_2) mwL_line mlL_246 rfl rfl rfl ⟨by decide, by decide⟩ (by omega) (Nat.le_of_ble_eq_true rfl) dL_told_240 ?_
      refine y_bipush (v := (-13)) C dL_told_243 (by decide) ?_
      refine y_icmp_ne (tgt := 252) C dL_told_245 (by decide) (fun h9 => absurd h9 (by decide)) (fun _ => ?_)
      refine y_iconst (v := 1) C dL_told_248 (by decide) ?_
      refine y_goto (tgt := 253) C dL_told_249 (by decide) ?_
      exact hret _ _ _ _ _ _ _ (by omega) dL_told_253 rfl (by rw [e_2])
    | succ n_2 ih_2 =>
      intro i_2 u_2 hi_2 hu_2
      have hI_2 := hI.tl i_2
      obtain ⟨hl1_2, hl2_2, hl3_2⟩ := jG_len hI_2 (show i_2 < 8 by omega) 6 (Nat.le_refl 6)
      have ha_2 := jG_asc hI_2 (show i_2 < 8 by omega) (Nat.le_refl 6)
      refine y_iload_n C dL_told_2 rfl rfl ?_
      refine y_aload_n C dL_told_3 rfl rfl ?_
      refine y_iconst (v := 0) C dL_told_4 (by decide) ?_
      refine y_cx (rest := [.int (nI i_2)]) C (k_account l hst (uTl S i_2) M hI_2.hM 0 (by decide)) myX6_account mlL_157 rfl rfl rfl ⟨by decide, by decide⟩ (by omega) (Nat.le_of_ble_eq_true rfl) dL_told_5 ?_
      refine y_icmp_geN (a := i_2) (b := M) (tgt := 234) C dL_told_8 (by decide) rfl rfl (by omega) (by omega) (fun c_8 => absurd c_8 (by omega)) (fun c_8 => ?_)
      refine y_sbnew C hA jw_kL mlL_220 (by omega) (by omega) (Nat.le_of_ble_eq_true rfl) dL_told_11 dL_told_14 dL_told_15 rfl (fun b_11 da_11 C => ?_)
      refine y_ldcT (i := 1) C rfl dL_told_18 ?_
      refine y_appT (xs := []) (ys := [35]) (rest := []) (fr := []) C hA 1 jX_nil jB0 (by decide) (by decide) (by decide) rfl (by simp only [List.length_append, List.length_cons, List.length_nil] <;> omega) mlL_223 (by omega) (by omega) (Nat.le_of_ble_eq_true rfl) dL_told_20 rfl (fun da_20 N_20 n_20 f_20 hX_20 hf_20 hn_20 hb_20 C => ?_)
      refine y_iload_n C dL_told_23 rfl rfl ?_
      refine y_appI00 (a := i_2) (xs := [] ++ [35]) (rest := []) (fr := []) C hA hX_20 hf_20 hn_20 hb_20 (by omega) (by simp only [List.length_append, List.length_cons, List.length_nil] <;> omega) mlL_226 (by omega) (by omega) (Nat.le_of_ble_eq_true rfl) dL_told_24 rfl (fun da_24 N_24 n_24 f_24 hX_24 hf_24 hn_24 hb_24 C => ?_)
      refine y_ldcT (i := 2) C rfl dL_told_27 ?_
      refine y_aload_n C dL_told_29 rfl rfl ?_
      refine y_iload_n C dL_told_30 rfl rfl ?_
      refine y_iconst (v := 0) C dL_told_31 (by decide) ?_
      refine y_sw (rest := [.ref (q_ad K (200 + 2)), .ref b_11]) C (k_of l hst (uTl S i_2) M hI_2.hM i_2 0 (by omega) (by decide)) mwL_of mlL_187 rfl rfl rfl ⟨by decide, by decide⟩ (by omega) (Nat.le_of_ble_eq_true rfl) dL_told_32 ?_
      obtain ⟨k_35, hk_35, ek_35⟩ := hI_2.h3 (m := i_2) (by omega)
      refine y_cj (i := 2) (As := [.int (nI k_35)]) (rest := [.ref b_11]) C (by decide) (q_Fi.cv (v' := nI (jch k_35)) (jch_e k_35 hk_35).1 (c_J0_charAt_2 l (uTl S i_2) k_35 hk_35)) myJ0_charAt_5068e rfl mlL_102 rfl (by rw [show uC_nM (uTl S i_2) i_2 0 = nI k_35 from ek_35]; rfl) rfl ⟨by omega, by decide⟩ (by omega) (Nat.le_of_ble_eq_true rfl) dL_told_35 ?_
      refine y_appC (c := jch k_35) (xs := [] ++ [35] ++ [nI (48 + i_2 % 10)]) (rest := []) (fr := []) C hA hX_24 hf_24 hn_24 hb_24 (jch_e k_35 hk_35).2.1 (by simp only [List.length_append, List.length_cons, List.length_nil] <;> omega) mlL_231 (by omega) (by omega) (Nat.le_of_ble_eq_true rfl) dL_told_38 rfl (fun da_38 N_38 n_38 f_38 hX_38 hf_38 hn_38 hb_38 C => ?_)
      refine y_tstr (xs := [] ++ [35] ++ [nI (48 + i_2 % 10)] ++ [nI (jch k_35)]) (rest := []) (fr := []) C hA hX_38 hf_38 hn_38 hb_38 (by simp only [List.length_append, List.length_cons, List.length_nil] <;> omega) mlL_234 (by omega) (by omega) (Nat.le_of_ble_eq_true rfl) dL_told_41 rfl (fun q_41 sd_41 g_41 hX_41 hg_41 C => ?_)
      refine y_tsel [0, 1] (by decide) (ex' := uS (q_cy K) q_41 sd_41 n_38 g_41 0 0 ++ ([])) C rfl rfl (fun C => ?_)
      have hH_44 : jX (jG (uTl S i_2) i_2 0) n_38 g_41 := by rw [← jH_eq (show i_2 < 10 by omega) hk_35 ek_35]; exact hX_41
      refine y_astore_n (lv' := [(2, .ref q_41), (0, .ref (q_ad K 0)), (1, .int (nI i_2))]) C dL_told_44 rfl (by decide) rfl ?_
      refine y_iconst (v := 0) C dL_told_45 (by decide) ?_
      refine y_istore_n (lv' := [(3, .int 0), (2, .ref q_41), (0, .ref (q_ad K 0)), (1, .int (nI i_2))]) C dL_told_46 rfl (by decide) rfl ?_
      have loop_47 : ∀ (n_47 i_47 u_47 : Nat) (q_47 sd_47 k_47 : Nat) (g_47 : Nat → Int32), i_47 + n_47 = 6 → u_47 + n_47 * 1130 ≤ u_2 + 6 + 102 + 101 + 101 + 6 + 101 + 102 + 6 * 1130 → jX (jG (uTl S i_2) i_2 i_47) k_47 g_47 → jB g_47 → q_Cy K cL_told RL 10 5 61000 (List.map (fun q : Nat × va_E => q.1) (uS (q_cy K) q_47 sd_47 k_47 g_47 0 0 ++ [])) q_Tr → q_Y l K u_47 (uS (q_cy K) q_47 sd_47 k_47 g_47 0 0 ++ ([])) q_Tr 47 [(0, .ref (q_ad K 0)), (1, .int (nI i_2)), (2, .ref q_47), (3, .int (nI i_47))] [] (uTl S i_2) := by
        intro n_47
        induction n_47 with
        | zero =>
          intro i_47 u_47 q_47 sd_47 k_47 g_47 hi_47 hu_47 hX_47 hg_47 C
          have e_47 : i_47 = 6 := by omega
          refine y_iload_n C dL_told_47 rfl rfl ?_
          refine y_bipush (v := 6) C dL_told_48 (by decide) ?_
          refine y_icmp_geN (a := i_47) (b := 6) (tgt := 148) C dL_told_50 (by decide) rfl rfl (by omega) (by omega) (fun c_50 => ?_) (fun c_50 => absurd c_50 (by omega))
          have hZ_148 : jX (jG (uTl S i_2) i_2 6) k_47 g_47 := e_47 ▸ hX_47
          refine y_aload_n C dL_told_148 rfl rfl ?_
          refine y_iload_n C dL_told_149 rfl rfl ?_
          refine y_sw (rest := []) C (b_line l hst hI_2 i_2 (by omega)) mwL_line mlL_246 rfl rfl rfl ⟨by decide, by decide⟩ (by omega) (Nat.le_of_ble_eq_true rfl) dL_told_150 ?_
          refine y_aload_n C dL_told_153 rfl rfl ?_
          refine y_gln (xs := jG (uTl S i_2) i_2 6) (rest := [.int (nI ((jG (uTl S i_2) i_2 6).length))]) (i := 0) (j := 1) C hZ_148 ha_2 rfl rfl mlL_97 rfl (by omega) (by omega) (Nat.le_of_ble_eq_true rfl) dL_told_154 ?_
          refine y_icmp_neN (a := (jG (uTl S i_2) i_2 6).length) (b := (jG (uTl S i_2) i_2 6).length) (tgt := 164) C dL_told_157 (by decide) rfl rfl (by omega) (by omega) (fun c_157 => absurd rfl c_157) (fun c_157 => ?_)
          refine y_iconst (v := 1) C dL_told_160 (by decide) ?_
          refine y_goto (tgt := 165) C dL_told_161 (by decide) ?_
          refine y_istore_n (lv' := [(3, .int 1), (0, .ref (q_ad K 0)), (1, .int (nI i_2)), (2, .ref q_47)]) C dL_told_165 rfl (by decide) rfl ?_
          refine y_iconst (v := 0) C dL_told_166 (by decide) ?_
          refine y_istore (lv' := [(4, .int 0), (3, .int 1), (0, .ref (q_ad K 0)), (1, .int (nI i_2)), (2, .ref q_47)]) C dL_told_167 (by decide) rfl ?_
          have loop_169 : ∀ (n_169 i_169 u_169 : Nat), i_169 + n_169 = (jG (uTl S i_2) i_2 6).length → u_169 + n_169 * 6 ≤ u_47 + 6 + ((jG (uTl S i_2) i_2 6).length) * 6 → q_Y l K u_169 (uS (q_cy K) q_47 sd_47 k_47 g_47 0 0 ++ ([])) q_Tr 169 [(0, .ref (q_ad K 0)), (1, .int (nI i_2)), (2, .ref q_47), (3, .int 1), (4, .int (nI i_169))] [] (uL_at (uTl S i_2) (uL_gs (uTl S i_2) i_2 6)) := by
            intro n_169
            induction n_169 with
            | zero =>
              intro i_169 u_169 hi_169 hu_169
              have e_169 : i_169 = (jG (uTl S i_2) i_2 6).length := by omega
              refine y_iload C dL_told_169 rfl ?_
              refine y_aload_n C dL_told_171 rfl rfl ?_
              refine y_gln (xs := jG (uTl S i_2) i_2 6) (rest := [.int (nI i_169)]) (i := 0) (j := 1) C hZ_148 ha_2 rfl rfl mlL_97 rfl (by omega) (by omega) (Nat.le_of_ble_eq_true rfl) dL_told_172 ?_
              refine y_icmp_geN (a := i_169) (b := (jG (uTl S i_2) i_2 6).length) (tgt := 209) C dL_told_175 (by decide) rfl rfl (by omega) (by omega) (fun c_175 => ?_) (fun c_175 => absurd c_175 (by omega))
              refine y_iload_n C dL_told_209 rfl rfl ?_
              refine y_if_eq (tgt := 226) C dL_told_210 (by decide) (fun h9 => absurd h9 (by decide)) (fun _ => ?_)
              refine y_aload_n C dL_told_213 rfl rfl ?_
              refine y_aload_n C dL_told_214 rfl rfl ?_
              refine y_gln (xs := jG (uTl S i_2) i_2 6) (rest := [.ref (q_ad K 0)]) (i := 0) (j := 1) C hZ_148 ha_2 rfl rfl mlL_97 rfl (by omega) (by omega) (Nat.le_of_ble_eq_true rfl) dL_told_215 ?_
              refine y_sw (rest := []) C (b_charN l hst hI_2 i_2 (by omega)) mwL_character mlL_248 rfl rfl rfl ⟨by decide, by decide⟩ (by omega) (Nat.le_of_ble_eq_true rfl) dL_told_218 ?_
              refine y_bipush (v := (-11)) C dL_told_221 (by decide) ?_
              refine y_icmp_eq (tgt := 228) C dL_told_223 (by decide) (fun _ => ?_) (fun h9 => absurd h9 (by decide))
              refine y_tsel [] (by decide) (ex' := []) C rfl rfl (fun C => ?_)
              refine y_iinc (v := nI (i_2 + 1)) (lv' := [(1, .int (nI (i_2 + 1))), (0, .ref (q_ad K 0)), (2, .ref q_47), (3, .int 1), (4, .int (nI i_169))]) C dL_told_228 rfl (nI_add _ _) (by decide) rfl ?_
              refine y_goto (tgt := 2) C dL_told_231 (by decide) ?_
              exact y_to (ih_2 (i_2 + 1) _ (by omega) (by omega)) ⟨rfl, rfl, trivial⟩ rfl
            | succ n_169 ih_169 =>
              intro i_169 u_169 hi_169 hu_169
              refine y_iload C dL_told_169 rfl ?_
              refine y_aload_n C dL_told_171 rfl rfl ?_
              refine y_gln (xs := jG (uTl S i_2) i_2 6) (rest := [.int (nI i_169)]) (i := 0) (j := 1) C hZ_148 ha_2 rfl rfl mlL_97 rfl (by omega) (by omega) (Nat.le_of_ble_eq_true rfl) dL_told_172 ?_
              refine y_icmp_geN (a := i_169) (b := (jG (uTl S i_2) i_2 6).length) (tgt := 209) C dL_told_175 (by decide) rfl rfl (by omega) (by omega) (fun c_175 => absurd c_175 (by omega)) (fun c_175 => ?_)
              refine y_iload_n C dL_told_178 rfl rfl ?_
              refine y_if_eq (tgt := 209) C dL_told_179 (by decide) (fun h9 => absurd h9 (by decide)) (fun _ => ?_)
              refine y_aload_n C dL_told_182 rfl rfl ?_
              refine y_iload C dL_told_183 rfl ?_
              refine y_sw (rest := []) C (b_char l hst hI_2 i_2 (by omega) i_169 (by omega)) mwL_character mlL_248 rfl rfl rfl ⟨by decide, by decide⟩ (by omega) (Nat.le_of_ble_eq_true rfl) dL_told_185 ?_
              refine y_aload_n C dL_told_188 rfl rfl ?_
              refine y_iload C dL_told_189 rfl ?_
              refine y_gch (xs := jG (uTl S i_2) i_2 6) (k := i_169) (rest := [.int ((jG (uTl S i_2) i_2 6).getD i_169 0)]) (i := 0) (j := 1) C hZ_148 ha_2 (by omega) rfl rfl mlL_102 rfl (by omega) (by omega) (Nat.le_of_ble_eq_true rfl) dL_told_191 ?_
              refine y_icmp_ne (tgt := 201) C dL_told_194 (by decide)  (fun c_194 => absurd rfl c_194) (fun c_194 => ?_)
              refine y_iconst (v := 1) C dL_told_197 (by decide) ?_
              refine y_goto (tgt := 202) C dL_told_198 (by decide) ?_
              refine y_istore_n (lv' := [(3, .int 1), (0, .ref (q_ad K 0)), (1, .int (nI i_2)), (2, .ref q_47), (4, .int (nI i_169))]) C dL_told_202 rfl (by decide) rfl ?_
              refine y_iinc (v := nI (i_169 + 1)) (lv' := [(4, .int (nI (i_169 + 1))), (3, .int 1), (0, .ref (q_ad K 0)), (1, .int (nI i_2)), (2, .ref q_47)]) C dL_told_203 rfl (nI_add _ _) (by decide) rfl ?_
              refine y_goto (tgt := 169) C dL_told_206 (by decide) ?_
              exact y_to (ih_169 (i_169 + 1) _ (by omega) (by omega)) ⟨rfl, rfl, rfl, rfl, rfl, trivial⟩ rfl
          exact y_to (loop_169 (((jG (uTl S i_2) i_2 6).length) - 0) 0 _ (by omega) (by omega)) ⟨rfl, rfl, rfl, rfl, rfl, trivial⟩ rfl
        | succ n_47 ih_47 =>
          intro i_47 u_47 q_47 sd_47 k_47 g_47 hi_47 hu_47 hX_47 hg_47 C
          obtain ⟨hm1_47, hm2_47, hm3_47⟩ := jG_len hI_2 (show i_2 < 8 by omega) i_47 (by omega)
          have hm4_47 := jI_len ((uTl S i_2) 5 (i_2 * 6 + i_47))
          refine y_iload_n C dL_told_47 rfl rfl ?_
          refine y_bipush (v := 6) C dL_told_48 (by decide) ?_
          refine y_icmp_geN (a := i_47) (b := 6) (tgt := 148) C dL_told_50 (by decide) rfl rfl (by omega) (by omega) (fun c_50 => absurd c_50 (by omega)) (fun c_50 => ?_)
          refine y_aload_n C dL_told_53 rfl rfl ?_
          refine y_iload_n C dL_told_54 rfl rfl ?_
          refine y_iload_n C dL_told_55 rfl rfl ?_
          refine y_sw (rest := []) C (k_amount l hst (uTl S i_2) M hI_2.hM i_2 i_47 (by omega) (by omega)) mwL_amount mlL_182 rfl rfl rfl ⟨by decide, by decide⟩ (by omega) (Nat.le_of_ble_eq_true rfl) dL_told_56 ?_
          refine y_istore (lv' := [(4, .int ((uTl S i_2) 5 (i_2 * 6 + i_47))), (0, .ref (q_ad K 0)), (1, .int (nI i_2)), (2, .ref q_47), (3, .int (nI i_47))]) C dL_told_59 (by decide) rfl ?_
          refine y_sbnew C hA jw_kL mlL_220 (by omega) (by omega) (Nat.le_of_ble_eq_true rfl) dL_told_61 dL_told_64 dL_told_65 rfl (fun b_61 da_61 C => ?_)
          refine y_aload_n C dL_told_68 rfl rfl ?_
          refine y_appS2 (xs := []) (ys := jG (uTl S i_2) i_2 i_47) (rest := []) (fr := []) C hA jX_nil jB0 (by decide) (by decide) hX_47 hg_47 (Or.inr (by simp only [List.length_append, List.length_cons, List.length_nil] <;> omega)) (by simp only [List.length_append, List.length_cons, List.length_nil] <;> omega) mlL_223 (by omega) (by omega) (Nat.le_of_ble_eq_true rfl) dL_told_69 rfl (fun da_69 N_69 n_69 f_69 hX_69 hf_69 hn_69 hb_69 C => ?_)
          refine y_iload C dL_told_72 rfl ?_
          refine y_if_ne (tgt := 82) C dL_told_74 (by decide)  (fun c_74 => ?_) (fun c_74 => ?_)
          · refine y_sbnew C hA jw_kL mlL_220 (by omega) (by omega) (Nat.le_of_ble_eq_true rfl) dL_told_82 dL_told_85 dL_told_86 rfl (fun b_82 da_82 C => ?_)
            refine y_ldcT (i := 4) C rfl dL_told_89 ?_
            refine y_appT (xs := []) (ys := [32]) (rest := [.ref b_61]) (fr := uB (q_cy K) b_61 da_69 N_69 f_69 n_69 ++ (uS (q_cy K) q_47 sd_47 k_47 g_47 0 0 ++ ([]))) C hA 4 jX_nil jB0 (by decide) (by decide) (by decide) rfl (by simp only [List.length_append, List.length_cons, List.length_nil] <;> omega) mlL_223 (by omega) (by omega) (Nat.le_of_ble_eq_true rfl) dL_told_91 rfl (fun da_91 N_91 n_91 f_91 hX_91 hf_91 hn_91 hb_91 C => ?_)
            refine y_iload_n C dL_told_94 rfl rfl ?_
            refine y_appI00 (a := i_47) (xs := [] ++ [32]) (rest := [.ref b_61]) (fr := uB (q_cy K) b_61 da_69 N_69 f_69 n_69 ++ (uS (q_cy K) q_47 sd_47 k_47 g_47 0 0 ++ ([]))) C hA hX_91 hf_91 hn_91 hb_91 (by omega) (by simp only [List.length_append, List.length_cons, List.length_nil] <;> omega) mlL_226 (by omega) (by omega) (Nat.le_of_ble_eq_true rfl) dL_told_95 rfl (fun da_95 N_95 n_95 f_95 hX_95 hf_95 hn_95 hb_95 C => ?_)
            refine y_iload C dL_told_98 rfl ?_
            refine y_if_le (tgt := 108) C dL_told_100 (by decide)  (fun c_100 => ?_) (fun c_100 => ?_)
            · refine y_ldcT (i := 3) C rfl dL_told_108 ?_
              refine y_appT (xs := [] ++ [32] ++ [nI (48 + i_47 % 10)]) (ys := []) (rest := [.ref b_61]) (fr := uB (q_cy K) b_61 da_69 N_69 f_69 n_69 ++ (uS (q_cy K) q_47 sd_47 k_47 g_47 0 0 ++ ([]))) C hA 3 hX_95 hf_95 hn_95 hb_95 (by decide) rfl (by simp only [List.length_append, List.length_cons, List.length_nil] <;> omega) mlL_223 (by omega) (by omega) (Nat.le_of_ble_eq_true rfl) dL_told_110 rfl (fun da_110 N_110 n_110 f_110 hX_110 hf_110 hn_110 hb_110 C => ?_)
              have hr_115 := jrng (hI_2.c (m := i_2) (g := i_47) (by omega) (by omega)).2.2.1.1 (hI_2.c (m := i_2) (g := i_47) (by omega) (by omega)).2.2.1.2
              refine y_iload C dL_told_113 rfl ?_
              refine y_appI (x := (uTl S i_2) 5 (i_2 * 6 + i_47)) (xs := [] ++ [32] ++ [nI (48 + i_47 % 10)] ++ []) (rest := [.ref b_61]) (fr := uB (q_cy K) b_61 da_69 N_69 f_69 n_69 ++ (uS (q_cy K) q_47 sd_47 k_47 g_47 0 0 ++ ([]))) C hA hr_115.1 hr_115.2 hX_110 hf_110 hn_110 hb_110 (by simp only [List.length_append, List.length_cons, List.length_nil] <;> omega) mlL_226 (by omega) (by omega) (Nat.le_of_ble_eq_true rfl) dL_told_115 rfl (fun da_115 N_115 n_115 f_115 hX_115 hf_115 hn_115 hb_115 C => ?_)
              refine y_ldcT (i := 6) C rfl dL_told_118 ?_
              refine y_aload_n C dL_told_120 rfl rfl ?_
              refine y_iload_n C dL_told_121 rfl rfl ?_
              refine y_iload_n C dL_told_122 rfl rfl ?_
              refine y_sw (rest := [.ref (q_ad K (200 + 6)), .ref b_82, .ref b_61]) C (k_answer l hst (uTl S i_2) M hI_2.hM i_2 i_47 (by omega) (by omega)) mwL_answer mlL_160 rfl rfl rfl ⟨by decide, by decide⟩ (by omega) (Nat.le_of_ble_eq_true rfl) dL_told_123 ?_
              obtain ⟨k_126, hk_126, ek_126⟩ := hI_2.an5 (m := i_2) (g := i_47) (by omega) (by omega)
              have ep_126 : pAn (uTl S i_2) i_2 i_47 = nI k_126 := by unfold pAn; rw [if_pos c_74]; exact ek_126
              refine y_cj (i := 6) (As := [.int (nI k_126)]) (rest := [.ref b_82, .ref b_61]) C (by decide) (q_Fi.cv (v' := nI (jca k_126)) (jca_e k_126 hk_126).1 (c_J0_charAt_6 l (uTl S i_2) k_126 hk_126)) myJ0_charAt_5068e rfl mlL_102 rfl (by rw [ep_126]; rfl) rfl ⟨by omega, by decide⟩ (by omega) (Nat.le_of_ble_eq_true rfl) dL_told_126 ?_
              refine y_appC (c := jca k_126) (xs := [] ++ [32] ++ [nI (48 + i_47 % 10)] ++ [] ++ jI ((uTl S i_2) 5 (i_2 * 6 + i_47))) (rest := [.ref b_61]) (fr := uB (q_cy K) b_61 da_69 N_69 f_69 n_69 ++ (uS (q_cy K) q_47 sd_47 k_47 g_47 0 0 ++ ([]))) C hA hX_115 hf_115 hn_115 hb_115 (jca_e k_126 hk_126).2.1 (by simp only [List.length_append, List.length_cons, List.length_nil] <;> omega) mlL_231 (by omega) (by omega) (Nat.le_of_ble_eq_true rfl) dL_told_129 rfl (fun da_129 N_129 n_129 f_129 hX_129 hf_129 hn_129 hb_129 C => ?_)
              refine y_tstr (xs := [] ++ [32] ++ [nI (48 + i_47 % 10)] ++ [] ++ jI ((uTl S i_2) 5 (i_2 * 6 + i_47)) ++ [nI (jca k_126)]) (rest := [.ref b_61]) (fr := uB (q_cy K) b_61 da_69 N_69 f_69 n_69 ++ (uS (q_cy K) q_47 sd_47 k_47 g_47 0 0 ++ ([]))) C hA hX_129 hf_129 hn_129 hb_129 (by simp only [List.length_append, List.length_cons, List.length_nil] <;> omega) mlL_234 (by omega) (by omega) (Nat.le_of_ble_eq_true rfl) dL_told_132 rfl (fun q_132 sd_132 g_132 hX_132 hg_132 C => ?_)
              refine y_tsel [4, 5, 0, 1] (by decide) (ex' := uB (q_cy K) b_61 da_69 N_69 f_69 n_69 ++ (uS (q_cy K) q_132 sd_132 n_129 g_132 0 0 ++ ([]))) C rfl rfl (fun C => ?_)
              refine y_appS2 (xs := [] ++ (jG (uTl S i_2) i_2 i_47)) (ys := [] ++ [32] ++ [nI (48 + i_47 % 10)] ++ [] ++ jI ((uTl S i_2) 5 (i_2 * 6 + i_47)) ++ [nI (jca k_126)]) (rest := []) (fr := []) C hA hX_69 hf_69 hn_69 hb_69 hX_132 hg_132 (Or.inr (by simp only [List.length_append, List.length_cons, List.length_nil] <;> omega)) (by simp only [List.length_append, List.length_cons, List.length_nil] <;> omega) mlL_223 (by omega) (by omega) (Nat.le_of_ble_eq_true rfl) dL_told_135 rfl (fun da_135 N_135 n_135 f_135 hX_135 hf_135 hn_135 hb_135 C => ?_)
              refine y_tstr (xs := [] ++ (jG (uTl S i_2) i_2 i_47) ++ ([] ++ [32] ++ [nI (48 + i_47 % 10)] ++ [] ++ jI ((uTl S i_2) 5 (i_2 * 6 + i_47)) ++ [nI (jca k_126)])) (rest := []) (fr := uS (q_cy K) q_132 sd_132 n_129 g_132 0 0 ++ ([])) C hA hX_135 hf_135 hn_135 hb_135 (by simp only [List.length_append, List.length_cons, List.length_nil] <;> omega) mlL_234 (by omega) (by omega) (Nat.le_of_ble_eq_true rfl) dL_told_138 rfl (fun q_138 sd_138 g_138 hX_138 hg_138 C => ?_)
              refine y_tsel [0, 1] (by decide) (ex' := uS (q_cy K) q_138 sd_138 n_135 g_138 0 0 ++ ([])) C rfl rfl (fun C => ?_)
              have hG_141 : jX (jG (uTl S i_2) i_2 (i_47 + 1)) n_135 g_138 := by rw [← jP_neg (show i_47 < 10 by omega) hk_126 ek_126 c_74 c_100]; exact hX_138
              refine y_astore_n (lv' := [(2, .ref q_138), (4, .int ((uTl S i_2) 5 (i_2 * 6 + i_47))), (0, .ref (q_ad K 0)), (1, .int (nI i_2)), (3, .int (nI i_47))]) C dL_told_141 rfl (by decide) rfl ?_
              refine y_iinc (v := nI (i_47 + 1)) (lv' := [(3, .int (nI (i_47 + 1))), (2, .ref q_138), (4, .int ((uTl S i_2) 5 (i_2 * 6 + i_47))), (0, .ref (q_ad K 0)), (1, .int (nI i_2))]) C dL_told_142 rfl (nI_add _ _) (by decide) rfl ?_
              refine y_goto (tgt := 47) C dL_told_145 (by decide) ?_
              exact y_to (ih_47 (i_47 + 1) _ _ _ _ _ (by omega) (by omega) hG_141 hg_138 C) ⟨rfl, rfl, rfl, rfl, trivial⟩ rfl
            · refine y_ldcT (i := 5) C rfl dL_told_103 ?_
              refine y_goto (tgt := 110) C dL_told_105 (by decide) ?_
              refine y_appT (xs := [] ++ [32] ++ [nI (48 + i_47 % 10)]) (ys := [43]) (rest := [.ref b_61]) (fr := uB (q_cy K) b_61 da_69 N_69 f_69 n_69 ++ (uS (q_cy K) q_47 sd_47 k_47 g_47 0 0 ++ ([]))) C hA 5 hX_95 hf_95 hn_95 hb_95 (by decide) rfl (by simp only [List.length_append, List.length_cons, List.length_nil] <;> omega) mlL_223 (by omega) (by omega) (Nat.le_of_ble_eq_true rfl) dL_told_110 rfl (fun da_110 N_110 n_110 f_110 hX_110 hf_110 hn_110 hb_110 C => ?_)
              have hr_115 := jrng (hI_2.c (m := i_2) (g := i_47) (by omega) (by omega)).2.2.1.1 (hI_2.c (m := i_2) (g := i_47) (by omega) (by omega)).2.2.1.2
              refine y_iload C dL_told_113 rfl ?_
              refine y_appI (x := (uTl S i_2) 5 (i_2 * 6 + i_47)) (xs := [] ++ [32] ++ [nI (48 + i_47 % 10)] ++ [43]) (rest := [.ref b_61]) (fr := uB (q_cy K) b_61 da_69 N_69 f_69 n_69 ++ (uS (q_cy K) q_47 sd_47 k_47 g_47 0 0 ++ ([]))) C hA hr_115.1 hr_115.2 hX_110 hf_110 hn_110 hb_110 (by simp only [List.length_append, List.length_cons, List.length_nil] <;> omega) mlL_226 (by omega) (by omega) (Nat.le_of_ble_eq_true rfl) dL_told_115 rfl (fun da_115 N_115 n_115 f_115 hX_115 hf_115 hn_115 hb_115 C => ?_)
              refine y_ldcT (i := 6) C rfl dL_told_118 ?_
              refine y_aload_n C dL_told_120 rfl rfl ?_
              refine y_iload_n C dL_told_121 rfl rfl ?_
              refine y_iload_n C dL_told_122 rfl rfl ?_
              refine y_sw (rest := [.ref (q_ad K (200 + 6)), .ref b_82, .ref b_61]) C (k_answer l hst (uTl S i_2) M hI_2.hM i_2 i_47 (by omega) (by omega)) mwL_answer mlL_160 rfl rfl rfl ⟨by decide, by decide⟩ (by omega) (Nat.le_of_ble_eq_true rfl) dL_told_123 ?_
              obtain ⟨k_126, hk_126, ek_126⟩ := hI_2.an5 (m := i_2) (g := i_47) (by omega) (by omega)
              have ep_126 : pAn (uTl S i_2) i_2 i_47 = nI k_126 := by unfold pAn; rw [if_pos c_74]; exact ek_126
              refine y_cj (i := 6) (As := [.int (nI k_126)]) (rest := [.ref b_82, .ref b_61]) C (by decide) (q_Fi.cv (v' := nI (jca k_126)) (jca_e k_126 hk_126).1 (c_J0_charAt_6 l (uTl S i_2) k_126 hk_126)) myJ0_charAt_5068e rfl mlL_102 rfl (by rw [ep_126]; rfl) rfl ⟨by omega, by decide⟩ (by omega) (Nat.le_of_ble_eq_true rfl) dL_told_126 ?_
              refine y_appC (c := jca k_126) (xs := [] ++ [32] ++ [nI (48 + i_47 % 10)] ++ [43] ++ jI ((uTl S i_2) 5 (i_2 * 6 + i_47))) (rest := [.ref b_61]) (fr := uB (q_cy K) b_61 da_69 N_69 f_69 n_69 ++ (uS (q_cy K) q_47 sd_47 k_47 g_47 0 0 ++ ([]))) C hA hX_115 hf_115 hn_115 hb_115 (jca_e k_126 hk_126).2.1 (by simp only [List.length_append, List.length_cons, List.length_nil] <;> omega) mlL_231 (by omega) (by omega) (Nat.le_of_ble_eq_true rfl) dL_told_129 rfl (fun da_129 N_129 n_129 f_129 hX_129 hf_129 hn_129 hb_129 C => ?_)
              refine y_tstr (xs := [] ++ [32] ++ [nI (48 + i_47 % 10)] ++ [43] ++ jI ((uTl S i_2) 5 (i_2 * 6 + i_47)) ++ [nI (jca k_126)]) (rest := [.ref b_61]) (fr := uB (q_cy K) b_61 da_69 N_69 f_69 n_69 ++ (uS (q_cy K) q_47 sd_47 k_47 g_47 0 0 ++ ([]))) C hA hX_129 hf_129 hn_129 hb_129 (by simp only [List.length_append, List.length_cons, List.length_nil] <;> omega) mlL_234 (by omega) (by omega) (Nat.le_of_ble_eq_true rfl) dL_told_132 rfl (fun q_132 sd_132 g_132 hX_132 hg_132 C => ?_)
              refine y_tsel [4, 5, 0, 1] (by decide) (ex' := uB (q_cy K) b_61 da_69 N_69 f_69 n_69 ++ (uS (q_cy K) q_132 sd_132 n_129 g_132 0 0 ++ ([]))) C rfl rfl (fun C => ?_)
              refine y_appS2 (xs := [] ++ (jG (uTl S i_2) i_2 i_47)) (ys := [] ++ [32] ++ [nI (48 + i_47 % 10)] ++ [43] ++ jI ((uTl S i_2) 5 (i_2 * 6 + i_47)) ++ [nI (jca k_126)]) (rest := []) (fr := []) C hA hX_69 hf_69 hn_69 hb_69 hX_132 hg_132 (Or.inr (by simp only [List.length_append, List.length_cons, List.length_nil] <;> omega)) (by simp only [List.length_append, List.length_cons, List.length_nil] <;> omega) mlL_223 (by omega) (by omega) (Nat.le_of_ble_eq_true rfl) dL_told_135 rfl (fun da_135 N_135 n_135 f_135 hX_135 hf_135 hn_135 hb_135 C => ?_)
              refine y_tstr (xs := [] ++ (jG (uTl S i_2) i_2 i_47) ++ ([] ++ [32] ++ [nI (48 + i_47 % 10)] ++ [43] ++ jI ((uTl S i_2) 5 (i_2 * 6 + i_47)) ++ [nI (jca k_126)])) (rest := []) (fr := uS (q_cy K) q_132 sd_132 n_129 g_132 0 0 ++ ([])) C hA hX_135 hf_135 hn_135 hb_135 (by simp only [List.length_append, List.length_cons, List.length_nil] <;> omega) mlL_234 (by omega) (by omega) (Nat.le_of_ble_eq_true rfl) dL_told_138 rfl (fun q_138 sd_138 g_138 hX_138 hg_138 C => ?_)
              refine y_tsel [0, 1] (by decide) (ex' := uS (q_cy K) q_138 sd_138 n_135 g_138 0 0 ++ ([])) C rfl rfl (fun C => ?_)
              have hG_141 : jX (jG (uTl S i_2) i_2 (i_47 + 1)) n_135 g_138 := by rw [← jP_pos (show i_47 < 10 by omega) hk_126 ek_126 c_74 c_100]; exact hX_138
              refine y_astore_n (lv' := [(2, .ref q_138), (4, .int ((uTl S i_2) 5 (i_2 * 6 + i_47))), (0, .ref (q_ad K 0)), (1, .int (nI i_2)), (3, .int (nI i_47))]) C dL_told_141 rfl (by decide) rfl ?_
              refine y_iinc (v := nI (i_47 + 1)) (lv' := [(3, .int (nI (i_47 + 1))), (2, .ref q_138), (4, .int ((uTl S i_2) 5 (i_2 * 6 + i_47))), (0, .ref (q_ad K 0)), (1, .int (nI i_2))]) C dL_told_142 rfl (nI_add _ _) (by decide) rfl ?_
              refine y_goto (tgt := 47) C dL_told_145 (by decide) ?_
              exact y_to (ih_47 (i_47 + 1) _ _ _ _ _ (by omega) (by omega) hG_141 hg_138 C) ⟨rfl, rfl, rfl, rfl, trivial⟩ rfl
          · refine y_ldcT (i := 3) C rfl dL_told_77 ?_
            refine y_goto (tgt := 135) C dL_told_79 (by decide) ?_
            refine y_appT (xs := [] ++ (jG (uTl S i_2) i_2 i_47)) (ys := []) (rest := []) (fr := uS (q_cy K) q_47 sd_47 k_47 g_47 0 0 ++ ([])) C hA 3 hX_69 hf_69 hn_69 hb_69 (by decide) rfl (by simp only [List.length_append, List.length_cons, List.length_nil] <;> omega) mlL_223 (by omega) (by omega) (Nat.le_of_ble_eq_true rfl) dL_told_135 rfl (fun da_135 N_135 n_135 f_135 hX_135 hf_135 hn_135 hb_135 C => ?_)
            refine y_tstr (xs := [] ++ (jG (uTl S i_2) i_2 i_47) ++ []) (rest := []) (fr := uS (q_cy K) q_47 sd_47 k_47 g_47 0 0 ++ ([])) C hA hX_135 hf_135 hn_135 hb_135 (by simp only [List.length_append, List.length_cons, List.length_nil] <;> omega) mlL_234 (by omega) (by omega) (Nat.le_of_ble_eq_true rfl) dL_told_138 rfl (fun q_138 sd_138 g_138 hX_138 hg_138 C => ?_)
            refine y_tsel [0, 1] (by decide) (ex' := uS (q_cy K) q_138 sd_138 n_135 g_138 0 0 ++ ([])) C rfl rfl (fun C => ?_)
            have hG_141 : jX (jG (uTl S i_2) i_2 (i_47 + 1)) n_135 g_138 := by rw [← jP_zero c_74]; exact hX_138
            refine y_astore_n (lv' := [(2, .ref q_138), (4, .int ((uTl S i_2) 5 (i_2 * 6 + i_47))), (0, .ref (q_ad K 0)), (1, .int (nI i_2)), (3, .int (nI i_47))]) C dL_told_141 rfl (by decide) rfl ?_
            refine y_iinc (v := nI (i_47 + 1)) (lv' := [(3, .int (nI (i_47 + 1))), (2, .ref q_138), (4, .int ((uTl S i_2) 5 (i_2 * 6 + i_47))), (0, .ref (q_ad K 0)), (1, .int (nI i_2))]) C dL_told_142 rfl (nI_add _ _) (by decide) rfl ?_
            refine y_goto (tgt := 47) C dL_told_145 (by decide) ?_
            exact y_to (ih_47 (i_47 + 1) _ _ _ _ _ (by omega) (by omega) hG_141 hg_138 C) ⟨rfl, rfl, rfl, rfl, trivial⟩ rfl
      exact y_to (loop_47 (6 - 0) 0 _ _ _ _ _ (by omega) (by omega) hH_44 hg_41 C) ⟨rfl, rfl, rfl, rfl, trivial⟩ rfl
  exact y_to (loop_2 (M - 0) 0 _ (by omega) (by omega)) ⟨rfl, rfl, trivial⟩ rfl
