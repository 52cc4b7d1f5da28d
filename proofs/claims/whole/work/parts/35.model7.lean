set_option maxHeartbeats 1000000 in
theorem c_X7_does (l : Launch) (S : q_St) (i : Nat) (hi : i < 60) (hk : uQ_let (S 119 (4 * i))) (hJ : uMJ S) : q_Fv l yX7_does kX7_does 6 [.ref 112, .int (nI i)] S (uM_do S (S 119 (4 * i)) (S 119 (4 * i + 1)) (S 119 (4 * i + 2)) (S 119 (4 * i + 3))) := by
  refine q_Fv_of (maxL := 6) rfl (by decide +kernel) (fun ad => Nat.le_of_ble_eq_true rfl) ?_
  intro K C hret
  have C : q_Cx K cX7_does RX7 6 6 := C
  show q_V l K 0 [(0, .ref 112), (1, .int (nI i))] [] S
  refine q_aload_n C dX7_does_0 rfl rfl ?_
  refine q_getR C flX7_33 q_s112 rfl dX7_does_1 ?_
  refine q_iconst (v := 4) C dX7_does_4 (by decide) ?_
  refine q_iload_n C dX7_does_5 rfl rfl ?_
  refine q_imulN (a := 4) (b := i) C dX7_does_6 rfl rfl ?_
  refine q_iconst (v := 1) C dX7_does_7 (by decide) ?_
  refine q_iaddN (a := 4 * i) (b := 1) C dX7_does_8 rfl rfl ?_
  refine q_ialdN (i := 4 * i + 1) (x := S 119 (4 * i + 1)) C rfl q_s119 (by omega) (by decide) dX7_does_9 rfl ?_
  refine q_istore_n (lv' := [(2, .int (S 119 (4 * i + 1))), (0, .ref 112), (1, .int (nI i))]) C dX7_does_10 rfl (by decide) rfl ?_
  refine q_aload_n C dX7_does_11 rfl rfl ?_
  refine q_getR C flX7_33 q_s112 rfl dX7_does_12 ?_
  refine q_iconst (v := 4) C dX7_does_15 (by decide) ?_
  refine q_iload_n C dX7_does_16 rfl rfl ?_
  refine q_imulN (a := 4) (b := i) C dX7_does_17 rfl rfl ?_
  refine q_iconst (v := 2) C dX7_does_18 (by decide) ?_
  refine q_iaddN (a := 4 * i) (b := 2) C dX7_does_19 rfl rfl ?_
  refine q_ialdN (i := 4 * i + 2) (x := S 119 (4 * i + 2)) C rfl q_s119 (by omega) (by decide) dX7_does_20 rfl ?_
  refine q_istore_n (lv' := [(3, .int (S 119 (4 * i + 2))), (2, .int (S 119 (4 * i + 1))), (0, .ref 112), (1, .int (nI i))]) C dX7_does_21 rfl (by decide) rfl ?_
  refine q_aload_n C dX7_does_22 rfl rfl ?_
  refine q_getR C flX7_33 q_s112 rfl dX7_does_23 ?_
  refine q_iconst (v := 4) C dX7_does_26 (by decide) ?_
  refine q_iload_n C dX7_does_27 rfl rfl ?_
  refine q_imulN (a := 4) (b := i) C dX7_does_28 rfl rfl ?_
  refine q_iconst (v := 3) C dX7_does_29 (by decide) ?_
  refine q_iaddN (a := 4 * i) (b := 3) C dX7_does_30 rfl rfl ?_
  refine q_ialdN (i := 4 * i + 3) (x := S 119 (4 * i + 3)) C rfl q_s119 (by omega) (by decide) dX7_does_31 rfl ?_
  refine q_istore (lv' := [(4, .int (S 119 (4 * i + 3))), (3, .int (S 119 (4 * i + 2))), (2, .int (S 119 (4 * i + 1))), (0, .ref 112), (1, .int (nI i))]) C dX7_does_32 (by decide) rfl ?_
  refine q_aload_n C dX7_does_34 rfl rfl ?_
  refine q_getR C flX7_33 q_s112 rfl dX7_does_35 ?_
  refine q_iconst (v := 4) C dX7_does_38 (by decide) ?_
  refine q_iload_n C dX7_does_39 rfl rfl ?_
  refine q_imulN (a := 4) (b := i) C dX7_does_40 rfl rfl ?_
  obtain ⟨M, N, hM, hM8, hN, hN8, hNd, hW⟩ := hJ
  rcases hk with ek | ek | ek | ek | ek | ek | ek | ek | ek | ek | ek
  · refine q_ialdN (i := 4 * i) (x := 110) C rfl q_s119 (by omega) (by decide) dX7_does_41 ek ?_
    refine q_tabin (off := 106) (tgt := 148) C dX7_does_42 (by decide) (by decide) (by decide) (by decide) ?_
    refine q_aload_n C dX7_does_148 rfl rfl ?_
    refine q_ci0 C (c_X7_doMatter l S M hM hM8) myX7_doMatter mlX7_84 q_s112 ⟨by decide, by decide⟩ (Nat.le_of_ble_eq_true rfl) dX7_does_149 ?_
    refine q_istore (lv' := [(5, .int ((uMd_matter S M).1)), (4, .int (S 119 (4 * i + 3))), (3, .int (S 119 (4 * i + 2))), (2, .int (S 119 (4 * i + 1))), (0, .ref 112), (1, .int (nI i))]) C dX7_does_152 (by decide) rfl ?_
    refine q_goto (tgt := 262) C dX7_does_154 (by decide) ?_
    exact hret _ _ _ dX7_does_262 (by simp [uM_do, ek, hM, hN, uN_nI (show M < 2 ^ 31 by omega), uN_nI (show N < 2 ^ 31 by omega)])
  · refine q_ialdN (i := 4 * i) (x := 97) C rfl q_s119 (by omega) (by decide) dX7_does_41 ek ?_
    refine q_tabin (off := 115) (tgt := 157) C dX7_does_42 (by decide) (by decide) (by decide) (by decide) ?_
    refine q_aload_n C dX7_does_157 rfl rfl ?_
    refine q_iload_n C dX7_does_158 rfl rfl ?_
    refine q_iload_n C dX7_does_159 rfl rfl ?_
    refine q_iload C dX7_does_160 rfl ?_
    refine q_ci3 C (c_X7_doSet l S M hM hM8 (S 119 (4 * i + 1)) (S 119 (4 * i + 2)) (S 119 (4 * i + 3))) myX7_doSet mlX7_104 q_s112 ⟨by decide, by decide⟩ (Nat.le_of_ble_eq_true rfl) dX7_does_162 ?_
    refine q_istore (lv' := [(5, .int ((uMd_set S M (S 119 (4 * i + 1)) (S 119 (4 * i + 2)) (S 119 (4 * i + 3))).1)), (4, .int (S 119 (4 * i + 3))), (3, .int (S 119 (4 * i + 2))), (2, .int (S 119 (4 * i + 1))), (0, .ref 112), (1, .int (nI i))]) C dX7_does_165 (by decide) rfl ?_
    refine q_goto (tgt := 262) C dX7_does_167 (by decide) ?_
    exact hret _ _ _ dX7_does_262 (by simp [uM_do, ek, hM, hN, uN_nI (show M < 2 ^ 31 by omega), uN_nI (show N < 2 ^ 31 by omega)])
  · refine q_ialdN (i := 4 * i) (x := 113) C rfl q_s119 (by omega) (by decide) dX7_does_41 ek ?_
    refine q_tabin (off := 128) (tgt := 170) C dX7_does_42 (by decide) (by decide) (by decide) (by decide) ?_
    refine q_aload_n C dX7_does_170 rfl rfl ?_
    refine q_iload_n C dX7_does_171 rfl rfl ?_
    refine q_iload_n C dX7_does_172 rfl rfl ?_
    refine q_ci2 C (c_X7_doAsk l S M hM hM8 (S 119 (4 * i + 1)) (S 119 (4 * i + 2))) myX7_doAsk mlX7_123 q_s112 ⟨by decide, by decide⟩ (Nat.le_of_ble_eq_true rfl) dX7_does_173 ?_
    refine q_istore (lv' := [(5, .int ((uMd_ask S M (S 119 (4 * i + 1)) (S 119 (4 * i + 2))).1)), (4, .int (S 119 (4 * i + 3))), (3, .int (S 119 (4 * i + 2))), (2, .int (S 119 (4 * i + 1))), (0, .ref 112), (1, .int (nI i))]) C dX7_does_176 (by decide) rfl ?_
    refine q_goto (tgt := 262) C dX7_does_178 (by decide) ?_
    exact hret _ _ _ dX7_does_262 (by simp [uM_do, ek, hM, hN, uN_nI (show M < 2 ^ 31 by omega), uN_nI (show N < 2 ^ 31 by omega)])
  · refine q_ialdN (i := 4 * i) (x := 100) C rfl q_s119 (by omega) (by decide) dX7_does_41 ek ?_
    refine q_tabin (off := 139) (tgt := 181) C dX7_does_42 (by decide) (by decide) (by decide) (by decide) ?_
    refine q_aload_n C dX7_does_181 rfl rfl ?_
    refine q_iload_n C dX7_does_182 rfl rfl ?_
    refine q_ci1 C (c_X7_doDecide l S M hM hM8 N hN hNd (S 119 (4 * i + 1))) myX7_doDecide mlX7_130 q_s112 ⟨by decide, by decide⟩ (Nat.le_of_ble_eq_true rfl) dX7_does_183 ?_
    refine q_istore (lv' := [(5, .int ((uMd_decide S M N (S 119 (4 * i + 1))).1)), (4, .int (S 119 (4 * i + 3))), (3, .int (S 119 (4 * i + 2))), (2, .int (S 119 (4 * i + 1))), (0, .ref 112), (1, .int (nI i))]) C dX7_does_186 (by decide) rfl ?_
    refine q_goto (tgt := 262) C dX7_does_188 (by decide) ?_
    exact hret _ _ _ dX7_does_262 (by simp [uM_do, ek, hM, hN, uN_nI (show M < 2 ^ 31 by omega), uN_nI (show N < 2 ^ 31 by omega)])
  · refine q_ialdN (i := 4 * i) (x := 116) C rfl q_s119 (by omega) (by decide) dX7_does_41 ek ?_
    refine q_tabin (off := 149) (tgt := 191) C dX7_does_42 (by decide) (by decide) (by decide) (by decide) ?_
    refine q_aload_n C dX7_does_191 rfl rfl ?_
    refine q_iload_n C dX7_does_192 rfl rfl ?_
    refine q_iload_n C dX7_does_193 rfl rfl ?_
    refine q_ci2 C (c_X7_doTell l S M hM hM8 (S 119 (4 * i + 1)) (S 119 (4 * i + 2))) myX7_doTell mlX7_137 q_s112 ⟨by decide, by decide⟩ (Nat.le_of_ble_eq_true rfl) dX7_does_194 ?_
    refine q_istore (lv' := [(5, .int ((uMd_tell S M (S 119 (4 * i + 1)) (S 119 (4 * i + 2))).1)), (4, .int (S 119 (4 * i + 3))), (3, .int (S 119 (4 * i + 2))), (2, .int (S 119 (4 * i + 1))), (0, .ref 112), (1, .int (nI i))]) C dX7_does_197 (by decide) rfl ?_
    refine q_goto (tgt := 262) C dX7_does_199 (by decide) ?_
    exact hret _ _ _ dX7_does_262 (by simp [uM_do, ek, hM, hN, uN_nI (show M < 2 ^ 31 by omega), uN_nI (show N < 2 ^ 31 by omega)])
  · refine q_ialdN (i := 4 * i) (x := 102) C rfl q_s119 (by omega) (by decide) dX7_does_41 ek ?_
    refine q_tabin (off := 160) (tgt := 202) C dX7_does_42 (by decide) (by decide) (by decide) (by decide) ?_
    refine q_aload_n C dX7_does_202 rfl rfl ?_
    refine q_ci0 C (c_X7_doFaint l S M hM hM8) myX7_doFaint mlX7_140 q_s112 ⟨by decide, by decide⟩ (Nat.le_of_ble_eq_true rfl) dX7_does_203 ?_
    refine q_istore (lv' := [(5, .int ((uMd_faint S M).1)), (4, .int (S 119 (4 * i + 3))), (3, .int (S 119 (4 * i + 2))), (2, .int (S 119 (4 * i + 1))), (0, .ref 112), (1, .int (nI i))]) C dX7_does_206 (by decide) rfl ?_
    refine q_goto (tgt := 262) C dX7_does_208 (by decide) ?_
    exact hret _ _ _ dX7_does_262 (by simp [uM_do, ek, hM, hN, uN_nI (show M < 2 ^ 31 by omega), uN_nI (show N < 2 ^ 31 by omega)])
  · refine q_ialdN (i := 4 * i) (x := 119) C rfl q_s119 (by omega) (by decide) dX7_does_41 ek ?_
    refine q_tabin (off := 169) (tgt := 211) C dX7_does_42 (by decide) (by decide) (by decide) (by decide) ?_
    refine q_aload_n C dX7_does_211 rfl rfl ?_
    refine q_ci0 C (c_X7_doWake l S M hM hM8 N hN hW) myX7_doWake mlX7_143 q_s112 ⟨by decide, by decide⟩ (Nat.le_of_ble_eq_true rfl) dX7_does_212 ?_
    refine q_istore (lv' := [(5, .int ((uMd_wake S M N).1)), (4, .int (S 119 (4 * i + 3))), (3, .int (S 119 (4 * i + 2))), (2, .int (S 119 (4 * i + 1))), (0, .ref 112), (1, .int (nI i))]) C dX7_does_215 (by decide) rfl ?_
    refine q_goto (tgt := 262) C dX7_does_217 (by decide) ?_
    exact hret _ _ _ dX7_does_262 (by simp [uM_do, ek, hM, hN, uN_nI (show M < 2 ^ 31 by omega), uN_nI (show N < 2 ^ 31 by omega)])
  · refine q_ialdN (i := 4 * i) (x := 115) C rfl q_s119 (by omega) (by decide) dX7_does_41 ek ?_
    refine q_tabin (off := 178) (tgt := 220) C dX7_does_42 (by decide) (by decide) (by decide) (by decide) ?_
    refine q_aload_n C dX7_does_220 rfl rfl ?_
    refine q_iload_n C dX7_does_221 rfl rfl ?_
    refine q_iconst (v := 1) C dX7_does_222 (by decide) ?_
    refine q_ci2 C (c_X7_doSleep l S (S 119 (4 * i + 1)) 1) myX7_doSleep mlX7_149 q_s112 ⟨by decide, by decide⟩ (Nat.le_of_ble_eq_true rfl) dX7_does_223 ?_
    refine q_istore (lv' := [(5, .int ((uMd_sleep S (S 119 (4 * i + 1)) 1).1)), (4, .int (S 119 (4 * i + 3))), (3, .int (S 119 (4 * i + 2))), (2, .int (S 119 (4 * i + 1))), (0, .ref 112), (1, .int (nI i))]) C dX7_does_226 (by decide) rfl ?_
    refine q_goto (tgt := 262) C dX7_does_228 (by decide) ?_
    exact hret _ _ _ dX7_does_262 (by simp [uM_do, ek, hM, hN, uN_nI (show M < 2 ^ 31 by omega), uN_nI (show N < 2 ^ 31 by omega)])
  · refine q_ialdN (i := 4 * i) (x := 114) C rfl q_s119 (by omega) (by decide) dX7_does_41 ek ?_
    refine q_tabin (off := 189) (tgt := 231) C dX7_does_42 (by decide) (by decide) (by decide) (by decide) ?_
    refine q_aload_n C dX7_does_231 rfl rfl ?_
    refine q_iload_n C dX7_does_232 rfl rfl ?_
    refine q_iconst (v := 0) C dX7_does_233 (by decide) ?_
    refine q_ci2 C (c_X7_doSleep l S (S 119 (4 * i + 1)) 0) myX7_doSleep mlX7_149 q_s112 ⟨by decide, by decide⟩ (Nat.le_of_ble_eq_true rfl) dX7_does_234 ?_
    refine q_istore (lv' := [(5, .int ((uMd_sleep S (S 119 (4 * i + 1)) 0).1)), (4, .int (S 119 (4 * i + 3))), (3, .int (S 119 (4 * i + 2))), (2, .int (S 119 (4 * i + 1))), (0, .ref 112), (1, .int (nI i))]) C dX7_does_237 (by decide) rfl ?_
    refine q_goto (tgt := 262) C dX7_does_239 (by decide) ?_
    exact hret _ _ _ dX7_does_262 (by simp [uM_do, ek, hM, hN, uN_nI (show M < 2 ^ 31 by omega), uN_nI (show N < 2 ^ 31 by omega)])
  · refine q_ialdN (i := 4 * i) (x := 105) C rfl q_s119 (by omega) (by decide) dX7_does_41 ek ?_
    refine q_tabin (off := 200) (tgt := 242) C dX7_does_42 (by decide) (by decide) (by decide) (by decide) ?_
    refine q_aload_n C dX7_does_242 rfl rfl ?_
    refine q_iload_n C dX7_does_243 rfl rfl ?_
    refine q_iload_n C dX7_does_244 rfl rfl ?_
    refine q_iload C dX7_does_245 rfl ?_
    refine q_ci3 C (c_X7_doInquire l S M hM hM8 (S 119 (4 * i + 1)) (S 119 (4 * i + 2)) (S 119 (4 * i + 3))) myX7_doInquire mlX7_152 q_s112 ⟨by decide, by decide⟩ (Nat.le_of_ble_eq_true rfl) dX7_does_247 ?_
    refine q_istore (lv' := [(5, .int ((uMd_inq S M (S 119 (4 * i + 1)) (S 119 (4 * i + 2)) (S 119 (4 * i + 3))).1)), (4, .int (S 119 (4 * i + 3))), (3, .int (S 119 (4 * i + 2))), (2, .int (S 119 (4 * i + 1))), (0, .ref 112), (1, .int (nI i))]) C dX7_does_250 (by decide) rfl ?_
    refine q_goto (tgt := 262) C dX7_does_252 (by decide) ?_
    exact hret _ _ _ dX7_does_262 (by simp [uM_do, ek, hM, hN, uN_nI (show M < 2 ^ 31 by omega), uN_nI (show N < 2 ^ 31 by omega)])
  · refine q_ialdN (i := 4 * i) (x := 104) C rfl q_s119 (by omega) (by decide) dX7_does_41 ek ?_
    refine q_tabin (off := 213) (tgt := 255) C dX7_does_42 (by decide) (by decide) (by decide) (by decide) ?_
    refine q_aload_n C dX7_does_255 rfl rfl ?_
    refine q_iload_n C dX7_does_256 rfl rfl ?_
    refine q_ci1 C (c_X7_doPass l S M hM hM8 (S 119 (4 * i + 1))) myX7_doPass mlX7_155 q_s112 ⟨by decide, by decide⟩ (Nat.le_of_ble_eq_true rfl) dX7_does_257 ?_
    refine q_istore (lv' := [(5, .int ((uMd_pass S M (S 119 (4 * i + 1))).1)), (4, .int (S 119 (4 * i + 3))), (3, .int (S 119 (4 * i + 2))), (2, .int (S 119 (4 * i + 1))), (0, .ref 112), (1, .int (nI i))]) C dX7_does_260 (by decide) rfl ?_
    exact hret _ _ _ dX7_does_262 (by simp [uM_do, ek, hM, hN, uN_nI (show M < 2 ^ 31 by omega), uN_nI (show N < 2 ^ 31 by omega)])
set_option maxHeartbeats 1000000 in
theorem c_X7_run (l : Launch) (S : q_St) (t : Nat → Int32) (n : Nat) (ht : S 118 = t) (hn : S 112 13 = nI n) (hn60 : n ≤ 60) (hch : ∀ j, j < 60 → ∃ q, q < 65536 ∧ t j = nI q) (pm : Nat) (hpm : S 112 5 = nI pm) (hpm8 : pm ≤ 8) (hK : ∀ i, i < (uQ_text t n S).2.1 → uQ_let ((uQ_text t n S).1 119 (4 * i))) (hA : ¬ ((uQ_text t n S).2.2.1 = true ∨ (uQ_text t n S).2.2.2 < n) → uM_alJ (uM_U0 (uQ_text t n S)) (uQ_text t n S).2.1 0 (uM_U0 (uQ_text t n S))) : q_Fi l yX7_run kX7_run 7 [.ref 112] S ((uM_run t n S pm).1) ((uM_run t n S pm).2) := by
  refine q_Fi_of (maxL := 2) rfl (by decide +kernel) (fun ad => Nat.le_of_ble_eq_true rfl) rfl ?_
  intro K C hret
  have C : q_Cx K cX7_run RX7 7 2 := C
  show q_V l K 0 [(0, .ref 112)] [] S
  refine q_aload_n C dX7_run_0 rfl rfl ?_
  refine q_iconst (v := 0) C dX7_run_1 (by decide) ?_
  refine q_put (ty9 := .int) C flX7_193 q_s112 rfl (fun _ _ _ h => by cases h; exact ⟨rfl, by decide +kernel⟩) rfl rfl dX7_run_2 ?_
  refine q_aload_n C dX7_run_5 rfl rfl ?_
  refine q_iconst (v := 0) C dX7_run_6 (by decide) ?_
  refine q_put (ty9 := .boolean) C flX7_190 q_s112 rfl (fun _ _ _ h => by cases h; exact ⟨rfl, by decide +kernel⟩) rfl rfl dX7_run_7 ?_
  refine q_aload_n C dX7_run_10 rfl rfl ?_
  refine q_iconst (v := 0) C dX7_run_11 (by decide) ?_
  refine q_put (ty9 := .int) C flX7_207 q_s112 rfl (fun _ _ _ h => by cases h; exact ⟨rfl, by decide +kernel⟩) rfl rfl dX7_run_12 ?_
  refine q_st (uQ_start S) ?_
  refine q_aload_n C dX7_run_15 rfl rfl ?_
  refine q_cv0 C (c_X7_readOrder l (q_p S 112 18 0) t n ht hn hn60 hch 0 rfl (false, 0) (by show 0 ≤ n; omega) (Nat.zero_le _) rfl) myX7_readOrder mlX7_217 q_s112 ⟨by decide, by decide⟩ (Nat.le_of_ble_eq_true rfl) dX7_run_16 ?_
  have loop_19 : ∀ (n_19 i_19 : Nat) (T : q_St) (cnt : Nat) (s : Bool × Nat), i_19 + n_19 = 61 → T 118 = t → T 112 13 = nI n → T 112 18 = nI cnt → T 112 5 = nI pm → cnt ≤ s.2 → s.2 ≤ n → i_19 ≤ s.2 → uQ_loop t n n_19 T cnt s = uQ_text t n S → q_V l K 19 [(0, .ref 112)] [] (uQ_at T s) := by
    intro n_19
    induction n_19 with
    | zero =>
      intro i_19 T cnt s hi_19 ht9 hn9 hc18 h5 hcs hs his hr_19
      have e_19 : i_19 = 61 := by omega
      exfalso; omega
    | succ n_19 ih_19 =>
      intro i_19 T cnt s hi_19 ht9 hn9 hc18 h5 hcs hs his hr_19
      refine q_aload_n C dX7_run_19 rfl rfl ?_
      refine q_bipush (v := 59) C dX7_run_20 (by decide) ?_
      refine q_bipush (v := 59) C dX7_run_22 (by decide) ?_
      by_cases h_24 : uQ_here t n 59 59 s
      · refine q_ci2 C (q_Fi.cv (if_pos h_24) (c_X7_isHere l T t n ht9 hn9 hn60 hch s hs 59 59)) myX7_isHere mlX7_196 q_s112 ⟨by decide, by decide⟩ (Nat.le_of_ble_eq_true rfl) dX7_run_24 ?_
        refine q_if_eq (tgt := 47) C dX7_run_27 (by decide) (fun h9 => absurd h9 (by decide)) (fun _ => ?_)
        refine q_aload_n C dX7_run_30 rfl rfl ?_
        refine q_dup C rfl dX7_run_31 ?_
        refine q_getI (x := nI s.2) C flX7_193 q_s112 rfl dX7_run_32 (uQ_at_14 T s) ?_
        refine q_iconst (v := 1) C dX7_run_35 (by decide) ?_
        refine q_iaddN (a := s.2) (b := 1) C dX7_run_36 rfl rfl ?_
        refine q_put (ty9 := .int) C flX7_193 q_s112 rfl (fun _ _ _ h => by cases h; exact ⟨rfl, by decide +kernel⟩) rfl rfl dX7_run_37 ?_
        refine q_st ((uQ_at_w2 T s (s.2 + 1)).trans (by rw [h_24.1])) ?_
        have h_lt : s.2 < n := h_24.2.1
        refine q_aload_n C dX7_run_40 rfl rfl ?_
        refine q_cv0 C (c_X7_readOrder l T t n ht9 hn9 hn60 hch cnt hc18 (false, s.2 + 1) (by show s.2 + 1 ≤ n; omega) (by show cnt ≤ s.2 + 1; omega) rfl) myX7_readOrder mlX7_217 q_s112 ⟨by decide, by decide⟩ (Nat.le_of_ble_eq_true rfl) dX7_run_41 ?_
        refine q_goto (tgt := 19) C dX7_run_44 (by decide) ?_
        exact q_V_to (ih_19 (i_19 + 1) (uQ_ordS t n T cnt (false, s.2 + 1)) (uQ_ordC t n cnt (false, s.2 + 1)) (uP_s5 t n (false, s.2 + 1)) (by omega) ((uQ_ordS_k _ _ _ _ _ 118 (by decide) (by decide)).trans ht9) ((uQ_ordS_f _ _ _ _ _ 13 (by decide)).trans hn9) (uQ_ordS_18 _ _ _ _ _ hc18) ((uQ_ordS_f _ _ _ _ _ 5 (by decide)).trans h5) (uQ_ordC_le _ _ _ _ rfl (by show cnt ≤ s.2 + 1; omega)) (uP_s5_le _ _ (by show s.2 + 1 ≤ n; omega)) (by have h7 := uP_s5_ge t n (false, s.2 + 1); have h8 := uP_lt_ge t n (false, s.2 + 1); have h9 : s.2 + 1 ≤ (uP_lt t n (false, s.2 + 1)).2 := h8; omega) (by rw [← hr_19, uQ_loop, if_pos h_24])) ⟨rfl, trivial⟩ rfl
      · refine q_ci2 C (q_Fi.cv (if_neg h_24) (c_X7_isHere l T t n ht9 hn9 hn60 hch s hs 59 59)) myX7_isHere mlX7_196 q_s112 ⟨by decide, by decide⟩ (Nat.le_of_ble_eq_true rfl) dX7_run_24 ?_
        refine q_if_eq (tgt := 47) C dX7_run_27 (by decide) (fun _ => ?_) (fun h9 => absurd h9 (by decide))
        refine q_aload_n C dX7_run_47 rfl rfl ?_
        refine q_aload_n C dX7_run_48 rfl rfl ?_
        rcases q_bc (s).1 with hb_49 | hb_49
        · refine q_getI (x := 0) C flX7_190 q_s112 rfl dX7_run_49 (congrArg uO_b hb_49) ?_
          refine q_if_ne (tgt := 66) C dX7_run_52 (by decide) (fun h9 => absurd h9 (by decide)) (fun _ => ?_)
          refine q_aload_n C dX7_run_55 rfl rfl ?_
          refine q_getI (x := nI s.2) C flX7_193 q_s112 rfl dX7_run_56 (uQ_at_14 T s) ?_
          refine q_aload_n C dX7_run_59 rfl rfl ?_
          refine q_getI (x := nI n) C flX7_187 q_s112 rfl dX7_run_60 ((uQ_at_k T s 13 (by decide) (by decide)).trans hn9) ?_
          refine q_icmp_geN (a := s.2) (b := n) (tgt := 70) C dX7_run_63 (by decide) rfl rfl (by omega) (by omega) (fun c_63 => ?_) (fun c_63 => ?_)
          · refine q_iconst (v := 0) C dX7_run_70 (by decide) ?_
            refine q_put (ty9 := .boolean) C flX7_190 q_s112 rfl (fun _ _ _ h => by cases h; exact ⟨rfl, by decide +kernel⟩) rfl rfl dX7_run_71 ?_
            refine q_st (uQ_at_w1 T s false) ?_
            have et : uQ_text t n S = (T, cnt, s) := by {rw [← hr_19, uQ_loop, if_neg h_24]}
            have hw : ¬ ((uQ_text t n S).2.2.1 = true ∨ (uQ_text t n S).2.2.2 < n) := by {rw [et]; intro q; rcases q with q | q; exact absurd (q.symm.trans hb_49) (by decide); have q9 : s.2 < n := q; omega}
            refine q_aload_n C dX7_run_74 rfl rfl ?_
            refine q_aload_n C dX7_run_75 rfl rfl ?_
            refine q_getI (x := 0) C flX7_190 q_s112 rfl dX7_run_76 (congrArg uO_b (show (false, s.2).1 = false from rfl)) ?_
            refine q_if_eq (tgt := 89) C dX7_run_79 (by decide) (fun _ => ?_) (fun h9 => absurd h9 (by decide))
            refine q_iconst (v := (-1)) C dX7_run_89 (by decide) ?_
            refine q_put (ty9 := .int) C flX7_29 q_s112 rfl (fun _ _ _ h => by cases h; exact ⟨rfl, by decide +kernel⟩) rfl rfl dX7_run_90 ?_
            refine q_aload_n C dX7_run_93 rfl rfl ?_
            refine q_iconst (v := 0) C dX7_run_94 (by decide) ?_
            refine q_put (ty9 := .int) C flX7_187 q_s112 rfl (fun _ _ _ h => by cases h; exact ⟨rfl, by decide +kernel⟩) rfl rfl dX7_run_95 ?_
            refine q_aload_n C dX7_run_98 rfl rfl ?_
            refine q_getI (x := 0) C flX7_190 q_s112 rfl dX7_run_99 (congrArg uO_b (show (false, s.2).1 = false from rfl)) ?_
            refine q_if_eq (tgt := 111) C dX7_run_102 (by decide) (fun _ => ?_) (fun h9 => absurd h9 (by decide))
            refine q_aload_n C dX7_run_111 rfl rfl ?_
            refine q_cv0 C (c_X7_keep l (q_p (q_p (uQ_at T (false, s.2)) 112 16 (-1)) 112 13 0)) myX7_keep mlX7_81 q_s112 ⟨by decide, by decide⟩ (Nat.le_of_ble_eq_true rfl) dX7_run_112 ?_
            obtain ⟨U, hU⟩ : ∃ U, U = uM_U0 (uQ_text t n S) := ⟨_, rfl⟩
            have hU2 : U = (uM_keep (q_p (q_p (uQ_at T (false, s.2)) 112 16 (-1)) 112 13 0)) := by {rw [hU, et]; rfl}
            refine q_st hU2.symm ?_
            have hA9 : uM_alJ U cnt 0 U := by {rw [hU]; have h9 := hA hw; rw [et] at h9 ⊢; exact h9}
            have hK9 : ∀ i, i < cnt → uQ_let (U 119 (4 * i)) := by {rw [hU]; have h9 := hK; rw [et] at h9 ⊢; exact h9}
            have hU5 : U 112 5 = nI pm := by {rw [hU, et]; exact h5}
            have hU18 : U 112 18 = nI cnt := by {rw [hU, et]; exact hc18}
            have hc60 : cnt ≤ 60 := by omega
            refine q_iconst (v := 0) C dX7_run_115 (by decide) ?_
            refine q_istore_n (lv' := [(1, .int 0), (0, .ref 112)]) C dX7_run_116 rfl (by decide) rfl ?_
            have loop_117 : ∀ (n_117 i_117 : Nat) (W : q_St), i_117 + n_117 = cnt → W 119 = U 119 → W 112 18 = nI cnt → W 112 5 = nI pm → uM_alJ U n_117 i_117 W → uM_all U pm cnt n_117 i_117 W = uM_all U pm cnt cnt 0 U → q_V l K 117 [(0, .ref 112), (1, .int (nI i_117))] [] W := by
              intro n_117
              induction n_117 with
              | zero =>
                intro i_117 W hi_117 h119 h18W h5W hal hr_117
                have e_117 : i_117 = cnt := by omega
                refine q_iload_n C dX7_run_117 rfl rfl ?_
                refine q_aload_n C dX7_run_118 rfl rfl ?_
                refine q_getI (x := nI cnt) C flX7_207 q_s112 rfl dX7_run_119 h18W ?_
                refine q_icmp_geN (a := i_117) (b := cnt) (tgt := 170) C dX7_run_122 (by decide) rfl rfl (by omega) (by omega) (fun c_122 => ?_) (fun c_122 => absurd c_122 (by omega))
                refine q_aload_n C dX7_run_170 rfl rfl ?_
                refine q_aload_n C dX7_run_171 rfl rfl ?_
                refine q_getI (x := nI cnt) C flX7_207 q_s112 rfl dX7_run_172 h18W ?_
                refine q_ci1 C (c_X7_ends l W pm h5W hpm8 (nI cnt)) myX7_ends mlX7_88 q_s112 ⟨by decide, by decide⟩ (Nat.le_of_ble_eq_true rfl) dX7_run_175 ?_
                exact hret _ _ _ _ dX7_run_178 (by rw [uM_run, if_neg hw, ← hU, et]; show _ = (uM_all U pm cnt cnt 0 U).1; rw [← hr_117]; rfl) (by rw [uM_run, if_neg hw, ← hU, et]; show _ = (uM_all U pm cnt cnt 0 U).2; rw [← hr_117]; rfl)
              | succ n_117 ih_117 =>
                intro i_117 W hi_117 h119 h18W h5W hal hr_117
                refine q_iload_n C dX7_run_117 rfl rfl ?_
                refine q_aload_n C dX7_run_118 rfl rfl ?_
                refine q_getI (x := nI cnt) C flX7_207 q_s112 rfl dX7_run_119 h18W ?_
                refine q_icmp_geN (a := i_117) (b := cnt) (tgt := 170) C dX7_run_122 (by decide) rfl rfl (by omega) (by omega) (fun c_122 => absurd c_122 (by omega)) (fun c_122 => ?_)
                refine q_aload_n C dX7_run_125 rfl rfl ?_
                refine q_iconst (v := 0) C dX7_run_126 (by decide) ?_
                refine q_put (ty9 := .boolean) C flX7_48 q_s112 rfl (fun _ _ _ h => by cases h; exact ⟨rfl, by decide +kernel⟩) rfl rfl dX7_run_127 ?_
                refine q_aload_n C dX7_run_130 rfl rfl ?_
                refine q_iload_n C dX7_run_131 rfl rfl ?_
                have t_132 : uM_do (q_p W 112 9 0) ((q_p W 112 9 0) 119 (4 * i_117)) ((q_p W 112 9 0) 119 (4 * i_117 + 1)) ((q_p W 112 9 0) 119 (4 * i_117 + 2)) ((q_p W 112 9 0) 119 (4 * i_117 + 3)) = uM_step W U i_117 := by {unfold uM_step; rw [← h119]; rfl}
                have k_132 : uQ_let ((q_p W 112 9 0) 119 (4 * i_117)) := by {show uQ_let (W 119 (4 * i_117)); rw [h119]; exact hK9 i_117 (by omega)}
                refine q_cv1 C (q_Fv.cs t_132 (c_X7_does l (q_p W 112 9 0) i_117 (by omega) k_132 hal.1)) myX7_does mlX7_220 q_s112 ⟨by decide, by decide⟩ (Nat.le_of_ble_eq_true rfl) dX7_run_132 ?_
                refine q_aload_n C dX7_run_135 rfl rfl ?_
                refine q_getI (x := (uM_step W U i_117) 112 6) C flX7_36 q_s112 rfl dX7_run_136 rfl ?_
                refine q_if_le (tgt := 164) C dX7_run_139 (by decide)  (fun c_139 => ?_) (fun c_139 => ?_)
                · refine q_iinc (v := nI (i_117 + 1)) (lv' := [(1, .int (nI (i_117 + 1))), (0, .ref 112)]) C dX7_run_164 rfl (nI_add _ _) (by decide) rfl ?_
                  refine q_goto (tgt := 117) C dX7_run_167 (by decide) ?_
                  exact q_V_to (ih_117 (i_117 + 1) _ (by omega) ((uM_step_119 W U i_117).trans h119) (uM_step_18 W U i_117 cnt h18W) (uM_step_5 W U i_117 pm h5W) (hal.2 (Int32.not_lt.mpr c_139)) (by rw [← hr_117, uM_all, if_neg (Int32.not_lt.mpr c_139)])) ⟨rfl, rfl, trivial⟩ rfl
                · refine q_aload_n C dX7_run_142 rfl rfl ?_
                  refine q_aload_n C dX7_run_143 rfl rfl ?_
                  refine q_getI (x := (uM_step W U i_117) 112 9) C flX7_48 q_s112 rfl dX7_run_144 rfl ?_
                  refine q_if_eq (tgt := 154) C dX7_run_147 (by decide)  (fun c_147 => ?_) (fun c_147 => ?_)
                  · refine q_iconst (v := 1) C dX7_run_154 (by decide) ?_
                    refine q_put (ty9 := .int) C flX7_36 q_s112 rfl (fun _ _ _ h => by cases h; exact ⟨rfl, by decide +kernel⟩) rfl rfl dX7_run_155 ?_
                    refine q_aload_n C dX7_run_158 rfl rfl ?_
                    refine q_iconst (v := 0) C dX7_run_159 (by decide) ?_
                    refine q_ci1 C (c_X7_ends l (q_p (uM_step W U i_117) 112 6 1) pm (uM_step_5 W U i_117 pm h5W) hpm8 0) myX7_ends mlX7_88 q_s112 ⟨by decide, by decide⟩ (Nat.le_of_ble_eq_true rfl) dX7_run_160 ?_
                    exact hret _ _ _ _ dX7_run_163 (by rw [uM_run, if_neg hw, ← hU, et]; show _ = (uM_all U pm cnt cnt 0 U).1; rw [← hr_117, uM_all, if_pos c_139, if_pos c_147]) (by rw [uM_run, if_neg hw, ← hU, et]; show _ = (uM_all U pm cnt cnt 0 U).2; rw [← hr_117, uM_all, if_pos c_139, if_pos c_147])
                  · refine q_iconst (v := 2) C dX7_run_150 (by decide) ?_
                    refine q_goto (tgt := 155) C dX7_run_151 (by decide) ?_
                    refine q_put (ty9 := .int) C flX7_36 q_s112 rfl (fun _ _ _ h => by cases h; exact ⟨rfl, by decide +kernel⟩) rfl rfl dX7_run_155 ?_
                    refine q_aload_n C dX7_run_158 rfl rfl ?_
                    refine q_iconst (v := 0) C dX7_run_159 (by decide) ?_
                    refine q_ci1 C (c_X7_ends l (q_p (uM_step W U i_117) 112 6 2) pm (uM_step_5 W U i_117 pm h5W) hpm8 0) myX7_ends mlX7_88 q_s112 ⟨by decide, by decide⟩ (Nat.le_of_ble_eq_true rfl) dX7_run_160 ?_
                    exact hret _ _ _ _ dX7_run_163 (by rw [uM_run, if_neg hw, ← hU, et]; show _ = (uM_all U pm cnt cnt 0 U).1; rw [← hr_117, uM_all, if_pos c_139, if_neg c_147]) (by rw [uM_run, if_neg hw, ← hU, et]; show _ = (uM_all U pm cnt cnt 0 U).2; rw [← hr_117, uM_all, if_pos c_139, if_neg c_147])
            exact q_V_to (loop_117 (cnt - 0) 0 U (by omega) rfl hU18 hU5 hA9 rfl) ⟨rfl, rfl, trivial⟩ rfl
          · refine q_iconst (v := 1) C dX7_run_66 (by decide) ?_
            refine q_goto (tgt := 71) C dX7_run_67 (by decide) ?_
            refine q_put (ty9 := .boolean) C flX7_190 q_s112 rfl (fun _ _ _ h => by cases h; exact ⟨rfl, by decide +kernel⟩) rfl rfl dX7_run_71 ?_
            refine q_st (uQ_at_w1 T s true) ?_
            have et : uQ_text t n S = (T, cnt, s) := by {rw [← hr_19, uQ_loop, if_neg h_24]}
            have hw : (uQ_text t n S).2.2.1 = true ∨ (uQ_text t n S).2.2.2 < n := by {rw [et]; first | exact Or.inl hb_49 | exact Or.inr c_63}
            refine q_aload_n C dX7_run_74 rfl rfl ?_
            refine q_aload_n C dX7_run_75 rfl rfl ?_
            refine q_getI (x := 1) C flX7_190 q_s112 rfl dX7_run_76 (congrArg uO_b (show (true, s.2).1 = true from rfl)) ?_
            refine q_if_eq (tgt := 89) C dX7_run_79 (by decide) (fun h9 => absurd h9 (by decide)) (fun _ => ?_)
            refine q_aload_n C dX7_run_82 rfl rfl ?_
            refine q_getI (x := nI ((true, s.2).2)) C flX7_193 q_s112 rfl dX7_run_83 (uQ_at_14 T (true, s.2)) ?_
            refine q_goto (tgt := 90) C dX7_run_86 (by decide) ?_
            refine q_put (ty9 := .int) C flX7_29 q_s112 rfl (fun _ _ _ h => by cases h; exact ⟨rfl, by decide +kernel⟩) rfl rfl dX7_run_90 ?_
            refine q_aload_n C dX7_run_93 rfl rfl ?_
            refine q_iconst (v := 0) C dX7_run_94 (by decide) ?_
            refine q_put (ty9 := .int) C flX7_187 q_s112 rfl (fun _ _ _ h => by cases h; exact ⟨rfl, by decide +kernel⟩) rfl rfl dX7_run_95 ?_
            refine q_aload_n C dX7_run_98 rfl rfl ?_
            refine q_getI (x := 1) C flX7_190 q_s112 rfl dX7_run_99 (congrArg uO_b (show (true, s.2).1 = true from rfl)) ?_
            refine q_if_eq (tgt := 111) C dX7_run_102 (by decide) (fun h9 => absurd h9 (by decide)) (fun _ => ?_)
            refine q_aload_n C dX7_run_105 rfl rfl ?_
            refine q_iconst (v := 1) C dX7_run_106 (by decide) ?_
            refine q_ci1 C (c_X7_fails l (q_p (q_p (uQ_at T (true, s.2)) 112 16 (nI ((true, s.2).2))) 112 13 0) 1) myX7_fails mlX7_98 q_s112 ⟨by decide, by decide⟩ (Nat.le_of_ble_eq_true rfl) dX7_run_107 ?_
            exact hret _ _ _ _ dX7_run_110 (by rw [uM_run, if_pos hw]) (by rw [uM_run, if_pos hw, et]; rfl)
        · refine q_getI (x := 1) C flX7_190 q_s112 rfl dX7_run_49 (congrArg uO_b hb_49) ?_
          refine q_if_ne (tgt := 66) C dX7_run_52 (by decide) (fun _ => ?_) (fun h9 => absurd h9 (by decide))
          refine q_iconst (v := 1) C dX7_run_66 (by decide) ?_
          refine q_goto (tgt := 71) C dX7_run_67 (by decide) ?_
          refine q_put (ty9 := .boolean) C flX7_190 q_s112 rfl (fun _ _ _ h => by cases h; exact ⟨rfl, by decide +kernel⟩) rfl rfl dX7_run_71 ?_
          refine q_st (uQ_at_w1 T s true) ?_
          have et : uQ_text t n S = (T, cnt, s) := by {rw [← hr_19, uQ_loop, if_neg h_24]}
          have hw : (uQ_text t n S).2.2.1 = true ∨ (uQ_text t n S).2.2.2 < n := by {rw [et]; first | exact Or.inl hb_49 | exact Or.inr c_63}
          refine q_aload_n C dX7_run_74 rfl rfl ?_
          refine q_aload_n C dX7_run_75 rfl rfl ?_
          refine q_getI (x := 1) C flX7_190 q_s112 rfl dX7_run_76 (congrArg uO_b (show (true, s.2).1 = true from rfl)) ?_
          refine q_if_eq (tgt := 89) C dX7_run_79 (by decide) (fun h9 => absurd h9 (by decide)) (fun _ => ?_)
          refine q_aload_n C dX7_run_82 rfl rfl ?_
          refine q_getI (x := nI ((true, s.2).2)) C flX7_193 q_s112 rfl dX7_run_83 (uQ_at_14 T (true, s.2)) ?_
          refine q_goto (tgt := 90) C dX7_run_86 (by decide) ?_
          refine q_put (ty9 := .int) C flX7_29 q_s112 rfl (fun _ _ _ h => by cases h; exact ⟨rfl, by decide +kernel⟩) rfl rfl dX7_run_90 ?_
          refine q_aload_n C dX7_run_93 rfl rfl ?_
          refine q_iconst (v := 0) C dX7_run_94 (by decide) ?_
          refine q_put (ty9 := .int) C flX7_187 q_s112 rfl (fun _ _ _ h => by cases h; exact ⟨rfl, by decide +kernel⟩) rfl rfl dX7_run_95 ?_
          refine q_aload_n C dX7_run_98 rfl rfl ?_
          refine q_getI (x := 1) C flX7_190 q_s112 rfl dX7_run_99 (congrArg uO_b (show (true, s.2).1 = true from rfl)) ?_
          refine q_if_eq (tgt := 111) C dX7_run_102 (by decide) (fun h9 => absurd h9 (by decide)) (fun _ => ?_)
          refine q_aload_n C dX7_run_105 rfl rfl ?_
          refine q_iconst (v := 1) C dX7_run_106 (by decide) ?_
          refine q_ci1 C (c_X7_fails l (q_p (q_p (uQ_at T (true, s.2)) 112 16 (nI ((true, s.2).2))) 112 13 0) 1) myX7_fails mlX7_98 q_s112 ⟨by decide, by decide⟩ (Nat.le_of_ble_eq_true rfl) dX7_run_107 ?_
          exact hret _ _ _ _ dX7_run_110 (by rw [uM_run, if_pos hw]) (by rw [uM_run, if_pos hw, et]; rfl)
  exact q_V_to (loop_19 (61 - 0) 0 (uQ_ordS t n (q_p S 112 18 0) 0 (false, 0)) (uQ_ordC t n 0 (false, 0)) (uP_s5 t n (false, 0)) (by omega) ((uQ_ordS_k _ _ _ _ _ 118 (by decide) (by decide)).trans ht) ((uQ_ordS_f _ _ _ _ _ 13 (by decide)).trans hn) (uQ_ordS_18 _ _ _ _ _ rfl) ((uQ_ordS_f _ _ _ _ _ 5 (by decide)).trans hpm) (uQ_ordC_le _ _ _ _ rfl (Nat.zero_le _)) (uP_s5_le _ _ (Nat.zero_le _)) (Nat.zero_le _) rfl) ⟨rfl, trivial⟩ rfl
