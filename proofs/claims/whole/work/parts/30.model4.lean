theorem c_X7_matter (l : Launch) (S : q_St) (M : Nat) (hM : S 113 0 = nI M) (hM8 : M ≤ 8) (pm : Nat) (hpm : S 112 5 = nI pm) (hpm8 : pm ≤ 8) : q_Fi l yX7_matter kX7_matter 4 [.ref 112] S ((uM_ends (uMd_matter (uM_keep S) M) pm).1) ((uM_ends (uMd_matter (uM_keep S) M) pm).2) := by
  refine q_Fi_of (maxL := 1) rfl (by decide +kernel) (fun ad => Nat.le_of_ble_eq_true rfl) rfl ?_
  intro K C hret
  have C : q_Cx K cX7_matter RX7 4 1 := C
  show q_V l K 0 [(0, .ref 112)] [] S
  refine q_aload_n C dX7_matter_0 rfl rfl ?_
  refine q_cv0 C (c_X7_keep l S) myX7_keep mlX7_81 q_s112 ⟨by decide, by decide⟩ (Nat.le_of_ble_eq_true rfl) dX7_matter_1 ?_
  refine q_aload_n C dX7_matter_4 rfl rfl ?_
  refine q_aload_n C dX7_matter_5 rfl rfl ?_
  refine q_ci0 C (c_X7_doMatter l (uM_keep S) M hM hM8) myX7_doMatter mlX7_84 q_s112 ⟨by decide, by decide⟩ (Nat.le_of_ble_eq_true rfl) dX7_matter_6 ?_
  refine q_ci1 C (c_X7_ends l ((uMd_matter (uM_keep S) M).2) pm (((uMd_matter_fr (uM_keep S) M).2 5 (Or.inl (by decide))).trans hpm) hpm8 ((uMd_matter (uM_keep S) M).1)) myX7_ends mlX7_88 q_s112 ⟨by decide, by decide⟩ (Nat.le_of_ble_eq_true rfl) dX7_matter_9 ?_
  exact hret _ _ _ _ dX7_matter_12 rfl rfl
theorem c_X7_set (l : Launch) (S : q_St) (M : Nat) (hM : S 113 0 = nI M) (hM8 : M ≤ 8) (pm : Nat) (hpm : S 112 5 = nI pm) (hpm8 : pm ≤ 8) (x : Int32) (y : Int32) (a : Int32) : q_Fi l yX7_set kX7_set 5 [.ref 112, .int x, .int y, .int a] S ((uM_ends (uMd_set (uM_keep S) M x y a) pm).1) ((uM_ends (uMd_set (uM_keep S) M x y a) pm).2) := by
  refine q_Fi_of (maxL := 4) rfl (by decide +kernel) (fun ad => Nat.le_of_ble_eq_true rfl) rfl ?_
  intro K C hret
  have C : q_Cx K cX7_set RX7 5 4 := C
  show q_V l K 0 [(0, .ref 112), (1, .int x), (2, .int y), (3, .int a)] [] S
  refine q_aload_n C dX7_set_0 rfl rfl ?_
  refine q_cv0 C (c_X7_keep l S) myX7_keep mlX7_81 q_s112 ⟨by decide, by decide⟩ (Nat.le_of_ble_eq_true rfl) dX7_set_1 ?_
  refine q_aload_n C dX7_set_4 rfl rfl ?_
  refine q_aload_n C dX7_set_5 rfl rfl ?_
  refine q_iload_n C dX7_set_6 rfl rfl ?_
  refine q_iload_n C dX7_set_7 rfl rfl ?_
  refine q_iload_n C dX7_set_8 rfl rfl ?_
  refine q_ci3 C (c_X7_doSet l (uM_keep S) M hM hM8 x y a) myX7_doSet mlX7_104 q_s112 ⟨by decide, by decide⟩ (Nat.le_of_ble_eq_true rfl) dX7_set_9 ?_
  refine q_ci1 C (c_X7_ends l ((uMd_set (uM_keep S) M x y a).2) pm (((uMd_set_fr (uM_keep S) M x y a).2 5 (Or.inl (by decide))).trans hpm) hpm8 ((uMd_set (uM_keep S) M x y a).1)) myX7_ends mlX7_88 q_s112 ⟨by decide, by decide⟩ (Nat.le_of_ble_eq_true rfl) dX7_set_12 ?_
  exact hret _ _ _ _ dX7_set_15 rfl rfl
theorem c_X7_ask (l : Launch) (S : q_St) (M : Nat) (hM : S 113 0 = nI M) (hM8 : M ≤ 8) (pm : Nat) (hpm : S 112 5 = nI pm) (hpm8 : pm ≤ 8) (x : Int32) (y : Int32) : q_Fi l yX7_ask kX7_ask 6 [.ref 112, .int x, .int y] S ((uM_ends (uMd_ask (uM_keep S) M x y) pm).1) ((uM_ends (uMd_ask (uM_keep S) M x y) pm).2) := by
  refine q_Fi_of (maxL := 3) rfl (by decide +kernel) (fun ad => Nat.le_of_ble_eq_true rfl) rfl ?_
  intro K C hret
  have C : q_Cx K cX7_ask RX7 6 3 := C
  show q_V l K 0 [(0, .ref 112), (1, .int x), (2, .int y)] [] S
  refine q_aload_n C dX7_ask_0 rfl rfl ?_
  refine q_cv0 C (c_X7_keep l S) myX7_keep mlX7_81 q_s112 ⟨by decide, by decide⟩ (Nat.le_of_ble_eq_true rfl) dX7_ask_1 ?_
  refine q_aload_n C dX7_ask_4 rfl rfl ?_
  refine q_aload_n C dX7_ask_5 rfl rfl ?_
  refine q_iload_n C dX7_ask_6 rfl rfl ?_
  refine q_iload_n C dX7_ask_7 rfl rfl ?_
  refine q_ci2 C (c_X7_doAsk l (uM_keep S) M hM hM8 x y) myX7_doAsk mlX7_123 q_s112 ⟨by decide, by decide⟩ (Nat.le_of_ble_eq_true rfl) dX7_ask_8 ?_
  refine q_ci1 C (c_X7_ends l ((uMd_ask (uM_keep S) M x y).2) pm (((uMd_ask_fr (uM_keep S) M x y).2 5 (Or.inl (by decide))).trans hpm) hpm8 ((uMd_ask (uM_keep S) M x y).1)) myX7_ends mlX7_88 q_s112 ⟨by decide, by decide⟩ (Nat.le_of_ble_eq_true rfl) dX7_ask_11 ?_
  exact hret _ _ _ _ dX7_ask_14 rfl rfl
theorem c_X7_decide (l : Launch) (S : q_St) (M : Nat) (hM : S 113 0 = nI M) (hM8 : M ≤ 8) (N : Nat) (hN : S 113 5 = nI N) (hNd : ∀ m, m < M → S 113 (32 + 14 * m) = 0 → N < 8) (pm : Nat) (hpm : S 112 5 = nI pm) (hpm8 : pm ≤ 8) (x : Int32) : q_Fi l yX7_decide kX7_decide 5 [.ref 112, .int x] S ((uM_ends (uMd_decide (uM_keep S) M N x) pm).1) ((uM_ends (uMd_decide (uM_keep S) M N x) pm).2) := by
  refine q_Fi_of (maxL := 2) rfl (by decide +kernel) (fun ad => Nat.le_of_ble_eq_true rfl) rfl ?_
  intro K C hret
  have C : q_Cx K cX7_decide RX7 5 2 := C
  show q_V l K 0 [(0, .ref 112), (1, .int x)] [] S
  refine q_aload_n C dX7_decide_0 rfl rfl ?_
  refine q_cv0 C (c_X7_keep l S) myX7_keep mlX7_81 q_s112 ⟨by decide, by decide⟩ (Nat.le_of_ble_eq_true rfl) dX7_decide_1 ?_
  refine q_aload_n C dX7_decide_4 rfl rfl ?_
  refine q_aload_n C dX7_decide_5 rfl rfl ?_
  refine q_iload_n C dX7_decide_6 rfl rfl ?_
  refine q_ci1 C (c_X7_doDecide l (uM_keep S) M hM hM8 N hN hNd x) myX7_doDecide mlX7_130 q_s112 ⟨by decide, by decide⟩ (Nat.le_of_ble_eq_true rfl) dX7_decide_7 ?_
  refine q_ci1 C (c_X7_ends l ((uMd_decide (uM_keep S) M N x).2) pm (((uMd_decide_fr (uM_keep S) M N x).2 5 (Or.inl (by decide))).trans hpm) hpm8 ((uMd_decide (uM_keep S) M N x).1)) myX7_ends mlX7_88 q_s112 ⟨by decide, by decide⟩ (Nat.le_of_ble_eq_true rfl) dX7_decide_10 ?_
  exact hret _ _ _ _ dX7_decide_13 rfl rfl
theorem c_X7_tell (l : Launch) (S : q_St) (M : Nat) (hM : S 113 0 = nI M) (hM8 : M ≤ 8) (pm : Nat) (hpm : S 112 5 = nI pm) (hpm8 : pm ≤ 8) (x : Int32) (y : Int32) : q_Fi l yX7_tell kX7_tell 5 [.ref 112, .int x, .int y] S ((uM_ends (uMd_tell (uM_keep S) M x y) pm).1) ((uM_ends (uMd_tell (uM_keep S) M x y) pm).2) := by
  refine q_Fi_of (maxL := 3) rfl (by decide +kernel) (fun ad => Nat.le_of_ble_eq_true rfl) rfl ?_
  intro K C hret
  have C : q_Cx K cX7_tell RX7 5 3 := C
  show q_V l K 0 [(0, .ref 112), (1, .int x), (2, .int y)] [] S
  refine q_aload_n C dX7_tell_0 rfl rfl ?_
  refine q_cv0 C (c_X7_keep l S) myX7_keep mlX7_81 q_s112 ⟨by decide, by decide⟩ (Nat.le_of_ble_eq_true rfl) dX7_tell_1 ?_
  refine q_aload_n C dX7_tell_4 rfl rfl ?_
  refine q_aload_n C dX7_tell_5 rfl rfl ?_
  refine q_iload_n C dX7_tell_6 rfl rfl ?_
  refine q_iload_n C dX7_tell_7 rfl rfl ?_
  refine q_ci2 C (c_X7_doTell l (uM_keep S) M hM hM8 x y) myX7_doTell mlX7_137 q_s112 ⟨by decide, by decide⟩ (Nat.le_of_ble_eq_true rfl) dX7_tell_8 ?_
  refine q_ci1 C (c_X7_ends l ((uMd_tell (uM_keep S) M x y).2) pm (((uMd_tell_fr (uM_keep S) M x y).2 5 (Or.inl (by decide))).trans hpm) hpm8 ((uMd_tell (uM_keep S) M x y).1)) myX7_ends mlX7_88 q_s112 ⟨by decide, by decide⟩ (Nat.le_of_ble_eq_true rfl) dX7_tell_11 ?_
  exact hret _ _ _ _ dX7_tell_14 rfl rfl
theorem c_X7_faint (l : Launch) (S : q_St) (M : Nat) (hM : S 113 0 = nI M) (hM8 : M ≤ 8) (pm : Nat) (hpm : S 112 5 = nI pm) (hpm8 : pm ≤ 8) : q_Fi l yX7_faint kX7_faint 4 [.ref 112] S ((uM_ends (uMd_faint (uM_keep S) M) pm).1) ((uM_ends (uMd_faint (uM_keep S) M) pm).2) := by
  refine q_Fi_of (maxL := 1) rfl (by decide +kernel) (fun ad => Nat.le_of_ble_eq_true rfl) rfl ?_
  intro K C hret
  have C : q_Cx K cX7_faint RX7 4 1 := C
  show q_V l K 0 [(0, .ref 112)] [] S
  refine q_aload_n C dX7_faint_0 rfl rfl ?_
  refine q_cv0 C (c_X7_keep l S) myX7_keep mlX7_81 q_s112 ⟨by decide, by decide⟩ (Nat.le_of_ble_eq_true rfl) dX7_faint_1 ?_
  refine q_aload_n C dX7_faint_4 rfl rfl ?_
  refine q_aload_n C dX7_faint_5 rfl rfl ?_
  refine q_ci0 C (c_X7_doFaint l (uM_keep S) M hM hM8) myX7_doFaint mlX7_140 q_s112 ⟨by decide, by decide⟩ (Nat.le_of_ble_eq_true rfl) dX7_faint_6 ?_
  refine q_ci1 C (c_X7_ends l ((uMd_faint (uM_keep S) M).2) pm (((uMd_faint_fr (uM_keep S) M).2 5 (Or.inl (by decide))).trans hpm) hpm8 ((uMd_faint (uM_keep S) M).1)) myX7_ends mlX7_88 q_s112 ⟨by decide, by decide⟩ (Nat.le_of_ble_eq_true rfl) dX7_faint_9 ?_
  exact hret _ _ _ _ dX7_faint_12 rfl rfl
theorem c_X7_wake (l : Launch) (S : q_St) (M : Nat) (hM : S 113 0 = nI M) (hM8 : M ≤ 8) (N : Nat) (hN : S 113 5 = nI N) (hW : uM_wkN (q_p (uM_keep S) 113 1 0) N M ≤ 8) (pm : Nat) (hpm : S 112 5 = nI pm) (hpm8 : pm ≤ 8) : q_Fi l yX7_wake kX7_wake 5 [.ref 112] S ((uM_ends (uMd_wake (uM_keep S) M N) pm).1) ((uM_ends (uMd_wake (uM_keep S) M N) pm).2) := by
  refine q_Fi_of (maxL := 1) rfl (by decide +kernel) (fun ad => Nat.le_of_ble_eq_true rfl) rfl ?_
  intro K C hret
  have C : q_Cx K cX7_wake RX7 5 1 := C
  show q_V l K 0 [(0, .ref 112)] [] S
  refine q_aload_n C dX7_wake_0 rfl rfl ?_
  refine q_cv0 C (c_X7_keep l S) myX7_keep mlX7_81 q_s112 ⟨by decide, by decide⟩ (Nat.le_of_ble_eq_true rfl) dX7_wake_1 ?_
  refine q_aload_n C dX7_wake_4 rfl rfl ?_
  refine q_aload_n C dX7_wake_5 rfl rfl ?_
  refine q_ci0 C (c_X7_doWake l (uM_keep S) M hM hM8 N hN hW) myX7_doWake mlX7_143 q_s112 ⟨by decide, by decide⟩ (Nat.le_of_ble_eq_true rfl) dX7_wake_6 ?_
  refine q_ci1 C (c_X7_ends l ((uMd_wake (uM_keep S) M N).2) pm (((uMd_wake_fr (uM_keep S) M N).2 5 (Or.inl (by decide))).trans hpm) hpm8 ((uMd_wake (uM_keep S) M N).1)) myX7_ends mlX7_88 q_s112 ⟨by decide, by decide⟩ (Nat.le_of_ble_eq_true rfl) dX7_wake_9 ?_
  exact hret _ _ _ _ dX7_wake_12 rfl rfl
theorem c_X7_sleep (l : Launch) (S : q_St) (pm : Nat) (hpm : S 112 5 = nI pm) (hpm8 : pm ≤ 8) (y : Int32) : q_Fi l yX7_sleep kX7_sleep 4 [.ref 112, .int y] S ((uM_ends (uMd_sleep (uM_keep S) y 1) pm).1) ((uM_ends (uMd_sleep (uM_keep S) y 1) pm).2) := by
  refine q_Fi_of (maxL := 2) rfl (by decide +kernel) (fun ad => Nat.le_of_ble_eq_true rfl) rfl ?_
  intro K C hret
  have C : q_Cx K cX7_sleep RX7 4 2 := C
  show q_V l K 0 [(0, .ref 112), (1, .int y)] [] S
  refine q_aload_n C dX7_sleep_0 rfl rfl ?_
  refine q_cv0 C (c_X7_keep l S) myX7_keep mlX7_81 q_s112 ⟨by decide, by decide⟩ (Nat.le_of_ble_eq_true rfl) dX7_sleep_1 ?_
  refine q_aload_n C dX7_sleep_4 rfl rfl ?_
  refine q_aload_n C dX7_sleep_5 rfl rfl ?_
  refine q_iload_n C dX7_sleep_6 rfl rfl ?_
  refine q_iconst (v := 1) C dX7_sleep_7 (by decide) ?_
  refine q_ci2 C (c_X7_doSleep l (uM_keep S) y 1) myX7_doSleep mlX7_149 q_s112 ⟨by decide, by decide⟩ (Nat.le_of_ble_eq_true rfl) dX7_sleep_8 ?_
  refine q_ci1 C (c_X7_ends l ((uMd_sleep (uM_keep S) y 1).2) pm (((uMd_sleep_fr (uM_keep S) y 1).2 5 (Or.inl (by decide))).trans hpm) hpm8 ((uMd_sleep (uM_keep S) y 1).1)) myX7_ends mlX7_88 q_s112 ⟨by decide, by decide⟩ (Nat.le_of_ble_eq_true rfl) dX7_sleep_11 ?_
  exact hret _ _ _ _ dX7_sleep_14 rfl rfl
theorem c_X7_rouse (l : Launch) (S : q_St) (pm : Nat) (hpm : S 112 5 = nI pm) (hpm8 : pm ≤ 8) (y : Int32) : q_Fi l yX7_rouse kX7_rouse 4 [.ref 112, .int y] S ((uM_ends (uMd_sleep (uM_keep S) y 0) pm).1) ((uM_ends (uMd_sleep (uM_keep S) y 0) pm).2) := by
  refine q_Fi_of (maxL := 2) rfl (by decide +kernel) (fun ad => Nat.le_of_ble_eq_true rfl) rfl ?_
  intro K C hret
  have C : q_Cx K cX7_rouse RX7 4 2 := C
  show q_V l K 0 [(0, .ref 112), (1, .int y)] [] S
  refine q_aload_n C dX7_rouse_0 rfl rfl ?_
  refine q_cv0 C (c_X7_keep l S) myX7_keep mlX7_81 q_s112 ⟨by decide, by decide⟩ (Nat.le_of_ble_eq_true rfl) dX7_rouse_1 ?_
  refine q_aload_n C dX7_rouse_4 rfl rfl ?_
  refine q_aload_n C dX7_rouse_5 rfl rfl ?_
  refine q_iload_n C dX7_rouse_6 rfl rfl ?_
  refine q_iconst (v := 0) C dX7_rouse_7 (by decide) ?_
  refine q_ci2 C (c_X7_doSleep l (uM_keep S) y 0) myX7_doSleep mlX7_149 q_s112 ⟨by decide, by decide⟩ (Nat.le_of_ble_eq_true rfl) dX7_rouse_8 ?_
  refine q_ci1 C (c_X7_ends l ((uMd_sleep (uM_keep S) y 0).2) pm (((uMd_sleep_fr (uM_keep S) y 0).2 5 (Or.inl (by decide))).trans hpm) hpm8 ((uMd_sleep (uM_keep S) y 0).1)) myX7_ends mlX7_88 q_s112 ⟨by decide, by decide⟩ (Nat.le_of_ble_eq_true rfl) dX7_rouse_11 ?_
  exact hret _ _ _ _ dX7_rouse_14 rfl rfl
theorem c_X7_inquire (l : Launch) (S : q_St) (M : Nat) (hM : S 113 0 = nI M) (hM8 : M ≤ 8) (pm : Nat) (hpm : S 112 5 = nI pm) (hpm8 : pm ≤ 8) (x : Int32) (y : Int32) (z : Int32) : q_Fi l yX7_inquire kX7_inquire 5 [.ref 112, .int x, .int y, .int z] S ((uM_ends (uMd_inq (uM_keep S) M x y z) pm).1) ((uM_ends (uMd_inq (uM_keep S) M x y z) pm).2) := by
  refine q_Fi_of (maxL := 4) rfl (by decide +kernel) (fun ad => Nat.le_of_ble_eq_true rfl) rfl ?_
  intro K C hret
  have C : q_Cx K cX7_inquire RX7 5 4 := C
  show q_V l K 0 [(0, .ref 112), (1, .int x), (2, .int y), (3, .int z)] [] S
  refine q_aload_n C dX7_inquire_0 rfl rfl ?_
  refine q_cv0 C (c_X7_keep l S) myX7_keep mlX7_81 q_s112 ⟨by decide, by decide⟩ (Nat.le_of_ble_eq_true rfl) dX7_inquire_1 ?_
  refine q_aload_n C dX7_inquire_4 rfl rfl ?_
  refine q_aload_n C dX7_inquire_5 rfl rfl ?_
  refine q_iload_n C dX7_inquire_6 rfl rfl ?_
  refine q_iload_n C dX7_inquire_7 rfl rfl ?_
  refine q_iload_n C dX7_inquire_8 rfl rfl ?_
  refine q_ci3 C (c_X7_doInquire l (uM_keep S) M hM hM8 x y z) myX7_doInquire mlX7_152 q_s112 ⟨by decide, by decide⟩ (Nat.le_of_ble_eq_true rfl) dX7_inquire_9 ?_
  refine q_ci1 C (c_X7_ends l ((uMd_inq (uM_keep S) M x y z).2) pm (((uMd_inq_fr (uM_keep S) M x y z).2 5 (Or.inl (by decide))).trans hpm) hpm8 ((uMd_inq (uM_keep S) M x y z).1)) myX7_ends mlX7_88 q_s112 ⟨by decide, by decide⟩ (Nat.le_of_ble_eq_true rfl) dX7_inquire_12 ?_
  exact hret _ _ _ _ dX7_inquire_15 rfl rfl
theorem c_X7_pass (l : Launch) (S : q_St) (M : Nat) (hM : S 113 0 = nI M) (hM8 : M ≤ 8) (pm : Nat) (hpm : S 112 5 = nI pm) (hpm8 : pm ≤ 8) (h : Int32) : q_Fi l yX7_pass kX7_pass 5 [.ref 112, .int h] S ((uM_ends (uMd_pass (uM_keep S) M h) pm).1) ((uM_ends (uMd_pass (uM_keep S) M h) pm).2) := by
  refine q_Fi_of (maxL := 2) rfl (by decide +kernel) (fun ad => Nat.le_of_ble_eq_true rfl) rfl ?_
  intro K C hret
  have C : q_Cx K cX7_pass RX7 5 2 := C
  show q_V l K 0 [(0, .ref 112), (1, .int h)] [] S
  refine q_aload_n C dX7_pass_0 rfl rfl ?_
  refine q_cv0 C (c_X7_keep l S) myX7_keep mlX7_81 q_s112 ⟨by decide, by decide⟩ (Nat.le_of_ble_eq_true rfl) dX7_pass_1 ?_
  refine q_aload_n C dX7_pass_4 rfl rfl ?_
  refine q_aload_n C dX7_pass_5 rfl rfl ?_
  refine q_iload_n C dX7_pass_6 rfl rfl ?_
  refine q_ci1 C (c_X7_doPass l (uM_keep S) M hM hM8 h) myX7_doPass mlX7_155 q_s112 ⟨by decide, by decide⟩ (Nat.le_of_ble_eq_true rfl) dX7_pass_7 ?_
  refine q_ci1 C (c_X7_ends l ((uMd_pass (uM_keep S) M h).2) pm (((uMd_pass_fr (uM_keep S) M h).2 5 (Or.inl (by decide))).trans hpm) hpm8 ((uMd_pass (uM_keep S) M h).1)) myX7_ends mlX7_88 q_s112 ⟨by decide, by decide⟩ (Nat.le_of_ble_eq_true rfl) dX7_pass_10 ?_
  exact hret _ _ _ _ dX7_pass_13 rfl rfl
theorem c_X7_undo (l : Launch) (S : q_St) (pm : Nat) (hpm : S 112 5 = nI pm) (hpm8 : pm ≤ 8) : q_Fi l yX7_undo kX7_undo 1 [.ref 112] S ((uMq_undo S pm).1) ((uMq_undo S pm).2) := by
  refine q_Fi_of (maxL := 1) rfl (by decide +kernel) (fun ad => Nat.le_of_ble_eq_true rfl) rfl ?_
  intro K C hret
  have C : q_Cx K cX7_undo RX7 1 1 := C
  show q_V l K 0 [(0, .ref 112)] [] S
  refine q_aload_n C dX7_undo_0 rfl rfl ?_
  refine q_aload_n C dX7_undo_1 rfl rfl ?_
  refine q_getI (x := nI pm) C flX7_45 q_s112 rfl dX7_undo_2 hpm ?_
  refine q_if_neN (a := pm) (tgt := 12) C dX7_undo_5 (by decide) rfl (by omega) (fun c_5 => ?_) (fun c_5 => ?_)
  · refine q_iconst (v := 0) C dX7_undo_12 (by decide) ?_
    refine q_put (ty9 := .int) C flX7_36 q_s112 rfl (fun _ _ _ h => by cases h; exact ⟨rfl, by decide +kernel⟩) rfl rfl dX7_undo_13 ?_
    refine q_aload_n C dX7_undo_16 rfl rfl ?_
    refine q_getI (x := 0) C flX7_36 q_s112 rfl dX7_undo_17 rfl ?_
    refine q_if_le (tgt := 25) C dX7_undo_20 (by decide) (fun _ => ?_) (fun h9 => absurd h9 (by decide))
    refine q_aload_n C dX7_undo_25 rfl rfl ?_
    refine q_dup C rfl dX7_undo_26 ?_
    refine q_getI (x := nI pm) C flX7_45 q_s112 rfl dX7_undo_27 hpm ?_
    refine q_iconst (v := 1) C dX7_undo_30 (by decide) ?_
    refine q_isubN (a := pm) (b := 1) C dX7_undo_31 rfl rfl (by omega) ?_
    refine q_put (ty9 := .int) C flX7_45 q_s112 rfl (fun _ _ _ h => by cases h; exact ⟨rfl, by decide +kernel⟩) rfl rfl dX7_undo_32 ?_
    refine q_aload_n C dX7_undo_35 rfl rfl ?_
    refine q_getR C flX7_19 q_s112 rfl dX7_undo_36 ?_
    refine q_sipush (v := 144) C dX7_undo_39 (by decide) ?_
    refine q_aload_n C dX7_undo_42 rfl rfl ?_
    refine q_getI (x := nI (pm - 1)) C flX7_45 q_s112 rfl dX7_undo_43 rfl ?_
    refine q_imulN (a := 144) (b := pm - 1) C dX7_undo_46 rfl rfl ?_
    refine q_aload_n C dX7_undo_47 rfl rfl ?_
    refine q_getR C flX7_9 q_s112 rfl dX7_undo_48 ?_
    refine q_iconst (v := 0) C dX7_undo_51 (by decide) ?_
    refine q_sipush (v := 144) C dX7_undo_52 (by decide) ?_
    refine q_copyV (n := 144) (dp := 0) (sp := 144 * (pm - 1)) (f := (va_cpy (S 116) (S 113) (144 * (pm - 1)) 0 144)) C q_s116 q_s113  rfl rfl rfl mlX7_39 w_copyN w_copyS w_copyI (by omega) (by omega) (by decide) (by decide) (by decide) (Nat.le_of_ble_eq_true rfl) dX7_undo_55 rfl ?_
    refine q_aload_n C dX7_undo_58 rfl rfl ?_
    refine q_getI (x := nI (pm - 1)) C flX7_45 q_s112 rfl dX7_undo_59 rfl ?_
    exact hret _ _ _ _ dX7_undo_62 (by simp [uMq_undo, uM_bad, c_5]) (by simp [uMq_undo, uM_bad, c_5])
  · refine q_iconst (v := 1) C dX7_undo_8 (by decide) ?_
    refine q_goto (tgt := 13) C dX7_undo_9 (by decide) ?_
    refine q_put (ty9 := .int) C flX7_36 q_s112 rfl (fun _ _ _ h => by cases h; exact ⟨rfl, by decide +kernel⟩) rfl rfl dX7_undo_13 ?_
    refine q_aload_n C dX7_undo_16 rfl rfl ?_
    refine q_getI (x := 1) C flX7_36 q_s112 rfl dX7_undo_17 rfl ?_
    refine q_if_le (tgt := 25) C dX7_undo_20 (by decide) (fun h9 => absurd h9 (by decide)) (fun _ => ?_)
    refine q_iconst (v := 0) C dX7_undo_23 (by decide) ?_
    exact hret _ _ _ _ dX7_undo_24 (by simp [uMq_undo, uM_bad, c_5]) (by simp [uMq_undo, uM_bad, c_5])
theorem c_X7_save (l : Launch) (S : q_St) : q_Fi l yX7_save kX7_save 1 [.ref 112] S ((uMq_save S).1) ((uMq_save S).2) := by
  refine q_Fi_of (maxL := 1) rfl (by decide +kernel) (fun ad => Nat.le_of_ble_eq_true rfl) rfl ?_
  intro K C hret
  have C : q_Cx K cX7_save RX7 1 1 := C
  show q_V l K 0 [(0, .ref 112)] [] S
  refine q_aload_n C dX7_save_0 rfl rfl ?_
  refine q_iconst (v := 0) C dX7_save_1 (by decide) ?_
  refine q_put (ty9 := .int) C flX7_36 q_s112 rfl (fun _ _ _ h => by cases h; exact ⟨rfl, by decide +kernel⟩) rfl rfl dX7_save_2 ?_
  refine q_aload_n C dX7_save_5 rfl rfl ?_
  refine q_getR C flX7_9 q_s112 rfl dX7_save_6 ?_
  refine q_iconst (v := 0) C dX7_save_9 (by decide) ?_
  refine q_aload_n C dX7_save_10 rfl rfl ?_
  refine q_getR C flX7_16 q_s112 rfl dX7_save_11 ?_
  refine q_iconst (v := 0) C dX7_save_14 (by decide) ?_
  refine q_sipush (v := 144) C dX7_save_15 (by decide) ?_
  refine q_copyV (n := 144) (dp := 0) (sp := 0) (f := (va_cpy (S 113) (S 115) 0 0 144)) C q_s113 q_s115  rfl rfl rfl mlX7_39 w_copyN w_copyS w_copyI (by omega) (by omega) (by decide) (by decide) (by decide) (Nat.le_of_ble_eq_true rfl) dX7_save_18 rfl ?_
  refine q_aload_n C dX7_save_21 rfl rfl ?_
  refine q_iconst (v := 1) C dX7_save_22 (by decide) ?_
  refine q_put (ty9 := .boolean) C flX7_234 q_s112 rfl (fun _ _ _ h => by cases h; exact ⟨rfl, by decide +kernel⟩) rfl rfl dX7_save_23 ?_
  refine q_aload_n C dX7_save_26 rfl rfl ?_
  refine q_getR C flX7_9 q_s112 rfl dX7_save_27 ?_
  refine q_iconst (v := 0) C dX7_save_30 (by decide) ?_
  refine q_ialdN (i := 0) (x := S 113 0) C rfl q_s113 (by omega) (by decide) dX7_save_31 rfl ?_
  exact hret _ _ _ _ dX7_save_32 (by simp [uMq_save, uM_bad, q_sum]) (by simp [uMq_save, uM_bad, q_sum])
theorem c_X7_restore (l : Launch) (S : q_St) : q_Fi l yX7_restore kX7_restore 1 [.ref 112] S ((uMq_restore S).1) ((uMq_restore S).2) := by
  refine q_Fi_of (maxL := 1) rfl (by decide +kernel) (fun ad => Nat.le_of_ble_eq_true rfl) rfl ?_
  intro K C hret
  have C : q_Cx K cX7_restore RX7 1 1 := C
  show q_V l K 0 [(0, .ref 112)] [] S
  refine q_aload_n C dX7_restore_0 rfl rfl ?_
  refine q_aload_n C dX7_restore_1 rfl rfl ?_
  refine q_getI (x := S 112 3) C flX7_234 q_s112 rfl dX7_restore_2 rfl ?_
  refine q_if_eq (tgt := 12) C dX7_restore_5 (by decide)  (fun c_5 => ?_) (fun c_5 => ?_)
  · refine q_iconst (v := 1) C dX7_restore_12 (by decide) ?_
    refine q_put (ty9 := .int) C flX7_36 q_s112 rfl (fun _ _ _ h => by cases h; exact ⟨rfl, by decide +kernel⟩) rfl rfl dX7_restore_13 ?_
    refine q_aload_n C dX7_restore_16 rfl rfl ?_
    refine q_getI (x := 1) C flX7_36 q_s112 rfl dX7_restore_17 rfl ?_
    refine q_if_le (tgt := 25) C dX7_restore_20 (by decide) (fun h9 => absurd h9 (by decide)) (fun _ => ?_)
    refine q_iconst (v := 0) C dX7_restore_23 (by decide) ?_
    exact hret _ _ _ _ dX7_restore_24 (by simp [uMq_restore, uM_bad, c_5]) (by simp [uMq_restore, uM_bad, c_5])
  · refine q_iconst (v := 0) C dX7_restore_8 (by decide) ?_
    refine q_goto (tgt := 13) C dX7_restore_9 (by decide) ?_
    refine q_put (ty9 := .int) C flX7_36 q_s112 rfl (fun _ _ _ h => by cases h; exact ⟨rfl, by decide +kernel⟩) rfl rfl dX7_restore_13 ?_
    refine q_aload_n C dX7_restore_16 rfl rfl ?_
    refine q_getI (x := 0) C flX7_36 q_s112 rfl dX7_restore_17 rfl ?_
    refine q_if_le (tgt := 25) C dX7_restore_20 (by decide) (fun _ => ?_) (fun h9 => absurd h9 (by decide))
    refine q_aload_n C dX7_restore_25 rfl rfl ?_
    refine q_getR C flX7_16 q_s112 rfl dX7_restore_26 ?_
    refine q_iconst (v := 0) C dX7_restore_29 (by decide) ?_
    refine q_aload_n C dX7_restore_30 rfl rfl ?_
    refine q_getR C flX7_9 q_s112 rfl dX7_restore_31 ?_
    refine q_iconst (v := 0) C dX7_restore_34 (by decide) ?_
    refine q_sipush (v := 144) C dX7_restore_35 (by decide) ?_
    refine q_copyV (n := 144) (dp := 0) (sp := 0) (f := (va_cpy (S 115) (S 113) 0 0 144)) C q_s115 q_s113  rfl rfl rfl mlX7_39 w_copyN w_copyS w_copyI (by omega) (by omega) (by decide) (by decide) (by decide) (Nat.le_of_ble_eq_true rfl) dX7_restore_38 rfl ?_
    refine q_aload_n C dX7_restore_41 rfl rfl ?_
    refine q_iconst (v := 0) C dX7_restore_42 (by decide) ?_
    refine q_put (ty9 := .int) C flX7_45 q_s112 rfl (fun _ _ _ h => by cases h; exact ⟨rfl, by decide +kernel⟩) rfl rfl dX7_restore_43 ?_
    refine q_aload_n C dX7_restore_46 rfl rfl ?_
    refine q_getR C flX7_9 q_s112 rfl dX7_restore_47 ?_
    refine q_iconst (v := 0) C dX7_restore_50 (by decide) ?_
    refine q_ialdN (i := 0) (x := S 115 0) C rfl q_s113 (by omega) (by decide) dX7_restore_51 rfl ?_
    exact hret _ _ _ _ dX7_restore_52 (by simp [uMq_restore, uM_bad, c_5]) (by simp [uMq_restore, uM_bad, c_5])
theorem c_X7_append (l : Launch) (S : q_St) (n : Nat) (hn : S 112 13 = nI n) (hn60 : n ≤ 60) (c : Int32) (hc : ∃ z, z < 65536 ∧ c = nI z) : q_Fi l yX7_append kX7_append 1 [.ref 112, .int c] S ((uMq_append S n c).1) ((uMq_append S n c).2) := by
  refine q_Fi_of (maxL := 2) rfl (by decide +kernel) (fun ad => Nat.le_of_ble_eq_true rfl) rfl ?_
  intro K C hret
  have C : q_Cx K cX7_append RX7 1 2 := C
  show q_V l K 0 [(0, .ref 112), (1, .int c)] [] S
  refine q_aload_n C dX7_append_0 rfl rfl ?_
  refine q_aload_n C dX7_append_1 rfl rfl ?_
  refine q_getI (x := nI n) C flX7_187 q_s112 rfl dX7_append_2 hn ?_
  refine q_bipush (v := 60) C dX7_append_5 (by decide) ?_
  refine q_icmp_neN (a := n) (b := 60) (tgt := 14) C dX7_append_7 (by decide) rfl rfl (by omega) (by omega) (fun c_7 => ?_) (fun c_7 => ?_)
  · refine q_iconst (v := 0) C dX7_append_14 (by decide) ?_
    refine q_put (ty9 := .int) C flX7_36 q_s112 rfl (fun _ _ _ h => by cases h; exact ⟨rfl, by decide +kernel⟩) rfl rfl dX7_append_15 ?_
    refine q_aload_n C dX7_append_18 rfl rfl ?_
    refine q_getI (x := 0) C flX7_36 q_s112 rfl dX7_append_19 rfl ?_
    refine q_if_le (tgt := 27) C dX7_append_22 (by decide) (fun _ => ?_) (fun h9 => absurd h9 (by decide))
    refine q_aload_n C dX7_append_27 rfl rfl ?_
    refine q_getR C flX7_26 q_s112 rfl dX7_append_28 ?_
    refine q_aload_n C dX7_append_31 rfl rfl ?_
    refine q_getI (x := nI n) C flX7_187 q_s112 rfl dX7_append_32 hn ?_
    refine q_iload_n C dX7_append_35 rfl rfl ?_
    refine q_castV (i := n) (v := c) C rfl q_s118 (by omega) (by decide) dX7_append_36 (q_nar_c hc) ?_
    refine q_aload_n C dX7_append_37 rfl rfl ?_
    refine q_dup C rfl dX7_append_38 ?_
    refine q_getI (x := nI n) C flX7_187 q_s112 rfl dX7_append_39 hn ?_
    refine q_iconst (v := 1) C dX7_append_42 (by decide) ?_
    refine q_iaddN (a := n) (b := 1) C dX7_append_43 rfl rfl ?_
    refine q_put (ty9 := .int) C flX7_187 q_s112 rfl (fun _ _ _ h => by cases h; exact ⟨rfl, by decide +kernel⟩) rfl rfl dX7_append_44 ?_
    refine q_aload_n C dX7_append_47 rfl rfl ?_
    refine q_getI (x := nI (n + 1)) C flX7_187 q_s112 rfl dX7_append_48 rfl ?_
    exact hret _ _ _ _ dX7_append_51 (by simp [uMq_append, uM_bad, c_7]) (by simp [uMq_append, uM_bad, c_7])
  · refine q_iconst (v := 1) C dX7_append_10 (by decide) ?_
    refine q_goto (tgt := 15) C dX7_append_11 (by decide) ?_
    refine q_put (ty9 := .int) C flX7_36 q_s112 rfl (fun _ _ _ h => by cases h; exact ⟨rfl, by decide +kernel⟩) rfl rfl dX7_append_15 ?_
    refine q_aload_n C dX7_append_18 rfl rfl ?_
    refine q_getI (x := 1) C flX7_36 q_s112 rfl dX7_append_19 rfl ?_
    refine q_if_le (tgt := 27) C dX7_append_22 (by decide) (fun h9 => absurd h9 (by decide)) (fun _ => ?_)
    refine q_iconst (v := 0) C dX7_append_25 (by decide) ?_
    exact hret _ _ _ _ dX7_append_26 (by simp [uMq_append, uM_bad, c_7]) (by simp [uMq_append, uM_bad, c_7])
theorem c_X7_character (l : Launch) (S : q_St) (n : Nat) (hn : S 112 11 = nI n) (hn60 : n ≤ 60) (hch : ∀ j, j < n → ∃ z, z < 65536 ∧ S 117 j = nI z) (x : Int32) : q_Fi l yX7_character kX7_character 2 [.ref 112, .int x] S ((uMq_char S n x).1) ((uMq_char S n x).2) := by
  refine q_Fi_of (maxL := 2) rfl (by decide +kernel) (fun ad => Nat.le_of_ble_eq_true rfl) (by unfold uMq_char; split; (rename_i h9; obtain ⟨w, hw9, rfl⟩ := uM_okK (M := n) rfl (by omega) h9; rw [uN_nI (by omega)]; exact q_narrow_c (hch w hw9)); rfl) ?_
  intro K C hret
  have C : q_Cx K cX7_character RX7 2 2 := C
  show q_V l K 0 [(0, .ref 112), (1, .int x)] [] S
  refine q_aload_n C dX7_character_0 rfl rfl ?_
  refine q_iload_n C dX7_character_1 rfl rfl ?_
  refine q_iconst (v := 0) C dX7_character_2 (by decide) ?_
  refine q_aload_n C dX7_character_3 rfl rfl ?_
  refine q_getI (x := nI n) C flX7_161 q_s112 rfl dX7_character_4 hn ?_
  refine q_iconst (v := 1) C dX7_character_7 (by decide) ?_
  refine q_isub C dX7_character_8 ?_
  by_cases h_9 : 0 ≤ x ∧ x ≤ ((nI n) - 1)
  · refine q_si3 C (q_Fi.cv (if_pos h_9) (c_X7_in l S x 0 ((nI n) - 1))) msX7_in rfl mlX7_58 ⟨by decide, by decide⟩ (Nat.le_of_ble_eq_true rfl) dX7_character_9 ?_
    obtain ⟨w, hw9, rfl⟩ := uM_okK (M := n) rfl (by omega) h_9
    refine q_if_eq (tgt := 19) C dX7_character_12 (by decide) (fun h9 => absurd h9 (by decide)) (fun _ => ?_)
    refine q_iconst (v := 0) C dX7_character_15 (by decide) ?_
    refine q_goto (tgt := 20) C dX7_character_16 (by decide) ?_
    refine q_put (ty9 := .int) C flX7_36 q_s112 rfl (fun _ _ _ h => by cases h; exact ⟨rfl, by decide +kernel⟩) rfl rfl dX7_character_20 ?_
    refine q_aload_n C dX7_character_23 rfl rfl ?_
    refine q_getI (x := 0) C flX7_36 q_s112 rfl dX7_character_24 rfl ?_
    refine q_if_le (tgt := 35) C dX7_character_27 (by decide) (fun _ => ?_) (fun h9 => absurd h9 (by decide))
    refine q_aload_n C dX7_character_35 rfl rfl ?_
    refine q_getR C flX7_22 q_s112 rfl dX7_character_36 ?_
    refine q_iload_n C dX7_character_39 rfl rfl ?_
    refine q_caldN (i := w) (x := S 117 w) C rfl q_s117 (by omega) (by decide) dX7_character_40 rfl ?_
    exact hret _ _ _ _ dX7_character_41 (by simp [uMq_char, uM_bad, if_pos h_9, h_9, uN_nI (show w < 2 ^ 31 by omega)]) (by simp [uMq_char, uM_bad, if_pos h_9, h_9, uN_nI (show w < 2 ^ 31 by omega)])
  · refine q_si3 C (q_Fi.cv (if_neg h_9) (c_X7_in l S x 0 ((nI n) - 1))) msX7_in rfl mlX7_58 ⟨by decide, by decide⟩ (Nat.le_of_ble_eq_true rfl) dX7_character_9 ?_
    refine q_if_eq (tgt := 19) C dX7_character_12 (by decide) (fun _ => ?_) (fun h9 => absurd h9 (by decide))
    refine q_iconst (v := 1) C dX7_character_19 (by decide) ?_
    refine q_put (ty9 := .int) C flX7_36 q_s112 rfl (fun _ _ _ h => by cases h; exact ⟨rfl, by decide +kernel⟩) rfl rfl dX7_character_20 ?_
    refine q_aload_n C dX7_character_23 rfl rfl ?_
    refine q_getI (x := 1) C flX7_36 q_s112 rfl dX7_character_24 rfl ?_
    refine q_if_le (tgt := 35) C dX7_character_27 (by decide) (fun h9 => absurd h9 (by decide)) (fun _ => ?_)
    refine q_bipush (v := 32) C dX7_character_30 (by decide) ?_
    refine q_goto (tgt := 41) C dX7_character_32 (by decide) ?_
    exact hret _ _ _ _ dX7_character_41 (by simp [uMq_char, uM_bad, if_neg h_9, h_9]) (by simp [uMq_char, uM_bad, if_neg h_9, h_9])
theorem c_X7_says (l : Launch) (S : q_St) (q : uL_T) (c : Int32) (hq : q.1 < 60) (hc : ∃ z, z < 65536 ∧ c = nI z) : q_Fv l yX7_says kX7_says 1 [.ref 112, .int c] (uV_at S q) (uV_at S (uL_put c q)) := by
  refine q_Fv_of (maxL := 2) rfl (by decide +kernel) (fun ad => Nat.le_of_ble_eq_true rfl) ?_
  intro K C hret
  have C : q_Cx K cX7_says RX7 1 2 := C
  show q_V l K 0 [(0, .ref 112), (1, .int c)] [] (uV_at S q)
  refine q_aload_n C dX7_says_0 rfl rfl ?_
  refine q_getR C flX7_22 q_s112 rfl dX7_says_1 ?_
  refine q_aload_n C dX7_says_4 rfl rfl ?_
  refine q_getI (x := nI q.1) C flX7_161 q_s112 rfl dX7_says_5 rfl ?_
  refine q_iload_n C dX7_says_8 rfl rfl ?_
  refine q_castV (i := q.1) (v := c) C rfl q_s117 (by omega) (by decide) dX7_says_9 (q_nar_c hc) ?_
  refine q_aload_n C dX7_says_10 rfl rfl ?_
  refine q_dup C rfl dX7_says_11 ?_
  refine q_getI (x := nI q.1) C flX7_161 q_s112 rfl dX7_says_12 rfl ?_
  refine q_iconst (v := 1) C dX7_says_15 (by decide) ?_
  refine q_iaddN (a := q.1) (b := 1) C dX7_says_16 rfl rfl ?_
  refine q_put (ty9 := .int) C flX7_161 q_s112 rfl (fun _ _ _ h => by cases h; exact ⟨rfl, by decide +kernel⟩) rfl rfl dX7_says_17 ?_
  exact hret _ _ _ dX7_says_20 (uV_at_w S q c)
theorem c_X7_saysNumber1 (l : Launch) (S : q_St) (q : uL_T) (v : Nat) (hv : v < 10) (hq : q.1 < 60) : q_Fv l yX7_saysNumber kX7_saysNumber 2 [.ref 112, .int (nI v)] (uV_at S q) (uV_at S (uL_num v q)) := by
  refine q_Fv_of (maxL := 2) rfl (by decide +kernel) (fun ad => Nat.le_of_ble_eq_true rfl) ?_
  intro K C hret
  have C : q_Cx K cX7_saysNumber RX7 2 2 := C
  show q_V l K 0 [(0, .ref 112), (1, .int (nI v))] [] (uV_at S q)
  refine q_iload_n C dX7_saysNumber_0 rfl rfl ?_
  refine q_bipush (v := 9) C dX7_saysNumber_1 (by decide) ?_
  refine q_icmp_leN (a := v) (b := 9) (tgt := 14) C dX7_saysNumber_3 (by decide) rfl rfl (by omega) (by omega) (fun c_3 => ?_) (fun c_3 => absurd c_3 (by omega))
  refine q_aload_n C dX7_saysNumber_14 rfl rfl ?_
  refine q_bipush (v := 48) C dX7_saysNumber_15 (by decide) ?_
  refine q_iload_n C dX7_saysNumber_17 rfl rfl ?_
  refine q_bipush (v := 10) C dX7_saysNumber_18 (by decide) ?_
  refine q_iremN (a := v) (b := 10) C dX7_saysNumber_20 rfl rfl (by omega) (by decide) (by decide) ?_
  refine q_iaddN (a := 48) (b := v % 10) C dX7_saysNumber_21 rfl rfl ?_
  refine q_i2cN (a := 48 + (v % 10)) C dX7_saysNumber_22 rfl (by omega) ?_
  refine q_cv1 C (c_X7_says l S q (nI (48 + (v % 10))) (by have := True.intro; omega) (q_ch (by omega))) myX7_says mlX7_168 q_s112 ⟨by decide, by decide⟩ (Nat.le_of_ble_eq_true rfl) dX7_saysNumber_23 ?_
  exact hret _ _ _ dX7_saysNumber_26 (by rw [uL_num, if_neg (by omega)])
theorem c_X7_saysNumber (l : Launch) (S : q_St) (q : uL_T) (v : Nat) (hv : v < 100) (hq : q.1 + 1 < 60) : q_Fv l yX7_saysNumber kX7_saysNumber 3 [.ref 112, .int (nI v)] (uV_at S q) (uV_at S (uL_num v q)) := by
  refine q_Fv_of (maxL := 2) rfl (by decide +kernel) (fun ad => Nat.le_of_ble_eq_true rfl) ?_
  intro K C hret
  have C : q_Cx K cX7_saysNumber RX7 3 2 := C
  show q_V l K 0 [(0, .ref 112), (1, .int (nI v))] [] (uV_at S q)
  refine q_iload_n C dX7_saysNumber_0 rfl rfl ?_
  refine q_bipush (v := 9) C dX7_saysNumber_1 (by decide) ?_
  refine q_icmp_leN (a := v) (b := 9) (tgt := 14) C dX7_saysNumber_3 (by decide) rfl rfl (by omega) (by omega) (fun c_3 => ?_) (fun c_3 => ?_)
  · refine q_aload_n C dX7_saysNumber_14 rfl rfl ?_
    refine q_bipush (v := 48) C dX7_saysNumber_15 (by decide) ?_
    refine q_iload_n C dX7_saysNumber_17 rfl rfl ?_
    refine q_bipush (v := 10) C dX7_saysNumber_18 (by decide) ?_
    refine q_iremN (a := v) (b := 10) C dX7_saysNumber_20 rfl rfl (by omega) (by decide) (by decide) ?_
    refine q_iaddN (a := 48) (b := v % 10) C dX7_saysNumber_21 rfl rfl ?_
    refine q_i2cN (a := 48 + (v % 10)) C dX7_saysNumber_22 rfl (by omega) ?_
    refine q_cv1 C (c_X7_says l S q (nI (48 + (v % 10))) (by have := True.intro; omega) (q_ch (by omega))) myX7_says mlX7_168 q_s112 ⟨by decide, by decide⟩ (Nat.le_of_ble_eq_true rfl) dX7_saysNumber_23 ?_
    exact hret _ _ _ dX7_saysNumber_26 (by first | (rw [uL_num.eq_1 v, if_neg (by omega)]; done) | (rw [uL_num.eq_1 v, if_pos (by omega), uL_num.eq_1 (v / 10), if_neg (by omega), Nat.mod_eq_of_lt (show v / 10 < 10 by omega)]))
  · refine q_aload_n C dX7_saysNumber_6 rfl rfl ?_
    refine q_iload_n C dX7_saysNumber_7 rfl rfl ?_
    refine q_bipush (v := 10) C dX7_saysNumber_8 (by decide) ?_
    refine q_idivN (a := v) (b := 10) C dX7_saysNumber_10 rfl rfl (by omega) (by decide) (by decide) ?_
    refine q_cv1 C (c_X7_saysNumber1 l S q (v / 10) (by omega) (by omega)) myX7_saysNumber mlX7_164 q_s112 ⟨by decide, by decide⟩ (Nat.le_of_ble_eq_true rfl) dX7_saysNumber_11 ?_
    refine q_aload_n C dX7_saysNumber_14 rfl rfl ?_
    refine q_bipush (v := 48) C dX7_saysNumber_15 (by decide) ?_
    refine q_iload_n C dX7_saysNumber_17 rfl rfl ?_
    refine q_bipush (v := 10) C dX7_saysNumber_18 (by decide) ?_
    refine q_iremN (a := v) (b := 10) C dX7_saysNumber_20 rfl rfl (by omega) (by decide) (by decide) ?_
    refine q_iaddN (a := 48) (b := v % 10) C dX7_saysNumber_21 rfl rfl ?_
    refine q_i2cN (a := 48 + (v % 10)) C dX7_saysNumber_22 rfl (by omega) ?_
    refine q_cv1 C (c_X7_says l S (uL_num (v / 10) q) (nI (48 + (v % 10))) (by have := uL_num_1 (show v / 10 < 10 by omega) q; omega) (q_ch (by omega))) myX7_says mlX7_168 q_s112 ⟨by decide, by decide⟩ (Nat.le_of_ble_eq_true rfl) dX7_saysNumber_23 ?_
    exact hret _ _ _ dX7_saysNumber_26 (by first | (rw [uL_num.eq_1 v, if_neg (by omega)]; done) | (rw [uL_num.eq_1 v, if_pos (by omega), uL_num.eq_1 (v / 10), if_neg (by omega), Nat.mod_eq_of_lt (show v / 10 < 10 by omega)]))
theorem c_X7_line (l : Launch) (S : q_St) (M : Nat) (hM : S 113 0 = nI M) (hM8 : M ≤ 8) (x : Int32) (hV : uV_ok S M) : q_Fi l yX7_line kX7_line 5 [.ref 112, .int x] S ((uMq_line S M x).1) ((uMq_line S M x).2) := by
  refine q_Fi_of (maxL := 3) rfl (by decide +kernel) (fun ad => Nat.le_of_ble_eq_true rfl) rfl ?_
  intro K C hret
  have C : q_Cx K cX7_line RX7 5 3 := C
  show q_V l K 0 [(0, .ref 112), (1, .int x)] [] S
  refine q_aload_n C dX7_line_0 rfl rfl ?_
  refine q_aload_n C dX7_line_1 rfl rfl ?_
  refine q_iload_n C dX7_line_2 rfl rfl ?_
  by_cases h_3 : 0 ≤ x ∧ x < nI M
  · refine q_ci1 C (q_Fi.cv (if_pos h_3) (c_X7_isMatter l S M hM hM8 x)) myX7_isMatter mlX7_91 q_s112 ⟨by decide, by decide⟩ (Nat.le_of_ble_eq_true rfl) dX7_line_3 ?_
    obtain ⟨m, hmM, rfl⟩ := uK_okM (X := nI M) rfl hM8 h_3
    refine q_if_eq (tgt := 13) C dX7_line_6 (by decide) (fun h9 => absurd h9 (by decide)) (fun _ => ?_)
    refine q_iconst (v := 0) C dX7_line_9 (by decide) ?_
    refine q_goto (tgt := 14) C dX7_line_10 (by decide) ?_
    refine q_put (ty9 := .int) C flX7_36 q_s112 rfl (fun _ _ _ h => by cases h; exact ⟨rfl, by decide +kernel⟩) rfl rfl dX7_line_14 ?_
    refine q_aload_n C dX7_line_17 rfl rfl ?_
    refine q_getI (x := 0) C flX7_36 q_s112 rfl dX7_line_18 rfl ?_
    refine q_if_le (tgt := 26) C dX7_line_21 (by decide) (fun _ => ?_) (fun h9 => absurd h9 (by decide))
    obtain ⟨T, hT⟩ : ∃ T, T = q_p S 112 6 0 := ⟨_, rfl⟩
    rw [← hT]
    have hV9 : uV_ok T M := by {subst hT; exact hV}
    refine q_aload_n C dX7_line_26 rfl rfl ?_
    refine q_iconst (v := 0) C dX7_line_27 (by decide) ?_
    refine q_put (ty9 := .int) C flX7_161 q_s112 rfl (fun _ _ _ h => by cases h; exact ⟨rfl, by decide +kernel⟩) rfl rfl dX7_line_28 ?_
    refine q_st (uV_start T) ?_
    refine q_aload_n C dX7_line_31 rfl rfl ?_
    refine q_bipush (v := 35) C dX7_line_32 (by decide) ?_
    refine q_cv1 C (c_X7_says l T (0, T 117) 35 (by have := True.intro; omega) ⟨35, by decide, rfl⟩) myX7_says mlX7_168 q_s112 ⟨by decide, by decide⟩ (Nat.le_of_ble_eq_true rfl) dX7_line_34 ?_
    refine q_aload_n C dX7_line_37 rfl rfl ?_
    refine q_iload_n C dX7_line_38 rfl rfl ?_
    refine q_cv1 C (c_X7_saysNumber l T (uL_put 35 (0, T 117)) m (by omega) (by have := uL_put_1 35 (0, T 117); omega)) myX7_saysNumber mlX7_164 q_s112 ⟨by decide, by decide⟩ (Nat.le_of_ble_eq_true rfl) dX7_line_39 ?_
    refine q_aload_n C dX7_line_42 rfl rfl ?_
    refine q_sLdc (i := 1) C rfl dX7_line_43 ?_
    refine q_aload_n C dX7_line_45 rfl rfl ?_
    refine q_iload_n C dX7_line_46 rfl rfl ?_
    refine q_ci1 C (q_Fi.cv (v' := T 113 (32 + 14 * m)) rfl (c_X7_how l (uV_at T (uL_num m (uL_put 35 (0, T 117)))) m (by omega))) myX7_how mlX7_73 q_s112 ⟨by decide, by decide⟩ (Nat.le_of_ble_eq_true rfl) dX7_line_47 ?_
    obtain ⟨j_50, hj_50, ej_50⟩ := (hV9 m hmM).1
    refine q_top (y := nI j_50) ej_50 ?_
    refine q_cj1 (i := 1) C (c_J0_charAt_1 l (uV_at T (uL_num m (uL_put 35 (0, T 117)))) j_50 hj_50) myJ0_charAt_5068e rfl mlX7_174 (by decide) rfl ⟨by decide, by decide⟩ (Nat.le_of_ble_eq_true rfl) dX7_line_50 ?_
    refine q_top (y := uL_how (T 113 (32 + 14 * m))) (by rw [ej_50]; exact uV_ch1 j_50 hj_50) ?_
    refine q_cv1 C (c_X7_says l T (uL_num m (uL_put 35 (0, T 117))) (uL_how (T 113 (32 + 14 * m))) (by have := uL_num_1 (show m < 10 by omega) (uL_put 35 (0, T 117)); have := uL_put_1 35 (0, T 117); omega) (uL_how_ch _)) myX7_says mlX7_168 q_s112 ⟨by decide, by decide⟩ (Nat.le_of_ble_eq_true rfl) dX7_line_53 ?_
    refine q_iconst (v := 0) C dX7_line_56 (by decide) ?_
    refine q_istore_n (lv' := [(2, .int 0), (0, .ref 112), (1, .int (nI m))]) C dX7_line_57 rfl (by decide) rfl ?_
    have loop_58 : ∀ (n_58 i_58 : Nat), i_58 + n_58 = 6 → q_V l K 58 [(0, .ref 112), (1, .int (nI m)), (2, .int (nI i_58))] [] (uV_at T (uV_gs T m i_58)) := by
      intro n_58
      induction n_58 with
      | zero =>
        intro i_58 hi_58
        have e_58 : i_58 = 6 := by omega
        refine q_iload_n C dX7_line_58 rfl rfl ?_
        refine q_bipush (v := 6) C dX7_line_59 (by decide) ?_
        refine q_icmp_geN (a := i_58) (b := 6) (tgt := 138) C dX7_line_61 (by decide) rfl rfl (by omega) (by omega) (fun c_61 => ?_) (fun c_61 => absurd c_61 (by omega))
        refine q_aload_n C dX7_line_138 rfl rfl ?_
        refine q_getI (x := nI ((uV_gs T m i_58).1)) C flX7_161 q_s112 rfl dX7_line_139 rfl ?_
        exact hret _ _ _ _ dX7_line_142 (by rw [e_58]; subst hT; simp [uMq_line, if_pos h_3, h_3, uN_nI (show m < 2 ^ 31 by omega), c_61, Nat.not_lt.mpr c_61]; try rfl) (by rw [e_58]; subst hT; simp [uMq_line, if_pos h_3, h_3, uN_nI (show m < 2 ^ 31 by omega), c_61, Nat.not_lt.mpr c_61]; try rfl)
      | succ n_58 ih_58 =>
        intro i_58 hi_58
        refine q_iload_n C dX7_line_58 rfl rfl ?_
        refine q_bipush (v := 6) C dX7_line_59 (by decide) ?_
        refine q_icmp_geN (a := i_58) (b := 6) (tgt := 138) C dX7_line_61 (by decide) rfl rfl (by omega) (by omega) (fun c_61 => absurd c_61 (by omega)) (fun c_61 => ?_)
        refine q_aload_n C dX7_line_64 rfl rfl ?_
        refine q_iload_n C dX7_line_65 rfl rfl ?_
        refine q_iload_n C dX7_line_66 rfl rfl ?_
        by_cases h_67 : T 113 (32 + 14 * m + 2 + i_58) ≠ 0
        · refine q_ci2 C (q_Fi.cv (if_pos h_67) (c_X7_isOf l (uV_at T (uV_gs T m i_58)) m (by omega) i_58 (by omega))) myX7_isOf mlX7_66 q_s112 ⟨by decide, by decide⟩ (Nat.le_of_ble_eq_true rfl) dX7_line_67 ?_
          refine q_if_eq (tgt := 132) C dX7_line_70 (by decide) (fun h9 => absurd h9 (by decide)) (fun _ => ?_)
          refine q_aload_n C dX7_line_73 rfl rfl ?_
          refine q_bipush (v := 32) C dX7_line_74 (by decide) ?_
          refine q_cv1 C (c_X7_says l T (uV_gs T m i_58) 32 (by have := uV_gs_le T m (by omega) i_58 (by omega); omega) ⟨32, by decide, rfl⟩) myX7_says mlX7_168 q_s112 ⟨by decide, by decide⟩ (Nat.le_of_ble_eq_true rfl) dX7_line_76 ?_
          refine q_aload_n C dX7_line_79 rfl rfl ?_
          refine q_iload_n C dX7_line_80 rfl rfl ?_
          refine q_cv1 C (c_X7_saysNumber l T (uL_put 32 (uV_gs T m i_58)) i_58 (by omega) (by have := uL_put_1 32 (uV_gs T m i_58); have := uV_gs_le T m (by omega) i_58 (by omega); omega)) myX7_saysNumber mlX7_164 q_s112 ⟨by decide, by decide⟩ (Nat.le_of_ble_eq_true rfl) dX7_line_81 ?_
          refine q_aload_n C dX7_line_84 rfl rfl ?_
          refine q_aload_n C dX7_line_85 rfl rfl ?_
          refine q_iload_n C dX7_line_86 rfl rfl ?_
          refine q_iload_n C dX7_line_87 rfl rfl ?_
          refine q_ci2 C (q_Fi.cv (v' := T 113 (32 + 14 * m + 2 + i_58)) rfl (c_X7_amountOf l (uV_at T (uL_num i_58 (uL_put 32 (uV_gs T m i_58)))) m (by omega) i_58 (by omega))) myX7_amountOf mlX7_62 q_s112 ⟨by decide, by decide⟩ (Nat.le_of_ble_eq_true rfl) dX7_line_88 ?_
          refine q_if_le (tgt := 99) C dX7_line_91 (by decide)  (fun c_91 => ?_) (fun c_91 => ?_)
          · refine q_bipush (v := 45) C dX7_line_99 (by decide) ?_
            refine q_cv1 C (c_X7_says l T (uL_num i_58 (uL_put 32 (uV_gs T m i_58))) 45 (by have := uL_num_1 (show i_58 < 10 by omega) (uL_put 32 (uV_gs T m i_58)); have := uL_put_1 32 (uV_gs T m i_58); have := uV_gs_le T m (by omega) i_58 (by omega); omega) ⟨45, by decide, rfl⟩) myX7_says mlX7_168 q_s112 ⟨by decide, by decide⟩ (Nat.le_of_ble_eq_true rfl) dX7_line_101 ?_
            refine q_aload_n C dX7_line_104 rfl rfl ?_
            refine q_aload_n C dX7_line_105 rfl rfl ?_
            refine q_iload_n C dX7_line_106 rfl rfl ?_
            refine q_iload_n C dX7_line_107 rfl rfl ?_
            refine q_ci2 C (q_Fi.cv (v' := T 113 (32 + 14 * m + 2 + i_58)) rfl (c_X7_amountOf l (uV_at T (uL_put 45 (uL_num i_58 (uL_put 32 (uV_gs T m i_58))))) m (by omega) i_58 (by omega))) myX7_amountOf mlX7_62 q_s112 ⟨by decide, by decide⟩ (Nat.le_of_ble_eq_true rfl) dX7_line_108 ?_
            refine q_abs C mlX7_180 (by decide) (Nat.le_of_ble_eq_true rfl) dX7_line_111 ?_
            refine q_top (y := nI (uL_abs (T 113 (32 + 14 * m + 2 + i_58)))) (uL_absE (((hV9 m hmM).2 i_58 (by omega)).1.1) (((hV9 m hmM).2 i_58 (by omega)).1.2)).1 ?_
            have ha9 := (uL_absE (((hV9 m hmM).2 i_58 (by omega)).1.1) (((hV9 m hmM).2 i_58 (by omega)).1.2)).2
            refine q_cv1 C (c_X7_saysNumber l T (uL_put 45 (uL_num i_58 (uL_put 32 (uV_gs T m i_58)))) (uL_abs (T 113 (32 + 14 * m + 2 + i_58))) (by omega) (by have := uL_put_1 45 (uL_num i_58 (uL_put 32 (uV_gs T m i_58))); have := uL_num_1 (show i_58 < 10 by omega) (uL_put 32 (uV_gs T m i_58)); have := uL_put_1 32 (uV_gs T m i_58); have := uV_gs_le T m (by omega) i_58 (by omega); omega)) myX7_saysNumber mlX7_164 q_s112 ⟨by decide, by decide⟩ (Nat.le_of_ble_eq_true rfl) dX7_line_114 ?_
            refine q_aload_n C dX7_line_117 rfl rfl ?_
            refine q_sLdc (i := 2) C rfl dX7_line_118 ?_
            refine q_aload_n C dX7_line_120 rfl rfl ?_
            refine q_iload_n C dX7_line_121 rfl rfl ?_
            refine q_iload_n C dX7_line_122 rfl rfl ?_
            refine q_ci2 C (q_Fi.cv (v' := T 113 (32 + 14 * m + 8 + i_58)) rfl (c_X7_answerOf l (uV_at T (uL_num (uL_abs (T 113 (32 + 14 * m + 2 + i_58))) (uL_put 45 (uL_num i_58 (uL_put 32 (uV_gs T m i_58)))))) m (by omega) i_58 (by omega))) myX7_answerOf mlX7_70 q_s112 ⟨by decide, by decide⟩ (Nat.le_of_ble_eq_true rfl) dX7_line_123 ?_
            obtain ⟨j_126, hj_126, ej_126⟩ := ((hV9 m hmM).2 i_58 (by omega)).2
            refine q_top (y := nI j_126) ej_126 ?_
            refine q_cj1 (i := 2) C (c_J0_charAt_2 l (uV_at T (uL_num (uL_abs (T 113 (32 + 14 * m + 2 + i_58))) (uL_put 45 (uL_num i_58 (uL_put 32 (uV_gs T m i_58)))))) j_126 hj_126) myJ0_charAt_5068e rfl mlX7_174 (by decide) rfl ⟨by decide, by decide⟩ (Nat.le_of_ble_eq_true rfl) dX7_line_126 ?_
            refine q_top (y := uL_ans (T 113 (32 + 14 * m + 8 + i_58))) (by rw [ej_126]; exact uV_ch2 j_126 hj_126) ?_
            refine q_cv1 C (c_X7_says l T (uL_num (uL_abs (T 113 (32 + 14 * m + 2 + i_58))) (uL_put 45 (uL_num i_58 (uL_put 32 (uV_gs T m i_58))))) (uL_ans (T 113 (32 + 14 * m + 8 + i_58))) (by have := uL_num_le (uL_abs (T 113 (32 + 14 * m + 2 + i_58))) (uL_put 45 (uL_num i_58 (uL_put 32 (uV_gs T m i_58)))); have := uL_put_1 45 (uL_num i_58 (uL_put 32 (uV_gs T m i_58))); have := uL_num_1 (show i_58 < 10 by omega) (uL_put 32 (uV_gs T m i_58)); have := uL_put_1 32 (uV_gs T m i_58); have := uV_gs_le T m (by omega) i_58 (by omega); omega) (uL_ans_ch _)) myX7_says mlX7_168 q_s112 ⟨by decide, by decide⟩ (Nat.le_of_ble_eq_true rfl) dX7_line_129 ?_
            refine q_iinc (v := nI (i_58 + 1)) (lv' := [(2, .int (nI (i_58 + 1))), (0, .ref 112), (1, .int (nI m))]) C dX7_line_132 rfl (nI_add _ _) (by decide) rfl ?_
            refine q_goto (tgt := 58) C dX7_line_135 (by decide) ?_
            exact q_V_to (ih_58 (i_58 + 1) (by omega)) ⟨rfl, rfl, rfl, trivial⟩ (by simp only [uV_gs, uV_guild, uM_am, uM_an, if_pos h_3, if_pos h_67, if_neg (Int32.not_lt.mpr c_91)])
          · refine q_bipush (v := 43) C dX7_line_94 (by decide) ?_
            refine q_goto (tgt := 101) C dX7_line_96 (by decide) ?_
            refine q_cv1 C (c_X7_says l T (uL_num i_58 (uL_put 32 (uV_gs T m i_58))) 43 (by have := uL_num_1 (show i_58 < 10 by omega) (uL_put 32 (uV_gs T m i_58)); have := uL_put_1 32 (uV_gs T m i_58); have := uV_gs_le T m (by omega) i_58 (by omega); omega) ⟨43, by decide, rfl⟩) myX7_says mlX7_168 q_s112 ⟨by decide, by decide⟩ (Nat.le_of_ble_eq_true rfl) dX7_line_101 ?_
            refine q_aload_n C dX7_line_104 rfl rfl ?_
            refine q_aload_n C dX7_line_105 rfl rfl ?_
            refine q_iload_n C dX7_line_106 rfl rfl ?_
            refine q_iload_n C dX7_line_107 rfl rfl ?_
            refine q_ci2 C (q_Fi.cv (v' := T 113 (32 + 14 * m + 2 + i_58)) rfl (c_X7_amountOf l (uV_at T (uL_put 43 (uL_num i_58 (uL_put 32 (uV_gs T m i_58))))) m (by omega) i_58 (by omega))) myX7_amountOf mlX7_62 q_s112 ⟨by decide, by decide⟩ (Nat.le_of_ble_eq_true rfl) dX7_line_108 ?_
            refine q_abs C mlX7_180 (by decide) (Nat.le_of_ble_eq_true rfl) dX7_line_111 ?_
            refine q_top (y := nI (uL_abs (T 113 (32 + 14 * m + 2 + i_58)))) (uL_absE (((hV9 m hmM).2 i_58 (by omega)).1.1) (((hV9 m hmM).2 i_58 (by omega)).1.2)).1 ?_
            have ha9 := (uL_absE (((hV9 m hmM).2 i_58 (by omega)).1.1) (((hV9 m hmM).2 i_58 (by omega)).1.2)).2
            refine q_cv1 C (c_X7_saysNumber l T (uL_put 43 (uL_num i_58 (uL_put 32 (uV_gs T m i_58)))) (uL_abs (T 113 (32 + 14 * m + 2 + i_58))) (by omega) (by have := uL_put_1 43 (uL_num i_58 (uL_put 32 (uV_gs T m i_58))); have := uL_num_1 (show i_58 < 10 by omega) (uL_put 32 (uV_gs T m i_58)); have := uL_put_1 32 (uV_gs T m i_58); have := uV_gs_le T m (by omega) i_58 (by omega); omega)) myX7_saysNumber mlX7_164 q_s112 ⟨by decide, by decide⟩ (Nat.le_of_ble_eq_true rfl) dX7_line_114 ?_
            refine q_aload_n C dX7_line_117 rfl rfl ?_
            refine q_sLdc (i := 2) C rfl dX7_line_118 ?_
            refine q_aload_n C dX7_line_120 rfl rfl ?_
            refine q_iload_n C dX7_line_121 rfl rfl ?_
            refine q_iload_n C dX7_line_122 rfl rfl ?_
            refine q_ci2 C (q_Fi.cv (v' := T 113 (32 + 14 * m + 8 + i_58)) rfl (c_X7_answerOf l (uV_at T (uL_num (uL_abs (T 113 (32 + 14 * m + 2 + i_58))) (uL_put 43 (uL_num i_58 (uL_put 32 (uV_gs T m i_58)))))) m (by omega) i_58 (by omega))) myX7_answerOf mlX7_70 q_s112 ⟨by decide, by decide⟩ (Nat.le_of_ble_eq_true rfl) dX7_line_123 ?_
            obtain ⟨j_126, hj_126, ej_126⟩ := ((hV9 m hmM).2 i_58 (by omega)).2
            refine q_top (y := nI j_126) ej_126 ?_
            refine q_cj1 (i := 2) C (c_J0_charAt_2 l (uV_at T (uL_num (uL_abs (T 113 (32 + 14 * m + 2 + i_58))) (uL_put 43 (uL_num i_58 (uL_put 32 (uV_gs T m i_58)))))) j_126 hj_126) myJ0_charAt_5068e rfl mlX7_174 (by decide) rfl ⟨by decide, by decide⟩ (Nat.le_of_ble_eq_true rfl) dX7_line_126 ?_
            refine q_top (y := uL_ans (T 113 (32 + 14 * m + 8 + i_58))) (by rw [ej_126]; exact uV_ch2 j_126 hj_126) ?_
            refine q_cv1 C (c_X7_says l T (uL_num (uL_abs (T 113 (32 + 14 * m + 2 + i_58))) (uL_put 43 (uL_num i_58 (uL_put 32 (uV_gs T m i_58))))) (uL_ans (T 113 (32 + 14 * m + 8 + i_58))) (by have := uL_num_le (uL_abs (T 113 (32 + 14 * m + 2 + i_58))) (uL_put 43 (uL_num i_58 (uL_put 32 (uV_gs T m i_58)))); have := uL_put_1 43 (uL_num i_58 (uL_put 32 (uV_gs T m i_58))); have := uL_num_1 (show i_58 < 10 by omega) (uL_put 32 (uV_gs T m i_58)); have := uL_put_1 32 (uV_gs T m i_58); have := uV_gs_le T m (by omega) i_58 (by omega); omega) (uL_ans_ch _)) myX7_says mlX7_168 q_s112 ⟨by decide, by decide⟩ (Nat.le_of_ble_eq_true rfl) dX7_line_129 ?_
            refine q_iinc (v := nI (i_58 + 1)) (lv' := [(2, .int (nI (i_58 + 1))), (0, .ref 112), (1, .int (nI m))]) C dX7_line_132 rfl (nI_add _ _) (by decide) rfl ?_
            refine q_goto (tgt := 58) C dX7_line_135 (by decide) ?_
            exact q_V_to (ih_58 (i_58 + 1) (by omega)) ⟨rfl, rfl, rfl, trivial⟩ (by simp only [uV_gs, uV_guild, uM_am, uM_an, if_pos h_3, if_pos h_67, if_pos c_91])
        · refine q_ci2 C (q_Fi.cv (if_neg h_67) (c_X7_isOf l (uV_at T (uV_gs T m i_58)) m (by omega) i_58 (by omega))) myX7_isOf mlX7_66 q_s112 ⟨by decide, by decide⟩ (Nat.le_of_ble_eq_true rfl) dX7_line_67 ?_
          refine q_if_eq (tgt := 132) C dX7_line_70 (by decide) (fun _ => ?_) (fun h9 => absurd h9 (by decide))
          refine q_iinc (v := nI (i_58 + 1)) (lv' := [(2, .int (nI (i_58 + 1))), (0, .ref 112), (1, .int (nI m))]) C dX7_line_132 rfl (nI_add _ _) (by decide) rfl ?_
          refine q_goto (tgt := 58) C dX7_line_135 (by decide) ?_
          exact q_V_to (ih_58 (i_58 + 1) (by omega)) ⟨rfl, rfl, rfl, trivial⟩ (by simp only [uV_gs, uV_guild, uM_am, uM_an, if_pos h_3, if_neg h_67])
    exact q_V_to (loop_58 (6 - 0) 0 (by omega)) ⟨rfl, rfl, rfl, trivial⟩ rfl
  · refine q_ci1 C (q_Fi.cv (if_neg h_3) (c_X7_isMatter l S M hM hM8 x)) myX7_isMatter mlX7_91 q_s112 ⟨by decide, by decide⟩ (Nat.le_of_ble_eq_true rfl) dX7_line_3 ?_
    refine q_if_eq (tgt := 13) C dX7_line_6 (by decide) (fun _ => ?_) (fun h9 => absurd h9 (by decide))
    refine q_iconst (v := 1) C dX7_line_13 (by decide) ?_
    refine q_put (ty9 := .int) C flX7_36 q_s112 rfl (fun _ _ _ h => by cases h; exact ⟨rfl, by decide +kernel⟩) rfl rfl dX7_line_14 ?_
    refine q_aload_n C dX7_line_17 rfl rfl ?_
    refine q_getI (x := 1) C flX7_36 q_s112 rfl dX7_line_18 rfl ?_
    refine q_if_le (tgt := 26) C dX7_line_21 (by decide) (fun h9 => absurd h9 (by decide)) (fun _ => ?_)
    refine q_iconst (v := 0) C dX7_line_24 (by decide) ?_
    exact hret _ _ _ _ dX7_line_25 (by simp [uMq_line, uM_bad, if_neg h_3, h_3]) (by simp [uMq_line, uM_bad, if_neg h_3, h_3])
