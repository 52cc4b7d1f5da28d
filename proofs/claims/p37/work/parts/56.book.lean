
def uB8 (a0 a1 a2 a3 a4 a5 a6 a7 : Bool) : Int32 := ((((((((0 : Int32) ||| (if a0 = true then 1 else 0)) ||| (if a1 = true then 2 else 0)) ||| (if a2 = true then 4 else 0)) ||| (if a3 = true then 8 else 0)) ||| (if a4 = true then 16 else 0)) ||| (if a5 = true then 32 else 0)) ||| (if a6 = true then 64 else 0)) ||| (if a7 = true then 128 else 0)
def uB8s (p : Nat → Bool) : Int32 := uB8 (p 0) (p 1) (p 2) (p 3) (p 4) (p 5) (p 6) (p 7)
theorem uB8_s0 : ∀ a0 a1 a2 a3 a4 a5 a6 a7 : Bool, (uB8 a0 a1 a2 a3 a4 a5 a6 a7 >>> (nI 0 &&& 31)) &&& 1 = if a0 = true then 1 else 0 := by decide +kernel
theorem uB8_o0 : ∀ a0 a1 a2 a3 a4 a5 a6 a7 : Bool, uB8 a0 a1 a2 a3 a4 a5 a6 a7 ||| ((1 : Int32) <<< (nI 0 &&& 31)) = uB8 true a1 a2 a3 a4 a5 a6 a7 := by decide +kernel
theorem uB8_s1 : ∀ a0 a1 a2 a3 a4 a5 a6 a7 : Bool, (uB8 a0 a1 a2 a3 a4 a5 a6 a7 >>> (nI 1 &&& 31)) &&& 1 = if a1 = true then 1 else 0 := by decide +kernel
theorem uB8_o1 : ∀ a0 a1 a2 a3 a4 a5 a6 a7 : Bool, uB8 a0 a1 a2 a3 a4 a5 a6 a7 ||| ((1 : Int32) <<< (nI 1 &&& 31)) = uB8 a0 true a2 a3 a4 a5 a6 a7 := by decide +kernel
theorem uB8_s2 : ∀ a0 a1 a2 a3 a4 a5 a6 a7 : Bool, (uB8 a0 a1 a2 a3 a4 a5 a6 a7 >>> (nI 2 &&& 31)) &&& 1 = if a2 = true then 1 else 0 := by decide +kernel
theorem uB8_o2 : ∀ a0 a1 a2 a3 a4 a5 a6 a7 : Bool, uB8 a0 a1 a2 a3 a4 a5 a6 a7 ||| ((1 : Int32) <<< (nI 2 &&& 31)) = uB8 a0 a1 true a3 a4 a5 a6 a7 := by decide +kernel
theorem uB8_s3 : ∀ a0 a1 a2 a3 a4 a5 a6 a7 : Bool, (uB8 a0 a1 a2 a3 a4 a5 a6 a7 >>> (nI 3 &&& 31)) &&& 1 = if a3 = true then 1 else 0 := by decide +kernel
theorem uB8_o3 : ∀ a0 a1 a2 a3 a4 a5 a6 a7 : Bool, uB8 a0 a1 a2 a3 a4 a5 a6 a7 ||| ((1 : Int32) <<< (nI 3 &&& 31)) = uB8 a0 a1 a2 true a4 a5 a6 a7 := by decide +kernel
theorem uB8_s4 : ∀ a0 a1 a2 a3 a4 a5 a6 a7 : Bool, (uB8 a0 a1 a2 a3 a4 a5 a6 a7 >>> (nI 4 &&& 31)) &&& 1 = if a4 = true then 1 else 0 := by decide +kernel
theorem uB8_o4 : ∀ a0 a1 a2 a3 a4 a5 a6 a7 : Bool, uB8 a0 a1 a2 a3 a4 a5 a6 a7 ||| ((1 : Int32) <<< (nI 4 &&& 31)) = uB8 a0 a1 a2 a3 true a5 a6 a7 := by decide +kernel
theorem uB8_s5 : ∀ a0 a1 a2 a3 a4 a5 a6 a7 : Bool, (uB8 a0 a1 a2 a3 a4 a5 a6 a7 >>> (nI 5 &&& 31)) &&& 1 = if a5 = true then 1 else 0 := by decide +kernel
theorem uB8_o5 : ∀ a0 a1 a2 a3 a4 a5 a6 a7 : Bool, uB8 a0 a1 a2 a3 a4 a5 a6 a7 ||| ((1 : Int32) <<< (nI 5 &&& 31)) = uB8 a0 a1 a2 a3 a4 true a6 a7 := by decide +kernel
theorem uB8_s6 : ∀ a0 a1 a2 a3 a4 a5 a6 a7 : Bool, (uB8 a0 a1 a2 a3 a4 a5 a6 a7 >>> (nI 6 &&& 31)) &&& 1 = if a6 = true then 1 else 0 := by decide +kernel
theorem uB8_o6 : ∀ a0 a1 a2 a3 a4 a5 a6 a7 : Bool, uB8 a0 a1 a2 a3 a4 a5 a6 a7 ||| ((1 : Int32) <<< (nI 6 &&& 31)) = uB8 a0 a1 a2 a3 a4 a5 true a7 := by decide +kernel
theorem uB8_s7 : ∀ a0 a1 a2 a3 a4 a5 a6 a7 : Bool, (uB8 a0 a1 a2 a3 a4 a5 a6 a7 >>> (nI 7 &&& 31)) &&& 1 = if a7 = true then 1 else 0 := by decide +kernel
theorem uB8_o7 : ∀ a0 a1 a2 a3 a4 a5 a6 a7 : Bool, uB8 a0 a1 a2 a3 a4 a5 a6 a7 ||| ((1 : Int32) <<< (nI 7 &&& 31)) = uB8 a0 a1 a2 a3 a4 a5 a6 true := by decide +kernel
theorem uB8s_s (p : Nat → Bool) {m : Nat} (hm : m < 8) : (uB8s p >>> (nI m &&& 31)) &&& 1 = if p m = true then 1 else 0 := by
  rcases (show m = 0 ∨ m = 1 ∨ m = 2 ∨ m = 3 ∨ m = 4 ∨ m = 5 ∨ m = 6 ∨ m = 7 by omega) with rfl | rfl | rfl | rfl | rfl | rfl | rfl | rfl
  · exact uB8_s0 _ _ _ _ _ _ _ _
  · exact uB8_s1 _ _ _ _ _ _ _ _
  · exact uB8_s2 _ _ _ _ _ _ _ _
  · exact uB8_s3 _ _ _ _ _ _ _ _
  · exact uB8_s4 _ _ _ _ _ _ _ _
  · exact uB8_s5 _ _ _ _ _ _ _ _
  · exact uB8_s6 _ _ _ _ _ _ _ _
  · exact uB8_s7 _ _ _ _ _ _ _ _
theorem uB8s_o (p q : Nat → Bool) {m : Nat} (hm : m < 8) (h : ∀ j, j < 8 → q j = (p j || decide (j = m))) : uB8s p ||| ((1 : Int32) <<< (nI m &&& 31)) = uB8s q := by
  have e : uB8s q = uB8s (fun j => p j || decide (j = m)) := by
    unfold uB8s
    rw [h 0 (by omega), h 1 (by omega), h 2 (by omega), h 3 (by omega), h 4 (by omega), h 5 (by omega), h 6 (by omega), h 7 (by omega)]
  rw [e]
  rcases (show m = 0 ∨ m = 1 ∨ m = 2 ∨ m = 3 ∨ m = 4 ∨ m = 5 ∨ m = 6 ∨ m = 7 by omega) with rfl | rfl | rfl | rfl | rfl | rfl | rfl | rfl
  · refine (uB8_o0 _ _ _ _ _ _ _ _).trans ?_; unfold uB8s; simp
  · refine (uB8_o1 _ _ _ _ _ _ _ _).trans ?_; unfold uB8s; simp
  · refine (uB8_o2 _ _ _ _ _ _ _ _).trans ?_; unfold uB8s; simp
  · refine (uB8_o3 _ _ _ _ _ _ _ _).trans ?_; unfold uB8s; simp
  · refine (uB8_o4 _ _ _ _ _ _ _ _).trans ?_; unfold uB8s; simp
  · refine (uB8_o5 _ _ _ _ _ _ _ _).trans ?_; unfold uB8s; simp
  · refine (uB8_o6 _ _ _ _ _ _ _ _).trans ?_; unfold uB8s; simp
  · refine (uB8_o7 _ _ _ _ _ _ _ _).trans ?_; unfold uB8s; simp
def pSet (S : q_St) : Nat → Nat → Bool
  | 0 => fun _ => false
  | i + 1 => fun m => pSet S i m || decide (S 4 i = nI m)
theorem pSet0 (S : q_St) : 0 = uB8s (pSet S 0) := by
  show 0 = uB8s (fun _ => false)
  decide
theorem pSet_iff (S : q_St) (m : Nat) : ∀ i, pSet S i m = true ↔ ∃ q, q < i ∧ S 4 q = nI m
  | 0 => ⟨fun h => Bool.noConfusion h, fun ⟨q, hq, _⟩ => absurd hq (Nat.not_lt_zero q)⟩
  | i + 1 => by
    show (pSet S i m || decide (S 4 i = nI m)) = true ↔ _
    rw [Bool.or_eq_true, pSet_iff S m i, decide_eq_true_iff]
    constructor
    · rintro (⟨q, h1, h2⟩ | h)
      · exact ⟨q, by omega, h2⟩
      · exact ⟨i, by omega, h⟩
    · rintro ⟨q, h1, h2⟩
      by_cases e : q = i
      · exact Or.inr (e ▸ h2)
      · exact Or.inl ⟨q, by omega, h2⟩
theorem pI.setN {d M N : Nat} {S : q_St} (h : pI d M N S) {i m : Nat} (hi : i < N) (e : S 4 i = nI m) (hm : m < 8) : ¬ (uB8s (pSet S i) >>> (nI m &&& 31)) &&& 1 = 1 := by
  rw [uB8s_s _ hm, if_neg]
  · decide
  · intro q
    obtain ⟨j, j1, j2⟩ := (pSet_iff S m i).mp q
    exact h.book.2 j i j1 hi (j2.trans e.symm)
theorem pSetS {S : q_St} {i m : Nat} (e : S 4 i = nI m) (hm : m < 8) : uB8s (pSet S i) ||| ((1 : Int32) <<< (nI m &&& 31)) = uB8s (pSet S (i + 1)) := by
  refine uB8s_o _ _ hm (fun j hj => ?_)
  show (pSet S i j || decide (S 4 i = nI j)) = _
  rw [e]
  by_cases c : j = m
  · rw [c]; simp
  · rw [decide_eq_false (fun q => c ((nI_eq (by omega) (by omega)).mp q).symm), decide_eq_false c]
theorem l_book_ (l : Launch) (hst : l.stackTraces = false) (S : q_St) (d M N : Nat) (hI : pI d M N S) : q_Fy l yL_book_ kL_book_ 10 240 [.ref 0] S 1 S := by
  refine q_Fy_of (maxL := 5) rfl (by decide +kernel) (fun ad => Nat.le_of_ble_eq_true rfl) rfl ?_
  intro K C hret
  have C : q_Cy K cL_book_ RL 10 5 240 [] q_Tr := C
  show q_Y l K 0 [] q_Tr 0 [(0, .ref (q_ad K 0))] [] S
  have hM8 := hI.M8
  have hN8 := hI.N8
  refine y_aload_n C dL_book__0 rfl rfl ?_
  refine y_iconst (v := 2) C dL_book__1 (by decide) ?_
  refine y_cx (rest := []) C (k_account l hst S M hI.hM 2 (by decide)) myX6_account mlL_157 rfl rfl rfl ⟨by decide, by decide⟩ (by omega) (Nat.le_of_ble_eq_true rfl) dL_book__2 ?_
  refine y_aload_n C dL_book__5 rfl rfl ?_
  refine y_iconst (v := 3) C dL_book__6 (by decide) ?_
  refine y_cx (rest := [.int (uC_matters S M 1)]) C (k_account l hst S M hI.hM 3 (by decide)) myX6_account mlL_157 rfl rfl rfl ⟨by decide, by decide⟩ (by omega) (Nat.le_of_ble_eq_true rfl) dL_book__7 ?_
  refine y_iadd C dL_book__10 ?_
  refine y_istore_n (lv' := [(1, .int ((uC_matters S M 1) + (uC_matters S M 2))), (0, .ref (q_ad K 0))]) C dL_book__11 rfl (by decide) rfl ?_
  refine y_iconst (v := 0) C dL_book__12 (by decide) ?_
  refine y_istore_n (lv' := [(2, .int 0), (1, .int ((uC_matters S M 1) + (uC_matters S M 2))), (0, .ref (q_ad K 0))]) C dL_book__13 rfl (by decide) rfl ?_
  refine y_to (lv' := [(2, .int 0), (1, .int (nI N)), (0, .ref (q_ad K 0))]) ?_ ⟨rfl, q_iv (by rw [hI.how12]; exact hI.hN), rfl, trivial⟩ rfl
  refine y_iconst (v := 0) C dL_book__14 (by decide) ?_
  refine y_istore_n (lv' := [(3, .int 0), (2, .int 0), (1, .int (nI N)), (0, .ref (q_ad K 0))]) C dL_book__15 rfl (by decide) rfl ?_
  have loop_16 : ∀ (n_16 i_16 u_16 : Nat), i_16 + n_16 = N → u_16 + n_16 * 24 ≤ 0 + 6 + 6 + N * 24 → q_Y l K u_16 [] q_Tr 16 [(0, .ref (q_ad K 0)), (1, .int (nI N)), (2, .int (uB8s (pSet S i_16))), (3, .int (nI i_16))] [] S := by
    intro n_16
    induction n_16 with
    | zero =>
      intro i_16 u_16 hi_16 hu_16
      have e_16 : i_16 = N := by omega
      refine y_iload_n C dL_book__16 rfl rfl ?_
      refine y_iload_n C dL_book__17 rfl rfl ?_
      refine y_icmp_geN (a := i_16) (b := N) (tgt := 68) C dL_book__18 (by decide) rfl rfl (by omega) (by omega) (fun c_18 => ?_) (fun c_18 => absurd c_18 (by omega))
      have e9i_16 : N = i_16 := by omega
      subst e9i_16
      refine y_aload_n C dL_book__68 rfl rfl ?_
      refine y_iload_n C dL_book__69 rfl rfl ?_
      refine y_sw (rest := []) C (k_bookN l hst S N hI.hN hI.N8 N (Nat.le_refl _) (by omega)) mwL_book mlL_216 rfl rfl rfl ⟨by decide, by decide⟩ (by omega) (Nat.le_of_ble_eq_true rfl) dL_book__70 ?_
      refine y_bipush (v := (-13)) C dL_book__73 (by decide) ?_
      refine y_icmp_ne (tgt := 92) C dL_book__75 (by decide) (fun h9 => absurd h9 (by decide)) (fun _ => ?_)
      refine y_aload_n C dL_book__78 rfl rfl ?_
      refine y_iconst (v := (-1)) C dL_book__79 (by decide) ?_
      refine y_sw (rest := []) C (k_book_1 l hst S N hI.hN hI.N8) mwL_book mlL_216 rfl rfl rfl ⟨by decide, by decide⟩ (by omega) (Nat.le_of_ble_eq_true rfl) dL_book__80 ?_
      refine y_bipush (v := (-13)) C dL_book__83 (by decide) ?_
      refine y_icmp_ne (tgt := 92) C dL_book__85 (by decide) (fun h9 => absurd h9 (by decide)) (fun _ => ?_)
      refine y_iconst (v := 1) C dL_book__88 (by decide) ?_
      refine y_goto (tgt := 93) C dL_book__89 (by decide) ?_
      exact hret _ _ _ _ _ _ _ (by omega) dL_book__93 rfl rfl
    | succ n_16 ih_16 =>
      intro i_16 u_16 hi_16 hu_16
      refine y_iload_n C dL_book__16 rfl rfl ?_
      refine y_iload_n C dL_book__17 rfl rfl ?_
      refine y_icmp_geN (a := i_16) (b := N) (tgt := 68) C dL_book__18 (by decide) rfl rfl (by omega) (by omega) (fun c_18 => absurd c_18 (by omega)) (fun c_18 => ?_)
      refine y_aload_n C dL_book__21 rfl rfl ?_
      refine y_iload_n C dL_book__22 rfl rfl ?_
      obtain ⟨m, hm, em, h2⟩ := hI.book.1 i_16 (by omega)
      have hb : q_Fy l yL_book kL_book 9 6 [.ref 0, .int (nI i_16)] S (nI m) S := by have h := k_book l hst S N hI.hN hI.N8 i_16 (by omega); rw [em] at h; exact h
      refine y_sw (rest := []) C hb mwL_book mlL_216 rfl rfl rfl ⟨by decide, by decide⟩ (by omega) (Nat.le_of_ble_eq_true rfl) dL_book__23 ?_
      refine y_istore (lv' := [(4, .int (nI m)), (0, .ref (q_ad K 0)), (1, .int (nI N)), (2, .int (uB8s (pSet S i_16))), (3, .int (nI i_16))]) C dL_book__26 (by decide) rfl ?_
      refine y_iload C dL_book__28 rfl ?_
      refine y_if_ltN (a := m) (tgt := 53) C dL_book__30 (by decide) rfl (by omega) (fun c_30 => c_30.elim) (fun c_30 => ?_)
      refine y_aload_n C dL_book__33 rfl rfl ?_
      refine y_iload C dL_book__34 rfl ?_
      refine y_iconst (v := 0) C dL_book__36 (by decide) ?_
      refine y_sw (rest := []) C (k_of l hst S M hI.hM m 0 (by omega) (by decide)) mwL_of mlL_187 rfl rfl rfl ⟨by decide, by decide⟩ (by omega) (Nat.le_of_ble_eq_true rfl) dL_book__37 ?_
      refine y_if_eq (tgt := 53) C dL_book__40 (by decide)  (fun c_40 => absurd c_40 h2) (fun c_40 => ?_)
      refine y_iload_n C dL_book__43 rfl rfl ?_
      refine y_iload C dL_book__44 rfl ?_
      refine y_ishr (v := uB8s (pSet S i_16) >>> (nI m &&& 31)) C rfl dL_book__46 ?_
      refine y_iconst (v := 1) C dL_book__47 (by decide) ?_
      refine y_iand C dL_book__48 ?_
      refine y_iconst (v := 1) C dL_book__49 (by decide) ?_
      refine y_icmp_ne (tgt := 55) C dL_book__50 (by decide)  (fun c_50 => ?_) (fun c_50 => absurd c_50 (hI.setN (by omega) em (by omega)))
      refine y_iload_n C dL_book__55 rfl rfl ?_
      refine y_iconst (v := 1) C dL_book__56 (by decide) ?_
      refine y_iload C dL_book__57 rfl ?_
      refine y_ishl C dL_book__59 ?_
      refine y_ior C dL_book__60 ?_
      refine y_istore_n (lv' := [(2, .int ((uB8s (pSet S i_16)) ||| (1 <<< ((nI m) &&& 31)))), (4, .int (nI m)), (0, .ref (q_ad K 0)), (1, .int (nI N)), (3, .int (nI i_16))]) C dL_book__61 rfl (by decide) rfl ?_
      refine y_iinc (v := nI (i_16 + 1)) (lv' := [(3, .int (nI (i_16 + 1))), (2, .int ((uB8s (pSet S i_16)) ||| (1 <<< ((nI m) &&& 31)))), (4, .int (nI m)), (0, .ref (q_ad K 0)), (1, .int (nI N))]) C dL_book__62 rfl (nI_add _ _) (by decide) rfl ?_
      refine y_goto (tgt := 16) C dL_book__65 (by decide) ?_
      exact y_to (ih_16 (i_16 + 1) _ (by omega) (by omega)) ⟨rfl, rfl, q_iv (pSetS em (by omega)), rfl, trivial⟩ rfl
  exact y_to (loop_16 (N - 0) 0 _ (by omega) (by omega)) ⟨rfl, rfl, q_iv (pSet0 S), rfl, trivial⟩ rfl
