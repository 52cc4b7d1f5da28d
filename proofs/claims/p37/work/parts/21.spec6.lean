
/-! what a step keeps -/
theorem uK_okM {m X : Int32} {M : Nat} (hX : X = nI M) (hM : M ≤ 8) (h : 0 ≤ m ∧ m < X) : ∃ m', m' < M ∧ m = nI m' := by
  obtain ⟨j, hj, rfl⟩ := nI_of (Int32.not_lt.mpr h.1)
  refine ⟨j, ?_, rfl⟩
  have h2 := h.2
  rw [hX] at h2
  exact (nI_ltI hj (by omega)).mp h2
theorem uK_okG {g : Int32} (h : 0 ≤ g ∧ g < 6) : ∃ g', g' < 6 ∧ g = nI g' := uK_okM (X := 6) (M := 6) rfl (by omega) h
theorem uJ_cg {S T : q_St} (h : uJ S) (h0 : T 1 0 = S 1 0) (h1 : T 1 1 = S 1 1) (h2 : T 2 = S 2) (hb : q_bool T 1) : uJ T := by
  obtain ⟨M, hM, a, b, c, d⟩ := h
  exact ⟨M, hM, h0.trans a, (h1.trans b).trans (by rw [uJ_cnt_cg (S := S) (T := T) M (fun j _ => by rw [h2])]), fun m h3 h4 => by rw [h2]; exact c m h3 h4, hb⟩
theorem uJ_bool {S T : q_St} (h : q_bool S 1) (h5 : T 1 5 = S 1 5) (h9 : T 9 = S 9) : q_bool T 1 := ⟨by rw [h5]; exact h.1, fun g hg => by show T 9 g = 0 ∨ T 9 g = 1; rw [h9]; exact h.2 g hg⟩
theorem uJ_ask {S : q_St} (h : uJ S) (M m g : Nat) : uJ (uC_ask S M m g) := uJ_cg h rfl rfl rfl (uJ_bool h.choose_spec.2.2.2.2 rfl rfl)
theorem uJ_seal {S : q_St} (h : uJ S) (m g : Nat) : uJ (uC_seal S m g) := uJ_cg h rfl rfl rfl (uJ_bool h.choose_spec.2.2.2.2 rfl rfl)
theorem uJ_p {S : q_St} (h : uJ S) (k i : Nat) (v : Int32) (h1 : k ≠ 1) (h2 : k ≠ 2) (h9 : k ≠ 9) : uJ (q_p S k i v) := by
  have e1 : q_p S k i v 1 = S 1 := by simp [q_p, h1.symm]
  have e2 : q_p S k i v 2 = S 2 := by simp [q_p, h2.symm]
  have e9 : q_p S k i v 9 = S 9 := by simp [q_p, h9.symm]
  exact uJ_cg h (by rw [e1]) (by rw [e1]) e2 (uJ_bool h.choose_spec.2.2.2.2 (by rw [e1]) e9)
theorem uJ_p1 {S : q_St} (h : uJ S) (i : Nat) (v : Int32) (h0 : i ≠ 0) (h1 : i ≠ 1) (h5 : i ≠ 5) : uJ (q_p S 1 i v) :=
  uJ_cg h (by simp [q_p, upd, h0.symm]) (by simp [q_p, upd, h1.symm]) rfl (uJ_bool h.choose_spec.2.2.2.2 (by simp [q_p, upd, h5.symm]) rfl)
theorem uJ_tell {S : q_St} (h : uJ S) (m g : Nat) : uJ (uC_tell S m g) := by
  unfold uC_tell
  split
  · exact uJ_seal h m g
  · exact uJ_p h _ _ _ (by decide) (by decide) (by decide)
theorem uJ_inq {S : q_St} (h : uJ S) (m g o : Nat) : uJ (uC_inq S m g o) := by
  have h1 := uJ_p1 h 3 (S 1 3 + 1) (by decide) (by decide) (by decide)
  unfold uC_inq
  split
  · exact uJ_seal h1 m g
  · split
    · exact uJ_p (uJ_p h1 _ _ _ (by decide) (by decide) (by decide)) _ _ _ (by decide) (by decide) (by decide)
    · exact uJ_p h1 _ _ _ (by decide) (by decide) (by decide)
theorem uJ_pass {S : q_St} (h : uJ S) (M : Nat) (v : Int32) : uJ (uC_pass S M v) := by
  have h1 := uJ_p1 h 2 (S 1 2 + v) (by decide) (by decide) (by decide)
  exact uJ_cg h1 (by rw [uC_pass, uC_ps_ne _ _ _ 1 (by decide)]) (by rw [uC_pass, uC_ps_ne _ _ _ 1 (by decide)]) (uC_ps_ne _ _ _ 2 (by decide) _) (uJ_bool h1.choose_spec.2.2.2.2 (by rw [uC_pass, uC_ps_ne _ _ _ 1 (by decide)]) (uC_ps_ne _ _ _ 9 (by decide) _))
theorem uJ_faint {S : q_St} (h : uJ S) : uJ (uC_faint S) := by
  have hb := h.choose_spec.2.2.2.2
  exact uJ_cg h rfl rfl rfl ⟨Or.inl (by simp [uC_faint, q_p, upd]), fun g hg => hb.2 g hg⟩
theorem uJ_sleep {S : q_St} (h : uJ S) (g : Nat) (v : Int32) (hv : v = 0 ∨ v = 1) : uJ (q_p S 9 g v) := by
  have hb := h.choose_spec.2.2.2.2
  refine uJ_cg h rfl rfl rfl ⟨hb.1, fun j hj => ?_⟩
  show q_p S 9 g v 9 j = 0 ∨ q_p S 9 g v 9 j = 1
  by_cases e : j = g
  · subst e; simp [q_p, upd, hv]
  · have h9 := hb.2 j hj
    simpa [q_p, upd, e] using h9
theorem uJ_matter {S : q_St} {M : Nat} (h : uJ S) (hM : S 1 0 = nI M) (h8 : M < 8) (x : Int32) : uJ (q_p (q_p S 3 M x) 1 0 (nI (M + 1))) := by
  obtain ⟨M', hM', a, b, c, d⟩ := h
  have e : M' = M := by
    rw [hM] at a
    exact ((nI_eq (by omega) (by omega)).mp a).symm
  subst e
  refine ⟨M' + 1, by omega, by simp [q_p, upd], ?_, fun m h3 h4 => c m (by omega) h4, uJ_bool d (by simp [q_p, upd]) rfl⟩
  have e1 : q_p (q_p S 3 M' x) 1 0 (nI (M' + 1)) 1 1 = S 1 1 := by simp [q_p, upd]
  rw [e1, b, uJ_cnt_cg (S := S) (T := q_p (q_p S 3 M' x) 1 0 (nI (M' + 1))) (M' + 1) (fun j _ => Iff.rfl), uJ_cnt, if_pos (c M' (Nat.le_refl _) h8)]
theorem uJ_book {S : q_St} {M m N : Nat} (h : uJ S) (hM : S 1 0 = nI M) (hM8 : M ≤ 8) (hm : m < M) (hN : S 1 1 = nI N) (hN31 : N < 2 ^ 31) (h0 : S 2 m = 0) {v : Int32} (hv : v ≠ 0) : uJ (uC_book S m N v) := by
  obtain ⟨M', hM', a, b, c, d⟩ := h
  have e : M' = M := by
    rw [hM] at a
    exact ((nI_eq (by omega) (by omega)).mp a).symm
  subst e
  have hc := uJ_cnt_le S M'
  have eN : N = uJ_cnt S M' := by
    rw [hN] at b
    exact (nI_eq hN31 (by omega)).mp b
  subst eN
  refine ⟨M', hM', ?_, ?_, fun j h3 h4 => ?_, uJ_bool d (by simp [uC_book, q_p, upd]) rfl⟩
  · simp [uC_book, q_p, upd]; exact a
  · have e1 : uC_book S m (uJ_cnt S M') v 1 1 = nI (uJ_cnt S M' + 1) := by simp [uC_book, q_p, upd]
    have e2 : uJ_cnt (uC_book S m (uJ_cnt S M') v) M' = uJ_cnt (q_p S 2 m v) M' := uJ_cnt_cg M' (fun j _ => Iff.rfl)
    rw [e1, e2, uJ_cnt_up h0 hv, if_pos hm]
  · have e1 : uC_book S m (uJ_cnt S M') v 2 j = S 2 j := by
      have : j ≠ m := by omega
      simp [uC_book, q_p, upd, this]
    rw [e1]
    exact c j h3 h4
theorem uJ_wk {S : q_St} {M N : Nat} (h : uJ S) (hM : S 1 0 = nI M) (hM8 : M ≤ 8) (hN : S 1 1 = nI N) (hN8 : N ≤ 8) : ∀ i, i ≤ M → uJ (uC_wk S N i)
  | 0, _ => h
  | i + 1, hi => by
    have ih := uJ_wk h hM hM8 hN hN8 i (by omega)
    rw [uC_wk]
    by_cases e : uC_wkc S i
    · rw [if_pos e]
      exact uJ_book ih ((uC_wk_1 S N 0 (by decide) i).trans hM) hM8 (by omega) (uC_wk_11 S N hN i) (by have h1 := uC_wkN_cnt S N i; omega) ((uC_wk_2 S N i i (Nat.le_refl _)).trans e.1) (by decide)
    · rw [if_neg e]; exact ih
/-- the numbers that stand in a council's fields -/
theorem uJ_nums {S : q_St} (h : uJ S) : ∃ M N : Nat, S 1 0 = nI M ∧ M ≤ 8 ∧ S 1 1 = nI N ∧ N ≤ M ∧ N = uJ_cnt S M ∧ q_bool S 1 ∧ (∀ m, M ≤ m → m < 8 → S 2 m = 0) ∧ (∀ m, m < M → S 2 m = 0 → N < 8) ∧ uC_wkN (q_p S 1 5 1) N M ≤ 8 := by
  obtain ⟨M, hM, a, b, c, d⟩ := h
  refine ⟨M, uJ_cnt S M, a, hM, b, uJ_cnt_le S M, rfl, d, c, fun m h1 h2 => by have := uJ_cnt_lt h2 M h1; omega, ?_⟩
  have h9 := uC_wkN_cnt (q_p S 1 5 1) (uJ_cnt S M) M
  have h8 : uJ_cnt (q_p S 1 5 1) M = uJ_cnt S M := uJ_cnt_cg M (fun j _ => Iff.rfl)
  rw [h8] at h9
  have := uJ_cnt_le S M
  omega
theorem uK_do_ne (S : q_St) (k m g v : Int32) (p : Nat) (hp : 10 ≤ p) : uK_do S k m g v p = S p := by
  have h : ∀ q, q < 10 → p ≠ q := fun q hq e => by omega
  have n1 := h 1 (by omega); have n2 := h 2 (by omega); have n3 := h 3 (by omega); have n4 := h 4 (by omega); have n5 := h 5 (by omega); have n6 := h 6 (by omega); have n7 := h 7 (by omega); have n8 := h 8 (by omega); have n9 := h 9 (by omega)
  have hs : ∀ (T : q_St) (m g : Nat), uC_seal T m g p = T p := fun T m g => by simp [uC_seal, q_p, n6, n7]
  unfold uK_do
  by_cases e1 : k = 110
  · simp [e1, q_p, n1, n3]
  by_cases e2 : k = 97
  · simp [e2, q_p, n5]
  by_cases e3 : k = 113
  · simp [e3, uC_ask, q_p, n6]
  by_cases e4 : k = 100
  · simp [e4, uC_decide, uC_book, q_p, n1, n2, n4]
  by_cases e5 : k = 116
  · simp only [e5, uC_tell]
    simp only [show ¬ (116 : Int32) = 110 by decide, show ¬ (116 : Int32) = 97 by decide, show ¬ (116 : Int32) = 113 by decide, show ¬ (116 : Int32) = 100 by decide, if_false, if_true]
    split
    · exact hs _ _ _
    · simp [q_p, n6]
  by_cases e6 : k = 102
  · simp [e6, uC_faint, q_p, n1]
  by_cases e7 : k = 119
  · simp only [e7]
    simp only [show ¬ (119 : Int32) = 110 by decide, show ¬ (119 : Int32) = 97 by decide, show ¬ (119 : Int32) = 113 by decide, show ¬ (119 : Int32) = 100 by decide, show ¬ (119 : Int32) = 116 by decide, show ¬ (119 : Int32) = 102 by decide, if_false, if_true, uC_wake]
    rw [uC_wk_ne _ _ p n1 n2 n4]
    simp [q_p, n1]
  by_cases e8 : k = 115
  · simp [e8, q_p, n9]
  by_cases e9 : k = 114
  · simp [e9, q_p, n9]
  by_cases e10 : k = 105
  · simp only [e10]
    simp only [show ¬ (105 : Int32) = 110 by decide, show ¬ (105 : Int32) = 97 by decide, show ¬ (105 : Int32) = 113 by decide, show ¬ (105 : Int32) = 100 by decide, show ¬ (105 : Int32) = 116 by decide, show ¬ (105 : Int32) = 102 by decide, show ¬ (105 : Int32) = 119 by decide, show ¬ (105 : Int32) = 115 by decide, show ¬ (105 : Int32) = 114 by decide, if_false, if_true, uC_inq]
    split
    · rw [hs]; simp [q_p, n1]
    · split <;> simp [q_p, n1, n6]
  simp only [e1, e2, e3, e4, e5, e6, e7, e8, e9, e10, if_false, uC_pass]
  rw [uC_ps_ne _ _ _ p n8]
  simp [q_p, n1]
