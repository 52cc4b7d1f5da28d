
/-! what a change keeps, what it answers -/
theorem q_sum_01 {f : Nat → Int32} : ∀ n, (∀ i, i < n → f i = 0 ∨ f i = 1) → ∃ k, k ≤ n ∧ q_sum f n = nI k ∧ (k = 0 → ∀ i, i < n → f i = 0)
  | 0, _ => ⟨0, Nat.le_refl _, rfl, fun _ i hi => absurd hi (Nat.not_lt_zero i)⟩
  | n + 1, h => by
    obtain ⟨k, h1, h2, h3⟩ := q_sum_01 n (fun i hi => h i (by omega))
    rcases h n (by omega) with e | e
    · refine ⟨k, by omega, ?_, fun h0 i hi => ?_⟩
      · show q_sum f n + f n = nI k
        rw [h2, e, Int32.add_zero]
      · by_cases c : i = n
        · rw [c, e]
        · exact h3 h0 i (by omega)
    · refine ⟨k + 1, by omega, ?_, fun h0 => absurd h0 (by omega)⟩
      show q_sum f n + f n = nI (k + 1)
      rw [h2, e]
      exact nI_add k 1
theorem q_find_none {P : Nat → Bool} : ∀ n i, i + n < 2 ^ 31 → q_find P n i = -1 → ∀ j, i ≤ j → j < i + n → P j = false
  | 0, _, _, _, j, h1, h2 => absurd h2 (by omega)
  | n + 1, i, hb, h, j, h1, h2 => by
    rw [q_find] at h
    by_cases c : P i = true
    · rw [if_pos c] at h
      exact absurd h (uC_dne (by omega))
    · rw [if_neg c] at h
      by_cases e : j = i
      · rw [e]; exact Bool.eq_false_iff.mpr c
      · exact q_find_none n (i + 1) (by omega) h j (by omega) (by omega)
theorem pNn {k : Nat} (h : k < 2 ^ 31) : 0 ≤ nI k := nI_pos' h
theorem pGuilds (A : q_St) (m : Nat) : ∃ k, k ≤ 6 ∧ uC_guilds A m = nI k ∧ (k = 0 → ∀ g, g < 6 → A 5 (m * 6 + g) = 0) := by
  obtain ⟨k, h1, h2, h3⟩ := q_sum_01 (f := uC_fG A m) 6 (fun g _ => by unfold uC_fG; split; exact Or.inl rfl; exact Or.inr rfl)
  refine ⟨k, h1, h2, fun h0 g hg => ?_⟩
  have := h3 h0 g hg
  unfold uC_fG at this
  split at this
  · assumption
  · exact absurd this (by decide)
theorem pAns (A : q_St) (m : Nat) (a : Int32) : ∃ k, k ≤ 6 ∧ uC_ans A m a = nI k ∧ (k = 0 → ∀ g, g < 6 → ¬ (A 5 (m * 6 + g) ≠ 0 ∧ A 6 (m * 6 + g) = a)) := by
  obtain ⟨k, h1, h2, h3⟩ := q_sum_01 (f := uC_fA A m a) 6 (fun g _ => by unfold uC_fA; split; exact Or.inr rfl; exact Or.inl rfl)
  refine ⟨k, h1, h2, fun h0 g hg => ?_⟩
  have := h3 h0 g hg
  unfold uC_fA at this
  split at this
  · exact absurd this (by decide)
  · assumption
theorem pMatters (A : q_St) (M : Nat) (a : Int32) (hM : M ≤ 8) : ∃ k, k ≤ M ∧ uC_matters A M a = nI k := by
  obtain ⟨k, h1, h2, h3⟩ := q_sum_01 (f := uC_fM A a) M (fun g _ => by unfold uC_fM; split; exact Or.inr rfl; exact Or.inl rfl)
  exact ⟨k, h1, h2⟩
theorem pAwake (A : q_St) : ∃ k, k ≤ 6 ∧ uC_awake A = nI k := by
  obtain ⟨k, h1, h2, h3⟩ := q_sum_01 (f := uC_fW A) 6 (fun g _ => by unfold uC_fW; split; exact Or.inl rfl; exact Or.inr rfl)
  exact ⟨k, h1, h2⟩
theorem q_first_6 {P : Nat → Bool} : ∀ n i, ¬ q_first P n i < i + n → ∀ j, i ≤ j → j < i + n → P j = false
  | 0, _, _, j, h1, h2 => absurd h2 (by omega)
  | n + 1, i, h, j, h1, h2 => by
    rw [q_first] at h
    by_cases c : P i = true
    · rw [if_pos c] at h
      omega
    · rw [if_neg c] at h
      by_cases e : j = i
      · subst e; exact Bool.eq_false_iff.mpr c
      · exact q_first_6 n (i + 1) (by omega) j (by omega) (by omega)
section PCH
variable {d M N : Nat} {A : q_St}
theorem pI.opp (h : pI d M N A) {m : Nat} (hn : ¬ uC_opposed A m) {g : Nat} (hg : g < 6) (ha : A 5 (m * 6 + g) ≠ 0) : A 6 (m * 6 + g) ≠ 2 ∧ A 6 (m * 6 + g) ≠ 4 := by
  obtain ⟨k2, a1, a2, a3⟩ := pAns A m 2
  obtain ⟨k4, b1, b2, b3⟩ := pAns A m 4
  have e : k2 + k4 = 0 := by
    rcases Nat.eq_zero_or_pos (k2 + k4) with e | e
    · exact e
    · refine absurd ?_ hn
      show 0 < uC_ans A m 2 + uC_ans A m 4
      rw [a2, b2, nI_add]
      exact nI_lt (a := 0) e (by omega)
  exact ⟨fun q => a3 (by omega) g hg ⟨ha, q⟩, fun q => b3 (by omega) g hg ⟨ha, q⟩⟩
theorem pI.noDoubt (h : pI d M N A) {g : Nat} (hg : g < 6) (hd : uC_doubt A M g = -1) {n : Nat} (hn : n < 8) : A 6 (n * 6 + g) ≠ 1 := by
  by_cases c : n < M
  · have := q_find_none M 0 (by have := h.M8; omega) hd n (Nat.zero_le _) (by omega)
    simpa using this
  · intro q
    have := h.an0 hn hg ((h.out (by omega) hn).2 g hg)
    rw [this] at q
    exact absurd q (by decide)
theorem pI.ask (h : pI d M N A) {m g : Nat} (hm : m < M) (hg : g < 6) (hr : uR_ask A M m g = none) : pI d M N (uC_ask A M m g) := by
  unfold uR_ask at hr
  split at hr
  · cases hr
  split at hr
  · cases hr
  split at hr
  · cases hr
  split at hr
  · cases hr
  split at hr
  · cases hr
  rename_i c1 c2 c3 c4 c5
  have h0 : A 2 m = 0 := Decidable.not_not.mp c2
  have ha : A 6 (m * 6 + g) = 0 := Decidable.not_not.mp c5
  unfold uC_ask
  refine h.an hm hg (by split <;> simp) c3 (by rw [ha]; decide) (fun q => ?_) (fun _ => by rw [h0]; decide)
  by_cases c : uC_would A M m g
  · refine ⟨fun n hn e => absurd e (h.noDoubt hg c.1 hn), c.2⟩
  · rw [if_neg c] at q
    exact absurd q (by decide)
theorem pI.tell (h : pI d M N A) {m g : Nat} (hm : m < M) (hg : g < 6) (hr : uR_tell A M m g = none) : pI d M N (uC_tell A m g) := by
  have hM8 := h.M8
  unfold uR_tell at hr
  split at hr
  · cases hr
  split at hr
  · cases hr
  split at hr
  · cases hr
  split at hr
  · cases hr
  split at hr
  · cases hr
  rename_i c1 c2 c3 c4 c5
  have hc := h.c (m := m) (by omega) hg
  unfold uC_tell
  split
  · rename_i e
    refine h.seal hm hg ?_ e
    rcases hc.2.2.2.1 e c3 with q | q
    · exact q
    · exact absurd (Or.inl q) c5
  · rename_i e
    exact h.an hm hg (Or.inr (Or.inr rfl)) c3 (fun q => c5 (Or.inl q)) (fun q => absurd q (by decide)) (fun _ => e)
theorem pI.set (h : pI d M N A) {m g : Nat} {a : Int32} (hm : m < M) (hg : g < 6) (ha : -50 ≤ a ∧ a ≤ 50) (hr : uR_setA A m g a = none) : pI d M N (q_p A 5 (m * 6 + g) a) := by
  have hM8 := h.M8
  unfold uR_setA at hr
  split at hr
  · cases hr
  split at hr
  · cases hr
  rename_i c1 c2
  refine h.am hm hg ha (Decidable.not_not.mp c1) (fun o ho => ?_)
  obtain ⟨k, a1, a2, a3⟩ := pGuilds A m
  by_cases e : A 5 (m * 6 + o) = 0
  · exact h.an0 (by omega) ho e
  · refine Decidable.byContradiction fun e6 => c2 ?_
    unfold uC_answered uC_guilds uC_ans
    have hp : q_sum (uC_fG A m) 6 = q_sum (fun g => uC_fA A m 0 g + (if A 5 (m * 6 + g) ≠ 0 ∧ A 6 (m * 6 + g) ≠ 0 then 1 else 0)) 6 := q_sum_cgP 6 (fun g hg => by
      unfold uC_fG uC_fA
      by_cases x : A 5 (m * 6 + g) = 0
      · simp [x]
      · by_cases y : A 6 (m * 6 + g) = 0 <;> simp [x, y])
    have hq : ∀ (f k : Nat → Int32) (n : Nat), q_sum (fun g => f g + k g) n = q_sum f n + q_sum k n := by
      intro f k n
      induction n with
      | zero => rfl
      | succ n ih =>
        show q_sum (fun g => f g + k g) n + (f n + k n) = (q_sum f n + f n) + (q_sum k n + k n)
        rw [ih, Int32.add_assoc, Int32.add_assoc, ← Int32.add_assoc (q_sum k n), Int32.add_comm (q_sum k n) (f n), Int32.add_assoc]
    rw [hp, hq, Int32.add_comm, Int32.sub_eq_add_neg, Int32.add_assoc, ← Int32.sub_eq_add_neg, Int32.sub_self, Int32.add_zero]
    obtain ⟨k, b1, b2, b3⟩ := q_sum_01 (f := fun g => if A 5 (m * 6 + g) ≠ 0 ∧ A 6 (m * 6 + g) ≠ 0 then (1 : Int32) else 0) 6 (fun g _ => by split; exact Or.inr rfl; exact Or.inl rfl)
    rw [b2]
    rcases Nat.eq_zero_or_pos k with e0 | e0
    · have := b3 e0 o ho
      simp only [e6, e, ne_eq, not_false_eq_true, and_self, if_true] at this
      exact absurd this (by decide)
    · exact nI_lt (a := 0) e0 (by omega)
theorem pI.decide (h : pI d M N A) {m : Nat} (hm : m < M) (hr : uR_decide A M m = none) : pI d M (N + 1) (uC_decide A N m) := by
  unfold uR_decide at hr
  split at hr
  · cases hr
  split at hr
  · cases hr
  split at hr
  · cases hr
  rename_i c1 c2 c3
  have h0 : A 2 m = 0 := Decidable.not_not.mp c2
  have hM8 := h.M8
  unfold uC_decide
  refine h.bk hm h0 (by split <;> simp) (fun q g hg ha => ?_)
  by_cases c : uC_opposed A m
  · rw [if_pos c] at q
    exact absurd q (by decide)
  · have hf : ¬ uC_first A m < 6 := fun q => c3 ⟨Or.inl q, c⟩
    have h6 := q_first_6 6 0 hf g (Nat.zero_le _) (by omega)
    have hc := h.c (m := m) (by omega) hg
    have hop := h.opp c hg ha
    have n0 : A 6 (m * 6 + g) ≠ 0 := fun q => by
      unfold uC_pFirst at h6
      simp [ha, q] at h6
    rcases hc.1 with q | q | q | q | q
    · exact absurd q n0
    · exact q
    · exact absurd q hop.1
    · have := hc.2.2.2.2.1 q
      rw [h0] at this
      exact absurd this (by decide)
    · exact absurd q hop.2
theorem pI.faint (h : pI d M N A) : pI d M N (uC_faint A) := by
  have k : ∀ j, j ≠ 1 → uC_faint A j = A j := fun j hj => by
    unfold uC_faint
    rw [pP_k _ _ _ _ hj, pP_k _ _ _ _ hj]
  refine h.misc (fun j _ _ hj => k j hj) rfl rfl ⟨Or.inl ?_, fun g hg => ?_⟩ (fun g hg => by rw [k 8 (by decide)]; exact h.db hg)
  · unfold uC_faint
    rw [pP_s, if_neg (by decide), pP_s, if_pos rfl]
  · show uC_faint A 9 g = 0 ∨ uC_faint A 9 g = 1
    rw [k 9 (by decide)]
    exact h.bool.2 g hg
theorem pI.p1 (h : pI d M N A) {j : Nat} (v : Int32) (h0 : j ≠ 0) (h1 : j ≠ 1) (h5 : j = 5 → v = 0 ∨ v = 1) : pI d M N (q_p A 1 j v) := by
  refine h.misc (fun i _ _ hi => pP_k _ _ _ _ hi) (by rw [pP_s, if_neg (Ne.symm h0)]) (by rw [pP_s, if_neg (Ne.symm h1)]) ⟨?_, fun g hg => ?_⟩ (fun g hg => by rw [pP_k _ _ _ _ (by decide)]; exact h.db hg)
  · rw [pP_s]
    by_cases c : 5 = j
    · rw [if_pos c]; exact h5 c.symm
    · rw [if_neg c]; exact h.bool.1
  · show q_p A 1 j v 9 g = 0 ∨ q_p A 1 j v 9 g = 1
    rw [pP_k _ _ _ _ (by decide)]
    exact h.bool.2 g hg
theorem pI.slp (h : pI d M N A) {g : Nat} {v : Int32} (hv : v = 0 ∨ v = 1) : pI d M N (q_p A 9 g v) := by
  refine h.misc (fun i _ h8 _ => pP_k _ _ _ _ (by omega)) (by rw [pP_k _ _ _ _ (by decide)]) (by rw [pP_k _ _ _ _ (by decide)]) ⟨by rw [pP_k _ _ _ _ (by decide)]; exact h.bool.1, fun o ho => ?_⟩ (fun g hg => by rw [pP_k _ _ _ _ (by decide)]; exact h.db hg)
  show q_p A 9 g v 9 o = 0 ∨ q_p A 9 g v 9 o = 1
  rw [pP_s]
  split
  · exact hv
  · exact h.bool.2 o ho
theorem pI.inq (h : pI d M N A) {m g o : Nat} (hm : m < M) (hg : g < 6) (ho : o < 6) (hr : uR_inq A m g o = none) : pI d M N (uC_inq A m g o) ∧ (uC_inq A m g o 6 (m * 6 + g) = 3 ∨ uC_inq A m g o 6 (m * 6 + g) = 4) := by
  have hM8 := h.M8
  unfold uR_inq at hr
  split at hr
  · cases hr
  split at hr
  · cases hr
  split at hr
  · cases hr
  split at hr
  · cases hr
  split at hr
  · cases hr
  split at hr
  · cases hr
  rename_i c1 c2 c3 c4 c5 c6
  have e1 : A 6 (m * 6 + g) = 1 := Decidable.not_not.mp c5
  have hog : o ≠ g := fun e => c6 (by rw [e]; exact e1)
  have hne : m * 6 + o ≠ m * 6 + g := by omega
  have h' := h.p1 (j := 3) (A 1 3 + 1) (by decide) (by decide) (fun q => absurd q (by decide))
  have k : ∀ j, j ≠ 1 → q_p A 1 3 (A 1 3 + 1) j = A j := fun j hj => pP_k _ _ _ _ hj
  have hco := h.c (m := m) (by omega) ho
  unfold uC_inq
  by_cases s3 : A 6 (m * 6 + o) = 3
  · rw [if_pos s3]
    refine ⟨h'.seal hm hg (by rw [k 6 (by decide)]; exact e1) (by rw [k 2 (by decide)]; exact hco.2.2.2.2.1 s3), Or.inl ?_⟩
    unfold uC_seal
    rw [pP_k _ _ _ _ (by decide), pP_s, if_pos rfl]
  · rw [if_neg s3]
    have n1 : A 2 m ≠ 1 := fun q => by
      rcases hco.2.2.2.1 q c2 with e | e
      · exact c6 e
      · exact s3 e
    have h4 : pI d M N (q_p (q_p A 1 3 (A 1 3 + 1)) 6 (m * 6 + g) 4) := h'.an hm hg (Or.inr (Or.inr rfl)) (by rw [k 5 (by decide)]; exact c1) (by rw [k 6 (by decide), e1]; decide) (fun q => absurd q (by decide)) (fun _ => by rw [k 2 (by decide)]; exact n1)
    by_cases s0 : A 6 (m * 6 + o) = 0
    · rw [if_pos s0]
      refine ⟨h4.an hm ho (Or.inr (Or.inl rfl)) (by rw [pP_k _ _ _ _ (by decide), k 5 (by decide)]; exact c2) (by rw [pP_s, if_neg hne, k 6 (by decide), s0]; decide) (fun q => absurd q (by decide)) (fun _ => by rw [pP_k _ _ _ _ (by decide), k 2 (by decide)]; exact n1), Or.inr ?_⟩
      rw [pP_s, if_neg (Ne.symm hne), pP_s, if_pos rfl]
    · rw [if_neg s0]
      refine ⟨h4, Or.inr ?_⟩
      rw [pP_s, if_pos rfl]
theorem pPs_in (S : q_St) (M : Nat) (h : Int32) (g : Nat) : ∀ i, g < i → uC_ps S M h i 8 g = if uC_doubt S M g = -1 then S 8 g else S 8 g + h
  | 0, hg => absurd hg (Nat.not_lt_zero _)
  | i + 1, hg => by
    rw [uC_ps]
    by_cases e : g = i
    · subst e
      by_cases c : uC_doubt S M g = -1
      · rw [if_pos c, if_pos c]
        exact uC_ps_8 S M h g g (Nat.le_refl _)
      · rw [if_neg c, if_neg c, pP_s, if_pos rfl]
    · by_cases c : uC_doubt S M i = -1
      · rw [if_pos c]
        exact pPs_in S M h g i (by omega)
      · rw [if_neg c, pP_s, if_neg e]
        exact pPs_in S M h g i (by omega)
theorem pI.pass (h : pI d M N A) {x n : Nat} (hx : x ≤ n) : pI (d + n) M N (uC_pass A M (nI x)) := by
  have h' := h.p1 (j := 2) (A 1 2 + nI x) (by decide) (by decide) (fun q => absurd q (by decide))
  have k : ∀ j, j ≠ 8 → uC_pass A M (nI x) j = q_p A 1 2 (A 1 2 + nI x) j := fun j hj => uC_ps_ne _ _ _ j hj 6
  refine h'.misc (fun j _ h8 _ => k j (by omega)) (by rw [k 1 (by decide)]) (by rw [k 1 (by decide)]) ⟨by rw [k 1 (by decide)]; exact h'.bool.1, fun g hg => ?_⟩ (fun g hg => ?_)
  · show uC_pass A M (nI x) 9 g = 0 ∨ uC_pass A M (nI x) 9 g = 1
    rw [k 9 (by decide)]
    exact h'.bool.2 g hg
  · unfold uC_pass
    rw [pPs_in _ _ _ g 6 hg]
    obtain ⟨q, q1, q2⟩ := h'.db hg
    split
    · exact ⟨q, by omega, q2⟩
    · exact ⟨q + x, by omega, by rw [q2, nI_add]⟩
theorem pWkN (A : q_St) (N : Nat) : ∀ i, uC_wkN A N i ≤ N + (i - pD A i)
  | 0 => Nat.le_refl _
  | i + 1 => by
    have ih := pWkN A N i
    have hd := pD_le A i
    unfold uC_wkN pD
    by_cases c : uC_wkc A i
    · rw [if_pos c, if_pos c.1]
      omega
    · rw [if_neg c]
      split <;> omega
theorem pI.wk8 (h : pI d M N A) : uC_wkN A N M ≤ 8 := by
  have := pWkN A N M
  have := h.eN
  have := pD_le A M
  have := h.M8
  omega
theorem pI.wk (h : pI d M N A) : ∀ i, i ≤ M → pI d M (uC_wkN A N i) (uC_wk A N i)
  | 0, _ => h
  | i + 1, hi => by
    have ih := pI.wk h i (by omega)
    rw [uC_wk, uC_wkN]
    by_cases c : uC_wkc A i
    · rw [if_pos c, if_pos c]
      exact ih.bk (m := i) (by omega) (by rw [uC_wk_2 A N i i (Nat.le_refl _)]; exact c.1) (Or.inr rfl) (fun q => absurd q (by decide))
    · rw [if_neg c, if_neg c]
      exact ih
theorem pI.wake (h : pI d M N A) : pI d M (uC_wkN (q_p A 1 5 1) N M) (uC_wake A M N) := by
  have h' := h.p1 (j := 5) 1 (by decide) (by decide) (fun _ => Or.inr rfl)
  exact h'.wk M (Nat.le_refl _)
theorem pI.nd (h : pI d M N A) : ∀ m, m < M → A 2 m = 0 → N < 8 := fun m hm h0 => by
  have := pD_lt h0 M hm
  have := h.eN
  have := h.M8
  omega
end PCH
