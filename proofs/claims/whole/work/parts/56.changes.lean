
/-! the changes keep the relation -/
theorem q_sum_01 {f : Nat → Int32} : ∀ n, (∀ i, i < n → f i = 0 ∨ f i = 1) → ∃ k, k ≤ n ∧ q_sum f n = nI k ∧ (k = 0 → ∀ i, i < n → f i = 0)
  | 0, _ => ⟨0, Nat.le_refl _, rfl, fun _ i hi => absurd hi (Nat.not_lt_zero i)⟩
  | n + 1, h => by
    obtain ⟨k, h1, h2, h3⟩ := q_sum_01 n (fun i hi => h i (by omega))
    rcases h n (by omega) with e | e
    · refine ⟨k, by omega, ?_, fun h0 i hi => ?_⟩
      · show q_sum f n + f n = nI k
        rw [h2, e, Int32.add_zero]
      · by_cases c : i = n
        · rw [c, e]
        · exact h3 h0 i (by omega)
    · refine ⟨k + 1, by omega, ?_, fun h0 => absurd h0 (by omega)⟩
      show q_sum f n + f n = nI (k + 1)
      rw [h2, e]
      exact nI_add k 1
theorem uM_f_01 (S : q_St) (m : Nat) (lo hi : Int32) (g : Nat) : uM_f S m lo hi g = 0 ∨ uM_f S m lo hi g = 1 := by
  unfold uM_f
  split
  · exact Or.inr rfl
  · exact Or.inl rfl
theorem uM_cnt_0 {S : q_St} {m : Nat} {lo hi : Int32} (h : ¬ 0 < uM_cnt S m lo hi) {g : Nat} (hg : g < 6) : uM_f S m lo hi g = 0 := by
  obtain ⟨k, h1, h2, h3⟩ := q_sum_01 6 (fun i _ => uM_f_01 S m lo hi i)
  refine h3 ?_ g hg
  rcases Nat.eq_zero_or_pos k with e | e
  · exact e
  · exact absurd (by show 0 < q_sum (uM_f S m lo hi) 6; rw [h2, ← nI_0]; exact nI_lt e (by omega)) h
theorem q_find_none {P : Nat → Bool} : ∀ n i, i + n < 2 ^ 31 → q_find P n i = -1 → ∀ j, i ≤ j → j < i + n → P j = false
  | 0, _, _, _, j, h1, h2 => absurd h2 (by omega)
  | n + 1, i, hb, h, j, h1, h2 => by
    rw [q_find] at h
    by_cases c : P i = true
    · rw [if_pos c] at h
      exact absurd h (uC_dne (by omega))
    · rw [if_neg c] at h
      by_cases e : j = i
      · rw [e]; exact Bool.eq_false_iff.mpr c
      · exact q_find_none n (i + 1) (by omega) h j (by omega) (by omega)
section UC
variable {d M : Nat} {A B : q_St}
theorem uT.E (h : uT d M A B) : uEt A B := h.1
theorem uT.cg {A' B' : q_St} (h : uT d M A B) (hA : ∀ k, 1 ≤ k → k < 10 → A' k = A k) (hB : B' 113 = B 113) : uT d M A' B' := ⟨h.E.cg hA hB, by rw [hB]; exact h.2⟩
theorem uT.up {e : Nat} (h : uT d M A B) (he : d ≤ e) : uT e M A B := ⟨h.1, uI_misc h.2 (fun _ _ => rfl) h.r1 (fun g hg => h.r12 hg) (fun g hg => by obtain ⟨n, h1, h2⟩ := h.db hg; exact ⟨n, by omega, h2⟩)⟩
theorem uT.noAns (h : uT d M A B) {m : Nat} (hm : m < 8) (h0 : ¬ 0 < uM_cnt B m 1 4) {g : Nat} (hg : g < 6) : B 113 (32 + 14 * m + 8 + g) = 0 := by
  have h1 := uM_cnt_0 h0 hg
  unfold uM_f at h1
  by_cases z : B 113 (32 + 14 * m + 2 + g) = 0
  · exact h.am0 hm hg z
  · rcases h.an5 hm hg with q | q | q | q | q
    · exact q
    all_goals
      rw [q, if_pos ⟨z, by decide⟩] at h1
      exact absurd h1 (by decide)
theorem uT.t_set (h : uT d M A B) {m g : Nat} {a : Int32} (hm : m < M) (hg : g < 6) (ha : -50 ≤ a ∧ a ≤ 50) (h0 : ¬ 0 < uM_cnt B m 1 4) : uT d M (q_p A 5 (m * 6 + g) a) (q_p B 113 (32 + 14 * m + 2 + g) a) := by
  have hm8 : m < 8 := Nat.lt_of_lt_of_le hm h.M8
  exact ⟨h.E.w_am hm8 hg a, uI_am h.2 hm hg ha (fun o ho => h.noAns hm8 h0 ho) (q_p_on _ _ _ _) (fun j hj => q_p_off _ _ _ _ _ _ (Or.inr hj))⟩
theorem uT.t_an (h : uT d M A B) {m g : Nat} {v : Int32} (hm : m < M) (hg : g < 6) (hv : v = 1 ∨ v = 2 ∨ v = 4) (hold : B 113 (32 + 14 * m + 8 + g) ≠ 3) (ham : B 113 (32 + 14 * m + 2 + g) ≠ 0) (h1 : v = 1 → ∀ n, n < 8 → B 113 (32 + 14 * n + 8 + g) = 1 → n = m) : uT d M (q_p A 6 (m * 6 + g) v) (q_p B 113 (32 + 14 * m + 8 + g) v) := by
  have hm8 : m < 8 := Nat.lt_of_lt_of_le hm h.M8
  exact ⟨h.E.w_an hm8 hg v, uI_an h.2 hm hg hv hold ham h1 (q_p_on _ _ _ _) (fun j hj => q_p_off _ _ _ _ _ _ (Or.inr hj))⟩
theorem uT.noDoubt (h : uT d M A B) {g : Nat} (hg : g < 6) (hd : uM_doubt B M g < 0) {n : Nat} (hn : n < 8) : B 113 (32 + 14 * n + 8 + g) ≠ 1 := by
  intro e
  by_cases c : n < M
  · have h9 := q_find_none M 0 (by have := h.M8; omega) ((uM_dneg B M g h.M8).mp hd) n (Nat.zero_le _) (by omega)
    unfold uM_pD at h9
    exact absurd (of_decide_eq_false h9) (fun q => q ⟨fun z => absurd ((h.am0 hn hg z).symm.trans e) (by decide), e⟩)
  · have h9 : B 113 (32 + 14 * n + 8 + g) = 0 := by rw [Nat.add_assoc]; exact h.zero (by omega) hn (by omega)
    rw [h9] at e
    exact absurd e (by decide)
theorem uT.t_ask (h : uT d M A B) {m g : Nat} (hm : m < M) (hg : g < 6) (ham : B 113 (32 + 14 * m + 2 + g) ≠ 0) (han : B 113 (32 + 14 * m + 8 + g) = 0) : uT d M (uC_ask A M m g) (uM_ask B M m g) := by
  have hm8 : m < 8 := Nat.lt_of_lt_of_le hm h.M8
  unfold uC_ask uM_ask
  by_cases w : uM_would B M m g
  · rw [if_pos w, if_pos ((h.would hm8 hg).mpr w)]
    exact h.t_an hm hg (by decide) (by rw [han]; decide) ham (fun _ n hn e => absurd e (h.noDoubt hg w.1 hn))
  · rw [if_neg w, if_neg (fun q => w ((h.would hm8 hg).mp q))]
    exact h.t_an hm hg (by decide) (by rw [han]; decide) ham (fun q => absurd q (by decide))
theorem uT.t_seal (h : uT d M A B) {m g : Nat} (hm : m < M) (hg : g < 6) (ham : B 113 (32 + 14 * m + 2 + g) ≠ 0) (hold : B 113 (32 + 14 * m + 8 + g) ≠ 3) : uT d M (uC_seal A m g) (uM_hear1 B m g) := by
  have hm8 : m < 8 := Nat.lt_of_lt_of_le hm h.M8
  unfold uC_seal uM_hear1
  rw [h.coin hg, h.am hm8 hg]
  refine ⟨(h.E.w_an hm8 hg 3).w_cn hg _, uI_seal h.2 hm hg hold ham ?_ (q_p_on _ _ _ _) (fun j h1 h2 => ?_)⟩
  · rw [q_p_off _ _ _ _ _ _ (Or.inr (by omega)), q_p_on]
  · rw [q_p_off _ _ _ _ _ _ (Or.inr h2), q_p_off _ _ _ _ _ _ (Or.inr h1)]
theorem uM_hear0_113 (S : q_St) (m g : Nat) (hg : g < 6) : uM_hear0 S m g 113 = q_p S 113 (32 + 14 * m + 8 + g) 4 113 := by
  funext j
  unfold uM_hear0
  by_cases e : j = 6 + g
  · subst e
    rw [q_p_on, q_p_off _ _ _ _ _ _ (Or.inr (by omega)), Int32.add_zero]
  · rw [q_p_off _ _ _ _ _ _ (Or.inr e)]
theorem uT.t_no (h : uT d M A B) {m g : Nat} (hm : m < M) (hg : g < 6) (ham : B 113 (32 + 14 * m + 2 + g) ≠ 0) (hold : B 113 (32 + 14 * m + 8 + g) ≠ 3) : uT d M (q_p A 6 (m * 6 + g) 4) (uM_hear0 B m g) :=
  (h.t_an hm hg (v := 4) (by decide) hold ham (fun q => absurd q (by decide))).cg (fun _ _ _ => rfl) (uM_hear0_113 B m g hg)
theorem uT.t_tell (h : uT d M A B) {m g : Nat} (hm : m < M) (hg : g < 6) (ham : B 113 (32 + 14 * m + 2 + g) ≠ 0) (hold : ¬ 3 ≤ B 113 (32 + 14 * m + 8 + g)) : uT d M (uC_tell A m g) (uM_tell B m g) := by
  have hm8 : m < 8 := Nat.lt_of_lt_of_le hm h.M8
  have h3 : B 113 (32 + 14 * m + 8 + g) ≠ 3 := fun e => hold (by rw [e]; decide)
  unfold uC_tell uM_tell
  rw [h.how hm8]
  by_cases e : B 113 (32 + 14 * m) = 1
  · rw [if_pos e, if_pos e]
    exact h.t_seal hm hg ham h3
  · rw [if_neg e, if_neg e]
    exact h.t_no hm hg ham h3
theorem uD_lt {r : Nat → Int32} {m : Nat} (h0 : r (32 + 14 * m) = 0) : ∀ M, m < M → uD r M < M
  | 0, h => absurd h (Nat.not_lt_zero _)
  | M + 1, h => by
    rw [uD]
    by_cases e : M = m
    · subst e
      rw [if_pos h0]
      have := uD_le r M
      omega
    · have := uD_lt h0 M (by omega)
      split <;> omega
theorem uT.t_book (h : uT d M A B) {m N : Nat} {v : Int32} (hm : m < M) (hv : v = 1 ∨ v = 2) (h0 : B 113 (32 + 14 * m) = 0) (hN : N = uD (B 113) M) : uT d M (uC_book A m N v) (uM_book B m N v) := by
  have hm8 : m < 8 := Nat.lt_of_lt_of_le hm h.M8
  have hN8 : N < 8 := by
    have := uD_lt h0 M hm
    have := h.M8
    omega
  unfold uC_book uM_book
  refine ⟨((h.E.w_hw hm8 v).w_bk hN8 (nI m)).w_f1 (nI (N + 1)), uI_book h.2 hm hv h0 ?_ ?_ (fun j h1 h2 h3 => ?_)⟩
  · rw [q_p_off _ _ _ _ _ _ (Or.inr (by omega)), q_p_off _ _ _ _ _ _ (Or.inr (by omega)), q_p_on]
  · rw [q_p_on, hN]
  · rw [q_p_off _ _ _ _ _ _ (Or.inr h2), q_p_off _ _ _ _ _ _ (Or.inr (by omega)), q_p_off _ _ _ _ _ _ (Or.inr h1)]
theorem uT.t_dec (h : uT d M A B) {m N : Nat} (hm : m < M) (h0 : B 113 (32 + 14 * m) = 0) (hN : N = uD (B 113) M) : uT d M (uC_decide A N m) (uM_dec B N m) := by
  have hm8 : m < 8 := Nat.lt_of_lt_of_le hm h.M8
  unfold uC_decide uM_dec
  by_cases e : uM_opp B m
  · rw [if_pos e, if_pos ((h.opposed hm8).mpr e)]
    exact h.t_book hm (Or.inr rfl) h0 hN
  · rw [if_neg e, if_neg (fun q => e ((h.opposed hm8).mp q))]
    exact h.t_book hm (Or.inl rfl) h0 hN
theorem uT.t_faint (h : uT d M A B) : uT d M (uC_faint A) (uM_faint B) := by
  unfold uC_faint uM_faint
  have e : uEt (q_p A 1 5 0) (q_p B 113 1 1) := h.E.w_f5 1
  rw [h.fts]
  refine ⟨e.w_f4 _, uI_misc h.2 (fun j hj => ?_) ?_ (fun g hg => ?_) (fun g hg => ?_)⟩
  · rw [q_p_off _ _ _ _ _ _ (Or.inr (by omega)), q_p_off _ _ _ _ _ _ (Or.inr (by omega))]
  · rw [q_p_off _ _ _ _ _ _ (Or.inr (by decide)), q_p_on]
    exact Or.inr rfl
  · rw [q_p_off _ _ _ _ _ _ (Or.inr (by omega)), q_p_off _ _ _ _ _ _ (Or.inr (by omega))]
    exact h.r12 hg
  · rw [q_p_off _ _ _ _ _ _ (Or.inr (by omega)), q_p_off _ _ _ _ _ _ (Or.inr (by omega))]
    exact h.db hg
theorem uT.t_slp (h : uT d M A B) {g : Nat} {v : Int32} (hg : g < 6) (hv : v = 0 ∨ v = 1) : uT d M (q_p A 9 g (1 - v)) (q_p B 113 (12 + g) v) := by
  refine ⟨h.E.w_sl hg v, uI_misc h.2 (fun j hj => ?_) ?_ (fun o ho => ?_) (fun o ho => ?_)⟩
  · rw [q_p_off _ _ _ _ _ _ (Or.inr (by omega))]
  · rw [q_p_off _ _ _ _ _ _ (Or.inr (by omega))]
    exact h.r1
  · by_cases e : o = g
    · subst e
      rw [q_p_on]
      exact hv
    · rw [q_p_off _ _ _ _ _ _ (Or.inr (by omega))]
      exact h.r12 ho
  · rw [q_p_off _ _ _ _ _ _ (Or.inr (by omega))]
    exact h.db ho
theorem uT.t_in (h : uT d M A B) : uT d M (q_p A 1 3 (A 1 3 + 1)) (q_p B 113 3 (B 113 3 + 1)) := by
  rw [h.inq]
  refine ⟨h.E.w_f3 _, uI_misc h.2 (fun j hj => ?_) ?_ (fun g hg => ?_) (fun g hg => ?_)⟩
  · rw [q_p_off _ _ _ _ _ _ (Or.inr (by omega))]
  · rw [q_p_off _ _ _ _ _ _ (Or.inr (by decide))]
    exact h.r1
  · rw [q_p_off _ _ _ _ _ _ (Or.inr (by omega))]
    exact h.r12 hg
  · rw [q_p_off _ _ _ _ _ _ (Or.inr (by omega))]
    exact h.db hg
end UC
