
/-! refusals are equal -/
section UR
variable {d M : Nat} {A B : q_St}
theorem uT.rf_matter (h : uT d M A B) : uR_matter M = uMr_matter M := by
  have := h.M8
  unfold uR_matter uMr_matter
  by_cases e : M = 8
  · subst e; rfl
  · rw [if_neg e, if_neg (by omega)]
theorem uT.rf_set (h : uT d M A B) {m g : Nat} (hm : m < 8) (hg : g < 6) (a : Int32) : uR_setA A m g a = uMr_set B m g a := by
  simp only [uR_setA, uMr_set, h.how hm, h.answered hm, h.am hm hg]
theorem uT.rf_ask (h : uT d M A B) {m g : Nat} (hm : m < 8) (hg : g < 6) : uR_ask A M m g = uMr_ask B M m g := by
  simp only [uR_ask, uMr_ask, h.isA, h.matters, h.how hm, h.am hm hg, h.an hm hg, h.isS hg]
theorem uT.rf_faint (h : uT d M A B) : uR_fainted A M = uMr_faint B M := by
  simp only [uR_fainted, uMr_faint, h.isA, h.matters]
theorem uT.rf_wake (h : uT d M A B) : uR_wake A = uMr_wake B := by
  have e1 : A 1 1 = B 113 5 := h.hNA.trans h.hN.symm
  unfold uR_wake uMr_wake
  by_cases e : B 113 1 = 0
  · rw [if_pos e, if_neg (h.isA'.mpr e), e1]
  · rw [if_neg e, if_pos (Decidable.not_not.mp (fun q => e (h.isA'.mp q)))]
theorem uT.rf_sleep (h : uT d M A B) {g : Nat} (hg : g < 6) : uR_sleep A g = uMr_sleep B g 1 := by
  unfold uR_sleep uMr_sleep
  by_cases e : A 9 g = 0
  · rw [if_pos e, if_pos ((h.isS hg).mp e)]; rfl
  · rw [if_neg e, if_neg (fun q => e ((h.isS hg).mpr q))]
theorem uT.rf_rouse (h : uT d M A B) {g : Nat} (hg : g < 6) : uR_rouse A g = uMr_sleep B g 0 := by
  unfold uR_rouse uMr_sleep
  by_cases e : A 9 g = 0
  · rw [if_pos e, if_neg (by rw [(h.isS hg).mp e]; decide)]
  · rw [if_neg e, if_pos ((h.r12 hg).resolve_right (fun q => e ((h.isS hg).mpr q)))]; rfl
theorem uT.rf_tell (h : uT d M A B) {m g : Nat} (hm : m < 8) (hg : g < 6) : uR_tell A M m g = uMr_tell B M m g := by
  have e5 : (B 113 (32 + 14 * m + 8 + g) = 3 ∨ B 113 (32 + 14 * m + 8 + g) = 4) ↔ 3 ≤ B 113 (32 + 14 * m + 8 + g) := by
    rcases h.an5 hm hg with q | q | q | q | q <;> rw [q] <;> decide
  simp only [uR_tell, uMr_tell, h.isA, h.matters, h.how hm, h.am hm hg, h.an hm hg, h.isS hg, e5]
theorem uT.rf_inq (h : uT d M A B) {m g o : Nat} (hm : m < 8) (hg : g < 6) (ho : o < 6) : uR_inq A m g o = uMr_inq B m g o := by
  simp only [uR_inq, uMr_inq, h.am hm hg, h.am hm ho, h.an hm hg, h.an hm ho, h.isS hg, h.isS ho]
theorem uT.rf_decide (h : uT d M A B) {m : Nat} (hm : m < 8) : uR_decide A M m = uMr_decide B M m := by
  have e9 : uR_und A m ↔ (uM_first B m < 6 ∨ uM_cnt B m 0 4 = 0) ∧ ¬ uM_opp B m := by
    show (uC_first A m < 6 ∨ uC_guilds A m = 0) ∧ ¬ uC_opposed A m ↔ _
    rw [h.first hm, h.guilds hm, h.opposed hm]
  simp only [uR_decide, uMr_decide, h.isA, h.matters, h.how hm, h.first hm, e9]
  by_cases q1 : B 113 1 = 1
  · rw [if_pos q1, if_pos q1]
  · rw [if_neg q1, if_neg q1]
    by_cases q2 : B 113 (32 + 14 * m) ≠ 0
    · rw [if_pos q2, if_pos q2]
    · rw [if_neg q2, if_neg q2]
      by_cases q3 : uM_opp B m
      · rw [if_pos q3, if_neg (fun q => q.2 q3)]
      · rw [if_neg q3]
        by_cases q4 : uM_first B m < 6
        · rw [if_pos q4, if_pos ⟨Or.inl q4, q3⟩]
        · rw [if_neg q4]
          by_cases q5 : uM_cnt B m 0 4 = 0
          · rw [if_pos q5, if_pos ⟨Or.inr q5, q3⟩]
          · rw [if_neg q5, if_neg (fun q => q.1.elim q4 q5)]
theorem uT.pAll (h : uT d M A B) {m g : Nat} (hm : m < 8) (hg : g < 6) : uC_pAll A M m g = uM_pAll B M m g := by
  unfold uC_pAll uM_pAll
  refine decide_eq_decide.mpr ?_
  show (A 5 (m * 6 + g) = 0 ∨ A 6 (m * 6 + g) = 1 ∨ (A 6 (m * 6 + g) = 0 ∧ uC_would A M m g)) ↔ _
  rw [h.am hm hg, h.an hm hg, h.would hm hg]
theorem q_every_cg {P Q : Nat → Bool} : ∀ n i, (∀ j, i ≤ j → j < i + n → P j = Q j) → q_every P n i = q_every Q n i
  | 0, _, _ => rfl
  | n + 1, i, h => by
    rw [q_every, q_every, h i (Nat.le_refl _) (by omega), q_every_cg n (i + 1) (fun j h1 h2 => h j (by omega) (by omega))]
end UR
