
/-! the reference's line -/
def uV_at (S : q_St) (q : uL_T) : q_St := q_u (q_p S 112 11 (nI q.1)) 117 q.2
theorem uV_at_w (S : q_St) (q : uL_T) (c : Int32) : q_p (q_p (uV_at S q) 117 q.1 c) 112 11 (nI (q.1 + 1)) = uV_at S (uL_put c q) := by
  funext k j
  unfold uV_at uL_put q_p q_u
  by_cases h1 : k = 112
  · subst h1
    by_cases h2 : j = 11
    · subst h2; simp [upd]
    · simp [upd, h2]
  · by_cases h3 : k = 117
    · subst h3; simp
    · simp [h1, h3]
theorem uV_start (S : q_St) : q_p S 112 11 0 = uV_at S (0, S 117) := by
  funext k j
  unfold uV_at q_p q_u
  by_cases h3 : k = 117
  · subst h3; simp
  · by_cases h1 : k = 112
    · subst h1; simp; rfl
    · simp [h1, h3]
def uV_guild (S : q_St) (m g : Nat) (q : uL_T) : uL_T := uL_put (uL_ans (uM_an S m g)) (uL_num (uL_abs (uM_am S m g)) (uL_put (if 0 < uM_am S m g then 43 else 45) (uL_num g (uL_put 32 q))))
def uV_head (S : q_St) (m : Nat) : uL_T := uL_put (uL_how (uM_how S m)) (uL_num m (uL_put 35 (0, S 117)))
def uV_gs (S : q_St) (m : Nat) : Nat → uL_T
  | 0 => uV_head S m
  | g + 1 => if uM_am S m g ≠ 0 then uV_guild S m g (uV_gs S m g) else uV_gs S m g
theorem uV_guild_le (S : q_St) (m g : Nat) (hg : g < 6) (q : uL_T) : (uV_guild S m g q).1 ≤ q.1 + 6 := by
  unfold uV_guild
  rw [uL_put_1]
  have h1 := uL_num_le (uL_abs (uM_am S m g)) (uL_put (if 0 < uM_am S m g then 43 else 45) (uL_num g (uL_put 32 q)))
  rw [uL_put_1, uL_num_1 (v := g) (by omega), uL_put_1] at h1
  omega
theorem uV_gs_le (S : q_St) (m : Nat) (hm : m < 8) : ∀ g, g ≤ 6 → (uV_gs S m g).1 ≤ 3 + 6 * g
  | 0, _ => by
    show (uV_head S m).1 ≤ _
    unfold uV_head
    rw [uL_put_1, uL_num_1 (v := m) (by omega), uL_put_1]
    omega
  | g + 1, h => by
    have ih := uV_gs_le S m hm g (by omega)
    rw [uV_gs]
    split
    · have := uV_guild_le S m g (by omega) (uV_gs S m g)
      omega
    · omega
/-- what a line needs of the row -/
def uV_ok (S : q_St) (M : Nat) : Prop := ∀ m, m < M → (∃ j, j < 3 ∧ S 113 (32 + 14 * m) = nI j) ∧ ∀ g, g < 6 → (-50 ≤ S 113 (32 + 14 * m + 2 + g) ∧ S 113 (32 + 14 * m + 2 + g) ≤ 50) ∧ ∃ j, j < 5 ∧ S 113 (32 + 14 * m + 8 + g) = nI j
def uMq_line (S : q_St) (M : Nat) (x : Int32) : Int32 × q_St := if 0 ≤ x ∧ x < nI M then (nI (uV_gs S (uN x) 6).1, uV_at (q_p S 112 6 0) (uV_gs S (uN x) 6)) else uM_bad S 1
theorem uV_ch1 : ∀ j, j < 3 → (q_byt.getD 1 []).getD j 0 = uL_how (nI j) := by
  intro j hj
  rcases (show j = 0 ∨ j = 1 ∨ j = 2 by omega) with rfl | rfl | rfl <;> decide +kernel
theorem uV_ch2 : ∀ j, j < 5 → (q_byt.getD 2 []).getD j 0 = uL_ans (nI j) := by
  intro j hj
  rcases (show j = 0 ∨ j = 1 ∨ j = 2 ∨ j = 3 ∨ j = 4 by omega) with rfl | rfl | rfl | rfl | rfl <;> decide +kernel
