
/-! copying a council, the history, the reasons -/
def uC_len (i : Nat) : Nat := [6, 8, 8, 8, 48, 48, 6, 6, 6].getD i 0
def q_cp (S : q_St) (b o : Nat) : q_St := fun k j => if b ≤ k ∧ k < b + 9 ∧ j < uC_len (k - b) then S (o + (k - b)) j else S k j
def q_bool (S : q_St) (b : Nat) : Prop := (S b 5 = 0 ∨ S b 5 = 1) ∧ ∀ g, g < 6 → (S (b + 8) g = 0 ∨ S (b + 8) g = 1)
theorem q_cpy_at (f g : Nat → Int32) (n j : Nat) : va_cpy f g 0 0 n j = if j < n then f j else g j := by
  unfold va_cpy
  by_cases h : j < n <;> simp [h]
theorem q_cpy_0 (f g : Nat → Int32) : va_cpy f g 0 0 0 = g := by
  funext j
  rw [q_cpy_at, if_neg (by omega)]
theorem q_cpy_s (f g : Nat → Int32) (n : Nat) : upd (va_cpy f g 0 0 n) n (f n) = va_cpy f g 0 0 (n + 1) := by
  funext j
  rw [q_cpy_at]
  unfold upd
  rw [q_cpy_at]
  by_cases h : j = n
  · subst h
    rw [if_pos rfl, if_pos (by omega)]
  · rw [if_neg h]
    by_cases h2 : j < n
    · rw [if_pos h2, if_pos (by omega)]
    · rw [if_neg h2, if_neg (by omega)]
theorem q_u_s (T : q_St) (k : Nat) (f g : Nat → Int32) (n : Nat) : q_p (q_u T k (va_cpy f g 0 0 n)) k n (f n) = q_u T k (va_cpy f g 0 0 (n + 1)) := by
  funext k'
  unfold q_p q_u
  by_cases h : k' = k
  · subst h
    simp only [if_true]
    exact q_cpy_s f g n
  · simp [h]
theorem q_u_0 (T : q_St) (k : Nat) (f : Nat → Int32) : T = q_u T k (va_cpy f (T k) 0 0 0) := by
  funext k'
  unfold q_u
  by_cases h : k' = k
  · subst h
    rw [if_pos rfl, q_cpy_0]
  · rw [if_neg h]
theorem q_nar_b {x : Int32} (h : x = 0 ∨ x = 1) : vp_nar .boolean x = x := by rcases h with rfl | rfl <;> decide
theorem q_narrow_b {x : Int32} (h : x = 0 ∨ x = 1) : narrow .boolean (.int x) = .int x := by rcases h with rfl | rfl <;> rfl
theorem q_fits_b {x : Int32} (h : x = 0 ∨ x = 1) : fits .boolean (.int x) = true := by rcases h with rfl | rfl <;> decide
set_option maxHeartbeats 1000000 in
theorem q_cp_eq (S : q_St) (b o : Nat) : q_u (q_u (q_u (q_u (q_u (q_u (q_u (q_u (q_p (q_p (q_p (q_p (q_p (q_p S b 0 (S o 0)) b 1 (S o 1)) b 2 (S o 2)) b 3 (S o 3)) b 4 (S o 4)) b 5 (S o 5)) (b + 1) (va_cpy (S (o + 1)) (S (b + 1)) 0 0 8)) (b + 2) (va_cpy (S (o + 2)) (S (b + 2)) 0 0 8)) (b + 3) (va_cpy (S (o + 3)) (S (b + 3)) 0 0 8)) (b + 4) (va_cpy (S (o + 4)) (S (b + 4)) 0 0 48)) (b + 5) (va_cpy (S (o + 5)) (S (b + 5)) 0 0 48)) (b + 6) (va_cpy (S (o + 6)) (S (b + 6)) 0 0 6)) (b + 7) (va_cpy (S (o + 7)) (S (b + 7)) 0 0 6)) (b + 8) (va_cpy (S (o + 8)) (S (b + 8)) 0 0 6) = q_cp S b o := by
  funext k j
  unfold q_cp
  by_cases hk : b ≤ k ∧ k < b + 9
  · obtain ⟨h1, h2⟩ := hk
    obtain ⟨i, rfl⟩ : ∃ i, k = b + i := ⟨k - b, by omega⟩
    have hi : i < 9 := by omega
    have e : b + i - b = i := by omega
    rw [e]
    have c : i = 0 ∨ i = 1 ∨ i = 2 ∨ i = 3 ∨ i = 4 ∨ i = 5 ∨ i = 6 ∨ i = 7 ∨ i = 8 := by omega
    rcases c with rfl | rfl | rfl | rfl | rfl | rfl | rfl | rfl | rfl
    · simp only [q_u, q_p, upd, uC_len]
      by_cases h : j < 6
      · have c : j = 0 ∨ j = 1 ∨ j = 2 ∨ j = 3 ∨ j = 4 ∨ j = 5 := by omega
        rcases c with rfl | rfl | rfl | rfl | rfl | rfl <;> simp [upd]
      · have h0 : j ≠ 0 := by omega
        have h1 : j ≠ 1 := by omega
        have h2 : j ≠ 2 := by omega
        have h3 : j ≠ 3 := by omega
        have h4 : j ≠ 4 := by omega
        have h5 : j ≠ 5 := by omega
        simp [upd, h, h0, h1, h2, h3, h4, h5]
    all_goals simp [q_u, q_p, q_cpy_at, uC_len]
  · have hn : ¬ (b ≤ k ∧ k < b + 9 ∧ j < uC_len (k - b)) := fun h => hk ⟨h.1, h.2.1⟩
    rw [if_neg hn]
    have n0 : k ≠ b := by omega
    have n1 : k ≠ b + 1 := by omega
    have n2 : k ≠ b + 2 := by omega
    have n3 : k ≠ b + 3 := by omega
    have n4 : k ≠ b + 4 := by omega
    have n5 : k ≠ b + 5 := by omega
    have n6 : k ≠ b + 6 := by omega
    have n7 : k ≠ b + 7 := by omega
    have n8 : k ≠ b + 8 := by omega
    simp [q_u, q_p, n0, n1, n2, n3, n4, n5, n6, n7, n8]
/-- the history: kept before a change, taken back -/
def uH_keep (S : q_St) (i z o : Nat) : q_St := q_p (q_p (q_cp S (30 + 9 * i) o) 28 1 (nI ((i + 1) % 8))) 28 2 (nI (min (z + 1) 8))
def uH_back (S : q_St) (i z : Nat) : q_St := q_cp (q_p (q_p S 28 1 (nI ((i + 8 - 1) % 8))) 28 2 (nI (z - 1))) 1 (30 + 9 * ((i + 8 - 1) % 8))
/-- the reasons -/
def uR_set (S : q_St) (n d : Int32) : q_St := q_p (q_p S 102 1 n) 102 2 d
abbrev uR_O : Type := Option (Int32 × Int32)
def uR_v : uR_O → Int32
  | none => 0
  | some _ => 1
def uR_st (S : q_St) : uR_O → q_St
  | none => S
  | some q => uR_set S q.1 q.2
theorem uR_nb (o : uR_O) : narrow .boolean (.int (uR_v o)) = .int (uR_v o) := by
  cases o with
  | none => exact q_narrow_b (Or.inl rfl)
  | some q => exact q_narrow_b (Or.inr rfl)
def uR_fainted (S : q_St) (M : Nat) : uR_O := if S 1 5 = 0 then some (2, uC_matters S M 0) else none
abbrev uR_und (S : q_St) (m : Nat) : Prop := (uC_first S m < 6 ∨ uC_guilds S m = 0) ∧ ¬ uC_opposed S m
def uR_matter (M : Nat) : uR_O := if 8 ≤ M then some (1, nI M) else none
def uR_setA (S : q_St) (m g : Nat) (a : Int32) : uR_O := if S 2 m ≠ 0 then some (3, S 2 m) else if 0 < uC_answered S m then some (6, uC_answered S m) else if S 5 (m * 6 + g) = a then some (10, a) else none
def uR_ask (S : q_St) (M m g : Nat) : uR_O := if S 1 5 = 0 then some (2, uC_matters S M 0) else if S 2 m ≠ 0 then some (3, S 2 m) else if S 5 (m * 6 + g) = 0 then some (4, nI g) else if S 9 g = 0 then some (5, nI g) else if S 6 (m * 6 + g) ≠ 0 then some (9, S 6 (m * 6 + g)) else none
def uR_decide (S : q_St) (M m : Nat) : uR_O := if S 1 5 = 0 then some (2, uC_matters S M 0) else if S 2 m ≠ 0 then some (3, S 2 m) else if uR_und S m then some (7, nI (uC_first S m)) else none
def uR_tell (S : q_St) (M m g : Nat) : uR_O := if S 1 5 = 0 then some (2, uC_matters S M 0) else if S 2 m = 0 then some (8, nI m) else if S 5 (m * 6 + g) = 0 then some (4, nI g) else if S 9 g = 0 then some (5, nI g) else if S 6 (m * 6 + g) = 3 ∨ S 6 (m * 6 + g) = 4 then some (9, S 6 (m * 6 + g)) else none
def uR_wake (S : q_St) : uR_O := if S 1 5 = 0 then none else some (11, S 1 1)
def uR_sleep (S : q_St) (g : Nat) : uR_O := if S 9 g = 0 then some (10, 0) else none
def uR_rouse (S : q_St) (g : Nat) : uR_O := if S 9 g = 0 then none else some (10, 1)
def uR_inq (S : q_St) (m g o : Nat) : uR_O := if S 5 (m * 6 + g) = 0 then some (4, nI g) else if S 5 (m * 6 + o) = 0 then some (4, nI o) else if S 9 g = 0 then some (5, nI g) else if S 9 o = 0 then some (5, nI o) else if S 6 (m * 6 + g) ≠ 1 then some (12, S 6 (m * 6 + g)) else if S 6 (m * 6 + o) = 1 then some (13, nI o) else none
theorem q_first_le (P : Nat → Bool) : ∀ n i, q_first P n i ≤ i + n
  | 0, i => Nat.le_refl _
  | n + 1, i => by
    rw [q_first]
    split
    · omega
    · have := q_first_le P n (i + 1)
      omega
theorem uC_first_le (S : q_St) (m : Nat) : uC_first S m ≤ 6 := q_first_le _ 6 0
