
/-! the line: how long it is, what it holds -/
abbrev uL_T : Type := Nat × (Nat → Int32)
def uL_at (S : q_St) (q : uL_T) : q_St := q_u (q_p S 110 1 (nI q.1)) 111 q.2
def uL_put (c : Int32) (q : uL_T) : uL_T := (q.1 + 1, upd q.2 q.1 c)
def uL_num (v : Nat) (q : uL_T) : uL_T := if 10 ≤ v then uL_put (nI (48 + v % 10)) (uL_put (nI (48 + v / 10)) q) else uL_put (nI (48 + v % 10)) q
def uL_abs (x : Int32) : Nat := x.toInt.natAbs
def uL_how (x : Int32) : Int32 := if x = 1 then 115 else if x = 2 then 98 else 111
def uL_ans (x : Int32) : Int32 := if x = 1 then 114 else if x = 2 then 117 else if x = 3 then 115 else if x = 4 then 98 else 110
def uL_guild (S : q_St) (m g : Nat) (q : uL_T) : uL_T := uL_put (uL_ans (S 6 (m * 6 + g))) (uL_num (uL_abs (S 5 (m * 6 + g))) (uL_put (if S 5 (m * 6 + g) < 0 then 45 else 43) (uL_num g (uL_put 32 q))))
def uL_head (S : q_St) (m : Nat) : uL_T := uL_put (uL_how (S 2 m)) (uL_num m (uL_put 35 (0, S 111)))
def uL_gs (S : q_St) (m : Nat) : Nat → uL_T
  | 0 => uL_head S m
  | g + 1 => if S 5 (m * 6 + g) ≠ 0 then uL_guild S m g (uL_gs S m g) else uL_gs S m g
theorem uL_at_w (S : q_St) (q : uL_T) (c : Int32) : q_p (q_p (uL_at S q) 111 q.1 c) 110 1 (nI (q.1 + 1)) = uL_at S (uL_put c q) := by
  funext k j
  unfold uL_at uL_put q_p q_u
  by_cases h1 : k = 110
  · subst h1
    by_cases h2 : j = 1
    · subst h2; simp [upd]
    · simp [upd, h2]
  · by_cases h3 : k = 111
    · subst h3; simp
    · simp [h1, h3]
theorem uL_start (S : q_St) : q_p S 110 1 0 = uL_at S (0, S 111) := by
  funext k j
  unfold uL_at q_p q_u
  by_cases h3 : k = 111
  · subst h3; simp
  · by_cases h1 : k = 110
    · subst h1; simp; rfl
    · simp [h1, h3]
theorem uL_num_le (v : Nat) (q : uL_T) : (uL_num v q).1 ≤ q.1 + 2 := by
  unfold uL_num
  split <;> simp [uL_put]
theorem uL_num_1 {v : Nat} (h : v < 10) (q : uL_T) : (uL_num v q).1 = q.1 + 1 := by
  unfold uL_num
  rw [if_neg (by omega)]
  rfl
theorem uL_put_1 (c : Int32) (q : uL_T) : (uL_put c q).1 = q.1 + 1 := rfl
theorem uL_guild_le (S : q_St) (m g : Nat) (hg : g < 6) (q : uL_T) : (uL_guild S m g q).1 ≤ q.1 + 6 := by
  unfold uL_guild
  rw [uL_put_1]
  have h1 := uL_num_le (uL_abs (S 5 (m * 6 + g))) (uL_put (if S 5 (m * 6 + g) < 0 then 45 else 43) (uL_num g (uL_put 32 q)))
  rw [uL_put_1, uL_num_1 (v := g) (by omega), uL_put_1] at h1
  omega
theorem uL_gs_le (S : q_St) (m : Nat) (hm : m < 8) : ∀ g, g ≤ 6 → (uL_gs S m g).1 ≤ 3 + 6 * g
  | 0, _ => by
    show (uL_head S m).1 ≤ _
    unfold uL_head
    rw [uL_put_1, uL_num_1 (v := m) (by omega), uL_put_1]
    omega
  | g + 1, h => by
    have ih := uL_gs_le S m hm g (by omega)
    rw [uL_gs]
    split
    · have := uL_guild_le S m g (by omega) (uL_gs S m g)
      omega
    · omega
theorem uL_absE {x : Int32} (h1 : -50 ≤ x) (h2 : x ≤ 50) : (if 0 ≤ x then x else 0 - x) = nI (uL_abs x) ∧ uL_abs x ≤ 50 := by
  have k1 : (-50 : Int) ≤ x.toInt := Int32.le_iff_toInt_le.mp h1
  have k2 : x.toInt ≤ 50 := Int32.le_iff_toInt_le.mp h2
  refine ⟨?_, by unfold uL_abs; omega⟩
  have e : nI (uL_abs x) = Int32.ofInt (uL_abs x : Int) := rfl
  rw [e]
  by_cases h : 0 ≤ x
  · rw [if_pos h]
    have k3 : (0 : Int) ≤ x.toInt := Int32.le_iff_toInt_le.mp h
    rw [show (uL_abs x : Int) = x.toInt by unfold uL_abs; omega, Int32.ofInt_toInt]
  · rw [if_neg h]
    have k3 : ¬ (0 : Int) ≤ x.toInt := fun q => h (Int32.le_iff_toInt_le.mpr q)
    rw [show (uL_abs x : Int) = 0 - x.toInt by unfold uL_abs; omega, Int32.ofInt_sub, Int32.ofInt_toInt]
    rfl
theorem q_ch {n : Nat} (h : n < 65536) : ∃ q, q < 65536 ∧ nI n = nI q := ⟨n, h, rfl⟩
theorem uL_how_ch (x : Int32) : ∃ q, q < 65536 ∧ uL_how x = nI q := by
  unfold uL_how
  split
  · exact ⟨115, by decide, rfl⟩
  · split
    · exact ⟨98, by decide, rfl⟩
    · exact ⟨111, by decide, rfl⟩
theorem uL_ans_ch (x : Int32) : ∃ q, q < 65536 ∧ uL_ans x = nI q := by
  unfold uL_ans
  split
  · exact ⟨114, by decide, rfl⟩
  · split
    · exact ⟨117, by decide, rfl⟩
    · split
      · exact ⟨115, by decide, rfl⟩
      · split
        · exact ⟨98, by decide, rfl⟩
        · exact ⟨110, by decide, rfl⟩
