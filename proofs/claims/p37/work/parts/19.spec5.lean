
/-! the clerk: an order by its letter and its three numbers -/
abbrev uK_lacks (S : q_St) (m g : Int32) : Prop := ¬ (0 ≤ m ∧ m < S 1 0) ∨ ¬ (0 ≤ g ∧ g < 6)
def uK_wrong (S : q_St) (k m g v : Int32) : Bool :=
  if k = 97 then decide (uK_lacks S m g ∨ v < -50 ∨ 50 < v)
  else if k = 113 ∨ k = 116 then decide (uK_lacks S m g)
  else if k = 105 then decide (uK_lacks S m g ∨ ¬ (0 ≤ v ∧ v < 6))
  else if k = 100 then decide (¬ (0 ≤ m ∧ m < S 1 0))
  else if k = 115 ∨ k = 114 then decide (¬ (0 ≤ g ∧ g < 6))
  else if k = 104 then decide (v < 1 ∨ 24 < v)
  else false
def uN (x : Int32) : Nat := x.toNatClampNeg
def uK_ref (S : q_St) (k m g v : Int32) : uR_O :=
  if k = 110 then uR_matter (uN (S 1 0))
  else if k = 97 then uR_setA S (uN m) (uN g) v
  else if k = 113 then uR_ask S (uN (S 1 0)) (uN m) (uN g)
  else if k = 100 then uR_decide S (uN (S 1 0)) (uN m)
  else if k = 116 then uR_tell S (uN (S 1 0)) (uN m) (uN g)
  else if k = 102 then uR_fainted S (uN (S 1 0))
  else if k = 119 then uR_wake S
  else if k = 115 then uR_sleep S (uN g)
  else if k = 114 then uR_rouse S (uN g)
  else if k = 105 then uR_inq S (uN m) (uN g) (uN v)
  else none
def uK_do (S : q_St) (k m g v : Int32) : q_St :=
  if k = 110 then q_p (q_p S 3 (uN (S 1 0)) (S 1 2)) 1 0 (nI (uN (S 1 0) + 1))
  else if k = 97 then q_p S 5 (uN m * 6 + uN g) v
  else if k = 113 then uC_ask S (uN (S 1 0)) (uN m) (uN g)
  else if k = 100 then uC_decide S (uN (S 1 1)) (uN m)
  else if k = 116 then uC_tell S (uN m) (uN g)
  else if k = 102 then uC_faint S
  else if k = 119 then uC_wake S (uN (S 1 0)) (uN (S 1 1))
  else if k = 115 then q_p S 9 (uN g) 0
  else if k = 114 then q_p S 9 (uN g) 1
  else if k = 105 then uC_inq S (uN m) (uN g) (uN v)
  else uC_pass S (uN (S 1 0)) v
/-- what is carried out from the order i on, f of them: 0 done, 1 refused, 2 wrong; and the state then -/
def uK_all (T : q_St) : Nat → Nat → q_St → Int32 × q_St
  | 0, _, S => (0, S)
  | f + 1, i, S =>
    if uK_wrong S (T 105 i) (T 106 i) (T 107 i) (T 108 i) = true then (2, S)
    else match uK_ref S (T 105 i) (T 106 i) (T 107 i) (T 108 i) with
      | some q => (1, uR_set S q.1 q.2)
      | none => uK_all T f (i + 1) (uK_do S (T 105 i) (T 106 i) (T 107 i) (T 108 i))
/-- what holds of a council at all times, as far as the machine needs it -/
def uJ_cnt (S : q_St) : Nat → Nat
  | 0 => 0
  | m + 1 => if S 2 m = 0 then uJ_cnt S m else uJ_cnt S m + 1
def uJ (S : q_St) : Prop := ∃ M : Nat, M ≤ 8 ∧ S 1 0 = nI M ∧ S 1 1 = nI (uJ_cnt S M) ∧ (∀ m, M ≤ m → m < 8 → S 2 m = 0) ∧ q_bool S 1
theorem uN_nI {n : Nat} (h : n < 2 ^ 31) : uN (nI n) = n := nI_clamp h
theorem uJ_cnt_le (S : q_St) : ∀ m, uJ_cnt S m ≤ m
  | 0 => Nat.le_refl _
  | m + 1 => by
    have := uJ_cnt_le S m
    rw [uJ_cnt]
    split <;> omega
theorem uJ_cnt_cg {S T : q_St} : ∀ m, (∀ j, j < m → (T 2 j = 0 ↔ S 2 j = 0)) → uJ_cnt T m = uJ_cnt S m
  | 0, _ => rfl
  | m + 1, h => by
    rw [uJ_cnt, uJ_cnt, uJ_cnt_cg m (fun j hj => h j (by omega))]
    by_cases e : S 2 m = 0
    · rw [if_pos e, if_pos ((h m (by omega)).mpr e)]
    · rw [if_neg e, if_neg (fun q => e ((h m (by omega)).mp q))]
theorem uJ_cnt_lt {S : q_St} {m : Nat} (hm : S 2 m = 0) : ∀ M, m < M → uJ_cnt S M < M
  | 0, h => absurd h (Nat.not_lt_zero m)
  | M + 1, h => by
    rw [uJ_cnt]
    by_cases e : m = M
    · subst e
      rw [if_pos hm]
      have := uJ_cnt_le S m
      omega
    · have := uJ_cnt_lt hm M (by omega)
      split <;> omega
theorem uJ_cnt_up {S : q_St} {m : Nat} {v : Int32} (hm : S 2 m = 0) (hv : v ≠ 0) : ∀ M, uJ_cnt (q_p S 2 m v) M = if m < M then uJ_cnt S M + 1 else uJ_cnt S M
  | 0 => by simp [uJ_cnt]
  | M + 1 => by
    rw [uJ_cnt, uJ_cnt, uJ_cnt_up hm hv M]
    by_cases e : M = m
    · subst e
      simp [q_p, upd, hv, hm]
    · by_cases e2 : m < M
      · have e3 : m < M + 1 := by omega
        simp only [q_p, upd, e, e2, e3, if_true, if_false]
        split <;> omega
      · have e3 : ¬ m < M + 1 := by omega
        simp only [q_p, upd, e, e2, e3, if_true, if_false]
/-- waking: how many stand in the book then -/
theorem uC_wkN_cnt (S : q_St) (N : Nat) : ∀ i, uC_wkN S N i ≤ N + (i - uJ_cnt S i)
  | 0 => by simp [uC_wkN]
  | i + 1 => by
    have ih := uC_wkN_cnt S N i
    have h9 := uJ_cnt_le S i
    rw [uC_wkN, uJ_cnt]
    by_cases e : S 2 i = 0
    · rw [if_pos e]
      split <;> omega
    · rw [if_neg e, if_neg (fun h => e h.1)]
      omega
