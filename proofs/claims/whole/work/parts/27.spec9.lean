
/-! the reference: its questions; its public changes -/
theorem uM_isK {x : Int32} {M : Nat} (hM : M ≤ 1000) : (0 ≤ x ∧ x ≤ nI M - 1) ↔ (0 ≤ x ∧ x < nI M) := by
  have e : nI M - 1 = nI M + (-1) := by rw [Int32.sub_eq_add_neg]
  constructor
  · intro ⟨h1, h2⟩
    refine ⟨h1, ?_⟩
    cases M with
    | zero =>
      have h3 : x ≤ -1 := h2
      have h4 : (0 : Int32) ≤ -1 := Int32.le_trans h1 h3
      exact absurd h4 (by decide)
    | succ n =>
      rw [nI_pred] at h2
      obtain ⟨j, hj, rfl⟩ := nI_of (Int32.not_lt.mpr h1)
      have := (nI_leI hj (by omega)).mp h2
      exact (nI_ltI hj (by omega)).mpr (by omega)
  · intro ⟨h1, h2⟩
    refine ⟨h1, ?_⟩
    obtain ⟨j, hj, rfl⟩ := nI_of (Int32.not_lt.mpr h1)
    have h3 := (nI_ltI hj (by omega)).mp h2
    cases M with
    | zero => omega
    | succ n =>
      rw [nI_pred]
      exact (nI_leI hj (by omega)).mpr (by omega)
theorem uM_okK {x X : Int32} {M : Nat} (hX : X = nI M - 1) (hM : M ≤ 1000) (h : 0 ≤ x ∧ x ≤ X) : ∃ m, m < M ∧ x = nI m := by
  subst hX
  have h2 := (uM_isK hM).mp h
  obtain ⟨j, hj, rfl⟩ := nI_of (Int32.not_lt.mpr h2.1)
  exact ⟨j, (nI_ltI hj (by omega)).mp h2.2, rfl⟩
def uM_t2 (p q : Prop) [Decidable p] [Decidable q] : Int32 := if p then if q then 0 else 2 else 1
def uMq_matterOf (S : q_St) (M : Nat) (x v : Int32) : Int32 × q_St := if 0 ≤ x ∧ x < nI M then if 0 ≤ v ∧ v ≤ 7 then (uM_nM S (uN x) (uN v), q_p S 112 6 0) else uM_bad S 2 else uM_bad S 1
def uMq_answer (S : q_St) (M : Nat) (x y : Int32) : Int32 × q_St := if 0 ≤ x ∧ x < nI M then if 0 ≤ y ∧ y < 6 then (if uM_am S (uN x) (uN y) ≠ 0 then uM_an S (uN x) (uN y) else -1, q_p S 112 6 0) else uM_bad S 2 else uM_bad S 1
def uMq_amount (S : q_St) (M : Nat) (x y : Int32) : Int32 × q_St := if 0 ≤ x ∧ x < nI M then if 0 ≤ y ∧ y < 6 then (uM_am S (uN x) (uN y), q_p S 112 6 0) else uM_bad S 2 else uM_bad S 1
def uMq_isAwake (S : q_St) : Int32 × q_St := (if S 113 1 = 0 then 1 else 0, q_p S 112 6 0)
def uMq_book (S : q_St) (N : Nat) (x : Int32) : Int32 × q_St := if 0 ≤ x ∧ x ≤ nI N - 1 then (S 113 (24 + uN x), q_p S 112 6 0) else uM_bad S 1
def uM_pAll (S : q_St) (M m g : Nat) : Bool := decide (uM_am S m g = 0 ∨ uM_an S m g = 1 ∨ (uM_an S m g = 0 ∧ uM_would S M m g))
def uMq_would (S : q_St) (M : Nat) (x : Int32) : Int32 × q_St := if 0 ≤ x ∧ x < nI M then if uM_how S (uN x) ≠ 0 ∨ uM_cnt S (uN x) 0 4 = 0 then uM_bad S 2 else (uO_b (q_every (uM_pAll S M (uN x)) 6 0), q_p S 112 6 0) else uM_bad S 1
def uMq_guildOf (S : q_St) (M : Nat) (y v : Int32) : Int32 × q_St := if 0 ≤ y ∧ y < 6 then if 0 ≤ v ∧ v ≤ 5 then (uM_nG S M (uN y) (uN v), q_p S 112 6 0) else uM_bad S 2 else uM_bad S 1
def q_upto (P : Nat → Bool) : Nat → Bool
  | 0 => false
  | n + 1 => q_upto P n || P n
def uM_pLearn (S : q_St) (d g : Nat) : Bool := decide (uM_am S d g ≠ 0 ∧ ¬ S 113 (12 + g) = 1 ∧ uM_an S d g ≠ 1)
def uM_learn (S : q_St) (M g : Nat) : Bool := if uM_doubt S M g = -1 then false else if S 113 (12 + g) = 1 then false else q_upto (uM_pLearn S (uN (uM_doubt S M g))) 6
def uMq_learn (S : q_St) (M : Nat) (y : Int32) : Int32 × q_St := if 0 ≤ y ∧ y < 6 then (uO_b (uM_learn S M (uN y)), q_p S 112 6 0) else uM_bad S 1
def uM_fAh (S : q_St) (g o : Nat) : Int32 := if 0 < S 113 (18 + o) - S 113 (18 + g) ∨ (S 113 (18 + o) - S 113 (18 + g) = 0 ∧ o < g) then 1 else 0
def uM_ahead (S : q_St) (g : Nat) : Int32 := q_sum (uM_fAh S g) 6
def uM_found (S : q_St) (x : Int32) : Nat → Nat
  | 0 => 0
  | i + 1 => if uM_ahead S i = x then i else uM_found S x i
def uMq_ranked (S : q_St) (x : Int32) : Int32 × q_St := if 0 ≤ x ∧ x ≤ 5 then (nI (uM_found S x 6), q_p S 112 6 0) else uM_bad S 1
def uMq_coins (S : q_St) : Int32 × q_St := (uM_coins S, q_p S 112 6 0)
def uMq_refusal (S : q_St) (b : Int32) : Int32 × q_St := if S 112 7 = 0 then uM_bad S 1 else (if b = 0 then S 112 7 else S 112 8, q_p S 112 6 0)
def uMq_account (S : q_St) (M : Nat) (x : Int32) : Int32 × q_St := if 0 ≤ x ∧ x ≤ 12 then (uM_nA S M (uN x), q_p S 112 6 0) else uM_bad S 1
def uMq_error (S : q_St) : Int32 × q_St := (S 112 16, q_p S 112 6 0)
def uM_fS (S : q_St) (m g : Nat) : Int32 := if uM_am S m g ≠ 0 ∧ uM_an S m g = 3 then uM_am S m g else 0
def uM_coinsS (S : q_St) (M : Nat) : Int32 := 120 + q_sum (fun m => q_sum (uM_fS S m) 6) M
def uM_pWhole (S : q_St) (m : Nat) : Bool := decide (uM_cnt S m 3 3 = 0 ∨ uM_cnt S m 4 4 = 0)
def q_allto (P : Nat → Bool) : Nat → Bool
  | 0 => true
  | n + 1 => q_allto P n && P n
def uMq_isWell (S : q_St) (M : Nat) : Int32 × q_St := (if q_allto (uM_pWhole S) M = true ∧ uM_coinsS S M = uM_coins S then 1 else 0, q_p S 112 6 0)
def uMq_undo (S : q_St) (pm : Nat) : Int32 × q_St := if pm = 0 then uM_bad S 1 else (nI (pm - 1), q_u (q_p (q_p S 112 6 0) 112 5 (nI (pm - 1))) 113 (va_cpy (S 116) (S 113) (144 * (pm - 1)) 0 144))
def uMq_save (S : q_St) : Int32 × q_St := (S 113 0, q_p (q_u (q_p S 112 6 0) 115 (va_cpy (S 113) (S 115) 0 0 144)) 112 3 1)
def uMq_restore (S : q_St) : Int32 × q_St := if S 112 3 = 0 then uM_bad S 1 else (S 115 0, q_p (q_u (q_p S 112 6 0) 113 (va_cpy (S 115) (S 113) 0 0 144)) 112 5 0)
def uMq_append (S : q_St) (n : Nat) (c : Int32) : Int32 × q_St := if n = 60 then uM_bad S 1 else (nI (n + 1), q_p (q_p (q_p S 112 6 0) 118 n c) 112 13 (nI (n + 1)))
def uMq_char (S : q_St) (n : Nat) (x : Int32) : Int32 × q_St := if 0 ≤ x ∧ x ≤ nI n - 1 then (S 117 (uN x), q_p S 112 6 0) else (32, q_p S 112 6 1)
theorem uM_bad_nb (S : q_St) (p : Int32) : narrow .boolean (.int (uM_bad S p).1) = .int (uM_bad S p).1 := by
  show narrow .boolean (.int 0) = .int 0
  rfl
theorem uO_b_nb (b : Bool) : narrow .boolean (.int (uO_b b)) = .int (uO_b b) := by cases b <;> rfl
