
/-! the council's numbers: S 1 (fields), S 2 how, S 3 made, S 4 book, S 5 amounts, S 6 answers, S 7 coins, S 8 doubt, S 9 awake -/
def uC_fG (S : q_St) (m g : Nat) : Int32 := if S 5 (m * 6 + g) = 0 then 0 else 1
def uC_guilds (S : q_St) (m : Nat) : Int32 := q_sum (uC_fG S m) 6
def uC_fA (S : q_St) (m : Nat) (a : Int32) (g : Nat) : Int32 := if S 5 (m * 6 + g) ≠ 0 ∧ S 6 (m * 6 + g) = a then 1 else 0
def uC_ans (S : q_St) (m : Nat) (a : Int32) : Int32 := q_sum (uC_fA S m a) 6
def uC_heard (S : q_St) (m : Nat) : Int32 := uC_ans S m 3 + uC_ans S m 4
def uC_answered (S : q_St) (m : Nat) : Int32 := uC_guilds S m - uC_ans S m 0
def uC_sumA (S : q_St) (m : Nat) : Int32 := q_sum (fun g => S 5 (m * 6 + g)) 6
def uC_doubt (S : q_St) (M g : Nat) : Int32 := q_find (fun m => decide (S 6 (m * 6 + g) = 1)) M 0
def uC_fM (S : q_St) (st : Int32) (m : Nat) : Int32 := if S 2 m = st then 1 else 0
def uC_matters (S : q_St) (M : Nat) (st : Int32) : Int32 := q_sum (uC_fM S st) M
def uC_fMo (S : q_St) (g : Nat) (a : Int32) (m : Nat) : Int32 := if S 6 (m * 6 + g) = a then 1 else 0
def uC_mattersOf (S : q_St) (M g : Nat) (a : Int32) : Int32 := q_sum (uC_fMo S g a) M
def uC_fH (S : q_St) (m : Nat) : Int32 := if 0 < uC_guilds S m ∧ uC_heard S m = uC_guilds S m then 1 else 0
def uC_heardAll (S : q_St) (M : Nat) : Int32 := q_sum (uC_fH S) M
def uC_fW (S : q_St) (g : Nat) : Int32 := if S 9 g = 0 then 0 else 1
def uC_awake (S : q_St) : Int32 := q_sum (uC_fW S) 6
def uC_fD (S : q_St) (M g : Nat) : Int32 := if uC_doubt S M g = -1 then 0 else 1
def uC_inDoubt (S : q_St) (M : Nat) : Int32 := q_sum (uC_fD S M) 6
def uC_allDoubt (S : q_St) : Int32 := q_sum (S 8) 6
def uC_coins (S : q_St) : Int32 := q_sum (S 7) 6
def uC_fS (S : q_St) (m g : Nat) : Int32 := if S 6 (m * 6 + g) = 3 then S 5 (m * 6 + g) else 0
def uC_coinsS (S : q_St) (M : Nat) : Int32 := 120 + q_sum (fun m => q_sum (uC_fS S m) 6) M
def uC_would (S : q_St) (M m g : Nat) : Prop := uC_doubt S M g = -1 ∧ 0 ≤ S 7 g + S 5 (m * 6 + g)
def uC_isOr (S : q_St) (M m g : Nat) : Prop := S 6 (m * 6 + g) = 1 ∨ (S 6 (m * 6 + g) = 0 ∧ uC_would S M m g)
def uC_opposed (S : q_St) (m : Nat) : Prop := 0 < uC_ans S m 2 + uC_ans S m 4
