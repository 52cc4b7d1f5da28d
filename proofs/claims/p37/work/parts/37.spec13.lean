
/-! the class: what its methods answer or throw -/
abbrev xEUn : String := "java/lang/UnsupportedOperationException"
abbrev xENs : String := "java/util/NoSuchElementException"
abbrev xEIa : String := "java/lang/IllegalArgumentException"
abbrev xEIo : String := "java/lang/IndexOutOfBoundsException"
abbrev xEIs : String := "java/lang/IllegalStateException"
abbrev xEAr : String := "java/lang/ArithmeticException"

theorem q_Fxv.cs {l : Launch} {y : MethodName} {cd : Cond} {d n : Nat} {avs : List Value} {S : q_St} {r r' : Option String × q_St} (h : q_Fxv l y cd d n avs S r) (e : r = r') : q_Fxv l y cd d n avs S r' := e ▸ h
theorem q_Fx.cs {l : Launch} {y : MethodName} {cd : Cond} {d n : Nat} {avs : List Value} {S : q_St} {r r' : (Int32 ⊕ String) × q_St} (h : q_Fx l y cd d n avs S r) (e : r = r') : q_Fx l y cd d n avs S r' := e ▸ h
theorem q_cp_k (S : q_St) (b o k : Nat) (h : k < b ∨ b + 9 ≤ k) : q_cp S b o k = S k := by
  funext j
  unfold q_cp
  rw [if_neg (by omega)]
theorem uH_keep_k (S : q_St) (i z o k : Nat) (h : k < 28 ∨ 102 ≤ k) (hi : i < 8) : uH_keep S i z o k = S k := by
  have h28 : k ≠ 28 := by omega
  have e : ∀ (T : q_St) (j : Nat) (v : Int32), q_p T 28 j v k = T k := fun T j v => by simp [q_p, h28]
  unfold uH_keep
  rw [e, e, q_cp_k _ _ _ _ (by omega)]
theorem uK_okX {x X : Int32} {M : Nat} (hX : X = nI M) (hM : M ≤ 1000) (h : 0 ≤ x ∧ x < X) : ∃ m, m < M ∧ x = nI m := by
  subst hX
  obtain ⟨j, hj, rfl⟩ := nI_of (Int32.not_lt.mpr h.1)
  exact ⟨j, (nI_ltI hj (by omega)).mp h.2, rfl⟩
def uG_req (S : q_St) (o : uR_O) (v : Int32) (T : q_St) : (Int32 ⊕ String) × q_St := match o with
  | none => (.inl v, T)
  | some q => (.inr xEUn, uR_set S q.1 q.2)
def uG_matter (S : q_St) (M i z : Nat) : (Int32 ⊕ String) × q_St := uG_req S (uR_matter M) (nI M) (q_p (q_p (uH_keep S i z 1) 3 M (uH_keep S i z 1 1 2)) 1 0 (nI (M + 1)))
def uG_set (S : q_St) (i z : Nat) (x y a : Int32) : (Int32 ⊕ String) × q_St := if 0 ≤ x ∧ x < S 1 0 then if 0 ≤ y ∧ y < 6 then if -50 ≤ a ∧ a ≤ 50 then uG_req S (uR_setA S (uN x) (uN y) a) (uC_guilds (q_p (uH_keep S i z 1) 5 (uN x * 6 + uN y) a) (uN x)) (q_p (uH_keep S i z 1) 5 (uN x * 6 + uN y) a) else (.inr xEIa, S) else (.inr xENs, S) else (.inr xENs, S)
def uG_matterOf (S : q_St) (x v : Int32) : (Int32 ⊕ String) × q_St := if 0 ≤ x ∧ x < S 1 0 then if 0 ≤ v ∧ v ≤ 7 then (.inl (uC_nM S (uN x) (uN v)), S) else (.inr xEIa, S) else (.inr xENs, S)
def uG_answer (S : q_St) (x y : Int32) : (Int32 ⊕ String) × q_St := if 0 ≤ x ∧ x < S 1 0 then if 0 ≤ y ∧ y < 6 then (.inl (if S 5 (uN x * 6 + uN y) ≠ 0 then S 6 (uN x * 6 + uN y) else -1), S) else (.inr xEIo, S) else (.inr xENs, S)
def uG_amount (S : q_St) (x y : Int32) : (Int32 ⊕ String) × q_St := if 0 ≤ x ∧ x < S 1 0 then if 0 ≤ y ∧ y < 6 then (.inl (S 5 (uN x * 6 + uN y)), S) else (.inr xEIo, S) else (.inr xENs, S)
def uG_ask (S : q_St) (M i z : Nat) (x y : Int32) : (Int32 ⊕ String) × q_St := if 0 ≤ x ∧ x < S 1 0 then if 0 ≤ y ∧ y < 6 then uG_req S (uR_ask S M (uN x) (uN y)) (if uC_would (uH_keep S i z 1) M (uN x) (uN y) then 1 else 2) (uC_ask (uH_keep S i z 1) M (uN x) (uN y)) else (.inr xEIo, S) else (.inr xENs, S)
def uG_decide (S : q_St) (M N i z : Nat) (x : Int32) : (Int32 ⊕ String) × q_St := if 0 ≤ x ∧ x < S 1 0 then uG_req S (uR_decide S M (uN x)) (if uC_opposed (uH_keep S i z 1) (uN x) then 2 else 1) (uC_decide (uH_keep S i z 1) N (uN x)) else (.inr xENs, S)
def uG_tell (S : q_St) (M i z : Nat) (x y : Int32) : (Int32 ⊕ String) × q_St := if 0 ≤ x ∧ x < S 1 0 then if 0 ≤ y ∧ y < 6 then uG_req S (uR_tell S M (uN x) (uN y)) (uC_tell (uH_keep S i z 1) (uN x) (uN y) 7 (uN y)) (uC_tell (uH_keep S i z 1) (uN x) (uN y)) else (.inr xEIo, S) else (.inr xENs, S)
def uG_faint (S : q_St) (M i z : Nat) : (Int32 ⊕ String) × q_St := uG_req S (uR_fainted S M) (uC_matters (uH_keep S i z 1) M 0) (uC_faint (uH_keep S i z 1))
def uG_wake (S : q_St) (M N i z : Nat) : (Int32 ⊕ String) × q_St := uG_req S (uR_wake S) (nI (uC_wkN (q_p (uH_keep S i z 1) 1 5 1) N M) - nI N) (uC_wake (uH_keep S i z 1) M N)
def uG_book (S : q_St) (x : Int32) : (Int32 ⊕ String) × q_St := if 0 ≤ x ∧ x < S 1 1 then (.inl (S 4 (uN x)), S) else (.inr xENs, S)
def uG_would (S : q_St) (M : Nat) (x : Int32) : (Int32 ⊕ String) × q_St := if 0 ≤ x ∧ x < S 1 0 then if S 2 (uN x) ≠ 0 ∨ uC_guilds S (uN x) = 0 then (.inr xEIs, S) else (.inl (uO_b (q_every (uC_pAll S M (uN x)) 6 0)), S) else (.inr xENs, S)
def uG_sleep (S : q_St) (i z : Nat) (y : Int32) : (Int32 ⊕ String) × q_St := if 0 ≤ y ∧ y < 6 then uG_req S (uR_sleep S (uN y)) (uC_awake (q_p (uH_keep S i z 1) 9 (uN y) 0)) (q_p (uH_keep S i z 1) 9 (uN y) 0) else (.inr xEIo, S)
def uG_rouse (S : q_St) (i z : Nat) (y : Int32) : (Int32 ⊕ String) × q_St := if 0 ≤ y ∧ y < 6 then uG_req S (uR_rouse S (uN y)) (uC_awake (q_p (uH_keep S i z 1) 9 (uN y) 1)) (q_p (uH_keep S i z 1) 9 (uN y) 1) else (.inr xEIo, S)
def uG_inq (S : q_St) (i z : Nat) (x y w : Int32) : (Int32 ⊕ String) × q_St := if 0 ≤ x ∧ x < S 1 0 then if 0 ≤ y ∧ y < 6 then if 0 ≤ w ∧ w < 6 then uG_req S (uR_inq S (uN x) (uN y) (uN w)) (uC_inq (uH_keep S i z 1) (uN x) (uN y) (uN w) 6 (uN x * 6 + uN y)) (uC_inq (uH_keep S i z 1) (uN x) (uN y) (uN w)) else (.inr xEIo, S) else (.inr xEIo, S) else (.inr xENs, S)
def uG_guildOf (S : q_St) (M : Nat) (y v : Int32) : (Int32 ⊕ String) × q_St := if 0 ≤ y ∧ y < 6 then if 0 ≤ v ∧ v ≤ 5 then (.inl (uC_nG S M (uN y) (uN v)), S) else (.inr xEIa, S) else (.inr xEIo, S)
def uG_learn (S : q_St) (M : Nat) (y b : Int32) : (Int32 ⊕ String) × q_St := if 0 ≤ y ∧ y < 6 then (.inl (if b = 0 then (if uC_learn S M (uN y) then 1 else 0) else if uC_learnS S M (uN y) then 1 else 0), S) else (.inr xEIo, S)
def uG_pass (S : q_St) (M i z : Nat) (h : Int32) : (Int32 ⊕ String) × q_St := if 1 ≤ h ∧ h ≤ 24 then (.inl (q_sum (uC_psf (q_p (uH_keep S i z 1) 1 2 (uH_keep S i z 1 1 2 + h)) M h) 6), uC_pass (uH_keep S i z 1) M h) else (.inr xEIa, S)
def uG_ranked (S : q_St) (x : Int32) : (Int32 ⊕ String) × q_St := if 0 ≤ x ∧ x < 6 then (.inl (nI (uC_rank S x)), S) else (.inr xEIo, S)
def uG_line (S : q_St) (x : Int32) : (Int32 ⊕ String) × q_St := if 0 ≤ x ∧ x < S 1 0 then (.inl (nI (uL_gs S (uN x) 6).1), uL_at S (uL_gs S (uN x) 6)) else (.inr xENs, S)
def uG_char (S : q_St) (x : Int32) : (Int32 ⊕ String) × q_St := if 0 ≤ x ∧ x < S 110 1 then (.inl (S 111 (uN x)), S) else (.inr xEIo, S)
def uG_append (S : q_St) (n : Nat) (c : Int32) : (Int32 ⊕ String) × q_St := if n < 60 then (.inl (nI (n + 1)), q_p (q_p S 104 n c) 103 1 (nI (n + 1))) else (.inr xEIs, S)
def uG_refusal (S : q_St) (b : Int32) : (Int32 ⊕ String) × q_St := if S 102 1 = 0 then (.inr xENs, S) else (.inl (if b = 0 then S 102 1 else S 102 2), S)
def uG_account (S : q_St) (M : Nat) (x : Int32) : (Int32 ⊕ String) × q_St := if 0 ≤ x ∧ x ≤ 12 then (.inl (if x = 11 then S 103 1 else if x = 12 then S 28 2 else uC_nA S M (uN x)), S) else (.inr xEIa, S)
def uG_undo (S : q_St) (i z : Nat) : (Int32 ⊕ String) × q_St := if z = 0 then (.inr xEIs, S) else (.inl (nI (z - 1)), uH_back S i z)
def uG_restore (S : q_St) : (Int32 ⊕ String) × q_St := if S 0 3 = 0 then (.inr xEIs, S) else (.inl (S 19 0), q_p (q_cp S 1 19) 28 2 0)
