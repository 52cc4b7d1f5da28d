
/-! the council's numbers: S 1 (fields), S 2 how, S 3 made, S 4 book, S 5 amounts, S 6 answers, S 7 coins, S 8 doubt, S 9 awake -/
def uC_fG (S : q_St) (m g : Nat) : Int32 := if S 5 (m * 6 + g) = 0 then 0 else 1
def uC_guilds (S : q_St) (m : Nat) : Int32 := q_sum (uC_fG S m) 6
def uC_fA (S : q_St) (m : Nat) (a : Int32) (g : Nat) : Int32 := if S 5 (m * 6 + g) ≠ 0 ∧ S 6 (m * 6 + g) = a then 1 else 0
def uC_ans (S : q_St) (m : Nat) (a : Int32) : Int32 := q_sum (uC_fA S m a) 6
def uC_heard (S : q_St) (m : Nat) : Int32 := uC_ans S m 3 + uC_ans S m 4
def uC_answered (S : q_St) (m : Nat) : Int32 := uC_guilds S m - uC_ans S m 0
def uC_sumA (S : q_St) (m : Nat) : Int32 := q_sum (fun g => S 5 (m * 6 + g)) 6
def uC_doubt (S : q_St) (M g : Nat) : Int32 := q_find (fun m => decide (S 6 (m * 6 + g) = 1)) M 0
def uC_fM (S : q_St) (st : Int32) (m : Nat) : Int32 := if S 2 m = st then 1 else 0
def uC_matters (S : q_St) (M : Nat) (st : Int32) : Int32 := q_sum (uC_fM S st) M
def uC_fMo (S : q_St) (g : Nat) (a : Int32) (m : Nat) : Int32 := if S 6 (m * 6 + g) = a then 1 else 0
def uC_mattersOf (S : q_St) (M g : Nat) (a : Int32) : Int32 := q_sum (uC_fMo S g a) M
def uC_fH (S : q_St) (m : Nat) : Int32 := if 0 < uC_guilds S m ∧ uC_heard S m = uC_guilds S m then 1 else 0
def uC_heardAll (S : q_St) (M : Nat) : Int32 := q_sum (uC_fH S) M
def uC_fW (S : q_St) (g : Nat) : Int32 := if S 9 g = 0 then 0 else 1
def uC_awake (S : q_St) : Int32 := q_sum (uC_fW S) 6
def uC_fD (S : q_St) (M g : Nat) : Int32 := if uC_doubt S M g = -1 then 0 else 1
def uC_inDoubt (S : q_St) (M : Nat) : Int32 := q_sum (uC_fD S M) 6
def uC_allDoubt (S : q_St) : Int32 := q_sum (S 8) 6
def uC_coins (S : q_St) : Int32 := q_sum (S 7) 6
def uC_fS (S : q_St) (m g : Nat) : Int32 := if S 6 (m * 6 + g) = 3 then S 5 (m * 6 + g) else 0
def uC_coinsS (S : q_St) (M : Nat) : Int32 := 120 + q_sum (fun m => q_sum (uC_fS S m) 6) M
abbrev uC_would (S : q_St) (M m g : Nat) : Prop := uC_doubt S M g = -1 ∧ 0 ≤ S 7 g + S 5 (m * 6 + g)
abbrev uC_isOr (S : q_St) (M m g : Nat) : Prop := S 6 (m * 6 + g) = 1 ∨ (S 6 (m * 6 + g) = 0 ∧ uC_would S M m g)
abbrev uC_opposed (S : q_St) (m : Nat) : Prop := 0 < uC_ans S m 2 + uC_ans S m 4
def uC_pAll (S : q_St) (M m g : Nat) : Bool := decide (S 5 (m * 6 + g) = 0 ∨ uC_isOr S M m g)
def uC_pFirst (S : q_St) (m g : Nat) : Bool := decide (S 5 (m * 6 + g) ≠ 0 ∧ S 6 (m * 6 + g) = 0)
def uC_first (S : q_St) (m : Nat) : Nat := q_first (uC_pFirst S m) 6 0
def uC_book (S : q_St) (m N : Nat) (v : Int32) : q_St := q_p (q_p (q_p S 2 m v) 4 N (nI m)) 1 1 (nI (N + 1))
def uC_seal (S : q_St) (m g : Nat) : q_St := q_p (q_p S 6 (m * 6 + g) 3) 7 g (S 7 g + S 5 (m * 6 + g))
def uC_ask (S : q_St) (M m g : Nat) : q_St := q_p S 6 (m * 6 + g) (if uC_would S M m g then 1 else 2)
def uC_decide (S : q_St) (N m : Nat) : q_St := uC_book S m N (if uC_opposed S m then 2 else 1)
def uC_tell (S : q_St) (m g : Nat) : q_St := if S 2 m = 1 then uC_seal S m g else q_p S 6 (m * 6 + g) 4
def uC_faint (S : q_St) : q_St := q_p (q_p S 1 5 0) 1 4 (S 1 4 + 1)
abbrev uC_wkc (S : q_St) (m : Nat) : Prop := S 2 m = 0 ∧ 0 < uC_answered S m
def uC_wkN (S : q_St) (N : Nat) : Nat → Nat
  | 0 => N
  | i + 1 => if uC_wkc S i then uC_wkN S N i + 1 else uC_wkN S N i
def uC_wk (S : q_St) (N : Nat) : Nat → q_St
  | 0 => S
  | i + 1 => if uC_wkc S i then uC_book (uC_wk S N i) i (uC_wkN S N i) 2 else uC_wk S N i
def uC_wake (S : q_St) (M N : Nat) : q_St := uC_wk (q_p S 1 5 1) N M
def uC_inq (S : q_St) (m g o : Nat) : q_St :=
  if S 6 (m * 6 + o) = 3 then uC_seal (q_p S 1 3 (S 1 3 + 1)) m g
  else if S 6 (m * 6 + o) = 0 then q_p (q_p (q_p S 1 3 (S 1 3 + 1)) 6 (m * 6 + g) 4) 6 (m * 6 + o) 2
  else q_p (q_p S 1 3 (S 1 3 + 1)) 6 (m * 6 + g) 4
def uC_ps (S : q_St) (M : Nat) (h : Int32) : Nat → q_St
  | 0 => S
  | i + 1 => if uC_doubt S M i = -1 then uC_ps S M h i else q_p (uC_ps S M h i) 8 i (S 8 i + h)
def uC_psf (S : q_St) (M : Nat) (h : Int32) (g : Nat) : Int32 := if uC_doubt S M g = -1 then 0 else h
def uC_pass (S : q_St) (M : Nat) (h : Int32) : q_St := uC_ps (q_p S 1 2 (S 1 2 + h)) M h 6
def uC_pLearn (S : q_St) (g d o : Nat) : Bool := decide (o ≠ g ∧ S 5 (d * 6 + o) ≠ 0 ∧ S 9 o ≠ 0 ∧ S 6 (d * 6 + o) ≠ 1)
abbrev uC_learn (S : q_St) (M g : Nat) : Prop := uC_doubt S M g ≠ -1 ∧ S 9 g ≠ 0 ∧ q_some (uC_pLearn S g (uC_doubt S M g).toNatClampNeg) 6 0 = true
def uC_aset (S : q_St) : Int32 := q_ors (fun g => if S 9 g = 0 then 0 else 1 <<< (nI g &&& 31)) 6
def uC_dset (S : q_St) (m : Nat) : Int32 := q_ors (fun g => if S 6 (m * 6 + g) = 1 then 1 <<< (nI g &&& 31) else 0) 6
def uC_gset (S : q_St) (m : Nat) : Int32 := q_ors (fun g => if S 5 (m * 6 + g) = 0 then 0 else 1 <<< (nI g &&& 31)) 6
def uC_pSets (S : q_St) (g m : Nat) : Bool := decide (uC_dset S m &&& uC_aset S &&& ((1 : Int32) <<< (nI g &&& 31)) ≠ 0 ∧ uC_gset S m &&& (uC_dset S m ^^^ (-1)) &&& uC_aset S ≠ 0)
abbrev uC_learnS (S : q_St) (M g : Nat) : Prop := q_some (uC_pSets S g) M 0 = true
def uC_fAh (S : q_St) (g o : Nat) : Int32 := if S 8 g < S 8 o ∨ (S 8 o = S 8 g ∧ o < g) then 1 else 0
def uC_ahead (S : q_St) (g : Nat) : Int32 := q_sum (uC_fAh S g) 6
def uC_rank (S : q_St) (x : Int32) : Nat := q_first (fun g => decide (uC_ahead S g = x)) 5 0
def uC_nM (S : q_St) (m : Nat) : Nat → Int32
  | 0 => S 2 m
  | 1 => uC_guilds S m
  | 2 => uC_answered S m
  | 3 => uC_ans S m 1
  | 4 => uC_ans S m 2
  | 5 => uC_heard S m
  | 6 => uC_sumA S m
  | _ => S 3 m
def uC_nG (S : q_St) (M g : Nat) : Nat → Int32
  | 0 => S 7 g
  | 1 => if S 9 g = 0 then 0 else 1
  | 2 => uC_doubt S M g
  | 3 => S 8 g
  | 4 => uC_mattersOf S M g 3
  | _ => uC_mattersOf S M g 4
def uC_nA (S : q_St) (M : Nat) : Nat → Int32
  | 0 => nI M
  | 1 => uC_matters S M 0
  | 2 => uC_matters S M 1
  | 3 => uC_matters S M 2
  | 4 => uC_awake S
  | 5 => uC_inDoubt S M
  | 6 => S 1 2
  | 7 => uC_allDoubt S
  | 8 => S 1 3
  | 9 => S 1 4
  | _ => uC_heardAll S M
def uC_pWhole (S : q_St) (m : Nat) : Bool := decide (¬ (0 < uC_ans S m 3 ∧ 0 < uC_ans S m 4))
def uC_pAlike (S : q_St) (M g : Nat) : Bool := decide (uC_learn S M g ↔ uC_learnS S M g)
def uC_pSingle (S : q_St) (M g : Nat) : Bool := decide (uC_mattersOf S M g 1 ≤ 1)
abbrev uC_alike (S : q_St) (M : Nat) : Prop := q_every (uC_pAlike S M) 6 0 = true ∧ uC_coins S = uC_coinsS S M
/-! plain facts -/
theorem q_find_cs (P : Nat → Bool) : ∀ n i, q_find P n i = -1 ∨ ∃ d, d < i + n ∧ i ≤ d ∧ q_find P n i = nI d ∧ P d = true
  | 0, i => Or.inl rfl
  | n + 1, i => by
    by_cases h : P i = true
    · exact Or.inr ⟨i, by omega, Nat.le_refl _, by rw [q_find, if_pos h], h⟩
    · rcases q_find_cs P n (i + 1) with e | ⟨d, h1, h2, h3, h4⟩
      · exact Or.inl (by rw [q_find, if_neg h]; exact e)
      · exact Or.inr ⟨d, by omega, by omega, by rw [q_find, if_neg h]; exact h3, h4⟩
theorem uC_doubt_cs (S : q_St) (M g : Nat) : uC_doubt S M g = -1 ∨ ∃ d, d < M ∧ uC_doubt S M g = nI d ∧ S 6 (d * 6 + g) = 1 := by
  rcases q_find_cs (fun m => decide (S 6 (m * 6 + g) = 1)) M 0 with e | ⟨d, h1, _, h3, h4⟩
  · exact Or.inl e
  · exact Or.inr ⟨d, by omega, h3, by simpa using h4⟩
theorem uC_doubt_cg {S T : q_St} (h : T 6 = S 6) (M g : Nat) : uC_doubt T M g = uC_doubt S M g := by unfold uC_doubt; rw [h]
theorem uC_answered_cg {S T : q_St} (h : T 6 = S 6) (h5 : T 5 = S 5) (m : Nat) : uC_answered T m = uC_answered S m := by unfold uC_answered uC_guilds uC_ans uC_fG uC_fA; rw [h, h5]
theorem uC_ps_ne (S : q_St) (M : Nat) (h : Int32) (k : Nat) (hk : k ≠ 8) : ∀ i, uC_ps S M h i k = S k
  | 0 => rfl
  | i + 1 => by
    rw [uC_ps]
    split
    · exact uC_ps_ne S M h k hk i
    · simp [q_p, hk, uC_ps_ne S M h k hk i]
theorem uC_ps_8 (S : q_St) (M : Nat) (h : Int32) (g : Nat) : ∀ i, i ≤ g → uC_ps S M h i 8 g = S 8 g
  | 0, _ => rfl
  | i + 1, hi => by
    rw [uC_ps]
    split
    · exact uC_ps_8 S M h g i (by omega)
    · have : g ≠ i := by omega
      simp [q_p, upd, this, uC_ps_8 S M h g i (by omega)]
theorem uC_wk_ne (S : q_St) (N : Nat) (k : Nat) (h1 : k ≠ 1) (h2 : k ≠ 2) (h4 : k ≠ 4) : ∀ i, uC_wk S N i k = S k
  | 0 => rfl
  | i + 1 => by
    rw [uC_wk]
    split
    · simp [uC_book, q_p, h1, h2, h4, uC_wk_ne S N k h1 h2 h4 i]
    · exact uC_wk_ne S N k h1 h2 h4 i
theorem uC_wk_2 (S : q_St) (N : Nat) (m : Nat) : ∀ i, i ≤ m → uC_wk S N i 2 m = S 2 m
  | 0, _ => rfl
  | i + 1, hi => by
    rw [uC_wk]
    split
    · have : m ≠ i := by omega
      simp [uC_book, q_p, upd, this, uC_wk_2 S N m i (by omega)]
    · exact uC_wk_2 S N m i (by omega)
theorem uC_wk_1 (S : q_St) (N : Nat) (j : Nat) (hj : j ≠ 1) : ∀ i, uC_wk S N i 1 j = S 1 j
  | 0 => rfl
  | i + 1 => by
    rw [uC_wk]
    split
    · simp [uC_book, q_p, upd, hj, uC_wk_1 S N j hj i]
    · exact uC_wk_1 S N j hj i
theorem uC_wk_11 (S : q_St) (N : Nat) (h : S 1 1 = nI N) : ∀ i, uC_wk S N i 1 1 = nI (uC_wkN S N i)
  | 0 => h
  | i + 1 => by
    rw [uC_wk, uC_wkN]
    split
    · simp [uC_book, q_p, upd]
    · exact uC_wk_11 S N h i
theorem uC_wkN_mono (S : q_St) (N : Nat) (i : Nat) : ∀ d, uC_wkN S N i ≤ uC_wkN S N (i + d)
  | 0 => Nat.le_refl _
  | d + 1 => by
    refine Nat.le_trans (uC_wkN_mono S N i d) ?_
    show uC_wkN S N (i + d) ≤ uC_wkN S N (i + d + 1)
    rw [uC_wkN.eq_2]
    split <;> omega
theorem uC_wkN_lt {S : q_St} {N i M : Nat} (hi : i < M) (hc : uC_wkc S i) (hM : uC_wkN S N M ≤ 8) : uC_wkN S N i < 8 := by
  have h1 := uC_wkN_mono S N (i + 1) (M - (i + 1))
  rw [show i + 1 + (M - (i + 1)) = M by omega] at h1
  have h2 : uC_wkN S N (i + 1) = uC_wkN S N i + 1 := by rw [uC_wkN, if_pos hc]
  omega
theorem uC_ps_1 {S : q_St} {M : Nat} {h : Int32} (hM : S 1 0 = nI M) (i : Nat) : uC_ps (q_p S 1 2 (S 1 2 + h)) M h i 1 0 = nI M := by
  rw [uC_ps_ne _ _ _ 1 (by decide) i]
  exact hM
theorem uC_dne {d : Nat} (h : d < 2 ^ 31) : ¬ nI d = -1 := fun e => by
  have h9 := nI_pos' h
  rw [e] at h9
  exact absurd h9 (by decide)
