
/-! the reference: its row s is S 113; its fields are S 112 -/
theorem q_if_iff {p p' : Prop} [Decidable p] [Decidable p'] (h : p ↔ p') : (if p then (1 : Int32) else 0) = if p' then 1 else 0 := by
  by_cases hp : p
  · rw [if_pos hp, if_pos (h.mp hp)]
  · rw [if_neg hp, if_neg (fun q => hp (h.mpr q))]
abbrev uM_am (S : q_St) (m g : Nat) : Int32 := S 113 (32 + 14 * m + 2 + g)
abbrev uM_an (S : q_St) (m g : Nat) : Int32 := S 113 (32 + 14 * m + 8 + g)
abbrev uM_how (S : q_St) (m : Nat) : Int32 := S 113 (32 + 14 * m)
def uM_f (S : q_St) (m : Nat) (lo hi : Int32) (g : Nat) : Int32 := if S 113 (32 + 14 * m + 2 + g) ≠ 0 ∧ (lo ≤ S 113 (32 + 14 * m + 8 + g) ∧ S 113 (32 + 14 * m + 8 + g) ≤ hi) then 1 else 0
def uM_cnt (S : q_St) (m : Nat) (lo hi : Int32) : Int32 := q_sum (uM_f S m lo hi) 6
def uM_fM (S : q_St) (w : Int32) (m : Nat) : Int32 := if S 113 (32 + 14 * m) = w then 1 else 0
def uM_matters (S : q_St) (M : Nat) (w : Int32) : Int32 := q_sum (uM_fM S w) M
def uM_pD (S : q_St) (g m : Nat) : Bool := decide (S 113 (32 + 14 * m + 2 + g) ≠ 0 ∧ S 113 (32 + 14 * m + 8 + g) = 1)
def uM_doubt (S : q_St) (M g : Nat) : Int32 := q_find (uM_pD S g) M 0
abbrev uM_would (S : q_St) (M m g : Nat) : Prop := uM_doubt S M g < 0 ∧ 0 ≤ S 113 (6 + g) + S 113 (32 + 14 * m + 2 + g)
abbrev uM_opp (S : q_St) (m : Nat) : Prop := 0 < uM_cnt S m 2 2 + uM_cnt S m 4 4
def uM_pF (S : q_St) (m g : Nat) : Bool := decide (S 113 (32 + 14 * m + 2 + g) ≠ 0 ∧ S 113 (32 + 14 * m + 8 + g) = 0)
def uM_first (S : q_St) (m : Nat) : Nat := q_first (uM_pF S m) 6 0
theorem uM_first_le (S : q_St) (m : Nat) : uM_first S m ≤ 6 := q_first_le _ 6 0
def uM_refuse (S : q_St) (p w d : Int32) : q_St := q_p (q_p (q_p (q_p S 112 6 p) 112 9 1) 112 7 w) 112 8 d
def uM_keep (S : q_St) : q_St := q_u (q_p S 112 6 0) 114 (va_cpy (S 113) (S 114) 0 0 144)
def uM_back (S : q_St) : q_St := q_u S 113 (va_cpy (S 114) (S 113) 0 0 144)
def uM_push (S : q_St) (pm : Nat) : q_St :=
  if pm = 8 then q_p (q_u (q_p (q_u S 116 (va_cpy (S 116) (S 116) 144 0 1008)) 112 5 (nI 7)) 116 (va_cpy (S 114) (va_cpy (S 116) (S 116) 144 0 1008) 0 (144 * 7) 144)) 112 5 (nI 8)
  else q_p (q_u S 116 (va_cpy (S 114) (S 116) 0 (144 * pm) 144)) 112 5 (nI (pm + 1))
def uM_res (S : q_St) (p : Int32) (o : uR_O) (T : q_St) : q_St := match o with
  | none => T
  | some q => uM_refuse S p q.1 q.2
def uM_val (o : uR_O) (v : Int32) : Int32 := match o with
  | none => v
  | some _ => 0
def uM_z (S : q_St) (M : Nat) : Nat → q_St
  | 0 => S
  | i + 1 => q_p (uM_z S M i) 113 (32 + 14 * M + i) 0
def uM_newm (S : q_St) (M : Nat) : q_St := q_p (q_p (uM_z S M 14) 113 (32 + 14 * M + 1) (S 113 2)) 113 0 (nI (M + 1))
def uMr_matter (M : Nat) : uR_O := if M = 8 then some (1, 8) else none
def uMr_set (S : q_St) (m g : Nat) (a : Int32) : uR_O := if uM_how S m ≠ 0 then some (3, uM_how S m) else if 0 < uM_cnt S m 1 4 then some (6, uM_cnt S m 1 4) else if uM_am S m g = a then some (10, a) else none
def uMr_ask (S : q_St) (M m g : Nat) : uR_O := if S 113 1 = 1 then some (2, uM_matters S M 0) else if uM_how S m ≠ 0 then some (3, uM_how S m) else if uM_am S m g = 0 then some (4, nI g) else if S 113 (12 + g) = 1 then some (5, nI g) else if uM_an S m g ≠ 0 then some (9, uM_an S m g) else none
def uMr_decide (S : q_St) (M m : Nat) : uR_O := if S 113 1 = 1 then some (2, uM_matters S M 0) else if uM_how S m ≠ 0 then some (3, uM_how S m) else if uM_opp S m then none else if uM_first S m < 6 then some (7, nI (uM_first S m)) else if uM_cnt S m 0 4 = 0 then some (7, nI (uM_first S m)) else none
def uMr_tell (S : q_St) (M m g : Nat) : uR_O := if S 113 1 = 1 then some (2, uM_matters S M 0) else if uM_how S m = 0 then some (8, nI m) else if uM_am S m g = 0 then some (4, nI g) else if S 113 (12 + g) = 1 then some (5, nI g) else if 3 ≤ uM_an S m g then some (9, uM_an S m g) else none
def uMr_faint (S : q_St) (M : Nat) : uR_O := if S 113 1 = 1 then some (2, uM_matters S M 0) else none
def uMr_wake (S : q_St) : uR_O := if S 113 1 = 0 then some (11, S 113 5) else none
def uMr_sleep (S : q_St) (g : Nat) (v : Int32) : uR_O := if S 113 (12 + g) = v then some (10, 1 - v) else none
def uMr_inq (S : q_St) (m g o : Nat) : uR_O := if uM_am S m g = 0 then some (4, nI g) else if uM_am S m o = 0 then some (4, nI o) else if S 113 (12 + g) = 1 then some (5, nI g) else if S 113 (12 + o) = 1 then some (5, nI o) else if uM_an S m g ≠ 1 then some (12, uM_an S m g) else if uM_an S m o = 1 then some (13, nI o) else none
def uM_book (S : q_St) (m N : Nat) (v : Int32) : q_St := q_p (q_p (q_p S 113 (32 + 14 * m) v) 113 (24 + N) (nI m)) 113 5 (nI (N + 1))
def uM_ask (S : q_St) (M m g : Nat) : q_St := q_p S 113 (32 + 14 * m + 8 + g) (if uM_would S M m g then 1 else 2)
def uM_dec (S : q_St) (N m : Nat) : q_St := uM_book S m N (if uM_opp S m then 2 else 1)
def uM_hear1 (S : q_St) (m g : Nat) : q_St := q_p (q_p S 113 (32 + 14 * m + 8 + g) 3) 113 (6 + g) (S 113 (6 + g) + S 113 (32 + 14 * m + 2 + g))
def uM_hear0 (S : q_St) (m g : Nat) : q_St := q_p (q_p S 113 (32 + 14 * m + 8 + g) 4) 113 (6 + g) (S 113 (6 + g) + 0)
def uM_tell (S : q_St) (m g : Nat) : q_St := if uM_how S m = 1 then uM_hear1 S m g else uM_hear0 S m g
def uM_faint (S : q_St) : q_St := q_p (q_p S 113 1 1) 113 4 (S 113 4 + 1)
abbrev uM_wkc (S : q_St) (m : Nat) : Prop := uM_how S m = 0 ∧ 0 < uM_cnt S m 1 4
def uM_wkN (S : q_St) (N : Nat) : Nat → Nat
  | 0 => N
  | i + 1 => if uM_wkc S i then uM_wkN S N i + 1 else uM_wkN S N i
def uM_wk (S : q_St) (N : Nat) : Nat → q_St
  | 0 => S
  | i + 1 => if uM_wkc S i then uM_book (uM_wk S N i) i (uM_wkN S N i) 2 else uM_wk S N i
def uM_wake (S : q_St) (M N : Nat) : q_St := uM_wk (q_p S 113 1 0) N M
def uM_inq (S : q_St) (m g o : Nat) : q_St :=
  if 3 ≤ uM_an S m o then
    (if uM_an S m o = 3 then q_p (uM_hear1 S m g) 113 3 (S 113 3 + 1) else q_p (uM_hear0 S m g) 113 3 (S 113 3 + 1))
  else q_p (uM_hear0 (q_p S 113 (32 + 14 * m + 8 + o) 2) m g) 113 3 (S 113 3 + 1)
def uM_psf (S : q_St) (M : Nat) (h : Int32) (g : Nat) : Int32 := if uM_doubt S M g < 0 then 0 else h
def uM_ps (S : q_St) (M : Nat) (h : Int32) : Nat → q_St
  | 0 => S
  | i + 1 => q_p (uM_ps S M h i) 113 (18 + i) (S 113 (18 + i) + uM_psf S M h i)
def uM_pass (S : q_St) (M : Nat) (h : Int32) : q_St := q_p (uM_ps S M h 6) 113 2 (S 113 2 + h)
def uM_fW (S : q_St) (g : Nat) : Int32 := if S 113 (12 + g) = 1 then 0 else 1
def uM_awake (S : q_St) : Int32 := q_sum (uM_fW S) 6
def uM_fD (S : q_St) (M g : Nat) : Int32 := if uM_doubt S M g < 0 then 0 else 1
def uM_inDoubt (S : q_St) (M : Nat) : Int32 := q_sum (uM_fD S M) 6
def uM_hours (S : q_St) : Int32 := q_sum (fun g => S 113 (18 + g)) 6
def uM_coins (S : q_St) : Int32 := q_sum (fun g => S 113 (6 + g)) 6
def uM_fH (S : q_St) (m : Nat) : Int32 := if 0 < uM_cnt S m 0 4 ∧ uM_cnt S m 3 4 = uM_cnt S m 0 4 then 1 else 0
def uM_heard (S : q_St) (M : Nat) : Int32 := q_sum (uM_fH S) M
def uM_sumA (S : q_St) (m : Nat) : Int32 := q_sum (fun g => S 113 (32 + 14 * m + 2 + g)) 6
def uM_fMo (S : q_St) (g : Nat) (a : Int32) (m : Nat) : Int32 := if S 113 (32 + 14 * m + 2 + g) ≠ 0 ∧ S 113 (32 + 14 * m + 8 + g) = a then 1 else 0
def uM_mattersOf (S : q_St) (M g : Nat) (a : Int32) : Int32 := q_sum (uM_fMo S g a) M
def uM_nM (S : q_St) (m : Nat) : Nat → Int32
  | 0 => uM_how S m
  | 1 => uM_cnt S m 0 4
  | 2 => uM_cnt S m 1 4
  | 3 => uM_cnt S m 1 1
  | 4 => uM_cnt S m 2 2
  | 5 => uM_cnt S m 3 4
  | 6 => uM_sumA S m
  | _ => S 113 (32 + 14 * m + 1)
def uM_nG (S : q_St) (M g : Nat) : Nat → Int32
  | 0 => S 113 (6 + g)
  | 1 => 1 - S 113 (12 + g)
  | 2 => uM_doubt S M g
  | 3 => S 113 (18 + g)
  | 4 => uM_mattersOf S M g 3
  | _ => uM_mattersOf S M g 4
def uM_nA (S : q_St) (M : Nat) : Nat → Int32
  | 0 => nI M
  | 1 => uM_matters S M 0
  | 2 => uM_matters S M 1
  | 3 => uM_matters S M 2
  | 4 => uM_awake S
  | 5 => uM_inDoubt S M
  | 6 => S 113 2
  | 7 => uM_hours S
  | 8 => S 113 3
  | 9 => S 113 4
  | 10 => uM_heard S M
  | 11 => S 112 13
  | _ => S 112 5
theorem uM_isM {x : Int32} {M : Nat} (hM : M ≤ 8) : (0 ≤ x ∧ x ≤ nI M - 1) ↔ (0 ≤ x ∧ x < nI M) := by
  have e : nI M - 1 = nI M + (-1) := by rw [Int32.sub_eq_add_neg]
  constructor
  · intro ⟨h1, h2⟩
    refine ⟨h1, ?_⟩
    cases M with
    | zero =>
      have h3 : x ≤ -1 := h2
      have h4 : (0 : Int32) ≤ -1 := Int32.le_trans h1 h3
      exact absurd h4 (by decide)
    | succ n =>
      rw [nI_pred] at h2
      obtain ⟨j, hj, rfl⟩ := nI_of (Int32.not_lt.mpr h1)
      have := (nI_leI hj (by omega)).mp h2
      exact (nI_ltI hj (by omega)).mpr (by omega)
  · intro ⟨h1, h2⟩
    refine ⟨h1, ?_⟩
    obtain ⟨j, hj, rfl⟩ := nI_of (Int32.not_lt.mpr h1)
    have h3 := (nI_ltI hj (by omega)).mp h2
    cases M with
    | zero => omega
    | succ n =>
      rw [nI_pred]
      exact (nI_leI hj (by omega)).mpr (by omega)
theorem uM_isG {x : Int32} : (0 ≤ x ∧ x ≤ 5) ↔ (0 ≤ x ∧ x < 6) := uM_isM (M := 6) (by omega)
theorem uM_z_out (S : q_St) (M : Nat) (k j : Nat) (h : k ≠ 113 ∨ j < 32 + 14 * M ∨ 32 + 14 * M + 14 ≤ j) : ∀ i, i ≤ 14 → uM_z S M i k j = S k j
  | 0, _ => rfl
  | i + 1, hi => by
    rw [uM_z]
    have ih := uM_z_out S M k j h i (by omega)
    by_cases hk : k = 113
    · subst hk
      rw [q_p_ne _ _ _ _ _ (by omega)]
      exact ih
    · simp [q_p, hk, ih]
theorem uM_z_k (S : q_St) (M : Nat) (k : Nat) (h : k ≠ 113) : ∀ i, uM_z S M i k = S k
  | 0 => rfl
  | i + 1 => by
    rw [uM_z]
    simp [q_p, h, uM_z_k S M k h i]
theorem uM_wk_ne (S : q_St) (N : Nat) (k : Nat) (h1 : k ≠ 113) : ∀ i, uM_wk S N i k = S k
  | 0 => rfl
  | i + 1 => by
    rw [uM_wk]
    split
    · simp [uM_book, q_p, h1, uM_wk_ne S N k h1 i]
    · exact uM_wk_ne S N k h1 i
theorem uM_wkN_mono (S : q_St) (N : Nat) (i : Nat) : ∀ d, uM_wkN S N i ≤ uM_wkN S N (i + d)
  | 0 => Nat.le_refl _
  | d + 1 => by
    refine Nat.le_trans (uM_wkN_mono S N i d) ?_
    show uM_wkN S N (i + d) ≤ uM_wkN S N (i + d + 1)
    rw [uM_wkN.eq_2]
    split <;> omega
theorem uM_wkN_lt {S : q_St} {N i M : Nat} (hi : i < M) (hc : uM_wkc S i) (hM : uM_wkN S N M ≤ 8) : uM_wkN S N i < 8 := by
  have h1 := uM_wkN_mono S N (i + 1) (M - (i + 1))
  rw [show i + 1 + (M - (i + 1)) = M by omega] at h1
  have h2 : uM_wkN S N (i + 1) = uM_wkN S N i + 1 := by rw [uM_wkN, if_pos hc]
  omega
/-- what waking leaves in the row: all but the book, how those are, how many stand in the book -/
theorem uM_wk_at (S : q_St) (N M : Nat) (hW : uM_wkN S N M ≤ 8) (j : Nat) (h5 : j ≠ 5) (hb : j < 24 ∨ 32 ≤ j) : ∀ i, i ≤ M → (∀ m, m < i → j ≠ 32 + 14 * m) → uM_wk S N i 113 j = S 113 j
  | 0, _, _ => rfl
  | i + 1, hi, hh => by
    have ih := uM_wk_at S N M hW j h5 hb i (by omega) (fun m hm => hh m (by omega))
    rw [uM_wk]
    by_cases e : uM_wkc S i
    · rw [if_pos e, uM_book]
      have h8 := uM_wkN_lt (show i < M by omega) e hW
      have h9 := hh i (by omega)
      rw [q_p_ne _ _ _ _ _ h5, q_p_ne _ _ _ _ _ (by omega), q_p_ne _ _ _ _ _ h9]
      exact ih
    · rw [if_neg e]; exact ih
theorem uM_wk_5 (S : q_St) (N : Nat) (h : S 113 5 = nI N) : ∀ i, uM_wk S N i 113 5 = nI (uM_wkN S N i)
  | 0 => h
  | i + 1 => by
    rw [uM_wk, uM_wkN]
    split
    · exact q_p_eq _ _ _ _
    · exact uM_wk_5 S N h i
theorem q_sum_cg {f f' : Nat → Int32} : ∀ n, (∀ i, i < n → f i = f' i) → q_sum f n = q_sum f' n
  | 0, _ => rfl
  | n + 1, h => by
    rw [q_sum, q_sum, q_sum_cg n (fun i hi => h i (by omega)), h n (by omega)]
theorem uM_f_cg {S T : q_St} {m g : Nat} (lo hi : Int32) (h1 : uM_am T m g = uM_am S m g) (h2 : uM_an T m g = uM_an S m g) : uM_f T m lo hi g = uM_f S m lo hi g := by
  show (if uM_am T m g ≠ 0 ∧ (lo ≤ uM_an T m g ∧ uM_an T m g ≤ hi) then (1 : Int32) else 0) = (if uM_am S m g ≠ 0 ∧ (lo ≤ uM_an S m g ∧ uM_an S m g ≤ hi) then (1 : Int32) else 0)
  rw [h1, h2]
theorem uM_cnt_cg {S T : q_St} {m : Nat} (h1 : ∀ j, j < 6 → uM_am T m j = uM_am S m j) (h2 : ∀ j, j < 6 → uM_an T m j = uM_an S m j) (lo hi : Int32) : uM_cnt T m lo hi = uM_cnt S m lo hi :=
  q_sum_cg 6 (fun j hj => uM_f_cg lo hi (h1 j hj) (h2 j hj))
theorem uM_doubt_cs (S : q_St) (M g : Nat) : uM_doubt S M g = -1 ∨ ∃ d, d < M ∧ uM_doubt S M g = nI d ∧ S 113 (32 + 14 * d + 2 + g) ≠ 0 ∧ S 113 (32 + 14 * d + 8 + g) = 1 := by
  rcases q_find_cs (uM_pD S g) M 0 with e | ⟨d, h1, _, h3, h4⟩
  · exact Or.inl e
  · rw [uM_pD, decide_eq_true_eq] at h4
    exact Or.inr ⟨d, by omega, h3, h4.1, h4.2⟩
theorem uM_doubt_cg {S T : q_St} {M : Nat} (g : Nat) (hg : g < 6) (h : ∀ j, 32 ≤ j → T 113 j = S 113 j) : uM_doubt T M g = uM_doubt S M g := by
  have e : uM_pD T g = uM_pD S g := by
    funext m
    unfold uM_pD
    rw [h _ (by omega), h _ (by omega)]
  unfold uM_doubt
  rw [e]
theorem uM_ps_k (S : q_St) (M : Nat) (h : Int32) (k : Nat) (hk : k ≠ 113) : ∀ i, uM_ps S M h i k = S k
  | 0 => rfl
  | i + 1 => by
    rw [uM_ps]
    simp [q_p, hk, uM_ps_k S M h k hk i]
theorem uM_ps_at (S : q_St) (M : Nat) (h : Int32) (j : Nat) : ∀ i, (j < 18 ∨ 18 + i ≤ j) → uM_ps S M h i 113 j = S 113 j
  | 0, _ => rfl
  | i + 1, hj => by
    rw [uM_ps, q_p_ne _ _ _ _ _ (by omega)]
    exact uM_ps_at S M h j i (by omega)
theorem q_cpy_back (f g : Nat → Int32) (n : Nat) : va_cpy (va_cpy f g 0 0 n) f 0 0 n = f := by
  funext j
  rw [q_cpy_at]
  by_cases h : j < n
  · rw [if_pos h, q_cpy_at, if_pos h]
  · rw [if_neg h]
