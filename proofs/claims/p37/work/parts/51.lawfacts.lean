
/-! what the law's questions come to -/
theorem y_ex {l : Launch} {K : q_K} {u pc : Nat} {ex ex' : va_W} {Z : Heap → Prop} {lv : List (Nat × Value)} {st : List Value} {S : q_St} (e : ex = ex') (k : q_Y l K u ex' Z pc lv st S) : q_Y l K u ex Z pc lv st S := e ▸ k
theorem k_account (l : Launch) (hst : l.stackTraces = false) (S : q_St) (M : Nat) (hM : pHM S M) (w : Nat) (hw : w < 11) : q_Fx l yX6_account kX6_account 7 6 [.ref 0, .int (nI w)] S (.inl (uC_nA S M w), S) := by
  have h := c_X6_account l hst S M hM.1 hM.2 (nI w)
  have e : uG_account S M (nI w) = (.inl (uC_nA S M w), S) := by
    unfold uG_account
    rw [if_pos (show 0 ≤ nI w ∧ nI w ≤ 12 from ⟨nI_pos' (by omega), (nI_leI (by omega) (b := 12) (by decide)).mpr (by omega)⟩), if_neg (fun q => by have := (nI_eq (a := w) (b := 11) (by omega) (by decide)).mp q; omega), if_neg (fun q => by have := (nI_eq (a := w) (b := 12) (by omega) (by decide)).mp q; omega), uN_nI (show w < 2 ^ 31 by omega)]
  rw [e] at h
  exact h
section PL
variable {d M N : Nat} {S : q_St}
theorem pI.h3 (h : pI d M N S) {m : Nat} (hm : m < 8) : ∃ k, k < 3 ∧ S 2 m = nI k := by
  rcases h.how hm with e | e | e
  · exact ⟨0, by decide, e⟩
  · exact ⟨1, by decide, e⟩
  · exact ⟨2, by decide, e⟩
theorem pAn1 {m g : Nat} {a : Int32} (ha : a ≠ -1) (c : pAn S m g = a) : 1 = uC_fA S m a g := by
  unfold pAn at c
  unfold uC_fA
  by_cases e : S 5 (m * 6 + g) = 0
  · rw [if_neg (fun q => q e)] at c
    exact absurd c.symm ha
  · rw [if_pos e] at c
    rw [if_pos ⟨e, c⟩]
theorem pAn0 {m g : Nat} {a : Int32} (c : pAn S m g ≠ a) : 0 = uC_fA S m a g := by
  unfold pAn at c
  unfold uC_fA
  by_cases e : S 5 (m * 6 + g) = 0
  · rw [if_neg (fun q => q.1 e)]
  · rw [if_pos e] at c
    rw [if_neg (fun q => c q.2)]
/-- the answer as the law sees it, and as it is held -/
theorem pI.pAnE (h : pI d M N S) {m g : Nat} (hm : m < 8) (hg : g < 6) : (S 5 (m * 6 + g) = 0 ∧ pAn S m g = -1 ∧ S 6 (m * 6 + g) = 0) ∨ (S 5 (m * 6 + g) ≠ 0 ∧ pAn S m g = S 6 (m * 6 + g) ∧ pAn S m g ≠ -1) := by
  unfold pAn
  by_cases e : S 5 (m * 6 + g) = 0
  · exact Or.inl ⟨e, if_neg (fun q => q e), h.an0 hm hg e⟩
  · refine Or.inr ⟨e, if_pos e, ?_⟩
    rw [if_pos e]
    rcases (h.c hm hg).1 with q | q | q | q | q <;> rw [q] <;> decide
theorem pI.pAn_iff (h : pI d M N S) {m g : Nat} (hm : m < 8) (hg : g < 6) {a : Int32} (h0 : a ≠ 0) (h1 : a ≠ -1) : pAn S m g = a ↔ S 6 (m * 6 + g) = a := by
  rcases h.pAnE hm hg with ⟨_, e2, e3⟩ | ⟨_, e2, _⟩
  · rw [e2, e3]
    exact ⟨fun q => absurd q.symm h1, fun q => absurd q.symm h0⟩
  · rw [e2]
theorem pFG1 {m g : Nat} (c : uC_fG S m g ≠ 0) : 1 = uC_fG S m g := by
  unfold uC_fG at c ⊢
  split at c
  · exact absurd rfl c
  · rw [if_neg (by assumption)]
def pNG (S : q_St) (m g : Nat) : Int32 := if S 5 (m * 6 + g) = 0 then 1 else 0
theorem pI.ng1 (h : pI d M N S) {m g : Nat} (hm : m < 8) (hg : g < 6) (c : pAn S m g = -1) : 1 = pNG S m g := by
  rcases h.pAnE hm hg with ⟨e, _, _⟩ | ⟨_, _, e⟩
  · unfold pNG; rw [if_pos e]
  · exact absurd c e
theorem pI.ng0 (h : pI d M N S) {m g : Nat} (hm : m < 8) (hg : g < 6) (c : pAn S m g ≠ -1) : 0 = pNG S m g := by
  rcases h.pAnE hm hg with ⟨_, e, _⟩ | ⟨e, _, _⟩
  · exact absurd e c
  · unfold pNG; rw [if_neg e]
theorem pNGa {m g : Nat} (c : uC_fG S m g ≠ 0) : 0 = pNG S m g := by
  unfold uC_fG at c
  unfold pNG
  split at c
  · exact absurd rfl c
  · rw [if_neg (by assumption)]
theorem pNGb {m g : Nat} (c : uC_fG S m g = 0) : 1 = pNG S m g := by
  unfold uC_fG at c
  unfold pNG
  split at c
  · rw [if_pos (by assumption)]
  · exact absurd c (by decide)
theorem pFHa {m : Nat} (c : q_sum (uC_fG S m) 6 ≤ 0) : 0 = uC_fH S m := by
  unfold uC_fH
  rw [if_neg (fun q => absurd q.1 (Int32.not_lt.mpr c))]
theorem pFHb {m : Nat} (c : uC_ans S m 3 + uC_ans S m 4 ≠ q_sum (uC_fG S m) 6) : 0 = uC_fH S m := by
  unfold uC_fH
  rw [if_neg (fun q => c q.2)]
theorem pFHc {m : Nat} (c : 0 < q_sum (uC_fG S m) 6) (c2 : uC_ans S m 3 + uC_ans S m 4 = q_sum (uC_fG S m) 6) : 1 = uC_fH S m := by
  unfold uC_fH
  rw [if_pos ⟨c, c2⟩]
/-- how many matters are so, as the law's array has it -/
def pHow (S : q_St) (i : Nat) : Nat → Int32 := fun k => if k = 0 then uC_matters S i 0 else if k = 1 then uC_matters S i 1 else if k = 2 then uC_matters S i 2 else 0
theorem pHow0 : (fun _ => 0 : Nat → Int32) = pHow S 0 := by
  funext k
  unfold pHow uC_matters
  simp [q_sum]
theorem pHowS {i k : Nat} (hk : k < 3) (e : S 2 i = nI k) : upd (pHow S i) k (pHow S i k + 1) = pHow S (i + 1) := by
  have s : ∀ a : Int32, uC_matters S (i + 1) a = uC_matters S i a + (if S 2 i = a then 1 else 0) := fun a => rfl
  funext j
  have c : k = 0 ∨ k = 1 ∨ k = 2 := by omega
  unfold upd pHow
  rw [s, s, s, e]
  rcases c with rfl | rfl | rfl
  · by_cases j0 : j = 0
    · subst j0
      simp only [if_true]
      rw [if_pos (show nI 0 = 0 from rfl)]
    · simp only [j0, if_false]
      rw [if_neg (show ¬ nI 0 = 1 by decide), if_neg (show ¬ nI 0 = 2 by decide), Int32.add_zero, Int32.add_zero]
  · by_cases j0 : j = 1
    · subst j0
      simp only [if_true, show ¬ (1 = 0) by decide, if_false]
      rw [if_pos (show nI 1 = 1 from rfl)]
    · simp only [j0, if_false]
      rw [if_neg (show ¬ nI 1 = 0 by decide), if_neg (show ¬ nI 1 = 2 by decide), Int32.add_zero, Int32.add_zero]
  · by_cases j0 : j = 2
    · subst j0
      simp only [if_true, show ¬ (2 = 0) by decide, show ¬ (2 = 1) by decide, if_false]
      rw [if_pos (show nI 2 = 2 from rfl)]
    · simp only [j0, if_false]
      rw [if_neg (show ¬ nI 2 = 0 by decide), if_neg (show ¬ nI 2 = 1 by decide), Int32.add_zero, Int32.add_zero]
theorem pHow12 (S : q_St) (h3 : ∀ m, m < 8 → (S 2 m = 0 ∨ S 2 m = 1 ∨ S 2 m = 2)) : ∀ M, M ≤ 8 → uC_matters S M 1 + uC_matters S M 2 = nI (pD S M)
  | 0, _ => rfl
  | M + 1, hM => by
    have ih := pHow12 S h3 M (by omega)
    have s : ∀ a : Int32, uC_matters S (M + 1) a = uC_matters S M a + (if S 2 M = a then 1 else 0) := fun a => rfl
    rw [s, s]
    unfold pD
    rcases h3 M (by omega) with e | e | e
    · rw [e, if_neg (by decide), if_neg (by decide), if_pos rfl, Int32.add_zero, Int32.add_zero]
      exact ih
    · rw [e, if_pos rfl, if_neg (by decide), if_neg (by decide), Int32.add_zero, Int32.add_assoc, Int32.add_comm 1, ← Int32.add_assoc, ih]
      exact nI_add _ 1
    · rw [e, if_neg (by decide), if_pos rfl, if_neg (by decide), Int32.add_zero, ← Int32.add_assoc, ih]
      exact nI_add _ 1
theorem pI.how12 (h : pI d M N S) : uC_matters S M 1 + uC_matters S M 2 = S 1 1 := by
  rw [pHow12 S (fun m hm => h.how hm) M h.M8, ← h.eN, h.hN]
theorem pI.s1 (h : pI d M N S) {m : Nat} (hm : m < 8) (c : uC_ans S m 3 ≠ 0) : S 2 m = 1 := by
  obtain ⟨k, _, _, a3⟩ := q_sum_01 (f := uC_fA S m 3) 6 (fun g _ => by unfold uC_fA; split; exact Or.inr rfl; exact Or.inl rfl)
  by_cases hx : ∃ g, g < 6 ∧ S 5 (m * 6 + g) ≠ 0 ∧ S 6 (m * 6 + g) = 3
  · obtain ⟨g, hg, _, e⟩ := hx
    exact (h.c hm hg).2.2.2.2.1 e
  · refine absurd ?_ c
    unfold uC_ans
    rw [q_sum_cgP (h := fun _ => 0) 6 (fun g hg => ?_)]
    · rfl
    · unfold uC_fA
      rw [if_neg (fun q => hx ⟨g, hg, q⟩)]
theorem pI.s1n4 (h : pI d M N S) {m : Nat} (hm : m < 8) (c : S 2 m = 1) : uC_ans S m 4 = 0 := by
  unfold uC_ans
  rw [q_sum_cgP (h := fun _ => 0) 6 (fun g hg => ?_)]
  · rfl
  · unfold uC_fA
    refine if_neg (fun q => ?_)
    rcases (h.c hm hg).2.2.2.1 c q.1 with e | e <;> rw [e] at q <;> exact absurd q.2 (by decide)
theorem q_sum_addP (f k : Nat → Int32) : ∀ n, q_sum f n + q_sum k n = q_sum (fun g => f g + k g) n
  | 0 => rfl
  | n + 1 => by
    show (q_sum f n + f n) + (q_sum k n + k n) = q_sum (fun g => f g + k g) n + (f n + k n)
    rw [← q_sum_addP f k n, Int32.add_assoc, Int32.add_assoc, ← Int32.add_assoc (q_sum k n), Int32.add_comm (q_sum k n) (f n), Int32.add_assoc]
theorem pI.s1all (h : pI d M N S) {m : Nat} (hm : m < 8) (c : S 2 m = 1) : uC_ans S m 1 + uC_ans S m 3 = q_sum (uC_fG S m) 6 := by
  unfold uC_ans
  rw [q_sum_addP]
  refine q_sum_cgP 6 (fun g hg => ?_)
  unfold uC_fA uC_fG
  by_cases e : S 5 (m * 6 + g) = 0
  · rw [if_neg (fun q => q.1 e), if_neg (fun q => q.1 e), if_pos e, Int32.add_zero]
  · rw [if_neg e]
    rcases (h.c hm hg).2.2.2.1 c e with q | q
    · rw [if_pos ⟨e, q⟩, if_neg (fun x => by rw [q] at x; exact absurd x.2 (by decide)), Int32.add_zero]
    · rw [if_neg (fun x => by rw [q] at x; exact absurd x.2 (by decide)), if_pos ⟨e, q⟩, Int32.zero_add]
/-- whether all would be ready, as the law finds it -/
def pCan (S : q_St) (M m : Nat) : Nat → Int32
  | 0 => 1
  | g + 1 => if pCan S M m g ≠ 0 ∧ uC_pAll S M m g = true then 1 else 0
theorem pCan0 {m g : Nat} (c : pCan S M m g = 0) : 0 = pCan S M m (g + 1) := by
  rw [pCan, if_neg (fun q => q.1 c)]
theorem pCan1 {m g : Nat} (c : pCan S M m g ≠ 0) (e : uC_pAll S M m g = true) : 1 = pCan S M m (g + 1) := by
  rw [pCan, if_pos ⟨c, e⟩]
theorem pCan2 {m g : Nat} (e : ¬ uC_pAll S M m g = true) : 0 = pCan S M m (g + 1) := by
  rw [pCan, if_neg (fun q => e q.2)]
theorem pAllE {m g : Nat} : uC_pAll S M m g = true ↔ (S 5 (m * 6 + g) = 0 ∨ uC_isOr S M m g) := by
  unfold uC_pAll
  exact decide_eq_true_iff
theorem pI.all_a (h : pI d M N S) {m g : Nat} (hm : m < 8) (hg : g < 6) (c : pAn S m g = -1) : uC_pAll S M m g = true := by
  rcases h.pAnE hm hg with ⟨e, _, _⟩ | ⟨_, _, e⟩
  · exact pAllE.mpr (Or.inl e)
  · exact absurd c e
theorem pI.all_b (h : pI d M N S) {m g : Nat} (hm : m < 8) (hg : g < 6) (c : pAn S m g = 1) : uC_pAll S M m g = true :=
  pAllE.mpr (Or.inr (Or.inl ((h.pAn_iff hm hg (by decide) (by decide)).mp c)))
theorem pI.all_c (h : pI d M N S) {m g : Nat} (hm : m < 8) (hg : g < 6) (c1 : pAn S m g ≠ -1) (c2 : pAn S m g ≠ 1) (c3 : pAn S m g ≠ 0) : ¬ uC_pAll S M m g = true := by
  rcases h.pAnE hm hg with ⟨_, e, _⟩ | ⟨e, e2, _⟩
  · exact absurd e c1
  · rw [e2] at c2 c3
    intro q
    rcases pAllE.mp q with q | q | q
    · exact e q
    · exact c2 q
    · exact c3 q.1
theorem pI.all_d (h : pI d M N S) {m g : Nat} (hm : m < 8) (hg : g < 6) (c3 : pAn S m g = 0) (c4 : 0 ≤ uC_doubt S M g) : ¬ uC_pAll S M m g = true := by
  rcases h.pAnE hm hg with ⟨_, e, _⟩ | ⟨e, e2, _⟩
  · rw [e] at c3; exact absurd c3 (by decide)
  · rw [e2] at c3
    intro q
    rcases pAllE.mp q with q | q | q
    · exact e q
    · rw [c3] at q; exact absurd q (by decide)
    · rw [q.2.1] at c4; exact absurd c4 (by decide)
theorem pI.all_e (h : pI d M N S) {m g : Nat} (hm : m < 8) (hg : g < 6) (c3 : pAn S m g = 0) (c5 : S 7 g + S 5 (m * 6 + g) < 0) : ¬ uC_pAll S M m g = true := by
  rcases h.pAnE hm hg with ⟨_, e, _⟩ | ⟨e, e2, _⟩
  · rw [e] at c3; exact absurd c3 (by decide)
  · rw [e2] at c3
    intro q
    rcases pAllE.mp q with q | q | q
    · exact e q
    · rw [c3] at q; exact absurd q (by decide)
    · exact absurd q.2.2 (Int32.not_le.mpr c5)
theorem pI.all_f (h : pI d M N S) {m g : Nat} (hm : m < 8) (hg : g < 6) (c3 : pAn S m g = 0) (c4 : uC_doubt S M g < 0) (c5 : 0 ≤ S 7 g + S 5 (m * 6 + g)) : uC_pAll S M m g = true := by
  rcases h.pAnE hm hg with ⟨_, e, _⟩ | ⟨e, e2, _⟩
  · rw [e] at c3; exact absurd c3 (by decide)
  · rw [e2] at c3
    refine pAllE.mpr (Or.inr (Or.inr ⟨c3, ?_, c5⟩))
    rcases uC_doubt_cs S M g with q | ⟨k, k1, k2, _⟩
    · exact q
    · rw [k2] at c4
      exact absurd c4 (nI_pos (by have := h.M8; omega))
theorem q_every_cs (P : Nat → Bool) (f : Nat → Int32) (f0 : f 0 = 1) (fs : ∀ g, f (g + 1) = if f g ≠ 0 ∧ P g = true then 1 else 0) : ∀ n i, (f i ≠ 0 → uO_b (q_every P n i) = f (i + n)) ∧ (f i = 0 → f (i + n) = 0)
  | 0, i => ⟨fun c => by
      show uO_b true = f i
      cases i with
      | zero => rw [f0]; rfl
      | succ g =>
        rw [fs] at c ⊢
        split at c
        · rw [if_pos (by assumption)]; rfl
        · exact absurd rfl c, fun c => c⟩
  | n + 1, i => by
    have ih := q_every_cs P f f0 fs n (i + 1)
    rw [show i + (n + 1) = i + 1 + n by omega]
    constructor
    · intro c
      rw [q_every]
      by_cases e : P i = true
      · rw [if_pos e]
        exact ih.1 (by rw [fs, if_pos ⟨c, e⟩]; decide)
      · rw [if_neg e, ih.2 (by rw [fs, if_neg (fun q => e q.2)])]
        rfl
    · intro c
      exact ih.2 (by rw [fs, if_neg (fun q => q.1 c)])
theorem pCanE (S : q_St) (M m : Nat) : pCan S M m 6 = uO_b (q_every (uC_pAll S M m) 6 0) := ((q_every_cs (uC_pAll S M m) (pCan S M m) rfl (fun _ => rfl) 6 0).1 (show (1 : Int32) ≠ 0 by decide)).symm
abbrev pWd (S : q_St) (M m : Nat) : Int32 := if S 2 m ≠ 0 ∨ uC_guilds S m = 0 then -14 else uO_b (q_every (uC_pAll S M m) 6 0)
theorem pW1 {m : Nat} (c : S 2 m ≠ 0) : -14 = pWd S M m := by unfold pWd; rw [if_pos (Or.inl c)]
theorem pW2 {m : Nat} (c : q_sum (uC_fG S m) 6 = 0) : -14 = pWd S M m := by unfold pWd; rw [if_pos (show S 2 m ≠ 0 ∨ uC_guilds S m = 0 from Or.inr c)]
theorem pW3 {m : Nat} (c : S 2 m = 0) (c2 : q_sum (uC_fG S m) 6 ≠ 0) (c3 : pCan S M m 6 = 0) : 0 = pWd S M m := by
  unfold pWd
  rw [if_neg (fun q => q.elim (fun x => x c) c2), ← pCanE, c3]
theorem pW4 {m : Nat} (c : S 2 m = 0) (c2 : q_sum (uC_fG S m) 6 ≠ 0) (c3 : pCan S M m 6 ≠ 0) : 1 = pWd S M m := by
  unfold pWd
  rw [if_neg (fun q => q.elim (fun x => x c) c2), ← pCanE]
  rw [pCan] at c3 ⊢
  split at c3
  · rw [if_pos (by assumption)]
  · exact absurd rfl c3
end PL
