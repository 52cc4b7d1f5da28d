
/-! what a change comes to, seen from outside -/
def pFr (A B : q_St) : Prop := (∀ k, k = 3 ∨ 10 ≤ k → B k = A k) ∧ B 1 2 = A 1 2
theorem pFr.rf (A : q_St) : pFr A A := ⟨fun _ _ => rfl, rfl⟩
theorem pFr.tr {A B C : q_St} (h1 : pFr A B) (h2 : pFr B C) : pFr A C := ⟨fun k hk => (h2.1 k hk).trans (h1.1 k hk), h2.2.trans h1.2⟩
theorem pFr.p (A : q_St) {k i : Nat} {v : Int32} (h1 : k = 1 → i ≠ 2) (h3 : k ≠ 3) (h10 : k < 10) : pFr A (q_p A k i v) := by
  refine ⟨fun j hj => pP_k A k i v (by omega), ?_⟩
  by_cases c : k = 1
  · subst c
    rw [pP_s, if_neg (fun q => h1 rfl q.symm)]
  · rw [pP_k A k i v (fun q => c q.symm)]
theorem pFr.q (A : q_St) {k i : Nat} {v : Int32} (h1 : k ≠ 1) (h3 : k ≠ 3) (h10 : k < 10) : pFr A (q_p A k i v) := pFr.p A (fun q => absurd q h1) h3 h10
theorem pFr.book (A : q_St) (m N : Nat) (v : Int32) : pFr A (uC_book A m N v) := ((pFr.q A (by decide) (by decide) (by decide)).tr (pFr.q _ (by decide) (by decide) (by decide))).tr (pFr.p _ (fun _ => by decide) (by decide) (by decide))
theorem pFr.seal (A : q_St) (m g : Nat) : pFr A (uC_seal A m g) := (pFr.q A (by decide) (by decide) (by decide)).tr (pFr.q _ (by decide) (by decide) (by decide))
theorem pFr.ask (A : q_St) (M m g : Nat) : pFr A (uC_ask A M m g) := pFr.q A (by decide) (by decide) (by decide)
theorem pFr.decide (A : q_St) (N m : Nat) : pFr A (uC_decide A N m) := pFr.book A m N _
theorem pFr.tell (A : q_St) (m g : Nat) : pFr A (uC_tell A m g) := by
  unfold uC_tell
  split
  · exact pFr.seal A m g
  · exact pFr.q A (by decide) (by decide) (by decide)
theorem pFr.faint (A : q_St) : pFr A (uC_faint A) := (pFr.p A (fun _ => by decide) (by decide) (by decide)).tr (pFr.p _ (fun _ => by decide) (by decide) (by decide))
theorem pFr.wk (A : q_St) (N : Nat) : ∀ i, pFr A (uC_wk A N i)
  | 0 => pFr.rf A
  | i + 1 => by
    rw [uC_wk]
    split
    · exact (pFr.wk A N i).tr (pFr.book _ _ _ _)
    · exact pFr.wk A N i
theorem pFr.wake (A : q_St) (M N : Nat) : pFr A (uC_wake A M N) := (pFr.p A (fun _ => by decide) (by decide) (by decide)).tr (pFr.wk _ N M)
theorem pFr.inq (A : q_St) (m g o : Nat) : pFr A (uC_inq A m g o) := by
  have h1 : pFr A (q_p A 1 3 (A 1 3 + 1)) := pFr.p A (fun _ => by decide) (by decide) (by decide)
  unfold uC_inq
  split
  · exact h1.tr (pFr.seal _ m g)
  · split
    · exact (h1.tr (pFr.q _ (by decide) (by decide) (by decide))).tr (pFr.q _ (by decide) (by decide) (by decide))
    · exact h1.tr (pFr.q _ (by decide) (by decide) (by decide))
theorem pPs_k (A : q_St) (M : Nat) (h : Int32) : ∀ i k, k ≠ 8 → uC_ps A M h i k = A k
  | 0, _, _ => rfl
  | i + 1, k, hk => by
    rw [uC_ps]
    split
    · exact pPs_k A M h i k hk
    · rw [pP_k _ _ _ _ hk]
      exact pPs_k A M h i k hk
theorem pPass_k (A : q_St) (M : Nat) (h : Int32) (k : Nat) (hk : k = 3 ∨ 10 ≤ k) : uC_pass A M h k = A k := by
  unfold uC_pass
  rw [pPs_k _ _ _ _ _ (by omega), pP_k _ _ _ _ (by omega)]
/-- the state that is kept is the council's -/
theorem pKp (S : q_St) (i z : Nat) (k : Nat) (hk : k < 28) : uH_keep S i z 1 k = S k := by
  funext j
  unfold uH_keep
  rw [pP_k _ _ _ _ (by omega), pP_k _ _ _ _ (by omega)]
  unfold q_cp
  rw [if_neg (by omega)]
/-- a change that was made -/
def pDn (S : q_St) (i z d' M' : Nat) (mk ps : Bool) (v : Int32) (T : q_St) : Prop := 0 ≤ v ∧ (∀ k, 10 ≤ k → T k = uH_keep S i z 1 k) ∧ (∃ N', pI d' M' N' T) ∧ (∀ m, T 3 m = S 3 m ∨ (mk = true ∧ T 3 m = S 1 2)) ∧ (ps = false → T 1 2 = S 1 2)
def pOut (S : q_St) (i z d' M' : Nat) (mk ps : Bool) (hs : List (String × Int32)) (c : Int32) (r : (Int32 ⊕ String) × q_St) : Prop := (uW hs r.1 = c ∧ ∀ k, k ≠ 102 → r.2 k = S k) ∨ pDn S i z d' M' mk ps (uW hs r.1) r.2
theorem pReq {S : q_St} {i z d' M' : Nat} {mk ps : Bool} {hs : List (String × Int32)} {c : Int32} (hc : uW hs (.inr xEUn) = c) (o : uR_O) (v : Int32) (T : q_St) (h : o = none → pDn S i z d' M' mk ps v T) : pOut S i z d' M' mk ps hs c (uG_req S o v T) := by
  cases o with
  | none => exact Or.inr (h rfl)
  | some q => exact Or.inl ⟨hc, fun k hk => by show uR_set S q.1 q.2 k = S k; unfold uR_set; rw [pP_k _ _ _ _ hk, pP_k _ _ _ _ hk]⟩
theorem pDn_of {S T : q_St} {i z d' M' N' : Nat} {v : Int32} (hv : 0 ≤ v) (hf : pFr (uH_keep S i z 1) T) (hI : pI d' M' N' T) : pDn S i z d' M' false false v T := by
  refine ⟨hv, fun k hk => hf.1 k (Or.inr hk), ⟨N', hI⟩, fun m => Or.inl ?_, fun _ => ?_⟩
  · rw [hf.1 3 (Or.inl rfl), pKp S i z 3 (by decide)]
  · rw [hf.2, pKp S i z 1 (by decide)]
theorem pI.keep {d M N : Nat} {S : q_St} (h : pI d M N S) (i z : Nat) : pI d M N (uH_keep S i z 1) := h.cg (fun k _ hk _ _ => by rw [pKp S i z k (by omega)])
section POP
variable {d M N i z m g o : Nat} {S : q_St}
theorem pIn2 (h : pI d M N S) (hm : m < M) : (0 ≤ nI m ∧ nI m < S 1 0) ∧ uN (nI m) = m := ⟨pIn h.hM hm, uN_nI (by have := h.M8; omega)⟩
theorem pIg2 {n : Nat} (hg : g < n) (hn : n ≤ 1000) : (0 ≤ nI g ∧ nI g < nI n) ∧ uN (nI g) = g := ⟨pIg hg (by omega), uN_nI (by omega)⟩
theorem o_matter (h : pI d M N S) (hM : M < 8) : (uG_matter S M i z).1 = .inl (nI M) ∧ pDn S i z d (M + 1) true false (nI M) (uG_matter S M i z).2 := by
  unfold uG_matter uR_matter
  rw [if_neg (by omega)]
  refine ⟨rfl, ?_⟩
  have h' := (h.keep i z).new hM (uH_keep S i z 1 1 2)
  refine ⟨nI_pos' (by omega), fun k hk => ?_, ⟨N, h'⟩, fun m => ?_, fun _ => ?_⟩
  · show q_p (q_p (uH_keep S i z 1) 3 M (uH_keep S i z 1 1 2)) 1 0 (nI (M + 1)) k = _
    rw [pP_k _ _ _ _ (by omega), pP_k _ _ _ _ (by omega)]
  · show q_p (q_p (uH_keep S i z 1) 3 M (uH_keep S i z 1 1 2)) 1 0 (nI (M + 1)) 3 m = S 3 m ∨ (true = true ∧ q_p (q_p (uH_keep S i z 1) 3 M (uH_keep S i z 1 1 2)) 1 0 (nI (M + 1)) 3 m = S 1 2)
    rw [pP_k _ _ _ _ (by decide), pP_s, pKp S i z 1 (by decide), pKp S i z 3 (by decide)]
    split
    · exact Or.inr ⟨rfl, rfl⟩
    · exact Or.inl rfl
  · show q_p (q_p (uH_keep S i z 1) 3 M (uH_keep S i z 1 1 2)) 1 0 (nI (M + 1)) 1 2 = S 1 2
    rw [pP_s, if_neg (by decide), pP_k _ _ _ _ (by decide), pKp S i z 1 (by decide)]
theorem o_matter8 (h : pI d M N S) (hs : List (String × Int32)) (c : Int32) (hc : uW hs (.inr xEUn) = c) : pOut S i z d (M + 1) true false hs c (uG_matter S M i z) := by
  by_cases c8 : M < 8
  · obtain ⟨a, b⟩ := o_matter (i := i) (z := z) h c8
    exact Or.inr (by rw [a]; exact b)
  · unfold uG_matter uR_matter
    rw [if_pos (by omega)]
    exact pReq hc _ _ _ (fun q => by cases q)
theorem kM {A B : q_St} (k : ∀ j, j < 28 → B j = A j) (M : Nat) (a : Int32) : uC_matters B M a = uC_matters A M a := by
  unfold uC_matters
  exact q_sum_cgP M (fun m _ => by unfold uC_fM; rw [k 2 (by decide)])
theorem kAns {A B : q_St} (k : ∀ j, j < 28 → B j = A j) (m : Nat) (a : Int32) : uC_ans B m a = uC_ans A m a := by
  unfold uC_ans
  exact q_sum_cgP 6 (fun g _ => by unfold uC_fA; rw [k 5 (by decide), k 6 (by decide)])
theorem kGu {A B : q_St} (k : ∀ j, j < 28 → B j = A j) (m : Nat) : uC_guilds B m = uC_guilds A m := by
  unfold uC_guilds
  exact q_sum_cgP 6 (fun g _ => by unfold uC_fG; rw [k 5 (by decide)])
theorem uRk_set {A B : q_St} (k : ∀ j, j < 28 → B j = A j) (m g : Nat) (a : Int32) : uR_setA B m g a = uR_setA A m g a := by
  unfold uR_setA uC_answered
  rw [k 2 (by decide), k 5 (by decide), kGu k, kAns k]
theorem uRk_ask {A B : q_St} (k : ∀ j, j < 28 → B j = A j) (M m g : Nat) : uR_ask B M m g = uR_ask A M m g := by
  unfold uR_ask
  rw [k 1 (by decide), k 2 (by decide), k 5 (by decide), k 6 (by decide), k 9 (by decide), kM k]
theorem uRk_tell {A B : q_St} (k : ∀ j, j < 28 → B j = A j) (M m g : Nat) : uR_tell B M m g = uR_tell A M m g := by
  unfold uR_tell
  rw [k 1 (by decide), k 2 (by decide), k 5 (by decide), k 6 (by decide), k 9 (by decide), kM k]
theorem uRk_inq {A B : q_St} (k : ∀ j, j < 28 → B j = A j) (m g o : Nat) : uR_inq B m g o = uR_inq A m g o := by
  unfold uR_inq
  rw [k 5 (by decide), k 6 (by decide), k 9 (by decide)]
theorem uRk_decide {A B : q_St} (k : ∀ j, j < 28 → B j = A j) (M m : Nat) : uR_decide B M m = uR_decide A M m := by
  have e2 : uC_first B m = uC_first A m := by
    unfold uC_first
    have e : uC_pFirst B m = uC_pFirst A m := by funext g; unfold uC_pFirst; rw [k 5 (by decide), k 6 (by decide)]
    rw [e]
  have e5 : uR_und B m ↔ uR_und A m := by
    unfold uR_und uC_opposed
    rw [e2, kGu k, kAns k, kAns k]
  unfold uR_decide
  rw [k 1 (by decide), k 2 (by decide), kM k]
  by_cases c : uR_und A m
  · rw [if_pos (e5.mpr c), if_pos c, e2]
  · rw [if_neg (fun q => c (e5.mp q)), if_neg c]
theorem g0 (A : q_St) (m : Nat) : 0 ≤ uC_guilds A m := by
  obtain ⟨k, k1, k2, _⟩ := pGuilds A m
  rw [k2]; exact nI_pos' (by omega)
theorem g1 {A : q_St} {m g : Nat} (hg : g < 6) (h : A 5 (m * 6 + g) ≠ 0) : ¬ uC_guilds A m < 1 := by
  obtain ⟨k, k1, k2, k3⟩ := pGuilds A m
  rw [k2]
  intro q
  have : k < 1 := (nI_ltI (a := k) (b := 1) (by omega) (by decide)).mp q
  exact h (k3 (by omega) g hg)
theorem aw0 (A : q_St) : 0 ≤ uC_awake A := by
  obtain ⟨k, k1, k2⟩ := pAwake A
  rw [k2]; exact nI_pos' (by omega)
theorem o_set (h : pI d M N S) (hm : m < M) (hg : g < 6) {a : Int32} (ha : -50 ≤ a ∧ a ≤ 50) {hs : List (String × Int32)} {c : Int32} (hc : uW hs (.inr xEUn) = c) : pOut S i z d M false false hs c (uG_set S i z (nI m) (nI g) a) ∧ (a ≠ 0 → 0 ≤ uW hs (uG_set S i z (nI m) (nI g) a).1 → c < 0 → ¬ uW hs (uG_set S i z (nI m) (nI g) a).1 < 1) := by
  obtain ⟨m1, m2⟩ := pIn2 h hm
  obtain ⟨n1, n2⟩ := pIg2 (n := 6) hg (by decide)
  unfold uG_set
  rw [if_pos m1, if_pos (show 0 ≤ nI g ∧ nI g < 6 from n1), if_pos ha, m2, n2]
  refine ⟨pReq hc _ _ _ (fun q => pDn_of (g0 _ _) (pFr.q _ (by decide) (by decide) (by decide)) ((h.keep i z).set hm hg ha ((uRk_set (pKp S i z) m g a).trans q))), fun h0 => ?_⟩
  cases uR_setA S m g a with
  | none =>
    intro _ _
    refine g1 (g := g) hg ?_
    rw [pP_s, if_pos rfl]
    exact h0
  | some q =>
    intro q1 q2
    have : uW hs (.inr xEUn) = c := hc
    exact absurd q1 (Int32.not_le.mpr (by rw [show uW hs (uG_req S (some q) (uC_guilds (q_p (uH_keep S i z 1) 5 (m * 6 + g) a) m) (q_p (uH_keep S i z 1) 5 (m * 6 + g) a)).1 = c from hc]; exact q2))
theorem o_ask (h : pI d M N S) (hm : m < M) (hg : g < 6) {hs : List (String × Int32)} {c : Int32} (hc : uW hs (.inr xEUn) = c) : pOut S i z d M false false hs c (uG_ask S M i z (nI m) (nI g)) := by
  obtain ⟨m1, m2⟩ := pIn2 h hm
  obtain ⟨n1, n2⟩ := pIg2 (n := 6) hg (by decide)
  unfold uG_ask
  rw [if_pos m1, if_pos (show 0 ≤ nI g ∧ nI g < 6 from n1), m2, n2]
  exact pReq hc _ _ _ (fun q => pDn_of (by split <;> decide) (pFr.ask _ M m g) ((h.keep i z).ask hm hg ((uRk_ask (pKp S i z) M m g).trans q)))
theorem o_decide (h : pI d M N S) (hm : m < M) {hs : List (String × Int32)} {c : Int32} (hc : uW hs (.inr xEUn) = c) : pOut S i z d M false false hs c (uG_decide S M N i z (nI m)) := by
  obtain ⟨m1, m2⟩ := pIn2 h hm
  unfold uG_decide
  rw [if_pos m1, m2]
  exact pReq hc _ _ _ (fun q => pDn_of (by split <;> decide) (pFr.decide _ N m) ((h.keep i z).decide hm ((uRk_decide (pKp S i z) M m).trans q)))
theorem o_tell (h : pI d M N S) (hm : m < M) (hg : g < 6) {hs : List (String × Int32)} {c : Int32} (hc : uW hs (.inr xEUn) = c) : pOut S i z d M false false hs c (uG_tell S M i z (nI m) (nI g)) := by
  obtain ⟨m1, m2⟩ := pIn2 h hm
  obtain ⟨n1, n2⟩ := pIg2 (n := 6) hg (by decide)
  unfold uG_tell
  rw [if_pos m1, if_pos (show 0 ≤ nI g ∧ nI g < 6 from n1), m2, n2]
  exact pReq hc _ _ _ (fun q => by
    have h' := (h.keep i z).tell hm hg ((uRk_tell (pKp S i z) M m g).trans q)
    exact pDn_of (h'.g hg).2 (pFr.tell _ m g) h')
theorem d_faint (h : pI d M N S) : pDn S i z d M false false (uC_matters (uH_keep S i z 1) M 0) (uC_faint (uH_keep S i z 1)) := by
  refine pDn_of ?_ (pFr.faint _) (h.keep i z).faint
  obtain ⟨k, k1, k2⟩ := pMatters (uH_keep S i z 1) M 0 h.M8
  have := h.M8
  rw [k2]; exact nI_pos' (by omega)
theorem o_faint (h : pI d M N S) {hs : List (String × Int32)} {c : Int32} (hc : uW hs (.inr xEUn) = c) : pOut S i z d M false false hs c (uG_faint S M i z) := pReq hc _ _ _ (fun _ => d_faint h)
theorem pWkge (A : q_St) (N : Nat) : ∀ i, N ≤ uC_wkN A N i
  | 0 => Nat.le_refl _
  | i + 1 => by
    have := pWkge A N i
    rw [uC_wkN]
    split <;> omega
theorem d_wake (h : pI d M N S) : pDn S i z d M false false (nI (uC_wkN (q_p (uH_keep S i z 1) 1 5 1) N M) - nI N) (uC_wake (uH_keep S i z 1) M N) := by
  refine pDn_of ?_ (pFr.wake _ M N) (h.keep i z).wake
  have h1 := pWkge (q_p (uH_keep S i z 1) 1 5 1) N M
  have h2 := ((h.keep i z).p1 (j := 5) 1 (by decide) (by decide) (fun _ => Or.inr rfl)).wk8
  rw [pk_sub h1]
  exact nI_pos' (by omega)
theorem o_wake (h : pI d M N S) {hs : List (String × Int32)} {c : Int32} (hc : uW hs (.inr xEUn) = c) : pOut S i z d M false false hs c (uG_wake S M N i z) := pReq hc _ _ _ (fun _ => d_wake h)
theorem d_slp (h : pI d M N S) {v : Int32} (hv : v = 0 ∨ v = 1) : pDn S i z d M false false (uC_awake (q_p (uH_keep S i z 1) 9 g v)) (q_p (uH_keep S i z 1) 9 g v) := pDn_of (aw0 _) (pFr.q _ (by decide) (by decide) (by decide)) ((h.keep i z).slp hv)
theorem o_sleep (h : pI d M N S) (hg : g < 6) {hs : List (String × Int32)} {c : Int32} (hc : uW hs (.inr xEUn) = c) : pOut S i z d M false false hs c (uG_sleep S i z (nI g)) := by
  obtain ⟨n1, n2⟩ := pIg2 (n := 6) hg (by decide)
  unfold uG_sleep
  rw [if_pos (show 0 ≤ nI g ∧ nI g < 6 from n1), n2]
  exact pReq hc _ _ _ (fun _ => d_slp h (Or.inl rfl))
theorem o_rouse (h : pI d M N S) (hg : g < 6) {hs : List (String × Int32)} {c : Int32} (hc : uW hs (.inr xEUn) = c) : pOut S i z d M false false hs c (uG_rouse S i z (nI g)) := by
  obtain ⟨n1, n2⟩ := pIg2 (n := 6) hg (by decide)
  unfold uG_rouse
  rw [if_pos (show 0 ≤ nI g ∧ nI g < 6 from n1), n2]
  exact pReq hc _ _ _ (fun _ => d_slp h (Or.inr rfl))
theorem o_inq (h : pI d M N S) (hm : m < M) (hg : g < 6) (ho : o < 6) {hs : List (String × Int32)} {c : Int32} (hc : uW hs (.inr xEUn) = c) : pOut S i z d M false false hs c (uG_inq S i z (nI m) (nI g) (nI o)) := by
  obtain ⟨m1, m2⟩ := pIn2 h hm
  obtain ⟨n1, n2⟩ := pIg2 (n := 6) hg (by decide)
  obtain ⟨o1, o2⟩ := pIg2 (n := 6) ho (by decide)
  unfold uG_inq
  rw [if_pos m1, if_pos (show 0 ≤ nI g ∧ nI g < 6 from n1), if_pos (show 0 ≤ nI o ∧ nI o < 6 from o1), m2, n2, o2]
  exact pReq hc _ _ _ (fun q => by
    obtain ⟨h1, h2⟩ := (h.keep i z).inq hm hg ho ((uRk_inq (pKp S i z) m g o).trans q)
    exact pDn_of (by rcases h2 with e | e <;> rw [e] <;> decide) (pFr.inq _ m g o) h1)
theorem q_sum_0h {f : Nat → Int32} {x : Nat} : ∀ n, (∀ i, i < n → f i = 0 ∨ f i = nI x) → ∃ k, k ≤ n ∧ q_sum f n = nI (k * x)
  | 0, _ => ⟨0, Nat.le_refl _, by rw [Nat.zero_mul]; rfl⟩
  | n + 1, h => by
    obtain ⟨k, k1, k2⟩ := q_sum_0h n (fun i hi => h i (by omega))
    show ∃ k, k ≤ n + 1 ∧ q_sum f n + f n = nI (k * x)
    rcases h n (by omega) with e | e
    · exact ⟨k, by omega, by rw [e, k2, Int32.add_zero]⟩
    · exact ⟨k + 1, by omega, by rw [e, k2, nI_add, Nat.succ_mul]⟩
theorem o_pass (h : pI d M N S) {x n : Nat} (h1 : 1 ≤ x) (h2 : x ≤ 24) (hn : x ≤ n) (hs : List (String × Int32)) : pDn S i z (d + n) M false true (uW hs (uG_pass S M i z (nI x)).1) (uG_pass S M i z (nI x)).2 := by
  unfold uG_pass
  rw [if_pos (show 1 ≤ nI x ∧ nI x ≤ 24 from ⟨(nI_leI (a := 1) (by decide) (by omega)).mpr h1, (nI_leI (b := 24) (by omega) (by decide)).mpr h2⟩)]
  refine ⟨?_, fun k hk => pPass_k _ M _ k (Or.inr hk), ⟨N, (h.keep i z).pass hn⟩, fun m => Or.inl ?_, fun q => Bool.noConfusion q⟩
  · obtain ⟨k, k1, k2⟩ := q_sum_0h (f := uC_psf (q_p (uH_keep S i z 1) 1 2 (uH_keep S i z 1 1 2 + nI x)) M (nI x)) (x := x) 6 (fun g _ => by unfold uC_psf; split; exact Or.inl rfl; exact Or.inr rfl)
    show 0 ≤ q_sum _ 6
    rw [k2]
    refine nI_pos' ?_
    have : k * x ≤ 6 * 24 := Nat.mul_le_mul k1 h2
    omega
  · show uC_pass (uH_keep S i z 1) M (nI x) 3 m = S 3 m
    rw [pPass_k _ M _ 3 (Or.inl rfl), pKp S i z 3 (by decide)]
end POP
