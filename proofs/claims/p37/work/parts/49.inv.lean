
/-! what holds of a council, whatever is done -/
theorem pP_s (A : q_St) (k i : Nat) (v : Int32) (j : Nat) : q_p A k i v k j = if j = i then v else A k j := by simp [q_p, upd]
theorem pP_k (A : q_St) (k i : Nat) (v : Int32) {k' : Nat} (h : k' ≠ k) : q_p A k i v k' = A k' := by funext j; simp [q_p, h]
theorem pIx {m g n o : Nat} (hg : g < 6) (ho : o < 6) : (n * 6 + o = m * 6 + g) ↔ (n = m ∧ o = g) := by omega
def pD (A : q_St) : Nat → Nat
  | 0 => 0
  | m + 1 => if A 2 m = 0 then pD A m else pD A m + 1
theorem pD_cg {A B : q_St} : ∀ M, (∀ m, m < M → B 2 m = A 2 m) → pD B M = pD A M
  | 0, _ => rfl
  | M + 1, h => by
    unfold pD
    rw [h M (by omega), pD_cg M (fun m hm => h m (by omega))]
theorem pD_le (A : q_St) : ∀ M, pD A M ≤ M
  | 0 => Nat.le_refl _
  | M + 1 => by
    have := pD_le A M
    unfold pD
    split <;> omega
theorem pD_lt {A : q_St} {m : Nat} (h0 : A 2 m = 0) : ∀ M, m < M → pD A M < M
  | 0, h => by omega
  | M + 1, h => by
    have := pD_le A M
    unfold pD
    by_cases e : m = M
    · subst e
      rw [if_pos h0]
      omega
    · have := pD_lt h0 M (by omega)
      split <;> omega
theorem pD_set {A : q_St} {m : Nat} {v : Int32} (h0 : A 2 m = 0) (hv : v ≠ 0) : ∀ M, pD (q_p A 2 m v) M = if m < M then pD A M + 1 else pD A M
  | 0 => by simp [pD]
  | M + 1 => by
    have e1 : pD (q_p A 2 m v) (M + 1) = if (if M = m then v else A 2 M) = 0 then pD (q_p A 2 m v) M else pD (q_p A 2 m v) M + 1 := by
      rw [pD, pP_s]
    have e2 : pD A (M + 1) = if A 2 M = 0 then pD A M else pD A M + 1 := by rw [pD]
    rw [e1, e2, pD_set h0 hv M]
    by_cases e : M = m
    · subst e
      rw [if_pos (show M = M from rfl), if_neg hv, if_neg (Nat.lt_irrefl _), if_pos (show M < M + 1 by omega), if_pos h0]
    · rw [if_neg e]
      by_cases c : m < M
      · rw [if_pos c, if_pos (show m < M + 1 by omega)]
        split <;> rfl
      · rw [if_neg c, if_neg (show ¬ m < M + 1 by omega)]
def pC (A : q_St) (m g : Nat) : Prop :=
  (A 6 (m * 6 + g) = 0 ∨ A 6 (m * 6 + g) = 1 ∨ A 6 (m * 6 + g) = 2 ∨ A 6 (m * 6 + g) = 3 ∨ A 6 (m * 6 + g) = 4) ∧ (A 5 (m * 6 + g) = 0 → A 6 (m * 6 + g) = 0) ∧ (-50 ≤ A 5 (m * 6 + g) ∧ A 5 (m * 6 + g) ≤ 50) ∧
  (A 2 m = 1 → A 5 (m * 6 + g) ≠ 0 → A 6 (m * 6 + g) = 1 ∨ A 6 (m * 6 + g) = 3) ∧ (A 6 (m * 6 + g) = 3 → A 2 m = 1) ∧ (A 6 (m * 6 + g) = 1 → 0 ≤ A 7 g + A 5 (m * 6 + g))
def pG (A : q_St) (g : Nat) : Prop := A 7 g = 20 + q_sum (fun m => uC_fS A m g) 8 ∧ 0 ≤ A 7 g
def pI (d M N : Nat) (A : q_St) : Prop :=
  (M ≤ 8 ∧ A 1 0 = nI M ∧ A 1 1 = nI N ∧ N = pD A M) ∧
  (∀ m, M ≤ m → m < 8 → A 2 m = 0 ∧ ∀ g, g < 6 → A 5 (m * 6 + g) = 0) ∧
  q_bool A 1 ∧
  (∀ m, m < 8 → (A 2 m = 0 ∨ A 2 m = 1 ∨ A 2 m = 2)) ∧
  (∀ m, m < 8 → ∀ g, g < 6 → pC A m g) ∧
  (∀ g, g < 6 → ∀ m, m < 8 → ∀ n, n < 8 → A 6 (m * 6 + g) = 1 → A 6 (n * 6 + g) = 1 → m = n) ∧
  (∀ g, g < 6 → pG A g) ∧
  ((∀ p, p < N → ∃ m, m < M ∧ A 4 p = nI m ∧ A 2 m ≠ 0) ∧ ∀ p q, p < q → q < N → A 4 p ≠ A 4 q) ∧
  (∀ g, g < 6 → ∃ n, n ≤ d ∧ A 8 g = nI n)
theorem q_sum_cgP {f h : Nat → Int32} : ∀ n, (∀ i, i < n → f i = h i) → q_sum f n = q_sum h n
  | 0, _ => rfl
  | n + 1, e => by
    show q_sum f n + f n = q_sum h n + h n
    rw [q_sum_cgP n (fun i hi => e i (by omega)), e n (by omega)]
/-- one summand has grown -/
theorem q_sum_one {f h : Nat → Int32} {m : Nat} {x : Int32} (h1 : h m = f m + x) (h2 : ∀ i, i ≠ m → h i = f i) : ∀ n, q_sum h n = if m < n then q_sum f n + x else q_sum f n
  | 0 => by simp [q_sum]
  | n + 1 => by
    show q_sum h n + h n = if m < n + 1 then (q_sum f n + f n) + x else q_sum f n + f n
    rw [q_sum_one h1 h2 n]
    by_cases e : n = m
    · subst e
      rw [if_neg (Nat.lt_irrefl _), if_pos (by omega), h1, Int32.add_assoc]
    · rw [h2 n e]
      by_cases c : m < n
      · rw [if_pos c, if_pos (by omega), Int32.add_assoc, Int32.add_comm x, ← Int32.add_assoc]
      · rw [if_neg c, if_neg (by omega)]
section PI
variable {d M N : Nat} {A B : q_St}
theorem pI.M8 (h : pI d M N A) : M ≤ 8 := h.1.1
theorem pI.hM (h : pI d M N A) : pHM A M := ⟨h.1.2.1, h.1.1⟩
theorem pI.hN (h : pI d M N A) : A 1 1 = nI N := h.1.2.2.1
theorem pI.eN (h : pI d M N A) : N = pD A M := h.1.2.2.2
theorem pI.N8 (h : pI d M N A) : N ≤ 8 := by have := pD_le A M; have := h.M8; have := h.eN; omega
theorem pI.out (h : pI d M N A) {m : Nat} (h1 : M ≤ m) (h8 : m < 8) : A 2 m = 0 ∧ ∀ g, g < 6 → A 5 (m * 6 + g) = 0 := h.2.1 m h1 h8
theorem pI.bool (h : pI d M N A) : q_bool A 1 := h.2.2.1
theorem pI.how (h : pI d M N A) {m : Nat} (hm : m < 8) : A 2 m = 0 ∨ A 2 m = 1 ∨ A 2 m = 2 := h.2.2.2.1 m hm
theorem pI.c (h : pI d M N A) {m g : Nat} (hm : m < 8) (hg : g < 6) : pC A m g := h.2.2.2.2.1 m hm g hg
theorem pI.one (h : pI d M N A) {g m n : Nat} (hg : g < 6) (hm : m < 8) (hn : n < 8) (e1 : A 6 (m * 6 + g) = 1) (e2 : A 6 (n * 6 + g) = 1) : m = n := h.2.2.2.2.2.1 g hg m hm n hn e1 e2
theorem pI.g (h : pI d M N A) {g : Nat} (hg : g < 6) : pG A g := h.2.2.2.2.2.2.1 g hg
theorem pI.book (h : pI d M N A) : (∀ p, p < N → ∃ m, m < M ∧ A 4 p = nI m ∧ A 2 m ≠ 0) ∧ ∀ p q, p < q → q < N → A 4 p ≠ A 4 q := h.2.2.2.2.2.2.2.1
theorem pI.db (h : pI d M N A) {g : Nat} (hg : g < 6) : ∃ n, n ≤ d ∧ A 8 g = nI n := h.2.2.2.2.2.2.2.2 g hg
theorem pI.an0 (h : pI d M N A) {m g : Nat} (hm : m < 8) (hg : g < 6) (ha : A 5 (m * 6 + g) = 0) : A 6 (m * 6 + g) = 0 := (h.c hm hg).2.1 ha
/-- the same in what it looks at -/
theorem pI.cg (h : pI d M N A) (e : ∀ k, 1 ≤ k → k < 10 → ∀ j, j < uC_len (k - 1) → B k j = A k j) : pI d M N B := by
  have e10 : B 1 0 = A 1 0 := e 1 (by decide) (by decide) 0 (by decide)
  have e11 : B 1 1 = A 1 1 := e 1 (by decide) (by decide) 1 (by decide)
  have e15 : B 1 5 = A 1 5 := e 1 (by decide) (by decide) 5 (by decide)
  have e2 : ∀ m, m < 8 → B 2 m = A 2 m := fun m hm => e 2 (by decide) (by decide) m hm
  have e4 : ∀ m, m < 8 → B 4 m = A 4 m := fun m hm => e 4 (by decide) (by decide) m hm
  have e5 : ∀ m, m < 8 → ∀ g, g < 6 → B 5 (m * 6 + g) = A 5 (m * 6 + g) := fun m hm g hg => e 5 (by decide) (by decide) _ (show m * 6 + g < 48 by omega)
  have e6 : ∀ m, m < 8 → ∀ g, g < 6 → B 6 (m * 6 + g) = A 6 (m * 6 + g) := fun m hm g hg => e 6 (by decide) (by decide) _ (show m * 6 + g < 48 by omega)
  have e7 : ∀ g, g < 6 → B 7 g = A 7 g := fun g hg => e 7 (by decide) (by decide) g hg
  have e8 : ∀ g, g < 6 → B 8 g = A 8 g := fun g hg => e 8 (by decide) (by decide) g hg
  have e9 : ∀ g, g < 6 → B 9 g = A 9 g := fun g hg => e 9 (by decide) (by decide) g hg
  have hM8 := h.M8
  have hN8 := h.N8
  refine ⟨⟨hM8, by rw [e10]; exact h.hM.1, by rw [e11]; exact h.hN, ?_⟩, fun m h1 h8 => ⟨by rw [e2 m h8]; exact (h.out h1 h8).1, fun g hg => by rw [e5 m h8 g hg]; exact (h.out h1 h8).2 g hg⟩, ⟨by rw [e15]; exact h.bool.1, fun g hg => by show B 9 g = 0 ∨ B 9 g = 1; rw [e9 g hg]; exact h.bool.2 g hg⟩, fun m h8 => by rw [e2 m h8]; exact h.how h8, fun m h8 g hg => ?_, fun g hg m hm n hn => by rw [e6 m hm g hg, e6 n hn g hg]; exact h.one hg hm hn, fun g hg => ?_, ⟨fun p hp => ?_, fun p q h1 h2 => by rw [e4 p (by omega), e4 q (by omega)]; exact h.book.2 p q h1 h2⟩, fun g hg => by rw [e8 g hg]; exact h.db hg⟩
  · rw [h.eN]
    exact (pD_cg M (fun m hm => e2 m (by omega))).symm
  · unfold pC
    rw [e6 m h8 g hg, e5 m h8 g hg, e2 m h8, e7 g hg]
    exact h.c h8 hg
  · unfold pG
    rw [e7 g hg, q_sum_cgP (f := fun m => uC_fS B m g) (h := fun m => uC_fS A m g) 8 (fun m hm => by simp only [uC_fS]; rw [e6 m hm g hg, e5 m hm g hg])]
    exact h.g hg
  · obtain ⟨m, a1, a2, a3⟩ := h.book.1 p hp
    exact ⟨m, a1, by rw [e4 p (by omega)]; exact a2, by rw [e2 m (by omega)]; exact a3⟩
/-- changes beside what it looks at -/
theorem pI.misc {d' : Nat} (h : pI d M N A) (e : ∀ k, 1 ≤ k → k < 8 → k ≠ 1 → B k = A k) (e10 : B 1 0 = A 1 0) (e11 : B 1 1 = A 1 1) (hb : q_bool B 1) (hd : ∀ g, g < 6 → ∃ n, n ≤ d' ∧ B 8 g = nI n) : pI d' M N B := by
  have e2 := e 2 (by decide) (by decide) (by decide)
  have e4 := e 4 (by decide) (by decide) (by decide)
  have e5 := e 5 (by decide) (by decide) (by decide)
  have e6 := e 6 (by decide) (by decide) (by decide)
  have e7 := e 7 (by decide) (by decide) (by decide)
  obtain ⟨⟨a1, a2, a3, a4⟩, b, _, c, f, g, i, j, _⟩ := h
  refine ⟨⟨a1, e10.trans a2, e11.trans a3, ?_⟩, ?_, hb, ?_, ?_, ?_, ?_, ?_, hd⟩
  · rw [a4]; exact (pD_cg M (fun m _ => by rw [e2])).symm
  · rw [e2, e5]; exact b
  · rw [e2]; exact c
  · unfold pC; rw [e2, e5, e6, e7]; exact f
  · rw [e6]; exact g
  · unfold pG uC_fS; rw [e5, e6, e7]; exact i
  · rw [e4, e2]; exact j
theorem pI.up {d' : Nat} (h : pI d M N A) (hd : d ≤ d') : pI d' M N A := h.misc (fun _ _ _ _ => rfl) rfl rfl h.bool (fun g hg => by obtain ⟨n, h1, h2⟩ := h.db hg; exact ⟨n, by omega, h2⟩)
/-- an answer -/
theorem pI.an (h : pI d M N A) {m g : Nat} {v : Int32} (hm : m < M) (hg : g < 6) (hv : v = 1 ∨ v = 2 ∨ v = 4) (ham : A 5 (m * 6 + g) ≠ 0) (hold : A 6 (m * 6 + g) ≠ 3) (h1 : v = 1 → (∀ n, n < 8 → A 6 (n * 6 + g) = 1 → n = m) ∧ 0 ≤ A 7 g + A 5 (m * 6 + g)) (h2 : v ≠ 1 → A 2 m ≠ 1) : pI d M N (q_p A 6 (m * 6 + g) v) := by
  have hM8 := h.M8
  have k : ∀ j, j ≠ 6 → q_p A 6 (m * 6 + g) v j = A j := fun j hj => pP_k A 6 _ v hj
  have hv3 : v ≠ 3 := by rcases hv with rfl | rfl | rfl <;> decide
  have s : ∀ n o, o < 6 → q_p A 6 (m * 6 + g) v 6 (n * 6 + o) = if n = m ∧ o = g then v else A 6 (n * 6 + o) := fun n o ho => by
    rw [pP_s]
    by_cases c : n = m ∧ o = g
    · rw [if_pos c, if_pos ((pIx hg ho).mpr c)]
    · rw [if_neg c, if_neg (fun q => c ((pIx hg ho).mp q))]
  refine ⟨⟨hM8, by rw [k 1 (by decide)]; exact h.hM.1, by rw [k 1 (by decide)]; exact h.hN, by rw [h.eN]; exact (pD_cg M (fun n _ => by rw [k 2 (by decide)])).symm⟩, by rw [k 2 (by decide), k 5 (by decide)]; exact fun n => h.out, ⟨by rw [k 1 (by decide)]; exact h.bool.1, by show ∀ o, o < 6 → q_p A 6 (m * 6 + g) v 9 o = 0 ∨ q_p A 6 (m * 6 + g) v 9 o = 1; rw [k 9 (by decide)]; exact h.bool.2⟩, by rw [k 2 (by decide)]; exact fun n => h.how, fun n hn o ho => ?_, fun o ho n hn n' hn' => ?_, fun o ho => ?_, by rw [k 4 (by decide), k 2 (by decide)]; exact h.book, by rw [k 8 (by decide)]; exact fun o => h.db⟩
  · unfold pC
    rw [s n o ho, k 5 (by decide), k 2 (by decide), k 7 (by decide)]
    by_cases c : n = m ∧ o = g
    · obtain ⟨rfl, rfl⟩ := c
      rw [if_pos ⟨rfl, rfl⟩]
      have hc := h.c hn ho
      refine ⟨?_, fun q => absurd q ham, hc.2.2.1, fun q _ => ?_, fun q => absurd q hv3, fun q => (h1 q).2⟩
      · rcases hv with rfl | rfl | rfl <;> simp
      · by_cases c1 : v = 1
        · exact Or.inl c1
        · exact absurd q (h2 c1)
    · rw [if_neg c]
      exact h.c hn ho
  · rw [s n o ho, s n' o ho]
    by_cases c : n = m ∧ o = g
    · obtain ⟨rfl, rfl⟩ := c
      rw [if_pos ⟨rfl, rfl⟩]
      by_cases c' : n' = n ∧ o = o
      · exact fun _ _ => c'.1.symm
      · rw [if_neg c']
        exact fun q1 q2 => ((h1 q1).1 n' hn' q2).symm
    · rw [if_neg c]
      by_cases c' : n' = m ∧ o = g
      · obtain ⟨rfl, rfl⟩ := c'
        rw [if_pos ⟨rfl, rfl⟩]
        exact fun q1 q2 => (h1 q2).1 n hn q1
      · rw [if_neg c']
        exact h.one ho hn hn'
  · unfold pG
    rw [k 7 (by decide), q_sum_cgP (f := fun n => uC_fS (q_p A 6 (m * 6 + g) v) n o) (h := fun n => uC_fS A n o) 8 (fun n hn => ?_)]
    · exact h.g ho
    · simp only [uC_fS]
      rw [s n o ho, k 5 (by decide)]
      by_cases c : n = m ∧ o = g
      · obtain ⟨rfl, rfl⟩ := c
        rw [if_pos (show n = n ∧ o = o from ⟨rfl, rfl⟩), if_neg hv3, if_neg hold]
      · rw [if_neg c]
/-- a seal -/
theorem pI.seal (h : pI d M N A) {m g : Nat} (hm : m < M) (hg : g < 6) (h1 : A 6 (m * 6 + g) = 1) (h2 : A 2 m = 1) : pI d M N (uC_seal A m g) := by
  have hM8 := h.M8
  have k : ∀ j, j ≠ 6 → j ≠ 7 → uC_seal A m g j = A j := fun j a b => by
    unfold uC_seal
    rw [pP_k _ _ _ _ b, pP_k _ _ _ _ a]
  have s6 : ∀ n o, o < 6 → uC_seal A m g 6 (n * 6 + o) = if n = m ∧ o = g then 3 else A 6 (n * 6 + o) := fun n o ho => by
    unfold uC_seal
    rw [pP_k _ _ _ _ (by decide), pP_s]
    by_cases c : n = m ∧ o = g
    · rw [if_pos c, if_pos ((pIx hg ho).mpr c)]
    · rw [if_neg c, if_neg (fun q => c ((pIx hg ho).mp q))]
  have s7 : ∀ o, uC_seal A m g 7 o = if o = g then A 7 g + A 5 (m * 6 + g) else A 7 o := fun o => by
    unfold uC_seal
    rw [pP_s, pP_k _ _ _ _ (by decide)]
  have ham : A 5 (m * 6 + g) ≠ 0 := fun q => by
    rw [h.an0 (by omega) hg q] at h1
    exact absurd h1 (by decide)
  have hge := (h.c (m := m) (by omega) hg).2.2.2.2.2 h1
  refine ⟨⟨hM8, by rw [k 1 (by decide) (by decide)]; exact h.hM.1, by rw [k 1 (by decide) (by decide)]; exact h.hN, by rw [h.eN]; exact (pD_cg M (fun n _ => by rw [k 2 (by decide) (by decide)])).symm⟩, by rw [k 2 (by decide) (by decide), k 5 (by decide) (by decide)]; exact fun n => h.out, ⟨by rw [k 1 (by decide) (by decide)]; exact h.bool.1, by show ∀ o, o < 6 → uC_seal A m g 9 o = 0 ∨ uC_seal A m g 9 o = 1; rw [k 9 (by decide) (by decide)]; exact h.bool.2⟩, by rw [k 2 (by decide) (by decide)]; exact fun n => h.how, fun n hn o ho => ?_, fun o ho n hn n' hn' => ?_, fun o ho => ?_, by rw [k 4 (by decide) (by decide), k 2 (by decide) (by decide)]; exact h.book, by rw [k 8 (by decide) (by decide)]; exact fun o => h.db⟩
  · unfold pC
    rw [s6 n o ho, k 5 (by decide) (by decide), k 2 (by decide) (by decide), s7 o]
    by_cases c : n = m ∧ o = g
    · obtain ⟨rfl, rfl⟩ := c
      rw [if_pos ⟨rfl, rfl⟩]
      exact ⟨by simp, fun q => absurd q ham, (h.c hn ho).2.2.1, fun _ _ => Or.inr rfl, fun _ => h2, fun q => absurd q (by decide)⟩
    · rw [if_neg c]
      have hc := h.c hn ho
      refine ⟨hc.1, hc.2.1, hc.2.2.1, hc.2.2.2.1, hc.2.2.2.2.1, fun q => ?_⟩
      have hog : o ≠ g := fun e => c ⟨h.one hg hn (by omega) (e ▸ q) h1, e⟩
      rw [if_neg hog]
      exact hc.2.2.2.2.2 q
  · rw [s6 n o ho, s6 n' o ho]
    by_cases c : n = m ∧ o = g
    · rw [if_pos c]
      exact fun q => absurd q (by decide)
    · rw [if_neg c]
      by_cases c' : n' = m ∧ o = g
      · rw [if_pos c']
        exact fun _ q => absurd q (by decide)
      · rw [if_neg c']
        exact h.one ho hn hn'
  · unfold pG
    rw [s7 o]
    by_cases c : o = g
    · subst c
      rw [if_pos rfl, q_sum_one (f := fun n => uC_fS A n o) (m := m) (x := A 5 (m * 6 + o)) ?_ (fun n hn => ?_) 8, if_pos (by omega), (h.g ho).1]
      · refine ⟨by rw [Int32.add_assoc], ?_⟩
        rw [← (h.g ho).1]
        exact hge
      · simp only [uC_fS]
        rw [s6 m o ho, k 5 (by decide) (by decide), if_pos (show m = m ∧ o = o from ⟨rfl, rfl⟩), if_pos (show (3 : Int32) = 3 from rfl), h1, if_neg (show ¬ (1 : Int32) = 3 by decide), Int32.zero_add]
      · simp only [uC_fS]
        rw [s6 n o ho, k 5 (by decide) (by decide), if_neg (show ¬ (n = m ∧ o = o) from fun q => hn q.1)]
    · rw [if_neg c, q_sum_cgP (f := fun n => uC_fS (uC_seal A m g) n o) (h := fun n => uC_fS A n o) 8 (fun n hn => ?_)]
      · exact h.g ho
      · simp only [uC_fS]
        rw [s6 n o ho, k 5 (by decide) (by decide), if_neg (show ¬ (n = m ∧ o = g) from fun q => c q.2)]
/-- an amount, before anyone has an answer -/
theorem pI.am (h : pI d M N A) {m g : Nat} {a : Int32} (hm : m < M) (hg : g < 6) (ha : -50 ≤ a ∧ a ≤ 50) (h0 : A 2 m = 0) (hn0 : ∀ o, o < 6 → A 6 (m * 6 + o) = 0) : pI d M N (q_p A 5 (m * 6 + g) a) := by
  have hM8 := h.M8
  have k : ∀ j, j ≠ 5 → q_p A 5 (m * 6 + g) a j = A j := fun j hj => pP_k A 5 _ a hj
  have s : ∀ n o, o < 6 → q_p A 5 (m * 6 + g) a 5 (n * 6 + o) = if n = m ∧ o = g then a else A 5 (n * 6 + o) := fun n o ho => by
    rw [pP_s]
    by_cases c : n = m ∧ o = g
    · rw [if_pos c, if_pos ((pIx hg ho).mpr c)]
    · rw [if_neg c, if_neg (fun q => c ((pIx hg ho).mp q))]
  refine ⟨⟨hM8, by rw [k 1 (by decide)]; exact h.hM.1, by rw [k 1 (by decide)]; exact h.hN, by rw [h.eN]; exact (pD_cg M (fun n _ => by rw [k 2 (by decide)])).symm⟩, fun n h1 h8 => ⟨by rw [k 2 (by decide)]; exact (h.out h1 h8).1, fun o ho => by rw [s n o ho, if_neg (by omega)]; exact (h.out h1 h8).2 o ho⟩, ⟨by rw [k 1 (by decide)]; exact h.bool.1, by show ∀ o, o < 6 → q_p A 5 (m * 6 + g) a 9 o = 0 ∨ q_p A 5 (m * 6 + g) a 9 o = 1; rw [k 9 (by decide)]; exact h.bool.2⟩, by rw [k 2 (by decide)]; exact fun n => h.how, fun n hn o ho => ?_, by rw [k 6 (by decide)]; exact fun o ho n hn n' hn' => h.one ho hn hn', fun o ho => ?_, by rw [k 4 (by decide), k 2 (by decide)]; exact h.book, by rw [k 8 (by decide)]; exact fun o => h.db⟩
  · unfold pC
    rw [s n o ho, k 6 (by decide), k 2 (by decide), k 7 (by decide)]
    by_cases c : n = m ∧ o = g
    · obtain ⟨rfl, rfl⟩ := c
      rw [if_pos ⟨rfl, rfl⟩, hn0 o ho, h0]
      exact ⟨Or.inl rfl, fun _ => rfl, ha, fun q => absurd q (by decide), fun q => absurd q (by decide), fun q => absurd q (by decide)⟩
    · rw [if_neg c]
      exact h.c hn ho
  · unfold pG
    rw [k 7 (by decide), q_sum_cgP (f := fun n => uC_fS (q_p A 5 (m * 6 + g) a) n o) (h := fun n => uC_fS A n o) 8 (fun n hn => ?_)]
    · exact h.g ho
    · simp only [uC_fS]
      rw [s n o ho, k 6 (by decide)]
      by_cases c : n = m ∧ o = g
      · obtain ⟨rfl, rfl⟩ := c
        rw [hn0 o ho, if_neg (by decide), if_neg (by decide)]
      · rw [if_neg c]
/-- a decision in the book -/
theorem pI.bk (h : pI d M N A) {m : Nat} {v : Int32} (hm : m < M) (h0 : A 2 m = 0) (hv : v = 1 ∨ v = 2) (h1 : v = 1 → ∀ g, g < 6 → A 5 (m * 6 + g) ≠ 0 → A 6 (m * 6 + g) = 1) : pI d M (N + 1) (uC_book A m N v) := by
  have hM8 := h.M8
  have hN : N < M := by rw [h.eN]; exact pD_lt h0 M hm
  have hv0 : v ≠ 0 := by rcases hv with rfl | rfl <;> decide
  have k : ∀ j, j ≠ 1 → j ≠ 2 → j ≠ 4 → uC_book A m N v j = A j := fun j a b c => by
    unfold uC_book
    rw [pP_k _ _ _ _ a, pP_k _ _ _ _ c, pP_k _ _ _ _ b]
  have s1 : ∀ j, j ≠ 1 → uC_book A m N v 1 j = A 1 j := fun j hj => by
    unfold uC_book
    rw [pP_s, if_neg hj, pP_k _ _ _ _ (by decide), pP_k _ _ _ _ (by decide)]
  have s11 : uC_book A m N v 1 1 = nI (N + 1) := by
    unfold uC_book
    rw [pP_s, if_pos rfl]
  have s2 : ∀ n, uC_book A m N v 2 n = if n = m then v else A 2 n := fun n => by
    unfold uC_book
    rw [pP_k _ _ _ _ (by decide), pP_k _ _ _ _ (by decide), pP_s]
  have s4 : ∀ p, uC_book A m N v 4 p = if p = N then nI m else A 4 p := fun p => by
    unfold uC_book
    rw [pP_k _ _ _ _ (by decide), pP_s, pP_k _ _ _ _ (by decide)]
  have k9 := k 9 (by decide) (by decide) (by decide)
  refine ⟨⟨hM8, by rw [s1 0 (by decide)]; exact h.hM.1, s11, ?_⟩, fun n a b => ⟨by rw [s2, if_neg (by omega)]; exact (h.out a b).1, by rw [k 5 (by decide) (by decide) (by decide)]; exact (h.out a b).2⟩, ⟨by rw [s1 5 (by decide)]; exact h.bool.1, by show ∀ o, o < 6 → uC_book A m N v 9 o = 0 ∨ uC_book A m N v 9 o = 1; rw [k9]; exact h.bool.2⟩, fun n hn => ?_, fun n hn o ho => ?_, by rw [k 6 (by decide) (by decide) (by decide)]; exact fun o ho n hn n' hn' => h.one ho hn hn', ?_, ⟨fun p hp => ?_, fun p q a b => ?_⟩, by rw [k 8 (by decide) (by decide) (by decide)]; exact fun o => h.db⟩
  · rw [show pD (uC_book A m N v) M = pD (q_p A 2 m v) M from pD_cg M (fun n _ => by rw [s2, pP_s]), pD_set h0 hv0 M, if_pos hm, ← h.eN]
  · rw [s2]
    by_cases c : n = m
    · rw [if_pos c]; exact Or.inr hv
    · rw [if_neg c]; exact h.how hn
  · unfold pC
    rw [k 6 (by decide) (by decide) (by decide), k 5 (by decide) (by decide) (by decide), k 7 (by decide) (by decide) (by decide), s2]
    have hc := h.c hn ho
    by_cases c : n = m
    · subst c
      rw [if_pos rfl]
      refine ⟨hc.1, hc.2.1, hc.2.2.1, fun q1 q2 => Or.inl (h1 q1 o ho q2), fun q => ?_, hc.2.2.2.2.2⟩
      have := hc.2.2.2.2.1 q
      rw [h0] at this
      exact absurd this (by decide)
    · rw [if_neg c]
      exact hc
  · unfold pG uC_fS
    rw [k 7 (by decide) (by decide) (by decide), k 6 (by decide) (by decide) (by decide), k 5 (by decide) (by decide) (by decide)]
    exact fun o => h.g
  · rw [s4]
    by_cases c : p = N
    · rw [if_pos c]
      exact ⟨m, hm, rfl, by rw [s2, if_pos rfl]; exact hv0⟩
    · rw [if_neg c]
      obtain ⟨n, a1, a2, a3⟩ := h.book.1 p (by omega)
      refine ⟨n, a1, a2, ?_⟩
      rw [s2]
      by_cases c2 : n = m
      · rw [if_pos c2]; exact hv0
      · rw [if_neg c2]; exact a3
  · rw [s4, s4, if_neg (show p ≠ N by omega)]
    by_cases c : q = N
    · rw [if_pos c]
      obtain ⟨n, a1, a2, a3⟩ := h.book.1 p (by omega)
      rw [a2]
      intro e
      have e2 := (nI_eq (by omega) (by omega)).mp e
      rw [e2] at a3
      exact a3 h0
    · rw [if_neg c]
      exact h.book.2 p q a (by omega)
/-- a new matter -/
theorem pI.new (h : pI d M N A) (hM : M < 8) (x : Int32) : pI d (M + 1) N (q_p (q_p A 3 M x) 1 0 (nI (M + 1))) := by
  have k : ∀ j, j ≠ 1 → j ≠ 3 → q_p (q_p A 3 M x) 1 0 (nI (M + 1)) j = A j := fun j a b => by rw [pP_k _ _ _ _ a, pP_k _ _ _ _ b]
  have s1 : ∀ j, j ≠ 0 → q_p (q_p A 3 M x) 1 0 (nI (M + 1)) 1 j = A 1 j := fun j hj => by rw [pP_s, if_neg hj, pP_k _ _ _ _ (by decide)]
  have k2 := k 2 (by decide) (by decide)
  have k9 := k 9 (by decide) (by decide)
  refine ⟨⟨by omega, by rw [pP_s, if_pos rfl], by rw [s1 1 (by decide)]; exact h.hN, ?_⟩, fun n a b => by rw [k2, k 5 (by decide) (by decide)]; exact h.out (by omega) b, ⟨by rw [s1 5 (by decide)]; exact h.bool.1, by show ∀ o, o < 6 → q_p (q_p A 3 M x) 1 0 (nI (M + 1)) 9 o = 0 ∨ q_p (q_p A 3 M x) 1 0 (nI (M + 1)) 9 o = 1; rw [k9]; exact h.bool.2⟩, by rw [k2]; exact fun n => h.how, ?_, by rw [k 6 (by decide) (by decide)]; exact fun o ho n hn n' hn' => h.one ho hn hn', ?_, ⟨fun p hp => ?_, by rw [k 4 (by decide) (by decide)]; exact h.book.2⟩, by rw [k 8 (by decide) (by decide)]; exact fun o => h.db⟩
  · rw [pD_cg (A := A) (M + 1) (fun n _ => by rw [k2]), h.eN]
    rw [pD, if_pos (h.out (Nat.le_refl _) hM).1]
  · unfold pC
    rw [k 6 (by decide) (by decide), k 5 (by decide) (by decide), k 7 (by decide) (by decide), k2]
    exact fun n hn o ho => h.c hn ho
  · unfold pG uC_fS
    rw [k 7 (by decide) (by decide), k 6 (by decide) (by decide), k 5 (by decide) (by decide)]
    exact fun o => h.g
  · rw [k 4 (by decide) (by decide), k2]
    obtain ⟨n, a1, a2, a3⟩ := h.book.1 p hp
    exact ⟨n, by omega, a2, a3⟩
end PI
