
/-! the class's numbers and the reference's row -/
def uD (r : Nat → Int32) : Nat → Nat
  | 0 => 0
  | m + 1 => if r (32 + 14 * m) = 0 then uD r m else uD r m + 1
def uE (f : Nat → Nat → Int32) (r : Nat → Int32) : Prop :=
  (f 0 0 = r 0 ∧ f 0 1 = r 5 ∧ f 0 2 = r 2 ∧ f 0 3 = r 3 ∧ f 0 4 = r 4 ∧ f 0 5 = 1 - r 1) ∧
  (∀ m, m < 8 → f 1 m = r (32 + 14 * m) ∧ f 2 m = r (32 + 14 * m + 1)) ∧ (∀ p, p < 8 → f 3 p = r (24 + p)) ∧
  (∀ m, m < 8 → ∀ g, g < 6 → f 4 (m * 6 + g) = r (32 + 14 * m + 2 + g) ∧ f 5 (m * 6 + g) = r (32 + 14 * m + 8 + g)) ∧
  ∀ g, g < 6 → f 6 g = r (6 + g) ∧ f 7 g = r (18 + g) ∧ f 8 g = 1 - r (12 + g)
def uSl (r : Nat → Int32) (m g : Nat) : Int32 := if r (32 + 14 * m + 8 + g) = 3 then r (32 + 14 * m + 2 + g) else 0
/-- what holds of a row: how many matters, .. -/
def uI (d M : Nat) (r : Nat → Int32) : Prop :=
  M ≤ 8 ∧ r 0 = nI M ∧ r 5 = nI (uD r M) ∧ (∀ m, M ≤ m → m < 8 → ∀ j, j < 14 → r (32 + 14 * m + j) = 0) ∧
  (r 1 = 0 ∨ r 1 = 1) ∧ (∀ g, g < 6 → r (12 + g) = 0 ∨ r (12 + g) = 1) ∧
  (∀ m, m < 8 → r (32 + 14 * m) = 0 ∨ r (32 + 14 * m) = 1 ∨ r (32 + 14 * m) = 2) ∧
  (∀ m, m < 8 → ∀ g, g < 6 → (r (32 + 14 * m + 8 + g) = 0 ∨ r (32 + 14 * m + 8 + g) = 1 ∨ r (32 + 14 * m + 8 + g) = 2 ∨ r (32 + 14 * m + 8 + g) = 3 ∨ r (32 + 14 * m + 8 + g) = 4) ∧ (r (32 + 14 * m + 2 + g) = 0 → r (32 + 14 * m + 8 + g) = 0) ∧ -50 ≤ r (32 + 14 * m + 2 + g) ∧ r (32 + 14 * m + 2 + g) ≤ 50) ∧
  q_sum (fun g => r (6 + g)) 6 = 120 + q_sum (fun m => q_sum (uSl r m) 6) 8 ∧
  (∀ g, g < 6 → ∀ m, m < 8 → ∀ n, n < 8 → r (32 + 14 * m + 8 + g) = 1 → r (32 + 14 * n + 8 + g) = 1 → m = n) ∧
  ∀ g, g < 6 → ∃ n, n ≤ d ∧ r (18 + g) = nI n
def uT (d M : Nat) (A B : q_St) : Prop := uE (fun k => A (1 + k)) (B 113) ∧ uI d M (B 113)
section UT
variable {d M : Nat} {A B : q_St}
theorem uT.M8 (h : uT d M A B) : M ≤ 8 := h.2.1
theorem uT.hM (h : uT d M A B) : B 113 0 = nI M := h.2.2.1
theorem uT.hMA (h : uT d M A B) : A 1 0 = nI M := (show A 1 0 = B 113 0 from h.1.1.1).trans h.hM
theorem uT.hN (h : uT d M A B) : B 113 5 = nI (uD (B 113) M) := h.2.2.2.1
theorem uT.hNA (h : uT d M A B) : A 1 1 = nI (uD (B 113) M) := (show A 1 1 = B 113 5 from h.1.1.2.1).trans h.hN
theorem uT.hour (h : uT d M A B) : A 1 2 = B 113 2 := h.1.1.2.2.1
theorem uT.inq (h : uT d M A B) : A 1 3 = B 113 3 := h.1.1.2.2.2.1
theorem uT.fts (h : uT d M A B) : A 1 4 = B 113 4 := h.1.1.2.2.2.2.1
theorem uT.awk (h : uT d M A B) : A 1 5 = 1 - B 113 1 := h.1.1.2.2.2.2.2
theorem uT.r1 (h : uT d M A B) : B 113 1 = 0 ∨ B 113 1 = 1 := h.2.2.2.2.2.1
theorem uT.how (h : uT d M A B) {m : Nat} (hm : m < 8) : A 2 m = B 113 (32 + 14 * m) := (h.1.2.1 m hm).1
theorem uT.made (h : uT d M A B) {m : Nat} (hm : m < 8) : A 3 m = B 113 (32 + 14 * m + 1) := (h.1.2.1 m hm).2
theorem uT.book (h : uT d M A B) {p : Nat} (hp : p < 8) : A 4 p = B 113 (24 + p) := h.1.2.2.1 p hp
theorem uT.am (h : uT d M A B) {m g : Nat} (hm : m < 8) (hg : g < 6) : A 5 (m * 6 + g) = B 113 (32 + 14 * m + 2 + g) := (h.1.2.2.2.1 m hm g hg).1
theorem uT.an (h : uT d M A B) {m g : Nat} (hm : m < 8) (hg : g < 6) : A 6 (m * 6 + g) = B 113 (32 + 14 * m + 8 + g) := (h.1.2.2.2.1 m hm g hg).2
theorem uT.coin (h : uT d M A B) {g : Nat} (hg : g < 6) : A 7 g = B 113 (6 + g) := (h.1.2.2.2.2 g hg).1
theorem uT.dbt (h : uT d M A B) {g : Nat} (hg : g < 6) : A 8 g = B 113 (18 + g) := (h.1.2.2.2.2 g hg).2.1
theorem uT.slp (h : uT d M A B) {g : Nat} (hg : g < 6) : A 9 g = 1 - B 113 (12 + g) := (h.1.2.2.2.2 g hg).2.2
theorem uT.r12 (h : uT d M A B) {g : Nat} (hg : g < 6) : B 113 (12 + g) = 0 ∨ B 113 (12 + g) = 1 := h.2.2.2.2.2.2.1 g hg
theorem uT.how3 (h : uT d M A B) {m : Nat} (hm : m < 8) : B 113 (32 + 14 * m) = 0 ∨ B 113 (32 + 14 * m) = 1 ∨ B 113 (32 + 14 * m) = 2 := h.2.2.2.2.2.2.2.1 m hm
theorem uT.an5 (h : uT d M A B) {m g : Nat} (hm : m < 8) (hg : g < 6) : B 113 (32 + 14 * m + 8 + g) = 0 ∨ B 113 (32 + 14 * m + 8 + g) = 1 ∨ B 113 (32 + 14 * m + 8 + g) = 2 ∨ B 113 (32 + 14 * m + 8 + g) = 3 ∨ B 113 (32 + 14 * m + 8 + g) = 4 := (h.2.2.2.2.2.2.2.2.1 m hm g hg).1
theorem uT.am0 (h : uT d M A B) {m g : Nat} (hm : m < 8) (hg : g < 6) : B 113 (32 + 14 * m + 2 + g) = 0 → B 113 (32 + 14 * m + 8 + g) = 0 := (h.2.2.2.2.2.2.2.2.1 m hm g hg).2.1
theorem uT.am50 (h : uT d M A B) {m g : Nat} (hm : m < 8) (hg : g < 6) : -50 ≤ B 113 (32 + 14 * m + 2 + g) ∧ B 113 (32 + 14 * m + 2 + g) ≤ 50 := (h.2.2.2.2.2.2.2.2.1 m hm g hg).2.2
theorem uT.zero (h : uT d M A B) {m : Nat} (h1 : M ≤ m) (hm : m < 8) {j : Nat} (hj : j < 14) : B 113 (32 + 14 * m + j) = 0 := h.2.2.2.2.1 m h1 hm j hj
theorem uT.sum (h : uT d M A B) : q_sum (fun g => B 113 (6 + g)) 6 = 120 + q_sum (fun m => q_sum (uSl (B 113) m) 6) 8 := h.2.2.2.2.2.2.2.2.2.1
theorem uT.one (h : uT d M A B) {g m n : Nat} (hg : g < 6) (hm : m < 8) (hn : n < 8) (e1 : B 113 (32 + 14 * m + 8 + g) = 1) (e2 : B 113 (32 + 14 * n + 8 + g) = 1) : m = n := h.2.2.2.2.2.2.2.2.2.2.1 g hg m hm n hn e1 e2
theorem uT.db (h : uT d M A B) {g : Nat} (hg : g < 6) : ∃ n, n ≤ d ∧ B 113 (18 + g) = nI n := h.2.2.2.2.2.2.2.2.2.2.2 g hg
theorem uT.isA (h : uT d M A B) : A 1 5 = 0 ↔ B 113 1 = 1 := by
  rw [h.awk]
  rcases h.r1 with e | e <;> rw [e] <;> decide
theorem uT.isA' (h : uT d M A B) : A 1 5 ≠ 0 ↔ B 113 1 = 0 := by
  rw [h.awk]
  rcases h.r1 with e | e <;> rw [e] <;> decide
theorem uT.isS (h : uT d M A B) {g : Nat} (hg : g < 6) : A 9 g = 0 ↔ B 113 (12 + g) = 1 := by
  rw [h.slp hg]
  rcases h.r12 hg with e | e <;> rw [e] <;> decide
theorem uT.bool (h : uT d M A B) : q_bool A 1 := by
  refine ⟨?_, fun g hg => ?_⟩
  · rw [h.awk]
    rcases h.r1 with e | e <;> rw [e] <;> decide
  · show A 9 g = 0 ∨ A 9 g = 1
    rw [h.slp hg]
    rcases h.r12 hg with e | e <;> rw [e] <;> decide
theorem uI_alc (a b c : Int32) : a + (b + c) = b + (a + c) := by rw [← Int32.add_assoc, Int32.add_comm a b, Int32.add_assoc]
theorem q_sum_sub (f g : Nat → Int32) : ∀ n, q_sum f n - q_sum g n = q_sum (fun i => f i - g i) n
  | 0 => by show (0 : Int32) - 0 = 0; decide
  | n + 1 => by
    show (q_sum f n + f n) - (q_sum g n + g n) = q_sum (fun i => f i - g i) n + (f n - g n)
    rw [← q_sum_sub f g n]
    generalize q_sum f n = a
    generalize q_sum g n = b
    generalize f n = x
    generalize g n = y
    simp only [Int32.sub_eq_add_neg, Int32.neg_add, Int32.add_assoc]
    rw [uI_alc x (-b) (-y)]
theorem q_sum_plus (f g : Nat → Int32) : ∀ n, q_sum f n + q_sum g n = q_sum (fun i => f i + g i) n
  | 0 => rfl
  | n + 1 => by
    show (q_sum f n + f n) + (q_sum g n + g n) = q_sum (fun i => f i + g i) n + (f n + g n)
    rw [← q_sum_plus f g n]
    generalize q_sum f n = a
    generalize q_sum g n = b
    generalize f n = x
    generalize g n = y
    simp only [Int32.add_assoc]
    rw [uI_alc x b y]
theorem uT.guilds (h : uT d M A B) {m : Nat} (hm : m < 8) : uC_guilds A m = uM_cnt B m 0 4 := by
  refine q_sum_cg 6 (fun g hg => ?_)
  unfold uC_fG uM_f
  rw [h.am hm hg]
  by_cases e : B 113 (32 + 14 * m + 2 + g) = 0
  · rw [if_pos e, if_neg (fun q => q.1 e)]
  · have e5 : 0 ≤ B 113 (32 + 14 * m + 8 + g) ∧ B 113 (32 + 14 * m + 8 + g) ≤ 4 := by
      rcases h.an5 hm hg with q | q | q | q | q <;> rw [q] <;> decide
    rw [if_neg e, if_pos ⟨e, e5⟩]
theorem uT.ans (h : uT d M A B) {m : Nat} (hm : m < 8) (a : Int32) : uC_ans A m a = uM_cnt B m a a := by
  refine q_sum_cg 6 (fun g hg => ?_)
  unfold uC_fA uM_f
  rw [h.am hm hg, h.an hm hg]
  by_cases e : B 113 (32 + 14 * m + 2 + g) ≠ 0 ∧ B 113 (32 + 14 * m + 8 + g) = a
  · rw [if_pos e, if_pos ⟨e.1, by rw [e.2]; exact ⟨Int32.le_refl _, Int32.le_refl _⟩⟩]
  · rw [if_neg e, if_neg (fun q => e ⟨q.1, Int32.le_antisymm q.2.2 q.2.1⟩)]
theorem uT.answered (h : uT d M A B) {m : Nat} (hm : m < 8) : uC_answered A m = uM_cnt B m 1 4 := by
  unfold uC_answered
  rw [h.guilds hm, h.ans hm 0]
  unfold uM_cnt
  rw [q_sum_sub]
  refine q_sum_cg 6 (fun g hg => ?_)
  unfold uM_f
  by_cases e : B 113 (32 + 14 * m + 2 + g) = 0
  · simp [e]
  · simp only [ne_eq, e, not_false_eq_true, true_and]
    rcases h.an5 hm hg with q | q | q | q | q <;> rw [q] <;> decide
theorem uT.heard (h : uT d M A B) {m : Nat} (hm : m < 8) : uC_heard A m = uM_cnt B m 3 4 := by
  unfold uC_heard
  rw [h.ans hm 3, h.ans hm 4]
  unfold uM_cnt
  rw [q_sum_plus]
  refine q_sum_cg 6 (fun g hg => ?_)
  unfold uM_f
  by_cases e : B 113 (32 + 14 * m + 2 + g) = 0
  · simp [e]
  · simp only [ne_eq, e, not_false_eq_true, true_and]
    rcases h.an5 hm hg with q | q | q | q | q <;> rw [q] <;> decide
theorem uT.sumA (h : uT d M A B) {m : Nat} (hm : m < 8) : uC_sumA A m = uM_sumA B m := q_sum_cg 6 (fun g hg => h.am hm hg)
theorem q_find_cg {P Q : Nat → Bool} : ∀ n i, (∀ j, i ≤ j → j < i + n → P j = Q j) → q_find P n i = q_find Q n i
  | 0, _, _ => rfl
  | n + 1, i, h => by
    rw [q_find, q_find, h i (Nat.le_refl _) (by omega), q_find_cg n (i + 1) (fun j h1 h2 => h j (by omega) (by omega))]
theorem q_first_cg {P Q : Nat → Bool} : ∀ n i, (∀ j, i ≤ j → j < i + n → P j = Q j) → q_first P n i = q_first Q n i
  | 0, _, _ => rfl
  | n + 1, i, h => by
    rw [q_first, q_first, h i (Nat.le_refl _) (by omega), q_first_cg n (i + 1) (fun j h1 h2 => h j (by omega) (by omega))]
theorem uT.an1 (h : uT d M A B) {m g : Nat} (hm : m < 8) (hg : g < 6) {a : Int32} (ha : a ≠ 0) : A 6 (m * 6 + g) = a ↔ B 113 (32 + 14 * m + 2 + g) ≠ 0 ∧ B 113 (32 + 14 * m + 8 + g) = a := by
  rw [h.an hm hg]
  exact ⟨fun e => ⟨fun z => ha (e.symm.trans (h.am0 hm hg z)), e⟩, fun e => e.2⟩
theorem uT.doubt (h : uT d M A B) {g : Nat} (hg : g < 6) : uC_doubt A M g = uM_doubt B M g := by
  refine q_find_cg M 0 (fun j _ hj => ?_)
  unfold uM_pD
  exact decide_eq_decide.mpr (h.an1 (by have := h.M8; omega) hg (by decide))
theorem uT.matters (h : uT d M A B) (st : Int32) : uC_matters A M st = uM_matters B M st := by
  refine q_sum_cg M (fun m hm => ?_)
  unfold uC_fM uM_fM
  rw [h.how (by have := h.M8; omega)]
theorem uT.mattersOf (h : uT d M A B) {g : Nat} (hg : g < 6) {a : Int32} (ha : a ≠ 0) : uC_mattersOf A M g a = uM_mattersOf B M g a := by
  refine q_sum_cg M (fun m hm => ?_)
  unfold uC_fMo uM_fMo
  have := h.an1 (m := m) (g := g) (by have := h.M8; omega) hg ha
  by_cases e : A 6 (m * 6 + g) = a
  · rw [if_pos e, if_pos (this.mp e)]
  · rw [if_neg e, if_neg (fun q => e (this.mpr q))]
theorem uT.heardAll (h : uT d M A B) : uC_heardAll A M = uM_heard B M := by
  refine q_sum_cg M (fun m hm => ?_)
  have hm8 : m < 8 := by have := h.M8; omega
  unfold uC_fH uM_fH
  rw [h.guilds hm8, h.heard hm8]
theorem uT.awake (h : uT d M A B) : uC_awake A = uM_awake B := by
  refine q_sum_cg 6 (fun g hg => ?_)
  unfold uC_fW uM_fW
  by_cases e : A 9 g = 0
  · rw [if_pos e, if_pos ((h.isS hg).mp e)]
  · rw [if_neg e, if_neg (fun q => e ((h.isS hg).mpr q))]
theorem uM_dneg (S : q_St) (M g : Nat) (hM : M ≤ 8) : uM_doubt S M g < 0 ↔ uM_doubt S M g = -1 := by
  rcases uM_doubt_cs S M g with e | ⟨n, h1, h2, -, -⟩
  · rw [e]; decide
  · rw [h2]
    exact ⟨fun q => absurd q (nI_pos (by omega)), fun q => absurd q (uC_dne (by omega))⟩
theorem uT.inDoubt (h : uT d M A B) : uC_inDoubt A M = uM_inDoubt B M := by
  refine q_sum_cg 6 (fun g hg => ?_)
  unfold uC_fD uM_fD
  rw [h.doubt hg]
  by_cases e : uM_doubt B M g = -1
  · rw [if_pos e, if_pos ((uM_dneg B M g h.M8).mpr e)]
  · rw [if_neg e, if_neg (fun q => e ((uM_dneg B M g h.M8).mp q))]
theorem uT.hours (h : uT d M A B) : uC_allDoubt A = uM_hours B := q_sum_cg 6 (fun g hg => h.dbt hg)
theorem uT.coins (h : uT d M A B) : uC_coins A = uM_coins B := q_sum_cg 6 (fun g hg => h.coin hg)
theorem uT.would (h : uT d M A B) {m g : Nat} (hm : m < 8) (hg : g < 6) : uC_would A M m g ↔ uM_would B M m g := by
  show (uC_doubt A M g = -1 ∧ 0 ≤ A 7 g + A 5 (m * 6 + g)) ↔ (uM_doubt B M g < 0 ∧ 0 ≤ B 113 (6 + g) + B 113 (32 + 14 * m + 2 + g))
  rw [h.doubt hg, h.coin hg, h.am hm hg, uM_dneg B M g h.M8]
theorem uT.opposed (h : uT d M A B) {m : Nat} (hm : m < 8) : uC_opposed A m ↔ uM_opp B m := by
  show 0 < uC_ans A m 2 + uC_ans A m 4 ↔ 0 < uM_cnt B m 2 2 + uM_cnt B m 4 4
  rw [h.ans hm 2, h.ans hm 4]
theorem uT.first (h : uT d M A B) {m : Nat} (hm : m < 8) : uC_first A m = uM_first B m := by
  refine q_first_cg 6 0 (fun g _ hg => ?_)
  unfold uC_pFirst uM_pF
  rw [h.am hm (by omega), h.an hm (by omega)]
theorem uT.sealed (h : uT d M A B) {m g : Nat} (hm : m < 8) (hg : g < 6) : uC_fS A m g = uSl (B 113) m g := by
  unfold uC_fS uSl
  rw [h.am hm hg, h.an hm hg]
theorem uT.sealedM (h : uT d M A B) {m g : Nat} (hm : m < 8) (hg : g < 6) : uM_fS B m g = uSl (B 113) m g := by
  unfold uM_fS uSl
  by_cases e : B 113 (32 + 14 * m + 8 + g) = 3
  · by_cases z : B 113 (32 + 14 * m + 2 + g) = 0
    · rw [if_neg (fun q => q.1 z), if_pos e, z]
    · rw [if_pos ⟨z, e⟩, if_pos e]
  · rw [if_neg (fun q => e q.2), if_neg e]
theorem q_sum_0 {f : Nat → Int32} : ∀ n, (∀ i, i < n → f i = 0) → q_sum f n = 0
  | 0, _ => rfl
  | n + 1, h => by
    show q_sum f n + f n = 0
    rw [q_sum_0 n (fun i hi => h i (by omega)), h n (by omega)]
    rfl
theorem q_sum_tail {f : Nat → Int32} {M : Nat} : ∀ k, (∀ i, M ≤ i → i < M + k → f i = 0) → q_sum f (M + k) = q_sum f M
  | 0, _ => rfl
  | k + 1, h => by
    show q_sum f (M + k) + f (M + k) = q_sum f M
    rw [h (M + k) (by omega) (by omega), q_sum_tail k (fun i h1 h2 => h i h1 (by omega)), Int32.add_zero]
theorem uT.sum8 (h : uT d M A B) : q_sum (fun m => q_sum (uSl (B 113) m) 6) 8 = q_sum (fun m => q_sum (uSl (B 113) m) 6) M := by
  have hM := h.M8
  obtain ⟨k, hk⟩ : ∃ k, 8 = M + k := ⟨8 - M, by omega⟩
  rw [hk]
  refine q_sum_tail k (fun i h1 h2 => q_sum_0 6 (fun g hg => ?_))
  unfold uSl
  have e : B 113 (32 + 14 * i + 8 + g) = 0 := by rw [Nat.add_assoc]; exact h.zero h1 (by omega) (by omega)
  rw [e]
  rfl
theorem uT.coinsS (h : uT d M A B) : uC_coinsS A M = uM_coins B := by
  unfold uC_coinsS uM_coins
  rw [h.sum, h.sum8]
  exact congrArg (fun z => (120 : Int32) + z) (q_sum_cg M (fun m hm => q_sum_cg 6 (fun g hg => h.sealed (by have := h.M8; omega) hg)))
theorem uT.coinsM (h : uT d M A B) : uM_coinsS B M = uM_coins B := by
  unfold uM_coinsS uM_coins
  rw [h.sum, h.sum8]
  exact congrArg (fun z => (120 : Int32) + z) (q_sum_cg M (fun m hm => q_sum_cg 6 (fun g hg => h.sealedM (by have := h.M8; omega) hg)))
end UT
