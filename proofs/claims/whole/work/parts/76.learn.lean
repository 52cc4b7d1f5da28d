
/-! what can be learned without the herald, in both ways; isWell -/
theorem q_some_iff {P : Nat → Bool} : ∀ n i, q_some P n i = true ↔ ∃ j, i ≤ j ∧ j < i + n ∧ P j = true
  | 0, i => ⟨fun h => Bool.noConfusion h, fun ⟨j, h1, h2, _⟩ => absurd h2 (by omega)⟩
  | n + 1, i => by
    show (if P i = true then true else q_some P n (i + 1)) = true ↔ _
    by_cases c : P i = true
    · rw [if_pos c]; exact ⟨fun _ => ⟨i, Nat.le_refl _, by omega, c⟩, fun _ => rfl⟩
    · rw [if_neg c, q_some_iff n (i + 1)]
      constructor
      · rintro ⟨j, h1, h2, h3⟩; exact ⟨j, by omega, by omega, h3⟩
      · rintro ⟨j, h1, h2, h3⟩
        have : j ≠ i := fun e => c (e ▸ h3)
        exact ⟨j, by omega, by omega, h3⟩
theorem q_upto_iff {P : Nat → Bool} : ∀ n, q_upto P n = true ↔ ∃ j, j < n ∧ P j = true
  | 0 => ⟨fun h => Bool.noConfusion h, fun ⟨j, h1, _⟩ => absurd h1 (by omega)⟩
  | n + 1 => by
    show (q_upto P n || P n) = true ↔ _
    rw [Bool.or_eq_true, q_upto_iff n]
    constructor
    · rintro (⟨j, h1, h2⟩ | h)
      · exact ⟨j, by omega, h2⟩
      · exact ⟨n, by omega, h⟩
    · rintro ⟨j, h1, h2⟩
      by_cases e : j = n
      · exact Or.inr (e ▸ h2)
      · exact Or.inl ⟨j, by omega, h2⟩
def uB6 (a0 a1 a2 a3 a4 a5 : Bool) : Int32 := ((((((0 : Int32) ||| (if a0 = true then 1 <<< (nI 0 &&& 31) else 0)) ||| (if a1 = true then 1 <<< (nI 1 &&& 31) else 0)) ||| (if a2 = true then 1 <<< (nI 2 &&& 31) else 0)) ||| (if a3 = true then 1 <<< (nI 3 &&& 31) else 0)) ||| (if a4 = true then 1 <<< (nI 4 &&& 31) else 0)) ||| (if a5 = true then 1 <<< (nI 5 &&& 31) else 0)
def uBs (p : Nat → Bool) : Int32 := uB6 (p 0) (p 1) (p 2) (p 3) (p 4) (p 5)
theorem uBs_of (f : Nat → Int32) (p : Nat → Bool) (h : ∀ i, i < 6 → f i = if p i = true then 1 <<< (nI i &&& 31) else 0) : q_ors f 6 = uBs p := by
  show ((((((0 : Int32) ||| f 0) ||| f 1) ||| f 2) ||| f 3) ||| f 4) ||| f 5 = _
  rw [h 0 (by omega), h 1 (by omega), h 2 (by omega), h 3 (by omega), h 4 (by omega), h 5 (by omega)]
  rfl
set_option maxRecDepth 100000 in
theorem uB6_and : ∀ a0 a1 a2 a3 a4 a5 b0 b1 b2 b3 b4 b5 : Bool, uB6 a0 a1 a2 a3 a4 a5 &&& uB6 b0 b1 b2 b3 b4 b5 = uB6 (a0 && b0) (a1 && b1) (a2 && b2) (a3 && b3) (a4 && b4) (a5 && b5) := by decide +kernel
set_option maxRecDepth 100000 in
theorem uB6_not : ∀ a0 a1 a2 a3 a4 a5 b0 b1 b2 b3 b4 b5 : Bool, uB6 a0 a1 a2 a3 a4 a5 &&& (uB6 b0 b1 b2 b3 b4 b5 ^^^ (-1)) = uB6 (a0 && !b0) (a1 && !b1) (a2 && !b2) (a3 && !b3) (a4 && !b4) (a5 && !b5) := by decide +kernel
theorem uB6_0 : ∀ a0 a1 a2 a3 a4 a5 : Bool, uB6 a0 a1 a2 a3 a4 a5 ≠ 0 ↔ (a0 = true ∨ a1 = true ∨ a2 = true ∨ a3 = true ∨ a4 = true ∨ a5 = true) := by decide +kernel
theorem uB6_b0 : ∀ a0 a1 a2 a3 a4 a5 : Bool, uB6 a0 a1 a2 a3 a4 a5 &&& ((1 : Int32) <<< (nI 0 &&& 31)) ≠ 0 ↔ a0 = true := by decide +kernel
theorem uB6_b1 : ∀ a0 a1 a2 a3 a4 a5 : Bool, uB6 a0 a1 a2 a3 a4 a5 &&& ((1 : Int32) <<< (nI 1 &&& 31)) ≠ 0 ↔ a1 = true := by decide +kernel
theorem uB6_b2 : ∀ a0 a1 a2 a3 a4 a5 : Bool, uB6 a0 a1 a2 a3 a4 a5 &&& ((1 : Int32) <<< (nI 2 &&& 31)) ≠ 0 ↔ a2 = true := by decide +kernel
theorem uB6_b3 : ∀ a0 a1 a2 a3 a4 a5 : Bool, uB6 a0 a1 a2 a3 a4 a5 &&& ((1 : Int32) <<< (nI 3 &&& 31)) ≠ 0 ↔ a3 = true := by decide +kernel
theorem uB6_b4 : ∀ a0 a1 a2 a3 a4 a5 : Bool, uB6 a0 a1 a2 a3 a4 a5 &&& ((1 : Int32) <<< (nI 4 &&& 31)) ≠ 0 ↔ a4 = true := by decide +kernel
theorem uB6_b5 : ∀ a0 a1 a2 a3 a4 a5 : Bool, uB6 a0 a1 a2 a3 a4 a5 &&& ((1 : Int32) <<< (nI 5 &&& 31)) ≠ 0 ↔ a5 = true := by decide +kernel
theorem uBs_and (p q : Nat → Bool) : uBs p &&& uBs q = uBs (fun i => p i && q i) := uB6_and _ _ _ _ _ _ _ _ _ _ _ _
theorem uBs_not (p q : Nat → Bool) : uBs p &&& (uBs q ^^^ (-1)) = uBs (fun i => p i && !q i) := uB6_not _ _ _ _ _ _ _ _ _ _ _ _
theorem uBs_0 (p : Nat → Bool) : uBs p ≠ 0 ↔ ∃ i, i < 6 ∧ p i = true := by
  refine (uB6_0 _ _ _ _ _ _).trans ⟨?_, ?_⟩
  · rintro (h | h | h | h | h | h)
    · exact ⟨0, by omega, h⟩
    · exact ⟨1, by omega, h⟩
    · exact ⟨2, by omega, h⟩
    · exact ⟨3, by omega, h⟩
    · exact ⟨4, by omega, h⟩
    · exact ⟨5, by omega, h⟩
  · rintro ⟨i, hi, h⟩
    rcases (show i = 0 ∨ i = 1 ∨ i = 2 ∨ i = 3 ∨ i = 4 ∨ i = 5 by omega) with rfl | rfl | rfl | rfl | rfl | rfl <;> simp [h]
theorem uBs_b (p : Nat → Bool) {g : Nat} (hg : g < 6) : uBs p &&& ((1 : Int32) <<< (nI g &&& 31)) ≠ 0 ↔ p g = true := by
  rcases (show g = 0 ∨ g = 1 ∨ g = 2 ∨ g = 3 ∨ g = 4 ∨ g = 5 by omega) with rfl | rfl | rfl | rfl | rfl | rfl
  · exact uB6_b0 _ _ _ _ _ _
  · exact uB6_b1 _ _ _ _ _ _
  · exact uB6_b2 _ _ _ _ _ _
  · exact uB6_b3 _ _ _ _ _ _
  · exact uB6_b4 _ _ _ _ _ _
  · exact uB6_b5 _ _ _ _ _ _
theorem uC_aset_b (S : q_St) : uC_aset S = uBs (fun g => decide (S 9 g ≠ 0)) := by
  refine uBs_of _ _ (fun i _ => ?_)
  by_cases c : S 9 i = 0 <;> simp [c]
theorem uC_dset_b (S : q_St) (m : Nat) : uC_dset S m = uBs (fun g => decide (S 6 (m * 6 + g) = 1)) := by
  refine uBs_of _ _ (fun i _ => ?_)
  by_cases c : S 6 (m * 6 + i) = 1 <;> simp [c]
theorem uC_gset_b (S : q_St) (m : Nat) : uC_gset S m = uBs (fun g => decide (S 5 (m * 6 + g) ≠ 0)) := by
  refine uBs_of _ _ (fun i _ => ?_)
  by_cases c : S 5 (m * 6 + i) = 0 <;> simp [c]
theorem uC_pSets_iff (S : q_St) {g : Nat} (hg : g < 6) (m : Nat) : uC_pSets S g m = true ↔ (S 6 (m * 6 + g) = 1 ∧ S 9 g ≠ 0) ∧ ∃ o, o < 6 ∧ S 5 (m * 6 + o) ≠ 0 ∧ S 9 o ≠ 0 ∧ S 6 (m * 6 + o) ≠ 1 := by
  unfold uC_pSets
  rw [decide_eq_true_iff, uC_aset_b, uC_dset_b, uC_gset_b, uBs_and, uBs_not, uBs_and, uBs_b _ hg, uBs_0]
  simp only [Bool.and_eq_true, decide_eq_true_iff, Bool.not_eq_true', decide_eq_false_iff_not]
  refine and_congr Iff.rfl (exists_congr (fun o => and_congr Iff.rfl ?_))
  constructor
  · rintro ⟨⟨a, b⟩, c⟩; exact ⟨a, c, b⟩
  · rintro ⟨a, c, b⟩; exact ⟨⟨a, b⟩, c⟩
theorem uC_learnS_iff (S : q_St) (M : Nat) {g : Nat} (hg : g < 6) : uC_learnS S M g ↔ ∃ m, m < M ∧ (S 6 (m * 6 + g) = 1 ∧ S 9 g ≠ 0) ∧ ∃ o, o < 6 ∧ S 5 (m * 6 + o) ≠ 0 ∧ S 9 o ≠ 0 ∧ S 6 (m * 6 + o) ≠ 1 := by
  refine (q_some_iff M 0).trans ⟨?_, ?_⟩
  · rintro ⟨j, _, h2, h3⟩; exact ⟨j, by omega, (uC_pSets_iff S hg j).mp h3⟩
  · rintro ⟨j, h2, h3⟩; exact ⟨j, Nat.zero_le _, by omega, (uC_pSets_iff S hg j).mpr h3⟩
section UL
variable {d M : Nat} {A B : q_St}
theorem uT.learnX (h : uT d M A B) {g : Nat} (hg : g < 6) : uC_learn A M g ↔ uC_learnS A M g := by
  have hM8 := h.M8
  rw [uC_learnS_iff A M hg]
  constructor
  · rintro ⟨h1, h2, h3⟩
    rcases q_find_cs (fun m => decide (A 6 (m * 6 + g) = 1)) M 0 with e | ⟨n, n1, _, n3, n4⟩
    · exact absurd e h1
    · have e : uC_doubt A M g = nI n := n3
      rw [e, nI_clamp (show n < 2 ^ 31 by omega)] at h3
      obtain ⟨o, _, o2, o3⟩ := (q_some_iff 6 0).mp h3
      have o4 := decide_eq_true_iff.mp o3
      exact ⟨n, by omega, ⟨decide_eq_true_iff.mp n4, h2⟩, o, by omega, o4.2.1, o4.2.2.1, o4.2.2.2⟩
  · rintro ⟨m, m1, ⟨m2, m3⟩, o, o1, o2, o3, o4⟩
    rcases q_find_cs (fun m => decide (A 6 (m * 6 + g) = 1)) M 0 with e | ⟨n, n1, _, n3, n4⟩
    · have := q_find_none M 0 (by omega) e m (Nat.zero_le _) (by omega)
      exact absurd m2 (decide_eq_false_iff_not.mp this)
    · have e : uC_doubt A M g = nI n := n3
      have n5 : A 6 (n * 6 + g) = 1 := decide_eq_true_iff.mp n4
      have e2 : m = n := h.one hg (show m < 8 by omega) (show n < 8 by omega) (by rw [← h.an (by omega) hg]; exact m2) (by rw [← h.an (by omega) hg]; exact n5)
      subst e2
      refine ⟨by rw [e]; exact uC_dne (by omega), m3, ?_⟩
      rw [e, nI_clamp (show m < 2 ^ 31 by omega)]
      refine (q_some_iff 6 0).mpr ⟨o, Nat.zero_le _, by omega, decide_eq_true_iff.mpr ⟨fun q => o4 (q ▸ m2), o2, o3, o4⟩⟩
theorem uT.learn (h : uT d M A B) {g : Nat} (hg : g < 6) : uC_learn A M g ↔ uM_learn B M g = true := by
  have hM8 := h.M8
  show (uC_doubt A M g ≠ -1 ∧ A 9 g ≠ 0 ∧ q_some (uC_pLearn A g (uC_doubt A M g).toNatClampNeg) 6 0 = true) ↔ _
  unfold uM_learn
  rw [h.doubt hg]
  rcases uM_doubt_cs B M g with e | ⟨n, n1, n2, n3, n4⟩
  · rw [if_pos e, e]
    exact ⟨fun q => absurd rfl q.1, fun q => Bool.noConfusion q⟩
  · rw [n2, if_neg (uC_dne (by omega)), nI_clamp (show n < 2 ^ 31 by omega), uN_nI (by omega)]
    by_cases s : B 113 (12 + g) = 1
    · rw [if_pos s]
      exact ⟨fun q => absurd ((h.isS hg).mpr s) q.2.1, fun q => Bool.noConfusion q⟩
    · rw [if_neg s, q_some_iff, q_upto_iff]
      constructor
      · rintro ⟨_, _, o, _, o2, o3⟩
        have o4 := decide_eq_true_iff.mp o3
        have ho : o < 6 := by omega
        refine ⟨o, ho, decide_eq_true_iff.mpr ⟨?_, fun q => o4.2.2.1 ((h.isS ho).mpr q), ?_⟩⟩
        · show B 113 (32 + 14 * n + 2 + o) ≠ 0
          rw [← h.am (by omega) ho]; exact o4.2.1
        · show B 113 (32 + 14 * n + 8 + o) ≠ 1
          rw [← h.an (by omega) ho]; exact o4.2.2.2
      · rintro ⟨o, ho, o3⟩
        have o4 := decide_eq_true_iff.mp o3
        have o5 : B 113 (32 + 14 * n + 8 + o) ≠ 1 := o4.2.2
        refine ⟨uC_dne (by omega), fun q => s ((h.isS hg).mp q), o, Nat.zero_le _, by omega, decide_eq_true_iff.mpr ⟨fun q => o5 (q ▸ n4), ?_, fun q => o4.2.1 ((h.isS ho).mp q), ?_⟩⟩
        · rw [h.am (by omega) ho]; exact o4.1
        · rw [h.an (by omega) ho]; exact o5
theorem q_sum_one {f : Nat → Int32} : ∀ n, (∀ i, i < n → f i = 0 ∨ f i = 1) → (∀ i j, i < n → j < n → f i = 1 → f j = 1 → i = j) → q_sum f n = 0 ∨ q_sum f n = 1
  | 0, _, _ => Or.inl rfl
  | n + 1, h1, h2 => by
    show q_sum f n + f n = 0 ∨ q_sum f n + f n = 1
    rcases h1 n (by omega) with e | e
    · rw [e, Int32.add_zero]
      exact q_sum_one n (fun i hi => h1 i (by omega)) (fun i j hi hj => h2 i j (by omega) (by omega))
    · refine Or.inr ?_
      rw [q_sum_0 n (fun i hi => (h1 i (by omega)).resolve_right (fun q => absurd (h2 i n (by omega) (by omega) q e) (by omega))), e]
      rfl
theorem uT.single (h : uT d M A B) {g : Nat} (hg : g < 6) : uC_mattersOf A M g 1 ≤ 1 := by
  have hM8 := h.M8
  have e : uC_mattersOf A M g 1 = 0 ∨ uC_mattersOf A M g 1 = 1 := by
    refine q_sum_one M (fun i _ => ?_) (fun i j hi hj e1 e2 => ?_)
    · unfold uC_fMo
      split
      · exact Or.inr rfl
      · exact Or.inl rfl
    · unfold uC_fMo at e1 e2
      have k1 : A 6 (i * 6 + g) = 1 := by
        by_cases q : A 6 (i * 6 + g) = 1
        · exact q
        · rw [if_neg q] at e1; exact absurd e1 (by decide)
      have k2 : A 6 (j * 6 + g) = 1 := by
        by_cases q : A 6 (j * 6 + g) = 1
        · exact q
        · rw [if_neg q] at e2; exact absurd e2 (by decide)
      exact h.one hg (show i < 8 by omega) (show j < 8 by omega) (by rw [← h.an (by omega) hg]; exact k1) (by rw [← h.an (by omega) hg]; exact k2)
  rcases e with e | e <;> rw [e] <;> decide
theorem uC_ans_n (S : q_St) (m : Nat) (a : Int32) : ∃ k, k ≤ 6 ∧ uC_ans S m a = nI k := by
  obtain ⟨k, k1, k2, -⟩ := q_sum_01 (f := uC_fA S m a) 6 (fun i _ => by unfold uC_fA; split; exact Or.inr rfl; exact Or.inl rfl)
  exact ⟨k, k1, k2⟩
theorem q_every_iff {P : Nat → Bool} : ∀ n i, q_every P n i = true ↔ ∀ j, i ≤ j → j < i + n → P j = true
  | 0, i => ⟨fun _ j h1 h2 => absurd h2 (by omega), fun _ => rfl⟩
  | n + 1, i => by
    show (if P i = true then q_every P n (i + 1) else false) = true ↔ _
    by_cases c : P i = true
    · rw [if_pos c, q_every_iff n (i + 1)]
      refine ⟨fun h j h1 h2 => ?_, fun h j h1 h2 => h j (by omega) (by omega)⟩
      by_cases e : j = i
      · exact e ▸ c
      · exact h j (by omega) (by omega)
    · rw [if_neg c]
      exact ⟨fun h => Bool.noConfusion h, fun h => absurd (h i (Nat.le_refl _) (by omega)) c⟩
theorem q_allto_iff {P : Nat → Bool} : ∀ n, q_allto P n = true ↔ ∀ j, j < n → P j = true
  | 0 => ⟨fun _ j h2 => absurd h2 (by omega), fun _ => rfl⟩
  | n + 1 => by
    show (q_allto P n && P n) = true ↔ _
    rw [Bool.and_eq_true, q_allto_iff n]
    refine ⟨fun h j h1 => ?_, fun h => ⟨fun j h1 => h j (by omega), h n (by omega)⟩⟩
    by_cases e : j = n
    · exact e ▸ h.2
    · exact h.1 j (by omega)
theorem uT.whole (h : uT d M A B) : q_every (uC_pWhole A) M 0 = true ↔ q_allto (uM_pWhole B) M = true := by
  have hM8 := h.M8
  rw [q_every_iff, q_allto_iff]
  have e : ∀ m, m < M → (uC_pWhole A m = true ↔ uM_pWhole B m = true) := fun m hm => by
    unfold uC_pWhole uM_pWhole
    rw [decide_eq_true_iff, decide_eq_true_iff, h.ans (show m < 8 by omega) 3, h.ans (show m < 8 by omega) 4]
    obtain ⟨k3, a1, a2⟩ := uC_ans_n A m 3
    obtain ⟨k4, b1, b2⟩ := uC_ans_n A m 4
    rw [h.ans (show m < 8 by omega) 3] at a2
    rw [h.ans (show m < 8 by omega) 4] at b2
    rw [a2, b2]
    have z : ∀ k, k ≤ 6 → (0 < nI k ↔ nI k ≠ 0) := by decide +kernel
    rw [z k3 a1, z k4 b1]
    constructor
    · intro q
      by_cases c : nI k3 = 0
      · exact Or.inl c
      · exact Or.inr (Decidable.byContradiction (fun c2 => q ⟨c, c2⟩))
    · rintro (c | c) ⟨q1, q2⟩
      · exact q1 c
      · exact q2 c
  exact ⟨fun q j hj => (e j hj).mp (q j (Nat.zero_le _) (by omega)), fun q j _ hj => (e j (by omega)).mpr (q j (by omega))⟩
end UL
theorem s_isWell (l : Launch) : uSt_isWell l uInv := by
  intro c S hc hI
  obtain ⟨⟨M, hT⟩, -⟩ := id hI
  have hw := c_X6_isWell l S M hT.hMA hT.M8
  refine ⟨S, _, _, hw, ?_, hI.n6 0⟩
  have hm := c_X7_isWell l S M hT.hM hT.M8
  rw [show (if q_every (uC_pWhole S) M 0 = true ∧ uC_alike S M ∧ q_every (uC_pSingle S M) 6 0 = true then (1 : Int32) else 0) = (uMq_isWell S M).1 from ?_]
  · exact hm
  · show _ = (if q_allto (uM_pWhole S) M = true ∧ uM_coinsS S M = uM_coins S then (1 : Int32) else 0)
    refine u_ifc ⟨fun ⟨a, b, c⟩ => ⟨hT.whole.mp a, hT.coinsM⟩, fun ⟨a, b⟩ => ⟨hT.whole.mpr a, ⟨(q_every_iff 6 0).mpr (fun g _ hg => ?_), ?_⟩, (q_every_iff 6 0).mpr (fun g _ hg => ?_)⟩⟩
    · exact decide_eq_true_iff.mpr (hT.learnX (by omega))
    · rw [hT.coins, hT.coinsS]
    · exact decide_eq_true_iff.mpr (hT.single (by omega))
theorem s_canLearn (l : Launch) (hst : l.stackTraces = false) : uSt_canLearn l uInv := by
  intro c S x y hc hI
  obtain ⟨⟨M, hT⟩, -⟩ := id hI
  have hM8 := hT.M8
  have hm := c_X7_canLearn l S M hT.hM hM8 x (uB y)
  have hx := c_X6_canLearn l hst S M hT.hMA hM8 x (uB y)
  by_cases h1 : 0 ≤ x ∧ x < 6
  · obtain ⟨g, hg, rfl⟩ := uK_okG h1
    have e2 : uG_learn S M (nI g) (uB y) = (.inl (uO_b (uM_learn S M g)), S) := by
      unfold uG_learn
      rw [if_pos h1, uN_nI (by omega)]
      refine congrArg (fun v => ((Sum.inl v : Int32 ⊕ String), S)) ?_
      have e9 : (if uC_learn S M g then (1 : Int32) else 0) = uO_b (uM_learn S M g) := by
        cases hl : uM_learn S M g with
        | true => exact if_pos ((hT.learn hg).mpr hl)
        | false => exact if_neg (fun q => by rw [(hT.learn hg).mp q] at hl; exact Bool.noConfusion hl)
      split
      · exact e9
      · exact (u_ifc (hT.learnX hg)).symm.trans e9
    have e3 : uMq_learn S M (nI g) = (uO_b (uM_learn S M g), q_p S 112 6 0) := by unfold uMq_learn; rw [if_pos h1, uN_nI (by omega)]
    rw [e2] at hx
    rw [e3] at hm
    have hb : uO_b (uM_learn S M g) = 0 ∨ uO_b (uM_learn S M g) = 1 := by cases uM_learn S M g <;> decide
    exact ⟨.inl _, S, _, _, w_canLearn l S _ _ _ hx (by intro E h; cases h) (by intro v h; cases h; exact hb), hm, ⟨rfl, rfl⟩, hb, hI.n6 0⟩
  · have e2 : uG_learn S M x (uB y) = (.inr xEIo, S) := by unfold uG_learn; rw [if_neg h1]
    have e3 : uMq_learn S M x = (0, q_p S 112 6 1) := by unfold uMq_learn; rw [if_neg h1]; rfl
    rw [e2] at hx
    rw [e3] at hm
    exact ⟨.inr _, S, _, _, w_canLearn l S _ _ _ hx (by intro E h; cases h; simp) (by intro v h; cases h), hm, ⟨(q_p_on S 112 6 1).trans (by decide +kernel), by decide +kernel⟩, Or.inl rfl, hI.n6 1⟩
