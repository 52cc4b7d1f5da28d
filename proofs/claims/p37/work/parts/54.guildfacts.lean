
/-! as many values as places: each is taken -/
theorem q_pig : ∀ (n : Nat) (f : Nat → Nat), (∀ i, i < n → f i < n) → (∀ i j, i < n → j < n → f i = f j → i = j) → ∀ x, x < n → ∃ i, i < n ∧ f i = x
  | 0, _, _, _, x, hx => absurd hx (Nat.not_lt_zero x)
  | n + 1, f, h1, h2, x, hx => by
    by_cases e : x = f n
    · exact ⟨n, by omega, e.symm⟩
    · have hv := h1 n (by omega)
      have hne : ∀ i, i < n → f i ≠ f n := fun i hi q => by
        have := h2 i n (by omega) (by omega) q
        omega
      obtain ⟨i, hi, hg⟩ := q_pig n (fun i => if f n < f i then f i - 1 else f i) (fun i hi => by
        have q1 := h1 i (by omega)
        have q2 := hne i hi
        show (if f n < f i then f i - 1 else f i) < n
        split <;> omega) (fun i j hi hj q => by
        have a := hne i hi
        have b := hne j hj
        have q' : (if f n < f i then f i - 1 else f i) = (if f n < f j then f j - 1 else f j) := q
        refine h2 i j (by omega) (by omega) ?_
        split at q' <;> split at q' <;> omega) (if f n < x then x - 1 else x) (by split <;> omega)
      refine ⟨i, by omega, ?_⟩
      have hg' : (if f n < f i then f i - 1 else f i) = if f n < x then x - 1 else x := hg
      have a := hne i hi
      split at hg' <;> split at hg' <;> omega

def q_ct (P : Nat → Bool) : Nat → Nat
  | 0 => 0
  | n + 1 => q_ct P n + if P n = true then 1 else 0
theorem q_ct_sum (P : Nat → Bool) : ∀ n, q_sum (fun o => if P o = true then 1 else 0) n = nI (q_ct P n)
  | 0 => rfl
  | n + 1 => by
    show q_sum (fun o => if P o = true then 1 else 0) n + (if P n = true then 1 else 0) = nI (q_ct P n + if P n = true then 1 else 0)
    rw [q_ct_sum P n]
    by_cases c : P n = true
    · rw [if_pos c, if_pos c]; exact nI_add _ 1
    · rw [if_neg c, if_neg c, Int32.add_zero]; rfl
theorem q_ct_mono {P Q : Nat → Bool} (h : ∀ i, P i = true → Q i = true) : ∀ n, q_ct P n ≤ q_ct Q n
  | 0 => Nat.le_refl _
  | n + 1 => by
    have h1 := q_ct_mono h n
    rw [q_ct, q_ct]
    by_cases c : P n = true
    · rw [if_pos c, if_pos (h n c)]; omega
    · rw [if_neg c]; omega
theorem q_ct_lt {P Q : Nat → Bool} (h : ∀ i, P i = true → Q i = true) {j : Nat} (hP : ¬ P j = true) (hQ : Q j = true) : ∀ n, j < n → q_ct P n < q_ct Q n
  | 0, hj => absurd hj (Nat.not_lt_zero j)
  | n + 1, hj => by
    rw [q_ct, q_ct]
    by_cases e : j = n
    · subst e
      have h1 := q_ct_mono h j
      rw [if_neg hP, if_pos hQ]
      omega
    · have h1 := q_ct_lt h hP hQ n (by omega)
      by_cases c : P n = true
      · rw [if_pos c, if_pos (h n c)]; omega
      · rw [if_neg c]; omega
theorem q_ct_all : ∀ n, q_ct (fun _ => true) n = n
  | 0 => rfl
  | n + 1 => by rw [q_ct, q_ct_all n, if_pos rfl]
def uBf (K : Nat → Nat) (g o : Nat) : Bool := decide (K g < K o ∨ (K o = K g ∧ o < g))
theorem uBf_lt (K : Nat → Nat) {g : Nat} (hg : g < 6) : q_ct (uBf K g) 6 < 6 := by
  have h := q_ct_lt (P := uBf K g) (Q := fun _ => true) (fun _ _ => rfl) (j := g) (by unfold uBf; rw [decide_eq_true_iff]; omega) rfl 6 hg
  rw [q_ct_all] at h
  exact h
theorem uBf_inj (K : Nat → Nat) (g o : Nat) (hg : g < 6) (ho : o < 6) (h : q_ct (uBf K g) 6 = q_ct (uBf K o) 6) : g = o := by
  have key : ∀ g o, o < 6 → (K g < K o ∨ (K o = K g ∧ o < g)) → q_ct (uBf K o) 6 < q_ct (uBf K g) 6 := fun g o ho hb => by
    refine q_ct_lt (fun i hi => ?_) (j := o) ?_ ?_ 6 ho
    · unfold uBf at hi ⊢
      rw [decide_eq_true_iff] at hi ⊢
      omega
    · unfold uBf; rw [decide_eq_true_iff]; omega
    · unfold uBf; rw [decide_eq_true_iff]; exact hb
  by_cases e : g = o
  · exact e
  · by_cases c : K g < K o ∨ (K o = K g ∧ o < g)
    · have := key g o ho c
      omega
    · have := key o g hg (by omega)
      omega

theorem q_first_at {P : Nat → Bool} {i0 : Nat} : ∀ n i, i ≤ i0 → i0 ≤ i + n → i + n < 6 → (∀ j, j < 6 → (P j = true ↔ j = i0)) → q_first P n i = i0
  | 0, i, h1, h2, _, _ => by
    rw [q_first]
    omega
  | n + 1, i, h1, h2, h3, h => by
    rw [q_first]
    by_cases c : P i = true
    · rw [if_pos c]
      exact (h i (by omega)).mp c
    · rw [if_neg c]
      have e : i ≠ i0 := fun q => c ((h i (by omega)).mpr q)
      exact q_first_at n (i + 1) (by omega) (by omega) (by omega) h
theorem q_some_iff {P : Nat → Bool} : ∀ n i, q_some P n i = true ↔ ∃ j, i ≤ j ∧ j < i + n ∧ P j = true
  | 0, i => ⟨fun h => Bool.noConfusion h, fun ⟨j, h1, h2, _⟩ => absurd h2 (by omega)⟩
  | n + 1, i => by
    show (if P i = true then true else q_some P n (i + 1)) = true ↔ _
    by_cases c : P i = true
    · rw [if_pos c]; exact ⟨fun _ => ⟨i, Nat.le_refl _, by omega, c⟩, fun _ => rfl⟩
    · rw [if_neg c, q_some_iff n (i + 1)]
      constructor
      · rintro ⟨j, h1, h2, h3⟩; exact ⟨j, by omega, by omega, h3⟩
      · rintro ⟨j, h1, h2, h3⟩
        have : j ≠ i := fun e => c (e ▸ h3)
        exact ⟨j, by omega, by omega, h3⟩
def uB6 (a0 a1 a2 a3 a4 a5 : Bool) : Int32 := ((((((0 : Int32) ||| (if a0 = true then 1 <<< (nI 0 &&& 31) else 0)) ||| (if a1 = true then 1 <<< (nI 1 &&& 31) else 0)) ||| (if a2 = true then 1 <<< (nI 2 &&& 31) else 0)) ||| (if a3 = true then 1 <<< (nI 3 &&& 31) else 0)) ||| (if a4 = true then 1 <<< (nI 4 &&& 31) else 0)) ||| (if a5 = true then 1 <<< (nI 5 &&& 31) else 0)
def uBs (p : Nat → Bool) : Int32 := uB6 (p 0) (p 1) (p 2) (p 3) (p 4) (p 5)
theorem uBs_of (f : Nat → Int32) (p : Nat → Bool) (h : ∀ i, i < 6 → f i = if p i = true then 1 <<< (nI i &&& 31) else 0) : q_ors f 6 = uBs p := by
  show ((((((0 : Int32) ||| f 0) ||| f 1) ||| f 2) ||| f 3) ||| f 4) ||| f 5 = _
  rw [h 0 (by omega), h 1 (by omega), h 2 (by omega), h 3 (by omega), h 4 (by omega), h 5 (by omega)]
  rfl
set_option maxRecDepth 100000 in
theorem uB6_and : ∀ a0 a1 a2 a3 a4 a5 b0 b1 b2 b3 b4 b5 : Bool, uB6 a0 a1 a2 a3 a4 a5 &&& uB6 b0 b1 b2 b3 b4 b5 = uB6 (a0 && b0) (a1 && b1) (a2 && b2) (a3 && b3) (a4 && b4) (a5 && b5) := by decide +kernel
set_option maxRecDepth 100000 in
theorem uB6_not : ∀ a0 a1 a2 a3 a4 a5 b0 b1 b2 b3 b4 b5 : Bool, uB6 a0 a1 a2 a3 a4 a5 &&& (uB6 b0 b1 b2 b3 b4 b5 ^^^ (-1)) = uB6 (a0 && !b0) (a1 && !b1) (a2 && !b2) (a3 && !b3) (a4 && !b4) (a5 && !b5) := by decide +kernel
theorem uB6_0 : ∀ a0 a1 a2 a3 a4 a5 : Bool, uB6 a0 a1 a2 a3 a4 a5 ≠ 0 ↔ (a0 = true ∨ a1 = true ∨ a2 = true ∨ a3 = true ∨ a4 = true ∨ a5 = true) := by decide +kernel
theorem uB6_b0 : ∀ a0 a1 a2 a3 a4 a5 : Bool, uB6 a0 a1 a2 a3 a4 a5 &&& ((1 : Int32) <<< (nI 0 &&& 31)) ≠ 0 ↔ a0 = true := by decide +kernel
theorem uB6_b1 : ∀ a0 a1 a2 a3 a4 a5 : Bool, uB6 a0 a1 a2 a3 a4 a5 &&& ((1 : Int32) <<< (nI 1 &&& 31)) ≠ 0 ↔ a1 = true := by decide +kernel
theorem uB6_b2 : ∀ a0 a1 a2 a3 a4 a5 : Bool, uB6 a0 a1 a2 a3 a4 a5 &&& ((1 : Int32) <<< (nI 2 &&& 31)) ≠ 0 ↔ a2 = true := by decide +kernel
theorem uB6_b3 : ∀ a0 a1 a2 a3 a4 a5 : Bool, uB6 a0 a1 a2 a3 a4 a5 &&& ((1 : Int32) <<< (nI 3 &&& 31)) ≠ 0 ↔ a3 = true := by decide +kernel
theorem uB6_b4 : ∀ a0 a1 a2 a3 a4 a5 : Bool, uB6 a0 a1 a2 a3 a4 a5 &&& ((1 : Int32) <<< (nI 4 &&& 31)) ≠ 0 ↔ a4 = true := by decide +kernel
theorem uB6_b5 : ∀ a0 a1 a2 a3 a4 a5 : Bool, uB6 a0 a1 a2 a3 a4 a5 &&& ((1 : Int32) <<< (nI 5 &&& 31)) ≠ 0 ↔ a5 = true := by decide +kernel
theorem uBs_and (p q : Nat → Bool) : uBs p &&& uBs q = uBs (fun i => p i && q i) := uB6_and _ _ _ _ _ _ _ _ _ _ _ _
theorem uBs_not (p q : Nat → Bool) : uBs p &&& (uBs q ^^^ (-1)) = uBs (fun i => p i && !q i) := uB6_not _ _ _ _ _ _ _ _ _ _ _ _
theorem uBs_0 (p : Nat → Bool) : uBs p ≠ 0 ↔ ∃ i, i < 6 ∧ p i = true := by
  refine (uB6_0 _ _ _ _ _ _).trans ⟨?_, ?_⟩
  · rintro (h | h | h | h | h | h)
    · exact ⟨0, by omega, h⟩
    · exact ⟨1, by omega, h⟩
    · exact ⟨2, by omega, h⟩
    · exact ⟨3, by omega, h⟩
    · exact ⟨4, by omega, h⟩
    · exact ⟨5, by omega, h⟩
  · rintro ⟨i, hi, h⟩
    rcases (show i = 0 ∨ i = 1 ∨ i = 2 ∨ i = 3 ∨ i = 4 ∨ i = 5 by omega) with rfl | rfl | rfl | rfl | rfl | rfl <;> simp [h]
theorem uBs_b (p : Nat → Bool) {g : Nat} (hg : g < 6) : uBs p &&& ((1 : Int32) <<< (nI g &&& 31)) ≠ 0 ↔ p g = true := by
  rcases (show g = 0 ∨ g = 1 ∨ g = 2 ∨ g = 3 ∨ g = 4 ∨ g = 5 by omega) with rfl | rfl | rfl | rfl | rfl | rfl
  · exact uB6_b0 _ _ _ _ _ _
  · exact uB6_b1 _ _ _ _ _ _
  · exact uB6_b2 _ _ _ _ _ _
  · exact uB6_b3 _ _ _ _ _ _
  · exact uB6_b4 _ _ _ _ _ _
  · exact uB6_b5 _ _ _ _ _ _
theorem uC_aset_b (S : q_St) : uC_aset S = uBs (fun g => decide (S 9 g ≠ 0)) := by
  refine uBs_of _ _ (fun i _ => ?_)
  by_cases c : S 9 i = 0 <;> simp [c]
theorem uC_dset_b (S : q_St) (m : Nat) : uC_dset S m = uBs (fun g => decide (S 6 (m * 6 + g) = 1)) := by
  refine uBs_of _ _ (fun i _ => ?_)
  by_cases c : S 6 (m * 6 + i) = 1 <;> simp [c]
theorem uC_gset_b (S : q_St) (m : Nat) : uC_gset S m = uBs (fun g => decide (S 5 (m * 6 + g) ≠ 0)) := by
  refine uBs_of _ _ (fun i _ => ?_)
  by_cases c : S 5 (m * 6 + i) = 0 <;> simp [c]
theorem uC_pSets_iff (S : q_St) {g : Nat} (hg : g < 6) (m : Nat) : uC_pSets S g m = true ↔ (S 6 (m * 6 + g) = 1 ∧ S 9 g ≠ 0) ∧ ∃ o, o < 6 ∧ S 5 (m * 6 + o) ≠ 0 ∧ S 9 o ≠ 0 ∧ S 6 (m * 6 + o) ≠ 1 := by
  unfold uC_pSets
  rw [decide_eq_true_iff, uC_aset_b, uC_dset_b, uC_gset_b, uBs_and, uBs_not, uBs_and, uBs_b _ hg, uBs_0]
  simp only [Bool.and_eq_true, decide_eq_true_iff, Bool.not_eq_true', decide_eq_false_iff_not]
  refine and_congr Iff.rfl (exists_congr (fun o => and_congr Iff.rfl ?_))
  constructor
  · rintro ⟨⟨a, b⟩, c⟩; exact ⟨a, c, b⟩
  · rintro ⟨a, c, b⟩; exact ⟨⟨a, b⟩, c⟩
theorem uC_learnS_iff (S : q_St) (M : Nat) {g : Nat} (hg : g < 6) : uC_learnS S M g ↔ ∃ m, m < M ∧ (S 6 (m * 6 + g) = 1 ∧ S 9 g ≠ 0) ∧ ∃ o, o < 6 ∧ S 5 (m * 6 + o) ≠ 0 ∧ S 9 o ≠ 0 ∧ S 6 (m * 6 + o) ≠ 1 := by
  refine (q_some_iff M 0).trans ⟨?_, ?_⟩
  · rintro ⟨j, _, h2, h3⟩; exact ⟨j, by omega, (uC_pSets_iff S hg j).mp h3⟩
  · rintro ⟨j, h2, h3⟩; exact ⟨j, Nat.zero_le _, by omega, (uC_pSets_iff S hg j).mpr h3⟩
section PLE
variable {d M N : Nat} {A : q_St}
theorem pI.learnX (h : pI d M N A) {g : Nat} (hg : g < 6) : uC_learn A M g ↔ uC_learnS A M g := by
  have hM8 := h.M8
  rw [uC_learnS_iff A M hg]
  constructor
  · rintro ⟨h1, h2, h3⟩
    rcases q_find_cs (fun m => Decidable.decide (A 6 (m * 6 + g) = 1)) M 0 with e | ⟨n, n1, _, n3, n4⟩
    · exact absurd e h1
    · have e : uC_doubt A M g = nI n := n3
      rw [e, nI_clamp (show n < 2 ^ 31 by omega)] at h3
      obtain ⟨o, _, o2, o3⟩ := (q_some_iff 6 0).mp h3
      have o4 := decide_eq_true_iff.mp o3
      exact ⟨n, by omega, ⟨decide_eq_true_iff.mp n4, h2⟩, o, by omega, o4.2.1, o4.2.2.1, o4.2.2.2⟩
  · rintro ⟨m, m1, ⟨m2, m3⟩, o, o1, o2, o3, o4⟩
    rcases q_find_cs (fun m => Decidable.decide (A 6 (m * 6 + g) = 1)) M 0 with e | ⟨n, n1, _, n3, n4⟩
    · have := q_find_none M 0 (by omega) e m (Nat.zero_le _) (by omega)
      exact absurd m2 (decide_eq_false_iff_not.mp this)
    · have e : uC_doubt A M g = nI n := n3
      have n5 : A 6 (n * 6 + g) = 1 := decide_eq_true_iff.mp n4
      have e2 : m = n := h.one hg (show m < 8 by omega) (show n < 8 by omega) m2 n5
      subst e2
      refine ⟨by rw [e]; exact uC_dne (by omega), m3, ?_⟩
      rw [e, nI_clamp (show m < 2 ^ 31 by omega)]
      refine (q_some_iff 6 0).mpr ⟨o, Nat.zero_le _, by omega, decide_eq_true_iff.mpr ⟨fun q => o4 (q ▸ m2), o2, o3, o4⟩⟩
theorem q_every_iff {P : Nat → Bool} : ∀ n i, q_every P n i = true ↔ ∀ j, i ≤ j → j < i + n → P j = true
  | 0, i => ⟨fun _ j h1 h2 => absurd h2 (by omega), fun _ => rfl⟩
  | n + 1, i => by
    show (if P i = true then q_every P n (i + 1) else false) = true ↔ _
    by_cases c : P i = true
    · rw [if_pos c, q_every_iff n (i + 1)]
      refine ⟨fun h j h1 h2 => ?_, fun h j h1 h2 => h j (by omega) (by omega)⟩
      by_cases e : j = i
      · exact e ▸ c
      · exact h j (by omega) (by omega)
    · rw [if_neg c]
      exact ⟨fun h => Bool.noConfusion h, fun h => absurd (h i (Nat.le_refl _) (by omega)) c⟩

theorem pMoE (A : q_St) (g m : Nat) (a : Int32) : uC_fMo A g a m = 0 ∨ uC_fMo A g a m = 1 := by
  unfold uC_fMo
  split
  · exact Or.inr rfl
  · exact Or.inl rfl
theorem pI.mo1 (h : pI d M N A) {m g : Nat} {a : Int32} (hm : m < 8) (hg : g < 6) (h0 : a ≠ 0) (h1 : a ≠ -1) (c : pAn A m g = a) : 1 = uC_fMo A g a m := by
  unfold uC_fMo
  rw [if_pos ((h.pAn_iff hm hg h0 h1).mp c)]
theorem pI.mo0 (h : pI d M N A) {m g : Nat} {a : Int32} (hm : m < 8) (hg : g < 6) (h0 : a ≠ 0) (h1 : a ≠ -1) (c : pAn A m g ≠ a) : 0 = uC_fMo A g a m := by
  unfold uC_fMo
  rw [if_neg (fun q => c ((h.pAn_iff hm hg h0 h1).mpr q))]
theorem pI.fs1 (h : pI d M N A) {m g : Nat} (hm : m < 8) (hg : g < 6) (c : pAn A m g = 3) : A 5 (m * 6 + g) = uC_fS A m g := by
  unfold uC_fS
  rw [if_pos ((h.pAn_iff hm hg (by decide) (by decide)).mp c)]
theorem pI.fs0 (h : pI d M N A) {m g : Nat} (hm : m < 8) (hg : g < 6) (c : pAn A m g ≠ 3) : 0 = uC_fS A m g := by
  unfold uC_fS
  rw [if_neg (fun q => c ((h.pAn_iff hm hg (by decide) (by decide)).mpr q))]
/-- at most one of the first n -/
theorem q_sum_le1 {f : Nat → Int32} : ∀ n, (∀ i, i < n → f i = 0 ∨ f i = 1) → (∀ i j, i < n → j < n → f i = 1 → f j = 1 → i = j) → q_sum f n = 0 ∨ q_sum f n = 1
  | 0, _, _ => Or.inl rfl
  | n + 1, h1, h2 => by
    show q_sum f n + f n = 0 ∨ q_sum f n + f n = 1
    rcases h1 n (by omega) with e | e
    · rw [e, Int32.add_zero]
      exact q_sum_le1 n (fun i hi => h1 i (by omega)) (fun i j hi hj => h2 i j (by omega) (by omega))
    · refine Or.inr ?_
      rw [e, q_sum_cgP (h := fun _ => 0) n (fun i hi => (h1 i (by omega)).resolve_right (fun q => absurd (h2 i n (by omega) (by omega) q e) (by omega)))]
      have z : ∀ k, q_sum (fun _ => (0 : Int32)) k = 0 := fun k => by
        induction k with
        | zero => rfl
        | succ k ih => show q_sum (fun _ => (0 : Int32)) k + 0 = 0; rw [ih]; rfl
      rw [z]
      rfl
theorem pI.single (h : pI d M N A) {g : Nat} (hg : g < 6) : uC_mattersOf A M g 1 = 0 ∨ uC_mattersOf A M g 1 = 1 := by
  have hM8 := h.M8
  refine q_sum_le1 M (fun i _ => pMoE A g i 1) (fun i j hi hj e1 e2 => ?_)
  unfold uC_fMo at e1 e2
  have k1 : A 6 (i * 6 + g) = 1 := by
    by_cases q : A 6 (i * 6 + g) = 1
    · exact q
    · rw [if_neg q] at e1; exact absurd e1 (by decide)
  have k2 : A 6 (j * 6 + g) = 1 := by
    by_cases q : A 6 (j * 6 + g) = 1
    · exact q
    · rw [if_neg q] at e2; exact absurd e2 (by decide)
  exact h.one hg (by omega) (by omega) k1 k2
theorem pI.many (h : pI d M N A) {g : Nat} (hg : g < 6) : ¬ 2 ≤ q_sum (uC_fMo A g 1) M := by
  rcases h.single hg with e | e
  · rw [show q_sum (uC_fMo A g 1) M = 0 from e]; decide
  · rw [show q_sum (uC_fMo A g 1) M = 1 from e]; decide
theorem q_sum_out {f : Nat → Int32} {M : Nat} : ∀ n, (∀ i, M ≤ i → i < M + n → f i = 0) → q_sum f (M + n) = q_sum f M
  | 0, _ => rfl
  | n + 1, h => by
    show q_sum f (M + n) + f (M + n) = _
    rw [q_sum_out n (fun i a b => h i a (by omega)), h (M + n) (by omega) (by omega), Int32.add_zero]
theorem pI.fsOut (h : pI d M N A) {m g : Nat} (h1 : M ≤ m) (hm : m < 8) (hg : g < 6) : uC_fS A m g = 0 := by
  unfold uC_fS
  rw [(h.out h1 hm).2 g hg]
  split <;> rfl
/-- a guild's coins, as the law adds them up -/
theorem pI.its (h : pI d M N A) {g : Nat} (hg : g < 6) : 20 + q_sum (fun m => uC_fS A m g) M = A 7 g := by
  rw [(h.g hg).1]
  have e : q_sum (fun m => uC_fS A m g) (M + (8 - M)) = q_sum (fun m => uC_fS A m g) M := q_sum_out (8 - M) (fun i a b => h.fsOut a (by have := h.M8; omega) hg)
  rw [show M + (8 - M) = 8 by have := h.M8; omega] at e
  rw [e]
theorem pI.its0 (h : pI d M N A) {g : Nat} (hg : g < 6) : 0 ≤ 20 + q_sum (fun m => uC_fS A m g) M := by
  rw [h.its hg]
  exact (h.g hg).2
def pAg (A : q_St) (M : Nat) : Nat → Int32
  | 0 => 120
  | g + 1 => pAg A M g + (20 + q_sum (fun m => uC_fS A m g) M - 20)
theorem pI.ag (h : pI d M N A) : ∀ g, g ≤ 6 → pAg A M g + nI (20 * g) = 120 + q_sum (A 7) g
  | 0, _ => rfl
  | g + 1, hg => by
    have ih := pI.ag h g (by omega)
    show pAg A M g + (20 + q_sum (fun m => uC_fS A m g) M - 20) + nI (20 * (g + 1)) = 120 + (q_sum (A 7) g + A 7 g)
    rw [h.its (by omega), show 20 * (g + 1) = 20 * g + 20 by omega, ← nI_add, ← Int32.add_assoc 120, ← ih]
    generalize pAg A M g = a
    generalize nI (20 * g) = b
    generalize A 7 g = x
    show a + (x - 20) + (b + 20) = a + b + x
    rw [Int32.sub_eq_add_neg, Int32.add_assoc a b x, Int32.add_assoc a (x + -20) (b + 20), Int32.add_assoc x (-20) (b + 20), Int32.add_comm b 20, ← Int32.add_assoc (-20) 20 b, show (-20 : Int32) + 20 = 0 by decide, Int32.zero_add, Int32.add_comm x b]
theorem pI.ag6 (h : pI d M N A) : pAg A M 6 = q_sum (A 7) 6 := by
  have e := h.ag 6 (Nat.le_refl _)
  have e2 : pAg A M 6 + 120 = q_sum (A 7) 6 + 120 := by rw [Int32.add_comm (q_sum (A 7) 6)]; exact e
  exact (Int32.add_left_inj 120).mp e2
/-- a double sum, the other way round -/
theorem q_sum_swap (f : Nat → Nat → Int32) (n : Nat) : ∀ m, q_sum (fun i => q_sum (f i) n) m = q_sum (fun j => q_sum (fun i => f i j) m) n
  | 0 => by
    show 0 = q_sum (fun j => (0 : Int32)) n
    induction n with
    | zero => rfl
    | succ n ih => show 0 = q_sum (fun j => (0 : Int32)) n + 0; rw [← ih]; rfl
  | m + 1 => by
    show q_sum (fun i => q_sum (f i) n) m + q_sum (f m) n = q_sum (fun j => q_sum (fun i => f i j) m + f m j) n
    rw [q_sum_swap f n m, q_sum_addP]
theorem pI.coins2 (h : pI d M N A) : uC_coinsS A M = q_sum (A 7) 6 := by
  unfold uC_coinsS
  rw [q_sum_swap (fun m g => uC_fS A m g) 6 M]
  have e : ∀ n, n ≤ 6 → q_sum (A 7) n = nI (20 * n) + q_sum (fun j => q_sum (fun i => uC_fS A i j) M) n := by
    intro n
    induction n with
    | zero => intro _; rfl
    | succ n ih =>
      intro hn
      show q_sum (A 7) n + A 7 n = nI (20 * (n + 1)) + (q_sum (fun j => q_sum (fun i => uC_fS A i j) M) n + q_sum (fun i => uC_fS A i n) M)
      rw [ih (by omega), ← h.its (show n < 6 by omega), show 20 * (n + 1) = 20 * n + 20 by omega, ← nI_add]
      generalize nI (20 * n) = a
      generalize q_sum (fun j => q_sum (fun i => uC_fS A i j) M) n = b
      generalize q_sum (fun i => uC_fS A i n) M = x
      show a + b + (20 + x) = a + 20 + (b + x)
      rw [Int32.add_assoc, Int32.add_assoc, ← Int32.add_assoc b, Int32.add_comm b 20, Int32.add_assoc 20]
  exact (e 6 (Nat.le_refl _)).symm
/-- can it learn, as the law finds it -/
def pLo (A : q_St) (ab : Nat) : Nat → Int32
  | 0 => 0
  | o + 1 => if A 9 o ≠ 0 ∧ 0 ≤ pAn A ab o ∧ pAn A ab o ≠ 1 then 1 else pLo A ab o
theorem pLoA {ab o : Nat} (c : (if A 9 o = 0 then (0 : Int32) else 1) ≠ 1) : pLo A ab o = pLo A ab (o + 1) := by
  rw [pLo, if_neg]
  intro q
  exact c (if_neg q.1)
theorem pLoB {ab o : Nat} (c : pAn A ab o < 0) : pLo A ab o = pLo A ab (o + 1) := by
  rw [pLo, if_neg]
  intro q
  exact absurd c (Int32.not_lt.mpr q.2.1)
theorem pLoC {ab o : Nat} (c : pAn A ab o = 1) : pLo A ab o = pLo A ab (o + 1) := by
  rw [pLo, if_neg]
  intro q
  exact q.2.2 c
theorem pLoD {ab o : Nat} (c : (if A 9 o = 0 then (0 : Int32) else 1) = 1) (c2 : 0 ≤ pAn A ab o) (c3 : pAn A ab o ≠ 1) : 1 = pLo A ab (o + 1) := by
  have h9 : A 9 o ≠ 0 := fun q => by
    rw [if_pos q] at c
    exact absurd c (by decide)
  rw [pLo, if_pos ⟨h9, c2, c3⟩]
theorem pLo_iff (A : q_St) (ab : Nat) : ∀ n, (pLo A ab n = 1 ∧ ∃ o, o < n ∧ A 9 o ≠ 0 ∧ 0 ≤ pAn A ab o ∧ pAn A ab o ≠ 1) ∨ (pLo A ab n = 0 ∧ ¬ ∃ o, o < n ∧ A 9 o ≠ 0 ∧ 0 ≤ pAn A ab o ∧ pAn A ab o ≠ 1)
  | 0 => Or.inr ⟨rfl, fun ⟨o, ho, _⟩ => absurd ho (Nat.not_lt_zero o)⟩
  | n + 1 => by
    rw [pLo]
    by_cases c : A 9 n ≠ 0 ∧ 0 ≤ pAn A ab n ∧ pAn A ab n ≠ 1
    · rw [if_pos c]
      exact Or.inl ⟨rfl, n, by omega, c⟩
    · rw [if_neg c]
      rcases pLo_iff A ab n with ⟨e, o, ho, q⟩ | ⟨e, q⟩
      · exact Or.inl ⟨e, o, by omega, q⟩
      · refine Or.inr ⟨e, fun ⟨o, ho, q2⟩ => ?_⟩
        by_cases x : o = n
        · exact c (x ▸ q2)
        · exact q ⟨o, by omega, q2⟩
theorem pI.ln0 (_ : pI d M N A) {g : Nat} (c : uC_doubt A M g < 0) : 0 = (if uC_learn A M g then (1 : Int32) else 0) := by
  rw [if_neg (fun q => ?_)]
  rcases uC_doubt_cs A M g with e | ⟨k, k1, k2, _⟩
  · exact q.1 e
  · have hM8 := ‹pI d M N A›.M8
    rw [k2] at c
    exact absurd c (nI_pos (by omega))
theorem pLn1 {g : Nat} (c : (if A 9 g = 0 then (0 : Int32) else 1) ≠ 1) : 0 = (if uC_learn A M g then (1 : Int32) else 0) := by
  rw [if_neg (fun q => ?_)]
  exact c (if_neg q.2.1)
theorem pI.ln2 (h : pI d M N A) {g ab : Nat} (hg : g < 6) (hab : ab < M) (e : uC_doubt A M g = nI ab) (h1 : A 6 (ab * 6 + g) = 1) (c : (if A 9 g = 0 then (0 : Int32) else 1) = 1) : pLo A ab 6 = (if uC_learn A M g then (1 : Int32) else 0) := by
  have hM8 := h.M8
  have h9 : A 9 g ≠ 0 := fun q => by
    rw [if_pos q] at c
    exact absurd c (by decide)
  have key : uC_learn A M g ↔ ∃ o, o < 6 ∧ A 9 o ≠ 0 ∧ 0 ≤ pAn A ab o ∧ pAn A ab o ≠ 1 := by
    constructor
    · rintro ⟨_, _, q⟩
      rw [e, nI_clamp (show ab < 2 ^ 31 by omega)] at q
      obtain ⟨o, _, o2, o3⟩ := (q_some_iff 6 0).mp q
      have o4 := decide_eq_true_iff.mp o3
      refine ⟨o, by omega, o4.2.2.1, ?_⟩
      rcases h.pAnE (m := ab) (g := o) (by omega) (by omega) with ⟨a1, _, _⟩ | ⟨_, a2, _⟩
      · exact absurd a1 o4.2.1
      · rw [a2]
        refine ⟨?_, o4.2.2.2⟩
        rcases (h.c (m := ab) (g := o) (by omega) (by omega)).1 with q | q | q | q | q <;> rw [q] <;> decide
    · rintro ⟨o, o1, o2, o3, o4⟩
      refine ⟨by rw [e]; exact uC_dne (by omega), h9, ?_⟩
      rw [e, nI_clamp (show ab < 2 ^ 31 by omega)]
      rcases h.pAnE (m := ab) (g := o) (by omega) o1 with ⟨_, a2, _⟩ | ⟨a1, a2, _⟩
      · rw [a2] at o3
        exact absurd o3 (by decide)
      · rw [a2] at o4
        exact (q_some_iff 6 0).mpr ⟨o, Nat.zero_le _, by omega, decide_eq_true_iff.mpr ⟨fun q => o4 (q ▸ h1), a1, o2, o4⟩⟩
  rcases pLo_iff A ab 6 with ⟨a, b⟩ | ⟨a, b⟩
  · rw [a, if_pos (key.mpr b)]
  · rw [a, if_neg (fun q => b (key.mp q))]
theorem pI.ln3 (h : pI d M N A) {g : Nat} (hg : g < 6) : (if uC_learnS A M g then (1 : Int32) else 0) = (if uC_learn A M g then (1 : Int32) else 0) := by
  by_cases c : uC_learn A M g
  · rw [if_pos c, if_pos ((h.learnX hg).mp c)]
  · rw [if_neg c, if_neg (fun q => c ((h.learnX hg).mpr q))]
theorem pI.fd1 (h : pI d M N A) {g : Nat} (c : 0 ≤ uC_doubt A M g) : 1 = uC_fD A M g := by
  unfold uC_fD
  rw [if_neg (fun q => by rw [q] at c; exact absurd c (by decide))]
theorem pI.fd0 (h : pI d M N A) {g : Nat} (c : uC_doubt A M g < 0) : 0 = uC_fD A M g := by
  unfold uC_fD
  rcases uC_doubt_cs A M g with e | ⟨k, k1, k2, _⟩
  · rw [if_pos e]
  · rw [k2] at c
    exact absurd c (nI_pos (by have := h.M8; omega))
/-- the ranks -/
theorem pI.aheadK (h : pI d M N A) (hd : d < 2 ^ 29) {g : Nat} (hg : g < 6) : uC_ahead A g = nI (q_ct (uBf (fun o => uN (A 8 o)) g) 6) := by
  rw [← q_ct_sum]
  refine q_sum_cgP 6 (fun o ho => ?_)
  obtain ⟨a, ha, ea⟩ := h.db hg
  obtain ⟨b, hb, eb⟩ := h.db ho
  unfold uC_fAh uBf
  have c3 : (A 8 g < A 8 o ∨ (A 8 o = A 8 g ∧ o < g)) ↔ Decidable.decide (uN (A 8 g) < uN (A 8 o) ∨ (uN (A 8 o) = uN (A 8 g) ∧ o < g)) = true := by
    rw [decide_eq_true_iff, ea, eb, uN_nI (by omega), uN_nI (by omega), nI_ltI (by omega) (by omega), nI_eq (by omega) (by omega)]
  by_cases c : A 8 g < A 8 o ∨ (A 8 o = A 8 g ∧ o < g)
  · rw [if_pos c, if_pos (c3.mp c)]
  · rw [if_neg c, if_neg (fun q => c (c3.mpr q))]
theorem pI.rank (h : pI d M N A) (hd : d < 2 ^ 29) {n : Nat} (hn : n < 6) : uC_rank A (nI n) < 6 ∧ q_ct (uBf (fun o => uN (A 8 o)) (uC_rank A (nI n))) 6 = n := by
  obtain ⟨i0, hi0, e0⟩ := q_pig 6 (fun g => q_ct (uBf (fun o => uN (A 8 o)) g) 6) (fun i hi => uBf_lt _ hi) (fun i j hi hj q => uBf_inj _ i j hi hj q) n hn
  have hA : ∀ j, j < 6 → (uC_ahead A j = nI n ↔ j = i0) := fun j hj => by
    rw [h.aheadK hd hj, nI_eq (by have := uBf_lt (fun o => uN (A 8 o)) hj; omega) (by omega)]
    exact ⟨fun q => uBf_inj _ j i0 hj hi0 (q.trans e0.symm), fun q => by rw [q]; exact e0⟩
  have r1 : uC_rank A (nI n) = i0 := q_first_at 5 0 (by omega) (by omega) (by omega) (fun j hj => by rw [decide_eq_true_iff]; exact hA j hj)
  rw [r1]
  exact ⟨hi0, e0⟩
def pBf (A : q_St) (i : Nat) : Int32 := if i = 0 then -1 else nI (uC_rank A (nI (i - 1)))
def pBy (A : q_St) (i : Nat) : Int32 := if i = 0 then 1 else A 8 (uC_rank A (nI (i - 1))) - A 8 (uC_rank A (nI i))
theorem pBfS (A : q_St) (i : Nat) : nI (uC_rank A (nI i)) = pBf A (i + 1) := by simp [pBf]
theorem pI.bf (h : pI d M N A) (hd : d < 2 ^ 29) {i : Nat} (hi : i < 6) (c : 0 ≤ pBf A i) : i ≠ 0 ∧ pBf A i = nI (uC_rank A (nI (i - 1))) := by
  unfold pBf at c ⊢
  by_cases e : i = 0
  · rw [if_pos e] at c
    exact absurd c (by decide)
  · exact ⟨e, if_neg e⟩
theorem pI.by1 (h : pI d M N A) (hd : d < 2 ^ 29) {i : Nat} (hi : i < 6) (c : pBf A i < 0) : 1 = pBy A i := by
  unfold pBf at c
  unfold pBy
  by_cases e : i = 0
  · rw [if_pos e]
  · rw [if_neg e] at c
    have := (h.rank hd (n := i - 1) (by omega)).1
    exact absurd c (nI_pos (by omega))
theorem pBy2 {i : Nat} (e : i ≠ 0) : A 8 (uC_rank A (nI (i - 1))) - A 8 (uC_rank A (nI i)) = pBy A i := by
  unfold pBy
  rw [if_neg e]
theorem pI.srt (h : pI d M N A) (hd : d < 2 ^ 29) {i : Nat} (hi : i < 6) (h0 : i ≠ 0) : ∃ a b : Nat, a ≤ d ∧ b ≤ d ∧ A 8 (uC_rank A (nI (i - 1))) = nI a ∧ A 8 (uC_rank A (nI i)) = nI b ∧ b ≤ a ∧ (a = b → uC_rank A (nI (i - 1)) ≤ uC_rank A (nI i)) := by
  obtain ⟨r1, e1⟩ := h.rank hd (n := i - 1) (by omega)
  obtain ⟨r2, e2⟩ := h.rank hd (n := i) (by omega)
  obtain ⟨a, ha, ea⟩ := h.db r1
  obtain ⟨b, hb, eb⟩ := h.db r2
  refine ⟨a, b, ha, hb, ea, eb, ?_⟩
  have ka : uN (A 8 (uC_rank A (nI (i - 1)))) = a := by rw [ea]; exact uN_nI (by omega)
  have kb : uN (A 8 (uC_rank A (nI i))) = b := by rw [eb]; exact uN_nI (by omega)
  generalize uC_rank A (nI (i - 1)) = x at *
  generalize uC_rank A (nI i) = y at *
  have mono : (a < b ∨ (b = a ∧ y < x)) → False := fun q => by
    have : q_ct (uBf (fun o => uN (A 8 o)) y) 6 < q_ct (uBf (fun o => uN (A 8 o)) x) 6 := by
      refine q_ct_lt (fun j hj => ?_) (j := y) ?_ ?_ 6 r2
      · unfold uBf at hj ⊢
        rw [decide_eq_true_iff] at hj ⊢
        have hj' : b < uN (A 8 j) ∨ uN (A 8 j) = b ∧ j < y := by rw [← kb]; exact hj
        show uN (A 8 x) < uN (A 8 j) ∨ uN (A 8 j) = uN (A 8 x) ∧ j < x
        rw [ka]
        omega
      · unfold uBf; rw [decide_eq_true_iff]; omega
      · unfold uBf; rw [decide_eq_true_iff]; show uN (A 8 x) < uN (A 8 y) ∨ uN (A 8 y) = uN (A 8 x) ∧ y < x; rw [ka, kb]; exact q
    omega
  exact ⟨Nat.not_lt.mp (fun q => mono (Or.inl q)), fun e => Nat.not_lt.mp (fun q => mono (Or.inr ⟨e.symm, q⟩))⟩
theorem pI.by0 (h : pI d M N A) (hd : d < 2 ^ 29) {i : Nat} (hi : i < 6) : ¬ pBy A i < 0 := by
  unfold pBy
  by_cases e : i = 0
  · rw [if_pos e]; decide
  · rw [if_neg e]
    obtain ⟨a, b, ha, hb, ea, eb, hab, _⟩ := h.srt hd hi e
    rw [ea, eb, pk_sub hab]
    exact nI_pos (by omega)
theorem pI.byE (h : pI d M N A) (hd : d < 2 ^ 29) {i : Nat} (hi : i < 6) (c : pBy A i = 0) : ¬ nI (uC_rank A (nI i)) < pBf A i := by
  unfold pBy at c
  unfold pBf
  by_cases e : i = 0
  · rw [if_pos e] at c; exact absurd c (by decide)
  · rw [if_neg e] at c ⊢
    obtain ⟨a, b, ha, hb, ea, eb, hab, q⟩ := h.srt hd hi e
    rw [ea, eb, pk_sub hab] at c
    have c2 : a - b = 0 := (nI_eq (b := 0) (by omega) (by decide)).mp c
    have r1 := (h.rank hd (n := i - 1) (by omega)).1
    have r2 := (h.rank hd (n := i) (by omega)).1
    exact nI_nlt (q (by omega)) (by omega)
theorem pI.well (h : pI d M N A) : q_every (uC_pWhole A) M 0 = true ∧ uC_alike A M ∧ q_every (uC_pSingle A M) 6 0 = true := by
  have hM8 := h.M8
  refine ⟨(q_every_iff M 0).mpr (fun m _ hm => ?_), ⟨(q_every_iff 6 0).mpr (fun g _ hg => ?_), ?_⟩, (q_every_iff 6 0).mpr (fun g _ hg => ?_)⟩
  · unfold uC_pWhole
    rw [decide_eq_true_iff]
    rintro ⟨a, b⟩
    have h1 := h.s1 (m := m) (by omega) (fun q => by rw [q] at a; exact absurd a (by decide))
    rw [h.s1n4 (by omega) h1] at b
    exact absurd b (by decide)
  · exact decide_eq_true_iff.mpr (h.learnX (by omega))
  · exact h.coins2.symm
  · unfold uC_pSingle
    rw [decide_eq_true_iff]
    rcases h.single (show g < 6 by omega) with e | e <;> rw [e] <;> decide
end PLE
