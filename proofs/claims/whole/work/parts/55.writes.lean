
/-! single writes on both sides -/
def uEt (A B : q_St) : Prop := uE (fun k => A (1 + k)) (B 113)
theorem q_p_on (S : q_St) (k x : Nat) (v : Int32) : q_p S k x v k x = v := by simp [q_p, upd]
theorem q_p_off (S : q_St) (k0 x : Nat) (v : Int32) (k i : Nat) (h : k ≠ k0 ∨ i ≠ x) : q_p S k0 x v k i = S k i := by
  rcases h with h | h
  · simp [q_p, h]
  · by_cases e : k = k0
    · subst e; simp [q_p, upd, h]
    · simp [q_p, e]
theorem uEt.mk {A B : q_St} (f0 : A 1 0 = B 113 0) (f1 : A 1 1 = B 113 5) (f2 : A 1 2 = B 113 2) (f3 : A 1 3 = B 113 3) (f4 : A 1 4 = B 113 4) (f5 : A 1 5 = 1 - B 113 1) (hw : ∀ m, m < 8 → A 2 m = B 113 (32 + 14 * m)) (md : ∀ m, m < 8 → A 3 m = B 113 (32 + 14 * m + 1)) (bk : ∀ p, p < 8 → A 4 p = B 113 (24 + p)) (am : ∀ m, m < 8 → ∀ g, g < 6 → A 5 (m * 6 + g) = B 113 (32 + 14 * m + 2 + g)) (an : ∀ m, m < 8 → ∀ g, g < 6 → A 6 (m * 6 + g) = B 113 (32 + 14 * m + 8 + g)) (cn : ∀ g, g < 6 → A 7 g = B 113 (6 + g)) (db : ∀ g, g < 6 → A 8 g = B 113 (18 + g)) (sl : ∀ g, g < 6 → A 9 g = 1 - B 113 (12 + g)) : uEt A B :=
  ⟨⟨f0, f1, f2, f3, f4, f5⟩, fun m hm => ⟨hw m hm, md m hm⟩, bk, fun m hm g hg => ⟨am m hm g hg, an m hm g hg⟩, fun g hg => ⟨cn g hg, db g hg, sl g hg⟩⟩
theorem uEt.get {A B : q_St} (h : uEt A B) : (A 1 0 = B 113 0 ∧ A 1 1 = B 113 5 ∧ A 1 2 = B 113 2 ∧ A 1 3 = B 113 3 ∧ A 1 4 = B 113 4 ∧ A 1 5 = 1 - B 113 1) ∧ (∀ m, m < 8 → A 2 m = B 113 (32 + 14 * m)) ∧ (∀ m, m < 8 → A 3 m = B 113 (32 + 14 * m + 1)) ∧ (∀ p, p < 8 → A 4 p = B 113 (24 + p)) ∧ (∀ m, m < 8 → ∀ g, g < 6 → A 5 (m * 6 + g) = B 113 (32 + 14 * m + 2 + g)) ∧ (∀ m, m < 8 → ∀ g, g < 6 → A 6 (m * 6 + g) = B 113 (32 + 14 * m + 8 + g)) ∧ (∀ g, g < 6 → A 7 g = B 113 (6 + g)) ∧ (∀ g, g < 6 → A 8 g = B 113 (18 + g)) ∧ ∀ g, g < 6 → A 9 g = 1 - B 113 (12 + g) :=
  ⟨h.1, fun m hm => (h.2.1 m hm).1, fun m hm => (h.2.1 m hm).2, h.2.2.1, fun m hm g hg => (h.2.2.2.1 m hm g hg).1, fun m hm g hg => (h.2.2.2.1 m hm g hg).2, fun g hg => (h.2.2.2.2 g hg).1, fun g hg => (h.2.2.2.2 g hg).2.1, fun g hg => (h.2.2.2.2 g hg).2.2⟩
theorem uEt.cg {A A' B B' : q_St} (h : uEt A B) (hA : ∀ k, 1 ≤ k → k < 10 → A' k = A k) (hB : B' 113 = B 113) : uEt A' B' := by
  obtain ⟨⟨f0, f1, f2, f3, f4, f5⟩, hw, md, bk, am, an, cn, db, sl⟩ := h.get
  refine uEt.mk ?_ ?_ ?_ ?_ ?_ ?_ ?_ ?_ ?_ ?_ ?_ ?_ ?_ ?_ <;> (first | rw [hA 1 (by decide) (by decide), hB] | rw [hA 2 (by decide) (by decide), hB] | rw [hA 3 (by decide) (by decide), hB] | rw [hA 4 (by decide) (by decide), hB] | rw [hA 5 (by decide) (by decide), hB] | rw [hA 6 (by decide) (by decide), hB] | rw [hA 7 (by decide) (by decide), hB] | rw [hA 8 (by decide) (by decide), hB] | rw [hA 9 (by decide) (by decide), hB]) <;> assumption
set_option maxHeartbeats 1000000 in
theorem uEt.w_f0 {A B : q_St} (h : uEt A B) (v : Int32) : uEt (q_p A 1 (0) v) (q_p B 113 (0) v) := by
  obtain ⟨⟨f0, f1, f2, f3, f4, f5⟩, hw, md, bk, am, an, cn, db, sl⟩ := h.get
  refine uEt.mk ?_ ?_ ?_ ?_ ?_ ?_ ?_ ?_ ?_ ?_ ?_ ?_ ?_ ?_
  · rw [q_p_on, q_p_on]
  · rw [q_p_off _ _ _ _ _ _ (Or.inr (by omega)), q_p_off _ _ _ _ _ _ (Or.inr (by omega))]; exact f1
  · rw [q_p_off _ _ _ _ _ _ (Or.inr (by omega)), q_p_off _ _ _ _ _ _ (Or.inr (by omega))]; exact f2
  · rw [q_p_off _ _ _ _ _ _ (Or.inr (by omega)), q_p_off _ _ _ _ _ _ (Or.inr (by omega))]; exact f3
  · rw [q_p_off _ _ _ _ _ _ (Or.inr (by omega)), q_p_off _ _ _ _ _ _ (Or.inr (by omega))]; exact f4
  · rw [q_p_off _ _ _ _ _ _ (Or.inr (by omega)), q_p_off _ _ _ _ _ _ (Or.inr (by omega))]; exact f5
  · intro m hm; rw [q_p_off _ _ _ _ _ _ (Or.inl (by decide)), q_p_off _ _ _ _ _ _ (Or.inr (by omega))]; exact hw m hm
  · intro m hm; rw [q_p_off _ _ _ _ _ _ (Or.inl (by decide)), q_p_off _ _ _ _ _ _ (Or.inr (by omega))]; exact md m hm
  · intro p hp; rw [q_p_off _ _ _ _ _ _ (Or.inl (by decide)), q_p_off _ _ _ _ _ _ (Or.inr (by omega))]; exact bk p hp
  · intro m hm; intro g hg; rw [q_p_off _ _ _ _ _ _ (Or.inl (by decide)), q_p_off _ _ _ _ _ _ (Or.inr (by omega))]; exact am m hm g hg
  · intro m hm; intro g hg; rw [q_p_off _ _ _ _ _ _ (Or.inl (by decide)), q_p_off _ _ _ _ _ _ (Or.inr (by omega))]; exact an m hm g hg
  · intro g hg; rw [q_p_off _ _ _ _ _ _ (Or.inl (by decide)), q_p_off _ _ _ _ _ _ (Or.inr (by omega))]; exact cn g hg
  · intro g hg; rw [q_p_off _ _ _ _ _ _ (Or.inl (by decide)), q_p_off _ _ _ _ _ _ (Or.inr (by omega))]; exact db g hg
  · intro g hg; rw [q_p_off _ _ _ _ _ _ (Or.inl (by decide)), q_p_off _ _ _ _ _ _ (Or.inr (by omega))]; exact sl g hg
set_option maxHeartbeats 1000000 in
theorem uEt.w_f1 {A B : q_St} (h : uEt A B) (v : Int32) : uEt (q_p A 1 (1) v) (q_p B 113 (5) v) := by
  obtain ⟨⟨f0, f1, f2, f3, f4, f5⟩, hw, md, bk, am, an, cn, db, sl⟩ := h.get
  refine uEt.mk ?_ ?_ ?_ ?_ ?_ ?_ ?_ ?_ ?_ ?_ ?_ ?_ ?_ ?_
  · rw [q_p_off _ _ _ _ _ _ (Or.inr (by omega)), q_p_off _ _ _ _ _ _ (Or.inr (by omega))]; exact f0
  · rw [q_p_on, q_p_on]
  · rw [q_p_off _ _ _ _ _ _ (Or.inr (by omega)), q_p_off _ _ _ _ _ _ (Or.inr (by omega))]; exact f2
  · rw [q_p_off _ _ _ _ _ _ (Or.inr (by omega)), q_p_off _ _ _ _ _ _ (Or.inr (by omega))]; exact f3
  · rw [q_p_off _ _ _ _ _ _ (Or.inr (by omega)), q_p_off _ _ _ _ _ _ (Or.inr (by omega))]; exact f4
  · rw [q_p_off _ _ _ _ _ _ (Or.inr (by omega)), q_p_off _ _ _ _ _ _ (Or.inr (by omega))]; exact f5
  · intro m hm; rw [q_p_off _ _ _ _ _ _ (Or.inl (by decide)), q_p_off _ _ _ _ _ _ (Or.inr (by omega))]; exact hw m hm
  · intro m hm; rw [q_p_off _ _ _ _ _ _ (Or.inl (by decide)), q_p_off _ _ _ _ _ _ (Or.inr (by omega))]; exact md m hm
  · intro p hp; rw [q_p_off _ _ _ _ _ _ (Or.inl (by decide)), q_p_off _ _ _ _ _ _ (Or.inr (by omega))]; exact bk p hp
  · intro m hm; intro g hg; rw [q_p_off _ _ _ _ _ _ (Or.inl (by decide)), q_p_off _ _ _ _ _ _ (Or.inr (by omega))]; exact am m hm g hg
  · intro m hm; intro g hg; rw [q_p_off _ _ _ _ _ _ (Or.inl (by decide)), q_p_off _ _ _ _ _ _ (Or.inr (by omega))]; exact an m hm g hg
  · intro g hg; rw [q_p_off _ _ _ _ _ _ (Or.inl (by decide)), q_p_off _ _ _ _ _ _ (Or.inr (by omega))]; exact cn g hg
  · intro g hg; rw [q_p_off _ _ _ _ _ _ (Or.inl (by decide)), q_p_off _ _ _ _ _ _ (Or.inr (by omega))]; exact db g hg
  · intro g hg; rw [q_p_off _ _ _ _ _ _ (Or.inl (by decide)), q_p_off _ _ _ _ _ _ (Or.inr (by omega))]; exact sl g hg
set_option maxHeartbeats 1000000 in
theorem uEt.w_f2 {A B : q_St} (h : uEt A B) (v : Int32) : uEt (q_p A 1 (2) v) (q_p B 113 (2) v) := by
  obtain ⟨⟨f0, f1, f2, f3, f4, f5⟩, hw, md, bk, am, an, cn, db, sl⟩ := h.get
  refine uEt.mk ?_ ?_ ?_ ?_ ?_ ?_ ?_ ?_ ?_ ?_ ?_ ?_ ?_ ?_
  · rw [q_p_off _ _ _ _ _ _ (Or.inr (by omega)), q_p_off _ _ _ _ _ _ (Or.inr (by omega))]; exact f0
  · rw [q_p_off _ _ _ _ _ _ (Or.inr (by omega)), q_p_off _ _ _ _ _ _ (Or.inr (by omega))]; exact f1
  · rw [q_p_on, q_p_on]
  · rw [q_p_off _ _ _ _ _ _ (Or.inr (by omega)), q_p_off _ _ _ _ _ _ (Or.inr (by omega))]; exact f3
  · rw [q_p_off _ _ _ _ _ _ (Or.inr (by omega)), q_p_off _ _ _ _ _ _ (Or.inr (by omega))]; exact f4
  · rw [q_p_off _ _ _ _ _ _ (Or.inr (by omega)), q_p_off _ _ _ _ _ _ (Or.inr (by omega))]; exact f5
  · intro m hm; rw [q_p_off _ _ _ _ _ _ (Or.inl (by decide)), q_p_off _ _ _ _ _ _ (Or.inr (by omega))]; exact hw m hm
  · intro m hm; rw [q_p_off _ _ _ _ _ _ (Or.inl (by decide)), q_p_off _ _ _ _ _ _ (Or.inr (by omega))]; exact md m hm
  · intro p hp; rw [q_p_off _ _ _ _ _ _ (Or.inl (by decide)), q_p_off _ _ _ _ _ _ (Or.inr (by omega))]; exact bk p hp
  · intro m hm; intro g hg; rw [q_p_off _ _ _ _ _ _ (Or.inl (by decide)), q_p_off _ _ _ _ _ _ (Or.inr (by omega))]; exact am m hm g hg
  · intro m hm; intro g hg; rw [q_p_off _ _ _ _ _ _ (Or.inl (by decide)), q_p_off _ _ _ _ _ _ (Or.inr (by omega))]; exact an m hm g hg
  · intro g hg; rw [q_p_off _ _ _ _ _ _ (Or.inl (by decide)), q_p_off _ _ _ _ _ _ (Or.inr (by omega))]; exact cn g hg
  · intro g hg; rw [q_p_off _ _ _ _ _ _ (Or.inl (by decide)), q_p_off _ _ _ _ _ _ (Or.inr (by omega))]; exact db g hg
  · intro g hg; rw [q_p_off _ _ _ _ _ _ (Or.inl (by decide)), q_p_off _ _ _ _ _ _ (Or.inr (by omega))]; exact sl g hg
set_option maxHeartbeats 1000000 in
theorem uEt.w_f3 {A B : q_St} (h : uEt A B) (v : Int32) : uEt (q_p A 1 (3) v) (q_p B 113 (3) v) := by
  obtain ⟨⟨f0, f1, f2, f3, f4, f5⟩, hw, md, bk, am, an, cn, db, sl⟩ := h.get
  refine uEt.mk ?_ ?_ ?_ ?_ ?_ ?_ ?_ ?_ ?_ ?_ ?_ ?_ ?_ ?_
  · rw [q_p_off _ _ _ _ _ _ (Or.inr (by omega)), q_p_off _ _ _ _ _ _ (Or.inr (by omega))]; exact f0
  · rw [q_p_off _ _ _ _ _ _ (Or.inr (by omega)), q_p_off _ _ _ _ _ _ (Or.inr (by omega))]; exact f1
  · rw [q_p_off _ _ _ _ _ _ (Or.inr (by omega)), q_p_off _ _ _ _ _ _ (Or.inr (by omega))]; exact f2
  · rw [q_p_on, q_p_on]
  · rw [q_p_off _ _ _ _ _ _ (Or.inr (by omega)), q_p_off _ _ _ _ _ _ (Or.inr (by omega))]; exact f4
  · rw [q_p_off _ _ _ _ _ _ (Or.inr (by omega)), q_p_off _ _ _ _ _ _ (Or.inr (by omega))]; exact f5
  · intro m hm; rw [q_p_off _ _ _ _ _ _ (Or.inl (by decide)), q_p_off _ _ _ _ _ _ (Or.inr (by omega))]; exact hw m hm
  · intro m hm; rw [q_p_off _ _ _ _ _ _ (Or.inl (by decide)), q_p_off _ _ _ _ _ _ (Or.inr (by omega))]; exact md m hm
  · intro p hp; rw [q_p_off _ _ _ _ _ _ (Or.inl (by decide)), q_p_off _ _ _ _ _ _ (Or.inr (by omega))]; exact bk p hp
  · intro m hm; intro g hg; rw [q_p_off _ _ _ _ _ _ (Or.inl (by decide)), q_p_off _ _ _ _ _ _ (Or.inr (by omega))]; exact am m hm g hg
  · intro m hm; intro g hg; rw [q_p_off _ _ _ _ _ _ (Or.inl (by decide)), q_p_off _ _ _ _ _ _ (Or.inr (by omega))]; exact an m hm g hg
  · intro g hg; rw [q_p_off _ _ _ _ _ _ (Or.inl (by decide)), q_p_off _ _ _ _ _ _ (Or.inr (by omega))]; exact cn g hg
  · intro g hg; rw [q_p_off _ _ _ _ _ _ (Or.inl (by decide)), q_p_off _ _ _ _ _ _ (Or.inr (by omega))]; exact db g hg
  · intro g hg; rw [q_p_off _ _ _ _ _ _ (Or.inl (by decide)), q_p_off _ _ _ _ _ _ (Or.inr (by omega))]; exact sl g hg
set_option maxHeartbeats 1000000 in
theorem uEt.w_f4 {A B : q_St} (h : uEt A B) (v : Int32) : uEt (q_p A 1 (4) v) (q_p B 113 (4) v) := by
  obtain ⟨⟨f0, f1, f2, f3, f4, f5⟩, hw, md, bk, am, an, cn, db, sl⟩ := h.get
  refine uEt.mk ?_ ?_ ?_ ?_ ?_ ?_ ?_ ?_ ?_ ?_ ?_ ?_ ?_ ?_
  · rw [q_p_off _ _ _ _ _ _ (Or.inr (by omega)), q_p_off _ _ _ _ _ _ (Or.inr (by omega))]; exact f0
  · rw [q_p_off _ _ _ _ _ _ (Or.inr (by omega)), q_p_off _ _ _ _ _ _ (Or.inr (by omega))]; exact f1
  · rw [q_p_off _ _ _ _ _ _ (Or.inr (by omega)), q_p_off _ _ _ _ _ _ (Or.inr (by omega))]; exact f2
  · rw [q_p_off _ _ _ _ _ _ (Or.inr (by omega)), q_p_off _ _ _ _ _ _ (Or.inr (by omega))]; exact f3
  · rw [q_p_on, q_p_on]
  · rw [q_p_off _ _ _ _ _ _ (Or.inr (by omega)), q_p_off _ _ _ _ _ _ (Or.inr (by omega))]; exact f5
  · intro m hm; rw [q_p_off _ _ _ _ _ _ (Or.inl (by decide)), q_p_off _ _ _ _ _ _ (Or.inr (by omega))]; exact hw m hm
  · intro m hm; rw [q_p_off _ _ _ _ _ _ (Or.inl (by decide)), q_p_off _ _ _ _ _ _ (Or.inr (by omega))]; exact md m hm
  · intro p hp; rw [q_p_off _ _ _ _ _ _ (Or.inl (by decide)), q_p_off _ _ _ _ _ _ (Or.inr (by omega))]; exact bk p hp
  · intro m hm; intro g hg; rw [q_p_off _ _ _ _ _ _ (Or.inl (by decide)), q_p_off _ _ _ _ _ _ (Or.inr (by omega))]; exact am m hm g hg
  · intro m hm; intro g hg; rw [q_p_off _ _ _ _ _ _ (Or.inl (by decide)), q_p_off _ _ _ _ _ _ (Or.inr (by omega))]; exact an m hm g hg
  · intro g hg; rw [q_p_off _ _ _ _ _ _ (Or.inl (by decide)), q_p_off _ _ _ _ _ _ (Or.inr (by omega))]; exact cn g hg
  · intro g hg; rw [q_p_off _ _ _ _ _ _ (Or.inl (by decide)), q_p_off _ _ _ _ _ _ (Or.inr (by omega))]; exact db g hg
  · intro g hg; rw [q_p_off _ _ _ _ _ _ (Or.inl (by decide)), q_p_off _ _ _ _ _ _ (Or.inr (by omega))]; exact sl g hg
set_option maxHeartbeats 1000000 in
theorem uEt.w_f5 {A B : q_St} (h : uEt A B) (v : Int32) : uEt (q_p A 1 (5) (1 - v)) (q_p B 113 (1) v) := by
  obtain ⟨⟨f0, f1, f2, f3, f4, f5⟩, hw, md, bk, am, an, cn, db, sl⟩ := h.get
  refine uEt.mk ?_ ?_ ?_ ?_ ?_ ?_ ?_ ?_ ?_ ?_ ?_ ?_ ?_ ?_
  · rw [q_p_off _ _ _ _ _ _ (Or.inr (by omega)), q_p_off _ _ _ _ _ _ (Or.inr (by omega))]; exact f0
  · rw [q_p_off _ _ _ _ _ _ (Or.inr (by omega)), q_p_off _ _ _ _ _ _ (Or.inr (by omega))]; exact f1
  · rw [q_p_off _ _ _ _ _ _ (Or.inr (by omega)), q_p_off _ _ _ _ _ _ (Or.inr (by omega))]; exact f2
  · rw [q_p_off _ _ _ _ _ _ (Or.inr (by omega)), q_p_off _ _ _ _ _ _ (Or.inr (by omega))]; exact f3
  · rw [q_p_off _ _ _ _ _ _ (Or.inr (by omega)), q_p_off _ _ _ _ _ _ (Or.inr (by omega))]; exact f4
  · rw [q_p_on, q_p_on]
  · intro m hm; rw [q_p_off _ _ _ _ _ _ (Or.inl (by decide)), q_p_off _ _ _ _ _ _ (Or.inr (by omega))]; exact hw m hm
  · intro m hm; rw [q_p_off _ _ _ _ _ _ (Or.inl (by decide)), q_p_off _ _ _ _ _ _ (Or.inr (by omega))]; exact md m hm
  · intro p hp; rw [q_p_off _ _ _ _ _ _ (Or.inl (by decide)), q_p_off _ _ _ _ _ _ (Or.inr (by omega))]; exact bk p hp
  · intro m hm; intro g hg; rw [q_p_off _ _ _ _ _ _ (Or.inl (by decide)), q_p_off _ _ _ _ _ _ (Or.inr (by omega))]; exact am m hm g hg
  · intro m hm; intro g hg; rw [q_p_off _ _ _ _ _ _ (Or.inl (by decide)), q_p_off _ _ _ _ _ _ (Or.inr (by omega))]; exact an m hm g hg
  · intro g hg; rw [q_p_off _ _ _ _ _ _ (Or.inl (by decide)), q_p_off _ _ _ _ _ _ (Or.inr (by omega))]; exact cn g hg
  · intro g hg; rw [q_p_off _ _ _ _ _ _ (Or.inl (by decide)), q_p_off _ _ _ _ _ _ (Or.inr (by omega))]; exact db g hg
  · intro g hg; rw [q_p_off _ _ _ _ _ _ (Or.inl (by decide)), q_p_off _ _ _ _ _ _ (Or.inr (by omega))]; exact sl g hg
set_option maxHeartbeats 1000000 in
theorem uEt.w_hw {A B : q_St} (h : uEt A B) {m0 : Nat} (hm0 : m0 < 8) (v : Int32) : uEt (q_p A 2 (m0) v) (q_p B 113 (32 + 14 * m0) v) := by
  obtain ⟨⟨f0, f1, f2, f3, f4, f5⟩, hw, md, bk, am, an, cn, db, sl⟩ := h.get
  refine uEt.mk ?_ ?_ ?_ ?_ ?_ ?_ ?_ ?_ ?_ ?_ ?_ ?_ ?_ ?_
  · rw [q_p_off _ _ _ _ _ _ (Or.inl (by decide)), q_p_off _ _ _ _ _ _ (Or.inr (by omega))]; exact f0
  · rw [q_p_off _ _ _ _ _ _ (Or.inl (by decide)), q_p_off _ _ _ _ _ _ (Or.inr (by omega))]; exact f1
  · rw [q_p_off _ _ _ _ _ _ (Or.inl (by decide)), q_p_off _ _ _ _ _ _ (Or.inr (by omega))]; exact f2
  · rw [q_p_off _ _ _ _ _ _ (Or.inl (by decide)), q_p_off _ _ _ _ _ _ (Or.inr (by omega))]; exact f3
  · rw [q_p_off _ _ _ _ _ _ (Or.inl (by decide)), q_p_off _ _ _ _ _ _ (Or.inr (by omega))]; exact f4
  · rw [q_p_off _ _ _ _ _ _ (Or.inl (by decide)), q_p_off _ _ _ _ _ _ (Or.inr (by omega))]; exact f5
  · intro m hm; by_cases e : m = m0
    · obtain rfl := e
      rw [q_p_on, q_p_on]
    · rw [q_p_off _ _ _ _ _ _ (Or.inr (by omega)), q_p_off _ _ _ _ _ _ (Or.inr (by omega))]; exact hw m hm
  · intro m hm; rw [q_p_off _ _ _ _ _ _ (Or.inl (by decide)), q_p_off _ _ _ _ _ _ (Or.inr (by omega))]; exact md m hm
  · intro p hp; rw [q_p_off _ _ _ _ _ _ (Or.inl (by decide)), q_p_off _ _ _ _ _ _ (Or.inr (by omega))]; exact bk p hp
  · intro m hm; intro g hg; rw [q_p_off _ _ _ _ _ _ (Or.inl (by decide)), q_p_off _ _ _ _ _ _ (Or.inr (by omega))]; exact am m hm g hg
  · intro m hm; intro g hg; rw [q_p_off _ _ _ _ _ _ (Or.inl (by decide)), q_p_off _ _ _ _ _ _ (Or.inr (by omega))]; exact an m hm g hg
  · intro g hg; rw [q_p_off _ _ _ _ _ _ (Or.inl (by decide)), q_p_off _ _ _ _ _ _ (Or.inr (by omega))]; exact cn g hg
  · intro g hg; rw [q_p_off _ _ _ _ _ _ (Or.inl (by decide)), q_p_off _ _ _ _ _ _ (Or.inr (by omega))]; exact db g hg
  · intro g hg; rw [q_p_off _ _ _ _ _ _ (Or.inl (by decide)), q_p_off _ _ _ _ _ _ (Or.inr (by omega))]; exact sl g hg
set_option maxHeartbeats 1000000 in
theorem uEt.w_md {A B : q_St} (h : uEt A B) {m0 : Nat} (hm0 : m0 < 8) (v : Int32) : uEt (q_p A 3 (m0) v) (q_p B 113 (32 + 14 * m0 + 1) v) := by
  obtain ⟨⟨f0, f1, f2, f3, f4, f5⟩, hw, md, bk, am, an, cn, db, sl⟩ := h.get
  refine uEt.mk ?_ ?_ ?_ ?_ ?_ ?_ ?_ ?_ ?_ ?_ ?_ ?_ ?_ ?_
  · rw [q_p_off _ _ _ _ _ _ (Or.inl (by decide)), q_p_off _ _ _ _ _ _ (Or.inr (by omega))]; exact f0
  · rw [q_p_off _ _ _ _ _ _ (Or.inl (by decide)), q_p_off _ _ _ _ _ _ (Or.inr (by omega))]; exact f1
  · rw [q_p_off _ _ _ _ _ _ (Or.inl (by decide)), q_p_off _ _ _ _ _ _ (Or.inr (by omega))]; exact f2
  · rw [q_p_off _ _ _ _ _ _ (Or.inl (by decide)), q_p_off _ _ _ _ _ _ (Or.inr (by omega))]; exact f3
  · rw [q_p_off _ _ _ _ _ _ (Or.inl (by decide)), q_p_off _ _ _ _ _ _ (Or.inr (by omega))]; exact f4
  · rw [q_p_off _ _ _ _ _ _ (Or.inl (by decide)), q_p_off _ _ _ _ _ _ (Or.inr (by omega))]; exact f5
  · intro m hm; rw [q_p_off _ _ _ _ _ _ (Or.inl (by decide)), q_p_off _ _ _ _ _ _ (Or.inr (by omega))]; exact hw m hm
  · intro m hm; by_cases e : m = m0
    · obtain rfl := e
      rw [q_p_on, q_p_on]
    · rw [q_p_off _ _ _ _ _ _ (Or.inr (by omega)), q_p_off _ _ _ _ _ _ (Or.inr (by omega))]; exact md m hm
  · intro p hp; rw [q_p_off _ _ _ _ _ _ (Or.inl (by decide)), q_p_off _ _ _ _ _ _ (Or.inr (by omega))]; exact bk p hp
  · intro m hm; intro g hg; rw [q_p_off _ _ _ _ _ _ (Or.inl (by decide)), q_p_off _ _ _ _ _ _ (Or.inr (by omega))]; exact am m hm g hg
  · intro m hm; intro g hg; rw [q_p_off _ _ _ _ _ _ (Or.inl (by decide)), q_p_off _ _ _ _ _ _ (Or.inr (by omega))]; exact an m hm g hg
  · intro g hg; rw [q_p_off _ _ _ _ _ _ (Or.inl (by decide)), q_p_off _ _ _ _ _ _ (Or.inr (by omega))]; exact cn g hg
  · intro g hg; rw [q_p_off _ _ _ _ _ _ (Or.inl (by decide)), q_p_off _ _ _ _ _ _ (Or.inr (by omega))]; exact db g hg
  · intro g hg; rw [q_p_off _ _ _ _ _ _ (Or.inl (by decide)), q_p_off _ _ _ _ _ _ (Or.inr (by omega))]; exact sl g hg
set_option maxHeartbeats 1000000 in
theorem uEt.w_bk {A B : q_St} (h : uEt A B) {p0 : Nat} (hp0 : p0 < 8) (v : Int32) : uEt (q_p A 4 (p0) v) (q_p B 113 (24 + p0) v) := by
  obtain ⟨⟨f0, f1, f2, f3, f4, f5⟩, hw, md, bk, am, an, cn, db, sl⟩ := h.get
  refine uEt.mk ?_ ?_ ?_ ?_ ?_ ?_ ?_ ?_ ?_ ?_ ?_ ?_ ?_ ?_
  · rw [q_p_off _ _ _ _ _ _ (Or.inl (by decide)), q_p_off _ _ _ _ _ _ (Or.inr (by omega))]; exact f0
  · rw [q_p_off _ _ _ _ _ _ (Or.inl (by decide)), q_p_off _ _ _ _ _ _ (Or.inr (by omega))]; exact f1
  · rw [q_p_off _ _ _ _ _ _ (Or.inl (by decide)), q_p_off _ _ _ _ _ _ (Or.inr (by omega))]; exact f2
  · rw [q_p_off _ _ _ _ _ _ (Or.inl (by decide)), q_p_off _ _ _ _ _ _ (Or.inr (by omega))]; exact f3
  · rw [q_p_off _ _ _ _ _ _ (Or.inl (by decide)), q_p_off _ _ _ _ _ _ (Or.inr (by omega))]; exact f4
  · rw [q_p_off _ _ _ _ _ _ (Or.inl (by decide)), q_p_off _ _ _ _ _ _ (Or.inr (by omega))]; exact f5
  · intro m hm; rw [q_p_off _ _ _ _ _ _ (Or.inl (by decide)), q_p_off _ _ _ _ _ _ (Or.inr (by omega))]; exact hw m hm
  · intro m hm; rw [q_p_off _ _ _ _ _ _ (Or.inl (by decide)), q_p_off _ _ _ _ _ _ (Or.inr (by omega))]; exact md m hm
  · intro p hp; by_cases e : p = p0
    · obtain rfl := e
      rw [q_p_on, q_p_on]
    · rw [q_p_off _ _ _ _ _ _ (Or.inr (by omega)), q_p_off _ _ _ _ _ _ (Or.inr (by omega))]; exact bk p hp
  · intro m hm; intro g hg; rw [q_p_off _ _ _ _ _ _ (Or.inl (by decide)), q_p_off _ _ _ _ _ _ (Or.inr (by omega))]; exact am m hm g hg
  · intro m hm; intro g hg; rw [q_p_off _ _ _ _ _ _ (Or.inl (by decide)), q_p_off _ _ _ _ _ _ (Or.inr (by omega))]; exact an m hm g hg
  · intro g hg; rw [q_p_off _ _ _ _ _ _ (Or.inl (by decide)), q_p_off _ _ _ _ _ _ (Or.inr (by omega))]; exact cn g hg
  · intro g hg; rw [q_p_off _ _ _ _ _ _ (Or.inl (by decide)), q_p_off _ _ _ _ _ _ (Or.inr (by omega))]; exact db g hg
  · intro g hg; rw [q_p_off _ _ _ _ _ _ (Or.inl (by decide)), q_p_off _ _ _ _ _ _ (Or.inr (by omega))]; exact sl g hg
set_option maxHeartbeats 1000000 in
theorem uEt.w_am {A B : q_St} (h : uEt A B) {m0 : Nat} (hm0 : m0 < 8) {g0 : Nat} (hg0 : g0 < 6) (v : Int32) : uEt (q_p A 5 (m0 * 6 + g0) v) (q_p B 113 (32 + 14 * m0 + 2 + g0) v) := by
  obtain ⟨⟨f0, f1, f2, f3, f4, f5⟩, hw, md, bk, am, an, cn, db, sl⟩ := h.get
  refine uEt.mk ?_ ?_ ?_ ?_ ?_ ?_ ?_ ?_ ?_ ?_ ?_ ?_ ?_ ?_
  · rw [q_p_off _ _ _ _ _ _ (Or.inl (by decide)), q_p_off _ _ _ _ _ _ (Or.inr (by omega))]; exact f0
  · rw [q_p_off _ _ _ _ _ _ (Or.inl (by decide)), q_p_off _ _ _ _ _ _ (Or.inr (by omega))]; exact f1
  · rw [q_p_off _ _ _ _ _ _ (Or.inl (by decide)), q_p_off _ _ _ _ _ _ (Or.inr (by omega))]; exact f2
  · rw [q_p_off _ _ _ _ _ _ (Or.inl (by decide)), q_p_off _ _ _ _ _ _ (Or.inr (by omega))]; exact f3
  · rw [q_p_off _ _ _ _ _ _ (Or.inl (by decide)), q_p_off _ _ _ _ _ _ (Or.inr (by omega))]; exact f4
  · rw [q_p_off _ _ _ _ _ _ (Or.inl (by decide)), q_p_off _ _ _ _ _ _ (Or.inr (by omega))]; exact f5
  · intro m hm; rw [q_p_off _ _ _ _ _ _ (Or.inl (by decide)), q_p_off _ _ _ _ _ _ (Or.inr (by omega))]; exact hw m hm
  · intro m hm; rw [q_p_off _ _ _ _ _ _ (Or.inl (by decide)), q_p_off _ _ _ _ _ _ (Or.inr (by omega))]; exact md m hm
  · intro p hp; rw [q_p_off _ _ _ _ _ _ (Or.inl (by decide)), q_p_off _ _ _ _ _ _ (Or.inr (by omega))]; exact bk p hp
  · intro m hm; intro g hg; by_cases e : m = m0 ∧ g = g0
    · obtain ⟨rfl, rfl⟩ := e
      rw [q_p_on, q_p_on]
    · rw [q_p_off _ _ _ _ _ _ (Or.inr (by omega)), q_p_off _ _ _ _ _ _ (Or.inr (by omega))]; exact am m hm g hg
  · intro m hm; intro g hg; rw [q_p_off _ _ _ _ _ _ (Or.inl (by decide)), q_p_off _ _ _ _ _ _ (Or.inr (by omega))]; exact an m hm g hg
  · intro g hg; rw [q_p_off _ _ _ _ _ _ (Or.inl (by decide)), q_p_off _ _ _ _ _ _ (Or.inr (by omega))]; exact cn g hg
  · intro g hg; rw [q_p_off _ _ _ _ _ _ (Or.inl (by decide)), q_p_off _ _ _ _ _ _ (Or.inr (by omega))]; exact db g hg
  · intro g hg; rw [q_p_off _ _ _ _ _ _ (Or.inl (by decide)), q_p_off _ _ _ _ _ _ (Or.inr (by omega))]; exact sl g hg
set_option maxHeartbeats 1000000 in
theorem uEt.w_an {A B : q_St} (h : uEt A B) {m0 : Nat} (hm0 : m0 < 8) {g0 : Nat} (hg0 : g0 < 6) (v : Int32) : uEt (q_p A 6 (m0 * 6 + g0) v) (q_p B 113 (32 + 14 * m0 + 8 + g0) v) := by
  obtain ⟨⟨f0, f1, f2, f3, f4, f5⟩, hw, md, bk, am, an, cn, db, sl⟩ := h.get
  refine uEt.mk ?_ ?_ ?_ ?_ ?_ ?_ ?_ ?_ ?_ ?_ ?_ ?_ ?_ ?_
  · rw [q_p_off _ _ _ _ _ _ (Or.inl (by decide)), q_p_off _ _ _ _ _ _ (Or.inr (by omega))]; exact f0
  · rw [q_p_off _ _ _ _ _ _ (Or.inl (by decide)), q_p_off _ _ _ _ _ _ (Or.inr (by omega))]; exact f1
  · rw [q_p_off _ _ _ _ _ _ (Or.inl (by decide)), q_p_off _ _ _ _ _ _ (Or.inr (by omega))]; exact f2
  · rw [q_p_off _ _ _ _ _ _ (Or.inl (by decide)), q_p_off _ _ _ _ _ _ (Or.inr (by omega))]; exact f3
  · rw [q_p_off _ _ _ _ _ _ (Or.inl (by decide)), q_p_off _ _ _ _ _ _ (Or.inr (by omega))]; exact f4
  · rw [q_p_off _ _ _ _ _ _ (Or.inl (by decide)), q_p_off _ _ _ _ _ _ (Or.inr (by omega))]; exact f5
  · intro m hm; rw [q_p_off _ _ _ _ _ _ (Or.inl (by decide)), q_p_off _ _ _ _ _ _ (Or.inr (by omega))]; exact hw m hm
  · intro m hm; rw [q_p_off _ _ _ _ _ _ (Or.inl (by decide)), q_p_off _ _ _ _ _ _ (Or.inr (by omega))]; exact md m hm
  · intro p hp; rw [q_p_off _ _ _ _ _ _ (Or.inl (by decide)), q_p_off _ _ _ _ _ _ (Or.inr (by omega))]; exact bk p hp
  · intro m hm; intro g hg; rw [q_p_off _ _ _ _ _ _ (Or.inl (by decide)), q_p_off _ _ _ _ _ _ (Or.inr (by omega))]; exact am m hm g hg
  · intro m hm; intro g hg; by_cases e : m = m0 ∧ g = g0
    · obtain ⟨rfl, rfl⟩ := e
      rw [q_p_on, q_p_on]
    · rw [q_p_off _ _ _ _ _ _ (Or.inr (by omega)), q_p_off _ _ _ _ _ _ (Or.inr (by omega))]; exact an m hm g hg
  · intro g hg; rw [q_p_off _ _ _ _ _ _ (Or.inl (by decide)), q_p_off _ _ _ _ _ _ (Or.inr (by omega))]; exact cn g hg
  · intro g hg; rw [q_p_off _ _ _ _ _ _ (Or.inl (by decide)), q_p_off _ _ _ _ _ _ (Or.inr (by omega))]; exact db g hg
  · intro g hg; rw [q_p_off _ _ _ _ _ _ (Or.inl (by decide)), q_p_off _ _ _ _ _ _ (Or.inr (by omega))]; exact sl g hg
set_option maxHeartbeats 1000000 in
theorem uEt.w_cn {A B : q_St} (h : uEt A B) {g0 : Nat} (hg0 : g0 < 6) (v : Int32) : uEt (q_p A 7 (g0) v) (q_p B 113 (6 + g0) v) := by
  obtain ⟨⟨f0, f1, f2, f3, f4, f5⟩, hw, md, bk, am, an, cn, db, sl⟩ := h.get
  refine uEt.mk ?_ ?_ ?_ ?_ ?_ ?_ ?_ ?_ ?_ ?_ ?_ ?_ ?_ ?_
  · rw [q_p_off _ _ _ _ _ _ (Or.inl (by decide)), q_p_off _ _ _ _ _ _ (Or.inr (by omega))]; exact f0
  · rw [q_p_off _ _ _ _ _ _ (Or.inl (by decide)), q_p_off _ _ _ _ _ _ (Or.inr (by omega))]; exact f1
  · rw [q_p_off _ _ _ _ _ _ (Or.inl (by decide)), q_p_off _ _ _ _ _ _ (Or.inr (by omega))]; exact f2
  · rw [q_p_off _ _ _ _ _ _ (Or.inl (by decide)), q_p_off _ _ _ _ _ _ (Or.inr (by omega))]; exact f3
  · rw [q_p_off _ _ _ _ _ _ (Or.inl (by decide)), q_p_off _ _ _ _ _ _ (Or.inr (by omega))]; exact f4
  · rw [q_p_off _ _ _ _ _ _ (Or.inl (by decide)), q_p_off _ _ _ _ _ _ (Or.inr (by omega))]; exact f5
  · intro m hm; rw [q_p_off _ _ _ _ _ _ (Or.inl (by decide)), q_p_off _ _ _ _ _ _ (Or.inr (by omega))]; exact hw m hm
  · intro m hm; rw [q_p_off _ _ _ _ _ _ (Or.inl (by decide)), q_p_off _ _ _ _ _ _ (Or.inr (by omega))]; exact md m hm
  · intro p hp; rw [q_p_off _ _ _ _ _ _ (Or.inl (by decide)), q_p_off _ _ _ _ _ _ (Or.inr (by omega))]; exact bk p hp
  · intro m hm; intro g hg; rw [q_p_off _ _ _ _ _ _ (Or.inl (by decide)), q_p_off _ _ _ _ _ _ (Or.inr (by omega))]; exact am m hm g hg
  · intro m hm; intro g hg; rw [q_p_off _ _ _ _ _ _ (Or.inl (by decide)), q_p_off _ _ _ _ _ _ (Or.inr (by omega))]; exact an m hm g hg
  · intro g hg; by_cases e : g = g0
    · obtain rfl := e
      rw [q_p_on, q_p_on]
    · rw [q_p_off _ _ _ _ _ _ (Or.inr (by omega)), q_p_off _ _ _ _ _ _ (Or.inr (by omega))]; exact cn g hg
  · intro g hg; rw [q_p_off _ _ _ _ _ _ (Or.inl (by decide)), q_p_off _ _ _ _ _ _ (Or.inr (by omega))]; exact db g hg
  · intro g hg; rw [q_p_off _ _ _ _ _ _ (Or.inl (by decide)), q_p_off _ _ _ _ _ _ (Or.inr (by omega))]; exact sl g hg
set_option maxHeartbeats 1000000 in
theorem uEt.w_db {A B : q_St} (h : uEt A B) {g0 : Nat} (hg0 : g0 < 6) (v : Int32) : uEt (q_p A 8 (g0) v) (q_p B 113 (18 + g0) v) := by
  obtain ⟨⟨f0, f1, f2, f3, f4, f5⟩, hw, md, bk, am, an, cn, db, sl⟩ := h.get
  refine uEt.mk ?_ ?_ ?_ ?_ ?_ ?_ ?_ ?_ ?_ ?_ ?_ ?_ ?_ ?_
  · rw [q_p_off _ _ _ _ _ _ (Or.inl (by decide)), q_p_off _ _ _ _ _ _ (Or.inr (by omega))]; exact f0
  · rw [q_p_off _ _ _ _ _ _ (Or.inl (by decide)), q_p_off _ _ _ _ _ _ (Or.inr (by omega))]; exact f1
  · rw [q_p_off _ _ _ _ _ _ (Or.inl (by decide)), q_p_off _ _ _ _ _ _ (Or.inr (by omega))]; exact f2
  · rw [q_p_off _ _ _ _ _ _ (Or.inl (by decide)), q_p_off _ _ _ _ _ _ (Or.inr (by omega))]; exact f3
  · rw [q_p_off _ _ _ _ _ _ (Or.inl (by decide)), q_p_off _ _ _ _ _ _ (Or.inr (by omega))]; exact f4
  · rw [q_p_off _ _ _ _ _ _ (Or.inl (by decide)), q_p_off _ _ _ _ _ _ (Or.inr (by omega))]; exact f5
  · intro m hm; rw [q_p_off _ _ _ _ _ _ (Or.inl (by decide)), q_p_off _ _ _ _ _ _ (Or.inr (by omega))]; exact hw m hm
  · intro m hm; rw [q_p_off _ _ _ _ _ _ (Or.inl (by decide)), q_p_off _ _ _ _ _ _ (Or.inr (by omega))]; exact md m hm
  · intro p hp; rw [q_p_off _ _ _ _ _ _ (Or.inl (by decide)), q_p_off _ _ _ _ _ _ (Or.inr (by omega))]; exact bk p hp
  · intro m hm; intro g hg; rw [q_p_off _ _ _ _ _ _ (Or.inl (by decide)), q_p_off _ _ _ _ _ _ (Or.inr (by omega))]; exact am m hm g hg
  · intro m hm; intro g hg; rw [q_p_off _ _ _ _ _ _ (Or.inl (by decide)), q_p_off _ _ _ _ _ _ (Or.inr (by omega))]; exact an m hm g hg
  · intro g hg; rw [q_p_off _ _ _ _ _ _ (Or.inl (by decide)), q_p_off _ _ _ _ _ _ (Or.inr (by omega))]; exact cn g hg
  · intro g hg; by_cases e : g = g0
    · obtain rfl := e
      rw [q_p_on, q_p_on]
    · rw [q_p_off _ _ _ _ _ _ (Or.inr (by omega)), q_p_off _ _ _ _ _ _ (Or.inr (by omega))]; exact db g hg
  · intro g hg; rw [q_p_off _ _ _ _ _ _ (Or.inl (by decide)), q_p_off _ _ _ _ _ _ (Or.inr (by omega))]; exact sl g hg
set_option maxHeartbeats 1000000 in
theorem uEt.w_sl {A B : q_St} (h : uEt A B) {g0 : Nat} (hg0 : g0 < 6) (v : Int32) : uEt (q_p A 9 (g0) (1 - v)) (q_p B 113 (12 + g0) v) := by
  obtain ⟨⟨f0, f1, f2, f3, f4, f5⟩, hw, md, bk, am, an, cn, db, sl⟩ := h.get
  refine uEt.mk ?_ ?_ ?_ ?_ ?_ ?_ ?_ ?_ ?_ ?_ ?_ ?_ ?_ ?_
  · rw [q_p_off _ _ _ _ _ _ (Or.inl (by decide)), q_p_off _ _ _ _ _ _ (Or.inr (by omega))]; exact f0
  · rw [q_p_off _ _ _ _ _ _ (Or.inl (by decide)), q_p_off _ _ _ _ _ _ (Or.inr (by omega))]; exact f1
  · rw [q_p_off _ _ _ _ _ _ (Or.inl (by decide)), q_p_off _ _ _ _ _ _ (Or.inr (by omega))]; exact f2
  · rw [q_p_off _ _ _ _ _ _ (Or.inl (by decide)), q_p_off _ _ _ _ _ _ (Or.inr (by omega))]; exact f3
  · rw [q_p_off _ _ _ _ _ _ (Or.inl (by decide)), q_p_off _ _ _ _ _ _ (Or.inr (by omega))]; exact f4
  · rw [q_p_off _ _ _ _ _ _ (Or.inl (by decide)), q_p_off _ _ _ _ _ _ (Or.inr (by omega))]; exact f5
  · intro m hm; rw [q_p_off _ _ _ _ _ _ (Or.inl (by decide)), q_p_off _ _ _ _ _ _ (Or.inr (by omega))]; exact hw m hm
  · intro m hm; rw [q_p_off _ _ _ _ _ _ (Or.inl (by decide)), q_p_off _ _ _ _ _ _ (Or.inr (by omega))]; exact md m hm
  · intro p hp; rw [q_p_off _ _ _ _ _ _ (Or.inl (by decide)), q_p_off _ _ _ _ _ _ (Or.inr (by omega))]; exact bk p hp
  · intro m hm; intro g hg; rw [q_p_off _ _ _ _ _ _ (Or.inl (by decide)), q_p_off _ _ _ _ _ _ (Or.inr (by omega))]; exact am m hm g hg
  · intro m hm; intro g hg; rw [q_p_off _ _ _ _ _ _ (Or.inl (by decide)), q_p_off _ _ _ _ _ _ (Or.inr (by omega))]; exact an m hm g hg
  · intro g hg; rw [q_p_off _ _ _ _ _ _ (Or.inl (by decide)), q_p_off _ _ _ _ _ _ (Or.inr (by omega))]; exact cn g hg
  · intro g hg; rw [q_p_off _ _ _ _ _ _ (Or.inl (by decide)), q_p_off _ _ _ _ _ _ (Or.inr (by omega))]; exact db g hg
  · intro g hg; by_cases e : g = g0
    · obtain rfl := e
      rw [q_p_on, q_p_on]
    · rw [q_p_off _ _ _ _ _ _ (Or.inr (by omega)), q_p_off _ _ _ _ _ _ (Or.inr (by omega))]; exact sl g hg
