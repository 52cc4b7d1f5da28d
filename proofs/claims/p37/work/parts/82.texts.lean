
/-! texts as lists of codes -/
def jX (xs : List Int32) (n : Nat) (f : Nat → Int32) : Prop := n = xs.length ∧ ∀ j, j < n → f j = xs.getD j 0
theorem jX_nil {f : Nat → Int32} : jX [] 0 f := ⟨rfl, fun _ h => absurd h (Nat.not_lt_zero _)⟩
theorem jX_app {xs ys : List Int32} {n k : Nat} {f f' g : Nat → Int32} (h : jX xs n f) (hg : jX ys k g) (h1 : ∀ j, j < n → f' j = f j) (h2 : ∀ j, j < k → f' (n + j) = g j) : jX (xs ++ ys) (n + k) f' := by
  refine ⟨by rw [List.length_append, h.1, hg.1], fun j hj => ?_⟩
  by_cases hjn : j < n
  · rw [h1 j hjn, h.2 j hjn, List.getD_eq_getElem?_getD, List.getD_eq_getElem?_getD, List.getElem?_append_left (by rw [← h.1]; exact hjn)]
  · obtain ⟨i, rfl⟩ : ∃ i, j = n + i := ⟨j - n, by omega⟩
    rw [h2 i (by omega), hg.2 i (by omega), List.getD_eq_getElem?_getD, List.getD_eq_getElem?_getD, List.getElem?_append_right (by rw [← h.1]; omega), show n + i - xs.length = i by rw [← h.1]; omega]
theorem jX_one {c : Int32} {g : Nat → Int32} (h : g 0 = c) : jX [c] 1 g := ⟨rfl, fun j hj => by
  have : j = 0 := by omega
  subst this
  exact h⟩
theorem jX_push {xs : List Int32} {n : Nat} {f f' : Nat → Int32} {c : Int32} (h : jX xs n f) (h1 : ∀ j, j < n → f' j = f j) (h2 : f' n = c) : jX (xs ++ [c]) (n + 1) f' := jX_app h (jX_one (g := fun _ => c) rfl) h1 (fun j hj => by
  have : j = 0 := by omega
  subst this
  exact h2)
theorem jX_same {xs : List Int32} {n k : Nat} {f g : Nat → Int32} (h : jX xs n f) (hg : jX xs k g) : n = k ∧ ∀ j, j < n → f j = g j := by
  have e : n = k := h.1.trans hg.1.symm
  exact ⟨e, fun j hj => by rw [h.2 j hj, hg.2 j (by rw [← e]; exact hj)]⟩
theorem jX_of {xs : List Int32} {n : Nat} {f g : Nat → Int32} (h : jX xs n f) (h1 : ∀ j, j < n → g j = f j) : jX xs n g := ⟨h.1, fun j hj => by rw [h1 j hj]; exact h.2 j hj⟩
def jD (v : Nat) : List Int32 := if 10 ≤ v then [nI (48 + v / 10), nI (48 + v % 10)] else [nI (48 + v % 10)]
theorem jX_put {xs : List Int32} {q : uL_T} (c : Int32) (h : jX xs q.1 q.2) : jX (xs ++ [c]) (uL_put c q).1 (uL_put c q).2 := jX_push h (fun j hj => by
  show upd q.2 q.1 c j = q.2 j
  unfold upd
  rw [if_neg (by omega)]) (by
  show upd q.2 q.1 c q.1 = c
  unfold upd
  rw [if_pos rfl])
theorem jX_num {xs : List Int32} {q : uL_T} (v : Nat) (h : jX xs q.1 q.2) : jX (xs ++ jD v) (uL_num v q).1 (uL_num v q).2 := by
  unfold uL_num jD
  split
  · rw [show xs ++ [nI (48 + v / 10), nI (48 + v % 10)] = xs ++ [nI (48 + v / 10)] ++ [nI (48 + v % 10)] by simp]
    exact jX_put _ (jX_put _ h)
  · exact jX_put _ h
/-- a guild's piece of the line, the head, the line -/
def jP (S : q_St) (m g : Nat) : List Int32 := if S 5 (m * 6 + g) ≠ 0 then [32] ++ jD g ++ [if S 5 (m * 6 + g) < 0 then 45 else 43] ++ jD (uL_abs (S 5 (m * 6 + g))) ++ [uL_ans (S 6 (m * 6 + g))] else []
def jH (S : q_St) (m : Nat) : List Int32 := [35] ++ jD m ++ [uL_how (S 2 m)]
def jG (S : q_St) (m : Nat) : Nat → List Int32
  | 0 => jH S m
  | g + 1 => jG S m g ++ jP S m g
theorem jX_gs (S : q_St) (m : Nat) : ∀ g, jX (jG S m g) (uL_gs S m g).1 (uL_gs S m g).2
  | 0 => by
    show jX ([35] ++ jD m ++ [uL_how (S 2 m)]) (uL_head S m).1 (uL_head S m).2
    unfold uL_head
    exact jX_put _ (jX_num _ (jX_put (xs := []) _ (q := (0, S 111)) jX_nil))
  | g + 1 => by
    have ih := jX_gs S m g
    show jX (jG S m g ++ jP S m g) (uL_gs S m (g + 1)).1 (uL_gs S m (g + 1)).2
    rw [uL_gs]
    unfold jP
    split
    · unfold uL_guild
      rw [← List.append_assoc, ← List.append_assoc, ← List.append_assoc, ← List.append_assoc]
      exact jX_put _ (jX_num _ (jX_put _ (jX_num _ (jX_put _ ih))))
    · rw [List.append_nil]
      exact ih
