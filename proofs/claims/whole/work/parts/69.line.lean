
/-! the line -/
def uLq (p q : uL_T) : Prop := p.1 = q.1 ∧ ∀ j, j < p.1 → p.2 j = q.2 j ∧ ∃ z, z < 65536 ∧ p.2 j = nI z
theorem uLq.put {p q : uL_T} (h : uLq p q) {c : Int32} (hc : ∃ z, z < 65536 ∧ c = nI z) : uLq (uL_put c p) (uL_put c q) := by
  refine ⟨by show p.1 + 1 = q.1 + 1; rw [h.1], fun j hj => ?_⟩
  show upd p.2 p.1 c j = upd q.2 q.1 c j ∧ ∃ z, z < 65536 ∧ upd p.2 p.1 c j = nI z
  unfold upd
  rw [← h.1]
  by_cases e : j = p.1
  · rw [if_pos e, if_pos e]
    exact ⟨rfl, hc⟩
  · rw [if_neg e, if_neg e]
    exact h.2 j (by have : j < p.1 + 1 := hj; omega)
theorem uLq.num {p q : uL_T} (h : uLq p q) {v : Nat} (hv : v < 1000) : uLq (uL_num v p) (uL_num v q) := by
  unfold uL_num
  split
  · exact (h.put ⟨_, by omega, rfl⟩).put ⟨_, by omega, rfl⟩
  · exact h.put ⟨_, by omega, rfl⟩
theorem uL_how_c (x : Int32) : ∃ z, z < 65536 ∧ uL_how x = nI z := by
  unfold uL_how
  split
  · exact ⟨115, by decide, by decide⟩
  · split
    · exact ⟨98, by decide, by decide⟩
    · exact ⟨111, by decide, by decide⟩
theorem uL_ans_c (x : Int32) : ∃ z, z < 65536 ∧ uL_ans x = nI z := by
  unfold uL_ans
  split
  · exact ⟨114, by decide, by decide⟩
  · split
    · exact ⟨117, by decide, by decide⟩
    · split
      · exact ⟨115, by decide, by decide⟩
      · split
        · exact ⟨98, by decide, by decide⟩
        · exact ⟨110, by decide, by decide⟩
theorem uL_abs_50 {x : Int32} (h : -50 ≤ x ∧ x ≤ 50) : uL_abs x < 1000 := by
  have h1 := Int32.le_iff_toInt_le.mp h.1
  have h2 := Int32.le_iff_toInt_le.mp h.2
  have e1 : (-50 : Int32).toInt = -50 := by decide
  have e2 : (50 : Int32).toInt = 50 := by decide
  rw [e1] at h1
  rw [e2] at h2
  unfold uL_abs
  omega
theorem uL_sgn {x : Int32} (h : x ≠ 0) : (if x < 0 then (45 : Int32) else 43) = if 0 < x then 43 else 45 := by
  by_cases c : x < 0
  · rw [if_pos c, if_neg (Int32.not_lt.mpr (Int32.le_of_lt c))]
  · rw [if_neg c, if_pos (Int32.lt_of_le_of_ne (Int32.not_lt.mp c) (Ne.symm h))]
theorem uL_sgn_c (x : Int32) : ∃ z, z < 65536 ∧ (if x < 0 then (45 : Int32) else 43) = nI z := by
  split
  · exact ⟨45, by decide, by decide⟩
  · exact ⟨43, by decide, by decide⟩
section ULN
variable {d M : Nat} {S : q_St}
theorem uT.lineq (h : uT d M S S) {m : Nat} (hm : m < 8) : ∀ g, g ≤ 6 → uLq (uL_gs S m g) (uV_gs S m g)
  | 0, _ => by
    show uLq (uL_head S m) (uV_head S m)
    unfold uL_head uV_head
    rw [h.how hm]
    have h0 : uLq (0, S 111) (0, S 117) := ⟨rfl, fun j hj => absurd hj (Nat.not_lt_zero j)⟩
    exact ((h0.put ⟨35, by decide, by decide⟩).num (by omega)).put (uL_how_c _)
  | g + 1, hg => by
    have h1 := h.lineq hm g (by omega)
    rw [uL_gs, uV_gs, h.am hm (by omega)]
    by_cases c : S 113 (32 + 14 * m + 2 + g) = 0
    · rw [if_neg (fun q => q c), if_neg (fun q => q c)]
      exact h1
    · rw [if_pos c, if_pos c]
      unfold uL_guild uV_guild
      rw [h.am hm (by omega), h.an hm (by omega), ← uL_sgn c]
      exact ((((h1.put ⟨32, by decide, by decide⟩).num (by omega)).put (uL_sgn_c _)).num (uL_abs_50 (h.am50 hm (by omega)))).put (uL_ans_c _)
end ULN
