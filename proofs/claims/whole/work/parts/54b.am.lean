
theorem uI_am {d M m g : Nat} {a : Int32} {r s : Nat → Int32} (h : uI d M r) (hm : m < M) (hg : g < 6) (ha : -50 ≤ a ∧ a ≤ 50) (hz : ∀ o, o < 6 → r (32 + 14 * m + 8 + o) = 0) (he : s (32 + 14 * m + 2 + g) = a) (hn : ∀ j, j ≠ 32 + 14 * m + 2 + g → s j = r j) : uI d M s := by
  obtain ⟨a1, a2, a3, a4, a5, a6, a7, a8, a9, a10, a11⟩ := h
  have hs : ∀ n, q_sum (uSl s n) 6 = q_sum (uSl r n) 6 := fun n => q_sum_cg 6 (fun o ho => by
    unfold uSl
    rw [hn (32 + 14 * n + 8 + o) (by omega)]
    by_cases e : n = m
    · subst e
      rw [hz o ho]
      rfl
    · rw [hn _ (by omega)])
  refine ⟨a1, (hn 0 (by omega)).trans a2, ?_, fun n h1 h8 j hj => (hn _ (by omega)).trans (a4 n h1 h8 j hj), by rw [hn 1 (by omega)]; exact a5, fun o ho => by rw [hn _ (by omega)]; exact a6 o ho, fun n h8 => ?_, fun n h8 o ho => ?_, ?_, fun o ho n h8 k hk e1 e2 => ?_, fun o ho => by rw [hn _ (by omega)]; exact a11 o ho⟩
  · rw [hn 5 (by omega), a3, uD_cg (r := r) (s := s) M (fun n _ => by rw [hn _ (by omega)])]
  · rw [hn _ (by omega)]; exact a7 n h8
  · rw [hn (32 + 14 * n + 8 + o) (by omega)]
    by_cases e : n = m ∧ o = g
    · obtain ⟨rfl, rfl⟩ := e
      rw [he, hz o ho]
      exact ⟨Or.inl rfl, fun _ => rfl, ha⟩
    · rw [hn _ (by omega)]; exact a8 n h8 o ho
  · rw [show q_sum (fun g => s (6 + g)) 6 = q_sum (fun g => r (6 + g)) 6 from q_sum_cg 6 (fun o ho => hn _ (by omega)), a9]
    exact congrArg (fun z => (120 : Int32) + z) (q_sum_cg 8 (fun n _ => hs n)).symm
  · rw [hn _ (by omega)] at e1 e2
    exact a10 o ho n h8 k hk e1 e2
