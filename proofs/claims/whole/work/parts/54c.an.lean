
theorem uI_an {d M m g : Nat} {v : Int32} {r s : Nat → Int32} (h : uI d M r) (hm : m < M) (hg : g < 6) (hv : v = 1 ∨ v = 2 ∨ v = 4) (hold : r (32 + 14 * m + 8 + g) ≠ 3) (ham : r (32 + 14 * m + 2 + g) ≠ 0) (h1 : v = 1 → ∀ n, n < 8 → r (32 + 14 * n + 8 + g) = 1 → n = m) (he : s (32 + 14 * m + 8 + g) = v) (hn : ∀ j, j ≠ 32 + 14 * m + 8 + g → s j = r j) : uI d M s := by
  obtain ⟨a1, a2, a3, a4, a5, a6, a7, a8, a9, a10, a11⟩ := h
  have hs : ∀ n, q_sum (uSl s n) 6 = q_sum (uSl r n) 6 := fun n => q_sum_cg 6 (fun o ho => by
    unfold uSl
    rw [hn (32 + 14 * n + 2 + o) (by omega)]
    by_cases e : n = m ∧ o = g
    · obtain ⟨rfl, rfl⟩ := e
      rw [he, if_neg hold, if_neg (by rcases hv with q | q | q <;> rw [q] <;> decide)]
    · rw [hn _ (by omega)])
  refine ⟨a1, (hn 0 (by omega)).trans a2, ?_, fun n h1 h8 j hj => (hn _ (by omega)).trans (a4 n h1 h8 j hj), by rw [hn 1 (by omega)]; exact a5, fun o ho => by rw [hn _ (by omega)]; exact a6 o ho, fun n h8 => ?_, fun n h8 o ho => ?_, ?_, fun o ho n h8 k hk e1 e2 => ?_, fun o ho => by rw [hn _ (by omega)]; exact a11 o ho⟩
  · rw [hn 5 (by omega), a3, uD_cg (r := r) (s := s) M (fun n _ => by rw [hn _ (by omega)])]
  · rw [hn _ (by omega)]; exact a7 n h8
  · rw [hn (32 + 14 * n + 2 + o) (by omega)]
    by_cases e : n = m ∧ o = g
    · obtain ⟨rfl, rfl⟩ := e
      rw [he]
      exact ⟨by rcases hv with q | q | q <;> rw [q] <;> decide, fun z => absurd z ham, (a8 n h8 o ho).2.2⟩
    · rw [hn _ (by omega)]; exact a8 n h8 o ho
  · rw [show q_sum (fun g => s (6 + g)) 6 = q_sum (fun g => r (6 + g)) 6 from q_sum_cg 6 (fun o ho => hn _ (by omega)), a9]
    exact congrArg (fun z => (120 : Int32) + z) (q_sum_cg 8 (fun n _ => hs n)).symm
  · by_cases c : o = g
    · subst c
      by_cases c1 : n = m
      · by_cases c2 : k = m
        · omega
        · subst c1
          rw [he] at e1
          rw [hn _ (by omega)] at e2
          exact (h1 e1 k hk e2).symm
      · rw [hn _ (by omega)] at e1
        by_cases c2 : k = m
        · subst c2
          rw [he] at e2
          exact h1 e2 n h8 e1
        · rw [hn _ (by omega)] at e2
          exact a10 o ho n h8 k hk e1 e2
    · rw [hn _ (by omega)] at e1 e2
      exact a10 o ho n h8 k hk e1 e2
