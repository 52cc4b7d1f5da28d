
theorem uI_book {d M m : Nat} {v : Int32} {r s : Nat → Int32} (h : uI d M r) (hm : m < M) (hv : v = 1 ∨ v = 2) (hold : r (32 + 14 * m) = 0) (he : s (32 + 14 * m) = v) (h5 : s 5 = nI (uD r M + 1)) (hn : ∀ j, j ≠ 32 + 14 * m → j ≠ 5 → (j < 24 ∨ 32 ≤ j) → s j = r j) : uI d M s := by
  obtain ⟨a1, a2, a3, a4, a5, a6, a7, a8, a9, a10, a11⟩ := h
  have hs : ∀ n, q_sum (uSl s n) 6 = q_sum (uSl r n) 6 := fun n => q_sum_cg 6 (fun o ho => by
    unfold uSl
    rw [hn (32 + 14 * n + 2 + o) (by omega) (by omega) (by omega), hn (32 + 14 * n + 8 + o) (by omega) (by omega) (by omega)])
  have hv0 : s (32 + 14 * m) ≠ 0 := by rw [he]; rcases hv with q | q <;> rw [q] <;> decide
  refine ⟨a1, (hn 0 (by omega) (by omega) (by omega)).trans a2, ?_, fun n h1 h8 j hj => (hn _ (by omega) (by omega) (by omega)).trans (a4 n h1 h8 j hj), by rw [hn 1 (by omega) (by omega) (by omega)]; exact a5, fun o ho => by rw [hn _ (by omega) (by omega) (by omega)]; exact a6 o ho, fun n h8 => ?_, fun n h8 o ho => ?_, ?_, fun o ho n h8 k hk e1 e2 => ?_, fun o ho => by rw [hn _ (by omega) (by omega) (by omega)]; exact a11 o ho⟩
  · rw [h5, uD_up hold hv0 (fun n hnm => hn _ (by omega) (by omega) (by omega)) M, if_pos hm]
  · by_cases e : n = m
    · subst e
      rw [he]
      rcases hv with q | q <;> rw [q] <;> decide
    · rw [hn _ (by omega) (by omega) (by omega)]; exact a7 n h8
  · rw [hn (32 + 14 * n + 2 + o) (by omega) (by omega) (by omega), hn (32 + 14 * n + 8 + o) (by omega) (by omega) (by omega)]
    exact a8 n h8 o ho
  · rw [show q_sum (fun g => s (6 + g)) 6 = q_sum (fun g => r (6 + g)) 6 from q_sum_cg 6 (fun o ho => hn _ (by omega) (by omega) (by omega)), a9]
    exact congrArg (fun z => (120 : Int32) + z) (q_sum_cg 8 (fun n _ => hs n)).symm
  · rw [hn _ (by omega) (by omega) (by omega)] at e1 e2
    exact a10 o ho n h8 k hk e1 e2
