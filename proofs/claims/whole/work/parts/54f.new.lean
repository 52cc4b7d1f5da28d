
theorem uI_new {d M : Nat} {r s : Nat → Int32} (h : uI d M r) (hM : M < 8) (h0 : s 0 = nI (M + 1)) (hn : ∀ j, j ≠ 0 → j ≠ 32 + 14 * M + 1 → s j = r j) : uI d (M + 1) s := by
  obtain ⟨a1, a2, a3, a4, a5, a6, a7, a8, a9, a10, a11⟩ := h
  have hs : ∀ n, q_sum (uSl s n) 6 = q_sum (uSl r n) 6 := fun n => q_sum_cg 6 (fun o ho => by
    unfold uSl
    rw [hn (32 + 14 * n + 2 + o) (by omega) (by omega), hn (32 + 14 * n + 8 + o) (by omega) (by omega)])
  have hM0 : r (32 + 14 * M) = 0 := a4 M (Nat.le_refl _) hM 0 (by omega)
  refine ⟨hM, h0, ?_, fun n h1 h8 j hj => (hn _ (by omega) (by omega)).trans (a4 n (by omega) h8 j hj), by rw [hn 1 (by omega) (by omega)]; exact a5, fun o ho => by rw [hn _ (by omega) (by omega)]; exact a6 o ho, fun n h8 => ?_, fun n h8 o ho => ?_, ?_, fun o ho n h8 k hk e1 e2 => ?_, fun o ho => by rw [hn _ (by omega) (by omega)]; exact a11 o ho⟩
  · rw [hn 5 (by omega) (by omega), a3, uD, hn (32 + 14 * M) (by omega) (by omega), if_pos hM0, uD_cg (r := r) (s := s) M (fun n _ => by rw [hn _ (by omega) (by omega)])]
  · rw [hn _ (by omega) (by omega)]; exact a7 n h8
  · rw [hn (32 + 14 * n + 2 + o) (by omega) (by omega), hn (32 + 14 * n + 8 + o) (by omega) (by omega)]
    exact a8 n h8 o ho
  · rw [show q_sum (fun g => s (6 + g)) 6 = q_sum (fun g => r (6 + g)) 6 from q_sum_cg 6 (fun o ho => hn _ (by omega) (by omega)), a9]
    exact congrArg (fun z => (120 : Int32) + z) (q_sum_cg 8 (fun n _ => hs n)).symm
  · rw [hn _ (by omega) (by omega)] at e1 e2
    exact a10 o ho n h8 k hk e1 e2
