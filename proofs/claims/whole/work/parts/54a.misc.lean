
/-! what changes do to a row -/
theorem uD_cg {r s : Nat → Int32} : ∀ M, (∀ m, m < M → (s (32 + 14 * m) = 0 ↔ r (32 + 14 * m) = 0)) → uD s M = uD r M
  | 0, _ => rfl
  | M + 1, h => by
    rw [uD, uD, uD_cg (r := r) (s := s) M (fun m hm => h m (by omega))]
    by_cases e : r (32 + 14 * M) = 0
    · rw [if_pos e, if_pos ((h M (by omega)).mpr e)]
    · rw [if_neg e, if_neg (fun q => e ((h M (by omega)).mp q))]
theorem uD_le (r : Nat → Int32) : ∀ M, uD r M ≤ M
  | 0 => Nat.le_refl _
  | M + 1 => by
    have := uD_le r M
    rw [uD]
    split <;> omega
theorem uD_up {r s : Nat → Int32} {m : Nat} (h0 : r (32 + 14 * m) = 0) (h1 : s (32 + 14 * m) ≠ 0) (hn : ∀ n, n ≠ m → s (32 + 14 * n) = r (32 + 14 * n)) : ∀ M, uD s M = if m < M then uD r M + 1 else uD r M
  | 0 => rfl
  | M + 1 => by
    rw [uD, uD, uD_up h0 h1 hn M]
    by_cases e : M = m
    · subst e
      rw [if_neg h1, if_pos h0, if_neg (Nat.lt_irrefl M), if_pos (Nat.lt_succ_self M)]
    · rw [hn M e]
      by_cases c : m < M
      · rw [if_pos c, if_pos (show m < M + 1 by omega)]
        split <;> rfl
      · rw [if_neg c, if_neg (show ¬ m < M + 1 by omega)]
theorem uI.z {d M : Nat} {r : Nat → Int32} (h : uI d M r) {m j : Nat} (h1 : M ≤ m) (hm : m < 8) (hj : j < 14) : r (32 + 14 * m + j) = 0 := h.2.2.2.1 m h1 hm j hj
theorem uI_misc {d e M : Nat} {r s : Nat → Int32} (h : uI d M r) (hn : ∀ j, (j = 0 ∨ (5 ≤ j ∧ j < 12) ∨ 24 ≤ j) → s j = r j) (h1 : s 1 = 0 ∨ s 1 = 1) (h12 : ∀ g, g < 6 → s (12 + g) = 0 ∨ s (12 + g) = 1) (hd : ∀ g, g < 6 → ∃ n, n ≤ e ∧ s (18 + g) = nI n) : uI e M s := by
  obtain ⟨a1, a2, a3, a4, a5, a6, a7, a8, a9, a10, a11⟩ := h
  have hs : ∀ m, q_sum (uSl s m) 6 = q_sum (uSl r m) 6 := fun m => q_sum_cg 6 (fun g hg => by unfold uSl; rw [hn _ (by omega), hn _ (by omega)])
  refine ⟨a1, (hn 0 (Or.inl rfl)).trans a2, ?_, fun m h1 hm j hj => (hn _ (by omega)).trans (a4 m h1 hm j hj), h1, h12, fun m hm => ?_, fun m hm g hg => ?_, ?_, fun g hg m hm n hn' e1 e2 => ?_, hd⟩
  · rw [hn 5 (by omega), a3, uD_cg (r := r) (s := s) M (fun m _ => by rw [hn _ (by omega)])]
  · rw [hn _ (by omega)]; exact a7 m hm
  · rw [hn _ (by omega), hn _ (by omega)]; exact a8 m hm g hg
  · rw [show q_sum (fun g => s (6 + g)) 6 = q_sum (fun g => r (6 + g)) 6 from q_sum_cg 6 (fun g hg => hn _ (by omega)), a9]
    exact congrArg (fun z => (120 : Int32) + z) (q_sum_cg 8 (fun m _ => hs m)).symm
  · rw [hn _ (by omega)] at e1 e2
    exact a10 g hg m hm n hn' e1 e2
