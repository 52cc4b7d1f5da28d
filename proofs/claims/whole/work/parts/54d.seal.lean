
theorem q_sum_at {f f' : Nat → Int32} {i : Nat} {x : Int32} (he : f' i = f i + x) (hn : ∀ j, j ≠ i → f' j = f j) : ∀ n, q_sum f' n = if i < n then q_sum f n + x else q_sum f n
  | 0 => rfl
  | n + 1 => by
    show q_sum f' n + f' n = if i < n + 1 then q_sum f n + f n + x else q_sum f n + f n
    rw [q_sum_at he hn n]
    by_cases e : n = i
    · subst e
      rw [he, if_neg (Nat.lt_irrefl n), if_pos (Nat.lt_succ_self n), Int32.add_assoc]
    · rw [hn n e]
      by_cases c : i < n
      · rw [if_pos c, if_pos (show i < n + 1 by omega), Int32.add_assoc, Int32.add_assoc, Int32.add_comm x]
      · rw [if_neg c, if_neg (show ¬ i < n + 1 by omega)]
theorem uI_seal {d M m g : Nat} {r s : Nat → Int32} (h : uI d M r) (hm : m < M) (hg : g < 6) (hold : r (32 + 14 * m + 8 + g) ≠ 3) (ham : r (32 + 14 * m + 2 + g) ≠ 0) (he : s (32 + 14 * m + 8 + g) = 3) (hc : s (6 + g) = r (6 + g) + r (32 + 14 * m + 2 + g)) (hn : ∀ j, j ≠ 32 + 14 * m + 8 + g → j ≠ 6 + g → s j = r j) : uI d M s := by
  obtain ⟨a1, a2, a3, a4, a5, a6, a7, a8, a9, a10, a11⟩ := h
  have hs : ∀ n, n ≠ m → q_sum (uSl s n) 6 = q_sum (uSl r n) 6 := fun n hnm => q_sum_cg 6 (fun o ho => by
    unfold uSl
    rw [hn (32 + 14 * n + 2 + o) (by omega) (by omega), hn (32 + 14 * n + 8 + o) (by omega) (by omega)])
  have hsm : q_sum (uSl s m) 6 = q_sum (uSl r m) 6 + r (32 + 14 * m + 2 + g) := by
    obtain ⟨f, hf⟩ : ∃ f : Nat → Int32, f = fun o => if o < 6 then uSl s m o else uSl r m o := ⟨_, rfl⟩
    have e1 : q_sum (uSl s m) 6 = q_sum f 6 := q_sum_cg 6 (fun o ho => by rw [hf]; exact (if_pos ho).symm)
    rw [e1, q_sum_at (f := uSl r m) (i := g) (x := r (32 + 14 * m + 2 + g)) ?_ ?_ 6, if_pos hg]
    · rw [hf]
      show (if g < 6 then uSl s m g else uSl r m g) = _
      rw [if_pos hg]
      unfold uSl
      rw [he, if_pos rfl, if_neg hold, hn _ (by omega) (by omega), Int32.zero_add]
    · intro o ho
      rw [hf]
      show (if o < 6 then uSl s m o else uSl r m o) = _
      by_cases c : o < 6
      · rw [if_pos c]
        unfold uSl
        rw [hn (32 + 14 * m + 2 + o) (by omega) (by omega), hn (32 + 14 * m + 8 + o) (by omega) (by omega)]
      · rw [if_neg c]
  refine ⟨a1, (hn 0 (by omega) (by omega)).trans a2, ?_, fun n h1 h8 j hj => (hn _ (by omega) (by omega)).trans (a4 n h1 h8 j hj), by rw [hn 1 (by omega) (by omega)]; exact a5, fun o ho => by rw [hn _ (by omega) (by omega)]; exact a6 o ho, fun n h8 => ?_, fun n h8 o ho => ?_, ?_, fun o ho n h8 k hk e1 e2 => ?_, fun o ho => by rw [hn _ (by omega) (by omega)]; exact a11 o ho⟩
  · rw [hn 5 (by omega) (by omega), a3, uD_cg (r := r) (s := s) M (fun n _ => by rw [hn _ (by omega) (by omega)])]
  · rw [hn _ (by omega) (by omega)]; exact a7 n h8
  · rw [hn (32 + 14 * n + 2 + o) (by omega) (by omega)]
    by_cases e : n = m ∧ o = g
    · obtain ⟨rfl, rfl⟩ := e
      rw [he]
      exact ⟨by decide, fun z => absurd z ham, (a8 n h8 o ho).2.2⟩
    · rw [hn _ (by omega) (by omega)]; exact a8 n h8 o ho
  · have e1 : q_sum (fun o => s (6 + o)) 6 = q_sum (fun o => r (6 + o)) 6 + r (32 + 14 * m + 2 + g) := by
      obtain ⟨f, hf⟩ : ∃ f : Nat → Int32, f = fun o => if o < 6 then s (6 + o) else r (6 + o) := ⟨_, rfl⟩
      have e2 : q_sum (fun o => s (6 + o)) 6 = q_sum f 6 := q_sum_cg 6 (fun o ho => by rw [hf]; exact (if_pos ho).symm)
      rw [e2, q_sum_at (f := fun o => r (6 + o)) (i := g) (x := r (32 + 14 * m + 2 + g)) ?_ ?_ 6, if_pos hg]
      · rw [hf]
        show (if g < 6 then s (6 + g) else r (6 + g)) = _
        rw [if_pos hg, hc]
      · intro o ho
        rw [hf]
        show (if o < 6 then s (6 + o) else r (6 + o)) = r (6 + o)
        by_cases c : o < 6
        · rw [if_pos c, hn _ (by omega) (by omega)]
        · rw [if_neg c]
    have e3 : q_sum (fun n => q_sum (uSl s n) 6) 8 = q_sum (fun n => q_sum (uSl r n) 6) 8 + r (32 + 14 * m + 2 + g) := by
      rw [q_sum_at (f := fun n => q_sum (uSl r n) 6) (i := m) (x := r (32 + 14 * m + 2 + g)) hsm (fun n hnm => hs n hnm) 8, if_pos (by omega)]
    rw [e1, e3, a9, Int32.add_assoc]
  · have n1 : o = g → n ≠ m := fun q1 q2 => by
      subst q1; subst q2
      rw [he] at e1
      exact absurd e1 (by decide)
    have n2 : o = g → k ≠ m := fun q1 q2 => by
      subst q1; subst q2
      rw [he] at e2
      exact absurd e2 (by decide)
    by_cases c : o = g
    · have := n1 c
      have := n2 c
      rw [hn _ (by omega) (by omega)] at e1 e2
      exact a10 o ho n h8 k hk e1 e2
    · rw [hn _ (by omega) (by omega)] at e1 e2
      exact a10 o ho n h8 k hk e1 e2
