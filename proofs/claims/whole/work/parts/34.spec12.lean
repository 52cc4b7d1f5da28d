
/-! the reference carries out what it has read -/
def uM_do (S : q_St) (k a b c : Int32) : q_St :=
  if k = 110 then (uMd_matter S (uN (S 113 0))).2
  else if k = 97 then (uMd_set S (uN (S 113 0)) a b c).2
  else if k = 113 then (uMd_ask S (uN (S 113 0)) a b).2
  else if k = 100 then (uMd_decide S (uN (S 113 0)) (uN (S 113 5)) a).2
  else if k = 116 then (uMd_tell S (uN (S 113 0)) a b).2
  else if k = 102 then (uMd_faint S (uN (S 113 0))).2
  else if k = 119 then (uMd_wake S (uN (S 113 0)) (uN (S 113 5))).2
  else if k = 115 then (uMd_sleep S a 1).2
  else if k = 114 then (uMd_sleep S a 0).2
  else if k = 105 then (uMd_inq S (uN (S 113 0)) a b c).2
  else (uMd_pass S (uN (S 113 0)) a).2
theorem uM_do_fr (S : q_St) (k a b c : Int32) : uM_fr S (uM_do S k a b c) := by
  unfold uM_do
  split
  · exact uMd_matter_fr _ _
  split
  · exact uMd_set_fr _ _ _ _ _
  split
  · exact uMd_ask_fr _ _ _ _
  split
  · exact uMd_decide_fr _ _ _ _
  split
  · exact uMd_tell_fr _ _ _ _
  split
  · exact uMd_faint_fr _ _
  split
  · exact uMd_wake_fr _ _ _
  split
  · exact uMd_sleep_fr _ _ _
  split
  · exact uMd_sleep_fr _ _ _
  split
  · exact uMd_inq_fr _ _ _ _ _
  · exact uMd_pass_fr _ _ _
/-- what the machine needs of the reference's row -/
def uMJ (S : q_St) : Prop := ∃ M N : Nat, S 113 0 = nI M ∧ M ≤ 8 ∧ S 113 5 = nI N ∧ N ≤ 8 ∧ (∀ m, m < M → S 113 (32 + 14 * m) = 0 → N < 8) ∧ uM_wkN (q_p S 113 1 0) N M ≤ 8
def uQ_let (k : Int32) : Prop := k = 110 ∨ k = 97 ∨ k = 113 ∨ k = 100 ∨ k = 116 ∨ k = 102 ∨ k = 119 ∨ k = 115 ∨ k = 114 ∨ k = 105 ∨ k = 104
theorem uQ_ordS_k (t : Nat → Int32) (n : Nat) (S : q_St) (cnt : Nat) (s : Bool × Nat) (k : Nat) (h1 : k ≠ 112) (h2 : k ≠ 119) : uQ_ordS t n S cnt s k = S k := by
  have hr : ∀ c, uQ_r S cnt c k = S k := fun c => by simp [uQ_r, q_p, h1, h2]
  unfold uQ_ordS
  split
  · split
    · simp [q_p, h2, hr]
    split
    · simp [q_p, h2, hr]
    split
    · simp [q_p, h2, hr]
    split
    · simp [q_p, h2, hr]
    split
    · simp [q_p, h2, hr]
    · exact hr _
  · rfl
theorem uQ_ordS_112 (t : Nat → Int32) (n : Nat) (S : q_St) (cnt : Nat) (s : Bool × Nat) : uQ_ordS t n S cnt s 112 = if uP_isL (uP_nx t n s.2) = true then upd (S 112) 18 (nI (cnt + 1)) else S 112 := by
  have hr : ∀ c, uQ_r S cnt c 112 = upd (S 112) 18 (nI (cnt + 1)) := fun c => by simp [uQ_r, q_p]
  unfold uQ_ordS
  split
  · split
    · simp [q_p, hr]
    split
    · simp [q_p, hr]
    split
    · simp [q_p, hr]
    split
    · simp [q_p, hr]
    split
    · simp [q_p, hr]
    · exact hr _
  · rfl
theorem uQ_ordS_f (t : Nat → Int32) (n : Nat) (S : q_St) (cnt : Nat) (s : Bool × Nat) (j : Nat) (h : j ≠ 18) : uQ_ordS t n S cnt s 112 j = S 112 j := by
  rw [uQ_ordS_112]
  split
  · simp [upd, h]
  · rfl
theorem uQ_ordS_18 (t : Nat → Int32) (n : Nat) (S : q_St) (cnt : Nat) (s : Bool × Nat) (h : S 112 18 = nI cnt) : uQ_ordS t n S cnt s 112 18 = nI (uQ_ordC t n cnt s) := by
  rw [uQ_ordS_112, uQ_ordC]
  split
  · simp [upd]
  · exact h
theorem uP_go_ge (ok : Bool) (s : Bool × Nat) : s.2 ≤ (uP_go ok s).2 := by
  unfold uP_go
  split
  · exact Nat.le_succ _
  · exact Nat.le_refl _
theorem uP_sg_ge (t : Nat → Int32) (n : Nat) (c : Int32) (s : Bool × Nat) : s.2 ≤ (uP_sg t n c s).2 := uP_go_ge _ _
theorem uP_dg_ge (t : Nat → Int32) (n : Nat) (s : Bool × Nat) : s.2 ≤ (uP_dg t n s).2 := uP_go_ge _ _
theorem uP_lt_ge (t : Nat → Int32) (n : Nat) (s : Bool × Nat) : s.2 ≤ (uP_lt t n s).2 := uP_go_ge _ _
theorem uP_nm_ge (t : Nat → Int32) (n : Nat) (s : Bool × Nat) : s.2 ≤ (uP_nm t n s).2 := by
  unfold uP_nm
  split
  · exact Nat.le_trans (uP_dg_ge _ _ _) (uP_dg_ge _ _ _)
  · exact uP_dg_ge _ _ _
theorem uP_pm_ge (t : Nat → Int32) (n : Nat) (s : Bool × Nat) : s.2 ≤ (uP_pm t n s).2 := by
  unfold uP_pm
  split <;> exact uP_sg_ge _ _ _ _
theorem uP_s5_ge (t : Nat → Int32) (n : Nat) (s : Bool × Nat) : (uP_lt t n s).2 ≤ (uP_s5 t n s).2 := by
  have h2 : (uP_lt t n s).2 ≤ (uP_s2 t n s).2 := by
    unfold uP_s2
    split
    · exact uP_dg_ge _ _ _
    · exact Nat.le_refl _
  have h3 : (uP_s2 t n s).2 ≤ (uP_s3 t n s).2 := by
    unfold uP_s3
    split
    · split
      · exact uP_sg_ge _ _ _ _
      · exact Nat.le_refl _
    · exact Nat.le_refl _
  have h4 : (uP_s3 t n s).2 ≤ (uP_s4 t n s).2 := by
    unfold uP_s4
    split
    · exact uP_dg_ge _ _ _
    · exact Nat.le_refl _
  have h5 : (uP_s4 t n s).2 ≤ (uP_s5 t n s).2 := by
    unfold uP_s5 uP_ls
    split
    · exact Nat.le_trans (uP_sg_ge _ _ _ _) (Nat.le_trans (uP_pm_ge _ _ _) (uP_nm_ge _ _ _))
    · split
      · exact uP_nm_ge _ _ _
      · split
        · exact Nat.le_trans (uP_sg_ge _ _ _ _) (uP_dg_ge _ _ _)
        · exact Nat.le_refl _
  omega
theorem uQ_ordC_le (t : Nat → Int32) (n cnt : Nat) (s : Bool × Nat) (h1 : s.1 = false) (h : cnt ≤ s.2) : uQ_ordC t n cnt s ≤ (uP_s5 t n s).2 := by
  have h5 := uP_s5_ge t n s
  have h6 := uP_lt_ge t n s
  unfold uQ_ordC
  split
  · rename_i hl
    rw [uQ_lt_t h1 hl] at h5
    have : s.2 + 1 ≤ (uP_s5 t n s).2 := h5
    omega
  · omega
def uQ_loop (t : Nat → Int32) (n : Nat) : Nat → q_St → Nat → (Bool × Nat) → q_St × Nat × (Bool × Nat)
  | 0, S, c, s => (S, c, s)
  | f + 1, S, c, s => if uQ_here t n 59 59 s then uQ_loop t n f (uQ_ordS t n S c (false, s.2 + 1)) (uQ_ordC t n c (false, s.2 + 1)) (uP_s5 t n (false, s.2 + 1)) else (S, c, s)
def uQ_text (t : Nat → Int32) (n : Nat) (S : q_St) : q_St × Nat × (Bool × Nat) := uQ_loop t n 61 (uQ_ordS t n (q_p S 112 18 0) 0 (false, 0)) (uQ_ordC t n 0 (false, 0)) (uP_s5 t n (false, 0))
theorem uQ_start (S : q_St) : q_p (q_p (q_p S 112 14 0) 112 15 0) 112 18 0 = uQ_at (q_p S 112 18 0) (false, 0) := by
  funext k j
  unfold uQ_at q_p
  by_cases hk : k = 112
  · subst hk
    by_cases h2 : j = 14
    · subst h2; simp [upd]; rfl
    · by_cases h3 : j = 15
      · subst h3; simp [upd]; rfl
      · simp [upd, h2, h3]
  · simp [hk]
def uM_step (S : q_St) (O : q_St) (i : Nat) : q_St := uM_do (q_p S 112 9 0) (O 119 (4 * i)) (O 119 (4 * i + 1)) (O 119 (4 * i + 2)) (O 119 (4 * i + 3))
def uM_all (O : q_St) (pm c : Nat) : Nat → Nat → q_St → Int32 × q_St
  | 0, _, S => uM_ends (nI c, S) pm
  | f + 1, i, S => if 0 < uM_step S O i 112 6 then uM_ends (0, q_p (uM_step S O i) 112 6 (if uM_step S O i 112 9 = 0 then 1 else 2)) pm else uM_all O pm c f (i + 1) (uM_step S O i)
def uM_alJ (O : q_St) : Nat → Nat → q_St → Prop
  | 0, _, _ => True
  | f + 1, i, S => uMJ (q_p S 112 9 0) ∧ (¬ 0 < uM_step S O i 112 6 → uM_alJ O f (i + 1) (uM_step S O i))
def uM_rd (r : q_St × Nat × (Bool × Nat)) : q_St := q_p (q_p (uQ_at r.1 (false, r.2.2.2)) 112 16 (-1)) 112 13 0
def uM_U0 (r : q_St × Nat × (Bool × Nat)) : q_St := uM_keep (uM_rd r)
def uM_rbad (r : q_St × Nat × (Bool × Nat)) : q_St := q_p (q_p (uQ_at r.1 (true, r.2.2.2)) 112 16 (nI r.2.2.2)) 112 13 0
def uM_wrong (n : Nat) (r : q_St × Nat × (Bool × Nat)) : Prop := r.2.2.1 = true ∨ r.2.2.2 < n
def uM_run (t : Nat → Int32) (n : Nat) (S : q_St) (pm : Nat) : Int32 × q_St :=
  if (uQ_text t n S).2.2.1 = true ∨ (uQ_text t n S).2.2.2 < n then (0, q_p (uM_rbad (uQ_text t n S)) 112 6 1)
  else uM_all (uM_U0 (uQ_text t n S)) pm (uQ_text t n S).2.1 (uQ_text t n S).2.1 0 (uM_U0 (uQ_text t n S))
theorem uM_step_5 (S O : q_St) (i : Nat) (pm : Nat) (h : S 112 5 = nI pm) : uM_step S O i 112 5 = nI pm := ((uM_do_fr (q_p S 112 9 0) _ _ _ _).2 5 (Or.inl (by decide))).trans h
theorem uM_step_18 (S O : q_St) (i : Nat) (c : Nat) (h : S 112 18 = nI c) : uM_step S O i 112 18 = nI c := ((uM_do_fr (q_p S 112 9 0) _ _ _ _).2 18 (Or.inr (by decide))).trans h
theorem uM_step_119 (S O : q_St) (i : Nat) : uM_step S O i 119 = S 119 := (uM_do_fr (q_p S 112 9 0) _ _ _ _).1 119 (by decide) (by decide)
