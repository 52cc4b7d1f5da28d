
/-! the reference's reader: the same steps, by the flag and the place -/
def uQ_at (S : q_St) (s : Bool × Nat) : q_St := q_p (q_p S 112 15 (uO_b s.1)) 112 14 (nI s.2)
theorem uQ_at_15 (S : q_St) (s : Bool × Nat) : uQ_at S s 112 15 = uO_b s.1 := rfl
theorem uQ_at_14 (S : q_St) (s : Bool × Nat) : uQ_at S s 112 14 = nI s.2 := rfl
theorem uQ_at_k (S : q_St) (s : Bool × Nat) (j : Nat) (h2 : j ≠ 14) (h3 : j ≠ 15) : uQ_at S s 112 j = S 112 j := by simp [uQ_at, q_p, upd, h2, h3]
theorem uQ_at_w (S : q_St) (s : Bool × Nat) (f : Bool) (p : Nat) : q_p (q_p (uQ_at S s) 112 15 (uO_b f)) 112 14 (nI p) = uQ_at S (f, p) := by
  funext k j
  unfold uQ_at q_p
  by_cases hk : k = 112
  · subst hk
    by_cases h2 : j = 14
    · subst h2; simp [upd]
    · by_cases h3 : j = 15
      · subst h3; simp [upd]
      · simp [upd, h2, h3]
  · simp [hk]
theorem uQ_at_w1 (S : q_St) (s : Bool × Nat) (f : Bool) : q_p (uQ_at S s) 112 15 (uO_b f) = uQ_at S (f, s.2) := by
  rw [← uQ_at_w S s f s.2]
  funext k j
  unfold uQ_at q_p
  by_cases hk : k = 112
  · subst hk
    by_cases h2 : j = 14
    · subst h2; simp [upd]
    · simp [upd, h2]
  · simp [hk]
theorem uQ_at_w2 (S : q_St) (s : Bool × Nat) (p : Nat) : q_p (uQ_at S s) 112 14 (nI p) = uQ_at S (s.1, p) := by
  funext k j
  unfold uQ_at q_p
  by_cases hk : k = 112
  · subst hk
    by_cases h2 : j = 14
    · subst h2; simp [upd]
    · simp [upd, h2]
  · simp [hk]
theorem uQ_at_119 (S : q_St) (s : Bool × Nat) (i : Nat) (v : Int32) : q_p (uQ_at S s) 119 i v = uQ_at (q_p S 119 i v) s := by
  funext k j
  unfold uQ_at q_p
  by_cases hk : k = 112
  · subst hk; simp
  · simp [hk]
theorem uQ_at_18 (S : q_St) (s : Bool × Nat) (v : Int32) : q_p (uQ_at S s) 112 18 v = uQ_at (q_p S 112 18 v) s := by
  funext k j
  unfold uQ_at q_p
  by_cases hk : k = 112
  · subst hk
    by_cases h2 : j = 14
    · subst h2; simp [upd]
    · by_cases h3 : j = 15
      · subst h3; simp [upd]
      · simp [upd, h2, h3]
  · simp [hk]
abbrev uQ_here (t : Nat → Int32) (n : Nat) (lo hi : Int32) (s : Bool × Nat) : Prop := s.1 = false ∧ s.2 < n ∧ lo ≤ t s.2 ∧ t s.2 ≤ hi
theorem uQ_here_no {t : Nat → Int32} {n : Nat} {a b : Int32} {s : Bool × Nat} (h : s.1 = true) : ¬ uQ_here t n a b s := fun q => absurd (h.symm.trans q.1) (by decide)
def uQ_sg (t : Nat → Int32) (n : Nat) (lo hi : Int32) (s : Bool × Nat) : Bool × Nat := if uQ_here t n lo hi s then (false, s.2 + 1) else (true, s.2)
def uQ_v (t : Nat → Int32) (n : Nat) (lo hi : Int32) (s : Bool × Nat) : Int32 := if uQ_here t n lo hi s then t s.2 - lo else 0
theorem uP_go_st {ok : Bool} {s : Bool × Nat} (h : s.1 = true) : uP_go ok s = s := by
  rw [uP_go_1 h]
  obtain ⟨a, b⟩ := s
  cases h
  rfl
theorem uP_sg_st {t : Nat → Int32} {n : Nat} {c : Int32} {s : Bool × Nat} (h : s.1 = true) : uP_sg t n c s = s := uP_go_st h
theorem uP_dg_st {t : Nat → Int32} {n : Nat} {s : Bool × Nat} (h : s.1 = true) : uP_dg t n s = s := uP_go_st h
theorem uP_sg_1 {t : Nat → Int32} {n : Nat} {c : Int32} {s : Bool × Nat} (h : s.1 = true) : (uP_sg t n c s).1 = true := by rw [uP_sg_st h]; exact h
theorem uP_pm_st {t : Nat → Int32} {n : Nat} {s : Bool × Nat} (h : s.1 = true) : uP_pm t n s = s := by
  unfold uP_pm
  split <;> exact uP_sg_st h
theorem uQ_sg_c (t : Nat → Int32) (n : Nat) {c : Int32} (hc : c ≠ 0) (s : Bool × Nat) : uQ_sg t n c c s = uP_sg t n c s := by
  unfold uQ_sg uP_sg
  by_cases h : uQ_here t n c c s
  · rw [if_pos h]
    obtain ⟨h1, h2, h3, h4⟩ := h
    rw [uP_go_t h1 (decide_eq_true (by rw [uP_nx, if_pos h2]; exact Int32.le_antisymm h4 h3))]
  · rw [if_neg h]
    rcases q_bc s.1 with h1 | h1
    · rw [uP_go_2 (decide_eq_false (fun e => h ?_))]
      have h2 := uP_nx_lt (t := t) (n := n) (p := s.2) (by rw [e]; exact hc)
      rw [uP_nx, if_pos h2] at e
      exact ⟨h1, h2, by rw [e]; exact Int32.le_refl _, by rw [e]; exact Int32.le_refl _⟩
    · rw [uP_go_1 h1]
theorem uP_isD_lt {t : Nat → Int32} {n p : Nat} (h : uP_isD (uP_nx t n p)) : p < n := uP_nx_lt (fun e => by rw [e] at h; exact absurd h.1 (by decide))
theorem uQ_here_d {t : Nat → Int32} {n : Nat} {s : Bool × Nat} (h1 : s.1 = false) : uQ_here t n 48 57 s ↔ uP_isD (uP_nx t n s.2) := by
  constructor
  · intro ⟨_, h2, h3⟩
    rw [uP_nx, if_pos h2]
    exact h3
  · intro h
    have h2 := uP_isD_lt h
    rw [uP_nx, if_pos h2] at h
    exact ⟨h1, h2, h⟩
theorem uQ_sg_d (t : Nat → Int32) (n : Nat) (s : Bool × Nat) : uQ_sg t n 48 57 s = uP_dg t n s := by
  unfold uQ_sg uP_dg
  rcases q_bc s.1 with h1 | h1
  · by_cases h : uQ_here t n 48 57 s
    · rw [if_pos h, uP_go_t h1 (decide_eq_true ((uQ_here_d h1).mp h))]
    · rw [if_neg h, uP_go_2 (decide_eq_false (fun e => h ((uQ_here_d h1).mpr e)))]
  · rw [if_neg (uQ_here_no h1), uP_go_1 h1]
theorem uQ_nm_eq (t : Nat → Int32) (n : Nat) (s : Bool × Nat) : uP_nm t n s = if uQ_here t n 48 57 (uP_dg t n s) then uP_dg t n (uP_dg t n s) else uP_dg t n s := by
  unfold uP_nm
  rcases q_bc (uP_dg t n s).1 with h1 | h1
  · by_cases h : uQ_here t n 48 57 (uP_dg t n s)
    · rw [if_pos h, if_pos ((uQ_here_d h1).mp h)]
    · rw [if_neg h, if_neg (fun e => h ((uQ_here_d h1).mpr e))]
  · rw [if_neg (uQ_here_no h1), uP_dg_st h1]
    split <;> rfl
def uQ_dv (t : Nat → Int32) (n : Nat) (s : Bool × Nat) : Int32 := uQ_v t n 48 57 s
def uQ_nv (t : Nat → Int32) (n : Nat) (s : Bool × Nat) : Int32 := if uQ_here t n 48 57 (uP_dg t n s) then 10 * uQ_dv t n s + uQ_dv t n (uP_dg t n s) else uQ_dv t n s
theorem uQ_pm_eq {t : Nat → Int32} {n : Nat} {s : Bool × Nat} (h1 : s.1 = false) : uP_pm t n s = if uQ_here t n 45 45 s then uP_sg t n 45 s else uP_sg t n 43 s := by
  unfold uP_pm
  by_cases h : uQ_here t n 45 45 s
  · rw [if_pos h, if_pos (by rw [uP_nx, if_pos h.2.1]; exact Int32.le_antisymm h.2.2.2 h.2.2.1)]
  · rw [if_neg h, if_neg (fun e => h ?_)]
    have h2 := uP_nx_lt (t := t) (n := n) (p := s.2) (by rw [e]; decide)
    rw [uP_nx, if_pos h2] at e
    exact ⟨h1, h2, by rw [e]; exact Int32.le_refl _, by rw [e]; exact Int32.le_refl _⟩
/-- what an order leaves in its four cells -/
def uQ_r (S : q_St) (cnt : Nat) (k : Int32) : q_St := q_p (q_p S 119 (4 * cnt) k) 112 18 (nI (cnt + 1))
def uQ_s4 (t : Nat → Int32) (n : Nat) (s : Bool × Nat) : Bool × Nat := uP_dg t n (uP_sg t n 46 (uP_dg t n (uP_lt t n s)))
def uQ_a1 (t : Nat → Int32) (n : Nat) (s : Bool × Nat) : Int32 := uQ_dv t n (uP_lt t n s)
def uQ_a2 (t : Nat → Int32) (n : Nat) (s : Bool × Nat) : Int32 := uQ_dv t n (uP_sg t n 46 (uP_dg t n (uP_lt t n s)))
def uQ_am (t : Nat → Int32) (n : Nat) (s : Bool × Nat) : Int32 := if uQ_here t n 45 45 (uP_sg t n 61 (uQ_s4 t n s)) then -uQ_nv t n (uP_pm t n (uP_sg t n 61 (uQ_s4 t n s))) else uQ_nv t n (uP_pm t n (uP_sg t n 61 (uQ_s4 t n s)))
theorem uQ_am_t {t : Nat → Int32} {n : Nat} {s : Bool × Nat} (h : uQ_here t n 45 45 (uP_sg t n 61 (uQ_s4 t n s))) : uQ_am t n s = -uQ_nv t n (uP_pm t n (uP_sg t n 61 (uQ_s4 t n s))) := if_pos h
theorem uQ_am_f {t : Nat → Int32} {n : Nat} {s : Bool × Nat} (h : ¬ uQ_here t n 45 45 (uP_sg t n 61 (uQ_s4 t n s))) : uQ_am t n s = uQ_nv t n (uP_pm t n (uP_sg t n 61 (uQ_s4 t n s))) := if_neg h
def uQ_ordS (t : Nat → Int32) (n : Nat) (S : q_St) (cnt : Nat) (s : Bool × Nat) : q_St :=
  if uP_isL (uP_nx t n s.2) = true then
    if uP_nx t n s.2 = 97 then q_p (q_p (q_p (uQ_r S cnt 97) 119 (4 * cnt + 1) (uQ_a1 t n s)) 119 (4 * cnt + 2) (uQ_a2 t n s)) 119 (4 * cnt + 3) (uQ_am t n s)
    else if uP_nx t n s.2 = 113 ∨ uP_nx t n s.2 = 116 then q_p (q_p (uQ_r S cnt (uP_nx t n s.2)) 119 (4 * cnt + 1) (uQ_a1 t n s)) 119 (4 * cnt + 2) (uQ_a2 t n s)
    else if uP_nx t n s.2 = 105 then q_p (q_p (q_p (uQ_r S cnt 105) 119 (4 * cnt + 1) (uQ_a1 t n s)) 119 (4 * cnt + 2) (uQ_a2 t n s)) 119 (4 * cnt + 3) (uQ_dv t n (uP_sg t n 60 (uQ_s4 t n s)))
    else if uP_nx t n s.2 = 100 ∨ uP_nx t n s.2 = 115 ∨ uP_nx t n s.2 = 114 then q_p (uQ_r S cnt (uP_nx t n s.2)) 119 (4 * cnt + 1) (uQ_a1 t n s)
    else if uP_nx t n s.2 = 104 then q_p (uQ_r S cnt 104) 119 (4 * cnt + 1) (uQ_nv t n (uP_lt t n s))
    else uQ_r S cnt (uP_nx t n s.2)
  else S
def uQ_ordC (t : Nat → Int32) (n cnt : Nat) (s : Bool × Nat) : Nat := if uP_isL (uP_nx t n s.2) = true then cnt + 1 else cnt
theorem uP_isL_97 : uP_isL 97 = true := by decide
theorem uQ_lt_t {t : Nat → Int32} {n : Nat} {s : Bool × Nat} (h1 : s.1 = false) (h2 : uP_isL (uP_nx t n s.2) = true) : uP_lt t n s = (false, s.2 + 1) := uP_go_t h1 h2
theorem uQ_lt_f {t : Nat → Int32} {n : Nat} {s : Bool × Nat} (h2 : uP_isL (uP_nx t n s.2) = false) : uP_lt t n s = (true, s.2) := uP_go_2 h2
/-- a sign that is none of the eleven -/
theorem uP_isL_dec : ∀ k, k < 256 → uP_isL (nI k) = true → (nI k = 110 ∨ nI k = 97 ∨ nI k = 113 ∨ nI k = 100 ∨ nI k = 116 ∨ nI k = 102 ∨ nI k = 119 ∨ nI k = 115 ∨ nI k = 114 ∨ nI k = 105 ∨ nI k = 104) := by decide +kernel
theorem uP_isL_11 {c : Int32} (h : uP_isL c = true) : c = 110 ∨ c = 97 ∨ c = 113 ∨ c = 100 ∨ c = 116 ∨ c = 102 ∨ c = 119 ∨ c = 115 ∨ c = 114 ∨ c = 105 ∨ c = 104 := by
  have h9 : ¬ (c < 0 ∨ 255 < c) := fun q => by
    unfold uP_isL uT_ix at h
    rw [if_pos q, decide_eq_true_eq] at h
    exact absurd h (by decide)
  have h1 : 0 ≤ c := Int32.not_lt.mp (fun q => h9 (Or.inl q))
  have h2 : c ≤ 255 := Int32.not_lt.mp (fun q => h9 (Or.inr q))
  obtain ⟨k, hk, rfl⟩ := uM_okK (X := 255) (M := 256) rfl (by omega) ⟨h1, h2⟩
  exact uP_isL_dec k hk h
theorem uP_isL_no {c : Int32} (h : ¬ (c = 110 ∨ c = 97 ∨ c = 113 ∨ c = 100 ∨ c = 116 ∨ c = 102 ∨ c = 119 ∨ c = 115 ∨ c = 114 ∨ c = 105 ∨ c = 104)) : uP_isL c = false := by
  rcases q_bc (uP_isL c) with e | e
  · exact e
  · exact absurd (uP_isL_11 e) h
theorem uP_s5_st {t : Nat → Int32} {n : Nat} {s : Bool × Nat} (h : (uP_lt t n s).1 = true) : uP_s5 t n s = uP_lt t n s := by
  have e2 : uP_s2 t n s = uP_lt t n s := by
    unfold uP_s2
    split
    · exact uP_dg_st h
    · rfl
  have e3 : uP_s3 t n s = uP_lt t n s := by
    unfold uP_s3
    rw [e2]
    split
    · split
      · exact uP_sg_st h
      · rfl
    · rfl
  have e4 : uP_s4 t n s = uP_lt t n s := by
    unfold uP_s4
    rw [e3]
    split
    · exact uP_dg_st h
    · rfl
  have hn : ∀ s' : Bool × Nat, s'.1 = true → uP_nm t n s' = s' := fun s' h' => by
    rw [uQ_nm_eq, uP_dg_st h', if_neg (uQ_here_no h')]
  unfold uP_s5 uP_ls
  rw [e4]
  split
  · rw [uP_sg_st h, uP_pm_st h, hn _ h]
  · split
    · exact hn _ h
    · split
      · rw [uP_sg_st h, uP_dg_st h]
      · rfl
