
/-! what both have read: the same orders, the same place -/
section UR
variable {t : Nat → Int32} {n : Nat}
theorem uP_go_f {ok : Bool} {s : Bool × Nat} (h : (uP_go ok s).1 = false) : s.1 = false ∧ ok = true := by
  rcases q_bc s.1 with e | e
  · refine ⟨e, ?_⟩
    rcases q_bc ok with k | k
    · rw [uP_go_2 k] at h; exact Bool.noConfusion (show true = false from h)
    · exact k
  · rw [uP_go_1 e] at h; exact Bool.noConfusion (show true = false from h)
theorem uP_sg_f {c : Int32} {s : Bool × Nat} (h : (uP_sg t n c s).1 = false) : s.1 = false := (uP_go_f h).1
theorem uP_dg_f {s : Bool × Nat} (h : (uP_dg t n s).1 = false) : s.1 = false ∧ uP_isD (uP_nx t n s.2) := ⟨(uP_go_f h).1, decide_eq_true_iff.mp (uP_go_f h).2⟩
theorem uP_pm_f {s : Bool × Nat} (h : (uP_pm t n s).1 = false) : s.1 = false := by
  unfold uP_pm at h
  split at h <;> exact uP_sg_f h
theorem uP_nm_f {s : Bool × Nat} (h : (uP_nm t n s).1 = false) : (uP_dg t n s).1 = false ∧ (uP_two t n s → (uP_dg t n (uP_dg t n s)).1 = false) := by
  unfold uP_nm at h
  split at h
  · exact ⟨(uP_dg_f h).1, fun _ => h⟩
  · rename_i c; exact ⟨h, fun q => absurd q c⟩
theorem uQ_dv_eq {s : Bool × Nat} (h : (uP_dg t n s).1 = false) : uP_dv t n s = uQ_dv t n s := by
  obtain ⟨h1, h2⟩ := uP_dg_f h
  have h3 := (uQ_here_d h1).mpr h2
  unfold uP_dv uQ_dv uQ_v
  rw [if_pos h3, uP_nx, if_pos h3.2.1]
theorem uQ_nv_eq {s : Bool × Nat} (h : (uP_nm t n s).1 = false) : uP_nv t n s = uQ_nv t n s := by
  obtain ⟨h1, h2⟩ := uP_nm_f h
  unfold uP_nv uQ_nv
  by_cases c : uP_two t n s
  · rw [if_pos c, if_pos ((uQ_here_d h1).mpr c), uQ_dv_eq h1, uQ_dv_eq (h2 c)]
  · rw [if_neg c, if_neg (fun q => c ((uQ_here_d h1).mp q)), uQ_dv_eq h1]
theorem uQ_here_c {s : Bool × Nat} {c : Int32} (hc : c ≠ 0) (h1 : s.1 = false) : uQ_here t n c c s ↔ uP_nx t n s.2 = c := by
  constructor
  · intro h
    rw [uP_nx, if_pos h.2.1]; exact Int32.le_antisymm h.2.2.2 h.2.2.1
  · intro e
    have h2 := uP_nx_lt (t := t) (n := n) (p := s.2) (by rw [e]; exact hc)
    rw [uP_nx, if_pos h2] at e
    exact ⟨h1, h2, by rw [e]; exact Int32.le_refl _, by rw [e]; exact Int32.le_refl _⟩
theorem uP_mg {s : Bool × Nat} (hM : uO_hasM (uP_nx t n s.2)) (hG : uO_hasG (uP_nx t n s.2)) (h : (uP_s4 t n s).1 = false) : uP_s4 t n s = uQ_s4 t n s ∧ uP_m t n s = uQ_a1 t n s ∧ uP_g t n s = uQ_a2 t n s := by
  have e2 : uP_s2 t n s = uP_dg t n (uP_lt t n s) := by unfold uP_s2; rw [if_pos hM]
  have e3 : uP_s3 t n s = uP_sg t n 46 (uP_dg t n (uP_lt t n s)) := by unfold uP_s3; rw [if_pos hM, if_pos hG, e2]
  have e4 : uP_s4 t n s = uQ_s4 t n s := by unfold uP_s4 uQ_s4; rw [if_pos hG, e3]
  rw [e4] at h
  have h3 : (uP_dg t n (uP_sg t n 46 (uP_dg t n (uP_lt t n s)))).1 = false := h
  have h2 := uP_sg_f (uP_dg_f h3).1
  refine ⟨e4, ?_, ?_⟩
  · unfold uP_m uQ_a1; rw [if_pos hM]; exact uQ_dv_eq h2
  · unfold uP_g uQ_a2; rw [if_pos hG, e3]; exact uQ_dv_eq h3
theorem uP_mo {s : Bool × Nat} (hM : uO_hasM (uP_nx t n s.2)) (hG : ¬ uO_hasG (uP_nx t n s.2)) (h : (uP_s4 t n s).1 = false) : uP_m t n s = uQ_a1 t n s := by
  have e2 : uP_s2 t n s = uP_dg t n (uP_lt t n s) := by unfold uP_s2; rw [if_pos hM]
  have e3 : uP_s3 t n s = uP_dg t n (uP_lt t n s) := by unfold uP_s3; rw [if_pos hM, if_neg hG, e2]
  have e4 : uP_s4 t n s = uP_dg t n (uP_lt t n s) := by unfold uP_s4; rw [if_neg hG, e3]
  rw [e4] at h
  unfold uP_m uQ_a1
  rw [if_pos hM]; exact uQ_dv_eq h
theorem uP_og {s : Bool × Nat} (hM : ¬ uO_hasM (uP_nx t n s.2)) (hG : uO_hasG (uP_nx t n s.2)) (h : (uP_s4 t n s).1 = false) : uP_g t n s = uQ_a1 t n s := by
  have e2 : uP_s2 t n s = uP_lt t n s := by unfold uP_s2; rw [if_neg hM]
  have e3 : uP_s3 t n s = uP_lt t n s := by unfold uP_s3; rw [if_neg hM, e2]
  have e4 : uP_s4 t n s = uP_dg t n (uP_lt t n s) := by unfold uP_s4; rw [if_pos hG, e3]
  rw [e4] at h
  unfold uP_g uQ_a1
  rw [if_pos hG, e3]; exact uQ_dv_eq h
theorem uP_oo {s : Bool × Nat} (hM : ¬ uO_hasM (uP_nx t n s.2)) (hG : ¬ uO_hasG (uP_nx t n s.2)) : uP_s4 t n s = uP_lt t n s := by
  have e2 : uP_s2 t n s = uP_lt t n s := by unfold uP_s2; rw [if_neg hM]
  have e3 : uP_s3 t n s = uP_lt t n s := by unfold uP_s3; rw [if_neg hM, e2]
  unfold uP_s4; rw [if_neg hG, e3]
/-- a letter stands there, when the order was read to its end -/
theorem uP_s5_l {s : Bool × Nat} (h : (uP_s5 t n s).1 = false) : uP_isL (uP_nx t n s.2) = true := by
  rcases q_bc (uP_isL (uP_nx t n s.2)) with e | e
  · have h1 : (uP_lt t n s).1 = true := by rw [uQ_lt_f e]
    rw [uP_s5_st h1, h1] at h
    exact Bool.noConfusion (show true = false from h)
  · exact e
theorem uM_neg1 (x : Int32) : -1 * x = -x := by
  rw [Int32.neg_mul, Int32.one_mul]
/-- the numbers of an order, in the class and in the reference -/
theorem uOq_val {s : Bool × Nat} (h : (uP_s5 t n s).1 = false) :
    uQ_let (uP_nx t n s.2) ∧
    (uP_nx t n s.2 = 97 → uP_m t n s = uQ_a1 t n s ∧ uP_g t n s = uQ_a2 t n s ∧ uP_v t n s = uQ_am t n s) ∧
    (uP_nx t n s.2 = 105 → uP_m t n s = uQ_a1 t n s ∧ uP_g t n s = uQ_a2 t n s ∧ uP_v t n s = uQ_dv t n (uP_sg t n 60 (uQ_s4 t n s))) ∧
    ((uP_nx t n s.2 = 113 ∨ uP_nx t n s.2 = 116) → uP_m t n s = uQ_a1 t n s ∧ uP_g t n s = uQ_a2 t n s) ∧
    (uP_nx t n s.2 = 100 → uP_m t n s = uQ_a1 t n s) ∧
    ((uP_nx t n s.2 = 115 ∨ uP_nx t n s.2 = 114) → uP_g t n s = uQ_a1 t n s) ∧
    (uP_nx t n s.2 = 104 → uP_v t n s = uQ_nv t n (uP_lt t n s)) := by
  refine ⟨uP_isL_11 (uP_s5_l h), fun k => ?_, fun k => ?_, fun k => ?_, fun k => ?_, fun k => ?_, fun k => ?_⟩
  · have e5 : uP_s5 t n s = uP_nm t n (uP_pm t n (uP_sg t n 61 (uP_s4 t n s))) := by unfold uP_s5 uP_ls; rw [if_pos k]
    rw [e5] at h
    have h6 := uP_pm_f (uP_dg_f (uP_nm_f h).1).1
    have h4 := uP_sg_f h6
    obtain ⟨a, b, c⟩ := uP_mg (Or.inl k) (Or.inl k) h4
    refine ⟨b, c, ?_⟩
    rw [a] at h h6
    unfold uP_v uP_lv
    rw [if_pos k, a, uQ_nv_eq h]
    unfold uP_pv
    by_cases q : uP_nx t n (uP_sg t n 61 (uQ_s4 t n s)).2 = 45
    · rw [if_pos q, uQ_am_t ((uQ_here_c (by decide) h6).mpr q), uM_neg1]
    · rw [if_neg q, uQ_am_f (fun z => q ((uQ_here_c (by decide) h6).mp z)), Int32.one_mul]
  · have e5 : uP_s5 t n s = uP_dg t n (uP_sg t n 60 (uP_s4 t n s)) := by unfold uP_s5 uP_ls; rw [k, if_neg (by decide), if_neg (by decide), if_pos rfl]
    rw [e5] at h
    have h4 := uP_sg_f (uP_dg_f h).1
    obtain ⟨a, b, c⟩ := uP_mg (by rw [k]; decide) (by rw [k]; decide) h4
    refine ⟨b, c, ?_⟩
    rw [a] at h
    unfold uP_v uP_lv
    rw [k, if_neg (by decide), if_neg (by decide), if_pos rfl, a]
    exact uQ_dv_eq h
  · have e5 : uP_s5 t n s = uP_s4 t n s := by unfold uP_s5 uP_ls; rcases k with k | k <;> rw [k, if_neg (by decide), if_neg (by decide), if_neg (by decide)]
    rw [e5] at h
    obtain ⟨-, b, c⟩ := uP_mg (by rcases k with k | k <;> rw [k] <;> decide) (by rcases k with k | k <;> rw [k] <;> decide) h
    exact ⟨b, c⟩
  · have e5 : uP_s5 t n s = uP_s4 t n s := by unfold uP_s5 uP_ls; rw [k, if_neg (by decide), if_neg (by decide), if_neg (by decide)]
    rw [e5] at h
    exact uP_mo (by rw [k]; decide) (by rw [k]; decide) h
  · have e5 : uP_s5 t n s = uP_s4 t n s := by unfold uP_s5 uP_ls; rcases k with k | k <;> rw [k, if_neg (by decide), if_neg (by decide), if_neg (by decide)]
    rw [e5] at h
    exact uP_og (by rcases k with k | k <;> rw [k] <;> decide) (by rcases k with k | k <;> rw [k] <;> decide) h
  · have e4 := uP_oo (t := t) (n := n) (s := s) (by rw [k]; decide) (by rw [k]; decide)
    have e5 : uP_s5 t n s = uP_nm t n (uP_lt t n s) := by unfold uP_s5 uP_ls; rw [k, if_neg (by decide), if_pos rfl, e4]
    rw [e5] at h
    unfold uP_v uP_lv
    rw [k, if_neg (by decide), if_pos rfl, e4]
    exact uQ_nv_eq h
theorem uQ_r_0 (S : q_St) (cnt : Nat) (k : Int32) : uQ_r S cnt k 119 (4 * cnt) = k := by simp [uQ_r, q_p, upd]
theorem uQ_ordS_0 (S : q_St) (cnt : Nat) (s : Bool × Nat) (hl : uP_isL (uP_nx t n s.2) = true) : uQ_ordS t n S cnt s 119 (4 * cnt) = uP_nx t n s.2 := by
  unfold uQ_ordS
  rw [if_pos hl]
  split
  · rename_i e; simp [q_p, upd, uQ_r_0, e]
  split
  · simp [q_p, upd, uQ_r_0]
  split
  · rename_i e; simp [q_p, upd, uQ_r_0, e]
  split
  · simp [q_p, upd, uQ_r_0]
  split
  · rename_i e; simp [q_p, upd, uQ_r_0, e]
  · exact uQ_r_0 _ _ _
theorem uQ_ordS_old (S : q_St) (cnt : Nat) (s : Bool × Nat) {j : Nat} (hj : j < 4 * cnt) : uQ_ordS t n S cnt s 119 j = S 119 j := by
  have h0 : j ≠ 4 * cnt := by omega
  have h1 : j ≠ 4 * cnt + 1 := by omega
  have h2 : j ≠ 4 * cnt + 2 := by omega
  have h3 : j ≠ 4 * cnt + 3 := by omega
  have hr : ∀ c, uQ_r S cnt c 119 j = S 119 j := fun c => by simp [uQ_r, q_p, upd, h0]
  unfold uQ_ordS
  split
  · split
    · simp [q_p, upd, hr, h1, h2, h3]
    split
    · simp [q_p, upd, hr, h1, h2]
    split
    · simp [q_p, upd, hr, h1, h2, h3]
    split
    · simp [q_p, upd, hr, h1]
    split
    · simp [q_p, upd, hr, h1]
    · exact hr _
  · rfl
theorem uOq_read {s : Bool × Nat} (S : q_St) (cnt : Nat) (h : (uP_s5 t n s).1 = false) :
    uOq (uP_nx t n s.2) (uP_m t n s) (uP_g t n s) (uP_v t n s) (uQ_ordS t n S cnt s 119 (4 * cnt + 1)) (uQ_ordS t n S cnt s 119 (4 * cnt + 2)) (uQ_ordS t n S cnt s 119 (4 * cnt + 3)) := by
  have hl := uP_s5_l h
  obtain ⟨v0, v1, v2, v3, v4, v5, v6⟩ := uOq_val h
  refine ⟨v0, ?_, ?_, ?_, ?_, ?_⟩
  · rintro (k | k)
    · obtain ⟨a, b, c⟩ := v1 k
      rw [a, b, c]
      unfold uQ_ordS
      rw [if_pos hl, if_pos k]
      refine ⟨?_, ?_, ?_⟩ <;> simp [q_p, upd]
    · obtain ⟨a, b, c⟩ := v2 k
      rw [a, b, c]
      unfold uQ_ordS
      rw [if_pos hl, if_neg (by rw [k]; decide), if_neg (by rw [k]; decide), if_pos k]
      refine ⟨?_, ?_, ?_⟩ <;> simp [q_p, upd]
  · intro k
    obtain ⟨a, b⟩ := v3 k
    rw [a, b]
    unfold uQ_ordS
    rw [if_pos hl, if_neg (by rcases k with k | k <;> rw [k] <;> decide), if_pos k]
    refine ⟨?_, ?_⟩ <;> simp [q_p, upd]
  · intro k
    rw [v4 k]
    unfold uQ_ordS
    rw [if_pos hl, if_neg (by rw [k]; decide), if_neg (by rw [k]; decide), if_neg (by rw [k]; decide), if_pos (Or.inl k)]
    simp [q_p, upd]
  · intro k
    rw [v5 k]
    unfold uQ_ordS
    rw [if_pos hl, if_neg (by rcases k with k | k <;> rw [k] <;> decide), if_neg (by rcases k with k | k <;> rw [k] <;> decide), if_neg (by rcases k with k | k <;> rw [k] <;> decide), if_pos (Or.inr k)]
    simp [q_p, upd]
  · intro k
    rw [v6 k]
    unfold uQ_ordS
    rw [if_pos hl, if_neg (by rw [k]; decide), if_neg (by rw [k]; decide), if_neg (by rw [k]; decide), if_neg (by rw [k]; decide), if_pos k]
    simp [q_p, upd]
/-- the orders that both hold -/
def uRl (c : Nat) (SC SM : q_St) : Prop := ∀ i, i < c → SM 119 (4 * i) = SC 105 i ∧ uOq (SC 105 i) (SC 106 i) (SC 107 i) (SC 108 i) (SM 119 (4 * i + 1)) (SM 119 (4 * i + 2)) (SM 119 (4 * i + 3))
theorem uRl_next {c : Nat} {SC SM : q_St} (hR : uRl c SC SM) {s : Bool × Nat} (h : (uP_s5 t n s).1 = false) : uRl (c + 1) (uO_rec SC c (uP_nx t n s.2) (uP_m t n s) (uP_g t n s) (uP_v t n s)) (uQ_ordS t n SM c s) := by
  intro i hi
  by_cases e : i = c
  · subst e
    refine ⟨(uQ_ordS_0 SM i s (uP_s5_l h)).trans (by simp [uO_rec, q_p, upd]), ?_⟩
    rw [show uO_rec SC i (uP_nx t n s.2) (uP_m t n s) (uP_g t n s) (uP_v t n s) 105 i = uP_nx t n s.2 by simp [uO_rec, q_p, upd],
      show uO_rec SC i (uP_nx t n s.2) (uP_m t n s) (uP_g t n s) (uP_v t n s) 106 i = uP_m t n s by simp [uO_rec, q_p, upd],
      show uO_rec SC i (uP_nx t n s.2) (uP_m t n s) (uP_g t n s) (uP_v t n s) 107 i = uP_g t n s by simp [uO_rec, q_p, upd],
      show uO_rec SC i (uP_nx t n s.2) (uP_m t n s) (uP_g t n s) (uP_v t n s) 108 i = uP_v t n s by simp [uO_rec, q_p, upd]]
    exact uOq_read SM i h
  · have hi2 : i < c := by omega
    rw [uQ_ordS_old SM c s (show 4 * i < 4 * c by omega), uQ_ordS_old SM c s (show 4 * i + 1 < 4 * c by omega), uQ_ordS_old SM c s (show 4 * i + 2 < 4 * c by omega), uQ_ordS_old SM c s (show 4 * i + 3 < 4 * c by omega)]
    rw [show uO_rec SC c (uP_nx t n s.2) (uP_m t n s) (uP_g t n s) (uP_v t n s) 105 i = SC 105 i by simp [uO_rec, q_p, upd, e],
      show uO_rec SC c (uP_nx t n s.2) (uP_m t n s) (uP_g t n s) (uP_v t n s) 106 i = SC 106 i by simp [uO_rec, q_p, upd, e],
      show uO_rec SC c (uP_nx t n s.2) (uP_m t n s) (uP_g t n s) (uP_v t n s) 107 i = SC 107 i by simp [uO_rec, q_p, upd, e],
      show uO_rec SC c (uP_nx t n s.2) (uP_m t n s) (uP_g t n s) (uP_v t n s) 108 i = SC 108 i by simp [uO_rec, q_p, upd, e]]
    exact hR i hi2
theorem uO_loop_t (f : Nat) (S : q_St) (cnt : Nat) (s : Bool × Nat) (h : s.1 = true) : uO_loop t n f S cnt s = (S, s) := by
  cases f with
  | zero => rfl
  | succ f => rw [uO_loop, if_pos h]
theorem uRd (hn : n ≤ 60) : ∀ (f F : Nat) (SC SM : q_St) (cnt p : Nat), p ≤ n → 2 * cnt ≤ p → n < p + 2 * f → n < p + F + 1 → SC 103 5 = nI cnt → uRl cnt SC SM →
    ((uO_loop t n f SC cnt (false, p)).2.1 = true ↔ ((uQ_loop t n F (uQ_ordS t n SM cnt (false, p)) (uQ_ordC t n cnt (false, p)) (uP_s5 t n (false, p))).2.2.1 = true ∨ (uQ_loop t n F (uQ_ordS t n SM cnt (false, p)) (uQ_ordC t n cnt (false, p)) (uP_s5 t n (false, p))).2.2.2 < n)) ∧
    (uO_loop t n f SC cnt (false, p)).2.2 = (uQ_loop t n F (uQ_ordS t n SM cnt (false, p)) (uQ_ordC t n cnt (false, p)) (uP_s5 t n (false, p))).2.2.2 ∧
    (¬ (uO_loop t n f SC cnt (false, p)).2.1 = true → (uQ_loop t n F (uQ_ordS t n SM cnt (false, p)) (uQ_ordC t n cnt (false, p)) (uP_s5 t n (false, p))).2.1 ≤ 30 ∧
      (uO_loop t n f SC cnt (false, p)).1 103 5 = nI (uQ_loop t n F (uQ_ordS t n SM cnt (false, p)) (uQ_ordC t n cnt (false, p)) (uP_s5 t n (false, p))).2.1 ∧
      uRl (uQ_loop t n F (uQ_ordS t n SM cnt (false, p)) (uQ_ordC t n cnt (false, p)) (uP_s5 t n (false, p))).2.1 (uO_loop t n f SC cnt (false, p)).1 (uQ_loop t n F (uQ_ordS t n SM cnt (false, p)) (uQ_ordC t n cnt (false, p)) (uP_s5 t n (false, p))).1) := by
  intro f
  induction f with
  | zero => intro F SC SM cnt p h1 h2 h3; exact absurd h3 (by omega)
  | succ f ih =>
    intro F SC SM cnt p h1 h2 h3 h4 h5 hR
    have hle : (uP_s5 t n (false, p)).2 ≤ n := uP_s5_le t n (s := (false, p)) h1
    rw [uO_loop, if_neg (show ¬ ((false, p) : Bool × Nat).1 = true by simp)]
    rcases q_bc (uP_s5 t n (false, p)).1 with e | e
    · have hl := uP_s5_l e
      have hlt : p < n := uP_nx_lt (t := t) (n := n) (p := p) (fun z => by rw [show uP_nx t n (false, p).2 = uP_nx t n p from rfl, z] at hl; exact absurd hl (by decide))
      have eC : uQ_ordC t n cnt (false, p) = cnt + 1 := if_pos hl
      have eo : uO_ordC t n cnt (false, p) = cnt + 1 := by unfold uO_ordC; rw [if_pos e, if_pos (by omega)]
      have eS : uO_ordS t n SC cnt (false, p) = uO_rec SC cnt (uP_nx t n p) (uP_m t n (false, p)) (uP_g t n (false, p)) (uP_v t n (false, p)) := by unfold uO_ordS; rw [if_pos e, if_pos (by omega)]
      have hR' := uRl_next (t := t) (n := n) hR e
      have hC5 : uO_ordS t n SC cnt (false, p) 103 5 = nI (cnt + 1) := (uO_ordS_5 t n SC cnt (false, p) h5).trans (by rw [eo])
      have hge : p + 1 ≤ (uP_s5 t n (false, p)).2 := by
        have q9 := uP_s5_ge t n (false, p)
        rw [uQ_lt_t (s := (false, p)) rfl hl] at q9
        exact q9
      rw [eC, eo]
      by_cases c : (uP_s5 t n (false, p)).2 = n
      · rw [if_pos c]
        have eF : uQ_loop t n F (uQ_ordS t n SM cnt (false, p)) (cnt + 1) (uP_s5 t n (false, p)) = (uQ_ordS t n SM cnt (false, p), cnt + 1, uP_s5 t n (false, p)) := by
          cases F with
          | zero => rfl
          | succ F => rw [uQ_loop, if_neg (fun q => by have := q.2.1; omega)]
        rw [eF]
        refine ⟨⟨fun q => Or.inl q, fun q => q.elim id (fun z => absurd z (by show ¬ (uP_s5 t n (false, p)).2 < n; omega))⟩, rfl, fun _ => ⟨by show cnt + 1 ≤ 30; omega, hC5, ?_⟩⟩
        rw [eS]; exact hR'
      · rw [if_neg c]
        obtain ⟨F, rfl⟩ : ∃ G, F = G + 1 := ⟨F - 1, by omega⟩
        by_cases k : uQ_here t n 59 59 (uP_s5 t n (false, p))
        · have e59 : uP_sg t n 59 (uP_s5 t n (false, p)) = (false, (uP_s5 t n (false, p)).2 + 1) := by rw [← uQ_sg_c t n (by decide)]; exact if_pos k
          rw [e59, uQ_loop, if_pos k]
          have k2 := k.2.1
          exact ih F _ _ (cnt + 1) ((uP_s5 t n (false, p)).2 + 1) (by omega) (by omega) (by omega) (by omega) hC5 (by rw [eS]; exact hR')
        · have e59 : uP_sg t n 59 (uP_s5 t n (false, p)) = (true, (uP_s5 t n (false, p)).2) := by rw [← uQ_sg_c t n (by decide)]; exact if_neg k
          rw [e59, uQ_loop, if_neg k, uO_loop_t _ _ _ _ rfl]
          exact ⟨⟨fun _ => Or.inr (by show (uP_s5 t n (false, p)).2 < n; omega), fun _ => rfl⟩, rfl, fun q => absurd rfl q⟩
    · have eF : uQ_loop t n F (uQ_ordS t n SM cnt (false, p)) (uQ_ordC t n cnt (false, p)) (uP_s5 t n (false, p)) = (uQ_ordS t n SM cnt (false, p), uQ_ordC t n cnt (false, p), uP_s5 t n (false, p)) := by
        cases F with
        | zero => rfl
        | succ F => rw [uQ_loop, if_neg (uQ_here_no e)]
      have eC : (if (uP_s5 t n (false, p)).2 = n then (uO_ordS t n SC cnt (false, p), uP_s5 t n (false, p)) else uO_loop t n f (uO_ordS t n SC cnt (false, p)) (uO_ordC t n cnt (false, p)) (uP_sg t n 59 (uP_s5 t n (false, p)))) = (uO_ordS t n SC cnt (false, p), uP_s5 t n (false, p)) := by
        split
        · rfl
        · rw [uP_sg_st e, uO_loop_t _ _ _ _ e]
      rw [eF, eC]
      exact ⟨⟨fun q => Or.inl q, fun _ => e⟩, rfl, fun q => absurd e q⟩
theorem uQ_ordS_let {S : q_St} {c : Nat} {s : Bool × Nat} (h : ∀ i, i < c → uQ_let (S 119 (4 * i))) : ∀ i, i < uQ_ordC t n c s → uQ_let (uQ_ordS t n S c s 119 (4 * i)) := by
  intro i hi
  rcases q_bc (uP_isL (uP_nx t n s.2)) with e | e
  · rw [uQ_ordC, if_neg (by rw [e]; exact Bool.noConfusion)] at hi
    rw [uQ_ordS_old S c s (by omega)]
    exact h i hi
  · rw [uQ_ordC, if_pos e] at hi
    by_cases q : i = c
    · subst q
      rw [uQ_ordS_0 S i s e]
      exact uP_isL_11 e
    · rw [uQ_ordS_old S c s (by omega)]
      exact h i (by omega)
theorem uQ_loop_let : ∀ (F : Nat) (S : q_St) (c : Nat) (s : Bool × Nat), (∀ i, i < c → uQ_let (S 119 (4 * i))) → ∀ i, i < (uQ_loop t n F S c s).2.1 → uQ_let ((uQ_loop t n F S c s).1 119 (4 * i))
  | 0, _, _, _, h => h
  | F + 1, S, c, s, h => by
    rw [uQ_loop]
    split
    · exact uQ_loop_let F _ _ _ (uQ_ordS_let h)
    · exact h
theorem uQ_text_let (S : q_St) : ∀ i, i < (uQ_text t n S).2.1 → uQ_let ((uQ_text t n S).1 119 (4 * i)) := uQ_loop_let 61 _ _ _ (uQ_ordS_let (fun i hi => absurd hi (Nat.not_lt_zero i)))
theorem uRd_k (k : Nat) (h1 : k ≠ 112) (h2 : k ≠ 119) : ∀ (F : Nat) (S : q_St) (c : Nat) (s : Bool × Nat), (uQ_loop t n F S c s).1 k = S k
  | 0, _, _, _ => rfl
  | F + 1, S, c, s => by
    rw [uQ_loop]
    split
    · rw [uRd_k k h1 h2 F, uQ_ordS_k t n S c _ k h1 h2]
    · rfl
theorem uRd_112 (j : Nat) (h : j ≠ 18) : ∀ (F : Nat) (S : q_St) (c : Nat) (s : Bool × Nat), (uQ_loop t n F S c s).1 112 j = S 112 j
  | 0, _, _, _ => rfl
  | F + 1, S, c, s => by
    rw [uQ_loop]
    split
    · rw [uRd_112 j h F, uQ_ordS_f t n S c _ j h]
    · rfl
theorem uQ_text_k (S : q_St) (k : Nat) (h1 : k ≠ 112) (h2 : k ≠ 119) : (uQ_text t n S).1 k = S k := by
  unfold uQ_text
  rw [uRd_k k h1 h2, uQ_ordS_k t n _ _ _ k h1 h2]
  simp [q_p, h1]
theorem uQ_text_112 (S : q_St) (j : Nat) (h : j ≠ 18) : (uQ_text t n S).1 112 j = S 112 j := by
  unfold uQ_text
  rw [uRd_112 j h, uQ_ordS_f t n _ _ _ j h]
  exact q_p_off _ _ _ _ _ _ (Or.inr h)
theorem uRd_text (hn : n ≤ 60) (SC SM : q_St) :
    ((uO_text t n SC).2.1 = true ↔ ((uQ_text t n SM).2.2.1 = true ∨ (uQ_text t n SM).2.2.2 < n)) ∧ (uO_text t n SC).2.2 = (uQ_text t n SM).2.2.2 ∧
    (¬ (uO_text t n SC).2.1 = true → (uQ_text t n SM).2.1 ≤ 30 ∧ (uO_text t n SC).1 103 5 = nI (uQ_text t n SM).2.1 ∧ uRl (uQ_text t n SM).2.1 (uO_text t n SC).1 (uQ_text t n SM).1) :=
  uRd hn 31 61 (q_p SC 103 5 0) (q_p SM 112 18 0) 0 0 (Nat.zero_le _) (Nat.le_refl _) (by omega) (by omega) (q_p_on _ _ _ _) (fun i hi => absurd hi (Nat.not_lt_zero i))
end UR
/-- only the signs before the length count -/
theorem uZ_sg {t u : Nat → Int32} {n : Nat} (h : uP_nx t n = uP_nx u n) : uP_sg t n = uP_sg u n := by funext c s; unfold uP_sg; rw [h]
theorem uZ_dg {t u : Nat → Int32} {n : Nat} (h : uP_nx t n = uP_nx u n) : uP_dg t n = uP_dg u n := by funext s; unfold uP_dg; rw [h]
theorem uZ_lt {t u : Nat → Int32} {n : Nat} (h : uP_nx t n = uP_nx u n) : uP_lt t n = uP_lt u n := by funext s; unfold uP_lt; rw [h]
theorem uZ_dv {t u : Nat → Int32} {n : Nat} (h : uP_nx t n = uP_nx u n) : uP_dv t n = uP_dv u n := by funext s; unfold uP_dv; rw [h]
theorem uZ_two {t u : Nat → Int32} {n : Nat} (h : uP_nx t n = uP_nx u n) (s : Bool × Nat) : uP_two t n s ↔ uP_two u n s := by
  show uP_isD (uP_nx t n (uP_dg t n s).2) ↔ uP_isD (uP_nx u n (uP_dg u n s).2)
  rw [h, uZ_dg h]
theorem uZ_nm {t u : Nat → Int32} {n : Nat} (h : uP_nx t n = uP_nx u n) : uP_nm t n = uP_nm u n := by
  funext s
  unfold uP_nm
  by_cases c : uP_two t n s
  · rw [if_pos c, if_pos ((uZ_two h s).mp c), uZ_dg h]
  · rw [if_neg c, if_neg (fun q => c ((uZ_two h s).mpr q)), uZ_dg h]
theorem uZ_nv {t u : Nat → Int32} {n : Nat} (h : uP_nx t n = uP_nx u n) : uP_nv t n = uP_nv u n := by
  funext s
  unfold uP_nv
  by_cases c : uP_two t n s
  · rw [if_pos c, if_pos ((uZ_two h s).mp c), uZ_dg h, uZ_dv h]
  · rw [if_neg c, if_neg (fun q => c ((uZ_two h s).mpr q)), uZ_dv h]
theorem uZ_pm {t u : Nat → Int32} {n : Nat} (h : uP_nx t n = uP_nx u n) : uP_pm t n = uP_pm u n := by funext s; unfold uP_pm; rw [h, uZ_sg h]
theorem uZ_pv {t u : Nat → Int32} {n : Nat} (h : uP_nx t n = uP_nx u n) : uP_pv t n = uP_pv u n := by funext s; unfold uP_pv; rw [h]
theorem uZ_ls {t u : Nat → Int32} {n : Nat} (h : uP_nx t n = uP_nx u n) : uP_ls t n = uP_ls u n := by funext k s; unfold uP_ls; rw [uZ_sg h, uZ_nm h, uZ_pm h, uZ_dg h]
theorem uZ_lv {t u : Nat → Int32} {n : Nat} (h : uP_nx t n = uP_nx u n) : uP_lv t n = uP_lv u n := by funext k s; unfold uP_lv; rw [uZ_sg h, uZ_nv h, uZ_pm h, uZ_pv h, uZ_dv h]
theorem uZ_m {t u : Nat → Int32} {n : Nat} (h : uP_nx t n = uP_nx u n) : uP_m t n = uP_m u n := by funext s; unfold uP_m; rw [h, uZ_dv h, uZ_lt h]
theorem uZ_s2 {t u : Nat → Int32} {n : Nat} (h : uP_nx t n = uP_nx u n) : uP_s2 t n = uP_s2 u n := by funext s; unfold uP_s2; rw [h, uZ_dg h, uZ_lt h]
theorem uZ_s3 {t u : Nat → Int32} {n : Nat} (h : uP_nx t n = uP_nx u n) : uP_s3 t n = uP_s3 u n := by funext s; unfold uP_s3; rw [h, uZ_sg h, uZ_s2 h]
theorem uZ_g {t u : Nat → Int32} {n : Nat} (h : uP_nx t n = uP_nx u n) : uP_g t n = uP_g u n := by funext s; unfold uP_g; rw [h, uZ_dv h, uZ_s3 h]
theorem uZ_s4 {t u : Nat → Int32} {n : Nat} (h : uP_nx t n = uP_nx u n) : uP_s4 t n = uP_s4 u n := by funext s; unfold uP_s4; rw [h, uZ_dg h, uZ_s3 h]
theorem uZ_v {t u : Nat → Int32} {n : Nat} (h : uP_nx t n = uP_nx u n) : uP_v t n = uP_v u n := by funext s; unfold uP_v; rw [h, uZ_lv h, uZ_s4 h]
theorem uZ_s5 {t u : Nat → Int32} {n : Nat} (h : uP_nx t n = uP_nx u n) : uP_s5 t n = uP_s5 u n := by funext s; unfold uP_s5; rw [h, uZ_ls h, uZ_s4 h]
theorem uZ_ordS {t u : Nat → Int32} {n : Nat} (h : uP_nx t n = uP_nx u n) : uO_ordS t n = uO_ordS u n := by funext S c s; unfold uO_ordS; rw [h, uZ_s5 h, uZ_m h, uZ_g h, uZ_v h]
theorem uZ_ordC {t u : Nat → Int32} {n : Nat} (h : uP_nx t n = uP_nx u n) : uO_ordC t n = uO_ordC u n := by funext c s; unfold uO_ordC; rw [uZ_s5 h]
theorem uZ_loop {t u : Nat → Int32} {n : Nat} (h : uP_nx t n = uP_nx u n) : ∀ (f : Nat) (S : q_St) (c : Nat) (s : Bool × Nat), uO_loop t n f S c s = uO_loop u n f S c s
  | 0, _, _, _ => rfl
  | f + 1, S, c, s => by rw [uO_loop, uO_loop, uZ_ordS h, uZ_ordC h, uZ_s5 h, uZ_sg h, uZ_loop h f]
theorem uZ_text {t u : Nat → Int32} {n : Nat} (h : uP_nx t n = uP_nx u n) : uO_text t n = uO_text u n := by funext S; exact uZ_loop h 31 _ _ _
