
/-! the input and its reader: a flag (true: failed) and a place -/
def uO_b (f : Bool) : Int32 := match f with
  | true => 1
  | false => 0
theorem q_bc (b : Bool) : b = false ∨ b = true := by cases b <;> simp
def uO_at (S : q_St) (s : Bool × Nat) : q_St := q_p (q_p S 103 3 (uO_b s.1)) 103 2 (nI s.2)
theorem uO_at_3 (S : q_St) (s : Bool × Nat) : uO_at S s 103 3 = uO_b s.1 := rfl
theorem uO_at_2 (S : q_St) (s : Bool × Nat) : uO_at S s 103 2 = nI s.2 := rfl
theorem uO_at_k (S : q_St) (s : Bool × Nat) (j : Nat) (h2 : j ≠ 2) (h3 : j ≠ 3) : uO_at S s 103 j = S 103 j := by simp [uO_at, q_p, upd, h2, h3]
theorem uO_at_w (S : q_St) (s : Bool × Nat) (f : Bool) (p : Nat) : q_p (q_p (uO_at S s) 103 3 (uO_b f)) 103 2 (nI p) = uO_at S (f, p) := by
  funext k j
  unfold uO_at q_p
  by_cases hk : k = 103
  · subst hk
    by_cases h2 : j = 2
    · subst h2; simp [upd]
    · by_cases h3 : j = 3
      · subst h3; simp [upd]
      · simp [upd, h2, h3]
  · simp [hk]
def uP_nx (t : Nat → Int32) (n p : Nat) : Int32 := if p < n then t p else 0
abbrev uP_isD (c : Int32) : Prop := 48 ≤ c ∧ c ≤ 57
def uP_go (ok : Bool) (s : Bool × Nat) : Bool × Nat := if s.1 = false ∧ ok = true then (false, s.2 + 1) else (true, s.2)
theorem uP_go_t {ok : Bool} {s : Bool × Nat} (h1 : s.1 = false) (h2 : ok = true) : uP_go ok s = (false, s.2 + 1) := if_pos ⟨h1, h2⟩
theorem uP_go_1 {ok : Bool} {s : Bool × Nat} (h1 : s.1 = true) : uP_go ok s = (true, s.2) := if_neg (fun h => by rw [h1] at h; exact absurd h.1 (by decide))
theorem uP_go_2 {ok : Bool} {s : Bool × Nat} (h2 : ok = false) : uP_go ok s = (true, s.2) := if_neg (fun h => by rw [h2] at h; exact absurd h.2 (by decide))
def uP_sg (t : Nat → Int32) (n : Nat) (c : Int32) (s : Bool × Nat) : Bool × Nat := uP_go (decide (uP_nx t n s.2 = c)) s
def uP_dg (t : Nat → Int32) (n : Nat) (s : Bool × Nat) : Bool × Nat := uP_go (decide (uP_isD (uP_nx t n s.2))) s
def uP_isL (c : Int32) : Bool := decide (0 ≤ uT_ix c)
def uP_lt (t : Nat → Int32) (n : Nat) (s : Bool × Nat) : Bool × Nat := uP_go (uP_isL (uP_nx t n s.2)) s
def uP_dv (t : Nat → Int32) (n : Nat) (s : Bool × Nat) : Int32 := uP_nx t n s.2 - 48
abbrev uP_two (t : Nat → Int32) (n : Nat) (s : Bool × Nat) : Prop := uP_isD (uP_nx t n (uP_dg t n s).2)
def uP_nm (t : Nat → Int32) (n : Nat) (s : Bool × Nat) : Bool × Nat := if uP_two t n s then uP_dg t n (uP_dg t n s) else uP_dg t n s
def uP_nv (t : Nat → Int32) (n : Nat) (s : Bool × Nat) : Int32 := if uP_two t n s then 10 * uP_dv t n s + uP_dv t n (uP_dg t n s) else uP_dv t n s
def uP_pm (t : Nat → Int32) (n : Nat) (s : Bool × Nat) : Bool × Nat := if uP_nx t n s.2 = 45 then uP_sg t n 45 s else uP_sg t n 43 s
def uP_pv (t : Nat → Int32) (n : Nat) (s : Bool × Nat) : Int32 := if uP_nx t n s.2 = 45 then -1 else 1
def uP_ls (t : Nat → Int32) (n : Nat) (k : Int32) (s : Bool × Nat) : Bool × Nat :=
  if k = 97 then uP_nm t n (uP_pm t n (uP_sg t n 61 s)) else if k = 104 then uP_nm t n s else if k = 105 then uP_dg t n (uP_sg t n 60 s) else s
def uP_lv (t : Nat → Int32) (n : Nat) (k : Int32) (s : Bool × Nat) : Int32 :=
  if k = 97 then uP_pv t n (uP_sg t n 61 s) * uP_nv t n (uP_pm t n (uP_sg t n 61 s)) else if k = 104 then uP_nv t n s else if k = 105 then uP_dv t n (uP_sg t n 60 s) else 0
abbrev uO_hasM (k : Int32) : Prop := k = 97 ∨ k = 113 ∨ k = 100 ∨ k = 116 ∨ k = 105
abbrev uO_hasG (k : Int32) : Prop := k = 97 ∨ k = 113 ∨ k = 116 ∨ k = 115 ∨ k = 114 ∨ k = 105
def uP_m (t : Nat → Int32) (n : Nat) (s : Bool × Nat) : Int32 := if uO_hasM (uP_nx t n s.2) then uP_dv t n (uP_lt t n s) else 0
def uP_s2 (t : Nat → Int32) (n : Nat) (s : Bool × Nat) : Bool × Nat := if uO_hasM (uP_nx t n s.2) then uP_dg t n (uP_lt t n s) else uP_lt t n s
def uP_s3 (t : Nat → Int32) (n : Nat) (s : Bool × Nat) : Bool × Nat := if uO_hasM (uP_nx t n s.2) then (if uO_hasG (uP_nx t n s.2) then uP_sg t n 46 (uP_s2 t n s) else uP_s2 t n s) else uP_s2 t n s
def uP_g (t : Nat → Int32) (n : Nat) (s : Bool × Nat) : Int32 := if uO_hasG (uP_nx t n s.2) then uP_dv t n (uP_s3 t n s) else 0
def uP_s4 (t : Nat → Int32) (n : Nat) (s : Bool × Nat) : Bool × Nat := if uO_hasG (uP_nx t n s.2) then uP_dg t n (uP_s3 t n s) else uP_s3 t n s
def uP_v (t : Nat → Int32) (n : Nat) (s : Bool × Nat) : Int32 := uP_lv t n (uP_nx t n s.2) (uP_s4 t n s)
def uP_s5 (t : Nat → Int32) (n : Nat) (s : Bool × Nat) : Bool × Nat := uP_ls t n (uP_nx t n s.2) (uP_s4 t n s)
def uO_rec (S : q_St) (cnt : Nat) (k m g v : Int32) : q_St := q_p (q_p (q_p (q_p (q_p S 105 cnt k) 106 cnt m) 107 cnt g) 108 cnt v) 103 5 (nI (cnt + 1))
def uO_ordS (t : Nat → Int32) (n : Nat) (S : q_St) (cnt : Nat) (s : Bool × Nat) : q_St := if (uP_s5 t n s).1 = false then (if cnt < 30 then uO_rec S cnt (uP_nx t n s.2) (uP_m t n s) (uP_g t n s) (uP_v t n s) else S) else S
def uO_ordC (t : Nat → Int32) (n : Nat) (cnt : Nat) (s : Bool × Nat) : Nat := if (uP_s5 t n s).1 = false then (if cnt < 30 then cnt + 1 else cnt) else cnt
def uO_loop (t : Nat → Int32) (n : Nat) : Nat → q_St → Nat → (Bool × Nat) → q_St × (Bool × Nat)
  | 0, S, _, s => (S, s)
  | f + 1, S, cnt, s => if s.1 = true then (S, s) else if (uP_s5 t n s).2 = n then (uO_ordS t n S cnt s, uP_s5 t n s) else uO_loop t n f (uO_ordS t n S cnt s) (uO_ordC t n cnt s) (uP_sg t n 59 (uP_s5 t n s))
def uO_text (t : Nat → Int32) (n : Nat) (S : q_St) : q_St × (Bool × Nat) := uO_loop t n 31 (q_p S 103 5 0) 0 (false, 0)
def uO_fin (r : q_St × (Bool × Nat)) : q_St := q_p (q_p (uO_at r.1 r.2) 103 4 (if r.2.1 = true then nI r.2.2 else -1)) 103 1 0
/-! plain facts -/
theorem uP_go_le {ok : Bool} {s : Bool × Nat} {n : Nat} (h : ok = true → s.2 < n) (hs : s.2 ≤ n) : (uP_go ok s).2 ≤ n := by
  unfold uP_go
  split
  · rename_i hh
    exact h hh.2
  · exact hs
theorem uP_nx_lt {t : Nat → Int32} {n p : Nat} (h : uP_nx t n p ≠ 0) : p < n := by
  unfold uP_nx at h
  by_cases hp : p < n
  · exact hp
  · rw [if_neg hp] at h; exact absurd rfl h
theorem uP_sg_le (t : Nat → Int32) (n : Nat) {c : Int32} (hc : c ≠ 0) {s : Bool × Nat} (hs : s.2 ≤ n) : (uP_sg t n c s).2 ≤ n :=
  uP_go_le (fun h => uP_nx_lt (by rw [decide_eq_true_eq] at h; rw [h]; exact hc)) hs
theorem uP_dg_le (t : Nat → Int32) (n : Nat) {s : Bool × Nat} (hs : s.2 ≤ n) : (uP_dg t n s).2 ≤ n :=
  uP_go_le (fun h => uP_nx_lt (fun e => by rw [decide_eq_true_eq, e] at h; exact absurd h.1 (by decide))) hs
theorem uP_lt_le (t : Nat → Int32) (n : Nat) {s : Bool × Nat} (hs : s.2 ≤ n) : (uP_lt t n s).2 ≤ n :=
  uP_go_le (fun h => uP_nx_lt (fun e => by rw [e] at h; exact absurd h (by decide))) hs
theorem uP_nm_le (t : Nat → Int32) (n : Nat) {s : Bool × Nat} (hs : s.2 ≤ n) : (uP_nm t n s).2 ≤ n := by
  unfold uP_nm
  split
  · exact uP_dg_le t n (uP_dg_le t n hs)
  · exact uP_dg_le t n hs
theorem uP_pm_le (t : Nat → Int32) (n : Nat) {s : Bool × Nat} (hs : s.2 ≤ n) : (uP_pm t n s).2 ≤ n := by
  unfold uP_pm
  split
  · exact uP_sg_le t n (by decide) hs
  · exact uP_sg_le t n (by decide) hs
theorem uP_ls_le (t : Nat → Int32) (n : Nat) (k : Int32) {s : Bool × Nat} (hs : s.2 ≤ n) : (uP_ls t n k s).2 ≤ n := by
  unfold uP_ls
  split
  · exact uP_nm_le t n (uP_pm_le t n (uP_sg_le t n (by decide) hs))
  · split
    · exact uP_nm_le t n hs
    · split
      · exact uP_dg_le t n (uP_sg_le t n (by decide) hs)
      · exact hs
theorem uP_s2_le (t : Nat → Int32) (n : Nat) {s : Bool × Nat} (hs : s.2 ≤ n) : (uP_s2 t n s).2 ≤ n := by
  unfold uP_s2
  split
  · exact uP_dg_le t n (uP_lt_le t n hs)
  · exact uP_lt_le t n hs
theorem uP_s3_le (t : Nat → Int32) (n : Nat) {s : Bool × Nat} (hs : s.2 ≤ n) : (uP_s3 t n s).2 ≤ n := by
  unfold uP_s3
  split
  · split
    · exact uP_sg_le t n (by decide) (uP_s2_le t n hs)
    · exact uP_s2_le t n hs
  · exact uP_s2_le t n hs
theorem uP_s4_le (t : Nat → Int32) (n : Nat) {s : Bool × Nat} (hs : s.2 ≤ n) : (uP_s4 t n s).2 ≤ n := by
  unfold uP_s4
  split
  · exact uP_dg_le t n (uP_s3_le t n hs)
  · exact uP_s3_le t n hs
theorem uP_s5_le (t : Nat → Int32) (n : Nat) {s : Bool × Nat} (hs : s.2 ≤ n) : (uP_s5 t n s).2 ≤ n := uP_ls_le t n _ (uP_s4_le t n hs)
theorem uP_nx_ch {t : Nat → Int32} {n p : Nat} (hn : n ≤ 60) (h : ∀ j, j < 60 → ∃ q, q < 65536 ∧ t j = nI q) : ∃ q, q < 65536 ∧ uP_nx t n p = nI q := by
  unfold uP_nx
  by_cases hp : p < n
  · rw [if_pos hp]; exact h p (by omega)
  · rw [if_neg hp]; exact ⟨0, by omega, rfl⟩
theorem q_narrow_c {x : Int32} (h : ∃ q, q < 65536 ∧ x = nI q) : narrow .char (.int x) = .int x := by
  obtain ⟨q, hq, rfl⟩ := h
  exact (pk_charN hq).1
theorem q_fits_c {x : Int32} (h : ∃ q, q < 65536 ∧ x = nI q) : fits .char (.int x) = true := by
  obtain ⟨q, hq, rfl⟩ := h
  exact (pk_charN hq).2
theorem q_nar_c {x : Int32} (h : ∃ q, q < 65536 ∧ x = nI q) : vp_nar .char x = x := by
  obtain ⟨q, hq, rfl⟩ := h
  have h9 := (pk_charN hq).1
  unfold vp_nar
  rw [h9]
theorem uO_ordS_ne (t : Nat → Int32) (n : Nat) (S : q_St) (cnt : Nat) (s : Bool × Nat) (k : Nat) (h1 : k ≠ 105) (h2 : k ≠ 106) (h3 : k ≠ 107) (h4 : k ≠ 108) (h5 : k ≠ 103) : uO_ordS t n S cnt s k = S k := by
  unfold uO_ordS
  split
  · split
    · simp [uO_rec, q_p, h1, h2, h3, h4, h5]
    · rfl
  · rfl
theorem uO_ordS_103 (t : Nat → Int32) (n : Nat) (S : q_St) (cnt : Nat) (s : Bool × Nat) (j : Nat) (h : j ≠ 5) : uO_ordS t n S cnt s 103 j = S 103 j := by
  unfold uO_ordS
  split
  · split
    · simp [uO_rec, q_p, upd, h]
    · rfl
  · rfl
theorem uO_ordS_5 (t : Nat → Int32) (n : Nat) (S : q_St) (cnt : Nat) (s : Bool × Nat) (h : S 103 5 = nI cnt) : uO_ordS t n S cnt s 103 5 = nI (uO_ordC t n cnt s) := by
  unfold uO_ordS uO_ordC
  split
  · split
    · simp [uO_rec, q_p, upd]
    · exact h
  · exact h
theorem uO_ordC_le (t : Nat → Int32) (n cnt : Nat) (s : Bool × Nat) (h : cnt ≤ 30) : uO_ordC t n cnt s ≤ 30 := by
  unfold uO_ordC
  split
  · split <;> omega
  · exact h
theorem uO_at_rec (S : q_St) (s : Bool × Nat) (cnt : Nat) (k m g v : Int32) : q_p (q_p (q_p (q_p (q_p (uO_at S s) 105 cnt k) 106 cnt m) 107 cnt g) 108 cnt v) 103 5 (nI (cnt + 1)) = uO_at (uO_rec S cnt k m g v) s := by
  funext i j
  unfold uO_at uO_rec q_p
  by_cases hk : i = 103
  · subst hk
    by_cases h2 : j = 2
    · subst h2; simp [upd]
    · by_cases h3 : j = 3
      · subst h3; simp [upd]
      · simp [upd, h2, h3]
  · simp [hk]
theorem uO_start (S : q_St) : q_p (q_p (q_p S 103 2 0) 103 5 0) 103 3 0 = uO_at (q_p S 103 5 0) (false, 0) := by
  funext i j
  unfold uO_at q_p
  by_cases hk : i = 103
  · subst hk
    by_cases h2 : j = 2
    · subst h2; simp [upd]; rfl
    · by_cases h3 : j = 3
      · subst h3; simp [upd]; rfl
      · simp [upd, h2, h3]
  · simp [hk]
