
/-! the class carries out a text -/
theorem uO_ordS_k (t : Nat → Int32) (n : Nat) (S : q_St) (cnt : Nat) (s : Bool × Nat) (k : Nat) (h : k < 103 ∨ k = 104 ∨ 108 < k) : uO_ordS t n S cnt s k = S k := uO_ordS_ne t n S cnt s k (by omega) (by omega) (by omega) (by omega) (by omega)
theorem uO_loop_k (t : Nat → Int32) (n : Nat) (k : Nat) (h : k < 103 ∨ k = 104 ∨ 108 < k) : ∀ (f : Nat) (S : q_St) (cnt : Nat) (s : Bool × Nat), (uO_loop t n f S cnt s).1 k = S k
  | 0, _, _, _ => rfl
  | f + 1, S, cnt, s => by
    rw [uO_loop]
    split
    · rfl
    · split
      · exact uO_ordS_k t n S cnt s k h
      · rw [uO_loop_k t n k h f]
        exact uO_ordS_k t n S cnt s k h
def uG_R (t : Nat → Int32) (n : Nat) (S : q_St) : q_St := uO_fin (uO_text t n S)
theorem uG_R_k (t : Nat → Int32) (n : Nat) (S : q_St) (k : Nat) (h : k < 103 ∨ k = 104 ∨ 108 < k) : uG_R t n S k = S k := by
  have h1 : k ≠ 103 := by omega
  have e : (uO_text t n S).1 k = S k := by
    unfold uO_text
    rw [uO_loop_k t n k h]
    simp [q_p, h1]
  unfold uG_R uO_fin uO_at
  simp [q_p, h1, e]
def uG_P (t : Nat → Int32) (n : Nat) (S : q_St) : q_St := q_cp (uG_R t n S) 10 1
def uG_U (t : Nat → Int32) (n : Nat) (S : q_St) (cnt : Nat) : Int32 × q_St := uK_all (uG_P t n S) cnt 0 (uG_P t n S)
theorem uK_all_cs (T : q_St) : ∀ (f i : Nat) (S : q_St), (uK_all T f i S).1 = 0 ∨ (uK_all T f i S).1 = 1 ∨ (uK_all T f i S).1 = 2
  | 0, _, _ => Or.inl rfl
  | f + 1, i, S => by
    rw [uK_all]
    split
    · exact Or.inr (Or.inr rfl)
    · split
      · exact Or.inr (Or.inl rfl)
      · exact uK_all_cs T f (i + 1) _
theorem uK_all_k (T : q_St) (k : Nat) (h : 10 ≤ k) (h2 : k ≠ 102) : ∀ (f i : Nat) (S : q_St), (uK_all T f i S).2 k = S k
  | 0, _, _ => rfl
  | f + 1, i, S => by
    rw [uK_all]
    split
    · rfl
    · split
      · simp [uR_set, q_p, h2]
      · rw [uK_all_k T k h h2 f]
        exact uK_do_ne _ _ _ _ _ k h
theorem q_cp_in (S : q_St) (b o k j : Nat) (h : k < 9) (hj : j < uC_len k) : q_cp S b o (b + k) j = S (o + k) j := by
  unfold q_cp
  rw [Nat.add_sub_cancel_left, if_pos ⟨by omega, by omega, hj⟩]
theorem q_cp_bool {S : q_St} {b o : Nat} (h : q_bool S o) : q_bool (q_cp S b o) b :=
  ⟨by have := q_cp_in S b o 0 5 (by omega) (by decide); rw [Nat.add_zero, Nat.add_zero] at this; rw [this]; exact h.1, fun g hg => by rw [q_cp_in S b o 8 g (by omega) hg]; exact h.2 g hg⟩
theorem q_bool_cg {S T : q_St} {b : Nat} (h : q_bool S b) (h0 : T b = S b) (h8 : T (b + 8) = S (b + 8)) : q_bool T b := ⟨by rw [h0]; exact h.1, fun g hg => by rw [h8]; exact h.2 g hg⟩
theorem uG_P_k (t : Nat → Int32) (n : Nat) (S : q_St) (k : Nat) (h : k < 10 ∨ (19 ≤ k ∧ (k < 103 ∨ k = 104 ∨ 108 < k))) : uG_P t n S k = S k := by
  unfold uG_P
  rw [q_cp_k _ _ _ _ (by omega), uG_R_k _ _ _ _ (by omega)]
theorem uG_P_bool {t : Nat → Int32} {n : Nat} {S : q_St} (h : q_bool S 1) : q_bool (uG_P t n S) 10 := q_cp_bool (q_bool_cg h (uG_R_k _ _ _ _ (by decide)) (uG_R_k _ _ _ _ (by decide)))
theorem uG_U_bool {t : Nat → Int32} {n : Nat} {S : q_St} (cnt : Nat) (h : q_bool S 1) : q_bool (uG_U t n S cnt).2 10 := q_bool_cg (uG_P_bool h) (uK_all_k _ _ (by decide) (by decide) _ _ _) (uK_all_k _ _ (by decide) (by decide) _ _ _)
theorem uG_U_k (t : Nat → Int32) (n : Nat) (S : q_St) (cnt k : Nat) (h : 19 ≤ k ∧ k ≠ 102 ∧ (k < 103 ∨ k = 104 ∨ 108 < k)) : (uG_U t n S cnt).2 k = S k := by
  unfold uG_U
  rw [uK_all_k _ _ (by omega) h.2.1, uG_P_k _ _ _ _ (by omega)]
theorem uG_U_5 {t : Nat → Int32} {n : Nat} {S : q_St} {cnt : Nat} (h : uG_P t n S 103 5 = nI cnt) : (uG_U t n S cnt).2 103 5 = nI cnt := by
  unfold uG_U
  rw [uK_all_k _ _ (by decide) (by decide)]
  exact h
def uG_run (t : Nat → Int32) (n : Nat) (S : q_St) (cnt i z : Nat) : (Int32 ⊕ String) × q_St :=
  if (uO_text t n S).2.1 = true then (.inr xEIa, uG_R t n S)
  else if (uG_U t n S cnt).1 = 0 then (.inl (nI cnt), uH_keep (uG_U t n S cnt).2 i z 10)
  else if (uG_U t n S cnt).1 = 1 then (.inr xEUn, q_cp (uG_U t n S cnt).2 1 10)
  else (.inr xEIa, q_cp (uG_U t n S cnt).2 1 10)
