
/-! the reference: what a change does, checks first; the answer and the state -/
def uM_fr (S T : q_St) : Prop := (∀ k, k ≠ 112 → k ≠ 113 → T k = S k) ∧ ∀ j, j < 6 ∨ 9 < j → T 112 j = S 112 j
theorem uM_fr.rf (S : q_St) : uM_fr S S := ⟨fun _ _ _ => rfl, fun _ _ => rfl⟩
theorem uM_fr.tr {S T U : q_St} (h : uM_fr S T) (h2 : uM_fr T U) : uM_fr S U := ⟨fun k a b => (h2.1 k a b).trans (h.1 k a b), fun j a => (h2.2 j a).trans (h.2 j a)⟩
theorem uM_fr.p {S T : q_St} (h : uM_fr S T) (i : Nat) (v : Int32) : uM_fr S (q_p T 113 i v) := h.tr ⟨fun k _ b => by simp [q_p, b], fun _ _ => rfl⟩
theorem uM_fr.x {S T : q_St} (h : uM_fr S T) (i : Nat) (v : Int32) (h6 : 6 ≤ i) (h9 : i ≤ 9) : uM_fr S (q_p T 112 i v) := h.tr ⟨fun k a _ => by simp [q_p, a], fun j hj => q_p_ne T 112 i v j (by omega)⟩
theorem uM_fr.refuse {S T : q_St} (h : uM_fr S T) (p w d : Int32) : uM_fr S (uM_refuse T p w d) := (((h.x 6 p (by omega) (by omega)).x 9 1 (by omega) (by omega)).x 7 w (by omega) (by omega)).x 8 d (by omega) (by omega)
theorem uM_fr.book {S T : q_St} (h : uM_fr S T) (m N : Nat) (v : Int32) : uM_fr S (uM_book T m N v) := ((h.p _ _).p _ _).p _ _
theorem uM_fr.hear1 {S T : q_St} (h : uM_fr S T) (m g : Nat) : uM_fr S (uM_hear1 T m g) := (h.p _ _).p _ _
theorem uM_fr.hear0 {S T : q_St} (h : uM_fr S T) (m g : Nat) : uM_fr S (uM_hear0 T m g) := (h.p _ _).p _ _
theorem uM_fr.tell {S T : q_St} (h : uM_fr S T) (m g : Nat) : uM_fr S (uM_tell T m g) := by
  unfold uM_tell
  split
  · exact h.hear1 m g
  · exact h.hear0 m g
theorem uM_fr.inq {S T : q_St} (h : uM_fr S T) (m g o : Nat) : uM_fr S (uM_inq T m g o) := by
  unfold uM_inq
  split
  · split
    · exact (h.hear1 m g).p _ _
    · exact (h.hear0 m g).p _ _
  · exact ((h.p _ _).hear0 m g).p _ _
theorem uM_fr.wk {S T : q_St} (h : uM_fr S T) (N : Nat) : ∀ i, uM_fr S (uM_wk T N i)
  | 0 => h
  | i + 1 => by
    rw [uM_wk]
    split
    · exact (uM_fr.wk h N i).book _ _ _
    · exact uM_fr.wk h N i
theorem uM_fr.ps {S T : q_St} (h : uM_fr S T) (M : Nat) (v : Int32) : ∀ i, uM_fr S (uM_ps T M v i)
  | 0 => h
  | i + 1 => (uM_fr.ps h M v i).p _ _
theorem uM_fr.z {S T : q_St} (h : uM_fr S T) (M : Nat) : ∀ i, uM_fr S (uM_z T M i)
  | 0 => h
  | i + 1 => (uM_fr.z h M i).p _ _
theorem uM_hear1_3 (S : q_St) (m g : Nat) (hg : g < 6) : uM_hear1 S m g 113 3 = S 113 3 := (q_p_ne _ _ _ _ _ (by omega)).trans (q_p_ne _ _ _ _ _ (by omega))
theorem uM_hear0_3 (S : q_St) (m g : Nat) (hg : g < 6) : uM_hear0 S m g 113 3 = S 113 3 := (q_p_ne _ _ _ _ _ (by omega)).trans (q_p_ne _ _ _ _ _ (by omega))
def uM_out (S : q_St) (p : Int32) (o : uR_O) (v : Int32) (T : q_St) : Int32 × q_St := match o with
  | none => (v, T)
  | some q => (0, uM_refuse S p q.1 q.2)
def uM_bad (S : q_St) (p : Int32) : Int32 × q_St := (0, q_p S 112 6 p)
theorem uM_fr.out {S T : q_St} (h : uM_fr S T) (p : Int32) (o : uR_O) (v : Int32) : uM_fr S (uM_out S p o v T).2 := by
  cases o with
  | none => exact h
  | some q => exact (uM_fr.rf S).refuse _ _ _
theorem uM_fr.bad (S : q_St) (p : Int32) : uM_fr S (uM_bad S p).2 := (uM_fr.rf S).x 6 p (by omega) (by omega)
def uMd_matter (S : q_St) (M : Nat) : Int32 × q_St := uM_out S 1 (uMr_matter M) (nI M) (uM_newm S M)
def uMd_set (S : q_St) (M : Nat) (x y a : Int32) : Int32 × q_St :=
  if 0 ≤ x ∧ x < nI M then if 0 ≤ y ∧ y < 6 then if -50 ≤ a ∧ a ≤ 50 then uM_out S 3 (uMr_set S (uN x) (uN y) a) (uM_cnt (q_p S 113 (32 + 14 * uN x + 2 + uN y) a) (uN x) 0 4) (q_p S 113 (32 + 14 * uN x + 2 + uN y) a) else uM_bad S 2 else uM_bad S 1 else uM_bad S 1
def uMd_ask (S : q_St) (M : Nat) (x y : Int32) : Int32 × q_St :=
  if 0 ≤ x ∧ x < nI M then if 0 ≤ y ∧ y < 6 then uM_out S 3 (uMr_ask S M (uN x) (uN y)) (if uM_would S M (uN x) (uN y) then 1 else 2) (uM_ask S M (uN x) (uN y)) else uM_bad S 2 else uM_bad S 1
def uMd_decide (S : q_St) (M N : Nat) (x : Int32) : Int32 × q_St :=
  if 0 ≤ x ∧ x < nI M then uM_out S 2 (uMr_decide S M (uN x)) (if uM_opp S (uN x) then 2 else 1) (uM_dec S N (uN x)) else uM_bad S 1
def uMd_tell (S : q_St) (M : Nat) (x y : Int32) : Int32 × q_St :=
  if 0 ≤ x ∧ x < nI M then if 0 ≤ y ∧ y < 6 then uM_out S 3 (uMr_tell S M (uN x) (uN y)) (uM_tell S (uN x) (uN y) 113 (6 + uN y)) (uM_tell S (uN x) (uN y)) else uM_bad S 2 else uM_bad S 1
def uMd_faint (S : q_St) (M : Nat) : Int32 × q_St := uM_out S 1 (uMr_faint S M) (uM_matters (uM_faint S) M 0) (uM_faint S)
def uMd_wake (S : q_St) (M N : Nat) : Int32 × q_St := uM_out S 1 (uMr_wake S) (nI (uM_wkN (q_p S 113 1 0) N M - N)) (uM_wake S M N)
def uMd_sleep (S : q_St) (y v : Int32) : Int32 × q_St :=
  if 0 ≤ y ∧ y < 6 then uM_out S 2 (uMr_sleep S (uN y) v) (uM_awake (q_p S 113 (12 + uN y) v)) (q_p S 113 (12 + uN y) v) else uM_bad S 1
def uMd_inq (S : q_St) (M : Nat) (x y z : Int32) : Int32 × q_St :=
  if 0 ≤ x ∧ x < nI M then if 0 ≤ y ∧ y < 6 then if 0 ≤ z ∧ z < 6 then uM_out S 3 (uMr_inq S (uN x) (uN y) (uN z)) (uM_inq S (uN x) (uN y) (uN z) 113 (32 + 14 * uN x + 8 + uN y)) (uM_inq S (uN x) (uN y) (uN z)) else uM_bad S 2 else uM_bad S 2 else uM_bad S 1
def uMd_pass (S : q_St) (M : Nat) (h : Int32) : Int32 × q_St :=
  if 1 ≤ h ∧ h ≤ 24 then (q_sum (uM_psf S M h) 6, uM_pass S M h) else uM_bad S 1
theorem uMd_matter_fr (S : q_St) (M : Nat) : uM_fr S (uMd_matter S M).2 := uM_fr.out ((((uM_fr.rf S).z M 14).p _ _).p _ _) _ _ _
theorem uMd_set_fr (S : q_St) (M : Nat) (x y a : Int32) : uM_fr S (uMd_set S M x y a).2 := by
  unfold uMd_set
  split
  · split
    · split
      · exact uM_fr.out ((uM_fr.rf S).p _ _) _ _ _
      · exact uM_fr.bad S _
    · exact uM_fr.bad S _
  · exact uM_fr.bad S _
theorem uMd_ask_fr (S : q_St) (M : Nat) (x y : Int32) : uM_fr S (uMd_ask S M x y).2 := by
  unfold uMd_ask
  split
  · split
    · exact uM_fr.out ((uM_fr.rf S).p _ _) _ _ _
    · exact uM_fr.bad S _
  · exact uM_fr.bad S _
theorem uMd_decide_fr (S : q_St) (M N : Nat) (x : Int32) : uM_fr S (uMd_decide S M N x).2 := by
  unfold uMd_decide
  split
  · exact uM_fr.out ((uM_fr.rf S).book _ _ _) _ _ _
  · exact uM_fr.bad S _
theorem uMd_tell_fr (S : q_St) (M : Nat) (x y : Int32) : uM_fr S (uMd_tell S M x y).2 := by
  unfold uMd_tell
  split
  · split
    · exact uM_fr.out ((uM_fr.rf S).tell _ _) _ _ _
    · exact uM_fr.bad S _
  · exact uM_fr.bad S _
theorem uMd_faint_fr (S : q_St) (M : Nat) : uM_fr S (uMd_faint S M).2 := uM_fr.out (((uM_fr.rf S).p _ _).p _ _) _ _ _
theorem uMd_wake_fr (S : q_St) (M N : Nat) : uM_fr S (uMd_wake S M N).2 := uM_fr.out (((uM_fr.rf S).p _ _).wk N M) _ _ _
theorem uMd_sleep_fr (S : q_St) (y v : Int32) : uM_fr S (uMd_sleep S y v).2 := by
  unfold uMd_sleep
  split
  · exact uM_fr.out ((uM_fr.rf S).p _ _) _ _ _
  · exact uM_fr.bad S _
theorem uMd_inq_fr (S : q_St) (M : Nat) (x y z : Int32) : uM_fr S (uMd_inq S M x y z).2 := by
  unfold uMd_inq
  split
  · split
    · split
      · exact uM_fr.out ((uM_fr.rf S).inq _ _ _) _ _ _
      · exact uM_fr.bad S _
    · exact uM_fr.bad S _
  · exact uM_fr.bad S _
theorem uMd_pass_fr (S : q_St) (M : Nat) (h : Int32) : uM_fr S (uMd_pass S M h).2 := by
  unfold uMd_pass
  split
  · exact ((uM_fr.rf S).ps M h 6).p _ _
  · exact uM_fr.bad S _
/-- a change's end: kept, or undone -/
def uM_ends (r : Int32 × q_St) (pm : Nat) : Int32 × q_St := if 0 < r.2 112 6 then (0, uM_back r.2) else (r.1, uM_push r.2 pm)
