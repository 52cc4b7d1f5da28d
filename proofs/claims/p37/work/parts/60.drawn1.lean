
/-! what has been drawn -/
def uS0r (k : Nat) : Nat := if 1 ≤ k ∧ k < 28 then (k - 1) % 9 else if 30 ≤ k ∧ k < 102 then (k - 30) % 9 else 100
def uS0 : q_St := fun k => if uS0r k = 0 then (fun j => if j = 5 then 1 else 0) else if uS0r k = 6 then q_cn 6 20 else if uS0r k = 8 then q_cn 6 1 else if k = 103 then (fun j => if j = 4 then -1 else 0) else fun _ => 0
theorem uS0_z {k : Nat} (h : k = 2 ∨ k = 3 ∨ k = 4 ∨ k = 5 ∨ k = 6 ∨ k = 8) (j : Nat) : uS0 k j = 0 := by
  rcases h with rfl | rfl | rfl | rfl | rfl | rfl <;> rfl
theorem uS0_pI : pI 0 0 0 uS0 := by
  refine ⟨⟨by decide, rfl, rfl, rfl⟩, fun m _ hm => ⟨uS0_z (by decide) m, fun g _ => uS0_z (by decide) _⟩, ⟨Or.inr rfl, fun g hg => Or.inr ?_⟩, fun m _ => Or.inl (uS0_z (by decide) m), fun m hm g hg => ?_, fun g _ m _ n _ e => ?_, fun g hg => ?_, ⟨fun p hp => absurd hp (Nat.not_lt_zero p), fun p q _ hq => absurd hq (Nat.not_lt_zero q)⟩, fun g hg => ⟨0, Nat.le_refl _, uS0_z (by decide) g⟩⟩
  · show q_cn 6 1 g = 1
    unfold q_cn
    rw [if_pos hg]
  · unfold pC
    rw [uS0_z (k := 6) (by decide), uS0_z (k := 5) (by decide)]
    exact ⟨Or.inl rfl, fun _ => rfl, ⟨by decide, by decide⟩, fun _ q => absurd rfl q, fun q => absurd q (by decide), fun q => absurd q (by decide)⟩
  · rw [uS0_z (k := 6) (by decide)] at e
    exact absurd e (by decide)
  · unfold pG
    have e7 : uS0 7 g = 20 := by
      show q_cn 6 20 g = 20
      unfold q_cn
      rw [if_pos hg]
    rw [e7, q_sum_cgP (f := fun m => uC_fS uS0 m g) (h := fun _ => 0) 8 (fun m _ => by unfold uC_fS; rw [uS0_z (k := 6) (by decide), if_neg (by decide)])]
    exact ⟨by decide, by decide⟩
def pDi (d M : Nat) (S : q_St) : Prop := ∃ N i z, pI d M N S ∧ S 28 1 = nI i ∧ i < 8 ∧ S 28 2 = nI z ∧ z ≤ 8 ∧ (∀ k, 103 ≤ k → S k = uS0 k) ∧ (∀ m, S 3 m = 0)
theorem uS0_pDi : pDi 0 0 uS0 := ⟨0, 0, 0, uS0_pI, rfl, by decide, rfl, by decide, fun _ _ => rfl, fun m => uS0_z (by decide) m⟩
theorem pDi.M8 {d M : Nat} {S : q_St} (h : pDi d M S) : M ≤ 8 := by
  obtain ⟨N, i, z, h1, _⟩ := h
  exact h1.M8
theorem pDi.up {d d' M : Nat} {S : q_St} (h : pDi d M S) (hd : d ≤ d') : pDi d' M S := by
  obtain ⟨N, i, z, h1, h2⟩ := h
  exact ⟨N, i, z, h1.up hd, h2⟩
theorem pDi.rf {d M : Nat} {S T : q_St} (h : pDi d M S) (e : ∀ k, k ≠ 102 → T k = S k) : pDi d M T := by
  obtain ⟨N, i, z, h1, h2, h3, h4, h5, h6, h7⟩ := h
  refine ⟨N, i, z, h1.cg (fun k _ hk _ _ => by rw [e k (by omega)]), by rw [e 28 (by decide)]; exact h2, h3, by rw [e 28 (by decide)]; exact h4, h5, fun k hk => by rw [e k (by omega)]; exact h6 k hk, fun m => by rw [e 3 (by decide)]; exact h7 m⟩
/-- the places of what is kept -/
theorem pKp_hi (S : q_St) {i : Nat} (hi : i < 8) (z k : Nat) (hk : 102 ≤ k) : uH_keep S i z 1 k = S k := by
  unfold uH_keep
  rw [pP_k _ _ _ _ (by omega), pP_k _ _ _ _ (by omega)]
  funext j
  unfold q_cp
  rw [if_neg (by omega)]
theorem pKp_28 (S : q_St) (i z : Nat) : uH_keep S i z 1 28 1 = nI ((i + 1) % 8) ∧ uH_keep S i z 1 28 2 = nI (min (z + 1) 8) := by
  unfold uH_keep
  refine ⟨?_, ?_⟩
  · rw [pP_s, if_neg (by decide), pP_s, if_pos rfl]
  · rw [pP_s, if_pos rfl]
theorem pDn.di {d d' M M' i z : Nat} {S T : q_St} {mk ps : Bool} {v : Int32} (h : pDn S i z d' M' mk ps v T) (hi : i < 8) (h6 : ∀ k, 103 ≤ k → S k = uS0 k) (h7 : ∀ m, S 3 m = 0) (h12 : mk = true → S 1 2 = 0) : pDi d' M' T := by
  obtain ⟨_, a2, ⟨N', a3⟩, a4, _⟩ := h
  obtain ⟨k1, k2⟩ := pKp_28 S i z
  refine ⟨N', (i + 1) % 8, min (z + 1) 8, a3, by rw [a2 28 (by decide)]; exact k1, Nat.mod_lt _ (by decide), by rw [a2 28 (by decide)]; exact k2, Nat.min_le_right _ _, fun k hk => by rw [a2 k (by omega), pKp_hi S hi z k (by omega)]; exact h6 k hk, fun m => ?_⟩
  rcases a4 m with e | ⟨e1, e2⟩
  · rw [e]; exact h7 m
  · rw [e2]; exact h12 e1
theorem pOut.di {d d' M i z : Nat} {S : q_St} {ps : Bool} {hs : List (String × Int32)} {c : Int32} {r : (Int32 ⊕ String) × q_St} (h : pOut S i z d' M false ps hs c r) (hD : pDi d M S) (hdd : d ≤ d') (hi : i < 8) (h6 : ∀ k, 103 ≤ k → S k = uS0 k) (h7 : ∀ m, S 3 m = 0) : pDi d' M r.2 ∧ (uW hs r.1 = c ∨ 0 ≤ uW hs r.1) := by
  rcases h with ⟨a, b⟩ | a
  · exact ⟨(hD.rf b).up hdd, Or.inl a⟩
  · exact ⟨a.di (M := M) (d := d) hi h6 h7 (fun q => Bool.noConfusion q), Or.inr a.1⟩
section PB
variable {d M m g o : Nat} {S : q_St}
theorem b_matter (l : Launch) (hst : l.stackTraces = false) (h : pDi d M S) (hM : M < 8) (h0 : S 1 2 = 0) : ∃ T, q_Fy l yL_matter kL_matter 9 6 [.ref 0] S (nI M) T ∧ pDi d (M + 1) T ∧ T 1 2 = 0 ∧ (∀ k, 2 ≤ k → k ≠ 3 → k < 10 → T k = S k) := by
  obtain ⟨N, i, z, h1, h2, h3, h4, h5, h6, h7⟩ := h
  obtain ⟨a, b⟩ := o_matter (i := i) (z := z) h1 hM
  have k := kk_matter l hst S M h1.hM i z h2 h3 h4 h5 h1.bool
  rw [a] at k
  refine ⟨_, k, b.di (M := M) (d := d) h3 h6 h7 (fun _ => h0), (b.2.2.2.2 rfl).trans h0, fun k9 a2 a3 a4 => ?_⟩
  unfold uG_matter uR_matter
  rw [if_neg (by omega)]
  show q_p (q_p (uH_keep S i z 1) 3 M (uH_keep S i z 1 1 2)) 1 0 (nI (M + 1)) k9 = S k9
  rw [pP_k _ _ _ _ (by omega), pP_k _ _ _ _ (by omega), pKp S i z k9 (by omega)]
theorem b_set (l : Launch) (hst : l.stackTraces = false) (h : pDi d M S) (h0 : S 1 2 = 0) (hm : m < M) (hg : g < 6) {a : Int32} (ha : -50 ≤ a ∧ a ≤ 50) (ha0 : a ≠ 0) (hnew : S 2 m = 0 ∧ (∀ o, o < 6 → S 6 (m * 6 + o) = 0) ∧ S 5 (m * 6 + g) ≠ a) : ∃ v T, q_Fy l yL_set kL_set 9 6 [.ref 0, .int (nI m), .int (nI g), .int a] S v T ∧ pDi d M T ∧ T 1 2 = 0 ∧ ¬ v < 1 ∧ (∀ k, 2 ≤ k → k ≠ 5 → k < 10 → T k = S k) ∧ (∀ j, j ≠ m * 6 + g → T 5 j = S 5 j) := by
  obtain ⟨N, i, z, h1, h2, h3, h4, h5, h6, h7⟩ := h
  have k := kk_set l hst S M h1.hM i z h2 h3 h4 h5 (nI m) (nI g) a h1.bool
  obtain ⟨p1, p2⟩ := o_set (i := i) (z := z) (hs := [(xENs, (-1)), (xEIa, (-2)), (xEUn, (-3))]) (c := -3) h1 hm hg ha rfl
  have hr : uR_setA S m g a = none := by
    obtain ⟨e1, e2, e3⟩ := hnew
    unfold uR_setA
    have e4 : uC_answered S m = 0 := by
      unfold uC_answered uC_guilds uC_ans
      rw [q_sum_cgP (f := uC_fG S m) (h := uC_fA S m 0) 6 (fun o ho => by
        unfold uC_fG uC_fA
        by_cases c : S 5 (m * 6 + o) = 0
        · rw [if_pos c, if_neg (fun q => q.1 c)]
        · rw [if_neg c, if_pos ⟨c, e2 o ho⟩])]
      exact Int32.sub_self _
    rw [if_neg (fun q => q e1), e4, if_neg (by decide), if_neg e3]
  have eq : uG_set S i z (nI m) (nI g) a = (.inl (uC_guilds (q_p (uH_keep S i z 1) 5 (m * 6 + g) a) m), q_p (uH_keep S i z 1) 5 (m * 6 + g) a) := by
    obtain ⟨m1, m2⟩ := pIn2 h1 hm
    obtain ⟨n1, n2⟩ := pIg2 (n := 6) hg (by decide)
    unfold uG_set
    rw [if_pos m1, if_pos (show 0 ≤ nI g ∧ nI g < 6 from n1), if_pos ha, m2, n2, hr]
    rfl
  rw [eq] at k p1 p2
  have hv : 0 ≤ uC_guilds (q_p (uH_keep S i z 1) 5 (m * 6 + g) a) m := g0 _ _
  refine ⟨_, _, k, (p1.di ⟨N, i, z, h1, h2, h3, h4, h5, h6, h7⟩ (Nat.le_refl _) h3 h6 h7).1, ?_, p2 ha0 hv (by decide), fun k9 a2 a3 a4 => ?_, fun j hj => ?_⟩
  · show q_p (uH_keep S i z 1) 5 (m * 6 + g) a 1 2 = 0
    rw [pP_k _ _ _ _ (by decide), pKp S i z 1 (by decide)]
    exact h0
  · show q_p (uH_keep S i z 1) 5 (m * 6 + g) a k9 = S k9
    rw [pP_k _ _ _ _ a3, pKp S i z k9 (by omega)]
  · show q_p (uH_keep S i z 1) 5 (m * 6 + g) a 5 j = S 5 j
    rw [pP_s, if_neg hj, pKp S i z 5 (by decide)]
theorem b_ask (l : Launch) (hst : l.stackTraces = false) (h : pDi d M S) (hm : m < M) (hg : g < 6) : ∃ v T, q_Fy l yL_ask kL_ask 9 6 [.ref 0, .int (nI m), .int (nI g)] S v T ∧ pDi d M T ∧ (v = -3 ∨ 0 ≤ v) := by
  obtain ⟨N, i, z, h1, h2, h3, h4, h5, h6, h7⟩ := h
  exact ⟨_, _, kk_ask l hst S M h1.hM i z h2 h3 h4 h5 (nI m) (nI g) h1.bool, (o_ask h1 hm hg rfl).di ⟨N, i, z, h1, h2, h3, h4, h5, h6, h7⟩ (Nat.le_refl _) h3 h6 h7⟩
theorem b_decide (l : Launch) (hst : l.stackTraces = false) (h : pDi d M S) (hm : m < M) : ∃ v T, q_Fy l yL_decide kL_decide 9 6 [.ref 0, .int (nI m)] S v T ∧ pDi d M T ∧ (v = -2 ∨ 0 ≤ v) := by
  obtain ⟨N, i, z, h1, h2, h3, h4, h5, h6, h7⟩ := h
  exact ⟨_, _, kk_decide l hst S M h1.hM N h1.hN i z h2 h3 h4 h5 h1.nd (nI m) h1.bool, (o_decide h1 hm rfl).di ⟨N, i, z, h1, h2, h3, h4, h5, h6, h7⟩ (Nat.le_refl _) h3 h6 h7⟩
theorem b_tell (l : Launch) (hst : l.stackTraces = false) (h : pDi d M S) (hm : m < M) (hg : g < 6) : ∃ v T, q_Fy l yL_tell kL_tell 9 6 [.ref 0, .int (nI m), .int (nI g)] S v T ∧ pDi d M T ∧ (v = -3 ∨ 0 ≤ v) := by
  obtain ⟨N, i, z, h1, h2, h3, h4, h5, h6, h7⟩ := h
  exact ⟨_, _, kk_tell l hst S M h1.hM i z h2 h3 h4 h5 (nI m) (nI g) h1.bool, (o_tell h1 hm hg rfl).di ⟨N, i, z, h1, h2, h3, h4, h5, h6, h7⟩ (Nat.le_refl _) h3 h6 h7⟩
theorem b_inq (l : Launch) (hst : l.stackTraces = false) (h : pDi d M S) (hm : m < M) (hg : g < 6) (ho : o < 6) : ∃ v T, q_Fy l yL_inquire kL_inquire 9 6 [.ref 0, .int (nI m), .int (nI g), .int (nI o)] S v T ∧ pDi d M T ∧ (v = -3 ∨ 0 ≤ v) := by
  obtain ⟨N, i, z, h1, h2, h3, h4, h5, h6, h7⟩ := h
  exact ⟨_, _, kk_inquire l hst S M h1.hM i z h2 h3 h4 h5 (nI m) (nI g) (nI o) h1.bool, (o_inq h1 hm hg ho rfl).di ⟨N, i, z, h1, h2, h3, h4, h5, h6, h7⟩ (Nat.le_refl _) h3 h6 h7⟩
theorem b_faint (l : Launch) (hst : l.stackTraces = false) (h : pDi d M S) (h0 : S 1 5 ≠ 0) : ∃ v T, q_Fy l yL_faint kL_faint 9 6 [.ref 0] S v T ∧ pDi d M T ∧ 0 ≤ v := by
  obtain ⟨N, i, z, h1, h2, h3, h4, h5, h6, h7⟩ := h
  have k := kk_faint l hst S M h1.hM i z h2 h3 h4 h5 h1.bool
  have e : uG_faint S M i z = (.inl (uC_matters (uH_keep S i z 1) M 0), uC_faint (uH_keep S i z 1)) := by
    unfold uG_faint uR_fainted
    rw [if_neg h0]
    rfl
  rw [e] at k
  exact ⟨_, _, k, (d_faint h1).di (M := M) (d := d) h3 h6 h7 (fun q => Bool.noConfusion q), (d_faint (i := i) (z := z) h1).1⟩
theorem b_wake (l : Launch) (hst : l.stackTraces = false) (h : pDi d M S) (h0 : S 1 5 = 0) : ∃ v T, q_Fy l yL_wake kL_wake 9 6 [.ref 0] S v T ∧ pDi d M T ∧ 0 ≤ v := by
  obtain ⟨N, i, z, h1, h2, h3, h4, h5, h6, h7⟩ := h
  have k := kk_wake l hst S M h1.hM N h1.hN i z h2 h3 h4 h5 ((h1.keep i z).p1 (j := 5) 1 (by decide) (by decide) (fun _ => Or.inr rfl)).wk8 h1.bool
  have e : uG_wake S M N i z = (.inl (nI (uC_wkN (q_p (uH_keep S i z 1) 1 5 1) N M) - nI N), uC_wake (uH_keep S i z 1) M N) := by
    unfold uG_wake uR_wake
    rw [if_pos h0]
    rfl
  rw [e] at k
  exact ⟨_, _, k, (d_wake h1).di (M := M) (d := d) h3 h6 h7 (fun q => Bool.noConfusion q), (d_wake (i := i) (z := z) h1).1⟩
theorem b_sleep (l : Launch) (hst : l.stackTraces = false) (h : pDi d M S) (hg : g < 6) (h0 : S 9 g ≠ 0) : ∃ v T, q_Fy l yL_sleep kL_sleep 9 6 [.ref 0, .int (nI g)] S v T ∧ pDi d M T ∧ 0 ≤ v := by
  obtain ⟨N, i, z, h1, h2, h3, h4, h5, h6, h7⟩ := h
  have k := kk_sleep l hst S i z h2 h3 h4 h5 (nI g) h1.bool
  have e : uG_sleep S i z (nI g) = (.inl (uC_awake (q_p (uH_keep S i z 1) 9 g 0)), q_p (uH_keep S i z 1) 9 g 0) := by
    obtain ⟨n1, n2⟩ := pIg2 (n := 6) hg (by decide)
    unfold uG_sleep uR_sleep
    rw [if_pos (show 0 ≤ nI g ∧ nI g < 6 from n1), n2, if_neg h0]
    rfl
  rw [e] at k
  exact ⟨_, _, k, (d_slp h1 (Or.inl rfl)).di (M := M) (d := d) h3 h6 h7 (fun q => Bool.noConfusion q), (d_slp (i := i) (z := z) (g := g) h1 (Or.inl rfl)).1⟩
theorem b_rouse (l : Launch) (hst : l.stackTraces = false) (h : pDi d M S) (hg : g < 6) (h0 : S 9 g = 0) : ∃ v T, q_Fy l yL_rouse kL_rouse 9 6 [.ref 0, .int (nI g)] S v T ∧ pDi d M T ∧ 0 ≤ v := by
  obtain ⟨N, i, z, h1, h2, h3, h4, h5, h6, h7⟩ := h
  have k := kk_rouse l hst S i z h2 h3 h4 h5 (nI g) h1.bool
  have e : uG_rouse S i z (nI g) = (.inl (uC_awake (q_p (uH_keep S i z 1) 9 g 1)), q_p (uH_keep S i z 1) 9 g 1) := by
    obtain ⟨n1, n2⟩ := pIg2 (n := 6) hg (by decide)
    unfold uG_rouse uR_rouse
    rw [if_pos (show 0 ≤ nI g ∧ nI g < 6 from n1), n2, if_pos h0]
    rfl
  rw [e] at k
  exact ⟨_, _, k, (d_slp h1 (Or.inr rfl)).di (M := M) (d := d) h3 h6 h7 (fun q => Bool.noConfusion q), (d_slp (i := i) (z := z) (g := g) h1 (Or.inr rfl)).1⟩
theorem b_pass (l : Launch) (hst : l.stackTraces = false) (h : pDi d M S) {x : Nat} (hx1 : 1 ≤ x) (hx2 : x ≤ 5) : ∃ v T, q_Fy l yL_pass kL_pass 9 6 [.ref 0, .int (nI x)] S v T ∧ pDi (d + 5) M T ∧ 0 ≤ v := by
  obtain ⟨N, i, z, h1, h2, h3, h4, h5, h6, h7⟩ := h
  have k := kk_pass l hst S M h1.hM i z h2 h3 h4 h5 (nI x) h1.bool
  have p := o_pass (i := i) (z := z) h1 hx1 (by omega) hx2 [(xEIa, (-1))]
  exact ⟨_, _, k, p.di (M := M) (d := d) h3 h6 h7 (fun q => Bool.noConfusion q), p.1⟩
/-- ahead of the steps: matters that have only amounts -/
def pSt0 (M : Nat) (S : q_St) : Prop := pDi 0 M S ∧ S 1 2 = 0 ∧ (∀ j, j < 8 → S 2 j = 0) ∧ (∀ j, j < 48 → S 6 j = 0)
def pSt1 (m g : Nat) (S : q_St) : Prop := pSt0 (m + 1) S ∧ ∀ o, g ≤ o → o < 6 → S 5 (m * 6 + o) = 0
theorem c_matter (l : Launch) (hst : l.stackTraces = false) (h : pSt0 M S) (hM : M < 8) : ∃ T, q_Fy l yL_matter kL_matter 9 6 [.ref 0] S (nI M) T ∧ pSt1 M 0 T := by
  obtain ⟨h1, h2, h3, h4⟩ := h
  obtain ⟨T, a1, a2, a3, a4⟩ := b_matter l hst h1 hM h2
  refine ⟨T, a1, ⟨a2, a3, fun j hj => by rw [a4 2 (by decide) (by decide) (by decide)]; exact h3 j hj, fun j hj => by rw [a4 6 (by decide) (by decide) (by decide)]; exact h4 j hj⟩, fun o _ ho => ?_⟩
  rw [a4 5 (by decide) (by decide) (by decide)]
  obtain ⟨N, i, z, hI, _⟩ := h1
  exact (hI.out (Nat.le_refl _) hM).2 o ho
theorem c_set (l : Launch) (hst : l.stackTraces = false) (h : pSt1 m g S) (hg : g < 6) {a : Int32} (ha : -50 ≤ a ∧ a ≤ 50) (ha0 : a ≠ 0) : ∃ v T, q_Fy l yL_set kL_set 9 6 [.ref 0, .int (nI m), .int (nI g), .int a] S v T ∧ pSt1 m (g + 1) T ∧ ¬ v < 1 := by
  obtain ⟨⟨h1, h2, h3, h4⟩, h5⟩ := h
  have hM8 := h1.M8
  obtain ⟨v, T, a1, a2, a3, a4, a5, a6⟩ := b_set l hst h1 h2 (m := m) (by omega) hg ha ha0 ⟨h3 m (by omega), fun o ho => h4 _ (by omega), by rw [h5 g (Nat.le_refl _) hg]; exact Ne.symm ha0⟩
  refine ⟨v, T, a1, ⟨⟨a2, a3, fun j hj => by rw [a5 2 (by decide) (by decide) (by decide)]; exact h3 j hj, fun j hj => by rw [a5 6 (by decide) (by decide) (by decide)]; exact h4 j hj⟩, fun o h9 ho => ?_⟩, a4⟩
  rw [a6 _ (by omega)]
  exact h5 o (by omega) ho
theorem pSt1.skip (h : pSt1 m g S) : pSt1 m (g + 1) S := ⟨h.1, fun o h1 h2 => h.2 o (by omega) h2⟩
theorem am_rng : ∀ k, k < 60 → -50 ≤ nI k - 30 ∧ nI k - 30 ≤ 50 := by decide
end PB
