
/-! what the text's orders do -/
section ORD
variable {t : Nat → Int32} {n : Nat}
theorem uP_go_f {ok : Bool} {s : Bool × Nat} (h : (uP_go ok s).1 = false) : s.1 = false ∧ ok = true := by
  rcases q_bc s.1 with e | e
  · refine ⟨e, ?_⟩
    rcases q_bc ok with k | k
    · rw [uP_go_2 k] at h; exact Bool.noConfusion (show true = false from h)
    · exact k
  · rw [uP_go_1 e] at h; exact Bool.noConfusion (show true = false from h)
theorem uP_sg_f {c : Int32} {s : Bool × Nat} (h : (uP_sg t n c s).1 = false) : s.1 = false := (uP_go_f h).1
theorem uP_dg_f {s : Bool × Nat} (h : (uP_dg t n s).1 = false) : s.1 = false := (uP_go_f h).1
theorem uP_pm_f {s : Bool × Nat} (h : (uP_pm t n s).1 = false) : s.1 = false := by
  unfold uP_pm at h
  split at h <;> exact uP_sg_f h
theorem uP_nm_f {s : Bool × Nat} (h : (uP_nm t n s).1 = false) : s.1 = false := by
  unfold uP_nm at h
  split at h
  · exact uP_dg_f (uP_dg_f h)
  · exact uP_dg_f h
theorem uP_s2_f {s : Bool × Nat} (h : (uP_s2 t n s).1 = false) : (uP_lt t n s).1 = false := by
  unfold uP_s2 at h
  split at h
  · exact uP_dg_f h
  · exact h
theorem uP_s3_f {s : Bool × Nat} (h : (uP_s3 t n s).1 = false) : (uP_lt t n s).1 = false := by
  unfold uP_s3 at h
  split at h
  · split at h
    · exact uP_s2_f (uP_sg_f h)
    · exact uP_s2_f h
  · exact uP_s2_f h
theorem uP_s4_f {s : Bool × Nat} (h : (uP_s4 t n s).1 = false) : (uP_lt t n s).1 = false := by
  unfold uP_s4 at h
  split at h
  · exact uP_s3_f (uP_dg_f h)
  · exact uP_s3_f h
theorem uP_s5_l {s : Bool × Nat} (h : (uP_s5 t n s).1 = false) : uP_isL (uP_nx t n s.2) = true := by
  have k : (uP_lt t n s).1 = false := by
    unfold uP_s5 uP_ls at h
    split at h
    · exact uP_s4_f (uP_sg_f (uP_pm_f (uP_nm_f h)))
    · split at h
      · exact uP_s4_f (uP_nm_f h)
      · split at h
        · exact uP_s4_f (uP_sg_f (uP_dg_f h))
        · exact uP_s4_f h
  exact (uP_go_f k).2
def pLet (k : Int32) : Prop := k = 110 ∨ k = 97 ∨ k = 113 ∨ k = 100 ∨ k = 116 ∨ k = 102 ∨ k = 119 ∨ k = 115 ∨ k = 114 ∨ k = 105 ∨ k = 104
theorem uP_isL_dec : ∀ k, k < 256 → uP_isL (nI k) = true → (nI k = 110 ∨ nI k = 97 ∨ nI k = 113 ∨ nI k = 100 ∨ nI k = 116 ∨ nI k = 102 ∨ nI k = 119 ∨ nI k = 115 ∨ nI k = 114 ∨ nI k = 105 ∨ nI k = 104) := by decide +kernel
theorem uP_isL_11 {c : Int32} (h : uP_isL c = true) : pLet c := by
  have h9 : ¬ (c < 0 ∨ 255 < c) := fun q => by
    unfold uP_isL uT_ix at h
    rw [if_pos q, decide_eq_true_eq] at h
    exact absurd h (by decide)
  have h1 : 0 ≤ c := Int32.not_lt.mp (fun q => h9 (Or.inl q))
  have h2 : c ≤ 255 := Int32.not_lt.mp (fun q => h9 (Or.inr q))
  obtain ⟨k, hk, rfl⟩ := uM_okK (X := 255) (M := 256) rfl (by omega) ⟨h1, h2⟩
  exact uP_isL_dec k hk h
def pOrd (S : q_St) (cnt : Nat) : Prop := S 103 5 = nI cnt ∧ cnt ≤ 30 ∧ ∀ i, i < cnt → pLet (S 105 i)
theorem pOrd_ordS {S : q_St} {cnt : Nat} (h : pOrd S cnt) (s : Bool × Nat) : pOrd (uO_ordS t n S cnt s) (uO_ordC t n cnt s) := by
  unfold uO_ordS uO_ordC
  by_cases c : (uP_s5 t n s).1 = false
  · rw [if_pos c, if_pos c]
    by_cases c2 : cnt < 30
    · rw [if_pos c2, if_pos c2]
      unfold uO_rec
      refine ⟨by rw [pP_s, if_pos rfl], by omega, fun i hi => ?_⟩
      rw [pP_k _ _ _ _ (by decide), pP_k _ _ _ _ (by decide), pP_k _ _ _ _ (by decide), pP_k _ _ _ _ (by decide), pP_s]
      by_cases c3 : i = cnt
      · rw [if_pos c3]
        exact uP_isL_11 (uP_s5_l c)
      · rw [if_neg c3]
        exact h.2.2 i (by omega)
    · rw [if_neg c2, if_neg c2]
      exact h
  · rw [if_neg c, if_neg c]
    exact h
theorem pOrd_loop : ∀ (f : Nat) (S : q_St) (cnt : Nat) (s : Bool × Nat), pOrd S cnt → ∃ cnt', pOrd (uO_loop t n f S cnt s).1 cnt'
  | 0, S, cnt, s, h => ⟨cnt, h⟩
  | f + 1, S, cnt, s, h => by
    rw [uO_loop]
    split
    · exact ⟨cnt, h⟩
    · split
      · exact ⟨_, pOrd_ordS h s⟩
      · exact pOrd_loop f _ _ _ (pOrd_ordS h s)
theorem pOrd_P (S : q_St) : ∃ cnt, pOrd (uG_P t n S) cnt := by
  obtain ⟨cnt, h1, h2, h3⟩ := pOrd_loop (t := t) (n := n) 31 (q_p S 103 5 0) 0 (false, 0) ⟨by rw [pP_s, if_pos rfl]; rfl, by decide, fun i hi => absurd hi (Nat.not_lt_zero i)⟩
  have e : ∀ k, 19 ≤ k → uG_P t n S k = uG_R t n S k := fun k hk => by
    unfold uG_P
    rw [q_cp_k _ _ _ _ (by omega)]
  refine ⟨cnt, ?_, h2, fun i hi => ?_⟩
  · rw [e 103 (by decide)]
    unfold uG_R uO_fin
    rw [pP_s, if_neg (by decide), pP_s, if_neg (by decide), uO_at_k _ _ _ (by decide) (by decide)]
    exact h1
  · rw [e 105 (by decide)]
    unfold uG_R uO_fin uO_at
    rw [pP_k _ _ _ _ (by decide), pP_k _ _ _ _ (by decide), pP_k _ _ _ _ (by decide), pP_k _ _ _ _ (by decide)]
    exact h3 i hi
theorem uG_R_1 (S : q_St) : uG_R t n S 103 1 = 0 := by
  unfold uG_R uO_fin
  rw [pP_s, if_pos rfl]
end ORD
section PRUN
variable {d M N : Nat} {S : q_St}
theorem pD_uJ (A : q_St) : ∀ M, uJ_cnt A M = pD A M
  | 0 => rfl
  | m + 1 => by rw [uJ_cnt, pD, pD_uJ A m]
theorem pI.uJ (h : pI d M N S) : uJ S := ⟨M, h.M8, h.hM.1, by rw [pD_uJ, ← h.eN]; exact h.hN, fun m a b => (h.out a b).1, h.bool⟩
theorem pLt {x : Int32} {M : Nat} (h : 0 ≤ x ∧ x < nI M) (hM : M ≤ 1000) : ∃ a, a < M ∧ x = nI a := uM_okK rfl hM ((uM_isK hM).mpr h)
theorem pI.do (h : pI d M N S) {k m g v : Int32} (hw : ¬ uK_wrong S k m g v = true) (hr : uK_ref S k m g v = none) (hk : pLet k) : ∃ M' N', pI (d + 24) M' N' (uK_do S k m g v) := by
  have hM8 := h.M8
  have hN8 := h.N8
  have eM : uN (S 1 0) = M := by rw [h.hM.1]; exact uN_nI (by omega)
  have eN : uN (S 1 1) = N := by rw [h.hN]; exact uN_nI (by omega)
  have inM : ∀ x : Int32, (0 ≤ x ∧ x < S 1 0) → uN x < M := fun x hx => by
    rw [h.hM.1] at hx
    obtain ⟨a, ha, rfl⟩ := pLt hx (by omega)
    rw [uN_nI (by omega)]; exact ha
  have inG : ∀ x : Int32, (0 ≤ x ∧ x < 6) → uN x < 6 := fun x hx => by
    obtain ⟨a, ha, rfl⟩ := pLt (M := 6) hx (by decide)
    rw [uN_nI (by omega)]; exact ha
  have up : ∀ {M' N' : Nat} {T : q_St}, pI d M' N' T → ∃ M' N', pI (d + 24) M' N' T := fun q => ⟨_, _, q.up (by omega)⟩
  unfold uK_wrong at hw
  unfold uK_ref at hr
  unfold uK_do
  rw [eM] at hr ⊢
  rw [eN]
  rcases hk with rfl | rfl | rfl | rfl | rfl | rfl | rfl | rfl | rfl | rfl | rfl
  · rw [if_pos rfl] at hr ⊢
    have hM : M < 8 := by
      unfold uR_matter at hr
      split at hr
      · cases hr
      · omega
    exact up (h.new hM _)
  · simp (config := { decide := true }) only [if_true, if_false] at hw hr ⊢
    rw [decide_eq_true_iff] at hw
    have a1 : uN m < M := inM m (Decidable.byContradiction (fun q => hw (Or.inl (Or.inl q))))
    have a2 : uN g < 6 := inG g (Decidable.byContradiction (fun q => hw (Or.inl (Or.inr q))))
    exact up (h.set a1 a2 ⟨Int32.not_lt.mp (fun q => hw (Or.inr (Or.inl q))), Int32.not_lt.mp (fun q => hw (Or.inr (Or.inr q)))⟩ hr)
  · simp (config := { decide := true }) only [if_true, if_false] at hw hr ⊢
    rw [decide_eq_true_iff] at hw
    have a1 : uN m < M := inM m (Decidable.byContradiction (fun q => hw (Or.inl q)))
    have a2 : uN g < 6 := inG g (Decidable.byContradiction (fun q => hw (Or.inr q)))
    exact up (h.ask a1 a2 hr)
  · simp (config := { decide := true }) only [if_true, if_false] at hw hr ⊢
    rw [decide_eq_true_iff] at hw
    exact up (h.decide (inM m (Decidable.byContradiction hw)) hr)
  · simp (config := { decide := true }) only [if_true, if_false] at hw hr ⊢
    rw [decide_eq_true_iff] at hw
    have a1 : uN m < M := inM m (Decidable.byContradiction (fun q => hw (Or.inl q)))
    have a2 : uN g < 6 := inG g (Decidable.byContradiction (fun q => hw (Or.inr q)))
    exact up (h.tell a1 a2 hr)
  · simp (config := { decide := true }) only [if_true, if_false]
    exact up h.faint
  · simp (config := { decide := true }) only [if_true, if_false]
    exact up h.wake
  · simp (config := { decide := true }) only [if_true, if_false]
    exact up (h.slp (Or.inl rfl))
  · simp (config := { decide := true }) only [if_true, if_false]
    exact up (h.slp (Or.inr rfl))
  · simp (config := { decide := true }) only [if_true, if_false] at hw hr ⊢
    rw [decide_eq_true_iff] at hw
    have a1 : uN m < M := inM m (Decidable.byContradiction (fun q => hw (Or.inl (Or.inl q))))
    have a2 : uN g < 6 := inG g (Decidable.byContradiction (fun q => hw (Or.inl (Or.inr q))))
    have a3 : uN v < 6 := inG v (Decidable.byContradiction (fun q => hw (Or.inr q)))
    exact up (h.inq a1 a2 a3 hr).1
  · simp (config := { decide := true }) only [if_true, if_false] at hw ⊢
    rw [decide_eq_true_iff] at hw
    have b1 : (1 : Int32) ≤ v := Int32.not_lt.mp (fun q => hw (Or.inl q))
    have b2 : v ≤ 24 := Int32.not_lt.mp (fun q => hw (Or.inr q))
    obtain ⟨x, hx, rfl⟩ := uM_okK (X := 24) (M := 25) rfl (by omega) ⟨Int32.le_trans (by decide) b1, b2⟩
    exact ⟨_, _, h.pass (n := 24) (by omega)⟩
theorem pI.all (T : q_St) : ∀ (f i d M N : Nat) (S : q_St), pI d M N S → (∀ j, i ≤ j → j < i + f → pLet (T 105 j)) → (uK_all T f i S).1 = 0 → ∃ M' N', pI (d + 24 * f) M' N' (uK_all T f i S).2
  | 0, _, d, M, N, S, h, _, _ => ⟨M, N, h⟩
  | f + 1, i, d, M, N, S, h, hl, h0 => by
    rw [uK_all] at h0 ⊢
    by_cases c : uK_wrong S (T 105 i) (T 106 i) (T 107 i) (T 108 i) = true
    · rw [if_pos c] at h0
      exact absurd (show (2 : Int32) = 0 from h0) (by decide)
    · rw [if_neg c] at h0 ⊢
      cases hr : uK_ref S (T 105 i) (T 106 i) (T 107 i) (T 108 i) with
      | some q =>
        rw [hr] at h0
        exact absurd (show (1 : Int32) = 0 from h0) (by decide)
      | none =>
        rw [hr] at h0
        obtain ⟨M1, N1, h1⟩ := h.do c hr (hl i (Nat.le_refl _) (by omega))
        obtain ⟨M2, N2, h2⟩ := pI.all T f (i + 1) (d + 24) M1 N1 _ h1 (fun j a b => hl j (by omega) (by omega)) h0
        exact ⟨M2, N2, by rw [show d + 24 * (f + 1) = d + 24 + 24 * f by omega]; exact h2⟩
/-- what a run comes to -/
theorem o_run (h : pI d M N S) {t : Nat → Int32} {n : Nat} {i z cnt : Nat} (hi : i < 8) (hc : pOrd (uG_P t n S) cnt) (hs : List (String × Int32)) (h1 : uW hs (.inr xEIa) < 0) (h2 : uW hs (.inr xEUn) < 0) :
    (uW hs (uG_run t n S cnt i z).1 < 0 ∧ (∀ k, 1 ≤ k → k < 10 → ∀ j, j < uC_len (k - 1) → (uG_run t n S cnt i z).2 k j = S k j) ∧ (∀ k, 19 ≤ k → k < 102 → (uG_run t n S cnt i z).2 k = S k) ∧ (uG_run t n S cnt i z).2 103 1 = 0 ∧ (uG_run t n S cnt i z).2 104 = S 104) ∨
    (0 ≤ uW hs (uG_run t n S cnt i z).1 ∧ (∃ M' N', pI (d + 720) M' N' (uG_run t n S cnt i z).2) ∧ (uG_run t n S cnt i z).2 103 1 = 0 ∧ (uG_run t n S cnt i z).2 104 = S 104 ∧ (uG_run t n S cnt i z).2 = uH_keep (uG_U t n S cnt).2 i z 10 ∧ (∀ k, 19 ≤ k → k < 102 → (uG_U t n S cnt).2 k = S k) ∧ ∀ k, k < 9 → ∀ j, j < uC_len k → (uG_U t n S cnt).2 (10 + k) j = S (1 + k) j) := by
  have u10 : ∀ k, k < 9 → ∀ j, j < uC_len k → (uG_U t n S cnt).2 (10 + k) j = S (1 + k) j := fun k hk j hj => by
    unfold uG_U
    rw [uK_all_k _ _ (by omega) (by omega)]
    unfold uG_P
    rw [q_cp_in _ 10 1 k j hk hj, uG_R_k _ _ _ _ (by omega)]
  have u19 : ∀ k, 19 ≤ k → k < 102 → (uG_U t n S cnt).2 k = S k := fun k a b => uG_U_k _ _ _ _ _ ⟨a, by omega, by omega⟩
  have u1 : (uG_U t n S cnt).2 103 1 = 0 := by
    unfold uG_U
    rw [uK_all_k _ _ (by decide) (by decide)]
    unfold uG_P
    rw [q_cp_k _ _ _ _ (by omega)]
    exact uG_R_1 S
  have u104 : (uG_U t n S cnt).2 104 = S 104 := uG_U_k _ _ _ _ _ ⟨by decide, by decide, by omega⟩
  have back : (∀ k, 1 ≤ k → k < 10 → ∀ j, j < uC_len (k - 1) → q_cp (uG_U t n S cnt).2 1 10 k j = S k j) ∧ (∀ k, 19 ≤ k → k < 102 → q_cp (uG_U t n S cnt).2 1 10 k = S k) ∧ q_cp (uG_U t n S cnt).2 1 10 103 1 = 0 ∧ q_cp (uG_U t n S cnt).2 1 10 104 = S 104 := by
    refine ⟨fun k a b j hj => ?_, fun k a b => ?_, ?_, by rw [q_cp_k _ _ _ _ (by omega)]; exact u104⟩
    · obtain ⟨k', rfl⟩ : ∃ k', k = 1 + k' := ⟨k - 1, by omega⟩
      rw [show 1 + k' - 1 = k' by omega] at hj
      rw [q_cp_in _ 1 10 k' j (by omega) hj]
      exact u10 k' (by omega) j hj
    · rw [q_cp_k _ _ _ _ (by omega)]
      exact u19 k a b
    · rw [q_cp_k _ _ _ _ (by omega)]
      exact u1
  unfold uG_run
  by_cases c : (uO_text t n S).2.1 = true
  · rw [if_pos c]
    exact Or.inl ⟨h1, fun k a b j _ => congrFun (uG_R_k t n S k (by omega)) j, fun k a b => uG_R_k t n S k (by omega), uG_R_1 (t := t) (n := n) S, uG_R_k t n S 104 (by omega)⟩
  · rw [if_neg c]
    by_cases c0 : (uG_U t n S cnt).1 = 0
    · rw [if_pos c0]
      refine Or.inr ⟨nI_pos' (by have := hc.2.1; omega), ?_, ?_, ?_, rfl, u19, u10⟩
      · have hP : pI d M N (uG_P t n S) := h.cg (fun k a b j _ => by rw [uG_P_k _ _ _ _ (by omega)])
        obtain ⟨M', N', h'⟩ := pI.all (uG_P t n S) cnt 0 d M N _ hP (fun j _ b => hc.2.2 j (by omega)) c0
        have h'' : pI (d + 24 * cnt) M' N' (uH_keep (uG_U t n S cnt).2 i z 10) := h'.cg (fun k a b j _ => by
          unfold uH_keep
          rw [pP_k _ _ _ _ (by omega), pP_k _ _ _ _ (by omega), q_cp_k _ _ _ _ (by omega)]
          rfl)
        exact ⟨M', N', h''.up (by have := hc.2.1; omega)⟩
      · show uH_keep (uG_U t n S cnt).2 i z 10 103 1 = 0
        unfold uH_keep
        rw [pP_k _ _ _ _ (by decide), pP_k _ _ _ _ (by decide)]
        rw [q_cp_k _ _ _ _ (by omega)]
        exact u1
      · show uH_keep (uG_U t n S cnt).2 i z 10 104 = S 104
        unfold uH_keep
        rw [pP_k _ _ _ _ (by decide), pP_k _ _ _ _ (by decide), q_cp_k _ _ _ _ (by omega)]
        exact u104
    · rw [if_neg c0]
      by_cases c1 : (uG_U t n S cnt).1 = 1
      · rw [if_pos c1]
        exact Or.inl ⟨h2, back⟩
      · rw [if_neg c1]
        exact Or.inl ⟨h1, back⟩
end PRUN
