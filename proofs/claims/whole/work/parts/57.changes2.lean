
/-! the new matter, the hours, the waking, the inquiry -/
theorem uM_z_id (S : q_St) (M : Nat) (hz : ∀ j, j < 14 → S 113 (32 + 14 * M + j) = 0) : ∀ i, i ≤ 14 → uM_z S M i 113 = S 113
  | 0, _ => rfl
  | i + 1, hi => by
    funext j
    show q_p (uM_z S M i) 113 (32 + 14 * M + i) 0 113 j = S 113 j
    by_cases e : j = 32 + 14 * M + i
    · subst e
      rw [q_p_on, hz i (by omega)]
    · rw [q_p_off _ _ _ _ _ _ (Or.inr e), uM_z_id S M hz i (by omega)]
section UC2
variable {d M : Nat} {A B : q_St}
theorem uT.t_matter (h : uT d M A B) (hM : M < 8) : uT d (M + 1) (q_p (q_p A 3 M (A 1 2)) 1 0 (nI (M + 1))) (uM_newm B M) := by
  have hz := uM_z_id B M (fun j hj => h.zero (Nat.le_refl _) hM hj) 14 (Nat.le_refl _)
  have hB : uM_newm B M 113 = q_p (q_p B 113 (32 + 14 * M + 1) (B 113 2)) 113 0 (nI (M + 1)) 113 := by
    funext j
    unfold uM_newm
    by_cases e : j = 0
    · subst e; rw [q_p_on, q_p_on]
    · rw [q_p_off _ _ _ _ _ _ (Or.inr e), q_p_off _ _ _ _ _ _ (Or.inr e)]
      by_cases c : j = 32 + 14 * M + 1
      · subst c; rw [q_p_on, q_p_on]
      · rw [q_p_off _ _ _ _ _ _ (Or.inr c), q_p_off _ _ _ _ _ _ (Or.inr c), hz]
  have e : uEt (q_p (q_p A 3 M (A 1 2)) 1 0 (nI (M + 1))) (q_p (q_p B 113 (32 + 14 * M + 1) (B 113 2)) 113 0 (nI (M + 1))) := by
    rw [h.hour]
    exact (h.E.w_md hM _).w_f0 _
  refine ⟨(e.cg (fun _ _ _ => rfl) hB : uEt _ _), ?_⟩
  rw [hB]
  exact uI_new h.2 hM (q_p_on _ _ _ _) (fun j h1 h2 => by rw [q_p_off _ _ _ _ _ _ (Or.inr h1), q_p_off _ _ _ _ _ _ (Or.inr h2)])
theorem uM_ps_in (S : q_St) (M : Nat) (h : Int32) (g : Nat) : ∀ i, g < i → uM_ps S M h i 113 (18 + g) = S 113 (18 + g) + uM_psf S M h g
  | 0, hg => absurd hg (Nat.not_lt_zero _)
  | i + 1, hg => by
    show q_p (uM_ps S M h i) 113 (18 + i) (S 113 (18 + i) + uM_psf S M h i) 113 (18 + g) = _
    by_cases e : g = i
    · subst e; rw [q_p_on]
    · rw [q_p_off _ _ _ _ _ _ (Or.inr (by omega))]
      exact uM_ps_in S M h g i (by omega)
theorem uC_ps_in (S : q_St) (M : Nat) (h : Int32) (g : Nat) : ∀ i, g < i → uC_ps S M h i 8 g = if uC_doubt S M g = -1 then S 8 g else S 8 g + h
  | 0, hg => absurd hg (Nat.not_lt_zero _)
  | i + 1, hg => by
    rw [uC_ps]
    by_cases e : g = i
    · subst e
      by_cases c : uC_doubt S M g = -1
      · rw [if_pos c, if_pos c]
        exact uC_ps_8 S M h g g (Nat.le_refl _)
      · rw [if_neg c, if_neg c, q_p_on]
    · by_cases c : uC_doubt S M i = -1
      · rw [if_pos c]
        exact uC_ps_in S M h g i (by omega)
      · rw [if_neg c, q_p_off _ _ _ _ _ _ (Or.inr (by omega))]
        exact uC_ps_in S M h g i (by omega)
theorem uT.psf (h : uT d M A B) (x : Int32) {g : Nat} (hg : g < 6) : uC_psf A M x g = uM_psf B M x g := by
  unfold uC_psf uM_psf
  rw [h.doubt hg]
  by_cases e : uM_doubt B M g = -1
  · rw [if_pos e, if_pos ((uM_dneg B M g h.M8).mpr e)]
  · rw [if_neg e, if_neg (fun q => e ((uM_dneg B M g h.M8).mp q))]
theorem uC_doubt_p (S : q_St) (j : Nat) (v : Int32) (M g : Nat) : uC_doubt (q_p S 1 j v) M g = uC_doubt S M g := rfl
theorem uT.t_pass (h : uT d M A B) {x : Int32} {n : Nat} (hx : x = nI n) (hn : n ≤ 24) (hd : d < 2 ^ 30) : uT (d + 24) M (uC_pass A M x) (uM_pass B M x) := by
  have hA : ∀ g, g < 6 → uC_pass A M x 8 g = B 113 (18 + g) + uM_psf B M x g := fun g hg => by
    unfold uC_pass
    rw [uC_ps_in _ M x g 6 hg, ← h.psf x hg, uC_doubt_p]
    unfold uC_psf
    rw [show q_p A 1 2 (A 1 2 + x) 8 g = A 8 g from rfl, h.dbt hg]
    by_cases c : uC_doubt A M g = -1
    · rw [if_pos c, if_pos c, Int32.add_zero]
    · rw [if_neg c, if_neg c]
  have hB : ∀ g, g < 6 → uM_pass B M x 113 (18 + g) = B 113 (18 + g) + uM_psf B M x g := fun g hg => by
    unfold uM_pass
    rw [q_p_off _ _ _ _ _ _ (Or.inr (by omega)), uM_ps_in B M x g 6 hg]
  have hBn : ∀ j, j ≠ 2 → (j < 18 ∨ 24 ≤ j) → uM_pass B M x 113 j = B 113 j := fun j h1 h2 => by
    unfold uM_pass
    rw [q_p_off _ _ _ _ _ _ (Or.inr h1), uM_ps_at B M x j 6 (by omega)]
  have hB2 : uM_pass B M x 113 2 = B 113 2 + x := q_p_on _ _ _ _
  have hAn : ∀ k, k ≠ 8 → uC_pass A M x k = q_p A 1 2 (A 1 2 + x) k := fun k hk => uC_ps_ne _ M x k hk 6
  obtain ⟨⟨f0, f1, f2, f3, f4, f5⟩, hw, md, bk, am, an, cn, db, sl⟩ := h.E.get
  refine ⟨(uEt.mk ?_ ?_ ?_ ?_ ?_ ?_ (fun m hm => ?_) (fun m hm => ?_) (fun p hp => ?_) (fun m hm g hg => ?_) (fun m hm g hg => ?_) (fun g hg => ?_) (fun g hg => ?_) (fun g hg => ?_) : uEt _ _), uI_misc h.2 (fun j hj => hBn j (by omega) (by omega)) ?_ (fun g hg => ?_) (fun g hg => ?_)⟩
  · rw [hAn 1 (by decide), hBn 0 (by decide) (by decide)]; exact f0
  · rw [hAn 1 (by decide), hBn 5 (by decide) (by decide)]; exact f1
  · rw [hAn 1 (by decide), hB2, ← f2]; rfl
  · rw [hAn 1 (by decide), hBn 3 (by decide) (by decide)]; exact f3
  · rw [hAn 1 (by decide), hBn 4 (by decide) (by decide)]; exact f4
  · rw [hAn 1 (by decide), hBn 1 (by decide) (by decide)]; exact f5
  · rw [hAn 2 (by decide), hBn _ (by omega) (by omega)]; exact hw m hm
  · rw [hAn 3 (by decide), hBn _ (by omega) (by omega)]; exact md m hm
  · rw [hAn 4 (by decide), hBn _ (by omega) (by omega)]; exact bk p hp
  · rw [hAn 5 (by decide), hBn _ (by omega) (by omega)]; exact am m hm g hg
  · rw [hAn 6 (by decide), hBn _ (by omega) (by omega)]; exact an m hm g hg
  · rw [hAn 7 (by decide), hBn _ (by omega) (by omega)]; exact cn g hg
  · rw [hA g hg, hB g hg]
  · rw [hAn 9 (by decide), hBn _ (by omega) (by omega)]; exact sl g hg
  · rw [hBn 1 (by decide) (by decide)]; exact h.r1
  · rw [hBn _ (by omega) (by omega)]; exact h.r12 hg
  · rw [hB g hg]
    obtain ⟨k, h1, h2⟩ := h.db hg
    unfold uM_psf
    by_cases c : uM_doubt B M g < 0
    · rw [if_pos c, h2, Int32.add_zero]
      exact ⟨k, by omega, rfl⟩
    · rw [if_neg c, h2, hx, nI_add]
      exact ⟨k + n, by omega, rfl⟩
theorem uT.wkc (h : uT d M A B) {m : Nat} (hm : m < 8) : uC_wkc A m ↔ uM_wkc B m := by
  show (A 2 m = 0 ∧ 0 < uC_answered A m) ↔ (B 113 (32 + 14 * m) = 0 ∧ 0 < uM_cnt B m 1 4)
  rw [h.how hm, h.answered hm]
theorem uT.wkN (h : uT d M A B) (N : Nat) : ∀ i, i ≤ 8 → uC_wkN A N i = uM_wkN B N i
  | 0, _ => rfl
  | i + 1, hi => by
    rw [uC_wkN, uM_wkN, h.wkN N i (by omega)]
    by_cases c : uM_wkc B i
    · rw [if_pos c, if_pos ((h.wkc (by omega)).mpr c)]
    · rw [if_neg c, if_neg (fun q => c ((h.wkc (by omega)).mp q))]
theorem uT.t_wk (h : uT d M A B) {N : Nat} (hN : N = uD (B 113) M) (hW : uM_wkN B N M ≤ 8) : ∀ i, i ≤ M → uT d M (uC_wk A N i) (uM_wk B N i) ∧ uM_wkN B N i = uD (uM_wk B N i 113) M
  | 0, _ => ⟨h, hN⟩
  | i + 1, hi => by
    obtain ⟨h1, h2⟩ := h.t_wk hN hW i (by omega)
    have hM8 := h.M8
    rw [uC_wk, uM_wk, uM_wkN, h.wkN N i (by omega)]
    by_cases c : uM_wkc B i
    · rw [if_pos c, if_pos c, if_pos ((h.wkc (by omega)).mpr c)]
      have h0 : uM_wk B N i 113 (32 + 14 * i) = 0 := by
        rw [uM_wk_at B N M hW (32 + 14 * i) (by omega) (Or.inr (by omega)) i (by omega) (fun m hm => by omega)]
        exact c.1
      have h3 := h1.t_book (m := i) (v := 2) (by omega) (Or.inr rfl) h0 h2
      refine ⟨h3, ?_⟩
      have h4 := h3.hN
      have h5 : uM_book (uM_wk B N i) i (uM_wkN B N i) 2 113 5 = nI (uM_wkN B N i + 1) := q_p_on _ _ _ _
      rw [h5] at h4
      have h6 := uD_le (uM_book (uM_wk B N i) i (uM_wkN B N i) 2 113) M
      have h7 : uM_wkN B N i < 8 := uM_wkN_lt (show i < M by omega) c hW
      exact (nI_eq (by omega) (by omega)).mp h4
    · rw [if_neg c, if_neg c, if_neg (fun q => c ((h.wkc (by omega)).mp q))]
      exact ⟨h1, h2⟩
theorem uT.t_up (h : uT d M A B) : uT d M (q_p A 1 5 1) (q_p B 113 1 0) := by
  refine ⟨(h.E.w_f5 0 : uEt _ _), uI_misc h.2 (fun j hj => ?_) ?_ (fun g hg => ?_) (fun g hg => ?_)⟩
  · rw [q_p_off _ _ _ _ _ _ (Or.inr (by omega))]
  · rw [q_p_on]; exact Or.inl rfl
  · rw [q_p_off _ _ _ _ _ _ (Or.inr (by omega))]
    exact h.r12 hg
  · rw [q_p_off _ _ _ _ _ _ (Or.inr (by omega))]
    exact h.db hg
theorem uM_wkN_cnt (S : q_St) (N : Nat) : ∀ i, uM_wkN S N i ≤ N + (i - uD (S 113) i)
  | 0 => Nat.le_refl _
  | i + 1 => by
    have h1 := uM_wkN_cnt S N i
    have h2 := uD_le (S 113) i
    rw [uM_wkN, uD]
    by_cases c : uM_wkc S i
    · rw [if_pos c, if_pos c.1]
      omega
    · rw [if_neg c]
      split <;> omega
theorem uT.wk8 (h : uT d M A B) : uM_wkN (q_p B 113 1 0) (uD (B 113) M) M ≤ 8 := by
  have h1 := uM_wkN_cnt (q_p B 113 1 0) (uD (B 113) M) M
  have h2 : uD (q_p B 113 1 0 113) M = uD (B 113) M := uD_cg M (fun m _ => by rw [q_p_off _ _ _ _ _ _ (Or.inr (by omega))])
  have h3 := uD_le (B 113) M
  have := h.M8
  omega
theorem uT.t_wake (h : uT d M A B) {N : Nat} (hN : N = uD (B 113) M) : uT d M (uC_wake A M N) (uM_wake B M N) := by
  have h2 : uD (q_p B 113 1 0 113) M = uD (B 113) M := uD_cg M (fun m _ => by rw [q_p_off _ _ _ _ _ _ (Or.inr (by omega))])
  exact (h.t_up.t_wk (hN.trans h2.symm) (by rw [hN]; exact h.wk8) M (Nat.le_refl _)).1
theorem q_p_sw (S : q_St) (i j : Nat) (v x : Int32) (h : i ≠ j) : q_p (q_p S 113 i v) 113 j x 113 = q_p (q_p S 113 j x) 113 i v 113 := by
  funext k
  by_cases c : k = j
  · subst c
    rw [q_p_on, q_p_off _ _ _ _ _ _ (Or.inr (Ne.symm h)), q_p_on]
  · rw [q_p_off _ _ _ _ _ _ (Or.inr c)]
    by_cases c2 : k = i
    · subst c2; rw [q_p_on, q_p_on]
    · rw [q_p_off _ _ _ _ _ _ (Or.inr c2), q_p_off _ _ _ _ _ _ (Or.inr c2), q_p_off _ _ _ _ _ _ (Or.inr c)]
theorem q_p_c113 {S T : q_St} (h : S 113 = T 113) (i : Nat) (v : Int32) : q_p S 113 i v 113 = q_p T 113 i v 113 := by
  funext k
  by_cases c : k = i
  · subst c; rw [q_p_on, q_p_on]
  · rw [q_p_off _ _ _ _ _ _ (Or.inr c), q_p_off _ _ _ _ _ _ (Or.inr c), h]
theorem uM_in_1 (B : q_St) (m g : Nat) (hg : g < 6) (x : Int32) : q_p (uM_hear1 B m g) 113 3 x 113 = uM_hear1 (q_p B 113 3 x) m g 113 := by
  unfold uM_hear1
  rw [q_p_off B 113 3 x 113 (6 + g) (Or.inr (by omega)), q_p_off B 113 3 x 113 (32 + 14 * m + 2 + g) (Or.inr (by omega)), q_p_sw _ _ _ _ _ (by omega)]
  exact q_p_c113 (q_p_sw _ _ _ _ _ (by omega)) _ _
theorem uM_in_0 (B : q_St) (m g : Nat) (hg : g < 6) (x : Int32) : q_p (uM_hear0 B m g) 113 3 x 113 = q_p (q_p B 113 3 x) 113 (32 + 14 * m + 8 + g) 4 113 := by
  rw [q_p_c113 (T := q_p B 113 (32 + 14 * m + 8 + g) 4) (uM_hear0_113 B m g hg), q_p_sw _ _ _ _ _ (by omega)]
theorem uT.t_inq (h : uT d M A B) {m g o : Nat} (hm : m < M) (hg : g < 6) (ho : o < 6) (hog : o ≠ g) (a1 : B 113 (32 + 14 * m + 2 + g) ≠ 0) (a2 : B 113 (32 + 14 * m + 2 + o) ≠ 0) (b1 : B 113 (32 + 14 * m + 8 + g) = 1) (b2 : B 113 (32 + 14 * m + 8 + o) ≠ 1) : uT d M (uC_inq A m g o) (uM_inq B m g o) := by
  have hm8 : m < 8 := Nat.lt_of_lt_of_le hm h.M8
  have h1 := h.t_in
  have c1 : q_p B 113 3 (B 113 3 + 1) 113 (32 + 14 * m + 8 + g) = 1 := by rw [q_p_off _ _ _ _ _ _ (Or.inr (by omega))]; exact b1
  have c2 : q_p B 113 3 (B 113 3 + 1) 113 (32 + 14 * m + 2 + g) ≠ 0 := by rw [q_p_off _ _ _ _ _ _ (Or.inr (by omega))]; exact a1
  have c3 : q_p B 113 3 (B 113 3 + 1) 113 (32 + 14 * m + 2 + o) ≠ 0 := by rw [q_p_off _ _ _ _ _ _ (Or.inr (by omega))]; exact a2
  have c4 : q_p B 113 3 (B 113 3 + 1) 113 (32 + 14 * m + 8 + o) = B 113 (32 + 14 * m + 8 + o) := by rw [q_p_off _ _ _ _ _ _ (Or.inr (by omega))]
  have n3 : (1 : Int32) ≠ 3 := by decide
  unfold uC_inq uM_inq
  rw [h.an hm8 ho, show uM_an B m o = B 113 (32 + 14 * m + 8 + o) from rfl]
  rcases h.an5 hm8 ho with q | q | q | q | q
  · rw [q, if_neg (by decide), if_pos rfl, if_neg (by decide)]
    have h2 := (h1.t_an (v := 4) hm hg (by decide) (by rw [c1]; exact n3) c2 (fun q => absurd q (by decide))).t_an (g := o) (v := 2) hm ho (by decide) (by rw [q_p_off _ _ _ _ _ _ (Or.inr (by omega)), c4, q]; decide) (by rw [q_p_off _ _ _ _ _ _ (Or.inr (by omega))]; exact c3) (fun q => absurd q (by decide))
    refine h2.cg (fun _ _ _ => rfl) ?_
    rw [uM_in_0 _ m g hg]
    exact (q_p_c113 (q_p_sw _ _ _ _ _ (by omega)) _ _).trans (q_p_sw _ _ _ _ _ (by omega))
  · exact absurd q b2
  · rw [q, if_neg (by decide), if_neg (by decide), if_neg (by decide)]
    have h2 := h1.t_an (v := 4) hm hg (by decide) (by rw [c1]; exact n3) c2 (fun q => absurd q (by decide))
    refine h2.cg (fun _ _ _ => rfl) ?_
    rw [uM_in_0 _ m g hg]
    refine q_p_c113 (q_p_c113 ?_ _ _) _ _
    funext k
    by_cases c : k = 32 + 14 * m + 8 + o
    · subst c; rw [q_p_on, q]
    · rw [q_p_off _ _ _ _ _ _ (Or.inr c)]
  · rw [q, if_pos rfl, if_pos (by decide), if_pos rfl]
    refine (h1.t_seal hm hg c2 (by rw [c1]; exact n3)).cg (fun _ _ _ => rfl) ?_
    exact uM_in_1 B m g hg _
  · rw [q, if_neg (by decide), if_neg (by decide), if_pos (by decide), if_neg (by decide)]
    have h2 := h1.t_an (v := 4) hm hg (by decide) (by rw [c1]; exact n3) c2 (fun q => absurd q (by decide))
    refine h2.cg (fun _ _ _ => rfl) ?_
    exact uM_in_0 B m g hg _
end UC2
