
/-! the undoing -/
def pHi (d i0 done : Nat) (Ts : Nat → q_St) (S : q_St) : Prop := i0 < 8 ∧ (∃ M N, pI d M N S) ∧ (∃ z, done ≤ z ∧ pCx S ((i0 + done) % 8) z) ∧ ∀ j, j < done → (∃ M N, pI d M N (Ts j)) ∧ pSl (Ts j) S ((i0 + j) % 8)
theorem pSl.same {A S T : q_St} {i : Nat} (h : pSl A S i) (e : ∀ k, k < 9 → ∀ x, T (30 + 9 * i + k) x = S (30 + 9 * i + k) x) : pSl A T i := fun k hk x hx => (e k hk x).trans (h k hk x hx)
section PHI
variable {d d' i0 done z : Nat} {Ts : Nat → q_St} {S T : q_St} {v : Int32}
theorem pHi.up (h : pHi d i0 done Ts S) (hd : d ≤ d') : pHi d' i0 done Ts S := by
  obtain ⟨h1, ⟨M, N, h2⟩, h3, h4⟩ := h
  exact ⟨h1, ⟨M, N, h2.up hd⟩, h3, fun j hj => by obtain ⟨⟨M, N, a⟩, b⟩ := h4 j hj; exact ⟨⟨M, N, a.up hd⟩, b⟩⟩
theorem pHi.fail (h : pHi d i0 done Ts S) (hv : v < 0) (hs : pStep d' S ((i0 + done) % 8) z v T) : pHi d i0 done Ts T ∧ uSm T = uSm S := by
  obtain ⟨h1, ⟨M, N, h2⟩, ⟨z1, h3, x1, x2, x3, x4, x5, x6⟩, h4⟩ := h
  rcases hs with ⟨_, a2, a3, a4, a5⟩ | ⟨a1, _⟩
  · refine ⟨⟨h1, ⟨M, N, h2.cg a2⟩, ⟨z1, h3, by rw [a3 28 (by decide) (by decide)]; exact x1, x2, by rw [a3 28 (by decide) (by decide)]; exact x3, x4, a4, a5⟩, fun j hj => ?_⟩, uSm_cg h2 a2⟩
    obtain ⟨b1, b2⟩ := h4 j hj
    exact ⟨b1, b2.same (fun k hk x => by rw [a3 _ (by omega) (by omega)])⟩
  · exact absurd hv (Int32.not_lt.mpr a1)
theorem pHi.good (h : pHi d i0 done Ts S) (hdn : done < 8) (hd : d ≤ d') (hv : 0 ≤ v) (hz : pCx S ((i0 + done) % 8) z) (hs : pStep d' S ((i0 + done) % 8) z v T) : pHi d' i0 (done + 1) (fun j => if j = done then S else Ts j) T := by
  obtain ⟨h1, ⟨M, N, h2⟩, ⟨z1, h3, hx⟩, h4⟩ := h
  have ez : z1 = z := (nI_eq (by have := hx.2.2.2.1; omega) (by have := hz.2.2.2.1; omega)).mp (hx.2.2.1.symm.trans hz.2.2.1)
  subst ez
  rcases hs with ⟨a1, _⟩ | ⟨_, a2, ⟨k1, k2, k3, k4⟩, a4, a5⟩
  · exact absurd a1 (Int32.not_lt.mpr hv)
  · refine ⟨h1, a2, ⟨min (z1 + 1) 8, by omega, by rw [k1]; congr 1; omega, Nat.mod_lt _ (by decide), k2, by omega, a4, a5⟩, fun j hj => ?_⟩
    by_cases c : j = done
    · subst c
      simp only [if_true]
      exact ⟨⟨M, N, h2.up hd⟩, k3⟩
    · simp only [c, if_false]
      obtain ⟨⟨M1, N1, b1⟩, b2⟩ := h4 j (by omega)
      exact ⟨⟨M1, N1, b1.up hd⟩, b2.same (fun k hk x => k4 _ (Nat.mod_lt _ (by decide)) (by omega) k hk x)⟩
theorem r_sum (l : Launch) (hst : l.stackTraces = false) (h : ∃ M N, pI d M N S) : q_Fyl l yL_sum kL_sum 10 1200 [.ref 0] S (uSm S) S := by
  obtain ⟨M, N, hI⟩ := h
  rw [uSm_eq hI]
  exact ll_sum l hst S d M N hI
theorem pHi.cx (h : pHi d i0 done Ts S) : ∃ M N z, pI d M N S ∧ pCx S ((i0 + done) % 8) z := by
  obtain ⟨h1, ⟨M, N, h2⟩, ⟨z1, h3, hx⟩, h4⟩ := h
  exact ⟨M, N, z1, h2, hx⟩
theorem r_undo (l : Launch) (hst : l.stackTraces = false) (h : pHi d i0 (done + 1) Ts S) (hdn : done < 8) : ∃ v T, q_Fy l yL_undo kL_undo 9 6 [.ref 0] S v T ∧ ¬ v < 0 ∧ pHi d i0 done Ts T ∧ uSm T = uSm (Ts done) := by
  obtain ⟨h1, ⟨M, N, h2⟩, ⟨z, h3, x1, x2, x3, x4, x5, x6⟩, h4⟩ := h
  obtain ⟨⟨M1, N1, b1⟩, b2⟩ := h4 done (by omega)
  have ei : ((i0 + (done + 1)) % 8 + 8 - 1) % 8 = (i0 + done) % 8 := by omega
  have hb : q_bool S (30 + 9 * (((i0 + (done + 1)) % 8 + 8 - 1) % 8)) := by
    rw [ei]
    refine ⟨?_, fun g hg => ?_⟩
    · have := b2 0 (by decide) 5 (by decide)
      rw [Nat.add_zero] at this
      rw [this]
      exact b1.bool.1
    · have := b2 8 (by decide) g (by exact hg)
      rw [this]
      exact b1.bool.2 g hg
  have k := kk_undo l hst S _ z x1 x2 x3 x4 (fun _ => hb)
  have e : uG_undo S ((i0 + (done + 1)) % 8) z = (.inl (nI (z - 1)), uH_back S ((i0 + (done + 1)) % 8) z) := by
    unfold uG_undo
    rw [if_neg (by omega)]
  rw [e] at k
  have hrg : pRg (Ts done) (uH_back S ((i0 + (done + 1)) % 8) z) := fun k a b j hj => by
    unfold uH_back
    rw [ei]
    obtain ⟨k', rfl⟩ : ∃ k', k = 1 + k' := ⟨k - 1, by omega⟩
    rw [show 1 + k' - 1 = k' by omega] at hj
    rw [q_cp_in _ 1 _ k' j (by omega) hj, pP_k _ _ _ _ (by omega), pP_k _ _ _ _ (by omega)]
    exact b2 k' (by omega) j hj
  have hk : ∀ k, 10 ≤ k → k ≠ 28 → uH_back S ((i0 + (done + 1)) % 8) z k = S k := fun k a b => by
    unfold uH_back
    rw [q_cp_k _ _ _ _ (by omega), pP_k _ _ _ _ b, pP_k _ _ _ _ b]
  refine ⟨nI (z - 1), uH_back S ((i0 + (done + 1)) % 8) z, k, Int32.not_lt.mpr (nI_pos' (by omega)), ⟨h1, ⟨M1, N1, b1.cg hrg⟩, ⟨z - 1, by omega, ?_, Nat.mod_lt _ (by decide), ?_, by omega, ?_, ?_⟩, fun j hj => ?_⟩, uSm_cg b1 hrg⟩
  · unfold uH_back
    rw [q_cp_k _ _ _ _ (by omega), pP_s, if_neg (by decide), pP_s, if_pos rfl, ei]
  · unfold uH_back
    rw [q_cp_k _ _ _ _ (by omega), pP_s, if_pos rfl]
  · rw [hk 103 (by decide) (by decide)]; exact x5
  · intro j hj
    rw [hk 104 (by decide) (by decide)]; exact x6 j hj
  · obtain ⟨c1, c2⟩ := h4 j (by omega)
    exact ⟨c1, c2.same (fun k hk9 x => by rw [hk _ (by omega) (by omega)])⟩
end PHI
