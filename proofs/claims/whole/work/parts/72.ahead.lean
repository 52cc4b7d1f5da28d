
/-! the ranking: who is ahead -/
theorem uT.ahead {d M : Nat} {S : q_St} (h : uT d M S S) (hd : d < 2 ^ 29) {g : Nat} (hg : g < 6) : uC_ahead S g = uM_ahead S g := by
  refine q_sum_cg 6 (fun o ho => ?_)
  obtain ⟨a, ha, ea⟩ := h.db hg
  obtain ⟨b, hb, eb⟩ := h.db ho
  unfold uC_fAh uM_fAh
  rw [h.dbt hg, h.dbt ho, ea, eb]
  have h1 : (nI b - nI a).toInt = (b : Int) - a := pk_sub_toInt (by omega) (by omega)
  have c1 : nI a < nI b ↔ 0 < nI b - nI a := by
    rw [nI_ltI (by omega) (by omega), Int32.lt_iff_toInt_lt, h1]
    show a < b ↔ (0 : Int) < (b : Int) - a
    omega
  have c2 : nI b = nI a ↔ nI b - nI a = 0 := by
    rw [nI_eq (by omega) (by omega), ← Int32.toInt_inj, h1]
    show b = a ↔ (b : Int) - a = 0
    omega
  have c3 : (nI a < nI b ∨ (nI b = nI a ∧ o < g)) ↔ (0 < nI b - nI a ∨ (nI b - nI a = 0 ∧ o < g)) := by rw [c1, c2]
  exact u_ifc c3
