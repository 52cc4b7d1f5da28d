
/-! the questions: both sides agree, nothing changes -/
section UQ
variable {d M : Nat} {A B : q_St}
theorem uT.nM (h : uT d M A B) {m : Nat} (hm : m < 8) : ∀ k, uC_nM A m k = uM_nM B m k
  | 0 => h.how hm
  | 1 => h.guilds hm
  | 2 => h.answered hm
  | 3 => h.ans hm 1
  | 4 => h.ans hm 2
  | 5 => h.heard hm
  | 6 => h.sumA hm
  | _ + 7 => h.made hm
theorem uT.nG (h : uT d M A B) {g : Nat} (hg : g < 6) : ∀ k, uC_nG A M g k = uM_nG B M g k
  | 0 => h.coin hg
  | 1 => by
    show (if A 9 g = 0 then 0 else 1) = 1 - B 113 (12 + g)
    by_cases e : A 9 g = 0
    · rw [if_pos e, (h.isS hg).mp e]; rfl
    · rw [if_neg e, (h.r12 hg).resolve_right (fun q => e ((h.isS hg).mpr q))]; rfl
  | 2 => h.doubt hg
  | 3 => h.dbt hg
  | 4 => h.mattersOf hg (by decide)
  | _ + 5 => h.mattersOf hg (by decide)
theorem uT.would0 (h : uT d M A B) {m : Nat} (hm : m < 8) : q_every (uC_pAll A M m) 6 0 = q_every (uM_pAll B M m) 6 0 := q_every_cg 6 0 (fun g _ hg => h.pAll hm (by omega))
theorem uN_le {x : Int32} {k : Nat} (h : 0 ≤ x ∧ x ≤ nI k) (hk : k < 1000) : ∃ n, n ≤ k ∧ x = nI n := by
  obtain ⟨j, hj, rfl⟩ := nI_of (Int32.not_lt.mpr h.1)
  exact ⟨j, (nI_leI hj (by omega)).mp h.2, rfl⟩
end UQ
theorem uWc_ne {tags : List String} {E : String} {k : Nat} (h : uWc tags E = nI (k + 1)) (hk : k < 100) : uWc tags E ≠ 0 := by rw [h]; exact nI_ne0 (by omega) (by omega)

theorem s_matterOf (l : Launch) (hst : l.stackTraces = false) : uSt_matterOf l uInv := by
  intro c S x y hc hI
  obtain ⟨⟨M, hT⟩, ⟨i, z, hH⟩, hSn, hRf, hLn, hTx, hEr⟩ := id hI
  have hM8 := hT.M8
  have hw := w_matterOf l S x y (uG_matterOf S x y) (c_X6_matterOf l hst S M hT.hMA hM8 x y) (by intro E h; unfold uG_matterOf at h; (repeat' (split at h)); all_goals first | (cases h; done) | (cases h; simp))
  have hm := c_X7_matterOf l S M hT.hM hM8 x y
  unfold uG_matterOf at hw
  unfold uMq_matterOf at hm
  rw [hT.hMA] at hw
  by_cases h1 : 0 ≤ x ∧ x < nI M
  rotate_left
  · rw [if_neg h1] at hw hm
    exact ⟨.inr _, S, _, _, hw, hm, ⟨(q_p_on S 112 6 1).trans (by decide +kernel), by decide +kernel⟩, hI.n6 _⟩
  rw [if_pos h1] at hw hm
  by_cases h2 : 0 ≤ y ∧ y ≤ 7
  rotate_left
  · rw [if_neg h2] at hw hm
    exact ⟨.inr _, S, _, _, hw, hm, ⟨(q_p_on S 112 6 2).trans (by decide +kernel), by decide +kernel⟩, hI.n6 _⟩
  rw [if_pos h2] at hw hm
  exact ⟨.inl _, S, _, _, hw, hm, ⟨rfl, (by obtain ⟨m, hm9, rfl⟩ := uK_okX rfl (by omega) h1; rw [uN_nI (by omega)]; exact hT.nM (by omega) _)⟩, hI.n6 0⟩
theorem s_answer (l : Launch) (hst : l.stackTraces = false) : uSt_answer l uInv := by
  intro c S x y hc hI
  obtain ⟨⟨M, hT⟩, ⟨i, z, hH⟩, hSn, hRf, hLn, hTx, hEr⟩ := id hI
  have hM8 := hT.M8
  have hw := w_answer l S x y (uG_answer S x y) (c_X6_answer l hst S M hT.hMA hM8 x y) (by intro E h; unfold uG_answer at h; (repeat' (split at h)); all_goals first | (cases h; done) | (cases h; simp))
  have hm := c_X7_answer l S M hT.hM hM8 x y
  unfold uG_answer at hw
  unfold uMq_answer at hm
  rw [hT.hMA] at hw
  by_cases h1 : 0 ≤ x ∧ x < nI M
  rotate_left
  · rw [if_neg h1] at hw hm
    exact ⟨.inr _, S, _, _, hw, hm, ⟨(q_p_on S 112 6 1).trans (by decide +kernel), by decide +kernel⟩, hI.n6 _⟩
  rw [if_pos h1] at hw hm
  by_cases h2 : 0 ≤ y ∧ y < 6
  rotate_left
  · rw [if_neg h2] at hw hm
    exact ⟨.inr _, S, _, _, hw, hm, ⟨(q_p_on S 112 6 2).trans (by decide +kernel), by decide +kernel⟩, hI.n6 _⟩
  rw [if_pos h2] at hw hm
  exact ⟨.inl _, S, _, _, hw, hm, ⟨rfl, (by obtain ⟨m, hm9, rfl⟩ := uK_okX rfl (by omega) h1; obtain ⟨g, hg9, rfl⟩ := uK_okG h2; rw [uN_nI (by omega), uN_nI (by omega)]; show (if S 5 (m * 6 + g) ≠ 0 then S 6 (m * 6 + g) else -1) = (if S 113 (32 + 14 * m + 2 + g) ≠ 0 then S 113 (32 + 14 * m + 8 + g) else -1); rw [hT.am (by omega) hg9, hT.an (by omega) hg9])⟩, hI.n6 0⟩
theorem s_amount (l : Launch) (hst : l.stackTraces = false) : uSt_amount l uInv := by
  intro c S x y hc hI
  obtain ⟨⟨M, hT⟩, ⟨i, z, hH⟩, hSn, hRf, hLn, hTx, hEr⟩ := id hI
  have hM8 := hT.M8
  have hw := w_amount l S x y (uG_amount S x y) (c_X6_amount l hst S M hT.hMA hM8 x y) (by intro E h; unfold uG_amount at h; (repeat' (split at h)); all_goals first | (cases h; done) | (cases h; simp))
  have hm := c_X7_amount l S M hT.hM hM8 x y
  unfold uG_amount at hw
  unfold uMq_amount at hm
  rw [hT.hMA] at hw
  by_cases h1 : 0 ≤ x ∧ x < nI M
  rotate_left
  · rw [if_neg h1] at hw hm
    exact ⟨.inr _, S, _, _, hw, hm, ⟨(q_p_on S 112 6 1).trans (by decide +kernel), by decide +kernel⟩, hI.n6 _⟩
  rw [if_pos h1] at hw hm
  by_cases h2 : 0 ≤ y ∧ y < 6
  rotate_left
  · rw [if_neg h2] at hw hm
    exact ⟨.inr _, S, _, _, hw, hm, ⟨(q_p_on S 112 6 2).trans (by decide +kernel), by decide +kernel⟩, hI.n6 _⟩
  rw [if_pos h2] at hw hm
  exact ⟨.inl _, S, _, _, hw, hm, ⟨rfl, (by obtain ⟨m, hm9, rfl⟩ := uK_okX rfl (by omega) h1; obtain ⟨g, hg9, rfl⟩ := uK_okG h2; rw [uN_nI (by omega), uN_nI (by omega)]; exact hT.am (by omega) hg9)⟩, hI.n6 0⟩
theorem s_guildOf (l : Launch) (hst : l.stackTraces = false) : uSt_guildOf l uInv := by
  intro c S x y hc hI
  obtain ⟨⟨M, hT⟩, ⟨i, z, hH⟩, hSn, hRf, hLn, hTx, hEr⟩ := id hI
  have hM8 := hT.M8
  have hw := w_guildOf l S x y (uG_guildOf S M x y) (c_X6_guildOf l hst S M hT.hMA hM8 x y) (by intro E h; unfold uG_guildOf at h; (repeat' (split at h)); all_goals first | (cases h; done) | (cases h; simp))
  have hm := c_X7_guildOf l S M hT.hM hM8 x y
  unfold uG_guildOf at hw
  unfold uMq_guildOf at hm
  by_cases h1 : 0 ≤ x ∧ x < 6
  rotate_left
  · rw [if_neg h1] at hw hm
    exact ⟨.inr _, S, _, _, hw, hm, ⟨(q_p_on S 112 6 1).trans (by decide +kernel), by decide +kernel⟩, hI.n6 _⟩
  rw [if_pos h1] at hw hm
  by_cases h2 : 0 ≤ y ∧ y ≤ 5
  rotate_left
  · rw [if_neg h2] at hw hm
    exact ⟨.inr _, S, _, _, hw, hm, ⟨(q_p_on S 112 6 2).trans (by decide +kernel), by decide +kernel⟩, hI.n6 _⟩
  rw [if_pos h2] at hw hm
  exact ⟨.inl _, S, _, _, hw, hm, ⟨rfl, (by obtain ⟨g, hg9, rfl⟩ := uK_okG h1; rw [uN_nI (by omega)]; exact hT.nG hg9 _)⟩, hI.n6 0⟩
