
/-! what is kept, and what a sum tells -/
def pRg (A B : q_St) : Prop := ∀ k, 1 ≤ k → k < 10 → ∀ j, j < uC_len (k - 1) → B k j = A k j
section SCG
variable {A B : q_St}
theorem cg_1 (e : pRg A B) {j : Nat} (hj : j < 6) : B 1 j = A 1 j := e 1 (by decide) (by decide) j hj
theorem cg_2 (e : pRg A B) {j : Nat} (hj : j < 8) : B 2 j = A 2 j := e 2 (by decide) (by decide) j hj
theorem cg_4 (e : pRg A B) {j : Nat} (hj : j < 8) : B 4 j = A 4 j := e 4 (by decide) (by decide) j hj
theorem cg_5 (e : pRg A B) {m g : Nat} (hm : m < 8) (hg : g < 6) : B 5 (m * 6 + g) = A 5 (m * 6 + g) := e 5 (by decide) (by decide) _ (Nat.lt_of_lt_of_le (show m * 6 + g < 48 by omega) (by decide))
theorem cg_6 (e : pRg A B) {m g : Nat} (hm : m < 8) (hg : g < 6) : B 6 (m * 6 + g) = A 6 (m * 6 + g) := e 6 (by decide) (by decide) _ (Nat.lt_of_lt_of_le (show m * 6 + g < 48 by omega) (by decide))
theorem cg_7 (e : pRg A B) {j : Nat} (hj : j < 6) : B 7 j = A 7 j := e 7 (by decide) (by decide) j hj
theorem cg_8 (e : pRg A B) {j : Nat} (hj : j < 6) : B 8 j = A 8 j := e 8 (by decide) (by decide) j hj
theorem cg_9 (e : pRg A B) {j : Nat} (hj : j < 6) : B 9 j = A 9 j := e 9 (by decide) (by decide) j hj
theorem cg_gu (e : pRg A B) {m : Nat} (hm : m < 8) : uC_guilds B m = uC_guilds A m := q_sum_cgP 6 (fun g hg => by unfold uC_fG; rw [cg_5 e hm hg])
theorem cg_an (e : pRg A B) {m : Nat} (hm : m < 8) (a : Int32) : uC_ans B m a = uC_ans A m a := q_sum_cgP 6 (fun g hg => by unfold uC_fA; rw [cg_5 e hm hg, cg_6 e hm hg])
theorem cg_ma (e : pRg A B) {M : Nat} (hM : M ≤ 8) (a : Int32) : uC_matters B M a = uC_matters A M a := q_sum_cgP M (fun m hm => by unfold uC_fM; rw [cg_2 e (by omega)])
theorem cg_fd (e : pRg A B) {g : Nat} (hg : g < 6) : ∀ n i, i + n ≤ 8 → q_find (fun m => decide (B 6 (m * 6 + g) = 1)) n i = q_find (fun m => decide (A 6 (m * 6 + g) = 1)) n i
  | 0, _, _ => rfl
  | n + 1, i, hi => by rw [q_find, q_find, cg_6 e (by omega) hg, cg_fd e hg n (i + 1) (by omega)]
theorem cg_db (e : pRg A B) {M g : Nat} (hM : M ≤ 8) (hg : g < 6) : uC_doubt B M g = uC_doubt A M g := cg_fd e hg M 0 (by omega)
theorem cg_aw (e : pRg A B) : uC_awake B = uC_awake A := q_sum_cgP 6 (fun g hg => by unfold uC_fW; rw [cg_9 e hg])
theorem cg_id (e : pRg A B) {M : Nat} (hM : M ≤ 8) : uC_inDoubt B M = uC_inDoubt A M := q_sum_cgP 6 (fun g hg => by unfold uC_fD; rw [cg_db e hM hg])
theorem cg_ad (e : pRg A B) : uC_allDoubt B = uC_allDoubt A := q_sum_cgP 6 (fun g hg => cg_8 e hg)
theorem cg_ha (e : pRg A B) {M : Nat} (hM : M ≤ 8) : uC_heardAll B M = uC_heardAll A M := by
  unfold uC_heardAll
  exact q_sum_cgP M (fun m hm => by
      unfold uC_fH uC_heard
      have h8 : m < 8 := by omega
      rw [cg_gu e h8, cg_an e h8 3, cg_an e h8 4])
theorem cg_nA0 (e : pRg A B) {M : Nat} (hM : M ≤ 8) : uC_nA B M 0 = uC_nA A M 0 := (show uC_nA B M 0 = nI M from rfl).trans (show nI M = uC_nA A M 0 from rfl)
theorem cg_nA1 (e : pRg A B) {M : Nat} (hM : M ≤ 8) : uC_nA B M 1 = uC_nA A M 1 := cg_ma e hM 0
theorem cg_nA2 (e : pRg A B) {M : Nat} (hM : M ≤ 8) : uC_nA B M 2 = uC_nA A M 2 := cg_ma e hM 1
theorem cg_nA3 (e : pRg A B) {M : Nat} (hM : M ≤ 8) : uC_nA B M 3 = uC_nA A M 3 := cg_ma e hM 2
theorem cg_nA4 (e : pRg A B) {M : Nat} (hM : M ≤ 8) : uC_nA B M 4 = uC_nA A M 4 := cg_aw e
theorem cg_nA5 (e : pRg A B) {M : Nat} (hM : M ≤ 8) : uC_nA B M 5 = uC_nA A M 5 := cg_id e hM
theorem cg_nA6 (e : pRg A B) {M : Nat} (hM : M ≤ 8) : uC_nA B M 6 = uC_nA A M 6 := cg_1 e (j := 2) (by decide)
theorem cg_nA7 (e : pRg A B) {M : Nat} (hM : M ≤ 8) : uC_nA B M 7 = uC_nA A M 7 := cg_ad e
theorem cg_nA8 (e : pRg A B) {M : Nat} (hM : M ≤ 8) : uC_nA B M 8 = uC_nA A M 8 := cg_1 e (j := 3) (by decide)
theorem cg_nA9 (e : pRg A B) {M : Nat} (hM : M ≤ 8) : uC_nA B M 9 = uC_nA A M 9 := cg_1 e (j := 4) (by decide)
theorem cg_nA10 (e : pRg A B) {M : Nat} (hM : M ≤ 8) : uC_nA B M 10 = uC_nA A M 10 := cg_ha e hM
theorem cg_nA (e : pRg A B) {M : Nat} (hM : M ≤ 8) {w : Nat} (hw : w < 11) : uC_nA B M w = uC_nA A M w := by
  rcases (show w = 0 ∨ w = 1 ∨ w = 2 ∨ w = 3 ∨ w = 4 ∨ w = 5 ∨ w = 6 ∨ w = 7 ∨ w = 8 ∨ w = 9 ∨ w = 10 by omega) with h | h | h | h | h | h | h | h | h | h | h
  · rw [h]; exact cg_nA0 e hM
  · rw [h]; exact cg_nA1 e hM
  · rw [h]; exact cg_nA2 e hM
  · rw [h]; exact cg_nA3 e hM
  · rw [h]; exact cg_nA4 e hM
  · rw [h]; exact cg_nA5 e hM
  · rw [h]; exact cg_nA6 e hM
  · rw [h]; exact cg_nA7 e hM
  · rw [h]; exact cg_nA8 e hM
  · rw [h]; exact cg_nA9 e hM
  · rw [h]; exact cg_nA10 e hM
theorem cg_s1 (e : pRg A B) {M : Nat} (hM : M ≤ 8) : ∀ w, w ≤ 11 → uS1 B M w = uS1 A M w
  | 0, _ => by unfold uS1; rw [cg_1 e (by decide)]
  | w + 1, hw => by rw [uS1, uS1, cg_s1 e hM w (by omega), cg_nA e hM (by omega)]
theorem cg_pa (e : pRg A B) {m g : Nat} (hm : m < 8) (hg : g < 6) : pAn B m g = pAn A m g := by unfold pAn; rw [cg_5 e hm hg, cg_6 e hm hg]
theorem cg_s3 (e : pRg A B) {m : Nat} (hm : m < 8) (h : Int64) : ∀ g, g ≤ 6 → uS3 B m h g = uS3 A m h g
  | 0, _ => rfl
  | g + 1, hg => by rw [uS3, uS3, cg_s3 e hm h g (by omega), cg_pa e hm (by omega), cg_5 e hm (by omega)]
theorem cg_s2 (e : pRg A B) {M : Nat} (hM : M ≤ 8) (N : Nat) : ∀ m, m ≤ M → uS2 B M N m = uS2 A M N m
  | 0, _ => cg_s1 e hM 11 (Nat.le_refl _)
  | m + 1, hm => by
    have eb : pBk B N m = pBk A N m := by unfold pBk; rw [cg_4 e (by omega)]
    rw [uS2, uS2, cg_s2 e hM N m (by omega), cg_2 e (by omega), cg_s3 e (by omega) _ 6 (Nat.le_refl _), eb]
theorem cg_s4 (e : pRg A B) {M : Nat} (hM : M ≤ 8) (N : Nat) : ∀ g, g ≤ 6 → uS4 B M N g = uS4 A M N g
  | 0, _ => cg_s2 e hM N M (Nat.le_refl _)
  | g + 1, hg => by rw [uS4, uS4, cg_s4 e hM N g (by omega), cg_7 e (by omega), cg_8 e (by omega), cg_9 e (by omega)]
theorem uSum_cg (e : pRg A B) (M N : Nat) (hM : M ≤ 8) : uSum B M N = uSum A M N := cg_s4 e hM N 6 (Nat.le_refl _)
end SCG
def uSm (S : q_St) : Int64 := uSum S (uN (S 1 0)) (uN (S 1 1))
theorem uSm_eq {d M N : Nat} {S : q_St} (h : pI d M N S) : uSm S = uSum S M N := by
  unfold uSm
  rw [h.hM.1, h.hN, uN_nI (by have := h.M8; omega), uN_nI (by have := h.N8; omega)]
theorem uSm_cg {d M N : Nat} {A B : q_St} (h : pI d M N A) (e : pRg A B) : uSm B = uSm A := by
  rw [uSm_eq h, uSm_eq (h.cg e)]
  exact uSum_cg e M N h.M8
/-- the slot's council -/
def pSl (A S : q_St) (i : Nat) : Prop := ∀ k, k < 9 → ∀ x, x < uC_len k → S (30 + 9 * i + k) x = A (1 + k) x
def pKept (S : q_St) (i z : Nat) (T : q_St) : Prop := T 28 1 = nI ((i + 1) % 8) ∧ T 28 2 = nI (min (z + 1) 8) ∧ pSl S T i ∧ ∀ i', i' < 8 → i' ≠ i → ∀ k, k < 9 → ∀ x, T (30 + 9 * i' + k) x = S (30 + 9 * i' + k) x
theorem keep_sl (U : q_St) (i z o : Nat) (hi : i < 8) : (∀ k, k < 9 → ∀ x, x < uC_len k → uH_keep U i z o (30 + 9 * i + k) x = U (o + k) x) ∧ (∀ i', i' < 8 → i' ≠ i → ∀ k, k < 9 → uH_keep U i z o (30 + 9 * i' + k) = U (30 + 9 * i' + k)) ∧ uH_keep U i z o 28 1 = nI ((i + 1) % 8) ∧ uH_keep U i z o 28 2 = nI (min (z + 1) 8) := by
  refine ⟨fun k hk x hx => ?_, fun i' hi' hne k hk => ?_, ?_, ?_⟩
  · unfold uH_keep
    rw [pP_k _ _ _ _ (by omega), pP_k _ _ _ _ (by omega)]
    exact q_cp_in U _ o k x hk hx
  · unfold uH_keep
    rw [pP_k _ _ _ _ (by omega), pP_k _ _ _ _ (by omega)]
    exact q_cp_k _ _ _ _ (by omega)
  · unfold uH_keep
    rw [pP_s, if_neg (by decide), pP_s, if_pos rfl]
  · unfold uH_keep
    rw [pP_s, if_pos rfl]
/-- characters are small -/
def pCh (S : q_St) : Prop := ∀ j, j < 60 → ∃ q, q < 65536 ∧ S 104 j = nI q
/-- what one change in the undoing comes to -/
def pStep (d' : Nat) (S : q_St) (i z : Nat) (v : Int32) (T : q_St) : Prop :=
  (v < 0 ∧ pRg S T ∧ (∀ k, 19 ≤ k → k < 102 → T k = S k) ∧ T 103 1 = 0 ∧ pCh T) ∨ (0 ≤ v ∧ (∃ M N, pI d' M N T) ∧ pKept S i z T ∧ T 103 1 = 0 ∧ pCh T)
section PST
variable {d d' M N i z m g o : Nat} {S T : q_St} {mk ps : Bool} {hs : List (String × Int32)} {c v : Int32}
theorem pDn.kept (h : pDn S i z d' M mk ps v T) (hi : i < 8) : pKept S i z T := by
  obtain ⟨_, a2, _⟩ := h
  obtain ⟨k1, k2, k3, k4⟩ := keep_sl S i z 1 hi
  refine ⟨by rw [a2 28 (by decide)]; exact k3, by rw [a2 28 (by decide)]; exact k4, fun k hk x hx => ?_, fun i' hi' hne k hk x => ?_⟩
  · rw [a2 _ (by omega)]
    exact k1 k hk x hx
  · rw [a2 _ (by omega), k2 i' hi' hne k hk]
theorem pDn.step (h : pDn S i z d' M mk ps v T) (hi : i < 8) (h1 : S 103 1 = 0) (hc : pCh S) : pStep d' S i z v T := by
  obtain ⟨N', hN⟩ := h.2.2.1
  refine Or.inr ⟨h.1, ⟨M, N', hN⟩, h.kept hi, ?_, fun j hj => ?_⟩
  · rw [h.2.1 103 (by decide), pKp_hi S hi z 103 (by decide)]; exact h1
  · rw [h.2.1 104 (by decide), pKp_hi S hi z 104 (by decide)]; exact hc j hj
theorem step_f (hv : v < 0) (e : ∀ k, k ≠ 102 → T k = S k) (h1 : S 103 1 = 0) (hc : pCh S) : pStep d' S i z v T :=
  Or.inl ⟨hv, fun k a b j _ => by rw [e k (by omega)], fun k a b => e k (by omega), by rw [e 103 (by decide)]; exact h1, fun j hj => by rw [e 104 (by decide)]; exact hc j hj⟩
theorem pOut.step {r : (Int32 ⊕ String) × q_St} (h : pOut S i z d' M mk ps hs c r) (hc0 : c < 0) (hi : i < 8) (h1 : S 103 1 = 0) (hc : pCh S) : pStep d' S i z (uW hs r.1) r.2 := by
  rcases h with ⟨a, b⟩ | a
  · exact step_f (by rw [a]; exact hc0) b h1 hc
  · exact a.step hi h1 hc
theorem pStep.up {d'' : Nat} (h : pStep d' S i z v T) (hd : d' ≤ d'') : pStep d'' S i z v T := by
  rcases h with h | ⟨a, ⟨M, N, b⟩, c⟩
  · exact Or.inl h
  · exact Or.inr ⟨a, ⟨M, N, b.up hd⟩, c⟩
theorem step_E {r : (Int32 ⊕ String) × q_St} {E : String} (e : r = (.inr E, S)) (hv : uW hs (.inr E) < 0) (h1 : S 103 1 = 0) (hc : pCh S) : pStep d' S i z (uW hs r.1) r.2 := by
  rw [e]
  exact step_f hv (fun _ _ => rfl) h1 hc
theorem pNm (h : pI d M N S) {x : Nat} (hx : ¬ x < M) (hx2 : x < 1000) : ¬ (0 ≤ nI x ∧ nI x < S 1 0) := fun q => by
  rw [h.hM.1] at q
  exact hx ((nI_ltI (by omega) (by have := h.M8; omega)).mp q.2)
theorem pNg {x : Nat} (hx : ¬ x < 6) (hx2 : x < 1000) : ¬ (0 ≤ nI x ∧ nI x < 6) := fun q => hx ((nI_ltI (b := 6) (by omega) (by decide)).mp q.2)
abbrev pCx (S : q_St) (i z : Nat) : Prop := S 28 1 = nI i ∧ i < 8 ∧ S 28 2 = nI z ∧ z ≤ 8 ∧ S 103 1 = 0 ∧ pCh S
theorem r_matter (l : Launch) (hst : l.stackTraces = false) (h : pI d M N S) (x : pCx S i z) : ∃ v T, q_Fy l yL_matter kL_matter 9 6 [.ref 0] S v T ∧ pStep d S i z v T := by
  obtain ⟨x1, x2, x3, x4, x5, x6⟩ := x
  exact ⟨_, _, kk_matter l hst S M h.hM i z x1 x2 x3 x4 h.bool, (o_matter8 h _ (-2) rfl).step (by decide) x2 x5 x6⟩
theorem r_set (l : Launch) (hst : l.stackTraces = false) (h : pI d M N S) (x : pCx S i z) (hm : m < 1000) (hg : g < 1000) (a : Int32) : ∃ v T, q_Fy l yL_set kL_set 9 6 [.ref 0, .int (nI m), .int (nI g), .int a] S v T ∧ pStep d S i z v T := by
  obtain ⟨x1, x2, x3, x4, x5, x6⟩ := x
  refine ⟨_, _, kk_set l hst S M h.hM i z x1 x2 x3 x4 (nI m) (nI g) a h.bool, ?_⟩
  by_cases c1 : m < M
  · by_cases c2 : g < 6
    · by_cases c3 : -50 ≤ a ∧ a ≤ 50
      · exact (o_set h c1 c2 c3 (c := -3) rfl).1.step (by decide) x2 x5 x6
      · exact step_E (E := xEIa) (by unfold uG_set; rw [if_pos (pIn h.hM c1), if_pos (show 0 ≤ nI g ∧ nI g < 6 from pIg c2 (by decide)), if_neg c3]) (by decide) x5 x6
    · exact step_E (E := xENs) (by unfold uG_set; rw [if_pos (pIn h.hM c1), if_neg (pNg c2 hg)]) (by decide) x5 x6
  · exact step_E (E := xENs) (by unfold uG_set; rw [if_neg (pNm h c1 hm)]) (by decide) x5 x6
theorem r_ask (l : Launch) (hst : l.stackTraces = false) (h : pI d M N S) (x : pCx S i z) (hm : m < 1000) (hg : g < 1000) : ∃ v T, q_Fy l yL_ask kL_ask 9 6 [.ref 0, .int (nI m), .int (nI g)] S v T ∧ pStep d S i z v T := by
  obtain ⟨x1, x2, x3, x4, x5, x6⟩ := x
  refine ⟨_, _, kk_ask l hst S M h.hM i z x1 x2 x3 x4 (nI m) (nI g) h.bool, ?_⟩
  by_cases c1 : m < M
  · by_cases c2 : g < 6
    · exact (o_ask h c1 c2 (c := -3) rfl).step (by decide) x2 x5 x6
    · exact step_E (E := xEIo) (by unfold uG_ask; rw [if_pos (pIn h.hM c1), if_neg (pNg c2 hg)]) (by decide) x5 x6
  · exact step_E (E := xENs) (by unfold uG_ask; rw [if_neg (pNm h c1 hm)]) (by decide) x5 x6
theorem r_decide (l : Launch) (hst : l.stackTraces = false) (h : pI d M N S) (x : pCx S i z) (hm : m < 1000) : ∃ v T, q_Fy l yL_decide kL_decide 9 6 [.ref 0, .int (nI m)] S v T ∧ pStep d S i z v T := by
  obtain ⟨x1, x2, x3, x4, x5, x6⟩ := x
  refine ⟨_, _, kk_decide l hst S M h.hM N h.hN i z x1 x2 x3 x4 h.nd (nI m) h.bool, ?_⟩
  by_cases c1 : m < M
  · exact (o_decide h c1 (c := -2) rfl).step (by decide) x2 x5 x6
  · exact step_E (E := xENs) (by unfold uG_decide; rw [if_neg (pNm h c1 hm)]) (by decide) x5 x6
theorem r_tell (l : Launch) (hst : l.stackTraces = false) (h : pI d M N S) (x : pCx S i z) (hm : m < 1000) (hg : g < 1000) : ∃ v T, q_Fy l yL_tell kL_tell 9 6 [.ref 0, .int (nI m), .int (nI g)] S v T ∧ pStep d S i z v T := by
  obtain ⟨x1, x2, x3, x4, x5, x6⟩ := x
  refine ⟨_, _, kk_tell l hst S M h.hM i z x1 x2 x3 x4 (nI m) (nI g) h.bool, ?_⟩
  by_cases c1 : m < M
  · by_cases c2 : g < 6
    · exact (o_tell h c1 c2 (c := -3) rfl).step (by decide) x2 x5 x6
    · exact step_E (E := xEIo) (by unfold uG_tell; rw [if_pos (pIn h.hM c1), if_neg (pNg c2 hg)]) (by decide) x5 x6
  · exact step_E (E := xENs) (by unfold uG_tell; rw [if_neg (pNm h c1 hm)]) (by decide) x5 x6
theorem r_faint (l : Launch) (hst : l.stackTraces = false) (h : pI d M N S) (x : pCx S i z) : ∃ v T, q_Fy l yL_faint kL_faint 9 6 [.ref 0] S v T ∧ pStep d S i z v T := by
  obtain ⟨x1, x2, x3, x4, x5, x6⟩ := x
  exact ⟨_, _, kk_faint l hst S M h.hM i z x1 x2 x3 x4 h.bool, (o_faint h (c := -2) rfl).step (by decide) x2 x5 x6⟩
theorem r_wake (l : Launch) (hst : l.stackTraces = false) (h : pI d M N S) (x : pCx S i z) : ∃ v T, q_Fy l yL_wake kL_wake 9 6 [.ref 0] S v T ∧ pStep d S i z v T := by
  obtain ⟨x1, x2, x3, x4, x5, x6⟩ := x
  exact ⟨_, _, kk_wake l hst S M h.hM N h.hN i z x1 x2 x3 x4 ((h.keep i z).p1 (j := 5) 1 (by decide) (by decide) (fun _ => Or.inr rfl)).wk8 h.bool, (o_wake h (c := -2) rfl).step (by decide) x2 x5 x6⟩
theorem r_sleep (l : Launch) (hst : l.stackTraces = false) (h : pI d M N S) (x : pCx S i z) (hg : g < 1000) : ∃ v T, q_Fy l yL_sleep kL_sleep 9 6 [.ref 0, .int (nI g)] S v T ∧ pStep d S i z v T := by
  obtain ⟨x1, x2, x3, x4, x5, x6⟩ := x
  refine ⟨_, _, kk_sleep l hst S i z x1 x2 x3 x4 (nI g) h.bool, ?_⟩
  by_cases c2 : g < 6
  · exact (o_sleep h c2 (c := -2) rfl).step (by decide) x2 x5 x6
  · exact step_E (E := xEIo) (by unfold uG_sleep; rw [if_neg (pNg c2 hg)]) (by decide) x5 x6
theorem r_rouse (l : Launch) (hst : l.stackTraces = false) (h : pI d M N S) (x : pCx S i z) (hg : g < 1000) : ∃ v T, q_Fy l yL_rouse kL_rouse 9 6 [.ref 0, .int (nI g)] S v T ∧ pStep d S i z v T := by
  obtain ⟨x1, x2, x3, x4, x5, x6⟩ := x
  refine ⟨_, _, kk_rouse l hst S i z x1 x2 x3 x4 (nI g) h.bool, ?_⟩
  by_cases c2 : g < 6
  · exact (o_rouse h c2 (c := -2) rfl).step (by decide) x2 x5 x6
  · exact step_E (E := xEIo) (by unfold uG_rouse; rw [if_neg (pNg c2 hg)]) (by decide) x5 x6
theorem r_inq (l : Launch) (hst : l.stackTraces = false) (h : pI d M N S) (x : pCx S i z) (hm : m < 1000) (hg : g < 1000) (ho : o < 6) : ∃ v T, q_Fy l yL_inquire kL_inquire 9 6 [.ref 0, .int (nI m), .int (nI g), .int (nI o)] S v T ∧ pStep d S i z v T := by
  obtain ⟨x1, x2, x3, x4, x5, x6⟩ := x
  refine ⟨_, _, kk_inquire l hst S M h.hM i z x1 x2 x3 x4 (nI m) (nI g) (nI o) h.bool, ?_⟩
  by_cases c1 : m < M
  · by_cases c2 : g < 6
    · exact (o_inq h c1 c2 ho (c := -3) rfl).step (by decide) x2 x5 x6
    · exact step_E (E := xEIo) (by unfold uG_inq; rw [if_pos (pIn h.hM c1), if_neg (pNg c2 hg)]) (by decide) x5 x6
  · exact step_E (E := xENs) (by unfold uG_inq; rw [if_neg (pNm h c1 hm)]) (by decide) x5 x6
theorem r_pass (l : Launch) (hst : l.stackTraces = false) (h : pI d M N S) (x : pCx S i z) {y : Nat} (hy : y < 26) : ∃ v T, q_Fy l yL_pass kL_pass 9 6 [.ref 0, .int (nI y)] S v T ∧ pStep (d + 24) S i z v T := by
  obtain ⟨x1, x2, x3, x4, x5, x6⟩ := x
  refine ⟨_, _, kk_pass l hst S M h.hM i z x1 x2 x3 x4 (nI y) h.bool, ?_⟩
  by_cases c : 1 ≤ y ∧ y ≤ 24
  · exact (o_pass h c.1 c.2 (n := 24) c.2 _).step x2 x5 x6
  · exact step_E (E := xEIa) (by
      unfold uG_pass
      rw [if_neg (fun q => c ⟨(nI_leI (a := 1) (by decide) (by omega)).mp q.1, (nI_leI (b := 24) (by omega) (by decide)).mp q.2⟩)]) (by decide) x5 x6
end PST
