
/-! the invariant of the law's loop -/
def uHs (d i z : Nat) (S : q_St) : Prop := S 28 1 = nI i ∧ i < 8 ∧ S 28 2 = nI z ∧ z ≤ 8 ∧ S 112 5 = nI z ∧ ∀ j, j < z → ∃ M, uE (fun k => S (30 + 9 * ((i + 8 - z + j) % 8) + k)) (fun q => S 116 (144 * j + q)) ∧ uI d M (fun q => S 116 (144 * j + q))
def uSn (d : Nat) (S : q_St) : Prop := (S 0 3 = 0 ∧ S 112 3 = 0) ∨ (S 0 3 = 1 ∧ S 112 3 = 1 ∧ ∃ M, uE (fun k => S (19 + k)) (S 115) ∧ uI d M (S 115))
def uRf (S : q_St) : Prop := S 102 1 = S 112 7 ∧ S 102 2 = S 112 8
def uLn (S : q_St) : Prop := ∃ n, n ≤ 39 ∧ S 110 1 = nI n ∧ S 112 11 = nI n ∧ ∀ j, j < n → S 111 j = S 117 j ∧ ∃ z, z < 65536 ∧ S 111 j = nI z
def uTx (S : q_St) : Prop := ∃ n, n ≤ 60 ∧ S 103 1 = nI n ∧ S 112 13 = nI n ∧ (∀ j, j < 60 → (∃ z, z < 65536 ∧ S 104 j = nI z) ∧ ∃ z, z < 65536 ∧ S 118 j = nI z) ∧ ∀ j, j < n → S 104 j = S 118 j
def uInv (c : Nat) (S : q_St) : Prop := (∃ M, uT (1000 * c) M S S) ∧ (∃ i z, uHs (1000 * c) i z S) ∧ uSn (1000 * c) S ∧ uRf S ∧ uLn S ∧ uTx S ∧ S 103 4 = S 112 16
theorem uI.up {d e M : Nat} {r : Nat → Int32} (h : uI d M r) (he : d ≤ e) : uI e M r := uI_misc h (fun _ _ => rfl) h.2.2.2.2.1 h.2.2.2.2.2.1 (fun g hg => by obtain ⟨n, h1, h2⟩ := h.2.2.2.2.2.2.2.2.2.2 g hg; exact ⟨n, by omega, h2⟩)
theorem uHs.up {d e i z : Nat} {S : q_St} (h : uHs d i z S) (he : d ≤ e) : uHs e i z S := by
  obtain ⟨h1, h2, h3, h4, h5, h6⟩ := h
  exact ⟨h1, h2, h3, h4, h5, fun j hj => by obtain ⟨M, a, b⟩ := h6 j hj; exact ⟨M, a, b.up he⟩⟩
theorem uSn.up {d e : Nat} {S : q_St} (h : uSn d S) (he : d ≤ e) : uSn e S := h.imp id (fun ⟨a, b, M, c, q⟩ => ⟨a, b, M, c, q.up he⟩)
theorem uInv.up {c : Nat} {S : q_St} (h : uInv c S) : uInv (c + 1) S := by
  obtain ⟨⟨M, h1⟩, ⟨i, z, h2⟩, h3, h4⟩ := h
  exact ⟨⟨M, h1.up (by omega)⟩, ⟨i, z, h2.up (by omega)⟩, h3.up (by omega), h4⟩
theorem uE.cg {f f' : Nat → Nat → Int32} {r r' : Nat → Int32} (h : uE f r) (hf : ∀ k, k < 9 → ∀ j, j < uC_len k → f' k j = f k j) (hr : ∀ j, j < 144 → r' j = r j) : uE f' r' := by
  obtain ⟨⟨a0, a1, a2, a3, a4, a5⟩, b, p, m, g⟩ := h
  refine ⟨⟨?_, ?_, ?_, ?_, ?_, ?_⟩, fun n hn => ⟨?_, ?_⟩, fun n hn => ?_, fun n hn o ho => ⟨?_, ?_⟩, fun o ho => ⟨?_, ?_, ?_⟩⟩
  · rw [hf 0 (by decide) 0 (by decide), hr _ (by omega)]; exact a0
  · rw [hf 0 (by decide) 1 (by decide), hr _ (by omega)]; exact a1
  · rw [hf 0 (by decide) 2 (by decide), hr _ (by omega)]; exact a2
  · rw [hf 0 (by decide) 3 (by decide), hr _ (by omega)]; exact a3
  · rw [hf 0 (by decide) 4 (by decide), hr _ (by omega)]; exact a4
  · rw [hf 0 (by decide) 5 (by decide), hr _ (by omega)]; exact a5
  · rw [hf 1 (by decide) n (by show n < 8; omega), hr _ (by omega)]; exact (b n hn).1
  · rw [hf 2 (by decide) n (by show n < 8; omega), hr _ (by omega)]; exact (b n hn).2
  · rw [hf 3 (by decide) n (by show n < 8; omega), hr _ (by omega)]; exact p n hn
  · rw [hf 4 (by decide) _ (by show n * 6 + o < 48; omega), hr _ (by omega)]; exact (m n hn o ho).1
  · rw [hf 5 (by decide) _ (by show n * 6 + o < 48; omega), hr _ (by omega)]; exact (m n hn o ho).2
  · rw [hf 6 (by decide) o (by show o < 6; omega), hr _ (by omega)]; exact (g o ho).1
  · rw [hf 7 (by decide) o (by show o < 6; omega), hr _ (by omega)]; exact (g o ho).2.1
  · rw [hf 8 (by decide) o (by show o < 6; omega), hr _ (by omega)]; exact (g o ho).2.2
theorem uI.cg {d M : Nat} {r r' : Nat → Int32} (h : uI d M r) (hr : ∀ j, j < 144 → r' j = r j) : uI d M r' := by
  obtain ⟨a1, a2, a3, a4, a5, a6, a7, a8, a9, a10, a11⟩ := h
  have hs : ∀ n, n < 8 → q_sum (uSl r' n) 6 = q_sum (uSl r n) 6 := fun n hn => q_sum_cg 6 (fun o ho => by
    unfold uSl
    rw [hr (32 + 14 * n + 2 + o) (by omega), hr (32 + 14 * n + 8 + o) (by omega)])
  refine ⟨a1, (hr 0 (by omega)).trans a2, ?_, fun n h1 h8 j hj => (hr _ (by omega)).trans (a4 n h1 h8 j hj), by rw [hr 1 (by omega)]; exact a5, fun o ho => by rw [hr _ (by omega)]; exact a6 o ho, fun n h8 => ?_, fun n h8 o ho => ?_, ?_, fun o ho n h8 k hk e1 e2 => ?_, fun o ho => by rw [hr _ (by omega)]; exact a11 o ho⟩
  · rw [hr 5 (by omega), a3, uD_cg (r := r) (s := r') M (fun n _ => by rw [hr _ (by omega)])]
  · rw [hr _ (by omega)]; exact a7 n h8
  · rw [hr (32 + 14 * n + 2 + o) (by omega), hr (32 + 14 * n + 8 + o) (by omega)]
    exact a8 n h8 o ho
  · rw [show q_sum (fun g => r' (6 + g)) 6 = q_sum (fun g => r (6 + g)) 6 from q_sum_cg 6 (fun o ho => hr _ (by omega)), a9]
    exact congrArg (fun z => (120 : Int32) + z) (q_sum_cg 8 (fun n hn => hs n hn)).symm
  · rw [hr _ (by omega)] at e1 e2
    exact a10 o ho n h8 k hk e1 e2
/-- only what the reference says it threw -/
theorem uInv.n6 {c : Nat} {S : q_St} (h : uInv c S) (v : Int32) : uInv (c + 1) (q_p S 112 6 v) := by
  have h' := h.up
  obtain ⟨⟨M, h1⟩, ⟨i, z, h2⟩, h3, h4, h5, h6, h7⟩ := h'
  have e : ∀ k, k ≠ 112 → q_p S 112 6 v k = S k := fun k hk => by simp [q_p, hk]
  have e2 : ∀ j, j ≠ 6 → q_p S 112 6 v 112 j = S 112 j := fun j hj => q_p_off _ _ _ _ _ _ (Or.inr hj)
  refine ⟨⟨M, h1.cg (fun k a b => e k (by omega)) (e 113 (by decide))⟩, ⟨i, z, ?_⟩, ?_, ?_, ?_, ?_, ?_⟩
  · obtain ⟨a1, a2, a3, a4, a5, a6⟩ := h2
    refine ⟨by rw [e 28 (by decide)]; exact a1, a2, by rw [e 28 (by decide)]; exact a3, a4, by rw [e2 5 (by decide)]; exact a5, fun j hj => ?_⟩
    obtain ⟨M, b1, b2⟩ := a6 j hj
    have hj8 : (i + 8 - z + j) % 8 < 8 := Nat.mod_lt _ (by decide)
    rw [e 116 (by decide)]
    exact ⟨M, b1.cg (fun k hk q _ => congrFun (e _ (by omega)) q) (fun _ _ => rfl), b2⟩
  · unfold uSn
    rw [e 0 (by decide), e2 3 (by decide), e 115 (by decide)]
    exact h3
  · unfold uRf
    rw [e 102 (by decide), e2 7 (by decide), e2 8 (by decide)]
    exact h4
  · unfold uLn
    rw [e 110 (by decide), e2 11 (by decide), e 111 (by decide), e 117 (by decide)]
    exact h5
  · unfold uTx
    rw [e 103 (by decide), e2 13 (by decide), e 104 (by decide), e 118 (by decide)]
    exact h6
  · rw [e 103 (by decide), e2 16 (by decide)]
    exact h7
