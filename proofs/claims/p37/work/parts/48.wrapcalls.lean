
/-! the wrappers, at arguments that are there and at such that aren't -/
abbrev pHM (S : q_St) (M : Nat) : Prop := S 1 0 = nI M ∧ M ≤ 8
theorem pIn {S : q_St} {M m : Nat} (h : pHM S M) (hm : m < M) : 0 ≤ nI m ∧ nI m < S 1 0 := ⟨nI_pos' (by have := h.2; omega), by rw [h.1]; exact (nI_ltI (by have := h.2; omega) (by have := h.2; omega)).mpr hm⟩
theorem pIg {g n : Nat} (hg : g < n) (hn : n < 2 ^ 31) : 0 ≤ nI g ∧ nI g < nI n := ⟨nI_pos' (by omega), (nI_ltI (by omega) hn).mpr hg⟩
theorem pIo {S : q_St} {M : Nat} (h : pHM S M) : ¬ (0 ≤ nI M ∧ nI M < S 1 0) := fun q => by
  rw [h.1] at q
  exact absurd q.2 (nI_nlt (Nat.le_refl M) (by have := h.2; omega))
def pAn (S : q_St) (m g : Nat) : Int32 := if S 5 (m * 6 + g) ≠ 0 then S 6 (m * 6 + g) else -1
theorem mwL_matter : q_mw yL_matter kL_matter cL_matter 2 [(0, 4, 5, 14)] 1 := ⟨rfl, by decide +kernel, by decide +kernel, by decide +kernel, q_in 291 (by decide +kernel) rfl, q_in 47 (by decide +kernel) rfl, q_in 292 (by decide +kernel) rfl⟩
theorem mwL_set : q_mw yL_set kL_set cL_set 5 [(0, 7, 8, 20), (0, 7, 12, 22), (0, 7, 17, 14)] 4 := ⟨rfl, by decide +kernel, by decide +kernel, by decide +kernel, q_in 401 (by decide +kernel) rfl, q_in 47 (by decide +kernel) rfl, q_in 402 (by decide +kernel) rfl⟩
theorem mwL_of : q_mw yL_of kL_of cL_of 4 [(0, 6, 7, 20), (0, 6, 11, 22)] 3 := ⟨rfl, by decide +kernel, by decide +kernel, by decide +kernel, q_in 787 (by decide +kernel) rfl, q_in 47 (by decide +kernel) rfl, q_in 788 (by decide +kernel) rfl⟩
theorem mwL_answer : q_mw yL_answer kL_answer cL_answer 4 [(0, 6, 7, 20), (0, 6, 11, 31)] 3 := ⟨rfl, by decide +kernel, by decide +kernel, by decide +kernel, q_in 775 (by decide +kernel) rfl, q_in 47 (by decide +kernel) rfl, q_in 776 (by decide +kernel) rfl⟩
theorem mwL_amount : q_mw yL_amount kL_amount cL_amount 4 [(0, 6, 7, 20), (0, 6, 11, 31)] 3 := ⟨rfl, by decide +kernel, by decide +kernel, by decide +kernel, q_in 767 (by decide +kernel) rfl, q_in 47 (by decide +kernel) rfl, q_in 768 (by decide +kernel) rfl⟩
theorem mwL_ask : q_mw yL_ask kL_ask cL_ask 4 [(0, 6, 7, 20), (0, 6, 10, 31), (0, 6, 14, 14)] 3 := ⟨rfl, by decide +kernel, by decide +kernel, by decide +kernel, q_in 491 (by decide +kernel) rfl, q_in 47 (by decide +kernel) rfl, q_in 492 (by decide +kernel) rfl⟩
theorem mwL_decide : q_mw yL_decide kL_decide cL_decide 3 [(0, 5, 6, 20), (0, 5, 9, 14)] 2 := ⟨rfl, by decide +kernel, by decide +kernel, by decide +kernel, q_in 581 (by decide +kernel) rfl, q_in 47 (by decide +kernel) rfl, q_in 582 (by decide +kernel) rfl⟩
theorem mwL_tell : q_mw yL_tell kL_tell cL_tell 4 [(0, 6, 7, 20), (0, 6, 10, 31), (0, 6, 14, 14)] 3 := ⟨rfl, by decide +kernel, by decide +kernel, by decide +kernel, q_in 614 (by decide +kernel) rfl, q_in 47 (by decide +kernel) rfl, q_in 615 (by decide +kernel) rfl⟩
theorem mwL_faint : q_mw yL_faint kL_faint cL_faint 2 [(0, 4, 5, 14)] 1 := ⟨rfl, by decide +kernel, by decide +kernel, by decide +kernel, q_in 652 (by decide +kernel) rfl, q_in 47 (by decide +kernel) rfl, q_in 653 (by decide +kernel) rfl⟩
theorem mwL_wake : q_mw yL_wake kL_wake cL_wake 2 [(0, 4, 5, 14)] 1 := ⟨rfl, by decide +kernel, by decide +kernel, by decide +kernel, q_in 668 (by decide +kernel) rfl, q_in 47 (by decide +kernel) rfl, q_in 669 (by decide +kernel) rfl⟩
theorem mwL_book : q_mw yL_book kL_book cL_book 3 [(0, 5, 6, 20)] 2 := ⟨rfl, by decide +kernel, by decide +kernel, by decide +kernel, q_in 947 (by decide +kernel) rfl, q_in 47 (by decide +kernel) rfl, q_in 948 (by decide +kernel) rfl⟩
theorem mwL_wouldSeal : q_mw yL_wouldSeal kL_wouldSeal cL_wouldSeal 3 [(0, 13, 14, 20), (0, 13, 18, 59)] 2 := ⟨rfl, by decide +kernel, by decide +kernel, by decide +kernel, q_in 802 (by decide +kernel) rfl, q_in 47 (by decide +kernel) rfl, q_in 803 (by decide +kernel) rfl⟩
theorem mwL_sleep : q_mw yL_sleep kL_sleep cL_sleep 3 [(0, 5, 6, 31), (0, 5, 9, 14)] 2 := ⟨rfl, by decide +kernel, by decide +kernel, by decide +kernel, q_in 699 (by decide +kernel) rfl, q_in 47 (by decide +kernel) rfl, q_in 700 (by decide +kernel) rfl⟩
theorem mwL_rouse : q_mw yL_rouse kL_rouse cL_rouse 3 [(0, 5, 6, 31), (0, 5, 9, 14)] 2 := ⟨rfl, by decide +kernel, by decide +kernel, by decide +kernel, q_in 718 (by decide +kernel) rfl, q_in 47 (by decide +kernel) rfl, q_in 719 (by decide +kernel) rfl⟩
theorem mwL_inquire : q_mw yL_inquire kL_inquire cL_inquire 5 [(0, 7, 8, 20), (0, 7, 12, 31), (0, 7, 17, 14)] 4 := ⟨rfl, by decide +kernel, by decide +kernel, by decide +kernel, q_in 633 (by decide +kernel) rfl, q_in 47 (by decide +kernel) rfl, q_in 634 (by decide +kernel) rfl⟩
theorem mwL_guildOf : q_mw yL_guildOf kL_guildOf cL_guildOf 4 [(0, 6, 7, 31), (0, 6, 11, 22)] 3 := ⟨rfl, by decide +kernel, by decide +kernel, by decide +kernel, q_in 684 (by decide +kernel) rfl, q_in 47 (by decide +kernel) rfl, q_in 685 (by decide +kernel) rfl⟩
theorem mwL_canLearn : q_mw yL_canLearn kL_canLearn cL_canLearn 4 [(0, 14, 15, 31)] 3 := ⟨rfl, by decide +kernel, by decide +kernel, by decide +kernel, q_in 862 (by decide +kernel) rfl, q_in 47 (by decide +kernel) rfl, q_in 863 (by decide +kernel) rfl⟩
theorem mwL_pass : q_mw yL_pass kL_pass cL_pass 3 [(0, 5, 6, 22)] 2 := ⟨rfl, by decide +kernel, by decide +kernel, by decide +kernel, q_in 729 (by decide +kernel) rfl, q_in 47 (by decide +kernel) rfl, q_in 730 (by decide +kernel) rfl⟩
theorem mwL_ranked : q_mw yL_ranked kL_ranked cL_ranked 3 [(0, 5, 6, 31)] 2 := ⟨rfl, by decide +kernel, by decide +kernel, by decide +kernel, q_in 889 (by decide +kernel) rfl, q_in 47 (by decide +kernel) rfl, q_in 890 (by decide +kernel) rfl⟩
theorem mwL_line : q_mw yL_line kL_line cL_line 3 [(0, 5, 6, 20)] 2 := ⟨rfl, by decide +kernel, by decide +kernel, by decide +kernel, q_in 1236 (by decide +kernel) rfl, q_in 47 (by decide +kernel) rfl, q_in 1237 (by decide +kernel) rfl⟩
theorem mwL_character : q_mw yL_character kL_character cL_character 3 [(0, 5, 6, 31)] 2 := ⟨rfl, by decide +kernel, by decide +kernel, by decide +kernel, q_in 1274 (by decide +kernel) rfl, q_in 47 (by decide +kernel) rfl, q_in 1275 (by decide +kernel) rfl⟩
theorem mwL_append : q_mw yL_append kL_append cL_append 3 [(0, 5, 6, 59)] 2 := ⟨rfl, by decide +kernel, by decide +kernel, by decide +kernel, q_in 1307 (by decide +kernel) rfl, q_in 47 (by decide +kernel) rfl, q_in 1308 (by decide +kernel) rfl⟩
theorem mwL_runs : q_mw yL_runs kL_runs cL_runs 2 [(0, 4, 5, 22), (0, 4, 8, 14)] 1 := ⟨rfl, by decide +kernel, by decide +kernel, by decide +kernel, q_in 1319 (by decide +kernel) rfl, q_in 47 (by decide +kernel) rfl, q_in 1320 (by decide +kernel) rfl⟩
theorem mwL_undo : q_mw yL_undo kL_undo cL_undo 2 [(0, 4, 5, 59)] 1 := ⟨rfl, by decide +kernel, by decide +kernel, by decide +kernel, q_in 1467 (by decide +kernel) rfl, q_in 47 (by decide +kernel) rfl, q_in 1468 (by decide +kernel) rfl⟩
theorem uO_b01 (f : Bool) : uO_b f = 0 ∨ uO_b f = 1 := by cases f <;> simp [uO_b]
theorem kk_matter (l : Launch) (hst : l.stackTraces = false) (S : q_St) (M : Nat) (hM : pHM S M) (i z : Nat) (hi : S 28 1 = nI i) (hi8 : i < 8) (hzz : S 28 2 = nI z) (hz8 : z ≤ 8) (hz : q_bool S 1) : q_Fy l yL_matter kL_matter 9 6 [.ref 0] S (uW [(xEUn, (-2))] (uG_matter S M i z).1) (uG_matter S M i z).2 := w_matter l S (uG_matter S M i z) (c_X6_matter l hst S M hM.1 hM.2 i z hi hi8 hzz hz8 hz) (by intro E h; unfold uG_matter at h; (try unfold uG_req at h); (repeat' (split at h)); all_goals first | (cases h; done) | (cases h; simp))
theorem kk_set (l : Launch) (hst : l.stackTraces = false) (S : q_St) (M : Nat) (hM : pHM S M) (i z : Nat) (hi : S 28 1 = nI i) (hi8 : i < 8) (hzz : S 28 2 = nI z) (hz8 : z ≤ 8) (x : Int32) (y : Int32) (a : Int32) (hz : q_bool S 1) : q_Fy l yL_set kL_set 9 6 [.ref 0, .int x, .int y, .int a] S (uW [(xENs, (-1)), (xEIa, (-2)), (xEUn, (-3))] (uG_set S i z x y a).1) (uG_set S i z x y a).2 := w_set l S x y a (uG_set S i z x y a) (c_X6_set l hst S M hM.1 hM.2 i z hi hi8 hzz hz8 x y a hz) (by intro E h; unfold uG_set at h; (try unfold uG_req at h); (repeat' (split at h)); all_goals first | (cases h; done) | (cases h; simp))
theorem kk_of (l : Launch) (hst : l.stackTraces = false) (S : q_St) (M : Nat) (hM : pHM S M) (x : Int32) (v : Int32) : q_Fy l yL_of kL_of 9 6 [.ref 0, .int x, .int v] S (uW [(xENs, (-13)), (xEIa, (-12))] (uG_matterOf S x v).1) (uG_matterOf S x v).2 := w_of l S x v (uG_matterOf S x v) (c_X6_matterOf l hst S M hM.1 hM.2 x v) (by intro E h; unfold uG_matterOf at h; (try unfold uG_req at h); (repeat' (split at h)); all_goals first | (cases h; done) | (cases h; simp))
theorem kk_answer (l : Launch) (hst : l.stackTraces = false) (S : q_St) (M : Nat) (hM : pHM S M) (x : Int32) (y : Int32) : q_Fy l yL_answer kL_answer 9 6 [.ref 0, .int x, .int y] S (uW [(xENs, (-13)), (xEIo, (-11))] (uG_answer S x y).1) (uG_answer S x y).2 := w_answer l S x y (uG_answer S x y) (c_X6_answer l hst S M hM.1 hM.2 x y) (by intro E h; unfold uG_answer at h; (try unfold uG_req at h); (repeat' (split at h)); all_goals first | (cases h; done) | (cases h; simp))
theorem kk_amount (l : Launch) (hst : l.stackTraces = false) (S : q_St) (M : Nat) (hM : pHM S M) (x : Int32) (y : Int32) : q_Fy l yL_amount kL_amount 9 6 [.ref 0, .int x, .int y] S (uW [(xENs, (-113)), (xEIo, (-111))] (uG_amount S x y).1) (uG_amount S x y).2 := w_amount l S x y (uG_amount S x y) (c_X6_amount l hst S M hM.1 hM.2 x y) (by intro E h; unfold uG_amount at h; (try unfold uG_req at h); (repeat' (split at h)); all_goals first | (cases h; done) | (cases h; simp))
theorem kk_ask (l : Launch) (hst : l.stackTraces = false) (S : q_St) (M : Nat) (hM : pHM S M) (i z : Nat) (hi : S 28 1 = nI i) (hi8 : i < 8) (hzz : S 28 2 = nI z) (hz8 : z ≤ 8) (x : Int32) (y : Int32) (hz : q_bool S 1) : q_Fy l yL_ask kL_ask 9 6 [.ref 0, .int x, .int y] S (uW [(xENs, (-1)), (xEIo, (-2)), (xEUn, (-3))] (uG_ask S M i z x y).1) (uG_ask S M i z x y).2 := w_ask l S x y (uG_ask S M i z x y) (c_X6_ask l hst S M hM.1 hM.2 i z hi hi8 hzz hz8 x y hz) (by intro E h; unfold uG_ask at h; (try unfold uG_req at h); (repeat' (split at h)); all_goals first | (cases h; done) | (cases h; simp))
theorem kk_decide (l : Launch) (hst : l.stackTraces = false) (S : q_St) (M : Nat) (hM : pHM S M) (N : Nat) (hN : S 1 1 = nI N) (i z : Nat) (hi : S 28 1 = nI i) (hi8 : i < 8) (hzz : S 28 2 = nI z) (hz8 : z ≤ 8) (hNd : ∀ m, m < M → S 2 m = 0 → N < 8) (x : Int32) (hz : q_bool S 1) : q_Fy l yL_decide kL_decide 9 6 [.ref 0, .int x] S (uW [(xENs, (-1)), (xEUn, (-2))] (uG_decide S M N i z x).1) (uG_decide S M N i z x).2 := w_decide l S x (uG_decide S M N i z x) (c_X6_decide l hst S M hM.1 hM.2 i z hi hi8 hzz hz8 N hN hNd x hz) (by intro E h; unfold uG_decide at h; (try unfold uG_req at h); (repeat' (split at h)); all_goals first | (cases h; done) | (cases h; simp))
theorem kk_tell (l : Launch) (hst : l.stackTraces = false) (S : q_St) (M : Nat) (hM : pHM S M) (i z : Nat) (hi : S 28 1 = nI i) (hi8 : i < 8) (hzz : S 28 2 = nI z) (hz8 : z ≤ 8) (x : Int32) (y : Int32) (hz : q_bool S 1) : q_Fy l yL_tell kL_tell 9 6 [.ref 0, .int x, .int y] S (uW [(xENs, (-1)), (xEIo, (-2)), (xEUn, (-3))] (uG_tell S M i z x y).1) (uG_tell S M i z x y).2 := w_tell l S x y (uG_tell S M i z x y) (c_X6_tell l hst S M hM.1 hM.2 i z hi hi8 hzz hz8 x y hz) (by intro E h; unfold uG_tell at h; (try unfold uG_req at h); (repeat' (split at h)); all_goals first | (cases h; done) | (cases h; simp))
theorem kk_faint (l : Launch) (hst : l.stackTraces = false) (S : q_St) (M : Nat) (hM : pHM S M) (i z : Nat) (hi : S 28 1 = nI i) (hi8 : i < 8) (hzz : S 28 2 = nI z) (hz8 : z ≤ 8) (hz : q_bool S 1) : q_Fy l yL_faint kL_faint 9 6 [.ref 0] S (uW [(xEUn, (-2))] (uG_faint S M i z).1) (uG_faint S M i z).2 := w_faint l S (uG_faint S M i z) (c_X6_faint l hst S M hM.1 hM.2 i z hi hi8 hzz hz8 hz) (by intro E h; unfold uG_faint at h; (try unfold uG_req at h); (repeat' (split at h)); all_goals first | (cases h; done) | (cases h; simp))
theorem kk_wake (l : Launch) (hst : l.stackTraces = false) (S : q_St) (M : Nat) (hM : pHM S M) (N : Nat) (hN : S 1 1 = nI N) (i z : Nat) (hi : S 28 1 = nI i) (hi8 : i < 8) (hzz : S 28 2 = nI z) (hz8 : z ≤ 8) (hW : uC_wkN (q_p (uH_keep S i z 1) 1 5 1) N M ≤ 8) (hz : q_bool S 1) : q_Fy l yL_wake kL_wake 9 6 [.ref 0] S (uW [(xEUn, (-2))] (uG_wake S M N i z).1) (uG_wake S M N i z).2 := w_wake l S (uG_wake S M N i z) (c_X6_wake l hst S M hM.1 hM.2 i z hi hi8 hzz hz8 N hN hW hz) (by intro E h; unfold uG_wake at h; (try unfold uG_req at h); (repeat' (split at h)); all_goals first | (cases h; done) | (cases h; simp))
theorem kk_book (l : Launch) (hst : l.stackTraces = false) (S : q_St) (N : Nat) (hN : S 1 1 = nI N) (hN8 : N ≤ 8) (x : Int32) : q_Fy l yL_book kL_book 9 6 [.ref 0, .int x] S (uW [(xENs, (-13))] (uG_book S x).1) (uG_book S x).2 := w_book l S x (uG_book S x) (c_X6_book l hst S N hN hN8 x) (by intro E h; unfold uG_book at h; (try unfold uG_req at h); (repeat' (split at h)); all_goals first | (cases h; done) | (cases h; simp))
theorem kk_wouldSeal (l : Launch) (hst : l.stackTraces = false) (S : q_St) (M : Nat) (hM : pHM S M) (x : Int32) : q_Fy l yL_wouldSeal kL_wouldSeal 9 6 [.ref 0, .int x] S (uW [(xENs, (-13)), (xEIs, (-14))] (uG_would S M x).1) (uG_would S M x).2 := w_wouldSeal l S x (uG_would S M x) (c_X6_wouldSeal l hst S M hM.1 hM.2 x) (by intro E h; unfold uG_would at h; (try unfold uG_req at h); (repeat' (split at h)); all_goals first | (cases h; done) | (cases h; simp)) (by intro v h; unfold uG_would at h; (repeat' (split at h)); all_goals first | (cases h; done) | (cases h; exact uO_b01 _))
theorem kk_sleep (l : Launch) (hst : l.stackTraces = false) (S : q_St) (i z : Nat) (hi : S 28 1 = nI i) (hi8 : i < 8) (hzz : S 28 2 = nI z) (hz8 : z ≤ 8) (y : Int32) (hz : q_bool S 1) : q_Fy l yL_sleep kL_sleep 9 6 [.ref 0, .int y] S (uW [(xEIo, (-1)), (xEUn, (-2))] (uG_sleep S i z y).1) (uG_sleep S i z y).2 := w_sleep l S y (uG_sleep S i z y) (c_X6_sleep l hst S i z hi hi8 hzz hz8 y hz) (by intro E h; unfold uG_sleep at h; (try unfold uG_req at h); (repeat' (split at h)); all_goals first | (cases h; done) | (cases h; simp))
theorem kk_rouse (l : Launch) (hst : l.stackTraces = false) (S : q_St) (i z : Nat) (hi : S 28 1 = nI i) (hi8 : i < 8) (hzz : S 28 2 = nI z) (hz8 : z ≤ 8) (y : Int32) (hz : q_bool S 1) : q_Fy l yL_rouse kL_rouse 9 6 [.ref 0, .int y] S (uW [(xEIo, (-1)), (xEUn, (-2))] (uG_rouse S i z y).1) (uG_rouse S i z y).2 := w_rouse l S y (uG_rouse S i z y) (c_X6_rouse l hst S i z hi hi8 hzz hz8 y hz) (by intro E h; unfold uG_rouse at h; (try unfold uG_req at h); (repeat' (split at h)); all_goals first | (cases h; done) | (cases h; simp))
theorem kk_inquire (l : Launch) (hst : l.stackTraces = false) (S : q_St) (M : Nat) (hM : pHM S M) (i z : Nat) (hi : S 28 1 = nI i) (hi8 : i < 8) (hzz : S 28 2 = nI z) (hz8 : z ≤ 8) (x : Int32) (y : Int32) (w : Int32) (hz : q_bool S 1) : q_Fy l yL_inquire kL_inquire 9 6 [.ref 0, .int x, .int y, .int w] S (uW [(xENs, (-1)), (xEIo, (-2)), (xEUn, (-3))] (uG_inq S i z x y w).1) (uG_inq S i z x y w).2 := w_inquire l S x y w (uG_inq S i z x y w) (c_X6_inquire l hst S M hM.1 hM.2 i z hi hi8 hzz hz8 x y w hz) (by intro E h; unfold uG_inq at h; (try unfold uG_req at h); (repeat' (split at h)); all_goals first | (cases h; done) | (cases h; simp))
theorem kk_guildOf (l : Launch) (hst : l.stackTraces = false) (S : q_St) (M : Nat) (hM : pHM S M) (y : Int32) (v : Int32) : q_Fy l yL_guildOf kL_guildOf 9 6 [.ref 0, .int y, .int v] S (uW [(xEIo, (-11)), (xEIa, (-12))] (uG_guildOf S M y v).1) (uG_guildOf S M y v).2 := w_guildOf l S y v (uG_guildOf S M y v) (c_X6_guildOf l hst S M hM.1 hM.2 y v) (by intro E h; unfold uG_guildOf at h; (try unfold uG_req at h); (repeat' (split at h)); all_goals first | (cases h; done) | (cases h; simp))
theorem kk_canLearn (l : Launch) (hst : l.stackTraces = false) (S : q_St) (M : Nat) (hM : pHM S M) (y : Int32) (b : Int32) : q_Fy l yL_canLearn kL_canLearn 9 6 [.ref 0, .int y, .int b] S (uW [(xEIo, (-11))] (uG_learn S M y b).1) (uG_learn S M y b).2 := w_canLearn l S y b (uG_learn S M y b) (c_X6_canLearn l hst S M hM.1 hM.2 y b) (by intro E h; unfold uG_learn at h; (try unfold uG_req at h); (repeat' (split at h)); all_goals first | (cases h; done) | (cases h; simp)) (by intro v h; unfold uG_learn at h; (repeat' (split at h)); all_goals first | (cases h; done) | (cases h; simp; done) | (cases h; (repeat' split) <;> simp))
theorem kk_pass (l : Launch) (hst : l.stackTraces = false) (S : q_St) (M : Nat) (hM : pHM S M) (i z : Nat) (hi : S 28 1 = nI i) (hi8 : i < 8) (hzz : S 28 2 = nI z) (hz8 : z ≤ 8) (h : Int32) (hz : q_bool S 1) : q_Fy l yL_pass kL_pass 9 6 [.ref 0, .int h] S (uW [(xEIa, (-1))] (uG_pass S M i z h).1) (uG_pass S M i z h).2 := w_pass l S h (uG_pass S M i z h) (c_X6_pass l hst S M hM.1 hM.2 i z hi hi8 hzz hz8 h hz) (by intro E h; unfold uG_pass at h; (try unfold uG_req at h); (repeat' (split at h)); all_goals first | (cases h; done) | (cases h; simp))
theorem kk_ranked (l : Launch) (hst : l.stackTraces = false) (S : q_St)  (x : Int32) : q_Fy l yL_ranked kL_ranked 9 6 [.ref 0, .int x] S (uW [(xEIo, (-11))] (uG_ranked S x).1) (uG_ranked S x).2 := w_ranked l S x (uG_ranked S x) (c_X6_ranked l hst S x) (by intro E h; unfold uG_ranked at h; (try unfold uG_req at h); (repeat' (split at h)); all_goals first | (cases h; done) | (cases h; simp))
theorem kk_line (l : Launch) (hst : l.stackTraces = false) (S : q_St) (M : Nat) (hM : pHM S M) (hA : ∀ m, m < M → ∀ g, g < 6 → -50 ≤ S 5 (m * 6 + g) ∧ S 5 (m * 6 + g) ≤ 50) (hB : ∀ m, m < M → ∀ g, g < 6 → (S 6 (m * 6 + g) = 0 ∨ S 6 (m * 6 + g) = 1 ∨ S 6 (m * 6 + g) = 2 ∨ S 6 (m * 6 + g) = 3 ∨ S 6 (m * 6 + g) = 4)) (x : Int32) : q_Fy l yL_line kL_line 9 6 [.ref 0, .int x] S (uW [(xENs, (-13))] (uG_line S x).1) (uG_line S x).2 := w_line l S x (uG_line S x) (c_X6_line l hst S M hM.1 hM.2 x hA hB) (by intro E h; unfold uG_line at h; (try unfold uG_req at h); (repeat' (split at h)); all_goals first | (cases h; done) | (cases h; simp))
theorem kk_character (l : Launch) (hst : l.stackTraces = false) (S : q_St) (n : Nat) (hn : S 110 1 = nI n) (hn9 : n ≤ 39) (hch : ∀ j, j < n → ∃ z, z < 65536 ∧ S 111 j = nI z) (x : Int32) : q_Fy l yL_character kL_character 9 6 [.ref 0, .int x] S (uW [(xEIo, (-11))] (uG_char S x).1) (uG_char S x).2 := w_character l S x (uG_char S x) (c_X6_character l hst S n hn hn9 hch x) (by intro E h; unfold uG_char at h; (try unfold uG_req at h); (repeat' (split at h)); all_goals first | (cases h; done) | (cases h; simp))
theorem kk_append (l : Launch) (hst : l.stackTraces = false) (S : q_St) (n : Nat) (hn : S 103 1 = nI n) (hn60 : n ≤ 60) (c : Int32) (hc : ∃ z, z < 65536 ∧ c = nI z) : q_Fy l yL_append kL_append 9 6 [.ref 0, .int c] S (uW [(xEIs, (-1))] (uG_append S n c).1) (uG_append S n c).2 := w_append l S c (uG_append S n c) (c_X6_append l hst S n hn hn60 c hc) (by intro E h; unfold uG_append at h; (try unfold uG_req at h); (repeat' (split at h)); all_goals first | (cases h; done) | (cases h; simp))
theorem kk_undo (l : Launch) (hst : l.stackTraces = false) (S : q_St) (i z : Nat) (hi : S 28 1 = nI i) (hi8 : i < 8) (hzz : S 28 2 = nI z) (hz8 : z ≤ 8) (hzb : 1 ≤ z → q_bool S (30 + 9 * ((i + 8 - 1) % 8))) : q_Fy l yL_undo kL_undo 9 6 [.ref 0] S (uW [(xEIs, (-1))] (uG_undo S i z).1) (uG_undo S i z).2 := w_undo l S (uG_undo S i z) (c_X6_undo l hst S i z hi hi8 hzz hz8 hzb) (by intro E h; unfold uG_undo at h; (try unfold uG_req at h); (repeat' (split at h)); all_goals first | (cases h; done) | (cases h; simp))
theorem k_answer (l : Launch) (hst : l.stackTraces = false) (S : q_St) (M : Nat) (hM : pHM S M) (m g : Nat) (hm : m < M) (hg : g < 6) : q_Fy l yL_answer kL_answer 9 6 [.ref 0, .int (nI m), .int (nI g)] S (pAn S m g) S := by
  have h := kk_answer l hst S M hM (nI m) (nI g)
  have e : uG_answer S (nI m) (nI g) = (.inl (pAn S m g), S) := by
    unfold uG_answer
    rw [if_pos (pIn hM hm), if_pos (show 0 ≤ nI g ∧ nI g < 6 from pIg (n := 6) hg (by decide)), uN_nI (show m < 2 ^ 31 by have := hM.2; omega), uN_nI (show g < 2 ^ 31 by omega)]
    rfl
  rw [e] at h
  exact h
theorem k_amount (l : Launch) (hst : l.stackTraces = false) (S : q_St) (M : Nat) (hM : pHM S M) (m g : Nat) (hm : m < M) (hg : g < 6) : q_Fy l yL_amount kL_amount 9 6 [.ref 0, .int (nI m), .int (nI g)] S (S 5 (m * 6 + g)) S := by
  have h := kk_amount l hst S M hM (nI m) (nI g)
  have e : uG_amount S (nI m) (nI g) = (.inl (S 5 (m * 6 + g)), S) := by
    unfold uG_amount
    rw [if_pos (pIn hM hm), if_pos (show 0 ≤ nI g ∧ nI g < 6 from pIg (n := 6) hg (by decide)), uN_nI (show m < 2 ^ 31 by have := hM.2; omega), uN_nI (show g < 2 ^ 31 by omega)]
  rw [e] at h
  exact h
theorem k_of (l : Launch) (hst : l.stackTraces = false) (S : q_St) (M : Nat) (hM : pHM S M) (m v : Nat) (hm : m < M) (hv : v < 8) : q_Fy l yL_of kL_of 9 6 [.ref 0, .int (nI m), .int (nI v)] S (uC_nM S m v) S := by
  have h := kk_of l hst S M hM (nI m) (nI v)
  have e : uG_matterOf S (nI m) (nI v) = (.inl (uC_nM S m v), S) := by
    unfold uG_matterOf
    rw [if_pos (pIn hM hm), if_pos (show 0 ≤ nI v ∧ nI v ≤ 7 from ⟨nI_pos' (by omega), (nI_leI (by omega) (b := 7) (by decide)).mpr (by omega)⟩), uN_nI (show m < 2 ^ 31 by have := hM.2; omega), uN_nI (show v < 2 ^ 31 by omega)]
  rw [e] at h
  exact h
theorem k_of8 (l : Launch) (hst : l.stackTraces = false) (S : q_St) (M : Nat) (hM : pHM S M) (m : Nat) (hm : m < M) : q_Fy l yL_of kL_of 9 6 [.ref 0, .int (nI m), .int 8] S (-12) S := by
  have h := kk_of l hst S M hM (nI m) 8
  have e : uG_matterOf S (nI m) 8 = (.inr xEIa, S) := by
    unfold uG_matterOf
    rw [if_pos (pIn hM hm), if_neg (by decide)]
  rw [e] at h
  exact h
theorem k_ofM (l : Launch) (hst : l.stackTraces = false) (S : q_St) (M : Nat) (hM : pHM S M) : q_Fy l yL_of kL_of 9 6 [.ref 0, .int (nI M), .int 0] S (-13) S := by
  have h := kk_of l hst S M hM (nI M) 0
  have e : uG_matterOf S (nI M) 0 = (.inr xENs, S) := by
    unfold uG_matterOf
    rw [if_neg (pIo hM)]
  rw [e] at h
  exact h
theorem k_answer6 (l : Launch) (hst : l.stackTraces = false) (S : q_St) (M : Nat) (hM : pHM S M) (m : Nat) (hm : m < M) : q_Fy l yL_answer kL_answer 9 6 [.ref 0, .int (nI m), .int 6] S (-11) S := by
  have h := kk_answer l hst S M hM (nI m) 6
  have e : uG_answer S (nI m) 6 = (.inr xEIo, S) := by
    unfold uG_answer
    rw [if_pos (pIn hM hm), if_neg (by decide)]
  rw [e] at h
  exact h
theorem k_answerM (l : Launch) (hst : l.stackTraces = false) (S : q_St) (M : Nat) (hM : pHM S M) : q_Fy l yL_answer kL_answer 9 6 [.ref 0, .int (nI M), .int 9] S (-13) S := by
  have h := kk_answer l hst S M hM (nI M) 9
  have e : uG_answer S (nI M) 9 = (.inr xENs, S) := by
    unfold uG_answer
    rw [if_neg (pIo hM)]
  rw [e] at h
  exact h
theorem k_amount_1 (l : Launch) (hst : l.stackTraces = false) (S : q_St) (M : Nat) (hM : pHM S M) (m : Nat) (hm : m < M) : q_Fy l yL_amount kL_amount 9 6 [.ref 0, .int (nI m), .int (-1)] S (-111) S := by
  have h := kk_amount l hst S M hM (nI m) (-1)
  have e : uG_amount S (nI m) (-1) = (.inr xEIo, S) := by
    unfold uG_amount
    rw [if_pos (pIn hM hm), if_neg (by decide)]
  rw [e] at h
  exact h
theorem k_would (l : Launch) (hst : l.stackTraces = false) (S : q_St) (M : Nat) (hM : pHM S M) (m : Nat) (hm : m < M) : q_Fy l yL_wouldSeal kL_wouldSeal 9 6 [.ref 0, .int (nI m)] S (if S 2 m ≠ 0 ∨ uC_guilds S m = 0 then -14 else uO_b (q_every (uC_pAll S M m) 6 0)) S := by
  have h := kk_wouldSeal l hst S M hM (nI m)
  have e : uG_would S M (nI m) = (if S 2 m ≠ 0 ∨ uC_guilds S m = 0 then (.inr xEIs, S) else (.inl (uO_b (q_every (uC_pAll S M m) 6 0)), S)) := by
    unfold uG_would
    rw [if_pos (pIn hM hm), uN_nI (show m < 2 ^ 31 by have := hM.2; omega)]
  rw [e] at h
  by_cases c : S 2 m ≠ 0 ∨ uC_guilds S m = 0
  · rw [if_pos c] at h ⊢
    exact h
  · rw [if_neg c] at h ⊢
    exact h
theorem k_would_1 (l : Launch) (hst : l.stackTraces = false) (S : q_St) (M : Nat) (hM : pHM S M) : q_Fy l yL_wouldSeal kL_wouldSeal 9 6 [.ref 0, .int (-1)] S (-13) S := by
  have h := kk_wouldSeal l hst S M hM (-1)
  have e : uG_would S M (-1) = (.inr xENs, S) := by
    unfold uG_would
    rw [if_neg (fun q => absurd q.1 (by decide))]
  rw [e] at h
  exact h
theorem k_guildOf (l : Launch) (hst : l.stackTraces = false) (S : q_St) (M : Nat) (hM : pHM S M) (g v : Nat) (hg : g < 6) (hv : v < 6) : q_Fy l yL_guildOf kL_guildOf 9 6 [.ref 0, .int (nI g), .int (nI v)] S (uC_nG S M g v) S := by
  have h := kk_guildOf l hst S M hM (nI g) (nI v)
  have e : uG_guildOf S M (nI g) (nI v) = (.inl (uC_nG S M g v), S) := by
    unfold uG_guildOf
    rw [if_pos (show 0 ≤ nI g ∧ nI g < 6 from pIg (n := 6) hg (by decide)), if_pos (show 0 ≤ nI v ∧ nI v ≤ 5 from ⟨nI_pos' (by omega), (nI_leI (by omega) (b := 5) (by decide)).mpr (by omega)⟩), uN_nI (show g < 2 ^ 31 by omega), uN_nI (show v < 2 ^ 31 by omega)]
  rw [e] at h
  exact h
theorem k_guildOf6 (l : Launch) (hst : l.stackTraces = false) (S : q_St) (M : Nat) (hM : pHM S M) (g : Nat) (hg : g < 6) : q_Fy l yL_guildOf kL_guildOf 9 6 [.ref 0, .int (nI g), .int 6] S (-12) S := by
  have h := kk_guildOf l hst S M hM (nI g) 6
  have e : uG_guildOf S M (nI g) 6 = (.inr xEIa, S) := by
    unfold uG_guildOf
    rw [if_pos (show 0 ≤ nI g ∧ nI g < 6 from pIg (n := 6) hg (by decide)), if_neg (by decide)]
  rw [e] at h
  exact h
theorem k_guildOf69 (l : Launch) (hst : l.stackTraces = false) (S : q_St) (M : Nat) (hM : pHM S M) : q_Fy l yL_guildOf kL_guildOf 9 6 [.ref 0, .int 6, .int 9] S (-11) S := by
  have h := kk_guildOf l hst S M hM 6 9
  have e : uG_guildOf S M 6 9 = (.inr xEIo, S) := by
    unfold uG_guildOf
    rw [if_neg (by decide)]
  rw [e] at h
  exact h
theorem k_learn0 (l : Launch) (hst : l.stackTraces = false) (S : q_St) (M : Nat) (hM : pHM S M) (g : Nat) (hg : g < 6) : q_Fy l yL_canLearn kL_canLearn 9 6 [.ref 0, .int (nI g), .int 0] S (if uC_learn S M g then 1 else 0) S := by
  have h := kk_canLearn l hst S M hM (nI g) 0
  have e : uG_learn S M (nI g) 0 = (.inl (if uC_learn S M g then 1 else 0), S) := by
    unfold uG_learn
    rw [if_pos (show 0 ≤ nI g ∧ nI g < 6 from pIg (n := 6) hg (by decide)), if_pos rfl, uN_nI (show g < 2 ^ 31 by omega)]
  rw [e] at h
  exact h
theorem k_learn1 (l : Launch) (hst : l.stackTraces = false) (S : q_St) (M : Nat) (hM : pHM S M) (g : Nat) (hg : g < 6) : q_Fy l yL_canLearn kL_canLearn 9 6 [.ref 0, .int (nI g), .int 1] S (if uC_learnS S M g then 1 else 0) S := by
  have h := kk_canLearn l hst S M hM (nI g) 1
  have e : uG_learn S M (nI g) 1 = (.inl (if uC_learnS S M g then 1 else 0), S) := by
    unfold uG_learn
    rw [if_pos (show 0 ≤ nI g ∧ nI g < 6 from pIg (n := 6) hg (by decide)), if_neg (by decide), uN_nI (show g < 2 ^ 31 by omega)]
  rw [e] at h
  exact h
theorem k_learn_1 (l : Launch) (hst : l.stackTraces = false) (S : q_St) (M : Nat) (hM : pHM S M) : q_Fy l yL_canLearn kL_canLearn 9 6 [.ref 0, .int (-1), .int 1] S (-11) S := by
  have h := kk_canLearn l hst S M hM (-1) 1
  have e : uG_learn S M (-1) 1 = (.inr xEIo, S) := by
    unfold uG_learn
    rw [if_neg (by decide)]
  rw [e] at h
  exact h
theorem k_ranked (l : Launch) (hst : l.stackTraces = false) (S : q_St) (g : Nat) (hg : g < 6) : q_Fy l yL_ranked kL_ranked 9 6 [.ref 0, .int (nI g)] S (nI (uC_rank S (nI g))) S := by
  have h := kk_ranked l hst S (nI g)
  have e : uG_ranked S (nI g) = (.inl (nI (uC_rank S (nI g))), S) := by
    unfold uG_ranked
    rw [if_pos (show 0 ≤ nI g ∧ nI g < 6 from pIg (n := 6) hg (by decide))]
  rw [e] at h
  exact h
theorem k_ranked6 (l : Launch) (hst : l.stackTraces = false) (S : q_St) : q_Fy l yL_ranked kL_ranked 9 6 [.ref 0, .int 6] S (-11) S := by
  have h := kk_ranked l hst S 6
  have e : uG_ranked S 6 = (.inr xEIo, S) := by
    unfold uG_ranked
    rw [if_neg (by decide)]
  rw [e] at h
  exact h
theorem k_book (l : Launch) (hst : l.stackTraces = false) (S : q_St) (N : Nat) (hN : S 1 1 = nI N) (hN8 : N ≤ 8) (p : Nat) (hp : p < N) : q_Fy l yL_book kL_book 9 6 [.ref 0, .int (nI p)] S (S 4 p) S := by
  have h := kk_book l hst S N hN hN8 (nI p)
  have e : uG_book S (nI p) = (.inl (S 4 p), S) := by
    unfold uG_book
    rw [if_pos (show 0 ≤ nI p ∧ nI p < S 1 1 from ⟨nI_pos' (by omega), by rw [hN]; exact (nI_ltI (by omega) (by omega)).mpr hp⟩), uN_nI (show p < 2 ^ 31 by omega)]
  rw [e] at h
  exact h
theorem k_bookN (l : Launch) (hst : l.stackTraces = false) (S : q_St) (N : Nat) (hN : S 1 1 = nI N) (hN8 : N ≤ 8) (p : Nat) (hp : N ≤ p) (hp9 : p < 2 ^ 31) : q_Fy l yL_book kL_book 9 6 [.ref 0, .int (nI p)] S (-13) S := by
  have h := kk_book l hst S N hN hN8 (nI p)
  have e : uG_book S (nI p) = (.inr xENs, S) := by
    unfold uG_book
    rw [if_neg (fun q => by rw [hN] at q; have := (nI_ltI hp9 (show N < 2 ^ 31 by omega)).mp q.2; omega)]
  rw [e] at h
  exact h
theorem k_book_1 (l : Launch) (hst : l.stackTraces = false) (S : q_St) (N : Nat) (hN : S 1 1 = nI N) (hN8 : N ≤ 8) : q_Fy l yL_book kL_book 9 6 [.ref 0, .int (-1)] S (-13) S := by
  have h := kk_book l hst S N hN hN8 (-1)
  have e : uG_book S (-1) = (.inr xENs, S) := by
    unfold uG_book
    rw [if_neg (fun q => absurd q.1 (by decide))]
  rw [e] at h
  exact h
