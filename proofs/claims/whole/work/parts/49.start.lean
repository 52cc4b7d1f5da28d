
/-! the law from its entry -/
def uS0r (k : Nat) : Nat := if 1 ≤ k ∧ k < 28 then (k - 1) % 9 else if 30 ≤ k ∧ k < 102 then (k - 30) % 9 else 100
def uS0 : q_St := fun k => if uS0r k = 0 then (fun j => if j = 5 then 1 else 0) else if uS0r k = 6 then q_cn 6 20 else if uS0r k = 8 then q_cn 6 1 else if k = 103 then (fun j => if j = 4 then -1 else 0) else if k = 112 then (fun j => if j = 16 then -1 else 0) else if k = 113 then q_c6 6 else fun _ => 0
def uAd (B b fm : Nat) (str adV : Nat → Nat) : Nat → Nat := fun k => if k < 122 then B + k else if k = 299 then fm else if k = 300 then b else if k < 230 then str (k - 200) else adV (k - 230)
def uW0 (cy : Nat → ClassId) (B : Nat) : va_W := q_kG cy B (B + 1) ++ q_kM cy (B + 112) (B + 113) ++ [(B + 120, .inl (cy 4, 1, .inr (.inl (fun _ => 0))))] ++ [(B + 121, .inl (cy 5, 1, .inr (.inr (.inr (.inl (fun _ => 0))))))]
theorem q_P_rf {D : va_G} {ws : va_W} {H : Heap} {k a n : Nat} {cA : ClassId} {f g : Nat → Option Nat} (hP : va_P D q_cl ws H) (hk : ws[k]? = some (a, .inl (cA, n, .inr (.inr (.inr (.inr f)))))) (hfg : ∀ j, j < n → f j = g j) : va_P D q_cl (ws.set k (a, .inl (cA, n, .inr (.inr (.inr (.inr g)))))) H := by
  intro i q hq
  by_cases hik : i = k
  · subst hik
    rw [List.getElem?_set_self (List.getElem?_eq_some_iff.mp hk).1] at hq
    cases hq
    have h1 := hP i _ hk
    show H[a]? = some (vp_cell cA (n, .inr (.inr (.inr (.inr g)))))
    rw [show H[a]? = some (vp_cell cA (n, .inr (.inr (.inr (.inr f))))) from h1, vp_cell_q, vp_cell_q]
    congr 1
    unfold arrV
    congr 1
    apply Array.ext (by simp)
    intro j h1 h2
    simp only [Array.getElem_ofFn]
    rw [hfg j (by simpa using h1)]
  · rw [List.getElem?_set_ne (Ne.symm hik)] at hq
    exact hP i q hq
set_option maxRecDepth 100000 in
set_option maxHeartbeats 4000000 in
theorem uW0_eq (cy : Nat → ClassId) (B b fm : Nat) (str adV : Nat → Nat) : (uW0 cy B).set 29 (B + 29, .inl (cy 3, 8, .inr (.inr (.inr (.inr (fun j => some (uAd B b fm str adV (30 + 9 * j)))))))) = q_wl cy (uAd B b fm str adV) (fun _ => 0, fun _ => 0) uS0 := rfl
theorem uW0_29 (cy : Nat → ClassId) (B : Nat) : (uW0 cy B)[29]? = some (B + 29, .inl (cy 3, 8, .inr (.inr (.inr (.inr (q_rf 8 (B + 30))))))) := rfl
theorem uArr {s : State} {args : Array Value} {ty : FieldType} (h : (Cond.arrayClass ty).before args s = true) : ∃ cA, ArrOfT s cA ty ∧ s.vm.findClass ("[" ++ ty.toString) = some cA := by
  obtain ⟨c, k, comp, h1, h2, h3⟩ := Cond.arrayClass_spec h
  exact ⟨c, fun N z => ⟨fun k h => (by cases h), k, h2, comp, h3⟩, h1⟩
theorem uArrO {s : State} {args : Array Value} {C : String} (h : (Cond.arrayOver (.object C)).before args s = true) : ∃ cA, ArrOfT s cA (.object C) ∧ va_RA s cA (.object C) := by
  obtain ⟨comp, c, k, h1, -, h2, h3, h4⟩ := Cond.arrayOver_spec h
  exact ⟨c, fun N z => ⟨fun k h => (by cases h), k, h2, comp, h3⟩, k, comp, h2, h3, h1, h4⟩
def uAts : List Cond := flatC (Jvm.Cond.and given_1 narrow_1)
def uTm (i : Nat) : Term := .string (q_strs.getD i ("", 0, "")).1 (q_strs.getD i ("", 0, "")).2.1
theorem uTm_ex : ∀ i, i < 19 → Cond.exactly (uTm i) "java/lang/String" ∈ uAts := by decide +kernel
theorem uTm_co : ∀ i, i < 3 → Cond.eq (.field (uTm i) "java/lang/String" "coder" "B") (.int 0) ∈ uAts := by decide +kernel
theorem uTm_ar : ∀ i, i < 3 → Cond.arrayOf (.field (uTm i) "java/lang/String" "value" "[B") .byte ∈ uAts := by decide +kernel
theorem uTm_le : ∀ i, i < 3 → Cond.eq (.length (.field (uTm i) "java/lang/String" "value" "[B")) (.int (Int32.ofNat ([11, 3, 5].getD i 0))) ∈ uAts := by decide +kernel
theorem uTm_el : ∀ i, i < 3 → ∀ j, j < [11, 3, 5].getD i 0 → Cond.eq (.elem (.field (uTm i) "java/lang/String" "value" "[B") (.int (Int32.ofNat j))) (.int ((q_byt.getD i []).getD j 0)) ∈ uAts := by decide +kernel
theorem uTm_ne : ∀ i, i < 3 → ∀ j, j < 3 → i ≠ j → Cond.not (Cond.eq (uTm i) (uTm j)) ∈ uAts ∨ Cond.not (Cond.eq (uTm j) (uTm i)) ∈ uAts := by decide +kernel
theorem uTm_nc : ∀ q ∈ q_ncs, Cond.not (Cond.castable q.1 q.2) ∈ uAts := by decide +kernel
theorem uTm_sr : ∀ q ∈ q_strs, Cond.stringRef q.1 q.2.1 q.2.2 ∈ lw_tbl := by decide +kernel
theorem uTm_U : Cond.isRef (.static Bundle.tN "UNASSIGNED_STACK" Bundle.steD) ∈ uAts := by decide +kernel
theorem uTm_N : Cond.isRef (.static Bundle.tN "SUPPRESSED_SENTINEL" Bundle.listD) ∈ uAts := by decide +kernel
theorem uTm_C : Cond.eq (.static "java/lang/String" "COMPACT_STRINGS" "Z") (.int 1) ∈ uAts := by decide +kernel
theorem uTm_F : Cond.isRef (.static "jdk/internal/util/Preconditions" "SIOOBE_FORMATTER" "Ljava/util/function/BiFunction;") ∈ uAts := by decide +kernel
theorem uTb_U : Cond.laysStatic Bundle.tN "UNASSIGNED_STACK" Bundle.steD ∈ lw_tbl := by decide +kernel
theorem uTb_N : Cond.laysStatic Bundle.tN "SUPPRESSED_SENTINEL" Bundle.listD ∈ lw_tbl := by decide +kernel
theorem uTb_C : Cond.laysStatic "java/lang/String" "COMPACT_STRINGS" "Z" ∈ lw_tbl := by decide +kernel
theorem uTb_F : Cond.laysStatic "jdk/internal/util/Preconditions" "SIOOBE_FORMATTER" "Ljava/util/function/BiFunction;" ∈ lw_tbl := by decide +kernel
theorem uTb_Ti : Cond.initialized Bundle.tN ∈ lw_tbl := by decide +kernel
theorem uTb_Si : Cond.initialized "java/lang/String" ∈ lw_tbl := by decide +kernel
theorem uTb_Fi : Cond.initialized "jdk/internal/util/Preconditions" ∈ lw_tbl := by decide +kernel
theorem uTb_O : Cond.arrayOver (.object "GuildSeals$Council") ∈ lw_tbl := by decide +kernel
