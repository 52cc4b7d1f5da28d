
/-! the law from its entry -/
def uAd9 (B b fm t1 t2 : Nat) (str adV : Nat → Nat) : Nat → Nat := fun k => if k < 112 then B + k else if k = 299 then fm else if k = 300 then b else if k = 260 then t1 else if k = 261 then t2 else if k < 230 then str (k - 200) else adV (k - 230)
theorem uArr {s : State} {args : Array Value} {ty : FieldType} (h : (Cond.arrayClass ty).before args s = true) : ∃ cA, ArrOfT s cA ty ∧ s.vm.findClass ("[" ++ ty.toString) = some cA := by
  obtain ⟨c, k, comp, h1, h2, h3⟩ := Cond.arrayClass_spec h
  exact ⟨c, fun N z => ⟨fun k h => (by cases h), k, h2, comp, h3⟩, h1⟩
theorem uArrO {s : State} {args : Array Value} {C : String} (h : (Cond.arrayOver (.object C)).before args s = true) : ∃ cA, ArrOfT s cA (.object C) ∧ va_RA s cA (.object C) := by
  obtain ⟨comp, c, k, h1, -, h2, h3, h4⟩ := Cond.arrayOver_spec h
  exact ⟨c, fun N z => ⟨fun k h => (by cases h), k, h2, comp, h3⟩, k, comp, h2, h3, h1, h4⟩
def uAts : List Cond := flatC (Jvm.Cond.and given_1 narrow_1)
def uTm (i : Nat) : Term := .string (q_strs.getD i ("", 0, "")).1 (q_strs.getD i ("", 0, "")).2.1
def uBq : List Nat := [584, 450, 455, 469, 473, 478, 483, 521, 526, 531, 542, 548, 554, 320, 421, 353, 404, 492, 563, 599, 624, 647, 384, 683, 291, 302, 337, 462]
theorem uTm_ex : ∀ i, i < 28 → Cond.exactly (uTm i) "java/lang/String" ∈ uAts := by
  have key : ∀ i, i < 28 → uAts[uBq.getD i 0]? = some (Cond.exactly (uTm i) "java/lang/String") := by decide +kernel
  exact fun i hi => List.mem_of_getElem? (key i hi)
theorem uTm_co : ∀ i, i < 13 → Cond.eq (.field (uTm i) "java/lang/String" "coder" "B") (.int 0) ∈ uAts := by
  have key : ∀ i, i < 13 → uAts[uBq.getD i 0 + 1]? = some (Cond.eq (.field (uTm i) "java/lang/String" "coder" "B") (.int 0)) := by decide +kernel
  exact fun i hi => List.mem_of_getElem? (key i hi)
theorem uTm_ar : ∀ i, i < 13 → Cond.arrayOf (.field (uTm i) "java/lang/String" "value" "[B") .byte ∈ uAts := by
  have key : ∀ i, i < 13 → uAts[uBq.getD i 0 + 2]? = some (Cond.arrayOf (.field (uTm i) "java/lang/String" "value" "[B") .byte) := by decide +kernel
  exact fun i hi => List.mem_of_getElem? (key i hi)
theorem uTm_le : ∀ i, i < 13 → Cond.eq (.length (.field (uTm i) "java/lang/String" "value" "[B")) (.int (Int32.ofNat (q_len.getD i 0))) ∈ uAts := by
  have key : ∀ i, i < 13 → uAts[uBq.getD i 0 + 3]? = some (Cond.eq (.length (.field (uTm i) "java/lang/String" "value" "[B")) (.int (Int32.ofNat (q_len.getD i 0)))) := by decide +kernel
  exact fun i hi => List.mem_of_getElem? (key i hi)
theorem uTm_el : ∀ i, i < 13 → ∀ j, j < q_len.getD i 0 → Cond.eq (.elem (.field (uTm i) "java/lang/String" "value" "[B") (.int (Int32.ofNat j))) (.int ((q_byt.getD i []).getD j 0)) ∈ uAts := by
  have key : ∀ i, i < 13 → ∀ j, j < q_len.getD i 0 → uAts[uBq.getD i 0 + 4 + j]? = some (Cond.eq (.elem (.field (uTm i) "java/lang/String" "value" "[B") (.int (Int32.ofNat j))) (.int ((q_byt.getD i []).getD j 0))) := by decide +kernel
  exact fun i hi j hj => List.mem_of_getElem? (key i hi j hj)
theorem uTm_nc : ∀ q ∈ q_ncs, Cond.not (Cond.castable q.1 q.2) ∈ uAts := by decide +kernel
theorem uTm_sr : ∀ q ∈ q_strs, Cond.stringRef q.1 q.2.1 q.2.2 ∈ lw_tbl := by decide +kernel
theorem uTm_U : Cond.isRef (.static Bundle.tN "UNASSIGNED_STACK" Bundle.steD) ∈ uAts := by decide +kernel
theorem uTm_N : Cond.isRef (.static Bundle.tN "SUPPRESSED_SENTINEL" Bundle.listD) ∈ uAts := by decide +kernel
theorem uTm_C : Cond.eq (.static "java/lang/String" "COMPACT_STRINGS" "Z") (.int 1) ∈ uAts := by decide +kernel
theorem uTm_F : Cond.isRef (.static "jdk/internal/util/Preconditions" "SIOOBE_FORMATTER" "Ljava/util/function/BiFunction;") ∈ uAts := by decide +kernel
abbrev uDg (nm : String) : Term := .static "java/lang/Integer" nm "[B"
theorem uTm_d1 : Cond.arrayOf (uDg "DigitOnes") .byte ∈ uAts := by decide +kernel
theorem uTm_d2 : Cond.arrayOf (uDg "DigitTens") .byte ∈ uAts := by decide +kernel
theorem uTm_l1 : Cond.eq (.length (uDg "DigitOnes")) (.int 100) ∈ uAts := by decide +kernel
theorem uTm_l2 : Cond.eq (.length (uDg "DigitTens")) (.int 100) ∈ uAts := by decide +kernel
theorem uTm_e1 : ∀ j, j < 100 → Cond.eq (.elem (uDg "DigitOnes") (.int (Int32.ofNat j))) (.int (q_ones j)) ∈ uAts := by
  have key : ∀ j, j < 100 → uAts[14 + j]? = some (Cond.eq (.elem (uDg "DigitOnes") (.int (Int32.ofNat j))) (.int (q_ones j))) := by decide +kernel
  exact fun j hj => List.mem_of_getElem? (key j hj)
theorem uTm_e2 : ∀ j, j < 100 → Cond.eq (.elem (uDg "DigitTens") (.int (Int32.ofNat j))) (.int (q_tens j)) ∈ uAts := by
  have key : ∀ j, j < 100 → uAts[117 + j]? = some (Cond.eq (.elem (uDg "DigitTens") (.int (Int32.ofNat j))) (.int (q_tens j))) := by decide +kernel
  exact fun j hj => List.mem_of_getElem? (key j hj)
theorem uTb_U : Cond.laysStatic Bundle.tN "UNASSIGNED_STACK" Bundle.steD ∈ lw_tbl := by decide +kernel
theorem uTb_N : Cond.laysStatic Bundle.tN "SUPPRESSED_SENTINEL" Bundle.listD ∈ lw_tbl := by decide +kernel
theorem uTb_C : Cond.laysStatic "java/lang/String" "COMPACT_STRINGS" "Z" ∈ lw_tbl := by decide +kernel
theorem uTb_F : Cond.laysStatic "jdk/internal/util/Preconditions" "SIOOBE_FORMATTER" "Ljava/util/function/BiFunction;" ∈ lw_tbl := by decide +kernel
theorem uTb_d1 : Cond.laysStatic "java/lang/Integer" "DigitOnes" "[B" ∈ lw_tbl := by decide +kernel
theorem uTb_d2 : Cond.laysStatic "java/lang/Integer" "DigitTens" "[B" ∈ lw_tbl := by decide +kernel
theorem uTb_Ii : Cond.initialized "java/lang/Integer" ∈ lw_tbl := by decide +kernel
theorem uTb_Ti : Cond.initialized Bundle.tN ∈ lw_tbl := by decide +kernel
theorem uTb_Si : Cond.initialized "java/lang/String" ∈ lw_tbl := by decide +kernel
theorem uTb_Fi : Cond.initialized "jdk/internal/util/Preconditions" ∈ lw_tbl := by decide +kernel
theorem uTb_O : Cond.arrayOver (.object "GuildSeals$Council") ∈ lw_tbl := by decide +kernel
theorem uTb_SB : Cond.instantiable RSB 4 ∈ lw_tbl := by decide +kernel
def uPr (y : MethodName) : Prop := (y.cls ≠ "java/lang/invoke/MethodHandle" ∧ y.cls ≠ "java/lang/invoke/VarHandle") ∧ Cond.privateMethod y ∈ lw_tbl ∧ Cond.instanceMethod y ∈ lw_tbl ∧ Cond.sameMethod y.cls y.cls y.name y.desc ∈ lw_tbl
theorem uP1 : uPr yJ5_ensureCapacityInternal_d00df := ⟨by decide +kernel, by decide +kernel, by decide +kernel, by decide +kernel⟩
theorem uP2 : uPr yJ5_newCapacity_0f7a4 := ⟨by decide +kernel, by decide +kernel, by decide +kernel, by decide +kernel⟩
theorem uP3 : uPr yJ5_putStringAt_47b60 := ⟨by decide +kernel, by decide +kernel, by decide +kernel, by decide +kernel⟩
theorem uP4 : uPr yJ5_inflateIfNeededFor_a7421 := ⟨by decide +kernel, by decide +kernel, by decide +kernel, by decide +kernel⟩
theorem uSel {args : Array Value} {s : State} (hts : ∀ w ∈ lw_tbl, w.before args s = true) {y : MethodName} (h : uPr y) : (Cond.selects RSB y y).before args s = true := j_selP h.1 (hts _ uTb_SB) (hts _ h.2.1) (hts _ h.2.2.1) (hts _ h.2.2.2)
theorem uWS {args : Array Value} {s : State} (hts : ∀ w ∈ lw_tbl, w.before args s = true) : ∀ w ∈ q_WS, w.before args s = true := fun w h => by
  rcases List.mem_append.mp (q_WS_tbl w h) with h1 | h1
  · unfold q_SL at h1
    simp only [List.mem_cons, List.not_mem_nil, or_false] at h1
    rcases h1 with rfl | rfl | rfl | rfl
    · exact uSel hts uP1
    · exact uSel hts uP2
    · exact uSel hts uP3
    · exact uSel hts uP4
  · exact hts w h1
/-- how long an array is that a word says -/
theorem uLen {args : Array Value} {first s : State} {o : Option Outcome} {idx : List Nat} {t : Term} {N : Nat} (hN : N < 2 ^ 31) (h : (Term.length t).eval args first o idx s = some (.int (Int32.ofNat N))) : ∃ a cell, t.eval args first o idx s = some (.ref a) ∧ s.heap[a]? = some cell ∧ cell.slots.size = N := by
  obtain ⟨a, cell, h1, h2, h3⟩ := Term.length_spec h
  refine ⟨a, cell, h1, (State.arrayAt?_spec h2).1, ?_⟩
  have hsm : cell.slots.size < 2147483648 := by
    simp only [Term.eval, Option.bind_eq_bind] at h
    rw [h1] at h
    simp only [h2, Option.bind_some] at h
    by_cases hn : cell.slots.size < 2147483648
    · exact hn
    · simp [hn] at h
  have e := (Value.int.inj h3)
  have e2 : Int32.ofNat N = Int32.ofNat cell.slots.size := e
  have e3 := congrArg Int32.toNatClampNeg e2
  rw [Int32.toNatClampNeg_ofNat_of_lt hN, Int32.toNatClampNeg_ofNat_of_lt hsm] at e3
  exact e3.symm
theorem uDif : ∀ i, i < 13 → ∀ j, j < 13 → i ≠ j → q_len.getD i 0 ≠ q_len.getD j 0 ∨ ∃ k, k < q_len.getD i 0 ∧ (q_byt.getD i []).getD k 0 ≠ (q_byt.getD j []).getD k 0 := by
  have key : ∀ i, i < 13 → ∀ j, j < 13 → i ≠ j → q_len.getD i 0 ≠ q_len.getD j 0 ∨ ∃ k : Fin 11, k.val < q_len.getD i 0 ∧ (q_byt.getD i []).getD k.val 0 ≠ (q_byt.getD j []).getD k.val 0 := by decide +kernel
  intro i hi j hj hij
  rcases key i hi j hj hij with h | ⟨k, h1, h2⟩
  · exact Or.inl h
  · exact Or.inr ⟨k.val, h1, h2⟩
theorem uLs : ∀ i, i < 13 → q_len.getD i 0 < 2 ^ 31 := by
  have key : ∀ i, i < 13 → q_len.getD i 0 < 100 := by decide +kernel
  exact fun i hi => Nat.lt_trans (key i hi) (by decide)
/-- the constant Strings of the entry -/
theorem uStrs {args : Array Value} {s : State} {A : Nat → Prop} (hat : ∀ w ∈ uAts, w.before args s = true) (hA : ∀ a : Nat, a < s.heap.size → ¬ A a) : ∃ adK adV : Nat → Nat, vk_S 13 q_len q_byt adK adV A s s.heap ∧ (∀ i : Nat, i < 13 → (uTm i).eval args s none [] s = some (.ref (adK i))) ∧ ∀ i, i < 13 → q_sz (adV i) (q_len.getD i 0) A s.heap := by
  have h0 : ∀ i : Nat, ∃ q : Nat × Nat, i < 13 → (uTm i).eval args s none [] s = some (.ref q.1) ∧ (va_O "java/lang/String" q.1 A s s.heap ∧ va_OF "java/lang/String" "coder" "B" (.int 0) q.1 A s s.heap ∧ va_OF "java/lang/String" "value" "[B" (.ref q.2) q.1 A s s.heap ∧ va_T .byte q.2 (q_len.getD i 0) (fun j => .int ((q_byt.getD i []).getD j 0)) A s s.heap) ∧ q_sz q.2 (q_len.getD i 0) A s.heap := by
    intro i
    by_cases hi : i < 13
    · obtain ⟨a, c, cA, kA, q1, q2, q3, q4, q5, q6, -⟩ := Cond.exactly_spec (args := args) (first := s) (o := none) (s := s) (idx := []) (t := uTm i) (cls := "java/lang/String") (hat _ (uTm_ex i (by omega)))
      obtain ⟨t, ht, hT⟩ := va_Tof (f := fun j => .int ((q_byt.getD i []).getD j 0)) (A := A) (uLs i hi) (hat _ (uTm_ar i hi)) (va_eqt (hat _ (uTm_le i hi))) (fun j hj => va_eqt (hat _ (uTm_el i hi j hj))) hA
      obtain ⟨t2, cell, l1, l2, l3⟩ := uLen (uLs i hi) (va_eqt (hat _ (uTm_le i hi)))
      cases ht.symm.trans l1
      exact ⟨(a, t), fun _ => ⟨q1, ⟨⟨cA, q3, q5, by rw [q6]; exact q2, hA a (Array.getElem?_eq_some_iff.mp q3).1⟩, vk_OFof q1 (va_eqt (hat _ (uTm_co i hi))) hA, vk_OFof q1 ht hA, hT⟩, ⟨⟨cell, l2, l3⟩, hA t (Array.getElem?_eq_some_iff.mp l2).1⟩⟩⟩
    · exact ⟨(0, 0), fun h => absurd h hi⟩
  obtain ⟨q, hq⟩ := Classical.axiomOfChoice h0
  refine ⟨fun i => (q i).1, fun i => (q i).2, ⟨fun i hi => (hq i hi).2.1, fun i j hi hj he => ?_⟩, fun i hi => (hq i hi).1, fun i hi => (hq i hi).2.2⟩
  refine Decidable.byContradiction (fun hij => ?_)
  obtain ⟨-, ⟨-, -, ⟨cf, k, ii, f, cell, a1, a2, a3, a4, a5, a6⟩, cl, b1, b2, b3, b4, b5, b6, b7⟩, -⟩ := hq i hi
  obtain ⟨-, ⟨-, -, ⟨cf', k', ii', f', cell', a1', a2', a3', a4', a5', a6'⟩, cl', b1', b2', b3', b4', b5', b6', b7'⟩, -⟩ := hq j hj
  have he' : (q i).1 = (q j).1 := he
  rw [← he'] at a3'
  cases a3.symm.trans a3'
  cases a1.symm.trans a1'
  have e2 : (q i).2 = (q j).2 := Value.ref.inj (Option.some.inj (a5.symm.trans a5'))
  rw [← e2] at b1'
  cases b1.symm.trans b1'
  have e3 : q_len.getD i 0 = q_len.getD j 0 := by
    have e4 := congrArg Int32.toNatClampNeg (b5.symm.trans b5')
    rw [Int32.toNatClampNeg_ofNat_of_lt (uLs i hi), Int32.toNatClampNeg_ofNat_of_lt (uLs j hj)] at e4
    exact e4
  rcases uDif i hi j hj hij with h | ⟨kk, h1, h2⟩
  · exact h e3
  · exact h2 (Value.int.inj (Option.some.inj ((b6 kk h1).symm.trans (b6' kk (by rw [← e3]; exact h1)))))
/-- the tables of Integer -/
theorem uTab {args : Array Value} {s : State} {A : Nat → Prop} {nm : String} {f : Nat → Int32} (hA : ∀ a : Nat, a < s.heap.size → ¬ A a) (h1 : (Cond.arrayOf (uDg nm) .byte).before args s = true) (h2 : (Cond.eq (.length (uDg nm)) (.int 100)).before args s = true) (h3 : ∀ j, j < 100 → (Cond.eq (.elem (uDg nm) (.int (Int32.ofNat j))) (.int (f j))).before args s = true) (h4 : (Cond.laysStatic "java/lang/Integer" nm "[B").before args s = true) (h5 : (Cond.initialized "java/lang/Integer").before args s = true) : ∃ t, q_tb nm t f A s s.heap := by
  have hl : (Term.length (uDg nm)).eval args s none [] s = some (.int (Int32.ofNat 100)) := va_eqt h2
  obtain ⟨t, ht, hT⟩ := va_Tof (tm := uDg nm) (ty := .byte) (N := 100) (f := fun j => .int (f j)) (A := A) (by decide) h1 hl (fun j hj => va_eqt (h3 j hj)) hA
  obtain ⟨t2, cell, l1, l2, l3⟩ := uLen (N := 100) (by decide) hl
  cases ht.symm.trans l1
  exact ⟨t, va_Zof h4 h5 ht hA, hT, ⟨cell, l2, l3⟩, hA t (Array.getElem?_eq_some_iff.mp l2).1⟩
set_option maxHeartbeats 4000000 in
/-- what the machine gives at the entry -/
theorem uEntry {p : Program} {s : State} {m : MethodId} {meth : Method} {c : Code} {b L : Nat} {xs : Nat → Int32} (C0 : lw_At p s m meth c b L xs) : ∃ (D : va_G) (cy : Nat → ClassId) (fm t1 t2 : Nat) (str adV : Nat → Nat), va_K D q_cl (q_tys cy) s ∧ va_AO "GuildSeals$Council" s ∧ q_EX s ∧ q_E (uAd9 s.heap.size b fm t1 t2 str adV) ((fun _ => 0, []) : q_L) (fun q : Nat => s.heap.size ≤ q) s s.heap := by
  obtain ⟨hx, hb, hr, hml, hown, hts, hX, hbl, hlocks, hgv⟩ := C0
  have hat : ∀ w ∈ uAts, w.before #[Value.ref b] s = true := flat_of_before _ hgv
  have hA : ∀ a : Nat, a < s.heap.size → ¬ (fun q : Nat => s.heap.size ≤ q) a := fun a h => Nat.not_le.mpr h
  have htw : ∀ w ∈ q_WS, w.before #[Value.ref b] s = true := uWS hts
  obtain ⟨c0, i0, hK0⟩ := u_known (C := RX0) (T := TX0) (N := 2) (n := 2) htw cl_X0 (htw _ wB_nX0)
  obtain ⟨c1, i1, hK1⟩ := u_known (C := RX1) (T := TX1) (N := 14) (n := 14) htw cl_X1 (htw _ wB_nX1)
  obtain ⟨c2, i2, hK2⟩ := u_known (C := RX2) (T := TX2) (N := 3) (n := 3) htw cl_X2 (htw _ wB_nX2)
  obtain ⟨c3, i3, hK3⟩ := u_known (C := RX3) (T := TX3) (N := 2) (n := 2) htw cl_X3 (htw _ wB_nX3)
  obtain ⟨c4, i4, hK4⟩ := u_known (C := RX4) (T := TX4) (N := 10) (n := 10) htw cl_X4 (htw _ wB_nX4)
  obtain ⟨c5, i5, hK5⟩ := u_known (C := RX5) (T := TX5) (N := 3) (n := 3) htw cl_X5 (htw _ wB_nX5)
  obtain ⟨c6, i6, hK6⟩ := u_known (C := RX6) (T := TX6) (N := 9) (n := 9) htw cl_X6 (htw _ wB_nX6)
  obtain ⟨c7, i7, hK7⟩ := u_known (C := RSB) (T := TSB) (N := 4) (n := 4) htw cl_SB (htw _ wB_nSB)
  obtain ⟨c8, i8, hK8⟩ := u_known (C := RST) (T := TST) (N := 4) (n := 4) htw cl_ST (htw _ wB_nST)
  obtain ⟨dC, dI, hKc⟩ : ∃ (dC : Nat → ClassId) (dI : Nat → Nat → Nat), ∀ (k : Nat) (q : vw_C), q_cl[k]? = some q → u_Kn s q.1 q.2.1 q.2.2 (dC k) (dI k) := by
    refine ⟨fun k => [c0, c1, c2, c3, c4, c5, c6, c7, c8].getD k c0, fun k => [i0, i1, i2, i3, i4, i5, i6, i7, i8].getD k i0, ?_⟩
    intro k q hq
    match k, hq with
    | 0, hq => cases hq; exact hK0
    | 1, hq => cases hq; exact hK1
    | 2, hq => cases hq; exact hK2
    | 3, hq => cases hq; exact hK3
    | 4, hq => cases hq; exact hK4
    | 5, hq => cases hq; exact hK5
    | 6, hq => cases hq; exact hK6
    | 7, hq => cases hq; exact hK7
    | 8, hq => cases hq; exact hK8
    | k + 9, hq => simp [q_cl] at hq
  obtain ⟨a0, a01, a02⟩ := uArr (htw _ wB_int)
  obtain ⟨a1, a11, a12⟩ := uArr (htw _ wB_boolean)
  obtain ⟨a2, a21, a22⟩ := uArr (htw _ wB_char)
  obtain ⟨a3, a31, a32⟩ := uArrO (hts _ uTb_O)
  obtain ⟨a4, a41, a42⟩ := uArr (htw _ wB_long)
  obtain ⟨a5, a51, a52⟩ := uArr (htw _ wB_byte)
  obtain ⟨cy, hcy⟩ : ∃ cy : Nat → ClassId, cy = fun k => [a0, a1, a2, a3, a4, a5].getD k a0 := ⟨_, rfl⟩
  have hK : va_K (dC, dI) q_cl (q_tys cy) s := by
    refine ⟨hKc, fun k q hq => ?_⟩
    subst hcy
    match k, hq with
    | 0, hq => cases hq; exact ⟨a01, a02⟩
    | 1, hq => cases hq; exact ⟨a11, a12⟩
    | 2, hq => cases hq; exact ⟨a21, a22⟩
    | 3, hq => cases hq; exact ⟨a31, a32⟩
    | 4, hq => cases hq; exact ⟨a41, a42⟩
    | 5, hq => cases hq; exact ⟨a51, a52⟩
    | k + 6, hq => simp [q_tys] at hq
  obtain ⟨adK, adV, hS3, hS3e, hSz⟩ := uStrs (A := fun q : Nat => s.heap.size ≤ q) hat hA
  obtain ⟨t1, ht1⟩ := uTab (f := q_ones) hA (hat _ uTm_d1) (hat _ uTm_l1) (fun j hj => hat _ (uTm_e1 j hj)) (hts _ uTb_d1) (hts _ uTb_Ii)
  obtain ⟨t2, ht2⟩ := uTab (f := q_tens) hA (hat _ uTm_d2) (hat _ uTm_l2) (fun j hj => hat _ (uTm_e2 j hj)) (hts _ uTb_d2) (hts _ uTb_Ii)
  have h0 : ∀ i : Nat, ∃ a : Nat, i < 28 → (uTm i).eval #[Value.ref b] s none [] s = some (.ref a) := by
    intro i
    by_cases hi : i < 28
    · obtain ⟨a, _, _, _, q1, _⟩ := Cond.exactly_spec (args := #[Value.ref b]) (first := s) (o := none) (s := s) (idx := []) (t := uTm i) (cls := "java/lang/String") (hat _ (uTm_ex i hi))
      exact ⟨a, fun _ => q1⟩
    · exact ⟨0, fun h => absurd h hi⟩
  obtain ⟨str, hstr⟩ := Classical.axiomOfChoice h0
  have hstr3 : ∀ i, i < 13 → str i = adK i := fun i hi => by
    have h1 := hstr i (by omega)
    rw [hS3e i hi] at h1
    exact (Value.ref.inj (Option.some.inj h1)).symm
  obtain ⟨fm, hfm⟩ : ∃ fm : Nat, va_Z "jdk/internal/util/Preconditions" "SIOOBE_FORMATTER" "Ljava/util/function/BiFunction;" .null (fun q : Nat => s.heap.size ≤ q) s s.heap ∨ va_Z "jdk/internal/util/Preconditions" "SIOOBE_FORMATTER" "Ljava/util/function/BiFunction;" (.ref fm) (fun q : Nat => s.heap.size ≤ q) s s.heap := by
    obtain ⟨v, hv, hv2⟩ := Cond.isRef_spec (hat _ uTm_F)
    have hz := va_Zof (A := fun q : Nat => s.heap.size ≤ q) (hts _ uTb_F) (hts _ uTb_Fi) hv hA
    cases v with
    | null => exact ⟨0, Or.inl hz⟩
    | ref a => exact ⟨a, Or.inr hz⟩
    | _ => cases hv2
  have eK : ∀ i, i < 28 → uAd9 s.heap.size b fm t1 t2 str adV (200 + i) = str i := fun i hi => by
    unfold uAd9
    rw [if_neg (show ¬ 200 + i < 112 by omega), if_neg (show ¬ 200 + i = 299 by omega), if_neg (show ¬ 200 + i = 300 by omega), if_neg (show ¬ 200 + i = 260 by omega), if_neg (show ¬ 200 + i = 261 by omega), if_pos (show 200 + i < 230 by omega), show 200 + i - 200 = i by omega]
  have eV : ∀ i, i < 13 → uAd9 s.heap.size b fm t1 t2 str adV (230 + i) = adV i := fun i hi => by
    unfold uAd9
    rw [if_neg (show ¬ 230 + i < 112 by omega), if_neg (show ¬ 230 + i = 299 by omega), if_neg (show ¬ 230 + i = 300 by omega), if_neg (show ¬ 230 + i = 260 by omega), if_neg (show ¬ 230 + i = 261 by omega), if_neg (show ¬ 230 + i < 230 by omega), show 230 + i - 230 = i by omega]
  refine ⟨(dC, dI), cy, fm, t1, t2, str, adV, hK, va_AO.of (hts _ uTb_O), ?_, ?_, ?_, ?_, ?_, ?_, ?_, ?_, ?_, ?_, ?_, ?_⟩
  · intro w hw
    have hp := (List.mem_filter.mp hw).2
    have h1 := hts w (List.mem_filter.mp hw).1
    cases w <;> first | exact va_tabs rfl rfl h1 | exact absurd hp Bool.false_ne_true
  · refine ⟨fun i hi => ?_, fun i j hi hj he => hS3.2 i j hi hj ?_⟩
    · dsimp only
      rw [eK i (by omega), eV i hi, hstr3 i hi]
      exact hS3.1 i hi
    · have he' : uAd9 s.heap.size b fm t1 t2 str adV (200 + i) = uAd9 s.heap.size b fm t1 t2 str adV (200 + j) := he
      rw [eK i (by omega), eK j (by omega), hstr3 i hi, hstr3 j hj] at he'
      exact he'
  · intro i q hq
    have hi : i < 28 := (List.getElem?_eq_some_iff.mp hq).1
    rw [eK i hi]
    have h2 := hstr i hi
    have e2 : uTm i = .string q.1 q.2.1 := by
      unfold uTm
      rw [List.getD_eq_getElem?_getD, hq]
      rfl
    rw [e2] at h2
    exact vk_R.of (hts _ (uTm_sr q (List.mem_of_getElem? hq))) h2
  · exact va_Zof (hts _ uTb_C) (hts _ uTb_Si) (va_eqt (hat _ uTm_C)) hA
  · exact hfm
  · exact vx_Zqof (hts _ uTb_U) (hts _ uTb_Ti) (hat _ uTm_U) hA
  · exact vx_Zqof (hts _ uTb_N) (hts _ uTb_Ti) (hat _ uTm_N) hA
  · exact fun q hq => va_Nc.of (hat _ (uTm_nc q hq))
  · intro i hi
    rw [eV i hi]
    exact hSz i hi
  · exact ht1
  · exact ht2
  · exact fun h => absurd rfl h

