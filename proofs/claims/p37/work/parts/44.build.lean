
/-! constructors -/
abbrev q_BK : Type := Program × Env × Room × State × MethodId × Array Value × List Frame × Method × Code × (State → Prop) × (Nat → Prop) × Nat
def q_B (l : Launch) (D : va_G) (K : q_BK) (pc : Nat) (lv : List (Nat × Value)) (st : List Value) (ws : va_W) (n mc ms : Nat) : Prop := match K with
  | (p, e, R, s, m, args, below, meth, c, Q, A, nL) => ∀ (H : Heap) (locs : List Loc) (ls : Array Slot), va_P D q_cl ws H → va_D A ws → va_S A s.heap H locs → H.size = n → lv_has ls nL lv → W p l e R s m args below meth c H locs mc ms Q (F0 m pc ls st)
def q_Bx (D : va_G) (cy : Nat → ClassId) (K : q_BK) (cc : ByteArray) (own : String) (dd n0 MC MS : Nat) : Prop := match K with
  | (p, e, R, s, m, args, below, meth, c, Q, A, nL) => p.tables.exec = Jvm.exec ∧ c.code = cc ∧ c.maxLocals = nL ∧ nL = n0 ∧ s.vm.findClass own = some m.cls ∧ (∀ w ∈ q_WS, w.before args s = true) ∧ va_K D q_cl (q_tys cy) s ∧ (∀ q, s.heap.size ≤ q → A q) ∧ dd ≤ R.frames ∧ 40 * dd ≤ R.locals ∧ MC ≤ R.cells ∧ MS ≤ R.slots ∧ va_AO "GuildSeals$Council" s
def q_Bi (K : q_BK) : Prop := match K with
  | (p, e, R, s, m, args, below, meth, c, Q, A, nL) => meth.name = "<init>"
theorem q_hasR {ls : Array Slot} {nL i : Nat} {lv : List (Nat × Value)} {v : Value} (hl : lv_has ls nL lv) (hk : q_lk i lv = some v) : ls[i]? = some (.val v) := hl.2.2 (i, v) (q_lk_mem hk)
theorem q_BS {A : Nat → Prop} {H0 H H1 : Heap} {locs : List Loc} (hS : va_S A H0 H locs) (z : H1.size = H.size + 1) (o1 : ∀ q : Nat, q < H.size → H1[q]? = H[q]?) : va_S A H0 H1 locs := ⟨Nat.le_trans hS.1 (by omega), fun x h1 h2 => (o1 x (Nat.lt_of_lt_of_le h1 hS.1)).trans (hS.2.1 x h1 h2), hS.2.2⟩
theorem q_Bkept {D : va_G} {ws : va_W} {H H1 : Heap} (hP : va_P D q_cl ws H) (o1 : ∀ q : Nat, q < H.size → H1[q]? = H[q]?) : va_P D q_cl ws H1 := hP.kept (fun k x hx => o1 x.1 (vx_lt hP hx))
theorem q_B1 {D : va_G} {x : Nat × va_E} {H : Heap} (h : va_at D q_cl x H) : va_P D q_cl [x] H := fun k q hk => by
  cases k with
  | zero =>
    have e : x = q := Option.some.inj hk
    rw [← e]
    exact h
  | succ k => cases hk
section QB
variable {l : Launch} {D : va_G} {cy : Nat → ClassId} {K : q_BK} {cc : ByteArray} {own : String} {dd n0 MC MS pc idx : Nat} {lv : List (Nat × Value)} {st : List Value} {ws : va_W} {n mc ms : Nat}
theorem q_Biconst (C : q_Bx D cy K cc own dd n0 MC MS) {k9 : Int} {v : Int32} (d : decode cc pc = .ok (.iconst k9, 1)) (hv : Int32.ofInt k9 = v) (k : q_B l D K (pc + 1) lv (.int v :: st) ws n mc ms) : q_B l D K pc lv st ws n mc ms := by
  obtain ⟨p, e, R, s, m, args, below, meth, c, Q, A, nL⟩ := K
  obtain ⟨hx, hb, hml, hnl, hown, hts, hK, hA, hf1, hf2, hc1, hc2, hAO⟩ := C
  intro H locs ls hP hD hS hn hl
  exact lv_iconst hx hb d hv (k H locs ls hP hD hS hn hl)
theorem q_Bbipush (C : q_Bx D cy K cc own dd n0 MC MS) {k9 : Int} {v : Int32} (d : decode cc pc = .ok (.bipush k9, 2)) (hv : (Int8.ofInt k9).toInt32 = v) (k : q_B l D K (pc + 2) lv (.int v :: st) ws n mc ms) : q_B l D K pc lv st ws n mc ms := by
  obtain ⟨p, e, R, s, m, args, below, meth, c, Q, A, nL⟩ := K
  obtain ⟨hx, hb, hml, hnl, hown, hts, hK, hA, hf1, hf2, hc1, hc2, hAO⟩ := C
  intro H locs ls hP hD hS hn hl
  exact lv_bipush hx hb d hv (k H locs ls hP hD hS hn hl)
theorem q_Bsipush (C : q_Bx D cy K cc own dd n0 MC MS) {k9 : Int} {v : Int32} (d : decode cc pc = .ok (.sipush k9, 3)) (hv : (Int16.ofInt k9).toInt32 = v) (k : q_B l D K (pc + 3) lv (.int v :: st) ws n mc ms) : q_B l D K pc lv st ws n mc ms := by
  obtain ⟨p, e, R, s, m, args, below, meth, c, Q, A, nL⟩ := K
  obtain ⟨hx, hb, hml, hnl, hown, hts, hK, hA, hf1, hf2, hc1, hc2, hAO⟩ := C
  intro H locs ls hP hD hS hn hl
  exact lv_sipush hx hb d hv (k H locs ls hP hD hS hn hl)
theorem q_Biload_n (C : q_Bx D cy K cc own dd n0 MC MS) {f : Fin 4} {i : Nat} {x : Int32} (d : decode cc pc = .ok (.iload_n f, 1)) (hi9 : (f : Nat) = i) (hk : q_lk i lv = some (.int x)) (k : q_B l D K (pc + 1) lv (.int x :: st) ws n mc ms) : q_B l D K pc lv st ws n mc ms := by
  obtain ⟨p, e, R, s, m, args, below, meth, c, Q, A, nL⟩ := K
  obtain ⟨hx, hb, hml, hnl, hown, hts, hK, hA, hf1, hf2, hc1, hc2, hAO⟩ := C
  intro H locs ls hP hD hS hn hl
  exact lv_iload_n hx hb d hi9 (q_hasR hl hk) (k H locs ls hP hD hS hn hl)
theorem q_Baload_n (C : q_Bx D cy K cc own dd n0 MC MS) {f : Fin 4} {i : Nat} {x : Nat} (d : decode cc pc = .ok (.aload_n f, 1)) (hi9 : (f : Nat) = i) (hk : q_lk i lv = some (.ref x)) (k : q_B l D K (pc + 1) lv (.ref x :: st) ws n mc ms) : q_B l D K pc lv st ws n mc ms := by
  obtain ⟨p, e, R, s, m, args, below, meth, c, Q, A, nL⟩ := K
  obtain ⟨hx, hb, hml, hnl, hown, hts, hK, hA, hf1, hf2, hc1, hc2, hAO⟩ := C
  intro H locs ls hP hD hS hn hl
  exact lv_aload_n hx hb d hi9 (q_hasR hl hk) (k H locs ls hP hD hS hn hl)
theorem q_Bistore_n (C : q_Bx D cy K cc own dd n0 MC MS) {f : Fin 4} {i : Nat} {x : Int32} {lv' : List (Nat × Value)} (d : decode cc pc = .ok (.istore_n f, 1)) (hi9 : (f : Nat) = i) (hi8 : i < n0) (hlv : (i, Value.int x) :: q_lf i lv = lv') (k : q_B l D K (pc + 1) lv' st ws n mc ms) : q_B l D K pc lv (.int x :: st) ws n mc ms := by
  obtain ⟨p, e, R, s, m, args, below, meth, c, Q, A, nL⟩ := K
  obtain ⟨hx, hb, hml, hnl, hown, hts, hK, hA, hf1, hf2, hc1, hc2, hAO⟩ := C
  intro H locs ls hP hD hS hn hl
  subst hlv; subst hnl
  exact lv_istore_n hx hb d hi9 hl hi8 rfl (fun ls' hl' => k H locs ls' hP hD hS hn hl')
theorem q_Bastore_n (C : q_Bx D cy K cc own dd n0 MC MS) {f : Fin 4} {i : Nat} {x : Nat} {lv' : List (Nat × Value)} (d : decode cc pc = .ok (.astore_n f, 1)) (hi9 : (f : Nat) = i) (hi8 : i < n0) (hlv : (i, Value.ref x) :: q_lf i lv = lv') (k : q_B l D K (pc + 1) lv' st ws n mc ms) : q_B l D K pc lv (.ref x :: st) ws n mc ms := by
  obtain ⟨p, e, R, s, m, args, below, meth, c, Q, A, nL⟩ := K
  obtain ⟨hx, hb, hml, hnl, hown, hts, hK, hA, hf1, hf2, hc1, hc2, hAO⟩ := C
  intro H locs ls hP hD hS hn hl
  subst hlv; subst hnl
  exact lv_astore_n hx hb d hi9 hl hi8 rfl (fun ls' hl' => k H locs ls' hP hD hS hn hl')
theorem q_Bastore (C : q_Bx D cy K cc own dd n0 MC MS) {i : Nat} {x : Nat} {lv' : List (Nat × Value)} (d : decode cc pc = .ok (.astore i, 2)) (hi8 : i < n0) (hlv : (i, Value.ref x) :: q_lf i lv = lv') (k : q_B l D K (pc + 2) lv' st ws n mc ms) : q_B l D K pc lv (.ref x :: st) ws n mc ms := by
  obtain ⟨p, e, R, s, m, args, below, meth, c, Q, A, nL⟩ := K
  obtain ⟨hx, hb, hml, hnl, hown, hts, hK, hA, hf1, hf2, hc1, hc2, hAO⟩ := C
  intro H locs ls hP hD hS hn hl
  subst hlv; subst hnl
  exact lv_astore hx hb d hl hi8 rfl (fun ls' hl' => k H locs ls' hP hD hS hn hl')
theorem q_Biinc (C : q_Bx D cy K cc own dd n0 MC MS) {i : Nat} {k9 : Int} {x v : Int32} {lv' : List (Nat × Value)} (d : decode cc pc = .ok (.iinc i k9, 3)) (hk : q_lk i lv = some (.int x)) (hv : x + Int32.ofInt k9 = v) (hi8 : i < n0) (hlv : (i, Value.int v) :: q_lf i lv = lv') (k : q_B l D K (pc + 3) lv' st ws n mc ms) : q_B l D K pc lv st ws n mc ms := by
  obtain ⟨p, e, R, s, m, args, below, meth, c, Q, A, nL⟩ := K
  obtain ⟨hx, hb, hml, hnl, hown, hts, hK, hA, hf1, hf2, hc1, hc2, hAO⟩ := C
  intro H locs ls hP hD hS hn hl
  subst hlv; subst hnl
  obtain ⟨k0, hk0⟩ := List.getElem?_of_mem (q_lk_mem hk)
  exact lv_iinc hx hb d hl hk0 hv hi8 rfl (fun ls' hl' => k H locs ls' hP hD hS hn hl')
theorem q_Bistore (C : q_Bx D cy K cc own dd n0 MC MS) {i : Nat} {x : Int32} {lv' : List (Nat × Value)} (d : decode cc pc = .ok (.istore i, 2)) (hi8 : i < n0) (hlv : (i, Value.int x) :: q_lf i lv = lv') (k : q_B l D K (pc + 2) lv' st ws n mc ms) : q_B l D K pc lv (.int x :: st) ws n mc ms := by
  obtain ⟨p, e, R, s, m, args, below, meth, c, Q, A, nL⟩ := K
  obtain ⟨hx, hb, hml, hnl, hown, hts, hK, hA, hf1, hf2, hc1, hc2, hAO⟩ := C
  intro H locs ls hP hD hS hn hl
  subst hlv; subst hnl
  exact lv_istore hx hb d hl hi8 rfl (fun ls' hl' => k H locs ls' hP hD hS hn hl')
theorem q_Biadd (C : q_Bx D cy K cc own dd n0 MC MS) {x y : Int32} (d : decode cc pc = .ok (.iadd, 1)) (k : q_B l D K (pc + 1) lv (.int (x + y) :: st) ws n mc ms) : q_B l D K pc lv (.int y :: .int x :: st) ws n mc ms := by
  obtain ⟨p, e, R, s, m, args, below, meth, c, Q, A, nL⟩ := K
  obtain ⟨hx, hb, hml, hnl, hown, hts, hK, hA, hf1, hf2, hc1, hc2, hAO⟩ := C
  intro H locs ls hP hD hS hn hl
  exact lv_iadd hx hb d (k H locs ls hP hD hS hn hl)
theorem q_Bdup (C : q_Bx D cy K cc own dd n0 MC MS) {v : Value} (hc : v.category = 1) (d : decode cc pc = .ok (.dup, 1)) (k : q_B l D K (pc + 1) lv (v :: v :: st) ws n mc ms) : q_B l D K pc lv (v :: st) ws n mc ms := by
  obtain ⟨p, e, R, s, m, args, below, meth, c, Q, A, nL⟩ := K
  obtain ⟨hx, hb, hml, hnl, hown, hts, hK, hA, hf1, hf2, hc1, hc2, hAO⟩ := C
  intro H locs ls hP hD hS hn hl
  exact lv_dup hx hb d hc (k H locs ls hP hD hS hn hl)
theorem q_Bgoto (C : q_Bx D cy K cc own dd n0 MC MS) {off : Int} {tgt : Nat} (d : decode cc pc = .ok (.goto off, 3)) (ht : (pc : Int) + off = (tgt : Int)) (k : q_B l D K tgt lv st ws n mc ms) : q_B l D K pc lv st ws n mc ms := by
  obtain ⟨p, e, R, s, m, args, below, meth, c, Q, A, nL⟩ := K
  obtain ⟨hx, hb, hml, hnl, hown, hts, hK, hA, hf1, hf2, hc1, hc2, hAO⟩ := C
  intro H locs ls hP hD hS hn hl
  exact lv_goto hx hb d ht (k H locs ls hP hD hS hn hl)
theorem q_Bicmp_ge (C : q_Bx D cy K cc own dd n0 MC MS) {x y : Int32} {off : Int} {tgt : Nat} (d : decode cc pc = .ok (.if_icmp .ge off, 3)) (ht : (pc : Int) + off = (tgt : Int)) (kt : y ≤ x → q_B l D K tgt lv st ws n mc ms) (kf : x < y → q_B l D K (pc + 3) lv st ws n mc ms) : q_B l D K pc lv (.int y :: .int x :: st) ws n mc ms := by
  obtain ⟨p, e, R, s, m, args, below, meth, c, Q, A, nL⟩ := K
  obtain ⟨hx, hb, hml, hnl, hown, hts, hK, hA, hf1, hf2, hc1, hc2, hAO⟩ := C
  intro H locs ls hP hD hS hn hl
  exact lv_icmp_ge hx hb d ht (fun h => kt h H locs ls hP hD hS hn hl) (fun h => kf (Int32.not_le.mp h) H locs ls hP hD hS hn hl)
theorem q_Biload (C : q_Bx D cy K cc own dd n0 MC MS) {i : Nat} {x : Int32} (d : decode cc pc = .ok (.iload i, 2)) (hk : q_lk i lv = some (.int x)) (k : q_B l D K (pc + 2) lv (.int x :: st) ws n mc ms) : q_B l D K pc lv st ws n mc ms := by
  obtain ⟨p, e, R, s, m, args, below, meth, c, Q, A, nL⟩ := K
  obtain ⟨hx, hb, hml, hnl, hown, hts, hK, hA, hf1, hf2, hc1, hc2, hAO⟩ := C
  intro H locs ls hP hD hS hn hl
  exact lv_iload hx hb d (q_hasR hl hk) (k H locs ls hP hD hS hn hl)
theorem q_Baload (C : q_Bx D cy K cc own dd n0 MC MS) {i : Nat} {x : Nat} (d : decode cc pc = .ok (.aload i, 2)) (hk : q_lk i lv = some (.ref x)) (k : q_B l D K (pc + 2) lv (.ref x :: st) ws n mc ms) : q_B l D K pc lv st ws n mc ms := by
  obtain ⟨p, e, R, s, m, args, below, meth, c, Q, A, nL⟩ := K
  obtain ⟨hx, hb, hml, hnl, hown, hts, hK, hA, hf1, hf2, hc1, hc2, hAO⟩ := C
  intro H locs ls hP hD hS hn hl
  exact lv_aload hx hb d (q_hasR hl hk) (k H locs ls hP hD hS hn hl)
theorem q_Bnewa_int (C : q_Bx D cy K cc own dd n0 MC MS) {N : Nat} {x : Int32} (hw : Cond.arrayClass .int ∈ q_WS) (hxN : x = nI N) (hN : N < 100000) (h1 : mc + 1 ≤ MC) (h2 : ms + N ≤ MS) (d : decode cc pc = .ok (.newarray .int, 2)) (kk : q_B l D K (pc + 2) lv (.ref n :: st) (ws ++ [(n, .inl (cy 0, (N, .inl (fun _ => 0))))]) (n + 1) (mc + 1) (ms + N)) : q_B l D K pc lv (.int x :: st) ws n mc ms := by
  obtain ⟨p, e, R, s, m, args, below, meth, c, Q, A, nL⟩ := K
  obtain ⟨hx, hb, hml, hnl, hown, hts, hK, hA, hf1, hf2, hc1, hc2, hAO⟩ := C
  intro H locs ls hP hD hS hn hl
  subst hxN
  refine va_newaK (atype := .int) hx hb (hts _ hw) rfl d rfl (nI_pos (by omega)) (nI_clamp (by omega)) ?_ (by omega) (by omega) hn (fun H1 cA e1 z1 o1 hAr hNm => ?_)
  · show N * componentBytes .int ≤ 536870912
    have : componentBytes .int ≤ 8 := by decide
    have := Nat.mul_le_mul_left N this
    omega
  · have hcA : cA = cy 0 := by
      have h9 : s.vm.findClass ("[" ++ (.int : FieldType).toString) = some (cy 0) := (hK.2 0 _ rfl).2
      exact Option.some.inj (hNm.symm.trans h9)
    subst hcA
    subst hn
    exact kk H1 locs ls ((q_Bkept hP o1).app (q_B1 e1)) (hD.push hP rfl (hA _ hS.1)) (q_BS hS z1 o1) z1 hl

theorem q_Bnewa_bool (C : q_Bx D cy K cc own dd n0 MC MS) {N : Nat} {x : Int32} (hw : Cond.arrayClass .boolean ∈ q_WS) (hxN : x = nI N) (hN : N < 100000) (h1 : mc + 1 ≤ MC) (h2 : ms + N ≤ MS) (d : decode cc pc = .ok (.newarray .boolean, 2)) (kk : q_B l D K (pc + 2) lv (.ref n :: st) (ws ++ [(n, .inl (cy 1, (N, .inl (fun _ => 0))))]) (n + 1) (mc + 1) (ms + N)) : q_B l D K pc lv (.int x :: st) ws n mc ms := by
  obtain ⟨p, e, R, s, m, args, below, meth, c, Q, A, nL⟩ := K
  obtain ⟨hx, hb, hml, hnl, hown, hts, hK, hA, hf1, hf2, hc1, hc2, hAO⟩ := C
  intro H locs ls hP hD hS hn hl
  subst hxN
  refine va_newaK (atype := .boolean) hx hb (hts _ hw) rfl d rfl (nI_pos (by omega)) (nI_clamp (by omega)) ?_ (by omega) (by omega) hn (fun H1 cA e1 z1 o1 hAr hNm => ?_)
  · show N * componentBytes .boolean ≤ 536870912
    have : componentBytes .boolean ≤ 8 := by decide
    have := Nat.mul_le_mul_left N this
    omega
  · have hcA : cA = cy 1 := by
      have h9 : s.vm.findClass ("[" ++ (.boolean : FieldType).toString) = some (cy 1) := (hK.2 1 _ rfl).2
      exact Option.some.inj (hNm.symm.trans h9)
    subst hcA
    subst hn
    exact kk H1 locs ls ((q_Bkept hP o1).app (q_B1 e1)) (hD.push hP rfl (hA _ hS.1)) (q_BS hS z1 o1) z1 hl

theorem q_Bnewa_char (C : q_Bx D cy K cc own dd n0 MC MS) {N : Nat} {x : Int32} (hw : Cond.arrayClass .char ∈ q_WS) (hxN : x = nI N) (hN : N < 100000) (h1 : mc + 1 ≤ MC) (h2 : ms + N ≤ MS) (d : decode cc pc = .ok (.newarray .char, 2)) (kk : q_B l D K (pc + 2) lv (.ref n :: st) (ws ++ [(n, .inl (cy 2, (N, .inl (fun _ => 0))))]) (n + 1) (mc + 1) (ms + N)) : q_B l D K pc lv (.int x :: st) ws n mc ms := by
  obtain ⟨p, e, R, s, m, args, below, meth, c, Q, A, nL⟩ := K
  obtain ⟨hx, hb, hml, hnl, hown, hts, hK, hA, hf1, hf2, hc1, hc2, hAO⟩ := C
  intro H locs ls hP hD hS hn hl
  subst hxN
  refine va_newaK (atype := .char) hx hb (hts _ hw) rfl d rfl (nI_pos (by omega)) (nI_clamp (by omega)) ?_ (by omega) (by omega) hn (fun H1 cA e1 z1 o1 hAr hNm => ?_)
  · show N * componentBytes .char ≤ 536870912
    have : componentBytes .char ≤ 8 := by decide
    have := Nat.mul_le_mul_left N this
    omega
  · have hcA : cA = cy 2 := by
      have h9 : s.vm.findClass ("[" ++ (.char : FieldType).toString) = some (cy 2) := (hK.2 2 _ rfl).2
      exact Option.some.inj (hNm.symm.trans h9)
    subst hcA
    subst hn
    exact kk H1 locs ls ((q_Bkept hP o1).app (q_B1 e1)) (hD.push hP rfl (hA _ hS.1)) (q_BS hS z1 o1) z1 hl

theorem q_Bnewa_long (C : q_Bx D cy K cc own dd n0 MC MS) {N : Nat} {x : Int32} (hw : Cond.arrayClass .long ∈ q_WS) (hxN : x = nI N) (hN : N < 100000) (h1 : mc + 1 ≤ MC) (h2 : ms + N ≤ MS) (d : decode cc pc = .ok (.newarray .long, 2)) (kk : q_B l D K (pc + 2) lv (.ref n :: st) (ws ++ [(n, .inl (cy 4, (N, .inr (.inl (fun _ => 0)))))]) (n + 1) (mc + 1) (ms + N)) : q_B l D K pc lv (.int x :: st) ws n mc ms := by
  obtain ⟨p, e, R, s, m, args, below, meth, c, Q, A, nL⟩ := K
  obtain ⟨hx, hb, hml, hnl, hown, hts, hK, hA, hf1, hf2, hc1, hc2, hAO⟩ := C
  intro H locs ls hP hD hS hn hl
  subst hxN
  refine va_newaK (atype := .long) hx hb (hts _ hw) rfl d rfl (nI_pos (by omega)) (nI_clamp (by omega)) ?_ (by omega) (by omega) hn (fun H1 cA e1 z1 o1 hAr hNm => ?_)
  · show N * componentBytes .long ≤ 536870912
    have : componentBytes .long ≤ 8 := by decide
    have := Nat.mul_le_mul_left N this
    omega
  · have hcA : cA = cy 4 := by
      have h9 : s.vm.findClass ("[" ++ (.long : FieldType).toString) = some (cy 4) := (hK.2 4 _ rfl).2
      exact Option.some.inj (hNm.symm.trans h9)
    subst hcA
    subst hn
    exact kk H1 locs ls ((q_Bkept hP o1).app (q_B1 e1)) (hD.push hP rfl (hA _ hS.1)) (q_BS hS z1 o1) z1 hl

theorem q_Bnewq (C : q_Bx D cy K cc own dd n0 MC MS) {N : Nat} {x : Int32} (hlk : Cond.classLink own idx "GuildSeals$Council" ∈ q_WS) (hxN : x = nI N) (hN : N < 100000) (h1 : mc + 1 ≤ MC) (h2 : ms + N ≤ MS) (d : decode cc pc = .ok (.anewarray idx, 3)) (kk : q_B l D K (pc + 3) lv (.ref n :: st) (ws ++ [(n, .inl (cy 3, N, .inr (.inr (.inr (.inr (fun _ => none))))))]) (n + 1) (mc + 1) (ms + N)) : q_B l D K pc lv (.int x :: st) ws n mc ms := by
  obtain ⟨p, e, R, s, m, args, below, meth, c, Q, A, nL⟩ := K
  obtain ⟨hx, hb, hml, hnl, hown, hts, hK, hA, hf1, hf2, hc1, hc2, hAO⟩ := C
  intro H locs ls hP hD hS hn hl
  subst hxN
  refine W.anew hx hb hown (hts _ hlk) (va_AO.use hAO) rfl d rfl (nI_pos (by omega)) ?_ (by omega) ?_ (fun cA kA comp f1 f2 f3 f4 => ?_)
  · rw [nI_clamp (by omega)]
    omega
  · rw [nI_clamp (by omega)]
    omega
  · rw [nI_clamp (show N < 2 ^ 31 by omega)]
    obtain ⟨kB, cB, g1, g2, g3, g4⟩ := (hK.2 3 (cy 3, .object "GuildSeals$Council") rfl).2
    have hcA : cA = cy 3 := Option.some.inj (f1.symm.trans g4)
    subst hcA
    subst hn
    generalize hH1 : H.push ({ cls := cy 3, slots := Array.replicate N .null, vm := .none } : Cell) = H1
    have z1 : H1.size = H.size + 1 := by rw [← hH1, Array.size_push]
    have e1 : H1[H.size]? = some (arrV (cy 3) N (fun _ => .null)) := by rw [← hH1, Array.getElem?_push_size, ← arrV_new]
    have o1 : ∀ q : Nat, q < H.size → H1[q]? = H[q]? := fun q hq => by rw [← hH1, Array.getElem?_push, if_neg (Nat.ne_of_lt hq)]
    exact kk H1 locs ls ((q_Bkept hP o1).app (q_B1 (by show H1[H.size]? = some (vp_cell _ _); rw [vp_cell_q]; exact e1))) (hD.push hP rfl (hA _ hS.1)) (q_BS hS z1 o1) z1 hl

theorem q_Bnew (C : q_Bx D cy K cc own dd n0 MC MS) {CC : String} {T : u_T} {N ci : Nat} {ty : Nat → FieldType} {fs : List Value} (hc : q_cl[ci]? = some (CC, T, N)) (hin : ∀ w ∈ u_ws CC T N, w ∈ q_WS) (hty : ∀ k, k < N → parseFieldDescriptor (T k).2.2.1 = some (ty k)) (hfs : ∀ j, j < N → defaultValue (ty j) = vp_V fs j) (w1 : Cond.classLink own idx CC ∈ q_WS) (w2 : Cond.instantiable CC N ∈ q_WS) (w3 : Cond.initialized CC ∈ q_WS) (h1 : mc + 1 ≤ MC) (h2 : ms + N ≤ MS) (d : decode cc pc = .ok (.new idx, 3)) (kk : q_B l D K (pc + 3) lv (.ref n :: st) (ws ++ [(n, .inr (ci, fs))]) (n + 1) (mc + 1) (ms + N)) : q_B l D K pc lv st ws n mc ms := by
  obtain ⟨p, e, R, s, m, args, below, meth, c, Q, A, nL⟩ := K
  obtain ⟨hx, hb, hml, hnl, hown, hts, hK, hA, hf1, hf2, hc1, hc2, hAO⟩ := C
  intro H locs ls hP hD hS hn hl
  have hKn := hK.1 ci _ hc
  refine W.newcK hx hb hown (hts _ w1) (hts _ w2) (hts _ w3) rfl d (by omega) (by omega) hKn.2.1 hn (fun H1 kC hkC e1 z1 o1 => ?_)
  subst hn
  exact kk H1 locs ls ((q_Bkept hP o1).app (q_B1 ⟨_, hc, (u_born ty hts hin hKn hkC e1 hty).to hfs⟩)) (hD.push hP rfl (hA _ hS.1)) (q_BS hS z1 o1) z1 hl

theorem q_Bobj (C : q_Bx D cy K cc own dd n0 MC MS) {a : Nat} (w1 : Cond.methodLink own idx Lib.objectInit ∈ q_WS) (w2 : Cond.instanceMethod Lib.objectInit ∈ q_WS) (w3 : Cond.code Lib.objectInit ⟨#[0xb1]⟩ 1 none ∈ q_WS) (hdd : 1 ≤ dd) (hst : st = []) (d : decode cc pc = .ok (.invokespecial idx, 3)) (kk : q_B l D K (pc + 3) lv st ws n mc ms) : q_B l D K pc lv (.ref a :: st) ws n mc ms := by
  obtain ⟨p, e, R, s, m, args, below, meth, c, Q, A, nL⟩ := K
  obtain ⟨hx, hb, hml, hnl, hown, hts, hK, hA, hf1, hf2, hc1, hc2, hAO⟩ := C
  intro H locs ls hP hD hS hn hl
  subst hst
  exact W.objInit hx hb hown (hts _ w1) (hts _ w2) (hts _ w3) rfl (hl.1.trans hml.symm) rfl d (by omega) (by show 2 * 0 + 0 + 12 ≤ R.locals; omega) (kk H locs ls hP hD hS hn hl)

theorem q_Bget (C : q_Bx D cy K cc own dd n0 MC MS) {a ci j : Nat} {fs : List Value} {v : Value} (fl : q_fl own idx ci j) (q0 : Nat) (he : ws[q0]? = some (a, .inr (ci, fs))) (hv : fs[j]? = some v) (d : decode cc pc = .ok (.getfield idx, 3)) (kk : q_B l D K (pc + 3) lv (v :: st) ws n mc ms) : q_B l D K pc lv (.ref a :: st) ws n mc ms := by
  obtain ⟨p, e, R, s, m, args, below, meth, c, Q, A, nL⟩ := K
  obtain ⟨hx, hb, hml, hnl, hown, hts, hK, hA, hf1, hf2, hc1, hc2, hAO⟩ := C
  intro H locs ls hP hD hS hn hl
  obtain ⟨CC, T, N, ty, hc, hin, hj, hlk, hty, hnm⟩ := fl
  exact va_get hx hb hts hin hown hK hP q0 he hc j hj (hts _ hlk) (fun _ h => h) hv d (kk H locs ls hP hD hS hn hl)

theorem q_Bput (C : q_Bx D cy K cc own dd n0 MC MS) {a ci j : Nat} {fs : List Value} {v : Value} {ws' : va_W} (fl : q_fl own idx ci j) (q0 : Nat) (he : ws[q0]? = some (a, .inr (ci, fs))) {ty9 : FieldType} (hT : ∀ (CC : String) (T : u_T) (N : Nat), q_cl[ci]? = some (CC, T, N) → (T j).2.2.2 = false ∧ parseFieldDescriptor (T j).2.2.1 = some ty9) (hnr : narrow ty9 v = v) (hfit : fits ty9 v = true) (hl9 : j < fs.length) (hw' : ws.set q0 (a, .inr (ci, fs.set j v)) = ws') (d : decode cc pc = .ok (.putfield idx, 3)) (kk : q_B l D K (pc + 3) lv st ws' n mc ms) : q_B l D K pc lv (v :: .ref a :: st) ws n mc ms := by
  obtain ⟨p, e, R, s, m, args, below, meth, c, Q, A, nL⟩ := K
  obtain ⟨hx, hb, hml, hnl, hown, hts, hK, hA, hf1, hf2, hc1, hc2, hAO⟩ := C
  intro H locs ls hP hD hS hn hl
  obtain ⟨CC, T, N, ty, hc, hin, hj, hlk, hty, hnm⟩ := fl
  obtain ⟨hfin, hd9⟩ := hT CC T N hc
  have hap := va_apart (own := own) hts hin ty hty hnm hK hc
  obtain ⟨r, h1, cell, q1, q2, q3, q4⟩ := hP q0 _ he
  cases Option.some.inj (h1.symm.trans hc)
  obtain ⟨hSl, hfc, kC, hkC, hkind⟩ := hK.1 ci _ hc
  obtain ⟨cf, kf, fi, f, hi, hsl⟩ := hSl j hj
  have hlay := hts _ (hin _ (u_in_lay hj))
  unfold u_lay at hlay
  have hst := (u_facts hfc hkC (u_lays hts hin hj) hi).1
  rw [if_neg (by rw [hfin]; decide)] at hlay
  have h6 := u_store hfc hkC hkind hlay hi hd9 hnr hfit
  refine W.putK hx hb (f := f) ⟨hown, hts _ hlk, ⟨_, _, _, hi⟩, hst⟩ (by rw [q2]; exact h6) q1 q3 (by rw [hsl]; exact k2_hasslot (q4 j hj)) rfl rfl d (fun H' e1 e2 e3 => ?_)
  subst hw'
  rw [hsl] at e1 ⊢
  exact kk H' _ ls (hP.set hD he ⟨_, hc, t_OB.to (V := updV (vp_V fs) j v) ⟨_, e1, q2, q3, t_set q4 hap hj v⟩ (fun i _ => vp_updV_set hl9 v i)⟩ e3) (hD.set he) (hS.put e2 e3 (hD.2 q0 _ he)) (e2.trans hn) hl

theorem q_BputF (C : q_Bx D cy K cc own dd n0 MC MS) (hI : q_Bi K) {a ci j : Nat} {fs : List Value} {v : Value} {ws' : va_W} (fl : q_fl own idx ci j) (q0 : Nat) (he : ws[q0]? = some (a, .inr (ci, fs))) {ty9 : FieldType} (hT : ∀ (CC : String) (T : u_T) (N : Nat), q_cl[ci]? = some (CC, T, N) → (T j).2.2.2 = true ∧ (T j).1 = own ∧ parseFieldDescriptor (T j).2.2.1 = some ty9) (hnr : narrow ty9 v = v) (hfit : fits ty9 v = true) (hl9 : j < fs.length) (hw' : ws.set q0 (a, .inr (ci, fs.set j v)) = ws') (d : decode cc pc = .ok (.putfield idx, 3)) (kk : q_B l D K (pc + 3) lv st ws' n mc ms) : q_B l D K pc lv (v :: .ref a :: st) ws n mc ms := by
  obtain ⟨p, e, R, s, m, args, below, meth, c, Q, A, nL⟩ := K
  obtain ⟨hx, hb, hml, hnl, hown, hts, hK, hA, hf1, hf2, hc1, hc2, hAO⟩ := C
  intro H locs ls hP hD hS hn hl
  obtain ⟨CC, T, N, ty, hc, hin, hj, hlk, hty, hnm⟩ := fl
  obtain ⟨hfin, hdecl, hd9⟩ := hT CC T N hc
  have hap := va_apart (own := own) hts hin ty hty hnm hK hc
  obtain ⟨r, h1, cell, q1, q2, q3, q4⟩ := hP q0 _ he
  cases Option.some.inj (h1.symm.trans hc)
  obtain ⟨hSl, hfc, kC, hkC, hkind⟩ := hK.1 ci _ hc
  obtain ⟨cf, kf, fi, f, hi, hsl⟩ := hSl j hj
  have hlay := hts _ (hin _ (u_in_lay hj))
  unfold u_lay at hlay
  have hst := (u_facts hfc hkC (u_lays hts hin hj) hi).1
  rw [if_pos hfin] at hlay
  have hcf : m.cls = cf := by
    obtain ⟨_, _, c', _, _, _, -, -, hf', -, -, -, hown2, -⟩ := Cond.laysFinal_spec hlay
    have e1 : c' = cf := by have := hi.symm.trans hf'; simp at this; exact this.1.symm
    rw [hdecl] at hown2
    rw [← e1]; exact Option.some.inj (hown.symm.trans hown2)
  have h6 := u_fits hfc hkC hkind (Or.inr hlay) hi hd9 hnr hfit
  refine W.putFinK hx hb hown (hts _ hlk) hi hst hcf hI (by rw [q2]; exact h6) q1 q3 (by rw [hsl]; exact k2_hasslot (q4 j hj)) rfl rfl d (fun H' e1 e2 e3 => ?_)
  subst hw'
  rw [hsl] at e1 ⊢
  exact kk H' _ ls (hP.set hD he ⟨_, hc, t_OB.to (V := updV (vp_V fs) j v) ⟨_, e1, q2, q3, t_set q4 hap hj v⟩ (fun i _ => vp_updV_set hl9 v i)⟩ e3) (hD.set he) (hS.put e2 e3 (hD.2 q0 _ he)) (e2.trans hn) hl

theorem q_Biast (C : q_Bx D cy K cc own dd n0 MC MS) {a i N : Nat} {f : Nat → Int32} {x ix : Int32} {ws' : va_W} (hix : ix = nI i) (q0 : Nat) (ha : ws[q0]? = some (a, .inl (cy 0, N, .inl f))) (hi9 : i < N) (hN : N < 2 ^ 31) (hw' : ws.set q0 (a, .inl (cy 0, N, .inl (upd f i x))) = ws') (d : decode cc pc = .ok (.iastore, 1)) (kk : q_B l D K (pc + 1) lv st ws' n mc ms) : q_B l D K pc lv (.int x :: .int ix :: .ref a :: st) ws n mc ms := by
  obtain ⟨p, e, R, s, m, args, below, meth, c, Q, A, nL⟩ := K
  obtain ⟨hx, hb, hml, hnl, hown, hts, hK, hA, hf1, hf2, hc1, hc2, hAO⟩ := C
  intro H locs ls hP hD hS hn hl
  subst hix
  refine W.iast hx hb (hP q0 _ ha) ((hK.2 0 _ rfl).1 N (fun j => .int (f j))) (fun q => by cases q) (by show ¬ (nI i < 0 ∨ (arrV _ _ _).slots.size ≤ _); rw [arrV_size]; exact vp_in_nI hi9 hN) rfl rfl d (fun H1 e z oq => ?_)
  subst hw'
  refine kk H1 _ ls (hP.set hD ha ?_ oq) (hD.set ha) (hS.put z oq (hD.2 q0 _ ha)) (z.trans hn) hl
  show H1[a]? = some (vp_cell _ _)
  rw [e, nI_clamp (Nat.lt_trans hi9 hN)]
  rw [vp_cell_i, vp_cell_i, arrV_store]
  congr 2
  funext q
  by_cases hq : q = i
  · subst hq
    simp [updV, upd, vp_nar]
    try rfl
  · simp [updV, upd, hq]

theorem q_Bzast (C : q_Bx D cy K cc own dd n0 MC MS) {a i N : Nat} {f : Nat → Int32} {x ix : Int32} {ws' : va_W} (hix : ix = nI i) (q0 : Nat) (ha : ws[q0]? = some (a, .inl (cy 1, N, .inl f))) (hi9 : i < N) (hN : N < 2 ^ 31) (hw' : ws.set q0 (a, .inl (cy 1, N, .inl (upd f i (vp_nar .boolean x)))) = ws') (d : decode cc pc = .ok (.bastore, 1)) (kk : q_B l D K (pc + 1) lv st ws' n mc ms) : q_B l D K pc lv (.int x :: .int ix :: .ref a :: st) ws n mc ms := by
  obtain ⟨p, e, R, s, m, args, below, meth, c, Q, A, nL⟩ := K
  obtain ⟨hx, hb, hml, hnl, hown, hts, hK, hA, hf1, hf2, hc1, hc2, hAO⟩ := C
  intro H locs ls hP hD hS hn hl
  subst hix
  refine W.zast hx hb (hP q0 _ ha) ((hK.2 1 _ rfl).1 N (fun j => .int (f j))) (fun q => by cases q) (by show ¬ (nI i < 0 ∨ (arrV _ _ _).slots.size ≤ _); rw [arrV_size]; exact vp_in_nI hi9 hN) rfl rfl d (fun H1 e z oq => ?_)
  subst hw'
  refine kk H1 _ ls (hP.set hD ha ?_ oq) (hD.set ha) (hS.put z oq (hD.2 q0 _ ha)) (z.trans hn) hl
  show H1[a]? = some (vp_cell _ _)
  rw [e, nI_clamp (Nat.lt_trans hi9 hN)]
  rw [vp_cell_i, vp_cell_i, arrV_store]
  congr 2
  funext q
  by_cases hq : q = i
  · subst hq
    simp [updV, upd, vp_nar]
    try rfl
  · simp [updV, upd, hq]

theorem q_Bastq (C : q_Bx D cy K cc own dd n0 MC MS) {a v i N : Nat} {f : Nat → Option Nat} {vs : List Value} {ix : Int32} {ws' : va_W} (hix : ix = nI i) (q0 qk : Nat) (ha : ws[q0]? = some (a, .inl (cy 3, N, .inr (.inr (.inr (.inr f)))))) (hv : ws[qk]? = some (v, .inr (1, vs))) (hi9 : i < N) (hN : N < 2 ^ 31) (hw' : ws.set q0 (a, .inl (cy 3, N, .inr (.inr (.inr (.inr (va_up f i (some v))))))) = ws') (d : decode cc pc = .ok (.aastore, 1)) (kk : q_B l D K (pc + 1) lv st ws' n mc ms) : q_B l D K pc lv (.ref v :: .int ix :: .ref a :: st) ws n mc ms := by
  obtain ⟨p, e, R, s, m, args, below, meth, c, Q, A, nL⟩ := K
  obtain ⟨hx, hb, hml, hnl, hown, hts, hK, hA, hf1, hf2, hc1, hc2, hAO⟩ := C
  intro H locs ls hP hD hS hn hl
  subst hix
  have hc : q_cl[1]? = some (RX1, TX1, 14) := rfl
  obtain ⟨r', hr', cellV, g1, g2, g3, -⟩ := hP qk _ hv
  have hcls := (hK.1 1 _ hc).2
  obtain ⟨kA, comp, k1, k2, k3, -⟩ := (hK.2 3 (cy 3, .object "GuildSeals$Council") rfl).2
  have hcomp : comp = D.1 1 := Option.some.inj (k3.symm.trans hcls.1)
  subst hcomp
  obtain ⟨kC, hkC, -⟩ := hcls.2
  refine W.aast hx hb (hP q0 _ ha) (fun q h => by cases h) (fun h => by cases h) k1 k2 rfl hkC ⟨?_, ?_⟩ g1 (fun q h => by rw [g3] at h; cases h) (by rw [g2]; exact hkC) (by rw [g2]; exact va_assign hcls) rfl rfl d (fun H1 e z oq => ?_)
  · exact nI_pos (Nat.lt_trans hi9 hN)
  · show _ < (arrV _ _ _).slots.size
    rw [arrV_size, nI_clamp (Nat.lt_trans hi9 hN)]
    exact hi9
  · subst hw'
    refine kk H1 _ ls (hP.set hD ha ?_ oq) (hD.set ha) (hS.put z oq (hD.2 q0 _ ha)) (z.trans hn) hl
    show H1[a]? = some (vp_cell _ _)
    rw [e, nI_clamp (Nat.lt_trans hi9 hN)]
    rw [vp_cell_q, vp_cell_q, arrV_store]
    congr 2
    funext q
    by_cases hq : q = i
    · subst hq
      simp [updV, va_up, va_rf]
    · simp [updV, va_up, hq]

end QB
/-- the addresses of a block: the object, then what its constructor makes -/
def q_Bad (w : va_W) (a sz k : Nat) : Prop := w.map (fun q => q.1) = a :: List.range' sz k
/-- a constructor's contract -/
def q_Bc (l : Launch) (y : MethodName) (cd : Cond) (d k ms ci : Nat) (fs0 : List Value) (As : List Value) (blk : (Nat → ClassId) → Nat → Nat → va_W) : Prop := ∀ (D : va_G) (cy : Nat → ClassId) (a sz : Nat), a < sz → Met l y (cd :: q_WS) { frames := d, cells := k, slots := ms, locals := 40 * d } (va_Pc (.ref a :: As) (fun U => U.heap.size = sz ∧ va_P D q_cl [(a, .inr (ci, fs0))] U.heap ∧ va_K D q_cl (q_tys cy) U ∧ va_AO "GuildSeals$Council" U)) (va_Qv (fun (_ : Unit) => True) (fun _ t => va_P D q_cl (blk cy a sz) t.heap ∧ t.heap.size = sz + k) (fun q => q = a ∨ sz ≤ q)) k ms (fun q => q = a ∨ sz ≤ q)
set_option maxHeartbeats 1000000 in
theorem q_Bc_of {l : Launch} {y : MethodName} {cd : Cond} {cc : ByteArray} {maxL d k ms ci : Nat} {fs0 As : List Value} {blk : (Nat → ClassId) → Nat → Nat → va_W} (hcd : cd = .code y cc maxL none) (hy : plainName y.cls = true) (hnm : y.name = "<init>") (hlen : ∀ a : Nat, (lg_sl (.ref a :: As)).length ≤ maxL)
    (body : ∀ (D : va_G) (cy : Nat → ClassId) (a sz : Nat) (K : q_BK), a < sz → q_Bx D cy K cc y.cls d maxL k ms → q_Bi K → (∀ (pc : Nat) (lv : List (Nat × Value)) (ws : va_W) (n : Nat), decode cc pc = .ok (.return_, 1) → ws = blk cy a sz → n = sz + k → q_B l D K pc lv [] ws n k ms) → q_B l D K 0 (lv_args 0 (.ref a :: As)) [] [(a, .inr (ci, fs0))] sz 0 0) : q_Bc l y cd d k ms ci fs0 As blk := by
  intro D cy a sz haz
  subst hcd
  refine Met.ofW (cc := cc) (maxL := maxL) (ret := none) hy rfl ?_
  intro p e s m args below meth c s₁ B hml hv
  obtain ⟨rfl, hsz, hP, hK, hAO⟩ := hv
  subst hsz
  have hts0 := atoms_spec (ws := Cond.code y cc maxL none :: q_WS) B.pre
  have hts : ∀ w ∈ q_WS, w.before (.ref a :: As).toArray s = true := fun w h => hts0 w (List.mem_cons_of_mem _ h)
  have hown : s.vm.findClass y.cls = some m.cls := findClass_of_methodNamed B.named
  have hlocks := B.notSynchronized
  have hin : meth.name = "<init>" := ((name_of_methodNamed B.named B.method).1).trans hnm
  have hl := lv_entry (.ref a :: As) (n := maxL) (hlen a)
  rw [lg_entry_eq]
  generalize (lg_sl (.ref a :: As) ++ List.replicate (maxL - (lg_sl (.ref a :: As)).length) Slot.unset).toArray = ls at hl ⊢
  refine body D cy a s.heap.size (p, e, (headSpec (Cond.code y cc maxL none :: q_WS) { frames := d, cells := k, slots := ms, locals := 40 * d }).room, s, m, (.ref a :: As).toArray, below, meth, c, _, fun q => q = a ∨ s.heap.size ≤ q, maxL) haz ⟨B.exec, B.bytes, hml, rfl, hown, hts, hK, fun q h => Or.inr h, Nat.le_refl _, Nat.le_refl _, Nat.le_refl _, Nat.le_refl _, hAO⟩ hin ?_ s.heap [] ls hP ⟨?_, ?_⟩ va_S.rf rfl hl
  · intro pc lv ws n hd hws hn H locs ls hP hD hS hH hl
    subst hws
    subst hn
    exact W.vret B.exec B.bytes B.returns (fun t ht hW => ⟨⟨(), rfl, trivial, by rw [ht]; exact hP, by rw [ht]; exact hH⟩, hS.F ht⟩) hS.2.2 hd hlocks
  · intro i j x y hx hy _
    have h1 : i < 1 := (List.getElem?_eq_some_iff.mp hx).1
    have h2 : j < 1 := (List.getElem?_eq_some_iff.mp hy).1
    omega
  · intro i x hx
    have h1 : i < 1 := (List.getElem?_eq_some_iff.mp hx).1
    rw [show i = 0 by omega] at hx
    cases hx
    exact Or.inl rfl
theorem q_nd_D {A : Nat → Prop} {ws : va_W} (h1 : (ws.map (fun q => q.1)).Nodup) (h2 : ∀ q ∈ ws, A q.1) : va_D A ws := by
  refine ⟨fun i j x y hx hy hxy => ?_, fun k q hk => h2 q (List.mem_of_getElem? hk)⟩
  refine (List.getElem?_inj (by rw [List.length_map]; exact (List.getElem?_eq_some_iff.mp hx).1) h1).mp ?_
  rw [List.getElem?_map, List.getElem?_map, hx, hy]
  exact congrArg some hxy
theorem q_D_nd {A : Nat → Prop} {ws : va_W} (h : va_D A ws) : (ws.map (fun q => q.1)).Nodup := by
  refine List.pairwise_iff_getElem.mpr (fun i j hi hj hij he => ?_)
  have hi' : i < ws.length := by rw [List.length_map] at hi; exact hi
  have hj' : j < ws.length := by rw [List.length_map] at hj; exact hj
  rw [List.getElem_map, List.getElem_map] at he
  exact absurd (h.1 i j _ _ (List.getElem?_eq_getElem hi') (List.getElem?_eq_getElem hj') he) (by omega)
theorem q_D_app {A : Nat → Prop} {pre blk : va_W} {a sz k : Nat} {e0 : va_E} (hD : va_D A (pre ++ [(a, e0)])) (hlt : ∀ q ∈ pre, q.1 < sz) (ha : a < sz) (hb : q_Bad blk a sz k) (hA : ∀ q, sz ≤ q → A q) : va_D A (pre ++ blk) := by
  have hnd := q_D_nd hD
  have hAa : A a := hD.2 pre.length (a, e0) (by rw [List.getElem?_append_right (Nat.le_refl _), Nat.sub_self]; rfl)
  have hb' : blk.map (fun q => q.1) = a :: List.range' sz k := hb
  rw [List.map_append] at hnd
  have h1 : ∀ q ∈ pre, q.1 ≠ a := fun q hq e => by
    have := (List.nodup_append.mp hnd).2.2 q.1 (List.mem_map.mpr ⟨q, hq, rfl⟩) a (by simp)
    exact this e
  refine q_nd_D ?_ (fun q hq => ?_)
  · rw [List.map_append, hb']
    refine List.nodup_append.mpr ⟨(List.nodup_append.mp hnd).1, List.nodup_cons.mpr ⟨fun h => ?_, List.nodup_range'⟩, fun x hx y hy e => ?_⟩
    · have := (List.mem_range'_1.mp h).1
      omega
    · obtain ⟨q, hq, rfl⟩ := List.mem_map.mp hx
      rcases List.mem_cons.mp hy with rfl | hy
      · exact h1 q hq e
      · have := (List.mem_range'_1.mp hy).1
        have := hlt q hq
        omega
  · rcases List.mem_append.mp hq with h | h
    · obtain ⟨i, hi⟩ := List.getElem?_of_mem h
      exact hD.2 i q (by rw [List.getElem?_append_left (List.getElem?_eq_some_iff.mp hi).1]; exact hi)
    · have h9 : q.1 ∈ a :: List.range' sz k := by rw [← hb']; exact List.mem_map.mpr ⟨q, h, rfl⟩
      rcases List.mem_cons.mp h9 with h9 | h9
      · rw [h9]; exact hAa
      · exact hA _ (List.mem_range'_1.mp h9).1
theorem q_Bc_blind {D : va_G} {cy : Nat → ClassId} {av : List Value} {sz : Nat} {ws : va_W} : FrameBlind (va_Pc av (fun U => U.heap.size = sz ∧ va_P D q_cl ws U.heap ∧ va_K D q_cl (q_tys cy) U ∧ va_AO "GuildSeals$Council" U)) := fun a U g mk q => by
  obtain ⟨q0, q1, qP, qK, qA⟩ := q
  exact ⟨q0, q1, qP, va_K.moved (u := U) (U := U.calling g mk a) (Vm.Alike.refl U.vm) qK, va_AO.moved (u := U) (U := U.calling g mk a) (Vm.Alike.refl U.vm) qA⟩
theorem q_goodI {cd : Cond} (h5 : cd ∈ q_WS) : GoodIn q_WS (cd :: q_WS) := by
  intro w hw
  have hm : w ∈ q_WS := by
    rcases List.mem_cons.mp hw with rfl | h
    · exact h5
    · exact h
  exact ⟨hm, good_of_word (q_WS_good w hm)⟩
set_option maxHeartbeats 1000000 in
/-- a constructor's call: the object is the last cell so far -/
theorem q_Bcall {l : Launch} {D : va_G} {cy : Nat → ClassId} {K : q_BK} {cc : ByteArray} {own : String} {dd n0 MC MS pc idx : Nat} {lv : List (Nat × Value)} {pre : va_W} {n mc ms : Nat} (C : q_Bx D cy K cc own dd n0 MC MS) {y : MethodName} {cd : Cond} {d k0 ms0 ci maxL a np : Nat} {bytes : ByteArray} {fs0 As rest : List Value} {blk : (Nat → ClassId) → Nat → Nat → va_W} (hM : q_Bc l y cd d k0 ms0 ci fs0 As blk) (hcd : cd = .code y bytes maxL none) (h5 : cd ∈ q_WS) (w1 : Cond.initialized y.cls ∈ q_WS) (w2 : Cond.methodLink own idx y ∈ q_WS) (w3 : Cond.instanceMethod y ∈ q_WS) (hy1 : y.name = "<init>")
    (hy : y.cls ≠ "java/lang/invoke/MethodHandle" ∧ y.cls ≠ "java/lang/invoke/VarHandle" ∧ (parseMethodDescriptor y.desc).map (fun d => d.parameters.length) = some np) (hnp : As.length = np) (hR : d + 1 ≤ dd ∧ maxL ≤ 21) (hroom : (rest.map fun v => v.category).sum ≤ 8) (hmc : mc + k0 ≤ MC) (hms : ms + ms0 ≤ MS) (hb9 : q_Bad (blk cy a n) a n k0) (dg : decode cc pc = .ok (.invokespecial idx, 3)) (kk : q_B l D K (pc + 3) lv rest (pre ++ blk cy a n) (n + k0) (mc + k0) (ms + ms0)) : q_B l D K pc lv (As.reverse ++ .ref a :: rest) (pre ++ [(a, .inr (ci, fs0))]) n mc ms := by
  obtain ⟨p, e, R, s, m, args, below, meth, c, Q, A, nL⟩ := K
  obtain ⟨hx, hb, hml, hnl, hown, hts, hK, hA, hf1, hf2, hc1, hc2, hAO⟩ := C
  intro H locs ls hP hD hS hn hl
  subst hn
  have hPa : va_P D q_cl [(a, .inr (ci, fs0))] H := fun i q hq => by
    have h1 : i < 1 := (List.getElem?_eq_some_iff.mp hq).1
    rw [show i = 0 by omega] at hq
    cases hq
    exact hP pre.length _ (by rw [List.getElem?_append_right (Nat.le_refl _), Nat.sub_self]; rfl)
  have hPp : va_P D q_cl pre H := fun i q hq => hP i q (by rw [List.getElem?_append_left (List.getElem?_eq_some_iff.mp hq).1]; exact hq)
  have haz : a < H.size := vx_lt hPa (k := 0) rfl
  have hAa : A a := hD.2 pre.length (a, .inr (ci, fs0)) (by rw [List.getElem?_append_right (Nat.le_refl _), Nat.sub_self]; rfl)
  have hF : ∀ q, (q = a ∨ H.size ≤ q) → A q := fun q h => h.elim (fun h => by rw [h]; exact hAa) (fun h => hA q (Nat.le_trans hS.1 h))
  have hne : ∀ (i : Nat) (q : Nat × va_E), pre[i]? = some q → q.1 ≠ a := fun i q hq e9 => by
    have hi := (List.getElem?_eq_some_iff.mp hq).1
    have := hD.1 i pre.length q (a, .inr (ci, fs0)) (by rw [List.getElem?_append_left hi]; exact hq) (by rw [List.getElem?_append_right (Nat.le_refl _), Nat.sub_self]; rfl) e9
    omega
  refine va_callv (va_runI (As := As) (rest := rest) ⟨hx, hb, hml, hown, hts⟩ (hM D cy a H.size haz) (cwI np hts (q_goodI h5) (congrArg (fun z => z :: q_WS) hcd) rfl rfl (hts _ w1) (hts _ w2) (hts _ w3) hy1 hy ⟨Nat.le_trans hR.1 hf1, ?_⟩) ⟨q_Bc_blind, fun U hU hW => ⟨rfl, by rw [hU], by rw [hU]; exact hPa, va_K.moved hW.alike hK, va_AO.moved hW.alike hAO⟩⟩ rfl hnp hl.1 rfl ?_ dg ⟨by omega, by omega⟩) hS (fun q _ h => hF q h) hF (fun u t H1 locs1 ht hvm hw hB hz1 hk1 hS1 => ?_)
  · have h8 := hR.1
    have h7 := hR.2
    show 8 + (maxL + 11) + 40 * d ≤ R.locals
    omega
  · show 2 * 0 + _ ≤ 8
    omega
  · obtain ⟨hB1, hB2⟩ := hB
    rw [ht] at hB1 hB2
    exact kk H1 locs1 ls ((hPp.kept (fun i q hq => hk1 q.1 (vx_lt hPp hq) (fun h => h.elim (hne i q hq) (fun h => absurd (vx_lt hPp hq) (by omega))))).app hB1) (q_D_app hD (fun q hq => by obtain ⟨i, hi⟩ := List.getElem?_of_mem hq; exact vx_lt hPp hi) haz hb9 (fun q h => hA q (Nat.le_trans hS.1 h))) hS1 hB2 hl

