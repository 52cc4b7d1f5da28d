
/-! the JDK's methods of text: a judgement over a list of cells -/
def q_J (l : Launch) (K : q_K) (u : Nat) (ws : va_W) (pc : Nat) (lv : List (Nat × Value)) (st : List Value) : Prop := match K with
  | (p, e, R, s, m, args, below, meth, c, cells, slots, Q, D, cy, ad, A, nL, L) => ∀ (cl sl : Nat) (H : Heap) (locs : List Loc) (ls : Array Slot), cl ≤ u → sl ≤ 6 * u → va_P D q_cl ws H → va_D A ws → va_S A s.heap H locs → lv_has ls nL lv → W p l e R s m args below meth c H locs cl sl Q (F0 m pc ls st)
def q_Cj (K : q_K) (cc : ByteArray) (own : String) (dd n0 U : Nat) : Prop := match K with
  | (p, e, R, s, m, args, below, meth, c, cells, slots, Q, D, cy, ad, A, nL, L) => p.tables.exec = Jvm.exec ∧ c.code = cc ∧ c.maxLocals = nL ∧ nL = n0 ∧ s.vm.findClass own = some m.cls ∧ (∀ w ∈ q_WS, w.before args s = true) ∧ va_K D q_cl (q_tys cy) s ∧ (∀ q, s.heap.size ≤ q → A q) ∧ dd ≤ R.frames ∧ 40 * dd ≤ R.locals ∧ U ≤ R.cells ∧ 6 * U ≤ R.slots ∧ q_E ad L A s s.heap ∧ q_EX s
def q_Ji (K : q_K) : Prop := match K with
  | (p, e, R, s, m, args, below, meth, c, cells, slots, Q, D, cy, ad, A, nL, L) => meth.name = "<init>"
theorem q_mem_at {ws : va_W} {q : Nat × va_E} (h : q ∈ ws) : ∃ i : Nat, ws[i]? = some q := List.getElem?_of_mem h
theorem va_D_nd {A : Nat → Prop} {ws : va_W} (h : va_D A ws) : (ws.map (fun q => q.1)).Nodup := q_D_nd h
theorem q_selPD {D : va_G} {A : Nat → Prop} {ws : va_W} {H : Heap} (hP : va_P D q_cl ws H) (hD : va_D A ws) (is : List Nat) (hn : is.Nodup) : va_P D q_cl (is.filterMap (fun i => ws[i]?)) H ∧ va_D A (is.filterMap (fun i => ws[i]?)) := by
  have hm : ∀ q ∈ is.filterMap (fun i => ws[i]?), ∃ i ∈ is, ws[i]? = some q := fun q hq => by
    obtain ⟨i, a, b⟩ := List.mem_filterMap.mp hq
    exact ⟨i, a, b⟩
  refine ⟨fun k q hk => ?_, q_nd_D ?_ (fun q hq => ?_)⟩
  · obtain ⟨i, _, h⟩ := hm q (List.mem_of_getElem? hk)
    exact hP i q h
  · clear hm
    induction is with
    | nil => exact List.nodup_nil
    | cons i is ih =>
      have h2 := ih (List.nodup_cons.mp hn).2
      rw [List.filterMap_cons]
      cases e : ws[i]? with
      | none => exact h2
      | some q =>
        rw [List.map_cons, List.nodup_cons]
        refine ⟨fun hq => ?_, h2⟩
        obtain ⟨q', h3, h4⟩ := List.mem_map.mp hq
        obtain ⟨j, hj, h5⟩ := List.mem_filterMap.mp h3
        have := hD.1 j i q' q h5 e h4
        exact (List.nodup_cons.mp hn).1 (this ▸ hj)
  · obtain ⟨i, _, h⟩ := hm q hq
    exact hD.2 i q h
section QJR
variable {l : Launch} {K : q_K} {cc : ByteArray} {own : String} {dd n0 U u pc idx : Nat} {ws : va_W} {lv : List (Nat × Value)} {st : List Value}
theorem j_iconst (C : q_Cj K cc own dd n0 U) {n : Int} {v : Int32} (d : decode cc pc = .ok (.iconst n, 1)) (hv : Int32.ofInt n = v) (k : q_J l K u ws (pc + 1) lv (.int v :: st)) : q_J l K u ws pc lv st := by
  obtain ⟨p, e, R, s, m, args, below, meth, c, cells, slots, Q, D, cy, ad, A, nL, L⟩ := K
  obtain ⟨hx, hb, hml, hnl, hown, hts, hK, hA2, hf1, hf2, hc1, hc2, hE, hEX⟩ := C
  intro cl sl H locs ls hc9 hs9 hP hD hS hl
  exact lv_iconst hx hb d hv (k cl sl H locs ls hc9 hs9 hP hD hS hl)
theorem j_bipush (C : q_Cj K cc own dd n0 U) {n : Int} {v : Int32} (d : decode cc pc = .ok (.bipush n, 2)) (hv : (Int8.ofInt n).toInt32 = v) (k : q_J l K u ws (pc + 2) lv (.int v :: st)) : q_J l K u ws pc lv st := by
  obtain ⟨p, e, R, s, m, args, below, meth, c, cells, slots, Q, D, cy, ad, A, nL, L⟩ := K
  obtain ⟨hx, hb, hml, hnl, hown, hts, hK, hA2, hf1, hf2, hc1, hc2, hE, hEX⟩ := C
  intro cl sl H locs ls hc9 hs9 hP hD hS hl
  exact lv_bipush hx hb d hv (k cl sl H locs ls hc9 hs9 hP hD hS hl)
theorem j_sipush (C : q_Cj K cc own dd n0 U) {n : Int} {v : Int32} (d : decode cc pc = .ok (.sipush n, 3)) (hv : (Int16.ofInt n).toInt32 = v) (k : q_J l K u ws (pc + 3) lv (.int v :: st)) : q_J l K u ws pc lv st := by
  obtain ⟨p, e, R, s, m, args, below, meth, c, cells, slots, Q, D, cy, ad, A, nL, L⟩ := K
  obtain ⟨hx, hb, hml, hnl, hown, hts, hK, hA2, hf1, hf2, hc1, hc2, hE, hEX⟩ := C
  intro cl sl H locs ls hc9 hs9 hP hD hS hl
  exact lv_sipush hx hb d hv (k cl sl H locs ls hc9 hs9 hP hD hS hl)
theorem j_iload_n (C : q_Cj K cc own dd n0 U) {f : Fin 4} {i : Nat} {x : Int32} (d : decode cc pc = .ok (.iload_n f, 1)) (hi9 : (f : Nat) = i) (hk : q_lk i lv = some (.int x)) (k : q_J l K u ws (pc + 1) lv (.int x :: st)) : q_J l K u ws pc lv st := by
  obtain ⟨p, e, R, s, m, args, below, meth, c, cells, slots, Q, D, cy, ad, A, nL, L⟩ := K
  obtain ⟨hx, hb, hml, hnl, hown, hts, hK, hA2, hf1, hf2, hc1, hc2, hE, hEX⟩ := C
  intro cl sl H locs ls hc9 hs9 hP hD hS hl
  exact lv_iload_n hx hb d hi9 (q_hasY hl hk) (k cl sl H locs ls hc9 hs9 hP hD hS hl)
theorem j_iload (C : q_Cj K cc own dd n0 U) {i : Nat} {x : Int32} (d : decode cc pc = .ok (.iload i, 2)) (hk : q_lk i lv = some (.int x)) (k : q_J l K u ws (pc + 2) lv (.int x :: st)) : q_J l K u ws pc lv st := by
  obtain ⟨p, e, R, s, m, args, below, meth, c, cells, slots, Q, D, cy, ad, A, nL, L⟩ := K
  obtain ⟨hx, hb, hml, hnl, hown, hts, hK, hA2, hf1, hf2, hc1, hc2, hE, hEX⟩ := C
  intro cl sl H locs ls hc9 hs9 hP hD hS hl
  exact lv_iload hx hb d (q_hasY hl hk) (k cl sl H locs ls hc9 hs9 hP hD hS hl)
theorem j_aload_n (C : q_Cj K cc own dd n0 U) {f : Fin 4} {i : Nat} {x : Nat} (d : decode cc pc = .ok (.aload_n f, 1)) (hi9 : (f : Nat) = i) (hk : q_lk i lv = some (.ref x)) (k : q_J l K u ws (pc + 1) lv (.ref x :: st)) : q_J l K u ws pc lv st := by
  obtain ⟨p, e, R, s, m, args, below, meth, c, cells, slots, Q, D, cy, ad, A, nL, L⟩ := K
  obtain ⟨hx, hb, hml, hnl, hown, hts, hK, hA2, hf1, hf2, hc1, hc2, hE, hEX⟩ := C
  intro cl sl H locs ls hc9 hs9 hP hD hS hl
  exact lv_aload_n hx hb d hi9 (q_hasY hl hk) (k cl sl H locs ls hc9 hs9 hP hD hS hl)
theorem j_aload (C : q_Cj K cc own dd n0 U) {i : Nat} {x : Nat} (d : decode cc pc = .ok (.aload i, 2)) (hk : q_lk i lv = some (.ref x)) (k : q_J l K u ws (pc + 2) lv (.ref x :: st)) : q_J l K u ws pc lv st := by
  obtain ⟨p, e, R, s, m, args, below, meth, c, cells, slots, Q, D, cy, ad, A, nL, L⟩ := K
  obtain ⟨hx, hb, hml, hnl, hown, hts, hK, hA2, hf1, hf2, hc1, hc2, hE, hEX⟩ := C
  intro cl sl H locs ls hc9 hs9 hP hD hS hl
  exact lv_aload hx hb d (q_hasY hl hk) (k cl sl H locs ls hc9 hs9 hP hD hS hl)
theorem j_istore_n (C : q_Cj K cc own dd n0 U) {f : Fin 4} {i : Nat} {x : Int32} {lv' : List (Nat × Value)} (d : decode cc pc = .ok (.istore_n f, 1)) (hi9 : (f : Nat) = i) (hn : i < n0) (hlv : (i, Value.int x) :: q_lf i lv = lv') (k : q_J l K u ws (pc + 1) lv' st) : q_J l K u ws pc lv (.int x :: st) := by
  obtain ⟨p, e, R, s, m, args, below, meth, c, cells, slots, Q, D, cy, ad, A, nL, L⟩ := K
  obtain ⟨hx, hb, hml, hnl, hown, hts, hK, hA2, hf1, hf2, hc1, hc2, hE, hEX⟩ := C
  intro cl sl H locs ls hc9 hs9 hP hD hS hl
  subst hlv; subst hnl
  exact lv_istore_n hx hb d hi9 hl hn rfl (fun ls' hl' => k cl sl H locs ls' hc9 hs9 hP hD hS hl')
theorem j_istore (C : q_Cj K cc own dd n0 U) {i : Nat} {x : Int32} {lv' : List (Nat × Value)} (d : decode cc pc = .ok (.istore i, 2)) (hn : i < n0) (hlv : (i, Value.int x) :: q_lf i lv = lv') (k : q_J l K u ws (pc + 2) lv' st) : q_J l K u ws pc lv (.int x :: st) := by
  obtain ⟨p, e, R, s, m, args, below, meth, c, cells, slots, Q, D, cy, ad, A, nL, L⟩ := K
  obtain ⟨hx, hb, hml, hnl, hown, hts, hK, hA2, hf1, hf2, hc1, hc2, hE, hEX⟩ := C
  intro cl sl H locs ls hc9 hs9 hP hD hS hl
  subst hlv; subst hnl
  exact lv_istore hx hb d hl hn rfl (fun ls' hl' => k cl sl H locs ls' hc9 hs9 hP hD hS hl')
theorem j_astore_n (C : q_Cj K cc own dd n0 U) {f : Fin 4} {i : Nat} {x : Nat} {lv' : List (Nat × Value)} (d : decode cc pc = .ok (.astore_n f, 1)) (hi9 : (f : Nat) = i) (hn : i < n0) (hlv : (i, Value.ref x) :: q_lf i lv = lv') (k : q_J l K u ws (pc + 1) lv' st) : q_J l K u ws pc lv (.ref x :: st) := by
  obtain ⟨p, e, R, s, m, args, below, meth, c, cells, slots, Q, D, cy, ad, A, nL, L⟩ := K
  obtain ⟨hx, hb, hml, hnl, hown, hts, hK, hA2, hf1, hf2, hc1, hc2, hE, hEX⟩ := C
  intro cl sl H locs ls hc9 hs9 hP hD hS hl
  subst hlv; subst hnl
  exact lv_astore_n hx hb d hi9 hl hn rfl (fun ls' hl' => k cl sl H locs ls' hc9 hs9 hP hD hS hl')
theorem j_astore (C : q_Cj K cc own dd n0 U) {i : Nat} {x : Nat} {lv' : List (Nat × Value)} (d : decode cc pc = .ok (.astore i, 2)) (hn : i < n0) (hlv : (i, Value.ref x) :: q_lf i lv = lv') (k : q_J l K u ws (pc + 2) lv' st) : q_J l K u ws pc lv (.ref x :: st) := by
  obtain ⟨p, e, R, s, m, args, below, meth, c, cells, slots, Q, D, cy, ad, A, nL, L⟩ := K
  obtain ⟨hx, hb, hml, hnl, hown, hts, hK, hA2, hf1, hf2, hc1, hc2, hE, hEX⟩ := C
  intro cl sl H locs ls hc9 hs9 hP hD hS hl
  subst hlv; subst hnl
  exact lv_astore hx hb d hl hn rfl (fun ls' hl' => k cl sl H locs ls' hc9 hs9 hP hD hS hl')
theorem j_iinc (C : q_Cj K cc own dd n0 U) {i : Nat} {n : Int} {x v : Int32} {lv' : List (Nat × Value)} (d : decode cc pc = .ok (.iinc i n, 3)) (hk : q_lk i lv = some (.int x)) (hv : x + Int32.ofInt n = v) (hn : i < n0) (hlv : (i, Value.int v) :: q_lf i lv = lv') (k : q_J l K u ws (pc + 3) lv' st) : q_J l K u ws pc lv st := by
  obtain ⟨p, e, R, s, m, args, below, meth, c, cells, slots, Q, D, cy, ad, A, nL, L⟩ := K
  obtain ⟨hx, hb, hml, hnl, hown, hts, hK, hA2, hf1, hf2, hc1, hc2, hE, hEX⟩ := C
  intro cl sl H locs ls hc9 hs9 hP hD hS hl
  subst hlv; subst hnl
  obtain ⟨k0, hk0⟩ := List.getElem?_of_mem (q_lk_mem hk)
  exact lv_iinc hx hb d hl hk0 hv hn rfl (fun ls' hl' => k cl sl H locs ls' hc9 hs9 hP hD hS hl')
theorem j_iadd (C : q_Cj K cc own dd n0 U) {x y : Int32} (d : decode cc pc = .ok (.iadd, 1)) (k : q_J l K u ws (pc + 1) lv (.int (x + y) :: st)) : q_J l K u ws pc lv (.int y :: .int x :: st) := by
  obtain ⟨p, e, R, s, m, args, below, meth, c, cells, slots, Q, D, cy, ad, A, nL, L⟩ := K
  obtain ⟨hx, hb, hml, hnl, hown, hts, hK, hA2, hf1, hf2, hc1, hc2, hE, hEX⟩ := C
  intro cl sl H locs ls hc9 hs9 hP hD hS hl
  exact lv_iadd hx hb d (k cl sl H locs ls hc9 hs9 hP hD hS hl)
theorem j_isub (C : q_Cj K cc own dd n0 U) {x y : Int32} (d : decode cc pc = .ok (.isub, 1)) (k : q_J l K u ws (pc + 1) lv (.int (x - y) :: st)) : q_J l K u ws pc lv (.int y :: .int x :: st) := by
  obtain ⟨p, e, R, s, m, args, below, meth, c, cells, slots, Q, D, cy, ad, A, nL, L⟩ := K
  obtain ⟨hx, hb, hml, hnl, hown, hts, hK, hA2, hf1, hf2, hc1, hc2, hE, hEX⟩ := C
  intro cl sl H locs ls hc9 hs9 hP hD hS hl
  exact lv_isub hx hb d (k cl sl H locs ls hc9 hs9 hP hD hS hl)
theorem j_imul (C : q_Cj K cc own dd n0 U) {x y : Int32} (d : decode cc pc = .ok (.imul, 1)) (k : q_J l K u ws (pc + 1) lv (.int (x * y) :: st)) : q_J l K u ws pc lv (.int y :: .int x :: st) := by
  obtain ⟨p, e, R, s, m, args, below, meth, c, cells, slots, Q, D, cy, ad, A, nL, L⟩ := K
  obtain ⟨hx, hb, hml, hnl, hown, hts, hK, hA2, hf1, hf2, hc1, hc2, hE, hEX⟩ := C
  intro cl sl H locs ls hc9 hs9 hP hD hS hl
  exact lv_imul hx hb d (k cl sl H locs ls hc9 hs9 hP hD hS hl)
theorem j_iand (C : q_Cj K cc own dd n0 U) {x y : Int32} (d : decode cc pc = .ok (.iand, 1)) (k : q_J l K u ws (pc + 1) lv (.int (x &&& y) :: st)) : q_J l K u ws pc lv (.int y :: .int x :: st) := by
  obtain ⟨p, e, R, s, m, args, below, meth, c, cells, slots, Q, D, cy, ad, A, nL, L⟩ := K
  obtain ⟨hx, hb, hml, hnl, hown, hts, hK, hA2, hf1, hf2, hc1, hc2, hE, hEX⟩ := C
  intro cl sl H locs ls hc9 hs9 hP hD hS hl
  exact lv_iand hx hb d (k cl sl H locs ls hc9 hs9 hP hD hS hl)
theorem j_ior (C : q_Cj K cc own dd n0 U) {x y : Int32} (d : decode cc pc = .ok (.ior, 1)) (k : q_J l K u ws (pc + 1) lv (.int (x ||| y) :: st)) : q_J l K u ws pc lv (.int y :: .int x :: st) := by
  obtain ⟨p, e, R, s, m, args, below, meth, c, cells, slots, Q, D, cy, ad, A, nL, L⟩ := K
  obtain ⟨hx, hb, hml, hnl, hown, hts, hK, hA2, hf1, hf2, hc1, hc2, hE, hEX⟩ := C
  intro cl sl H locs ls hc9 hs9 hP hD hS hl
  exact lv_ior hx hb d (k cl sl H locs ls hc9 hs9 hP hD hS hl)
theorem j_ixor (C : q_Cj K cc own dd n0 U) {x y : Int32} (d : decode cc pc = .ok (.ixor, 1)) (k : q_J l K u ws (pc + 1) lv (.int (x ^^^ y) :: st)) : q_J l K u ws pc lv (.int y :: .int x :: st) := by
  obtain ⟨p, e, R, s, m, args, below, meth, c, cells, slots, Q, D, cy, ad, A, nL, L⟩ := K
  obtain ⟨hx, hb, hml, hnl, hown, hts, hK, hA2, hf1, hf2, hc1, hc2, hE, hEX⟩ := C
  intro cl sl H locs ls hc9 hs9 hP hD hS hl
  exact lv_ixor hx hb d (k cl sl H locs ls hc9 hs9 hP hD hS hl)
theorem j_ishl (C : q_Cj K cc own dd n0 U) {x y : Int32} (d : decode cc pc = .ok (.ishl, 1)) (k : q_J l K u ws (pc + 1) lv (.int (x <<< (y &&& 31)) :: st)) : q_J l K u ws pc lv (.int y :: .int x :: st) := by
  obtain ⟨p, e, R, s, m, args, below, meth, c, cells, slots, Q, D, cy, ad, A, nL, L⟩ := K
  obtain ⟨hx, hb, hml, hnl, hown, hts, hK, hA2, hf1, hf2, hc1, hc2, hE, hEX⟩ := C
  intro cl sl H locs ls hc9 hs9 hP hD hS hl
  exact lv_ishl hx hb d (k cl sl H locs ls hc9 hs9 hP hD hS hl)
theorem j_idiv (C : q_Cj K cc own dd n0 U) {x y : Int32} (h0 : ¬ y = 0) (d : decode cc pc = .ok (.idiv, 1)) (k : q_J l K u ws (pc + 1) lv (.int (x / y) :: st)) : q_J l K u ws pc lv (.int y :: .int x :: st) := by
  obtain ⟨p, e, R, s, m, args, below, meth, c, cells, slots, Q, D, cy, ad, A, nL, L⟩ := K
  obtain ⟨hx, hb, hml, hnl, hown, hts, hK, hA2, hf1, hf2, hc1, hc2, hE, hEX⟩ := C
  intro cl sl H locs ls hc9 hs9 hP hD hS hl
  exact lv_idiv hx hb d h0 (k cl sl H locs ls hc9 hs9 hP hD hS hl)
theorem j_irem (C : q_Cj K cc own dd n0 U) {x y : Int32} (h0 : ¬ y = 0) (d : decode cc pc = .ok (.irem, 1)) (k : q_J l K u ws (pc + 1) lv (.int (x - x / y * y) :: st)) : q_J l K u ws pc lv (.int y :: .int x :: st) := by
  obtain ⟨p, e, R, s, m, args, below, meth, c, cells, slots, Q, D, cy, ad, A, nL, L⟩ := K
  obtain ⟨hx, hb, hml, hnl, hown, hts, hK, hA2, hf1, hf2, hc1, hc2, hE, hEX⟩ := C
  intro cl sl H locs ls hc9 hs9 hP hD hS hl
  exact lv_irem hx hb d h0 (k cl sl H locs ls hc9 hs9 hP hD hS hl)
theorem j_ineg (C : q_Cj K cc own dd n0 U) {x : Int32} (d : decode cc pc = .ok (.ineg, 1)) (k : q_J l K u ws (pc + 1) lv (.int (-x) :: st)) : q_J l K u ws pc lv (.int x :: st) := by
  obtain ⟨p, e, R, s, m, args, below, meth, c, cells, slots, Q, D, cy, ad, A, nL, L⟩ := K
  obtain ⟨hx, hb, hml, hnl, hown, hts, hK, hA2, hf1, hf2, hc1, hc2, hE, hEX⟩ := C
  intro cl sl H locs ls hc9 hs9 hP hD hS hl
  exact lv_ineg hx hb d (k cl sl H locs ls hc9 hs9 hP hD hS hl)
theorem j_dup (C : q_Cj K cc own dd n0 U) {v : Value} (hcat : v.category = 1) (d : decode cc pc = .ok (.dup, 1)) (k : q_J l K u ws (pc + 1) lv (v :: v :: st)) : q_J l K u ws pc lv (v :: st) := by
  obtain ⟨p, e, R, s, m, args, below, meth, c, cells, slots, Q, D, cy, ad, A, nL, L⟩ := K
  obtain ⟨hx, hb, hml, hnl, hown, hts, hK, hA2, hf1, hf2, hc1, hc2, hE, hEX⟩ := C
  intro cl sl H locs ls hc9 hs9 hP hD hS hl
  exact lv_dup hx hb d hcat (k cl sl H locs ls hc9 hs9 hP hD hS hl)
theorem j_pop (C : q_Cj K cc own dd n0 U) {v : Value} (hcat : v.category = 1) (d : decode cc pc = .ok (.pop, 1)) (k : q_J l K u ws (pc + 1) lv st) : q_J l K u ws pc lv (v :: st) := by
  obtain ⟨p, e, R, s, m, args, below, meth, c, cells, slots, Q, D, cy, ad, A, nL, L⟩ := K
  obtain ⟨hx, hb, hml, hnl, hown, hts, hK, hA2, hf1, hf2, hc1, hc2, hE, hEX⟩ := C
  intro cl sl H locs ls hc9 hs9 hP hD hS hl
  exact lv_pop hx hb d hcat (k cl sl H locs ls hc9 hs9 hP hD hS hl)
theorem j_dup2 (C : q_Cj K cc own dd n0 U) {v w : Value} (hcv : v.category = 1) (hcu : w.category = 1) (d : decode cc pc = .ok (.dup2, 1)) (k : q_J l K u ws (pc + 1) lv (v :: w :: v :: w :: st)) : q_J l K u ws pc lv (v :: w :: st) := by
  obtain ⟨p, e, R, s, m, args, below, meth, c, cells, slots, Q, D, cy, ad, A, nL, L⟩ := K
  obtain ⟨hx, hb, hml, hnl, hown, hts, hK, hA2, hf1, hf2, hc1, hc2, hE, hEX⟩ := C
  intro cl sl H locs ls hc9 hs9 hP hD hS hl
  exact lv_dup2_11 hx hb d hcv hcu (k cl sl H locs ls hc9 hs9 hP hD hS hl)
theorem j_if_eq (C : q_Cj K cc own dd n0 U) {x : Int32} {off : Int} {tgt : Nat} (d : decode cc pc = .ok (.ifCond .eq off, 3)) (ht : (pc : Int) + off = (tgt : Int)) (kt : x = 0 → q_J l K u ws tgt lv st) (kf : x ≠ 0 → q_J l K u ws (pc + 3) lv st) : q_J l K u ws pc lv (.int x :: st) := by
  obtain ⟨p, e, R, s, m, args, below, meth, c, cells, slots, Q, D, cy, ad, A, nL, L⟩ := K
  obtain ⟨hx, hb, hml, hnl, hown, hts, hK, hA2, hf1, hf2, hc1, hc2, hE, hEX⟩ := C
  intro cl sl H locs ls hc9 hs9 hP hD hS hl
  exact lv_if_eq hx hb d ht (fun h => kt h cl sl H locs ls hc9 hs9 hP hD hS hl) (fun h => kf h cl sl H locs ls hc9 hs9 hP hD hS hl)
theorem j_icmp_eq (C : q_Cj K cc own dd n0 U) {x y : Int32} {off : Int} {tgt : Nat} (d : decode cc pc = .ok (.if_icmp .eq off, 3)) (ht : (pc : Int) + off = (tgt : Int)) (kt : x = y → q_J l K u ws tgt lv st) (kf : x ≠ y → q_J l K u ws (pc + 3) lv st) : q_J l K u ws pc lv (.int y :: .int x :: st) := by
  obtain ⟨p, e, R, s, m, args, below, meth, c, cells, slots, Q, D, cy, ad, A, nL, L⟩ := K
  obtain ⟨hx, hb, hml, hnl, hown, hts, hK, hA2, hf1, hf2, hc1, hc2, hE, hEX⟩ := C
  intro cl sl H locs ls hc9 hs9 hP hD hS hl
  exact lv_icmp_eq hx hb d ht (fun h => kt h cl sl H locs ls hc9 hs9 hP hD hS hl) (fun h => kf h cl sl H locs ls hc9 hs9 hP hD hS hl)
theorem j_if_ne (C : q_Cj K cc own dd n0 U) {x : Int32} {off : Int} {tgt : Nat} (d : decode cc pc = .ok (.ifCond .ne off, 3)) (ht : (pc : Int) + off = (tgt : Int)) (kt : x ≠ 0 → q_J l K u ws tgt lv st) (kf : x = 0 → q_J l K u ws (pc + 3) lv st) : q_J l K u ws pc lv (.int x :: st) := by
  obtain ⟨p, e, R, s, m, args, below, meth, c, cells, slots, Q, D, cy, ad, A, nL, L⟩ := K
  obtain ⟨hx, hb, hml, hnl, hown, hts, hK, hA2, hf1, hf2, hc1, hc2, hE, hEX⟩ := C
  intro cl sl H locs ls hc9 hs9 hP hD hS hl
  exact lv_if_ne hx hb d ht (fun h => kt h cl sl H locs ls hc9 hs9 hP hD hS hl) (fun h => kf h cl sl H locs ls hc9 hs9 hP hD hS hl)
theorem j_icmp_ne (C : q_Cj K cc own dd n0 U) {x y : Int32} {off : Int} {tgt : Nat} (d : decode cc pc = .ok (.if_icmp .ne off, 3)) (ht : (pc : Int) + off = (tgt : Int)) (kt : x ≠ y → q_J l K u ws tgt lv st) (kf : x = y → q_J l K u ws (pc + 3) lv st) : q_J l K u ws pc lv (.int y :: .int x :: st) := by
  obtain ⟨p, e, R, s, m, args, below, meth, c, cells, slots, Q, D, cy, ad, A, nL, L⟩ := K
  obtain ⟨hx, hb, hml, hnl, hown, hts, hK, hA2, hf1, hf2, hc1, hc2, hE, hEX⟩ := C
  intro cl sl H locs ls hc9 hs9 hP hD hS hl
  exact lv_icmp_ne hx hb d ht (fun h => kt h cl sl H locs ls hc9 hs9 hP hD hS hl) (fun h => kf h cl sl H locs ls hc9 hs9 hP hD hS hl)
theorem j_if_lt (C : q_Cj K cc own dd n0 U) {x : Int32} {off : Int} {tgt : Nat} (d : decode cc pc = .ok (.ifCond .lt off, 3)) (ht : (pc : Int) + off = (tgt : Int)) (kt : x < 0 → q_J l K u ws tgt lv st) (kf : 0 ≤ x → q_J l K u ws (pc + 3) lv st) : q_J l K u ws pc lv (.int x :: st) := by
  obtain ⟨p, e, R, s, m, args, below, meth, c, cells, slots, Q, D, cy, ad, A, nL, L⟩ := K
  obtain ⟨hx, hb, hml, hnl, hown, hts, hK, hA2, hf1, hf2, hc1, hc2, hE, hEX⟩ := C
  intro cl sl H locs ls hc9 hs9 hP hD hS hl
  exact lv_if_lt hx hb d ht (fun h => kt h cl sl H locs ls hc9 hs9 hP hD hS hl) (fun h => kf (Int32.not_lt.mp h) cl sl H locs ls hc9 hs9 hP hD hS hl)
theorem j_icmp_lt (C : q_Cj K cc own dd n0 U) {x y : Int32} {off : Int} {tgt : Nat} (d : decode cc pc = .ok (.if_icmp .lt off, 3)) (ht : (pc : Int) + off = (tgt : Int)) (kt : x < y → q_J l K u ws tgt lv st) (kf : y ≤ x → q_J l K u ws (pc + 3) lv st) : q_J l K u ws pc lv (.int y :: .int x :: st) := by
  obtain ⟨p, e, R, s, m, args, below, meth, c, cells, slots, Q, D, cy, ad, A, nL, L⟩ := K
  obtain ⟨hx, hb, hml, hnl, hown, hts, hK, hA2, hf1, hf2, hc1, hc2, hE, hEX⟩ := C
  intro cl sl H locs ls hc9 hs9 hP hD hS hl
  exact lv_icmp_lt hx hb d ht (fun h => kt h cl sl H locs ls hc9 hs9 hP hD hS hl) (fun h => kf (Int32.not_lt.mp h) cl sl H locs ls hc9 hs9 hP hD hS hl)
theorem j_if_ge (C : q_Cj K cc own dd n0 U) {x : Int32} {off : Int} {tgt : Nat} (d : decode cc pc = .ok (.ifCond .ge off, 3)) (ht : (pc : Int) + off = (tgt : Int)) (kt : 0 ≤ x → q_J l K u ws tgt lv st) (kf : x < 0 → q_J l K u ws (pc + 3) lv st) : q_J l K u ws pc lv (.int x :: st) := by
  obtain ⟨p, e, R, s, m, args, below, meth, c, cells, slots, Q, D, cy, ad, A, nL, L⟩ := K
  obtain ⟨hx, hb, hml, hnl, hown, hts, hK, hA2, hf1, hf2, hc1, hc2, hE, hEX⟩ := C
  intro cl sl H locs ls hc9 hs9 hP hD hS hl
  exact lv_if_ge hx hb d ht (fun h => kt h cl sl H locs ls hc9 hs9 hP hD hS hl) (fun h => kf (Int32.not_le.mp h) cl sl H locs ls hc9 hs9 hP hD hS hl)
theorem j_icmp_ge (C : q_Cj K cc own dd n0 U) {x y : Int32} {off : Int} {tgt : Nat} (d : decode cc pc = .ok (.if_icmp .ge off, 3)) (ht : (pc : Int) + off = (tgt : Int)) (kt : y ≤ x → q_J l K u ws tgt lv st) (kf : x < y → q_J l K u ws (pc + 3) lv st) : q_J l K u ws pc lv (.int y :: .int x :: st) := by
  obtain ⟨p, e, R, s, m, args, below, meth, c, cells, slots, Q, D, cy, ad, A, nL, L⟩ := K
  obtain ⟨hx, hb, hml, hnl, hown, hts, hK, hA2, hf1, hf2, hc1, hc2, hE, hEX⟩ := C
  intro cl sl H locs ls hc9 hs9 hP hD hS hl
  exact lv_icmp_ge hx hb d ht (fun h => kt h cl sl H locs ls hc9 hs9 hP hD hS hl) (fun h => kf (Int32.not_le.mp h) cl sl H locs ls hc9 hs9 hP hD hS hl)
theorem j_if_gt (C : q_Cj K cc own dd n0 U) {x : Int32} {off : Int} {tgt : Nat} (d : decode cc pc = .ok (.ifCond .gt off, 3)) (ht : (pc : Int) + off = (tgt : Int)) (kt : 0 < x → q_J l K u ws tgt lv st) (kf : x ≤ 0 → q_J l K u ws (pc + 3) lv st) : q_J l K u ws pc lv (.int x :: st) := by
  obtain ⟨p, e, R, s, m, args, below, meth, c, cells, slots, Q, D, cy, ad, A, nL, L⟩ := K
  obtain ⟨hx, hb, hml, hnl, hown, hts, hK, hA2, hf1, hf2, hc1, hc2, hE, hEX⟩ := C
  intro cl sl H locs ls hc9 hs9 hP hD hS hl
  exact lv_if_gt hx hb d ht (fun h => kt h cl sl H locs ls hc9 hs9 hP hD hS hl) (fun h => kf (Int32.not_lt.mp h) cl sl H locs ls hc9 hs9 hP hD hS hl)
theorem j_icmp_gt (C : q_Cj K cc own dd n0 U) {x y : Int32} {off : Int} {tgt : Nat} (d : decode cc pc = .ok (.if_icmp .gt off, 3)) (ht : (pc : Int) + off = (tgt : Int)) (kt : y < x → q_J l K u ws tgt lv st) (kf : x ≤ y → q_J l K u ws (pc + 3) lv st) : q_J l K u ws pc lv (.int y :: .int x :: st) := by
  obtain ⟨p, e, R, s, m, args, below, meth, c, cells, slots, Q, D, cy, ad, A, nL, L⟩ := K
  obtain ⟨hx, hb, hml, hnl, hown, hts, hK, hA2, hf1, hf2, hc1, hc2, hE, hEX⟩ := C
  intro cl sl H locs ls hc9 hs9 hP hD hS hl
  exact lv_icmp_gt hx hb d ht (fun h => kt h cl sl H locs ls hc9 hs9 hP hD hS hl) (fun h => kf (Int32.not_lt.mp h) cl sl H locs ls hc9 hs9 hP hD hS hl)
theorem j_if_le (C : q_Cj K cc own dd n0 U) {x : Int32} {off : Int} {tgt : Nat} (d : decode cc pc = .ok (.ifCond .le off, 3)) (ht : (pc : Int) + off = (tgt : Int)) (kt : x ≤ 0 → q_J l K u ws tgt lv st) (kf : 0 < x → q_J l K u ws (pc + 3) lv st) : q_J l K u ws pc lv (.int x :: st) := by
  obtain ⟨p, e, R, s, m, args, below, meth, c, cells, slots, Q, D, cy, ad, A, nL, L⟩ := K
  obtain ⟨hx, hb, hml, hnl, hown, hts, hK, hA2, hf1, hf2, hc1, hc2, hE, hEX⟩ := C
  intro cl sl H locs ls hc9 hs9 hP hD hS hl
  exact lv_if_le hx hb d ht (fun h => kt h cl sl H locs ls hc9 hs9 hP hD hS hl) (fun h => kf (Int32.not_le.mp h) cl sl H locs ls hc9 hs9 hP hD hS hl)
theorem j_icmp_le (C : q_Cj K cc own dd n0 U) {x y : Int32} {off : Int} {tgt : Nat} (d : decode cc pc = .ok (.if_icmp .le off, 3)) (ht : (pc : Int) + off = (tgt : Int)) (kt : x ≤ y → q_J l K u ws tgt lv st) (kf : y < x → q_J l K u ws (pc + 3) lv st) : q_J l K u ws pc lv (.int y :: .int x :: st) := by
  obtain ⟨p, e, R, s, m, args, below, meth, c, cells, slots, Q, D, cy, ad, A, nL, L⟩ := K
  obtain ⟨hx, hb, hml, hnl, hown, hts, hK, hA2, hf1, hf2, hc1, hc2, hE, hEX⟩ := C
  intro cl sl H locs ls hc9 hs9 hP hD hS hl
  exact lv_icmp_le hx hb d ht (fun h => kt h cl sl H locs ls hc9 hs9 hP hD hS hl) (fun h => kf (Int32.not_le.mp h) cl sl H locs ls hc9 hs9 hP hD hS hl)
theorem j_goto (C : q_Cj K cc own dd n0 U) {off : Int} {tgt : Nat} (d : decode cc pc = .ok (.goto off, 3)) (ht : (pc : Int) + off = (tgt : Int)) (k : q_J l K u ws tgt lv st) : q_J l K u ws pc lv st := by
  obtain ⟨p, e, R, s, m, args, below, meth, c, cells, slots, Q, D, cy, ad, A, nL, L⟩ := K
  obtain ⟨hx, hb, hml, hnl, hown, hts, hK, hA2, hf1, hf2, hc1, hc2, hE, hEX⟩ := C
  intro cl sl H locs ls hc9 hs9 hP hD hS hl
  exact lv_goto hx hb d ht (k cl sl H locs ls hc9 hs9 hP hD hS hl)
theorem j_tabout (C : q_Cj K cc own dd n0 U) {dflt lo hi : Int} {offs : Array Int} {len : Nat} {x : Int32} {tgt : Nat} (d : decode cc pc = .ok (.tableswitch dflt lo hi offs, len)) (h : x.toInt < lo ∨ hi < x.toInt) (ht : (pc : Int) + dflt = (tgt : Int)) (k : q_J l K u ws tgt lv st) : q_J l K u ws pc lv (.int x :: st) := by
  obtain ⟨p, e, R, s, m, args, below, meth, c, cells, slots, Q, D, cy, ad, A, nL, L⟩ := K
  obtain ⟨hx, hb, hml, hnl, hown, hts, hK, hA2, hf1, hf2, hc1, hc2, hE, hEX⟩ := C
  intro cl sl H locs ls hc9 hs9 hP hD hS hl
  exact lv_tableOut hx hb d h ht (k cl sl H locs ls hc9 hs9 hP hD hS hl)
theorem j_tabin (C : q_Cj K cc own dd n0 U) {dflt lo hi : Int} {offs : Array Int} {len : Nat} {x : Int32} {off : Int} {tgt : Nat} (d : decode cc pc = .ok (.tableswitch dflt lo hi offs, len)) (h1 : ¬ x.toInt < lo) (h2 : ¬ hi < x.toInt) (ho : offs[(x.toInt - lo).toNat]? = some off) (ht : (pc : Int) + off = (tgt : Int)) (k : q_J l K u ws tgt lv st) : q_J l K u ws pc lv (.int x :: st) := by
  obtain ⟨p, e, R, s, m, args, below, meth, c, cells, slots, Q, D, cy, ad, A, nL, L⟩ := K
  obtain ⟨hx, hb, hml, hnl, hown, hts, hK, hA2, hf1, hf2, hc1, hc2, hE, hEX⟩ := C
  intro cl sl H locs ls hc9 hs9 hP hD hS hl
  exact lv_tableIn hx hb d h1 h2 ho ht (k cl sl H locs ls hc9 hs9 hP hD hS hl)
theorem j_iaddN {a b : Nat} {x y : Int32} (C : q_Cj K cc own dd n0 U) (d : decode cc pc = .ok (.iadd, 1)) (h1 : x = nI a) (h2 : y = nI b) (k : q_J l K u ws (pc + 1) lv (.int (nI (a + b)) :: st)) : q_J l K u ws pc lv (.int y :: .int x :: st) := by
  subst h1; subst h2
  exact j_iadd C d (by rw [nI_add a b]; exact k)
theorem j_imulN {a b : Nat} {x y : Int32} (C : q_Cj K cc own dd n0 U) (d : decode cc pc = .ok (.imul, 1)) (h1 : x = nI a) (h2 : y = nI b) (k : q_J l K u ws (pc + 1) lv (.int (nI (a * b)) :: st)) : q_J l K u ws pc lv (.int y :: .int x :: st) := by
  subst h1; subst h2
  exact j_imul C d (by rw [pk_mul a b]; exact k)
theorem j_isubN {a b : Nat} {x y : Int32} (C : q_Cj K cc own dd n0 U) (d : decode cc pc = .ok (.isub, 1)) (h1 : x = nI a) (h2 : y = nI b) (hab : b ≤ a) (k : q_J l K u ws (pc + 1) lv (.int (nI (a - b)) :: st)) : q_J l K u ws pc lv (.int y :: .int x :: st) := by
  subst h1; subst h2
  exact j_isub C d (by rw [pk_sub hab]; exact k)
theorem j_iaddE {v x y : Int32} (C : q_Cj K cc own dd n0 U) (d : decode cc pc = .ok (.iadd, 1)) (h : x + y = v) (k : q_J l K u ws (pc + 1) lv (.int v :: st)) : q_J l K u ws pc lv (.int y :: .int x :: st) := by
  subst h
  exact j_iadd C d k
theorem j_isubE {v x y : Int32} (C : q_Cj K cc own dd n0 U) (d : decode cc pc = .ok (.isub, 1)) (h : x - y = v) (k : q_J l K u ws (pc + 1) lv (.int v :: st)) : q_J l K u ws pc lv (.int y :: .int x :: st) := by
  subst h
  exact j_isub C d k
theorem j_imulE {v x y : Int32} (C : q_Cj K cc own dd n0 U) (d : decode cc pc = .ok (.imul, 1)) (h : x * y = v) (k : q_J l K u ws (pc + 1) lv (.int v :: st)) : q_J l K u ws pc lv (.int y :: .int x :: st) := by
  subst h
  exact j_imul C d k
theorem j_idivN {a b : Nat} {x y : Int32} (C : q_Cj K cc own dd n0 U) (d : decode cc pc = .ok (.idiv, 1)) (h1 : x = nI a) (h2 : y = nI b) (ha : a < 2 ^ 31) (h0 : 0 < b) (hb : b < 2 ^ 31) (k : q_J l K u ws (pc + 1) lv (.int (nI (a / b)) :: st)) : q_J l K u ws pc lv (.int y :: .int x :: st) := by
  subst h1; subst h2
  exact j_idiv (h0 := nI_ne0 h0 hb) C d (by rw [pk_div ha h0 hb]; exact k)
theorem j_iremN {a b : Nat} {x y : Int32} (C : q_Cj K cc own dd n0 U) (d : decode cc pc = .ok (.irem, 1)) (h1 : x = nI a) (h2 : y = nI b) (ha : a < 2 ^ 31) (h0 : 0 < b) (hb : b < 2 ^ 31) (k : q_J l K u ws (pc + 1) lv (.int (nI (a % b)) :: st)) : q_J l K u ws pc lv (.int y :: .int x :: st) := by
  subst h1; subst h2
  exact j_irem (h0 := nI_ne0 h0 hb) C d (by rw [pk_rem ha h0 hb]; exact k)
theorem j_icmp_eqN {a b : Nat} {x y : Int32} {off : Int} {tgt : Nat} (C : q_Cj K cc own dd n0 U) (d : decode cc pc = .ok (.if_icmp .eq off, 3)) (ht : (pc : Int) + off = (tgt : Int)) (h1 : x = nI a) (h2 : y = nI b) (ha : a < 2 ^ 31) (hb9 : b < 2 ^ 31) (kt : a = b → q_J l K u ws tgt lv st) (kf : a ≠ b → q_J l K u ws (pc + 3) lv st) : q_J l K u ws pc lv (.int y :: .int x :: st) := by
  subst h1; subst h2
  exact j_icmp_eq C d ht (fun h => kt ((nI_eq ha hb9).mp h)) (fun h => kf (fun e => h ((nI_eq ha hb9).mpr e)))
theorem j_if_eqN {a : Nat} {x : Int32} {off : Int} {tgt : Nat} (C : q_Cj K cc own dd n0 U) (d : decode cc pc = .ok (.ifCond .eq off, 3)) (ht : (pc : Int) + off = (tgt : Int)) (h1 : x = nI a) (ha : a < 2 ^ 31) (kt : a = 0 → q_J l K u ws tgt lv st) (kf : a ≠ 0 → q_J l K u ws (pc + 3) lv st) : q_J l K u ws pc lv (.int x :: st) := by
  subst h1
  have e0 : (0 : Int32) = nI 0 := rfl
  have h0 : (0 : Nat) < 2 ^ 31 := by omega
  refine j_if_eq C d ht (fun h => kt ?_) (fun h => kf ?_)
  · rw [e0] at h
    first | (have := (nI_eq ha h0).mp h; omega) | (have : a ≠ 0 := fun e => h ((nI_eq ha h0).mpr e); omega) | (have := (nI_ltI ha h0).mp h; omega) | (have := (nI_leI h0 ha).mp h; trivial) | (have := (nI_ltI h0 ha).mp h; omega) | (have := (nI_leI ha h0).mp h; omega)
  · rw [e0] at h
    first | (have := (nI_eq ha h0).mp h; omega) | (have : a ≠ 0 := fun e => h ((nI_eq ha h0).mpr e); omega) | (have := (nI_ltI ha h0).mp h; omega) | (have := (nI_leI h0 ha).mp h; trivial) | (have := (nI_ltI h0 ha).mp h; omega) | (have := (nI_leI ha h0).mp h; omega)
theorem j_icmp_neN {a b : Nat} {x y : Int32} {off : Int} {tgt : Nat} (C : q_Cj K cc own dd n0 U) (d : decode cc pc = .ok (.if_icmp .ne off, 3)) (ht : (pc : Int) + off = (tgt : Int)) (h1 : x = nI a) (h2 : y = nI b) (ha : a < 2 ^ 31) (hb9 : b < 2 ^ 31) (kt : a ≠ b → q_J l K u ws tgt lv st) (kf : a = b → q_J l K u ws (pc + 3) lv st) : q_J l K u ws pc lv (.int y :: .int x :: st) := by
  subst h1; subst h2
  exact j_icmp_ne C d ht (fun h => kt (fun e => h ((nI_eq ha hb9).mpr e))) (fun h => kf ((nI_eq ha hb9).mp h))
theorem j_if_neN {a : Nat} {x : Int32} {off : Int} {tgt : Nat} (C : q_Cj K cc own dd n0 U) (d : decode cc pc = .ok (.ifCond .ne off, 3)) (ht : (pc : Int) + off = (tgt : Int)) (h1 : x = nI a) (ha : a < 2 ^ 31) (kt : a ≠ 0 → q_J l K u ws tgt lv st) (kf : a = 0 → q_J l K u ws (pc + 3) lv st) : q_J l K u ws pc lv (.int x :: st) := by
  subst h1
  have e0 : (0 : Int32) = nI 0 := rfl
  have h0 : (0 : Nat) < 2 ^ 31 := by omega
  refine j_if_ne C d ht (fun h => kt ?_) (fun h => kf ?_)
  · rw [e0] at h
    first | (have := (nI_eq ha h0).mp h; omega) | (have : a ≠ 0 := fun e => h ((nI_eq ha h0).mpr e); omega) | (have := (nI_ltI ha h0).mp h; omega) | (have := (nI_leI h0 ha).mp h; trivial) | (have := (nI_ltI h0 ha).mp h; omega) | (have := (nI_leI ha h0).mp h; omega)
  · rw [e0] at h
    first | (have := (nI_eq ha h0).mp h; omega) | (have : a ≠ 0 := fun e => h ((nI_eq ha h0).mpr e); omega) | (have := (nI_ltI ha h0).mp h; omega) | (have := (nI_leI h0 ha).mp h; trivial) | (have := (nI_ltI h0 ha).mp h; omega) | (have := (nI_leI ha h0).mp h; omega)
theorem j_icmp_ltN {a b : Nat} {x y : Int32} {off : Int} {tgt : Nat} (C : q_Cj K cc own dd n0 U) (d : decode cc pc = .ok (.if_icmp .lt off, 3)) (ht : (pc : Int) + off = (tgt : Int)) (h1 : x = nI a) (h2 : y = nI b) (ha : a < 2 ^ 31) (hb9 : b < 2 ^ 31) (kt : a < b → q_J l K u ws tgt lv st) (kf : b ≤ a → q_J l K u ws (pc + 3) lv st) : q_J l K u ws pc lv (.int y :: .int x :: st) := by
  subst h1; subst h2
  exact j_icmp_lt C d ht (fun h => kt ((nI_ltI ha hb9).mp h)) (fun h => kf ((nI_leI hb9 ha).mp h))
theorem j_if_ltN {a : Nat} {x : Int32} {off : Int} {tgt : Nat} (C : q_Cj K cc own dd n0 U) (d : decode cc pc = .ok (.ifCond .lt off, 3)) (ht : (pc : Int) + off = (tgt : Int)) (h1 : x = nI a) (ha : a < 2 ^ 31) (kt : False → q_J l K u ws tgt lv st) (kf : True → q_J l K u ws (pc + 3) lv st) : q_J l K u ws pc lv (.int x :: st) := by
  subst h1
  have e0 : (0 : Int32) = nI 0 := rfl
  have h0 : (0 : Nat) < 2 ^ 31 := by omega
  refine j_if_lt C d ht (fun h => kt ?_) (fun h => kf ?_)
  · rw [e0] at h
    first | (have := (nI_eq ha h0).mp h; omega) | (have : a ≠ 0 := fun e => h ((nI_eq ha h0).mpr e); omega) | (have := (nI_ltI ha h0).mp h; omega) | (have := (nI_leI h0 ha).mp h; trivial) | (have := (nI_ltI h0 ha).mp h; omega) | (have := (nI_leI ha h0).mp h; omega)
  · rw [e0] at h
    first | (have := (nI_eq ha h0).mp h; omega) | (have : a ≠ 0 := fun e => h ((nI_eq ha h0).mpr e); omega) | (have := (nI_ltI ha h0).mp h; omega) | (have := (nI_leI h0 ha).mp h; trivial) | (have := (nI_ltI h0 ha).mp h; omega) | (have := (nI_leI ha h0).mp h; omega)
theorem j_icmp_geN {a b : Nat} {x y : Int32} {off : Int} {tgt : Nat} (C : q_Cj K cc own dd n0 U) (d : decode cc pc = .ok (.if_icmp .ge off, 3)) (ht : (pc : Int) + off = (tgt : Int)) (h1 : x = nI a) (h2 : y = nI b) (ha : a < 2 ^ 31) (hb9 : b < 2 ^ 31) (kt : b ≤ a → q_J l K u ws tgt lv st) (kf : a < b → q_J l K u ws (pc + 3) lv st) : q_J l K u ws pc lv (.int y :: .int x :: st) := by
  subst h1; subst h2
  exact j_icmp_ge C d ht (fun h => kt ((nI_leI hb9 ha).mp h)) (fun h => kf ((nI_ltI ha hb9).mp h))
theorem j_if_geN {a : Nat} {x : Int32} {off : Int} {tgt : Nat} (C : q_Cj K cc own dd n0 U) (d : decode cc pc = .ok (.ifCond .ge off, 3)) (ht : (pc : Int) + off = (tgt : Int)) (h1 : x = nI a) (ha : a < 2 ^ 31) (kt : True → q_J l K u ws tgt lv st) (kf : False → q_J l K u ws (pc + 3) lv st) : q_J l K u ws pc lv (.int x :: st) := by
  subst h1
  have e0 : (0 : Int32) = nI 0 := rfl
  have h0 : (0 : Nat) < 2 ^ 31 := by omega
  refine j_if_ge C d ht (fun h => kt ?_) (fun h => kf ?_)
  · rw [e0] at h
    first | (have := (nI_eq ha h0).mp h; omega) | (have : a ≠ 0 := fun e => h ((nI_eq ha h0).mpr e); omega) | (have := (nI_ltI ha h0).mp h; omega) | (have := (nI_leI h0 ha).mp h; trivial) | (have := (nI_ltI h0 ha).mp h; omega) | (have := (nI_leI ha h0).mp h; omega)
  · rw [e0] at h
    first | (have := (nI_eq ha h0).mp h; omega) | (have : a ≠ 0 := fun e => h ((nI_eq ha h0).mpr e); omega) | (have := (nI_ltI ha h0).mp h; omega) | (have := (nI_leI h0 ha).mp h; trivial) | (have := (nI_ltI h0 ha).mp h; omega) | (have := (nI_leI ha h0).mp h; omega)
theorem j_icmp_gtN {a b : Nat} {x y : Int32} {off : Int} {tgt : Nat} (C : q_Cj K cc own dd n0 U) (d : decode cc pc = .ok (.if_icmp .gt off, 3)) (ht : (pc : Int) + off = (tgt : Int)) (h1 : x = nI a) (h2 : y = nI b) (ha : a < 2 ^ 31) (hb9 : b < 2 ^ 31) (kt : b < a → q_J l K u ws tgt lv st) (kf : a ≤ b → q_J l K u ws (pc + 3) lv st) : q_J l K u ws pc lv (.int y :: .int x :: st) := by
  subst h1; subst h2
  exact j_icmp_gt C d ht (fun h => kt ((nI_ltI hb9 ha).mp h)) (fun h => kf ((nI_leI ha hb9).mp h))
theorem j_if_gtN {a : Nat} {x : Int32} {off : Int} {tgt : Nat} (C : q_Cj K cc own dd n0 U) (d : decode cc pc = .ok (.ifCond .gt off, 3)) (ht : (pc : Int) + off = (tgt : Int)) (h1 : x = nI a) (ha : a < 2 ^ 31) (kt : 0 < a → q_J l K u ws tgt lv st) (kf : a = 0 → q_J l K u ws (pc + 3) lv st) : q_J l K u ws pc lv (.int x :: st) := by
  subst h1
  have e0 : (0 : Int32) = nI 0 := rfl
  have h0 : (0 : Nat) < 2 ^ 31 := by omega
  refine j_if_gt C d ht (fun h => kt ?_) (fun h => kf ?_)
  · rw [e0] at h
    first | (have := (nI_eq ha h0).mp h; omega) | (have : a ≠ 0 := fun e => h ((nI_eq ha h0).mpr e); omega) | (have := (nI_ltI ha h0).mp h; omega) | (have := (nI_leI h0 ha).mp h; trivial) | (have := (nI_ltI h0 ha).mp h; omega) | (have := (nI_leI ha h0).mp h; omega)
  · rw [e0] at h
    first | (have := (nI_eq ha h0).mp h; omega) | (have : a ≠ 0 := fun e => h ((nI_eq ha h0).mpr e); omega) | (have := (nI_ltI ha h0).mp h; omega) | (have := (nI_leI h0 ha).mp h; trivial) | (have := (nI_ltI h0 ha).mp h; omega) | (have := (nI_leI ha h0).mp h; omega)
theorem j_icmp_leN {a b : Nat} {x y : Int32} {off : Int} {tgt : Nat} (C : q_Cj K cc own dd n0 U) (d : decode cc pc = .ok (.if_icmp .le off, 3)) (ht : (pc : Int) + off = (tgt : Int)) (h1 : x = nI a) (h2 : y = nI b) (ha : a < 2 ^ 31) (hb9 : b < 2 ^ 31) (kt : a ≤ b → q_J l K u ws tgt lv st) (kf : b < a → q_J l K u ws (pc + 3) lv st) : q_J l K u ws pc lv (.int y :: .int x :: st) := by
  subst h1; subst h2
  exact j_icmp_le C d ht (fun h => kt ((nI_leI ha hb9).mp h)) (fun h => kf ((nI_ltI hb9 ha).mp h))
theorem j_if_leN {a : Nat} {x : Int32} {off : Int} {tgt : Nat} (C : q_Cj K cc own dd n0 U) (d : decode cc pc = .ok (.ifCond .le off, 3)) (ht : (pc : Int) + off = (tgt : Int)) (h1 : x = nI a) (ha : a < 2 ^ 31) (kt : a = 0 → q_J l K u ws tgt lv st) (kf : 0 < a → q_J l K u ws (pc + 3) lv st) : q_J l K u ws pc lv (.int x :: st) := by
  subst h1
  have e0 : (0 : Int32) = nI 0 := rfl
  have h0 : (0 : Nat) < 2 ^ 31 := by omega
  refine j_if_le C d ht (fun h => kt ?_) (fun h => kf ?_)
  · rw [e0] at h
    first | (have := (nI_eq ha h0).mp h; omega) | (have : a ≠ 0 := fun e => h ((nI_eq ha h0).mpr e); omega) | (have := (nI_ltI ha h0).mp h; omega) | (have := (nI_leI h0 ha).mp h; trivial) | (have := (nI_ltI h0 ha).mp h; omega) | (have := (nI_leI ha h0).mp h; omega)
  · rw [e0] at h
    first | (have := (nI_eq ha h0).mp h; omega) | (have : a ≠ 0 := fun e => h ((nI_eq ha h0).mpr e); omega) | (have := (nI_ltI ha h0).mp h; omega) | (have := (nI_leI h0 ha).mp h; trivial) | (have := (nI_ltI h0 ha).mp h; omega) | (have := (nI_leI ha h0).mp h; omega)
theorem j_to {lv' : List (Nat × Value)} (h : q_J l K u ws pc lv' st) (hl : q_al lv' lv) : q_J l K u ws pc lv st := by
  obtain ⟨p, e, R, s, m, args, below, meth, c, cells, slots, Q, D, cy, ad, A, nL, L⟩ := K
  intro cl sl H locs ls hc9 hs9 hP hD hS hv
  exact h cl sl H locs ls hc9 hs9 hP hD hS (q_lv_sub hv (fun q hq => q_al_mem hl q hq))
theorem j_up {u' : Nat} (hu : u ≤ u') (h : q_J l K u' ws pc lv st) : q_J l K u ws pc lv st := by
  obtain ⟨p, e, R, s, m, args, below, meth, c, cells, slots, Q, D, cy, ad, A, nL, L⟩ := K
  intro cl sl H locs ls hc9 hs9 hP hD hS hv
  exact h cl sl H locs ls (by omega) (by omega) hP hD hS hv
theorem j_top {x y : Int32} (e : x = y) (k : q_J l K u ws pc lv (.int y :: st)) : q_J l K u ws pc lv (.int x :: st) := e ▸ k
theorem j_ldc (C : q_Cj K cc own dd n0 U) {v : Int32} (hw : Cond.constant own idx v ∈ q_WS) (d : decode cc pc = .ok (.ldc idx, 2)) (k : q_J l K u ws (pc + 2) lv (.int v :: st)) : q_J l K u ws pc lv st := by
  obtain ⟨p, e, R, s, m, args, below, meth, c, cells, slots, Q, D, cy, ad, A, nL, L⟩ := K
  obtain ⟨hx, hb, hml, hnl, hown, hts, hK, hA2, hf1, hf2, hc1, hc2, hE, hEX⟩ := C
  intro cl sl H locs ls hc9 hs9 hP hD hS hl
  exact lv_ldc hx hb hown (hts _ hw) d (k cl sl H locs ls hc9 hs9 hP hD hS hl)
def q_lf3j (i : Nat) (l : List (Nat × Value)) : List (Nat × Value) := l.filter (fun q => !(q.1 == i) && (!(q.1 == i + 1) && !(q.1 + 1 == i && q.2.category == 2)))
theorem j_ishr (C : q_Cj K cc own dd n0 U) {x y v : Int32} (hv : x >>> (y &&& 31) = v) (d : decode cc pc = .ok (.ishr, 1)) (k : q_J l K u ws (pc + 1) lv (.int v :: st)) : q_J l K u ws pc lv (.int y :: .int x :: st) := by
  obtain ⟨p, e, R, s, m, args, below, meth, c, cells, slots, Q, D, cy, ad, A, nL, L⟩ := K
  obtain ⟨hx, hb, hml, hnl, hown, hts, hK, hA2, hf1, hf2, hc1, hc2, hE, hEX⟩ := C
  intro cl sl H locs ls hc9 hs9 hP hD hS hl
  subst hv
  exact lv_ishr hx hb d (k cl sl H locs ls hc9 hs9 hP hD hS hl)
theorem j_iushr (C : q_Cj K cc own dd n0 U) {x y v : Int32} (hv : (x.toUInt32 >>> (y.toUInt32 &&& Int32.toUInt32 31)).toInt32 = v) (d : decode cc pc = .ok (.iushr, 1)) (k : q_J l K u ws (pc + 1) lv (.int v :: st)) : q_J l K u ws pc lv (.int y :: .int x :: st) := by
  obtain ⟨p, e, R, s, m, args, below, meth, c, cells, slots, Q, D, cy, ad, A, nL, L⟩ := K
  obtain ⟨hx, hb, hml, hnl, hown, hts, hK, hA2, hf1, hf2, hc1, hc2, hE, hEX⟩ := C
  intro cl sl H locs ls hc9 hs9 hP hD hS hl
  subst hv
  exact lv_iushr hx hb d rfl (k cl sl H locs ls hc9 hs9 hP hD hS hl)
theorem j_ifnullR (C : q_Cj K cc own dd n0 U) {a : Nat} {off : Int} (d : decode cc pc = .ok (.ifnull off, 3)) (k : q_J l K u ws (pc + 3) lv st) : q_J l K u ws pc lv (.ref a :: st) := by
  obtain ⟨p, e, R, s, m, args, below, meth, c, cells, slots, Q, D, cy, ad, A, nL, L⟩ := K
  obtain ⟨hx, hb, hml, hnl, hown, hts, hK, hA2, hf1, hf2, hc1, hc2, hE, hEX⟩ := C
  intro cl sl H locs ls hc9 hs9 hP hD hS hl
  exact lv_ifnull hx hb d (k cl sl H locs ls hc9 hs9 hP hD hS hl)
theorem j_alen (C : q_Cj K cc own dd n0 U) {a : Nat} {N : Nat} {f : Nat → Int32} (q0 : Nat) (ha : ws[q0]? = some (a, .inl (q_cy K 5, N, .inl f))) (d : decode cc pc = .ok (.arraylength, 1)) (kk : q_J l K u ws (pc + 1) lv (.int (nI N) :: st)) : q_J l K u ws pc lv (.ref a :: st) := by
  obtain ⟨p, e, R, s, m, args, below, meth, c, cells, slots, Q, D, cy, ad, A, nL, L⟩ := K
  obtain ⟨hx, hb, hml, hnl, hown, hts, hK, hA2, hf1, hf2, hc1, hc2, hE, hEX⟩ := C
  intro cl sl H locs ls hc9 hs9 hP hD hS hl
  exact va_alen hx hb hK hP q0 5 ha rfl rfl d (kk cl sl H locs ls hc9 hs9 hP hD hS hl)
theorem j_bald (C : q_Cj K cc own dd n0 U) {a i N : Nat} {f : Nat → Int32} {ix : Int32} (hix : ix = nI i) (q0 : Nat) (ha : ws[q0]? = some (a, .inl (q_cy K 5, N, .inl f))) (hi9 : i < N) (hN : N < 2 ^ 31) (d : decode cc pc = .ok (.baload, 1)) (kk : q_J l K u ws (pc + 1) lv (.int (f i) :: st)) : q_J l K u ws pc lv (.int ix :: .ref a :: st) := by
  obtain ⟨p, e, R, s, m, args, below, meth, c, cells, slots, Q, D, cy, ad, A, nL, L⟩ := K
  obtain ⟨hx, hb, hml, hnl, hown, hts, hK, hA2, hf1, hf2, hc1, hc2, hE, hEX⟩ := C
  intro cl sl H locs ls hc9 hs9 hP hD hS hl
  subst hix
  refine va_bald hx hb hK hP q0 5 ha rfl (vp_in_nI hi9 hN) d ?_
  rw [nI_clamp (Nat.lt_trans hi9 hN)]
  exact kk cl sl H locs ls hc9 hs9 hP hD hS hl
theorem j_bast (C : q_Cj K cc own dd n0 U) {a i N : Nat} {f : Nat → Int32} {ix x : Int32} {ws' : va_W} (hix : ix = nI i) (q0 : Nat) (ha : ws[q0]? = some (a, .inl (q_cy K 5, N, .inl f))) (hi9 : i < N) (hN : N < 2 ^ 31) (hx9 : x.toInt8.toInt32 = x) (hw' : ws.set q0 (a, .inl (q_cy K 5, N, .inl (upd f i x))) = ws') (d : decode cc pc = .ok (.bastore, 1)) (kk : q_J l K u ws' (pc + 1) lv st) : q_J l K u ws pc lv (.int x :: .int ix :: .ref a :: st) := by
  obtain ⟨p, e, R, s, m, args, below, meth, c, cells, slots, Q, D, cy, ad, A, nL, L⟩ := K
  obtain ⟨hx, hb, hml, hnl, hown, hts, hK, hA2, hf1, hf2, hc1, hc2, hE, hEX⟩ := C
  intro cl sl H locs ls hc9 hs9 hP hD hS hl
  subst hix; subst hw'
  refine va_bast hx hb hK hP hD hS q0 5 ha rfl (vp_in_nI hi9 hN) d (fun H1 locs1 hP1 hD1 hS1 => ?_)
  rw [nI_clamp (Nat.lt_trans hi9 hN), show vp_nar .byte x = x from hx9] at hP1 hD1
  exact kk cl sl H1 locs1 ls hc9 hs9 hP1 hD1 hS1 hl
theorem j_get (C : q_Cj K cc own dd n0 U) {a ci j : Nat} {fs : List Value} {v : Value} (fl : q_fl own idx ci j) (q0 : Nat) (he : ws[q0]? = some (a, .inr (ci, fs))) (hv : fs[j]? = some v) (d : decode cc pc = .ok (.getfield idx, 3)) (kk : q_J l K u ws (pc + 3) lv (v :: st)) : q_J l K u ws pc lv (.ref a :: st) := by
  obtain ⟨p, e, R, s, m, args, below, meth, c, cells, slots, Q, D, cy, ad, A, nL, L⟩ := K
  obtain ⟨hx, hb, hml, hnl, hown, hts, hK, hA2, hf1, hf2, hc1, hc2, hE, hEX⟩ := C
  intro cl sl H locs ls hc9 hs9 hP hD hS hl
  obtain ⟨CC, T, N, ty, hc, hin, hj, hlk, hty, hnm⟩ := fl
  exact va_get hx hb hts hin hown hK hP q0 he hc j hj (hts _ hlk) (fun _ h => h) hv d (kk cl sl H locs ls hc9 hs9 hP hD hS hl)
theorem j_put (C : q_Cj K cc own dd n0 U) {a ci j : Nat} {fs : List Value} {v : Value} {ws' : va_W} (fl : q_fl own idx ci j) (q0 : Nat) (he : ws[q0]? = some (a, .inr (ci, fs))) {ty9 : FieldType} (hT : ∀ (CC : String) (T : u_T) (N : Nat), q_cl[ci]? = some (CC, T, N) → (T j).2.2.2 = false ∧ parseFieldDescriptor (T j).2.2.1 = some ty9) (hnr : narrow ty9 v = v) (hfit : fits ty9 v = true) (hl9 : j < fs.length) (hw' : ws.set q0 (a, .inr (ci, fs.set j v)) = ws') (d : decode cc pc = .ok (.putfield idx, 3)) (kk : q_J l K u ws' (pc + 3) lv st) : q_J l K u ws pc lv (v :: .ref a :: st) := by
  obtain ⟨p, e, R, s, m, args, below, meth, c, cells, slots, Q, D, cy, ad, A, nL, L⟩ := K
  obtain ⟨hx, hb, hml, hnl, hown, hts, hK, hA2, hf1, hf2, hc1, hc2, hE, hEX⟩ := C
  intro cl sl H locs ls hc9 hs9 hP hD hS hl
  obtain ⟨CC, T, N, ty, hc, hin, hj, hlk, hty, hnm⟩ := fl
  obtain ⟨hfin, hd9⟩ := hT CC T N hc
  have hap := va_apart (own := own) hts hin ty hty hnm hK hc
  obtain ⟨r, h1, cell, q1, q2, q3, q4⟩ := hP q0 _ he
  cases Option.some.inj (h1.symm.trans hc)
  obtain ⟨hSl, hfc, kC, hkC, hkind⟩ := hK.1 ci _ hc
  obtain ⟨cf, kf, fi, f, hi, hsl⟩ := hSl j hj
  have hlay := hts _ (hin _ (u_in_lay hj))
  unfold u_lay at hlay
  have hst := (u_facts hfc hkC (u_lays hts hin hj) hi).1
  rw [if_neg (by rw [hfin]; decide)] at hlay
  have h6 := u_store hfc hkC hkind hlay hi hd9 hnr hfit
  refine W.putK hx hb (f := f) ⟨hown, hts _ hlk, ⟨_, _, _, hi⟩, hst⟩ (by rw [q2]; exact h6) q1 q3 (by rw [hsl]; exact k2_hasslot (q4 j hj)) rfl rfl d (fun H' e1 e2 e3 => ?_)
  subst hw'
  rw [hsl] at e1 ⊢
  exact kk cl sl H' _ ls hc9 hs9 (hP.set hD he ⟨_, hc, t_OB.to (V := updV (vp_V fs) j v) ⟨_, e1, q2, q3, t_set q4 hap hj v⟩ (fun i _ => vp_updV_set hl9 v i)⟩ e3) (hD.set he) (hS.put e2 e3 (hD.2 q0 _ he)) hl

theorem j_putF (C : q_Cj K cc own dd n0 U) (hI : q_Ji K) {a ci j : Nat} {fs : List Value} {v : Value} {ws' : va_W} (fl : q_fl own idx ci j) (q0 : Nat) (he : ws[q0]? = some (a, .inr (ci, fs))) {ty9 : FieldType} (hT : ∀ (CC : String) (T : u_T) (N : Nat), q_cl[ci]? = some (CC, T, N) → (T j).2.2.2 = true ∧ (T j).1 = own ∧ parseFieldDescriptor (T j).2.2.1 = some ty9) (hnr : narrow ty9 v = v) (hfit : fits ty9 v = true) (hl9 : j < fs.length) (hw' : ws.set q0 (a, .inr (ci, fs.set j v)) = ws') (d : decode cc pc = .ok (.putfield idx, 3)) (kk : q_J l K u ws' (pc + 3) lv st) : q_J l K u ws pc lv (v :: .ref a :: st) := by
  obtain ⟨p, e, R, s, m, args, below, meth, c, cells, slots, Q, D, cy, ad, A, nL, L⟩ := K
  obtain ⟨hx, hb, hml, hnl, hown, hts, hK, hA2, hf1, hf2, hc1, hc2, hE, hEX⟩ := C
  intro cl sl H locs ls hc9 hs9 hP hD hS hl
  obtain ⟨CC, T, N, ty, hc, hin, hj, hlk, hty, hnm⟩ := fl
  obtain ⟨hfin, hdecl, hd9⟩ := hT CC T N hc
  have hap := va_apart (own := own) hts hin ty hty hnm hK hc
  obtain ⟨r, h1, cell, q1, q2, q3, q4⟩ := hP q0 _ he
  cases Option.some.inj (h1.symm.trans hc)
  obtain ⟨hSl, hfc, kC, hkC, hkind⟩ := hK.1 ci _ hc
  obtain ⟨cf, kf, fi, f, hi, hsl⟩ := hSl j hj
  have hlay := hts _ (hin _ (u_in_lay hj))
  unfold u_lay at hlay
  have hst := (u_facts hfc hkC (u_lays hts hin hj) hi).1
  rw [if_pos hfin] at hlay
  have hcf : m.cls = cf := by
    obtain ⟨_, _, c', _, _, _, -, -, hf', -, -, -, hown2, -⟩ := Cond.laysFinal_spec hlay
    have e1 : c' = cf := by have := hi.symm.trans hf'; simp at this; exact this.1.symm
    rw [hdecl] at hown2
    rw [← e1]; exact Option.some.inj (hown.symm.trans hown2)
  have h6 := u_fits hfc hkC hkind (Or.inr hlay) hi hd9 hnr hfit
  refine W.putFinK hx hb hown (hts _ hlk) hi hst hcf hI (by rw [q2]; exact h6) q1 q3 (by rw [hsl]; exact k2_hasslot (q4 j hj)) rfl rfl d (fun H' e1 e2 e3 => ?_)
  subst hw'
  rw [hsl] at e1 ⊢
  exact kk cl sl H' _ ls hc9 hs9 (hP.set hD he ⟨_, hc, t_OB.to (V := updV (vp_V fs) j v) ⟨_, e1, q2, q3, t_set q4 hap hj v⟩ (fun i _ => vp_updV_set hl9 v i)⟩ e3) (hD.set he) (hS.put e2 e3 (hD.2 q0 _ he)) hl

theorem j_obj (C : q_Cj K cc own dd n0 U) {a : Nat} (w1 : Cond.methodLink own idx Lib.objectInit ∈ q_WS) (w2 : Cond.instanceMethod Lib.objectInit ∈ q_WS) (w3 : Cond.code Lib.objectInit ⟨#[0xb1]⟩ 1 none ∈ q_WS) (hdd : 1 ≤ dd) (hst : st = []) (d : decode cc pc = .ok (.invokespecial idx, 3)) (kk : q_J l K u ws (pc + 3) lv st) : q_J l K u ws pc lv (.ref a :: st) := by
  obtain ⟨p, e, R, s, m, args, below, meth, c, cells, slots, Q, D, cy, ad, A, nL, L⟩ := K
  obtain ⟨hx, hb, hml, hnl, hown, hts, hK, hA2, hf1, hf2, hc1, hc2, hE, hEX⟩ := C
  intro cl sl H locs ls hc9 hs9 hP hD hS hl
  subst hst
  exact W.objInit hx hb hown (hts _ w1) (hts _ w2) (hts _ w3) rfl (hl.1.trans hml.symm) rfl d (by omega) (by show 2 * 0 + 0 + 12 ≤ R.locals; omega) (kk cl sl H locs ls hc9 hs9 hP hD hS hl)

theorem j_newa (C : q_Cj K cc own dd n0 U) {N : Nat} {x : Int32} (hw : Cond.arrayClass .byte ∈ q_WS) (hxN : x = nI N) (hN : N ≤ 600) (hU : u + 101 ≤ U) (d : decode cc pc = .ok (.newarray .byte, 2)) (kk : ∀ a, q_sz0 K ≤ a → (∀ q ∈ ws, q.1 < a) → q_J l K (u + 101) (ws ++ [(a, .inl (q_cy K 5, N, .inl (fun _ => 0)))]) (pc + 2) lv (.ref a :: st)) : q_J l K u ws pc lv (.int x :: st) := by
  obtain ⟨p, e, R, s, m, args, below, meth, c, cells, slots, Q, D, cy, ad, A, nL, L⟩ := K
  obtain ⟨hx, hb, hml, hnl, hown, hts, hK, hA2, hf1, hf2, hc1, hc2, hE, hEX⟩ := C
  intro cl sl H locs ls hc9 hs9 hP hD hS hl
  subst hxN
  refine va_newaK (atype := .byte) hx hb (hts _ hw) rfl d rfl (nI_pos (by omega)) (nI_clamp (by omega)) ?_ (by omega) (by omega) rfl (fun H1 cA e1 z1 o1 hAr hNm => ?_)
  · show N * componentBytes .byte ≤ 536870912
    have : componentBytes .byte ≤ 8 := by decide
    have := Nat.mul_le_mul_left N this
    omega
  · have hcA : cA = cy 5 := by
      have h9 : s.vm.findClass ("[" ++ (.byte : FieldType).toString) = some (cy 5) := (hK.2 5 _ rfl).2
      exact Option.some.inj (hNm.symm.trans h9)
    subst hcA
    exact kk H.size hS.1 (fun q hq => by
      obtain ⟨k, hk⟩ := List.getElem?_of_mem hq
      exact vx_lt hP hk) (cl + 1) (sl + N) H1 locs ls (by omega) (by omega) ((q_Bkept hP o1).app (q_B1 e1)) (hD.push hP rfl (hA2 _ hS.1)) (q_BS hS z1 o1) hl
theorem j_new (C : q_Cj K cc own dd n0 U) {CC : String} {T : u_T} {N ci : Nat} {ty : Nat → FieldType} {fs : List Value} (hc : q_cl[ci]? = some (CC, T, N)) (hin : ∀ w ∈ u_ws CC T N, w ∈ q_WS) (hty : ∀ k, k < N → parseFieldDescriptor (T k).2.2.1 = some (ty k)) (hfs : ∀ j, j < N → defaultValue (ty j) = vp_V fs j) (w1 : Cond.classLink own idx CC ∈ q_WS) (w2 : Cond.instantiable CC N ∈ q_WS) (w3 : Cond.initialized CC ∈ q_WS) (hN6 : N ≤ 6) (hU : u + 1 ≤ U) (d : decode cc pc = .ok (.new idx, 3)) (kk : ∀ a, q_sz0 K ≤ a → (∀ q ∈ ws, q.1 < a) → q_J l K (u + 1) (ws ++ [(a, .inr (ci, fs))]) (pc + 3) lv (.ref a :: st)) : q_J l K u ws pc lv st := by
  obtain ⟨p, e, R, s, m, args, below, meth, c, cells, slots, Q, D, cy, ad, A, nL, L⟩ := K
  obtain ⟨hx, hb, hml, hnl, hown, hts, hK, hA2, hf1, hf2, hc1, hc2, hE, hEX⟩ := C
  intro cl sl H locs ls hc9 hs9 hP hD hS hl
  have hKn := hK.1 ci _ hc
  refine W.newcK hx hb hown (hts _ w1) (hts _ w2) (hts _ w3) rfl d (by omega) (by omega) hKn.2.1 rfl (fun H1 kC hkC e1 z1 o1 => ?_)
  exact kk H.size hS.1 (fun q hq => by
      obtain ⟨k, hk⟩ := List.getElem?_of_mem hq
      exact vx_lt hP hk) (cl + 1) (sl + N) H1 locs ls (by omega) (by omega) ((q_Bkept hP o1).app (q_B1 ⟨_, hc, (u_born ty hts hin hKn hkC e1 hty).to hfs⟩)) (hD.push hP rfl (hA2 _ hS.1)) (q_BS hS z1 o1) hl
theorem j_compact (C : q_Cj K cc own dd n0 U) (hlk : Cond.fieldLink own idx "java/lang/String" "COMPACT_STRINGS" "Z" ∈ q_WS) (d : decode cc pc = .ok (.getstatic idx, 3)) (kk : q_J l K u ws (pc + 3) lv (.int 1 :: st)) : q_J l K u ws pc lv st := by
  obtain ⟨p, e, R, s, m, args, below, meth, c, cells, slots, Q, D, cy, ad, A, nL, L⟩ := K
  obtain ⟨hx, hb, hml, hnl, hown, hts, hK, hA2, hf1, hf2, hc1, hc2, hE, hEX⟩ := C
  intro cl sl H locs ls hc9 hs9 hP hD hS hl
  exact va_gets hx hb hE.2.2.1 hS hown (hts _ hlk) (fun _ h => h) d (kk cl sl H locs ls hc9 hs9 hP hD hS hl)
theorem j_tones (C : q_Cj K cc own dd n0 U) (hlk : Cond.fieldLink own idx "java/lang/Integer" "DigitOnes" "[B" ∈ q_WS) (d : decode cc pc = .ok (.getstatic idx, 3)) (kk : q_J l K u ws (pc + 3) lv (.ref (q_ad K 260) :: st)) : q_J l K u ws pc lv st := by
  obtain ⟨p, e, R, s, m, args, below, meth, c, cells, slots, Q, D, cy, ad, A, nL, L⟩ := K
  obtain ⟨hx, hb, hml, hnl, hown, hts, hK, hA2, hf1, hf2, hc1, hc2, hE, hEX⟩ := C
  intro cl sl H locs ls hc9 hs9 hP hD hS hl
  exact va_gets hx hb hE.2.2.2.2.2.2.2.2.1.1 hS hown (hts _ hlk) (fun _ h => h) d (kk cl sl H locs ls hc9 hs9 hP hD hS hl)
theorem j_bones (C : q_Cj K cc own dd n0 U) {ix : Int32} {i : Nat} (hix : ix = nI i) (hi9 : i < 100) (d : decode cc pc = .ok (.baload, 1)) (kk : q_J l K u ws (pc + 1) lv (.int (q_ones i) :: st)) : q_J l K u ws pc lv (.int ix :: .ref (q_ad K 260) :: st) := by
  obtain ⟨p, e, R, s, m, args, below, meth, c, cells, slots, Q, D, cy, ad, A, nL, L⟩ := K
  obtain ⟨hx, hb, hml, hnl, hown, hts, hK, hA2, hf1, hf2, hc1, hc2, hE, hEX⟩ := C
  intro cl sl H locs ls hc9 hs9 hP hD hS hl
  subst hix
  refine va_tb hx hb hE.2.2.2.2.2.2.2.2.1.2.1 hS (vp_in_nI hi9 (by decide)) (by rw [nI_clamp (by omega)]) d ?_
  exact kk cl sl H locs ls hc9 hs9 hP hD hS hl
theorem j_ttens (C : q_Cj K cc own dd n0 U) (hlk : Cond.fieldLink own idx "java/lang/Integer" "DigitTens" "[B" ∈ q_WS) (d : decode cc pc = .ok (.getstatic idx, 3)) (kk : q_J l K u ws (pc + 3) lv (.ref (q_ad K 261) :: st)) : q_J l K u ws pc lv st := by
  obtain ⟨p, e, R, s, m, args, below, meth, c, cells, slots, Q, D, cy, ad, A, nL, L⟩ := K
  obtain ⟨hx, hb, hml, hnl, hown, hts, hK, hA2, hf1, hf2, hc1, hc2, hE, hEX⟩ := C
  intro cl sl H locs ls hc9 hs9 hP hD hS hl
  exact va_gets hx hb hE.2.2.2.2.2.2.2.2.2.1.1 hS hown (hts _ hlk) (fun _ h => h) d (kk cl sl H locs ls hc9 hs9 hP hD hS hl)
theorem j_btens (C : q_Cj K cc own dd n0 U) {ix : Int32} {i : Nat} (hix : ix = nI i) (hi9 : i < 100) (d : decode cc pc = .ok (.baload, 1)) (kk : q_J l K u ws (pc + 1) lv (.int (q_tens i) :: st)) : q_J l K u ws pc lv (.int ix :: .ref (q_ad K 261) :: st) := by
  obtain ⟨p, e, R, s, m, args, below, meth, c, cells, slots, Q, D, cy, ad, A, nL, L⟩ := K
  obtain ⟨hx, hb, hml, hnl, hown, hts, hK, hA2, hf1, hf2, hc1, hc2, hE, hEX⟩ := C
  intro cl sl H locs ls hc9 hs9 hP hD hS hl
  subst hix
  refine va_tb hx hb hE.2.2.2.2.2.2.2.2.2.1.2.1 hS (vp_in_nI hi9 (by decide)) (by rw [nI_clamp (by omega)]) d ?_
  exact kk cl sl H locs ls hc9 hs9 hP hD hS hl
theorem j_acopy (C : q_Cj K cc own dd n0 U) {a0 a n0' n1' sp dp n' : Nat} {f g : Nat → Int32} {xs xd xn : Int32} {ws' : va_W} (q0 q1 : Nat) (ha0 : ws[q0]? = some (a0, .inl (q_cy K 5, n0', .inl f))) (ha1 : ws[q1]? = some (a, .inl (q_cy K 5, n1', .inl g))) (e1 : xs = nI sp) (e2 : xd = nI dp) (e3 : xn = nI n') (b1 : sp + n' ≤ n0') (b2 : dp + n' ≤ n1') (b3 : n0' < 2 ^ 31 ∧ n1' < 2 ^ 31) (hfit : ∀ i, fits .byte (.int (f i)) = true) (hw' : ws.set q1 (a, .inl (q_cy K 5, n1', .inl (va_cpy f g sp dp n'))) = ws') (hlk : Cond.methodLink own idx arraycopyName ∈ q_WS) (hna : Cond.native arraycopyName ∈ q_WS) (hst : Cond.static arraycopyName ∈ q_WS) (hin : Cond.initialized "java/lang/System" ∈ q_WS) (hdd : 1 ≤ dd) (hroom : (st.map Value.category).sum ≤ 8) (d : decode cc pc = .ok (.invokestatic idx, 3)) (kk : q_J l K u ws' (pc + 3) lv st) : q_J l K u ws pc lv (.int xn :: .int xd :: .ref a :: .int xs :: .ref a0 :: st) := by
  obtain ⟨p, e, R, s, m, args, below, meth, c, cells, slots, Q, D, cy, ad, A, nL, L⟩ := K
  obtain ⟨hx, hb, hml, hnl, hown, hts, hK, hA2, hf1, hf2, hc1, hc2, hE, hEX⟩ := C
  intro cl sl H locs ls hc9 hs9 hP hD hS hl
  subst e1; subst e2; subst e3; subst hw'
  have c1 : (nI sp).toNatClampNeg = sp := nI_clamp (by omega)
  have c2 : (nI dp).toNatClampNeg = dp := nI_clamp (by omega)
  have c3 : (nI n').toNatClampNeg = n' := nI_clamp (by omega)
  have hw9 : nativeFrameWords "java/lang/System" "arraycopy" 5 ≤ 20 := by decide
  have hroom9 : (st.map (fun v => v.category)).sum ≤ 8 := hroom
  refine va_copyi hx hb (hml.trans hl.1.symm) hown (hts _ hlk) (hts _ hna) (hts _ hst) (hts _ hin) hK hP hD hS q0 q1 5 5 ha0 ha1 rfl rfl rfl (nI_pos (by omega)) (nI_pos (by omega)) (nI_pos (by omega)) (by rw [c1, c3]; exact b1) (by rw [c2, c3]; exact b2) (fun i _ => hfit _) (by omega) (by omega) d (fun H1 locs1 hP1 hD1 hS1 => ?_)
  rw [c1, c2, c3] at hP1 hD1
  exact kk cl sl H1 locs1 ls hc9 hs9 hP1 hD1 hS1 hl
theorem j_sel (is : List Nat) (hn : is.Nodup) {ws' : va_W} (e : is.filterMap (fun i => ws[i]?) = ws') (k : q_J l K u ws' pc lv st) : q_J l K u ws pc lv st := by
  subst e
  obtain ⟨p, e, R, s, m, args, below, meth, c, cells, slots, Q, D, cy, ad, A, nL, L⟩ := K
  intro cl sl H locs ls hc9 hs9 hP hD hS hl
  obtain ⟨h1, h2⟩ := q_selPD hP hD is hn
  exact k cl sl H locs ls hc9 hs9 h1 h2 hS hl
end QJR
