
/-! the law's own judgement -/
def q_Zs (ad : Nat → Nat) (xa : List Nat) (Z : Heap → Prop) : Prop := ∀ H H1 : Heap, H.size ≤ H1.size → (∀ a : Nat, a < H.size → (∀ k, k < 112 → a ≠ ad k) → a ∉ xa → H1[a]? = H[a]?) → Z H → Z H1
def q_Tr : Heap → Prop := fun _ => True
theorem q_Zs_Tr (ad : Nat → Nat) (xa : List Nat) : q_Zs ad xa q_Tr := fun _ _ _ _ _ => trivial
def q_ad (K : q_K) : Nat → Nat := match K with
  | (p, e, R, s, m, args, below, meth, c, cells, slots, Q, D, cy, ad, A, nL, L) => ad
def q_cy (K : q_K) : Nat → ClassId := match K with
  | (p, e, R, s, m, args, below, meth, c, cells, slots, Q, D, cy, ad, A, nL, L) => cy
def q_LL (K : q_K) : q_L := match K with
  | (p, e, R, s, m, args, below, meth, c, cells, slots, Q, D, cy, ad, A, nL, L) => L
def q_sz0 (K : q_K) : Nat := match K with
  | (p, e, R, s, m, args, below, meth, c, cells, slots, Q, D, cy, ad, A, nL, L) => s.heap.size
def q_Y (l : Launch) (K : q_K) (u : Nat) (ex : va_W) (Z : Heap → Prop) (pc : Nat) (lv : List (Nat × Value)) (st : List Value) (S : q_St) : Prop := match K with
  | (p, e, R, s, m, args, below, meth, c, cells, slots, Q, D, cy, ad, A, nL, L) => ∀ (cl sl : Nat) (H : Heap) (locs : List Loc) (ls : Array Slot), cl ≤ u → sl ≤ 6 * u → va_P D q_cl (q_wl cy ad L S ++ ex) H → Z H → va_S A s.heap H locs → lv_has ls nL lv → W p l e R s m args below meth c H locs cl sl Q (F0 m pc ls st)
def q_Cy (K : q_K) (cc : ByteArray) (own : String) (dd n0 U : Nat) (xa : List Nat) (Z : Heap → Prop) : Prop := match K with
  | (p, e, R, s, m, args, below, meth, c, cells, slots, Q, D, cy, ad, A, nL, L) => p.tables.exec = Jvm.exec ∧ c.code = cc ∧ c.maxLocals = nL ∧ nL = n0 ∧ s.vm.findClass own = some m.cls ∧ (∀ w ∈ q_WS, w.before args s = true) ∧ va_K D q_cl (q_tys cy) s ∧ (∀ i j, i < 112 → j < 112 → ad i = ad j → i = j) ∧ (∀ k, k < 112 → A (ad k)) ∧ (∀ q, s.heap.size ≤ q → A q) ∧ dd ≤ R.frames ∧ 40 * dd ≤ R.locals ∧ U ≤ R.cells ∧ 6 * U ≤ R.slots ∧ q_E ad L A s s.heap ∧ q_EX s ∧ (xa.Nodup ∧ ∀ a ∈ xa, s.heap.size ≤ a ∧ ∀ k, k < 112 → ad k ≠ a) ∧ q_Zs ad xa Z
theorem q_P_l {D : va_G} {w1 w2 : va_W} {H : Heap} (h : va_P D q_cl (w1 ++ w2) H) : va_P D q_cl w1 H := fun k q hk => h k q (by rw [List.getElem?_append_left (List.getElem?_eq_some_iff.mp hk).1]; exact hk)
theorem q_P_r {D : va_G} {w1 w2 : va_W} {H : Heap} (h : va_P D q_cl (w1 ++ w2) H) : va_P D q_cl w2 H := fun k q hk => h (w1.length + k) q (by rw [List.getElem?_append_right (Nat.le_add_right _ _), Nat.add_sub_cancel_left]; exact hk)
theorem q_hasY {ls : Array Slot} {nL i : Nat} {l : List (Nat × Value)} {v : Value} (h : lv_has ls nL l) (hk : q_lk i l = some v) : ls[i]? = some (.val v) := h.2.2 (i, v) (q_lk_mem hk)
section QYR
variable {l : Launch} {K : q_K} {cc : ByteArray} {own : String} {dd n0 U u pc idx : Nat} {xa : List Nat} {ex : va_W} {Z : Heap → Prop} {lv : List (Nat × Value)} {st : List Value} {S : q_St}
theorem y_iconst (C : q_Cy K cc own dd n0 U xa Z) {n : Int} {v : Int32} (d : decode cc pc = .ok (.iconst n, 1)) (hv : Int32.ofInt n = v) (k : q_Y l K u ex Z (pc + 1) lv (.int v :: st) S) : q_Y l K u ex Z pc lv st S := by
  obtain ⟨p, e, R, s, m, args, below, meth, c, cells, slots, Q, D, cy, ad, A, nL, L⟩ := K
  obtain ⟨hx, hb, hml, hnl, hown, hts, hK, hi, hA1, hA2, hf1, hf2, hc1, hc2, hE, hEX, hxa, hZs⟩ := C
  intro cl sl H locs ls hc9 hs9 hP hZ hS hl
  exact lv_iconst hx hb d hv (k cl sl H locs ls hc9 hs9 hP hZ hS hl)
theorem y_bipush (C : q_Cy K cc own dd n0 U xa Z) {n : Int} {v : Int32} (d : decode cc pc = .ok (.bipush n, 2)) (hv : (Int8.ofInt n).toInt32 = v) (k : q_Y l K u ex Z (pc + 2) lv (.int v :: st) S) : q_Y l K u ex Z pc lv st S := by
  obtain ⟨p, e, R, s, m, args, below, meth, c, cells, slots, Q, D, cy, ad, A, nL, L⟩ := K
  obtain ⟨hx, hb, hml, hnl, hown, hts, hK, hi, hA1, hA2, hf1, hf2, hc1, hc2, hE, hEX, hxa, hZs⟩ := C
  intro cl sl H locs ls hc9 hs9 hP hZ hS hl
  exact lv_bipush hx hb d hv (k cl sl H locs ls hc9 hs9 hP hZ hS hl)
theorem y_sipush (C : q_Cy K cc own dd n0 U xa Z) {n : Int} {v : Int32} (d : decode cc pc = .ok (.sipush n, 3)) (hv : (Int16.ofInt n).toInt32 = v) (k : q_Y l K u ex Z (pc + 3) lv (.int v :: st) S) : q_Y l K u ex Z pc lv st S := by
  obtain ⟨p, e, R, s, m, args, below, meth, c, cells, slots, Q, D, cy, ad, A, nL, L⟩ := K
  obtain ⟨hx, hb, hml, hnl, hown, hts, hK, hi, hA1, hA2, hf1, hf2, hc1, hc2, hE, hEX, hxa, hZs⟩ := C
  intro cl sl H locs ls hc9 hs9 hP hZ hS hl
  exact lv_sipush hx hb d hv (k cl sl H locs ls hc9 hs9 hP hZ hS hl)
theorem y_iload_n (C : q_Cy K cc own dd n0 U xa Z) {f : Fin 4} {i : Nat} {x : Int32} (d : decode cc pc = .ok (.iload_n f, 1)) (hi9 : (f : Nat) = i) (hk : q_lk i lv = some (.int x)) (k : q_Y l K u ex Z (pc + 1) lv (.int x :: st) S) : q_Y l K u ex Z pc lv st S := by
  obtain ⟨p, e, R, s, m, args, below, meth, c, cells, slots, Q, D, cy, ad, A, nL, L⟩ := K
  obtain ⟨hx, hb, hml, hnl, hown, hts, hK, hi, hA1, hA2, hf1, hf2, hc1, hc2, hE, hEX, hxa, hZs⟩ := C
  intro cl sl H locs ls hc9 hs9 hP hZ hS hl
  exact lv_iload_n hx hb d hi9 (q_hasY hl hk) (k cl sl H locs ls hc9 hs9 hP hZ hS hl)
theorem y_iload (C : q_Cy K cc own dd n0 U xa Z) {i : Nat} {x : Int32} (d : decode cc pc = .ok (.iload i, 2)) (hk : q_lk i lv = some (.int x)) (k : q_Y l K u ex Z (pc + 2) lv (.int x :: st) S) : q_Y l K u ex Z pc lv st S := by
  obtain ⟨p, e, R, s, m, args, below, meth, c, cells, slots, Q, D, cy, ad, A, nL, L⟩ := K
  obtain ⟨hx, hb, hml, hnl, hown, hts, hK, hi, hA1, hA2, hf1, hf2, hc1, hc2, hE, hEX, hxa, hZs⟩ := C
  intro cl sl H locs ls hc9 hs9 hP hZ hS hl
  exact lv_iload hx hb d (q_hasY hl hk) (k cl sl H locs ls hc9 hs9 hP hZ hS hl)
theorem y_aload_n (C : q_Cy K cc own dd n0 U xa Z) {f : Fin 4} {i : Nat} {x : Nat} (d : decode cc pc = .ok (.aload_n f, 1)) (hi9 : (f : Nat) = i) (hk : q_lk i lv = some (.ref x)) (k : q_Y l K u ex Z (pc + 1) lv (.ref x :: st) S) : q_Y l K u ex Z pc lv st S := by
  obtain ⟨p, e, R, s, m, args, below, meth, c, cells, slots, Q, D, cy, ad, A, nL, L⟩ := K
  obtain ⟨hx, hb, hml, hnl, hown, hts, hK, hi, hA1, hA2, hf1, hf2, hc1, hc2, hE, hEX, hxa, hZs⟩ := C
  intro cl sl H locs ls hc9 hs9 hP hZ hS hl
  exact lv_aload_n hx hb d hi9 (q_hasY hl hk) (k cl sl H locs ls hc9 hs9 hP hZ hS hl)
theorem y_aload (C : q_Cy K cc own dd n0 U xa Z) {i : Nat} {x : Nat} (d : decode cc pc = .ok (.aload i, 2)) (hk : q_lk i lv = some (.ref x)) (k : q_Y l K u ex Z (pc + 2) lv (.ref x :: st) S) : q_Y l K u ex Z pc lv st S := by
  obtain ⟨p, e, R, s, m, args, below, meth, c, cells, slots, Q, D, cy, ad, A, nL, L⟩ := K
  obtain ⟨hx, hb, hml, hnl, hown, hts, hK, hi, hA1, hA2, hf1, hf2, hc1, hc2, hE, hEX, hxa, hZs⟩ := C
  intro cl sl H locs ls hc9 hs9 hP hZ hS hl
  exact lv_aload hx hb d (q_hasY hl hk) (k cl sl H locs ls hc9 hs9 hP hZ hS hl)
theorem y_istore_n (C : q_Cy K cc own dd n0 U xa Z) {f : Fin 4} {i : Nat} {x : Int32} {lv' : List (Nat × Value)} (d : decode cc pc = .ok (.istore_n f, 1)) (hi9 : (f : Nat) = i) (hn : i < n0) (hlv : (i, Value.int x) :: q_lf i lv = lv') (k : q_Y l K u ex Z (pc + 1) lv' st S) : q_Y l K u ex Z pc lv (.int x :: st) S := by
  obtain ⟨p, e, R, s, m, args, below, meth, c, cells, slots, Q, D, cy, ad, A, nL, L⟩ := K
  obtain ⟨hx, hb, hml, hnl, hown, hts, hK, hi, hA1, hA2, hf1, hf2, hc1, hc2, hE, hEX, hxa, hZs⟩ := C
  intro cl sl H locs ls hc9 hs9 hP hZ hS hl
  subst hlv; subst hnl
  exact lv_istore_n hx hb d hi9 hl hn rfl (fun ls' hl' => k cl sl H locs ls' hc9 hs9 hP hZ hS hl')
theorem y_istore (C : q_Cy K cc own dd n0 U xa Z) {i : Nat} {x : Int32} {lv' : List (Nat × Value)} (d : decode cc pc = .ok (.istore i, 2)) (hn : i < n0) (hlv : (i, Value.int x) :: q_lf i lv = lv') (k : q_Y l K u ex Z (pc + 2) lv' st S) : q_Y l K u ex Z pc lv (.int x :: st) S := by
  obtain ⟨p, e, R, s, m, args, below, meth, c, cells, slots, Q, D, cy, ad, A, nL, L⟩ := K
  obtain ⟨hx, hb, hml, hnl, hown, hts, hK, hi, hA1, hA2, hf1, hf2, hc1, hc2, hE, hEX, hxa, hZs⟩ := C
  intro cl sl H locs ls hc9 hs9 hP hZ hS hl
  subst hlv; subst hnl
  exact lv_istore hx hb d hl hn rfl (fun ls' hl' => k cl sl H locs ls' hc9 hs9 hP hZ hS hl')
theorem y_astore_n (C : q_Cy K cc own dd n0 U xa Z) {f : Fin 4} {i : Nat} {x : Nat} {lv' : List (Nat × Value)} (d : decode cc pc = .ok (.astore_n f, 1)) (hi9 : (f : Nat) = i) (hn : i < n0) (hlv : (i, Value.ref x) :: q_lf i lv = lv') (k : q_Y l K u ex Z (pc + 1) lv' st S) : q_Y l K u ex Z pc lv (.ref x :: st) S := by
  obtain ⟨p, e, R, s, m, args, below, meth, c, cells, slots, Q, D, cy, ad, A, nL, L⟩ := K
  obtain ⟨hx, hb, hml, hnl, hown, hts, hK, hi, hA1, hA2, hf1, hf2, hc1, hc2, hE, hEX, hxa, hZs⟩ := C
  intro cl sl H locs ls hc9 hs9 hP hZ hS hl
  subst hlv; subst hnl
  exact lv_astore_n hx hb d hi9 hl hn rfl (fun ls' hl' => k cl sl H locs ls' hc9 hs9 hP hZ hS hl')
theorem y_astore (C : q_Cy K cc own dd n0 U xa Z) {i : Nat} {x : Nat} {lv' : List (Nat × Value)} (d : decode cc pc = .ok (.astore i, 2)) (hn : i < n0) (hlv : (i, Value.ref x) :: q_lf i lv = lv') (k : q_Y l K u ex Z (pc + 2) lv' st S) : q_Y l K u ex Z pc lv (.ref x :: st) S := by
  obtain ⟨p, e, R, s, m, args, below, meth, c, cells, slots, Q, D, cy, ad, A, nL, L⟩ := K
  obtain ⟨hx, hb, hml, hnl, hown, hts, hK, hi, hA1, hA2, hf1, hf2, hc1, hc2, hE, hEX, hxa, hZs⟩ := C
  intro cl sl H locs ls hc9 hs9 hP hZ hS hl
  subst hlv; subst hnl
  exact lv_astore hx hb d hl hn rfl (fun ls' hl' => k cl sl H locs ls' hc9 hs9 hP hZ hS hl')
theorem y_iinc (C : q_Cy K cc own dd n0 U xa Z) {i : Nat} {n : Int} {x v : Int32} {lv' : List (Nat × Value)} (d : decode cc pc = .ok (.iinc i n, 3)) (hk : q_lk i lv = some (.int x)) (hv : x + Int32.ofInt n = v) (hn : i < n0) (hlv : (i, Value.int v) :: q_lf i lv = lv') (k : q_Y l K u ex Z (pc + 3) lv' st S) : q_Y l K u ex Z pc lv st S := by
  obtain ⟨p, e, R, s, m, args, below, meth, c, cells, slots, Q, D, cy, ad, A, nL, L⟩ := K
  obtain ⟨hx, hb, hml, hnl, hown, hts, hK, hi, hA1, hA2, hf1, hf2, hc1, hc2, hE, hEX, hxa, hZs⟩ := C
  intro cl sl H locs ls hc9 hs9 hP hZ hS hl
  subst hlv; subst hnl
  obtain ⟨k0, hk0⟩ := List.getElem?_of_mem (q_lk_mem hk)
  exact lv_iinc hx hb d hl hk0 hv hn rfl (fun ls' hl' => k cl sl H locs ls' hc9 hs9 hP hZ hS hl')
theorem y_iadd (C : q_Cy K cc own dd n0 U xa Z) {x y : Int32} (d : decode cc pc = .ok (.iadd, 1)) (k : q_Y l K u ex Z (pc + 1) lv (.int (x + y) :: st) S) : q_Y l K u ex Z pc lv (.int y :: .int x :: st) S := by
  obtain ⟨p, e, R, s, m, args, below, meth, c, cells, slots, Q, D, cy, ad, A, nL, L⟩ := K
  obtain ⟨hx, hb, hml, hnl, hown, hts, hK, hi, hA1, hA2, hf1, hf2, hc1, hc2, hE, hEX, hxa, hZs⟩ := C
  intro cl sl H locs ls hc9 hs9 hP hZ hS hl
  exact lv_iadd hx hb d (k cl sl H locs ls hc9 hs9 hP hZ hS hl)
theorem y_isub (C : q_Cy K cc own dd n0 U xa Z) {x y : Int32} (d : decode cc pc = .ok (.isub, 1)) (k : q_Y l K u ex Z (pc + 1) lv (.int (x - y) :: st) S) : q_Y l K u ex Z pc lv (.int y :: .int x :: st) S := by
  obtain ⟨p, e, R, s, m, args, below, meth, c, cells, slots, Q, D, cy, ad, A, nL, L⟩ := K
  obtain ⟨hx, hb, hml, hnl, hown, hts, hK, hi, hA1, hA2, hf1, hf2, hc1, hc2, hE, hEX, hxa, hZs⟩ := C
  intro cl sl H locs ls hc9 hs9 hP hZ hS hl
  exact lv_isub hx hb d (k cl sl H locs ls hc9 hs9 hP hZ hS hl)
theorem y_imul (C : q_Cy K cc own dd n0 U xa Z) {x y : Int32} (d : decode cc pc = .ok (.imul, 1)) (k : q_Y l K u ex Z (pc + 1) lv (.int (x * y) :: st) S) : q_Y l K u ex Z pc lv (.int y :: .int x :: st) S := by
  obtain ⟨p, e, R, s, m, args, below, meth, c, cells, slots, Q, D, cy, ad, A, nL, L⟩ := K
  obtain ⟨hx, hb, hml, hnl, hown, hts, hK, hi, hA1, hA2, hf1, hf2, hc1, hc2, hE, hEX, hxa, hZs⟩ := C
  intro cl sl H locs ls hc9 hs9 hP hZ hS hl
  exact lv_imul hx hb d (k cl sl H locs ls hc9 hs9 hP hZ hS hl)
theorem y_iand (C : q_Cy K cc own dd n0 U xa Z) {x y : Int32} (d : decode cc pc = .ok (.iand, 1)) (k : q_Y l K u ex Z (pc + 1) lv (.int (x &&& y) :: st) S) : q_Y l K u ex Z pc lv (.int y :: .int x :: st) S := by
  obtain ⟨p, e, R, s, m, args, below, meth, c, cells, slots, Q, D, cy, ad, A, nL, L⟩ := K
  obtain ⟨hx, hb, hml, hnl, hown, hts, hK, hi, hA1, hA2, hf1, hf2, hc1, hc2, hE, hEX, hxa, hZs⟩ := C
  intro cl sl H locs ls hc9 hs9 hP hZ hS hl
  exact lv_iand hx hb d (k cl sl H locs ls hc9 hs9 hP hZ hS hl)
theorem y_ior (C : q_Cy K cc own dd n0 U xa Z) {x y : Int32} (d : decode cc pc = .ok (.ior, 1)) (k : q_Y l K u ex Z (pc + 1) lv (.int (x ||| y) :: st) S) : q_Y l K u ex Z pc lv (.int y :: .int x :: st) S := by
  obtain ⟨p, e, R, s, m, args, below, meth, c, cells, slots, Q, D, cy, ad, A, nL, L⟩ := K
  obtain ⟨hx, hb, hml, hnl, hown, hts, hK, hi, hA1, hA2, hf1, hf2, hc1, hc2, hE, hEX, hxa, hZs⟩ := C
  intro cl sl H locs ls hc9 hs9 hP hZ hS hl
  exact lv_ior hx hb d (k cl sl H locs ls hc9 hs9 hP hZ hS hl)
theorem y_ixor (C : q_Cy K cc own dd n0 U xa Z) {x y : Int32} (d : decode cc pc = .ok (.ixor, 1)) (k : q_Y l K u ex Z (pc + 1) lv (.int (x ^^^ y) :: st) S) : q_Y l K u ex Z pc lv (.int y :: .int x :: st) S := by
  obtain ⟨p, e, R, s, m, args, below, meth, c, cells, slots, Q, D, cy, ad, A, nL, L⟩ := K
  obtain ⟨hx, hb, hml, hnl, hown, hts, hK, hi, hA1, hA2, hf1, hf2, hc1, hc2, hE, hEX, hxa, hZs⟩ := C
  intro cl sl H locs ls hc9 hs9 hP hZ hS hl
  exact lv_ixor hx hb d (k cl sl H locs ls hc9 hs9 hP hZ hS hl)
theorem y_ishl (C : q_Cy K cc own dd n0 U xa Z) {x y : Int32} (d : decode cc pc = .ok (.ishl, 1)) (k : q_Y l K u ex Z (pc + 1) lv (.int (x <<< (y &&& 31)) :: st) S) : q_Y l K u ex Z pc lv (.int y :: .int x :: st) S := by
  obtain ⟨p, e, R, s, m, args, below, meth, c, cells, slots, Q, D, cy, ad, A, nL, L⟩ := K
  obtain ⟨hx, hb, hml, hnl, hown, hts, hK, hi, hA1, hA2, hf1, hf2, hc1, hc2, hE, hEX, hxa, hZs⟩ := C
  intro cl sl H locs ls hc9 hs9 hP hZ hS hl
  exact lv_ishl hx hb d (k cl sl H locs ls hc9 hs9 hP hZ hS hl)
theorem y_idiv (C : q_Cy K cc own dd n0 U xa Z) {x y : Int32} (h0 : ¬ y = 0) (d : decode cc pc = .ok (.idiv, 1)) (k : q_Y l K u ex Z (pc + 1) lv (.int (x / y) :: st) S) : q_Y l K u ex Z pc lv (.int y :: .int x :: st) S := by
  obtain ⟨p, e, R, s, m, args, below, meth, c, cells, slots, Q, D, cy, ad, A, nL, L⟩ := K
  obtain ⟨hx, hb, hml, hnl, hown, hts, hK, hi, hA1, hA2, hf1, hf2, hc1, hc2, hE, hEX, hxa, hZs⟩ := C
  intro cl sl H locs ls hc9 hs9 hP hZ hS hl
  exact lv_idiv hx hb d h0 (k cl sl H locs ls hc9 hs9 hP hZ hS hl)
theorem y_irem (C : q_Cy K cc own dd n0 U xa Z) {x y : Int32} (h0 : ¬ y = 0) (d : decode cc pc = .ok (.irem, 1)) (k : q_Y l K u ex Z (pc + 1) lv (.int (x - x / y * y) :: st) S) : q_Y l K u ex Z pc lv (.int y :: .int x :: st) S := by
  obtain ⟨p, e, R, s, m, args, below, meth, c, cells, slots, Q, D, cy, ad, A, nL, L⟩ := K
  obtain ⟨hx, hb, hml, hnl, hown, hts, hK, hi, hA1, hA2, hf1, hf2, hc1, hc2, hE, hEX, hxa, hZs⟩ := C
  intro cl sl H locs ls hc9 hs9 hP hZ hS hl
  exact lv_irem hx hb d h0 (k cl sl H locs ls hc9 hs9 hP hZ hS hl)
theorem y_ineg (C : q_Cy K cc own dd n0 U xa Z) {x : Int32} (d : decode cc pc = .ok (.ineg, 1)) (k : q_Y l K u ex Z (pc + 1) lv (.int (-x) :: st) S) : q_Y l K u ex Z pc lv (.int x :: st) S := by
  obtain ⟨p, e, R, s, m, args, below, meth, c, cells, slots, Q, D, cy, ad, A, nL, L⟩ := K
  obtain ⟨hx, hb, hml, hnl, hown, hts, hK, hi, hA1, hA2, hf1, hf2, hc1, hc2, hE, hEX, hxa, hZs⟩ := C
  intro cl sl H locs ls hc9 hs9 hP hZ hS hl
  exact lv_ineg hx hb d (k cl sl H locs ls hc9 hs9 hP hZ hS hl)
theorem y_dup (C : q_Cy K cc own dd n0 U xa Z) {v : Value} (hcat : v.category = 1) (d : decode cc pc = .ok (.dup, 1)) (k : q_Y l K u ex Z (pc + 1) lv (v :: v :: st) S) : q_Y l K u ex Z pc lv (v :: st) S := by
  obtain ⟨p, e, R, s, m, args, below, meth, c, cells, slots, Q, D, cy, ad, A, nL, L⟩ := K
  obtain ⟨hx, hb, hml, hnl, hown, hts, hK, hi, hA1, hA2, hf1, hf2, hc1, hc2, hE, hEX, hxa, hZs⟩ := C
  intro cl sl H locs ls hc9 hs9 hP hZ hS hl
  exact lv_dup hx hb d hcat (k cl sl H locs ls hc9 hs9 hP hZ hS hl)
theorem y_pop (C : q_Cy K cc own dd n0 U xa Z) {v : Value} (hcat : v.category = 1) (d : decode cc pc = .ok (.pop, 1)) (k : q_Y l K u ex Z (pc + 1) lv st S) : q_Y l K u ex Z pc lv (v :: st) S := by
  obtain ⟨p, e, R, s, m, args, below, meth, c, cells, slots, Q, D, cy, ad, A, nL, L⟩ := K
  obtain ⟨hx, hb, hml, hnl, hown, hts, hK, hi, hA1, hA2, hf1, hf2, hc1, hc2, hE, hEX, hxa, hZs⟩ := C
  intro cl sl H locs ls hc9 hs9 hP hZ hS hl
  exact lv_pop hx hb d hcat (k cl sl H locs ls hc9 hs9 hP hZ hS hl)
theorem y_dup2 (C : q_Cy K cc own dd n0 U xa Z) {v w : Value} (hcv : v.category = 1) (hcu : w.category = 1) (d : decode cc pc = .ok (.dup2, 1)) (k : q_Y l K u ex Z (pc + 1) lv (v :: w :: v :: w :: st) S) : q_Y l K u ex Z pc lv (v :: w :: st) S := by
  obtain ⟨p, e, R, s, m, args, below, meth, c, cells, slots, Q, D, cy, ad, A, nL, L⟩ := K
  obtain ⟨hx, hb, hml, hnl, hown, hts, hK, hi, hA1, hA2, hf1, hf2, hc1, hc2, hE, hEX, hxa, hZs⟩ := C
  intro cl sl H locs ls hc9 hs9 hP hZ hS hl
  exact lv_dup2_11 hx hb d hcv hcu (k cl sl H locs ls hc9 hs9 hP hZ hS hl)
theorem y_if_eq (C : q_Cy K cc own dd n0 U xa Z) {x : Int32} {off : Int} {tgt : Nat} (d : decode cc pc = .ok (.ifCond .eq off, 3)) (ht : (pc : Int) + off = (tgt : Int)) (kt : x = 0 → q_Y l K u ex Z tgt lv st S) (kf : x ≠ 0 → q_Y l K u ex Z (pc + 3) lv st S) : q_Y l K u ex Z pc lv (.int x :: st) S := by
  obtain ⟨p, e, R, s, m, args, below, meth, c, cells, slots, Q, D, cy, ad, A, nL, L⟩ := K
  obtain ⟨hx, hb, hml, hnl, hown, hts, hK, hi, hA1, hA2, hf1, hf2, hc1, hc2, hE, hEX, hxa, hZs⟩ := C
  intro cl sl H locs ls hc9 hs9 hP hZ hS hl
  exact lv_if_eq hx hb d ht (fun h => kt h cl sl H locs ls hc9 hs9 hP hZ hS hl) (fun h => kf h cl sl H locs ls hc9 hs9 hP hZ hS hl)
theorem y_icmp_eq (C : q_Cy K cc own dd n0 U xa Z) {x y : Int32} {off : Int} {tgt : Nat} (d : decode cc pc = .ok (.if_icmp .eq off, 3)) (ht : (pc : Int) + off = (tgt : Int)) (kt : x = y → q_Y l K u ex Z tgt lv st S) (kf : x ≠ y → q_Y l K u ex Z (pc + 3) lv st S) : q_Y l K u ex Z pc lv (.int y :: .int x :: st) S := by
  obtain ⟨p, e, R, s, m, args, below, meth, c, cells, slots, Q, D, cy, ad, A, nL, L⟩ := K
  obtain ⟨hx, hb, hml, hnl, hown, hts, hK, hi, hA1, hA2, hf1, hf2, hc1, hc2, hE, hEX, hxa, hZs⟩ := C
  intro cl sl H locs ls hc9 hs9 hP hZ hS hl
  exact lv_icmp_eq hx hb d ht (fun h => kt h cl sl H locs ls hc9 hs9 hP hZ hS hl) (fun h => kf h cl sl H locs ls hc9 hs9 hP hZ hS hl)
theorem y_if_ne (C : q_Cy K cc own dd n0 U xa Z) {x : Int32} {off : Int} {tgt : Nat} (d : decode cc pc = .ok (.ifCond .ne off, 3)) (ht : (pc : Int) + off = (tgt : Int)) (kt : x ≠ 0 → q_Y l K u ex Z tgt lv st S) (kf : x = 0 → q_Y l K u ex Z (pc + 3) lv st S) : q_Y l K u ex Z pc lv (.int x :: st) S := by
  obtain ⟨p, e, R, s, m, args, below, meth, c, cells, slots, Q, D, cy, ad, A, nL, L⟩ := K
  obtain ⟨hx, hb, hml, hnl, hown, hts, hK, hi, hA1, hA2, hf1, hf2, hc1, hc2, hE, hEX, hxa, hZs⟩ := C
  intro cl sl H locs ls hc9 hs9 hP hZ hS hl
  exact lv_if_ne hx hb d ht (fun h => kt h cl sl H locs ls hc9 hs9 hP hZ hS hl) (fun h => kf h cl sl H locs ls hc9 hs9 hP hZ hS hl)
theorem y_icmp_ne (C : q_Cy K cc own dd n0 U xa Z) {x y : Int32} {off : Int} {tgt : Nat} (d : decode cc pc = .ok (.if_icmp .ne off, 3)) (ht : (pc : Int) + off = (tgt : Int)) (kt : x ≠ y → q_Y l K u ex Z tgt lv st S) (kf : x = y → q_Y l K u ex Z (pc + 3) lv st S) : q_Y l K u ex Z pc lv (.int y :: .int x :: st) S := by
  obtain ⟨p, e, R, s, m, args, below, meth, c, cells, slots, Q, D, cy, ad, A, nL, L⟩ := K
  obtain ⟨hx, hb, hml, hnl, hown, hts, hK, hi, hA1, hA2, hf1, hf2, hc1, hc2, hE, hEX, hxa, hZs⟩ := C
  intro cl sl H locs ls hc9 hs9 hP hZ hS hl
  exact lv_icmp_ne hx hb d ht (fun h => kt h cl sl H locs ls hc9 hs9 hP hZ hS hl) (fun h => kf h cl sl H locs ls hc9 hs9 hP hZ hS hl)
theorem y_if_lt (C : q_Cy K cc own dd n0 U xa Z) {x : Int32} {off : Int} {tgt : Nat} (d : decode cc pc = .ok (.ifCond .lt off, 3)) (ht : (pc : Int) + off = (tgt : Int)) (kt : x < 0 → q_Y l K u ex Z tgt lv st S) (kf : 0 ≤ x → q_Y l K u ex Z (pc + 3) lv st S) : q_Y l K u ex Z pc lv (.int x :: st) S := by
  obtain ⟨p, e, R, s, m, args, below, meth, c, cells, slots, Q, D, cy, ad, A, nL, L⟩ := K
  obtain ⟨hx, hb, hml, hnl, hown, hts, hK, hi, hA1, hA2, hf1, hf2, hc1, hc2, hE, hEX, hxa, hZs⟩ := C
  intro cl sl H locs ls hc9 hs9 hP hZ hS hl
  exact lv_if_lt hx hb d ht (fun h => kt h cl sl H locs ls hc9 hs9 hP hZ hS hl) (fun h => kf (Int32.not_lt.mp h) cl sl H locs ls hc9 hs9 hP hZ hS hl)
theorem y_icmp_lt (C : q_Cy K cc own dd n0 U xa Z) {x y : Int32} {off : Int} {tgt : Nat} (d : decode cc pc = .ok (.if_icmp .lt off, 3)) (ht : (pc : Int) + off = (tgt : Int)) (kt : x < y → q_Y l K u ex Z tgt lv st S) (kf : y ≤ x → q_Y l K u ex Z (pc + 3) lv st S) : q_Y l K u ex Z pc lv (.int y :: .int x :: st) S := by
  obtain ⟨p, e, R, s, m, args, below, meth, c, cells, slots, Q, D, cy, ad, A, nL, L⟩ := K
  obtain ⟨hx, hb, hml, hnl, hown, hts, hK, hi, hA1, hA2, hf1, hf2, hc1, hc2, hE, hEX, hxa, hZs⟩ := C
  intro cl sl H locs ls hc9 hs9 hP hZ hS hl
  exact lv_icmp_lt hx hb d ht (fun h => kt h cl sl H locs ls hc9 hs9 hP hZ hS hl) (fun h => kf (Int32.not_lt.mp h) cl sl H locs ls hc9 hs9 hP hZ hS hl)
theorem y_if_ge (C : q_Cy K cc own dd n0 U xa Z) {x : Int32} {off : Int} {tgt : Nat} (d : decode cc pc = .ok (.ifCond .ge off, 3)) (ht : (pc : Int) + off = (tgt : Int)) (kt : 0 ≤ x → q_Y l K u ex Z tgt lv st S) (kf : x < 0 → q_Y l K u ex Z (pc + 3) lv st S) : q_Y l K u ex Z pc lv (.int x :: st) S := by
  obtain ⟨p, e, R, s, m, args, below, meth, c, cells, slots, Q, D, cy, ad, A, nL, L⟩ := K
  obtain ⟨hx, hb, hml, hnl, hown, hts, hK, hi, hA1, hA2, hf1, hf2, hc1, hc2, hE, hEX, hxa, hZs⟩ := C
  intro cl sl H locs ls hc9 hs9 hP hZ hS hl
  exact lv_if_ge hx hb d ht (fun h => kt h cl sl H locs ls hc9 hs9 hP hZ hS hl) (fun h => kf (Int32.not_le.mp h) cl sl H locs ls hc9 hs9 hP hZ hS hl)
theorem y_icmp_ge (C : q_Cy K cc own dd n0 U xa Z) {x y : Int32} {off : Int} {tgt : Nat} (d : decode cc pc = .ok (.if_icmp .ge off, 3)) (ht : (pc : Int) + off = (tgt : Int)) (kt : y ≤ x → q_Y l K u ex Z tgt lv st S) (kf : x < y → q_Y l K u ex Z (pc + 3) lv st S) : q_Y l K u ex Z pc lv (.int y :: .int x :: st) S := by
  obtain ⟨p, e, R, s, m, args, below, meth, c, cells, slots, Q, D, cy, ad, A, nL, L⟩ := K
  obtain ⟨hx, hb, hml, hnl, hown, hts, hK, hi, hA1, hA2, hf1, hf2, hc1, hc2, hE, hEX, hxa, hZs⟩ := C
  intro cl sl H locs ls hc9 hs9 hP hZ hS hl
  exact lv_icmp_ge hx hb d ht (fun h => kt h cl sl H locs ls hc9 hs9 hP hZ hS hl) (fun h => kf (Int32.not_le.mp h) cl sl H locs ls hc9 hs9 hP hZ hS hl)
theorem y_if_gt (C : q_Cy K cc own dd n0 U xa Z) {x : Int32} {off : Int} {tgt : Nat} (d : decode cc pc = .ok (.ifCond .gt off, 3)) (ht : (pc : Int) + off = (tgt : Int)) (kt : 0 < x → q_Y l K u ex Z tgt lv st S) (kf : x ≤ 0 → q_Y l K u ex Z (pc + 3) lv st S) : q_Y l K u ex Z pc lv (.int x :: st) S := by
  obtain ⟨p, e, R, s, m, args, below, meth, c, cells, slots, Q, D, cy, ad, A, nL, L⟩ := K
  obtain ⟨hx, hb, hml, hnl, hown, hts, hK, hi, hA1, hA2, hf1, hf2, hc1, hc2, hE, hEX, hxa, hZs⟩ := C
  intro cl sl H locs ls hc9 hs9 hP hZ hS hl
  exact lv_if_gt hx hb d ht (fun h => kt h cl sl H locs ls hc9 hs9 hP hZ hS hl) (fun h => kf (Int32.not_lt.mp h) cl sl H locs ls hc9 hs9 hP hZ hS hl)
theorem y_icmp_gt (C : q_Cy K cc own dd n0 U xa Z) {x y : Int32} {off : Int} {tgt : Nat} (d : decode cc pc = .ok (.if_icmp .gt off, 3)) (ht : (pc : Int) + off = (tgt : Int)) (kt : y < x → q_Y l K u ex Z tgt lv st S) (kf : x ≤ y → q_Y l K u ex Z (pc + 3) lv st S) : q_Y l K u ex Z pc lv (.int y :: .int x :: st) S := by
  obtain ⟨p, e, R, s, m, args, below, meth, c, cells, slots, Q, D, cy, ad, A, nL, L⟩ := K
  obtain ⟨hx, hb, hml, hnl, hown, hts, hK, hi, hA1, hA2, hf1, hf2, hc1, hc2, hE, hEX, hxa, hZs⟩ := C
  intro cl sl H locs ls hc9 hs9 hP hZ hS hl
  exact lv_icmp_gt hx hb d ht (fun h => kt h cl sl H locs ls hc9 hs9 hP hZ hS hl) (fun h => kf (Int32.not_lt.mp h) cl sl H locs ls hc9 hs9 hP hZ hS hl)
theorem y_if_le (C : q_Cy K cc own dd n0 U xa Z) {x : Int32} {off : Int} {tgt : Nat} (d : decode cc pc = .ok (.ifCond .le off, 3)) (ht : (pc : Int) + off = (tgt : Int)) (kt : x ≤ 0 → q_Y l K u ex Z tgt lv st S) (kf : 0 < x → q_Y l K u ex Z (pc + 3) lv st S) : q_Y l K u ex Z pc lv (.int x :: st) S := by
  obtain ⟨p, e, R, s, m, args, below, meth, c, cells, slots, Q, D, cy, ad, A, nL, L⟩ := K
  obtain ⟨hx, hb, hml, hnl, hown, hts, hK, hi, hA1, hA2, hf1, hf2, hc1, hc2, hE, hEX, hxa, hZs⟩ := C
  intro cl sl H locs ls hc9 hs9 hP hZ hS hl
  exact lv_if_le hx hb d ht (fun h => kt h cl sl H locs ls hc9 hs9 hP hZ hS hl) (fun h => kf (Int32.not_le.mp h) cl sl H locs ls hc9 hs9 hP hZ hS hl)
theorem y_icmp_le (C : q_Cy K cc own dd n0 U xa Z) {x y : Int32} {off : Int} {tgt : Nat} (d : decode cc pc = .ok (.if_icmp .le off, 3)) (ht : (pc : Int) + off = (tgt : Int)) (kt : x ≤ y → q_Y l K u ex Z tgt lv st S) (kf : y < x → q_Y l K u ex Z (pc + 3) lv st S) : q_Y l K u ex Z pc lv (.int y :: .int x :: st) S := by
  obtain ⟨p, e, R, s, m, args, below, meth, c, cells, slots, Q, D, cy, ad, A, nL, L⟩ := K
  obtain ⟨hx, hb, hml, hnl, hown, hts, hK, hi, hA1, hA2, hf1, hf2, hc1, hc2, hE, hEX, hxa, hZs⟩ := C
  intro cl sl H locs ls hc9 hs9 hP hZ hS hl
  exact lv_icmp_le hx hb d ht (fun h => kt h cl sl H locs ls hc9 hs9 hP hZ hS hl) (fun h => kf (Int32.not_le.mp h) cl sl H locs ls hc9 hs9 hP hZ hS hl)
theorem y_goto (C : q_Cy K cc own dd n0 U xa Z) {off : Int} {tgt : Nat} (d : decode cc pc = .ok (.goto off, 3)) (ht : (pc : Int) + off = (tgt : Int)) (k : q_Y l K u ex Z tgt lv st S) : q_Y l K u ex Z pc lv st S := by
  obtain ⟨p, e, R, s, m, args, below, meth, c, cells, slots, Q, D, cy, ad, A, nL, L⟩ := K
  obtain ⟨hx, hb, hml, hnl, hown, hts, hK, hi, hA1, hA2, hf1, hf2, hc1, hc2, hE, hEX, hxa, hZs⟩ := C
  intro cl sl H locs ls hc9 hs9 hP hZ hS hl
  exact lv_goto hx hb d ht (k cl sl H locs ls hc9 hs9 hP hZ hS hl)
theorem y_tabout (C : q_Cy K cc own dd n0 U xa Z) {dflt lo hi : Int} {offs : Array Int} {len : Nat} {x : Int32} {tgt : Nat} (d : decode cc pc = .ok (.tableswitch dflt lo hi offs, len)) (h : x.toInt < lo ∨ hi < x.toInt) (ht : (pc : Int) + dflt = (tgt : Int)) (k : q_Y l K u ex Z tgt lv st S) : q_Y l K u ex Z pc lv (.int x :: st) S := by
  obtain ⟨p, e, R, s, m, args, below, meth, c, cells, slots, Q, D, cy, ad, A, nL, L⟩ := K
  obtain ⟨hx, hb, hml, hnl, hown, hts, hK, hi, hA1, hA2, hf1, hf2, hc1, hc2, hE, hEX, hxa, hZs⟩ := C
  intro cl sl H locs ls hc9 hs9 hP hZ hS hl
  exact lv_tableOut hx hb d h ht (k cl sl H locs ls hc9 hs9 hP hZ hS hl)
theorem y_tabin (C : q_Cy K cc own dd n0 U xa Z) {dflt lo hi : Int} {offs : Array Int} {len : Nat} {x : Int32} {off : Int} {tgt : Nat} (d : decode cc pc = .ok (.tableswitch dflt lo hi offs, len)) (h1 : ¬ x.toInt < lo) (h2 : ¬ hi < x.toInt) (ho : offs[(x.toInt - lo).toNat]? = some off) (ht : (pc : Int) + off = (tgt : Int)) (k : q_Y l K u ex Z tgt lv st S) : q_Y l K u ex Z pc lv (.int x :: st) S := by
  obtain ⟨p, e, R, s, m, args, below, meth, c, cells, slots, Q, D, cy, ad, A, nL, L⟩ := K
  obtain ⟨hx, hb, hml, hnl, hown, hts, hK, hi, hA1, hA2, hf1, hf2, hc1, hc2, hE, hEX, hxa, hZs⟩ := C
  intro cl sl H locs ls hc9 hs9 hP hZ hS hl
  exact lv_tableIn hx hb d h1 h2 ho ht (k cl sl H locs ls hc9 hs9 hP hZ hS hl)
theorem y_iaddN {a b : Nat} {x y : Int32} (C : q_Cy K cc own dd n0 U xa Z) (d : decode cc pc = .ok (.iadd, 1)) (h1 : x = nI a) (h2 : y = nI b) (k : q_Y l K u ex Z (pc + 1) lv (.int (nI (a + b)) :: st) S) : q_Y l K u ex Z pc lv (.int y :: .int x :: st) S := by
  subst h1; subst h2
  exact y_iadd C d (by rw [nI_add a b]; exact k)
theorem y_imulN {a b : Nat} {x y : Int32} (C : q_Cy K cc own dd n0 U xa Z) (d : decode cc pc = .ok (.imul, 1)) (h1 : x = nI a) (h2 : y = nI b) (k : q_Y l K u ex Z (pc + 1) lv (.int (nI (a * b)) :: st) S) : q_Y l K u ex Z pc lv (.int y :: .int x :: st) S := by
  subst h1; subst h2
  exact y_imul C d (by rw [pk_mul a b]; exact k)
theorem y_isubN {a b : Nat} {x y : Int32} (C : q_Cy K cc own dd n0 U xa Z) (d : decode cc pc = .ok (.isub, 1)) (h1 : x = nI a) (h2 : y = nI b) (hab : b ≤ a) (k : q_Y l K u ex Z (pc + 1) lv (.int (nI (a - b)) :: st) S) : q_Y l K u ex Z pc lv (.int y :: .int x :: st) S := by
  subst h1; subst h2
  exact y_isub C d (by rw [pk_sub hab]; exact k)
theorem y_iaddE {v x y : Int32} (C : q_Cy K cc own dd n0 U xa Z) (d : decode cc pc = .ok (.iadd, 1)) (h : x + y = v) (k : q_Y l K u ex Z (pc + 1) lv (.int v :: st) S) : q_Y l K u ex Z pc lv (.int y :: .int x :: st) S := by
  subst h
  exact y_iadd C d k
theorem y_isubE {v x y : Int32} (C : q_Cy K cc own dd n0 U xa Z) (d : decode cc pc = .ok (.isub, 1)) (h : x - y = v) (k : q_Y l K u ex Z (pc + 1) lv (.int v :: st) S) : q_Y l K u ex Z pc lv (.int y :: .int x :: st) S := by
  subst h
  exact y_isub C d k
theorem y_imulE {v x y : Int32} (C : q_Cy K cc own dd n0 U xa Z) (d : decode cc pc = .ok (.imul, 1)) (h : x * y = v) (k : q_Y l K u ex Z (pc + 1) lv (.int v :: st) S) : q_Y l K u ex Z pc lv (.int y :: .int x :: st) S := by
  subst h
  exact y_imul C d k
theorem y_idivN {a b : Nat} {x y : Int32} (C : q_Cy K cc own dd n0 U xa Z) (d : decode cc pc = .ok (.idiv, 1)) (h1 : x = nI a) (h2 : y = nI b) (ha : a < 2 ^ 31) (h0 : 0 < b) (hb : b < 2 ^ 31) (k : q_Y l K u ex Z (pc + 1) lv (.int (nI (a / b)) :: st) S) : q_Y l K u ex Z pc lv (.int y :: .int x :: st) S := by
  subst h1; subst h2
  exact y_idiv (h0 := nI_ne0 h0 hb) C d (by rw [pk_div ha h0 hb]; exact k)
theorem y_iremN {a b : Nat} {x y : Int32} (C : q_Cy K cc own dd n0 U xa Z) (d : decode cc pc = .ok (.irem, 1)) (h1 : x = nI a) (h2 : y = nI b) (ha : a < 2 ^ 31) (h0 : 0 < b) (hb : b < 2 ^ 31) (k : q_Y l K u ex Z (pc + 1) lv (.int (nI (a % b)) :: st) S) : q_Y l K u ex Z pc lv (.int y :: .int x :: st) S := by
  subst h1; subst h2
  exact y_irem (h0 := nI_ne0 h0 hb) C d (by rw [pk_rem ha h0 hb]; exact k)
theorem y_icmp_eqN {a b : Nat} {x y : Int32} {off : Int} {tgt : Nat} (C : q_Cy K cc own dd n0 U xa Z) (d : decode cc pc = .ok (.if_icmp .eq off, 3)) (ht : (pc : Int) + off = (tgt : Int)) (h1 : x = nI a) (h2 : y = nI b) (ha : a < 2 ^ 31) (hb9 : b < 2 ^ 31) (kt : a = b → q_Y l K u ex Z tgt lv st S) (kf : a ≠ b → q_Y l K u ex Z (pc + 3) lv st S) : q_Y l K u ex Z pc lv (.int y :: .int x :: st) S := by
  subst h1; subst h2
  exact y_icmp_eq C d ht (fun h => kt ((nI_eq ha hb9).mp h)) (fun h => kf (fun e => h ((nI_eq ha hb9).mpr e)))
theorem y_if_eqN {a : Nat} {x : Int32} {off : Int} {tgt : Nat} (C : q_Cy K cc own dd n0 U xa Z) (d : decode cc pc = .ok (.ifCond .eq off, 3)) (ht : (pc : Int) + off = (tgt : Int)) (h1 : x = nI a) (ha : a < 2 ^ 31) (kt : a = 0 → q_Y l K u ex Z tgt lv st S) (kf : a ≠ 0 → q_Y l K u ex Z (pc + 3) lv st S) : q_Y l K u ex Z pc lv (.int x :: st) S := by
  subst h1
  have e0 : (0 : Int32) = nI 0 := rfl
  have h0 : (0 : Nat) < 2 ^ 31 := by omega
  refine y_if_eq C d ht (fun h => kt ?_) (fun h => kf ?_)
  · rw [e0] at h
    first | (have := (nI_eq ha h0).mp h; omega) | (have : a ≠ 0 := fun e => h ((nI_eq ha h0).mpr e); omega) | (have := (nI_ltI ha h0).mp h; omega) | (have := (nI_leI h0 ha).mp h; trivial) | (have := (nI_ltI h0 ha).mp h; omega) | (have := (nI_leI ha h0).mp h; omega)
  · rw [e0] at h
    first | (have := (nI_eq ha h0).mp h; omega) | (have : a ≠ 0 := fun e => h ((nI_eq ha h0).mpr e); omega) | (have := (nI_ltI ha h0).mp h; omega) | (have := (nI_leI h0 ha).mp h; trivial) | (have := (nI_ltI h0 ha).mp h; omega) | (have := (nI_leI ha h0).mp h; omega)
theorem y_icmp_neN {a b : Nat} {x y : Int32} {off : Int} {tgt : Nat} (C : q_Cy K cc own dd n0 U xa Z) (d : decode cc pc = .ok (.if_icmp .ne off, 3)) (ht : (pc : Int) + off = (tgt : Int)) (h1 : x = nI a) (h2 : y = nI b) (ha : a < 2 ^ 31) (hb9 : b < 2 ^ 31) (kt : a ≠ b → q_Y l K u ex Z tgt lv st S) (kf : a = b → q_Y l K u ex Z (pc + 3) lv st S) : q_Y l K u ex Z pc lv (.int y :: .int x :: st) S := by
  subst h1; subst h2
  exact y_icmp_ne C d ht (fun h => kt (fun e => h ((nI_eq ha hb9).mpr e))) (fun h => kf ((nI_eq ha hb9).mp h))
theorem y_if_neN {a : Nat} {x : Int32} {off : Int} {tgt : Nat} (C : q_Cy K cc own dd n0 U xa Z) (d : decode cc pc = .ok (.ifCond .ne off, 3)) (ht : (pc : Int) + off = (tgt : Int)) (h1 : x = nI a) (ha : a < 2 ^ 31) (kt : a ≠ 0 → q_Y l K u ex Z tgt lv st S) (kf : a = 0 → q_Y l K u ex Z (pc + 3) lv st S) : q_Y l K u ex Z pc lv (.int x :: st) S := by
  subst h1
  have e0 : (0 : Int32) = nI 0 := rfl
  have h0 : (0 : Nat) < 2 ^ 31 := by omega
  refine y_if_ne C d ht (fun h => kt ?_) (fun h => kf ?_)
  · rw [e0] at h
    first | (have := (nI_eq ha h0).mp h; omega) | (have : a ≠ 0 := fun e => h ((nI_eq ha h0).mpr e); omega) | (have := (nI_ltI ha h0).mp h; omega) | (have := (nI_leI h0 ha).mp h; trivial) | (have := (nI_ltI h0 ha).mp h; omega) | (have := (nI_leI ha h0).mp h; omega)
  · rw [e0] at h
    first | (have := (nI_eq ha h0).mp h; omega) | (have : a ≠ 0 := fun e => h ((nI_eq ha h0).mpr e); omega) | (have := (nI_ltI ha h0).mp h; omega) | (have := (nI_leI h0 ha).mp h; trivial) | (have := (nI_ltI h0 ha).mp h; omega) | (have := (nI_leI ha h0).mp h; omega)
theorem y_icmp_ltN {a b : Nat} {x y : Int32} {off : Int} {tgt : Nat} (C : q_Cy K cc own dd n0 U xa Z) (d : decode cc pc = .ok (.if_icmp .lt off, 3)) (ht : (pc : Int) + off = (tgt : Int)) (h1 : x = nI a) (h2 : y = nI b) (ha : a < 2 ^ 31) (hb9 : b < 2 ^ 31) (kt : a < b → q_Y l K u ex Z tgt lv st S) (kf : b ≤ a → q_Y l K u ex Z (pc + 3) lv st S) : q_Y l K u ex Z pc lv (.int y :: .int x :: st) S := by
  subst h1; subst h2
  exact y_icmp_lt C d ht (fun h => kt ((nI_ltI ha hb9).mp h)) (fun h => kf ((nI_leI hb9 ha).mp h))
theorem y_if_ltN {a : Nat} {x : Int32} {off : Int} {tgt : Nat} (C : q_Cy K cc own dd n0 U xa Z) (d : decode cc pc = .ok (.ifCond .lt off, 3)) (ht : (pc : Int) + off = (tgt : Int)) (h1 : x = nI a) (ha : a < 2 ^ 31) (kt : False → q_Y l K u ex Z tgt lv st S) (kf : True → q_Y l K u ex Z (pc + 3) lv st S) : q_Y l K u ex Z pc lv (.int x :: st) S := by
  subst h1
  have e0 : (0 : Int32) = nI 0 := rfl
  have h0 : (0 : Nat) < 2 ^ 31 := by omega
  refine y_if_lt C d ht (fun h => kt ?_) (fun h => kf ?_)
  · rw [e0] at h
    first | (have := (nI_eq ha h0).mp h; omega) | (have : a ≠ 0 := fun e => h ((nI_eq ha h0).mpr e); omega) | (have := (nI_ltI ha h0).mp h; omega) | (have := (nI_leI h0 ha).mp h; trivial) | (have := (nI_ltI h0 ha).mp h; omega) | (have := (nI_leI ha h0).mp h; omega)
  · rw [e0] at h
    first | (have := (nI_eq ha h0).mp h; omega) | (have : a ≠ 0 := fun e => h ((nI_eq ha h0).mpr e); omega) | (have := (nI_ltI ha h0).mp h; omega) | (have := (nI_leI h0 ha).mp h; trivial) | (have := (nI_ltI h0 ha).mp h; omega) | (have := (nI_leI ha h0).mp h; omega)
theorem y_icmp_geN {a b : Nat} {x y : Int32} {off : Int} {tgt : Nat} (C : q_Cy K cc own dd n0 U xa Z) (d : decode cc pc = .ok (.if_icmp .ge off, 3)) (ht : (pc : Int) + off = (tgt : Int)) (h1 : x = nI a) (h2 : y = nI b) (ha : a < 2 ^ 31) (hb9 : b < 2 ^ 31) (kt : b ≤ a → q_Y l K u ex Z tgt lv st S) (kf : a < b → q_Y l K u ex Z (pc + 3) lv st S) : q_Y l K u ex Z pc lv (.int y :: .int x :: st) S := by
  subst h1; subst h2
  exact y_icmp_ge C d ht (fun h => kt ((nI_leI hb9 ha).mp h)) (fun h => kf ((nI_ltI ha hb9).mp h))
theorem y_if_geN {a : Nat} {x : Int32} {off : Int} {tgt : Nat} (C : q_Cy K cc own dd n0 U xa Z) (d : decode cc pc = .ok (.ifCond .ge off, 3)) (ht : (pc : Int) + off = (tgt : Int)) (h1 : x = nI a) (ha : a < 2 ^ 31) (kt : True → q_Y l K u ex Z tgt lv st S) (kf : False → q_Y l K u ex Z (pc + 3) lv st S) : q_Y l K u ex Z pc lv (.int x :: st) S := by
  subst h1
  have e0 : (0 : Int32) = nI 0 := rfl
  have h0 : (0 : Nat) < 2 ^ 31 := by omega
  refine y_if_ge C d ht (fun h => kt ?_) (fun h => kf ?_)
  · rw [e0] at h
    first | (have := (nI_eq ha h0).mp h; omega) | (have : a ≠ 0 := fun e => h ((nI_eq ha h0).mpr e); omega) | (have := (nI_ltI ha h0).mp h; omega) | (have := (nI_leI h0 ha).mp h; trivial) | (have := (nI_ltI h0 ha).mp h; omega) | (have := (nI_leI ha h0).mp h; omega)
  · rw [e0] at h
    first | (have := (nI_eq ha h0).mp h; omega) | (have : a ≠ 0 := fun e => h ((nI_eq ha h0).mpr e); omega) | (have := (nI_ltI ha h0).mp h; omega) | (have := (nI_leI h0 ha).mp h; trivial) | (have := (nI_ltI h0 ha).mp h; omega) | (have := (nI_leI ha h0).mp h; omega)
theorem y_icmp_gtN {a b : Nat} {x y : Int32} {off : Int} {tgt : Nat} (C : q_Cy K cc own dd n0 U xa Z) (d : decode cc pc = .ok (.if_icmp .gt off, 3)) (ht : (pc : Int) + off = (tgt : Int)) (h1 : x = nI a) (h2 : y = nI b) (ha : a < 2 ^ 31) (hb9 : b < 2 ^ 31) (kt : b < a → q_Y l K u ex Z tgt lv st S) (kf : a ≤ b → q_Y l K u ex Z (pc + 3) lv st S) : q_Y l K u ex Z pc lv (.int y :: .int x :: st) S := by
  subst h1; subst h2
  exact y_icmp_gt C d ht (fun h => kt ((nI_ltI hb9 ha).mp h)) (fun h => kf ((nI_leI ha hb9).mp h))
theorem y_if_gtN {a : Nat} {x : Int32} {off : Int} {tgt : Nat} (C : q_Cy K cc own dd n0 U xa Z) (d : decode cc pc = .ok (.ifCond .gt off, 3)) (ht : (pc : Int) + off = (tgt : Int)) (h1 : x = nI a) (ha : a < 2 ^ 31) (kt : 0 < a → q_Y l K u ex Z tgt lv st S) (kf : a = 0 → q_Y l K u ex Z (pc + 3) lv st S) : q_Y l K u ex Z pc lv (.int x :: st) S := by
  subst h1
  have e0 : (0 : Int32) = nI 0 := rfl
  have h0 : (0 : Nat) < 2 ^ 31 := by omega
  refine y_if_gt C d ht (fun h => kt ?_) (fun h => kf ?_)
  · rw [e0] at h
    first | (have := (nI_eq ha h0).mp h; omega) | (have : a ≠ 0 := fun e => h ((nI_eq ha h0).mpr e); omega) | (have := (nI_ltI ha h0).mp h; omega) | (have := (nI_leI h0 ha).mp h; trivial) | (have := (nI_ltI h0 ha).mp h; omega) | (have := (nI_leI ha h0).mp h; omega)
  · rw [e0] at h
    first | (have := (nI_eq ha h0).mp h; omega) | (have : a ≠ 0 := fun e => h ((nI_eq ha h0).mpr e); omega) | (have := (nI_ltI ha h0).mp h; omega) | (have := (nI_leI h0 ha).mp h; trivial) | (have := (nI_ltI h0 ha).mp h; omega) | (have := (nI_leI ha h0).mp h; omega)
theorem y_icmp_leN {a b : Nat} {x y : Int32} {off : Int} {tgt : Nat} (C : q_Cy K cc own dd n0 U xa Z) (d : decode cc pc = .ok (.if_icmp .le off, 3)) (ht : (pc : Int) + off = (tgt : Int)) (h1 : x = nI a) (h2 : y = nI b) (ha : a < 2 ^ 31) (hb9 : b < 2 ^ 31) (kt : a ≤ b → q_Y l K u ex Z tgt lv st S) (kf : b < a → q_Y l K u ex Z (pc + 3) lv st S) : q_Y l K u ex Z pc lv (.int y :: .int x :: st) S := by
  subst h1; subst h2
  exact y_icmp_le C d ht (fun h => kt ((nI_leI ha hb9).mp h)) (fun h => kf ((nI_ltI hb9 ha).mp h))
theorem y_if_leN {a : Nat} {x : Int32} {off : Int} {tgt : Nat} (C : q_Cy K cc own dd n0 U xa Z) (d : decode cc pc = .ok (.ifCond .le off, 3)) (ht : (pc : Int) + off = (tgt : Int)) (h1 : x = nI a) (ha : a < 2 ^ 31) (kt : a = 0 → q_Y l K u ex Z tgt lv st S) (kf : 0 < a → q_Y l K u ex Z (pc + 3) lv st S) : q_Y l K u ex Z pc lv (.int x :: st) S := by
  subst h1
  have e0 : (0 : Int32) = nI 0 := rfl
  have h0 : (0 : Nat) < 2 ^ 31 := by omega
  refine y_if_le C d ht (fun h => kt ?_) (fun h => kf ?_)
  · rw [e0] at h
    first | (have := (nI_eq ha h0).mp h; omega) | (have : a ≠ 0 := fun e => h ((nI_eq ha h0).mpr e); omega) | (have := (nI_ltI ha h0).mp h; omega) | (have := (nI_leI h0 ha).mp h; trivial) | (have := (nI_ltI h0 ha).mp h; omega) | (have := (nI_leI ha h0).mp h; omega)
  · rw [e0] at h
    first | (have := (nI_eq ha h0).mp h; omega) | (have : a ≠ 0 := fun e => h ((nI_eq ha h0).mpr e); omega) | (have := (nI_ltI ha h0).mp h; omega) | (have := (nI_leI h0 ha).mp h; trivial) | (have := (nI_ltI h0 ha).mp h; omega) | (have := (nI_leI ha h0).mp h; omega)
theorem y_to {lv' : List (Nat × Value)} {S' : q_St} (h : q_Y l K u ex Z pc lv' st S') (hl : q_al lv' lv) (hS : S = S') : q_Y l K u ex Z pc lv st S := by
  subst hS
  obtain ⟨p, e, R, s, m, args, below, meth, c, cells, slots, Q, D, cy, ad, A, nL, L⟩ := K
  intro cl sl H locs ls hc9 hs9 hP hZ hS hv
  exact h cl sl H locs ls hc9 hs9 hP hZ hS (q_lv_sub hv (fun q hq => q_al_mem hl q hq))
theorem y_up {u' : Nat} (hu : u ≤ u') (h : q_Y l K u' ex Z pc lv st S) : q_Y l K u ex Z pc lv st S := by
  obtain ⟨p, e, R, s, m, args, below, meth, c, cells, slots, Q, D, cy, ad, A, nL, L⟩ := K
  intro cl sl H locs ls hc9 hs9 hP hZ hS hv
  exact h cl sl H locs ls (by omega) (by omega) hP hZ hS hv
theorem y_top {x y : Int32} (e : x = y) (k : q_Y l K u ex Z pc lv (.int y :: st) S) : q_Y l K u ex Z pc lv (.int x :: st) S := e ▸ k
theorem y_st {S' : q_St} (e : S = S') (k : q_Y l K u ex Z pc lv st S') : q_Y l K u ex Z pc lv st S := e ▸ k
theorem y_Z {Z' : Heap → Prop} (he9 : ∀ H, Z H → Z' H) (k : q_Y l K u ex Z' pc lv st S) : q_Y l K u ex Z pc lv st S := by
  obtain ⟨p, e, R, s, m, args, below, meth, c, cells, slots, Q, D, cy, ad, A, nL, L⟩ := K
  intro cl sl H locs ls hc9 hs9 hP hZ hS hv
  exact k cl sl H locs ls hc9 hs9 hP (he9 H hZ) hS hv
theorem y_i2l (C : q_Cy K cc own dd n0 U xa Z) {x : Int32} (d : decode cc pc = .ok (.i2l, 1)) (k : q_Y l K u ex Z (pc + 1) lv (.long x.toInt64 :: st) S) : q_Y l K u ex Z pc lv (.int x :: st) S := by
  obtain ⟨p, e, R, s, m, args, below, meth, c, cells, slots, Q, D, cy, ad, A, nL, L⟩ := K
  obtain ⟨hx, hb, hml, hnl, hown, hts, hK, hi, hA1, hA2, hf1, hf2, hc1, hc2, hE, hEX, hxa, hZs⟩ := C
  intro cl sl H locs ls hc9 hs9 hP hZ hS hl
  exact lv_i2l hx hb d rfl (k cl sl H locs ls hc9 hs9 hP hZ hS hl)
theorem y_ladd (C : q_Cy K cc own dd n0 U xa Z) {x y : Int64} (d : decode cc pc = .ok (.ladd, 1)) (k : q_Y l K u ex Z (pc + 1) lv (.long (x + y) :: st) S) : q_Y l K u ex Z pc lv (.long y :: .long x :: st) S := by
  obtain ⟨p, e, R, s, m, args, below, meth, c, cells, slots, Q, D, cy, ad, A, nL, L⟩ := K
  obtain ⟨hx, hb, hml, hnl, hown, hts, hK, hi, hA1, hA2, hf1, hf2, hc1, hc2, hE, hEX, hxa, hZs⟩ := C
  intro cl sl H locs ls hc9 hs9 hP hZ hS hl
  exact lv_ladd hx hb d (k cl sl H locs ls hc9 hs9 hP hZ hS hl)
theorem y_lmul (C : q_Cy K cc own dd n0 U xa Z) {x y : Int64} (d : decode cc pc = .ok (.lmul, 1)) (k : q_Y l K u ex Z (pc + 1) lv (.long (x * y) :: st) S) : q_Y l K u ex Z pc lv (.long y :: .long x :: st) S := by
  obtain ⟨p, e, R, s, m, args, below, meth, c, cells, slots, Q, D, cy, ad, A, nL, L⟩ := K
  obtain ⟨hx, hb, hml, hnl, hown, hts, hK, hi, hA1, hA2, hf1, hf2, hc1, hc2, hE, hEX, hxa, hZs⟩ := C
  intro cl sl H locs ls hc9 hs9 hP hZ hS hl
  exact lv_lmul hx hb d (k cl sl H locs ls hc9 hs9 hP hZ hS hl)
theorem y_lcmp (C : q_Cy K cc own dd n0 U xa Z) {x y : Int64} {v : Int32} (hv : lg_cmp x y = v) (d : decode cc pc = .ok (.lcmp, 1)) (k : q_Y l K u ex Z (pc + 1) lv (.int v :: st) S) : q_Y l K u ex Z pc lv (.long y :: .long x :: st) S := by
  obtain ⟨p, e, R, s, m, args, below, meth, c, cells, slots, Q, D, cy, ad, A, nL, L⟩ := K
  obtain ⟨hx, hb, hml, hnl, hown, hts, hK, hi, hA1, hA2, hf1, hf2, hc1, hc2, hE, hEX, hxa, hZs⟩ := C
  intro cl sl H locs ls hc9 hs9 hP hZ hS hl
  subst hv
  exact W.lcmp hx hb d (k cl sl H locs ls hc9 hs9 hP hZ hS hl)
theorem y_ldc2 (C : q_Cy K cc own dd n0 U xa Z) {v : Int64} (hw : Cond.constantLong own idx v ∈ q_WS) (d : decode cc pc = .ok (.ldc2_w idx, 3)) (k : q_Y l K u ex Z (pc + 3) lv (.long v :: st) S) : q_Y l K u ex Z pc lv st S := by
  obtain ⟨p, e, R, s, m, args, below, meth, c, cells, slots, Q, D, cy, ad, A, nL, L⟩ := K
  obtain ⟨hx, hb, hml, hnl, hown, hts, hK, hi, hA1, hA2, hf1, hf2, hc1, hc2, hE, hEX, hxa, hZs⟩ := C
  intro cl sl H locs ls hc9 hs9 hP hZ hS hl
  exact lv_ldc2 hx hb hown (hts _ hw) d (k cl sl H locs ls hc9 hs9 hP hZ hS hl)
theorem y_ldc (C : q_Cy K cc own dd n0 U xa Z) {v : Int32} (hw : Cond.constant own idx v ∈ q_WS) (d : decode cc pc = .ok (.ldc idx, 2)) (k : q_Y l K u ex Z (pc + 2) lv (.int v :: st) S) : q_Y l K u ex Z pc lv st S := by
  obtain ⟨p, e, R, s, m, args, below, meth, c, cells, slots, Q, D, cy, ad, A, nL, L⟩ := K
  obtain ⟨hx, hb, hml, hnl, hown, hts, hK, hi, hA1, hA2, hf1, hf2, hc1, hc2, hE, hEX, hxa, hZs⟩ := C
  intro cl sl H locs ls hc9 hs9 hP hZ hS hl
  exact lv_ldc hx hb hown (hts _ hw) d (k cl sl H locs ls hc9 hs9 hP hZ hS hl)
def q_lf3 (i : Nat) (l : List (Nat × Value)) : List (Nat × Value) := l.filter (fun q => !(q.1 == i) && (!(q.1 == i + 1) && !(q.1 + 1 == i && q.2.category == 2)))
theorem y_lload_n (C : q_Cy K cc own dd n0 U xa Z) {f : Fin 4} {i : Nat} {x : Int64} (d : decode cc pc = .ok (.lload_n f, 1)) (hi9 : (f : Nat) = i) (hk : q_lk i lv = some (.long x)) (k : q_Y l K u ex Z (pc + 1) lv (.long x :: st) S) : q_Y l K u ex Z pc lv st S := by
  obtain ⟨p, e, R, s, m, args, below, meth, c, cells, slots, Q, D, cy, ad, A, nL, L⟩ := K
  obtain ⟨hx, hb, hml, hnl, hown, hts, hK, hi, hA1, hA2, hf1, hf2, hc1, hc2, hE, hEX, hxa, hZs⟩ := C
  intro cl sl H locs ls hc9 hs9 hP hZ hS hl
  exact lv_lload_n hx hb d hi9 (q_hasY hl hk) (k cl sl H locs ls hc9 hs9 hP hZ hS hl)
theorem y_lstore_n (C : q_Cy K cc own dd n0 U xa Z) {f : Fin 4} {i : Nat} {x : Int64} {lv' : List (Nat × Value)} (d : decode cc pc = .ok (.lstore_n f, 1)) (hi9 : (f : Nat) = i) (hn : i + 1 < n0) (hlv : (i, Value.long x) :: q_lf3 i lv = lv') (k : q_Y l K u ex Z (pc + 1) lv' st S) : q_Y l K u ex Z pc lv (.long x :: st) S := by
  obtain ⟨p, e, R, s, m, args, below, meth, c, cells, slots, Q, D, cy, ad, A, nL, L⟩ := K
  obtain ⟨hx, hb, hml, hnl, hown, hts, hK, hi, hA1, hA2, hf1, hf2, hc1, hc2, hE, hEX, hxa, hZs⟩ := C
  intro cl sl H locs ls hc9 hs9 hP hZ hS hl
  subst hlv; subst hnl
  exact lv_lstore_n hx hb d hi9 hl hn rfl (fun ls' hl' => k cl sl H locs ls' hc9 hs9 hP hZ hS hl')
theorem y_ishr (C : q_Cy K cc own dd n0 U xa Z) {x y v : Int32} (hv : x >>> (y &&& 31) = v) (d : decode cc pc = .ok (.ishr, 1)) (k : q_Y l K u ex Z (pc + 1) lv (.int v :: st) S) : q_Y l K u ex Z pc lv (.int y :: .int x :: st) S := by
  obtain ⟨p, e, R, s, m, args, below, meth, c, cells, slots, Q, D, cy, ad, A, nL, L⟩ := K
  obtain ⟨hx, hb, hml, hnl, hown, hts, hK, hi, hA1, hA2, hf1, hf2, hc1, hc2, hE, hEX, hxa, hZs⟩ := C
  intro cl sl H locs ls hc9 hs9 hP hZ hS hl
  subst hv
  exact lv_ishr hx hb d (k cl sl H locs ls hc9 hs9 hP hZ hS hl)
theorem y_iushr (C : q_Cy K cc own dd n0 U xa Z) {x y v : Int32} (hv : (x.toUInt32 >>> (y.toUInt32 &&& Int32.toUInt32 31)).toInt32 = v) (d : decode cc pc = .ok (.iushr, 1)) (k : q_Y l K u ex Z (pc + 1) lv (.int v :: st) S) : q_Y l K u ex Z pc lv (.int y :: .int x :: st) S := by
  obtain ⟨p, e, R, s, m, args, below, meth, c, cells, slots, Q, D, cy, ad, A, nL, L⟩ := K
  obtain ⟨hx, hb, hml, hnl, hown, hts, hK, hi, hA1, hA2, hf1, hf2, hc1, hc2, hE, hEX, hxa, hZs⟩ := C
  intro cl sl H locs ls hc9 hs9 hP hZ hS hl
  subst hv
  exact lv_iushr hx hb d rfl (k cl sl H locs ls hc9 hs9 hP hZ hS hl)
theorem y_ifnullR (C : q_Cy K cc own dd n0 U xa Z) {a : Nat} {off : Int} (d : decode cc pc = .ok (.ifnull off, 3)) (k : q_Y l K u ex Z (pc + 3) lv st S) : q_Y l K u ex Z pc lv (.ref a :: st) S := by
  obtain ⟨p, e, R, s, m, args, below, meth, c, cells, slots, Q, D, cy, ad, A, nL, L⟩ := K
  obtain ⟨hx, hb, hml, hnl, hown, hts, hK, hi, hA1, hA2, hf1, hf2, hc1, hc2, hE, hEX, hxa, hZs⟩ := C
  intro cl sl H locs ls hc9 hs9 hP hZ hS hl
  exact lv_ifnull hx hb d (k cl sl H locs ls hc9 hs9 hP hZ hS hl)
end QYR
