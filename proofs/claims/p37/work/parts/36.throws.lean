
/-! methods that answer or throw -/
def q_Kw (K : q_K) (a : Nat) : q_K := match K with
  | (p, e, R, s, m, args, below, meth, c, cells, slots, Q, D, cy, ad, A, nL, L) => (p, e, R, s, m, args, below, meth, c, cells + a, slots + 6 * a, Q, D, cy, ad, A, nL, L)
def q_rmX (d n : Nat) : Room := { frames := d, cells := n, slots := 6 * n, locals := 40 * d }
/-- words of the tables that aren't good: they stand beside -/
def q_nwp (w : Cond) : Bool := match w with
  | .castable _ _ => true
  | .declares _ => true
  | _ => false
def q_nws : List Cond := lw_tbl.filter q_nwp
def q_EX (U : State) : Prop := ∀ w ∈ q_nws, va_Nw w U
theorem q_EX.same {u U : State} (hv : u.vm = U.vm) (h : q_EX u) : q_EX U := fun w hw => by
  have hp := (List.mem_filter.mp hw).2
  have h1 := h w hw
  cases w <;> first | exact va_tabs rfl hv h1 | exact absurd hp Bool.false_ne_true
theorem q_EX.go {s U : State} (h : q_EX s) (hW : s.WarmedH U.vm) : q_EX U := fun w hw => by
  have hp := (List.mem_filter.mp hw).2
  have h1 := h w hw
  cases w <;> first | exact va_Nw.warmC hW h1 | exact (show va_Nw (.declares _) U from va_tabs rfl (rfl : (s.setVm U.vm).vm = U.vm) (by rw [Cond.declares_setVm hW.alike]; exact h1)) | exact absurd hp Bool.false_ne_true
def q_KX (K : q_K) : Prop := match K with
  | (p, e, R, s, m, args, below, meth, c, cells, slots, Q, D, cy, ad, A, nL, L) => q_EX s
theorem q_EX.word {args : Array Value} {s : State} (h : q_EX s) {w : Cond} (hw : w ∈ q_nws) : w.before args s = true := by
  have hp := (List.mem_filter.mp hw).2
  have h1 := h w hw
  cases w <;> first | exact va_tabs rfl rfl h1 | exact absurd hp Bool.false_ne_true
def q_Px (avs : List Value) (S : q_St) (D : va_G) (cy : Nat → ClassId) (ad : Nat → Nat) (sz : Nat) (L : q_L) : Array Value → State → Prop := fun a U => q_Pc avs S D cy ad sz L a U ∧ q_EX U
theorem q_Px_blind (avs : List Value) (S : q_St) (D : va_G) (cy : Nat → ClassId) (ad : Nat → Nat) (sz : Nat) (L : q_L) : FrameBlind (q_Px avs S D cy ad sz L) := fun a U g mk q => ⟨q_Pc_blind avs S D cy ad sz L a U g mk q.1, q_EX.same (u := U) (U := U.calling g mk a) rfl q.2⟩
def q_Fx (l : Launch) (y : MethodName) (cd : Cond) (d n : Nat) (avs : List Value) (S : q_St) (r : (Int32 ⊕ String) × q_St) : Prop := ∀ (D : va_G) (cy : Nat → ClassId) (ad : Nat → Nat) (sz : Nat) (L : q_L), vx_Met l y (cd :: q_WS) (q_rmX d n) (q_Px avs S D cy ad sz L) (va_Qi (fun (v : Int32) (u : q_St) => r = (.inl v, u)) (fun u t => va_P D q_cl (q_wl cy ad L u) t.heap) (q_A ad sz)) (vx_X (fun (u : q_St) => u = r.2) (fun E u t => r.1 = .inr E ∧ va_P D q_cl (q_wl cy ad L u) t.heap) (q_A ad sz)) n (6 * n) (q_A ad sz)
def q_Fxv (l : Launch) (y : MethodName) (cd : Cond) (d n : Nat) (avs : List Value) (S : q_St) (r : Option String × q_St) : Prop := ∀ (D : va_G) (cy : Nat → ClassId) (ad : Nat → Nat) (sz : Nat) (L : q_L), vx_Met l y (cd :: q_WS) (q_rmX d n) (q_Px avs S D cy ad sz L) (va_Qv (fun (u : q_St) => r = (none, u)) (fun u t => va_P D q_cl (q_wl cy ad L u) t.heap) (q_A ad sz)) (vx_X (fun (u : q_St) => u = r.2) (fun E u t => r.1 = some E ∧ va_P D q_cl (q_wl cy ad L u) t.heap) (q_A ad sz)) n (6 * n) (q_A ad sz)

/-- an exception that is thrown over this frame -/
def q_XT (K : q_K) (l : Launch) (E : String) (S : q_St) : Prop := match K with
  | (p, e, R, s, m, args, below, meth, c, cells, slots, Q, D, cy, ad, A, nL, L) => ∀ (H : Heap) (locs : List Loc) (ce : Cell) (q : Addr) (pc : Nat) (ls : Array Slot) (rest : List Value), va_P D q_cl (q_wl cy ad L S) H → va_S A s.heap H locs → H[q]? = some ce → ce.vm = .none → s.vm.findClass E = some ce.cls → vx_W p l e R s m args below meth c H locs cells slots Q (F0 m pc ls rest) q
/-- a new exception is thrown -/
def q_XN (K : q_K) (l : Launch) (cc : ByteArray) (own : String) (E : String) (S : q_St) : Prop := ∀ (pc ik is ic ix i : Nat) (rx : ByteArray) (text : String) (lv : List (Nat × Value)) (st : List Value), (decode rx 0 = .ok (.aload_n 0, 1) ∧ decode rx 1 = .ok (.aload_n 1, 1) ∧ decode rx 2 = .ok (.invokespecial ix, 3) ∧ decode rx 5 = .ok (.return_, 1)) → q_strs[i]? = some (own, is, text) → Cond.classLink own ik E ∈ q_WS → Cond.initialized E ∈ q_WS → (∀ w ∈ vn_at own ic E ix rx, w ∈ q_WS ∨ w ∈ q_nws) → Bundle.fit E = true → (st.map Value.category).sum ≤ 8 →
  (decode cc pc = .ok (.new ik, 3) ∧ decode cc (pc + 3) = .ok (.dup, 1)) ∧ ((decode cc (pc + 4) = .ok (.ldc is, 2) ∧ decode cc (pc + 6) = .ok (.invokespecial ic, 3) ∧ decode cc (pc + 9) = .ok (.athrow, 1)) ∨ (decode cc (pc + 4) = .ok (.ldc_w is, 3) ∧ decode cc (pc + 7) = .ok (.invokespecial ic, 3) ∧ decode cc (pc + 10) = .ok (.athrow, 1))) → q_V l K pc lv st S
theorem q_wl_kept {D : va_G} {cy : Nat → ClassId} {ad : Nat → Nat} {L : q_L} {S : q_St} {H H1 : Heap} (h : va_P D q_cl (q_wl cy ad L S) H) (hq : ∀ q : Nat, q < H.size → H1[q]? = H[q]?) : va_P D q_cl (q_wl cy ad L S) H1 := h.kept (fun k q hk => hq _ (vx_lt h hk))
theorem vn_words {args : Array Value} {s : State} {own : String} {ic : Nat} {X : String} {ix : Nat} {rx : ByteArray} (h1 : ∀ w ∈ vn_at own ic X ix rx, w.before args s = true)
    (hU : (Cond.isRef (.static Bundle.tN "UNASSIGNED_STACK" Bundle.steD)).before args s = true) (hN : (Cond.isRef (.static Bundle.tN "SUPPRESSED_SENTINEL" Bundle.listD)).before args s = true)
    (lU : (Cond.laysStatic Bundle.tN "UNASSIGNED_STACK" Bundle.steD).before args s = true) (lN : (Cond.laysStatic Bundle.tN "SUPPRESSED_SENTINEL" Bundle.listD).before args s = true) : ∀ w ∈ vn_own own ic X ix rx, w.before args s = true := vx_own h1 hU hN lU lN
section VN2
variable {p : Program} {l : Launch} {e : Env} {R : Room} {s : State} {m : MethodId} {args : Array Value} {below : List Frame} {meth : Method} {c : Code} {H : Heap} {locs : List Loc} {cells slots : Nat} {free : Addr → Prop} {ls : Array Slot} {rest : List Value} {Qc : Array Value → State → Outcome → State → Prop} {XC : String → State → State → Prop}
set_option maxHeartbeats 2000000 in
theorem vn_throw {cc : ByteArray} {pc : Nat} (hexec : p.tables.exec = Jvm.exec) (hb : c.code = cc) (hl : l.stackTraces = false) {own cls text : String} {ik is ic ix mc ms sa : Nat} {rx : ByteArray} {A : Nat → Prop}
    (x0 : decode rx 0 = .ok (.aload_n 0, 1)) (x1 : decode rx 1 = .ok (.aload_n 1, 1)) (x2 : decode rx 2 = .ok (.invokespecial ix, 3)) (x5 : decode rx 5 = .ok (.return_, 1))
    (hown : s.vm.findClass own = some m.cls) (hcls : Bundle.fit cls = true)
    (hk : (Cond.classLink own ik cls).before args s = true) (hini : (Cond.initialized cls).before args s = true) (hstr : vk_R own is text sa s) (hat : ∀ w ∈ vn_at own ic cls ix rx, w.before args s = true)
    (hgood : ∀ w ∈ Cond.classLink own ik cls :: Cond.initialized cls :: vn_at own ic cls ix rx, vx_ot w = true)
    (hU : vx_Zq Bundle.tN "UNASSIGNED_STACK" Bundle.steD A s s.heap) (hN : vx_Zq Bundle.tN "SUPPRESSED_SENTINEL" Bundle.listD A s s.heap) (hS : va_S A s.heap H locs) (hsize : ls.size = c.maxLocals)
    (d0 : decode cc pc = .ok (.new ik, 3)) (d3 : decode cc (pc + 3) = .ok (.dup, 1)) (d4 : (decode cc (pc + 4) = .ok (.ldc is, 2) ∧ decode cc (pc + 6) = .ok (.invokespecial ic, 3) ∧ decode cc (pc + 9) = .ok (.athrow, 1)) ∨ (decode cc (pc + 4) = .ok (.ldc_w is, 3) ∧ decode cc (pc + 7) = .ok (.invokespecial ic, 3) ∧ decode cc (pc + 10) = .ok (.athrow, 1)))
    (hnox : ∀ x ∈ c.exceptionTable.toList, False)
    (hRframes : 5 < R.frames) (hRlocals : (rest.map fun v => v.category).sum + 82 ≤ R.locals) (hRcells : cells + 1 ≤ R.cells) (hRslots : slots + 6 ≤ R.slots) (hlocks : meth.locks = false)
    (hx : ∀ t : State, s.vm.Alike t.vm → H.size ≤ t.heap.size → (∀ q : Nat, q < H.size → t.heap[q]? = H[q]?) → XC cls s t)
    (hf : ∀ z ∈ locs, free z.base) (hc : cells + 1 ≤ mc) (hs : slots + 6 ≤ ms) :
    W p l e R s m args below meth c H locs cells slots (vx_MQ below Qc XC args s mc ms free) (F0 m pc ls rest) := by
  intro T hT X
  have htr : e.platform.stackTraces = false := (show e.platform.stackTraces = l.stackTraces by rw [X.admits.platform]).trans hl
  have Y := vx_rebase X (R' := { frames := R.frames, locals := R.locals, cells := 1, slots := 6 }) (Nat.le_refl _) (Nat.le_refl _) hRcells hRslots
  obtain ⟨s', hA⟩ : ∃ z, z = (T.setVm s.vm).setFrames (.invoking m args :: below) := ⟨_, rfl⟩
  rw [← hA] at Y
  have hvm : s'.vm = s.vm := by rw [hA]; rfl
  have hhp : s'.heap = H := by rw [hA]; exact hT
  have hW0 : s.WarmedH s'.vm := by rw [hvm]; exact State.WarmedH.refl s
  have hat' : ∀ w ∈ vn_at own ic cls ix rx, w.before args s' = true := fun w hw => vx_ot_at hW0 hvm.symm (hgood w (List.mem_cons_of_mem _ (List.mem_cons_of_mem _ hw))) (hat w hw)
  have hk' : (Cond.classLink own ik cls).before args s' = true := vx_ot_at hW0 hvm.symm (hgood _ List.mem_cons_self) hk
  have hini' : (Cond.initialized cls).before args s' = true := vx_ot_at hW0 hvm.symm (hgood _ (List.mem_cons_of_mem _ List.mem_cons_self)) hini
  have hU' : vx_Zq Bundle.tN "UNASSIGNED_STACK" Bundle.steD A s' s'.heap := by rw [hhp]; exact vx_Zq.moved hW0.alike (hU.kept hS.2.1)
  have hN' : vx_Zq Bundle.tN "SUPPRESSED_SENTINEL" Bundle.listD A s' s'.heap := by rw [hhp]; exact vx_Zq.moved hW0.alike (hN.kept hS.2.1)
  have h : ∀ w ∈ vn_own own ic cls ix rx, w.before args s' = true := vn_words hat' (vx_isRefq hU'.1) (vx_isRefq hN'.1) hU'.2.word hN'.2.word
  have hown' : s'.vm.findClass own = some m.cls := by rw [hvm]; exact hown
  have hins : (Cond.instantiable cls 6).before args s' = true := h _ (by simp [vn_own])
  obtain ⟨vm₁, cX, kX, hfX, hkX, -, -, X₁, st1⟩ := Y.newCold hexec (own := own) (C := cls) (index := ik) (n := 6) hown' hk' hins hini'
    (g := F0 m pc ls rest) rfl (by rw [hb]; exact d0) (Nat.le_refl _) (Nat.le_refl _)
  generalize hT1 : (T.setVm vm₁).pushCell { cls := cX, slots := kX.instanceTypes.map defaultValue, vm := .none } = T1 at X₁ st1
  have hcat : (Value.ref T.heap.size).category = 1 := rfl
  have hcellA : T1.heap[T.heap.size]? = some (freshCell cX kX) := by rw [← hT1]; exact State.heap_pushCell_size _ _
  have d3' : decode c.code (pc + 3) = .ok (.dup, 1) := by rw [hb]; exact d3
  have hstr' : vk_R own is text sa s' := vk_R.warm hW0 hstr
  have key : ∀ k : Nat, decode c.code (pc + k) = .ok (.invokespecial ic, 3) → decode c.code (pc + k + 3) = .ok (.athrow, 1) → ∃ U : State, Steps p.tables e below (T1.setTop { method := m, pc := pc + k, locals := ls, stack := .ref sa :: .ref T.heap.size :: .ref T.heap.size :: rest, locked := none }) U ∧ vx_MQ below Qc XC args s mc ms free U := by
    intro k k6 k9
    obtain ⟨U, hsteps, hrun, hend, hW, hsame, ce, hce, hcl9, hv9⟩ := vn_ctor X₁ hexec htr (own := own) (cls := cls) (ic := ic) x0 x1 x2 x5 hown' hcls h hfX hkX hcellA (by rw [hhp, hT]; exact Nat.le_refl _) rfl (msg := .ref sa) rfl
      (g := { method := m, pc := pc + k, locals := ls, stack := .ref sa :: .ref T.heap.size :: .ref T.heap.size :: rest, locked := none }) rfl hsize rfl rfl (rest := rest) rfl
      k6 k9 (fun x hx => absurd (hnox x hx) id) hRframes (by simp only [List.map_cons, List.sum_cons, hcat]; show 2 * 0 + _ + 81 ≤ R.locals; omega) hlocks
    obtain ⟨f1, f2⟩ := vx_frame hsame
    rw [hhp] at f1 f2
    have hWs : s.WarmedH U.vm := State.WarmedH.trans hW0 hW
    have hcl : s.vm.findClass cls = some ce.cls := by
      rw [hvm] at hcl9
      exact hcl9
    have hall : s.sameButNew ({ U with vm := s.vm } : State) locs mc ms := by
      subst hA
      obtain ⟨e1, e2⟩ := hsame
      rw [State.setFrames_setFrames] at e1
      have h2 : (T.setVm s.vm).sameButNew ({ U with vm := s.vm } : State) [] (0 + 1) (0 + 6) := ⟨e1, e2⟩
      have h3 := X.same.trans h2
      rw [List.append_nil] at h3
      exact h3.mono hc hs
    exact ⟨U, hsteps, .threw T.heap.size, hrun, hend, Or.inr ⟨T.heap.size, rfl, cls, ce, locs, hx U hWs.alike f1 (fun q hq => f2 q hq (fun z hz => nomatch hz)), hce, hv9, hcl, hWs, hall, hf⟩⟩
  rcases d4 with ⟨d4, d6, d9⟩ | ⟨d4, d6, d9⟩
  · obtain ⟨U, hsteps, hend⟩ := key 6 (by rw [hb]; exact d6) (by rw [hb]; exact d9)
    have d4' : decode c.code (pc + 4) = .ok (.ldc is, 2) := by rw [hb]; exact d4
    refine ⟨U, st1 _ ?_, hend⟩
    show Steps p.tables e below (T1.setTop { method := m, pc := pc + 3, locals := ls, stack := .ref T.heap.size :: rest, locked := none }) _
    jvm_step X₁.here [X₁.here.top, hexec, d3', Value.category]
    exact X₁.ldcString hexec (own := own) (text := text) (index := is) (a := sa) hown' hstr'.1 hstr'.2
      (g := { method := m, pc := pc + 4, locals := ls, stack := .ref T.heap.size :: .ref T.heap.size :: rest, locked := none }) rfl d4' _ hsteps
  · obtain ⟨U, hsteps, hend⟩ := key 7 (by rw [hb]; exact d6) (by rw [hb]; exact d9)
    have d4' : decode c.code (pc + 4) = .ok (.ldc_w is, 3) := by rw [hb]; exact d4
    refine ⟨U, st1 _ ?_, hend⟩
    show Steps p.tables e below (T1.setTop { method := m, pc := pc + 3, locals := ls, stack := .ref T.heap.size :: rest, locked := none }) _
    jvm_step X₁.here [X₁.here.top, hexec, d3', Value.category]
    exact X₁.ldcStringW hexec (own := own) (text := text) (index := is) (a := sa) hown' hstr'.1 hstr'.2
      (g := { method := m, pc := pc + 4, locals := ls, stack := .ref T.heap.size :: .ref T.heap.size :: rest, locked := none }) rfl d4' _ hsteps
end VN2
set_option maxHeartbeats 1000000 in
theorem q_XN_of {l : Launch} (hst : l.stackTraces = false) {p : Program} {e : Env} {R : Room} {s : State} {m : MethodId} {args : Array Value} {below : List Frame} {meth : Method} {c : Code} {cells slots mc ms : Nat} {Qc : Array Value → State → Outcome → State → Prop} {px : q_St → Prop} {PX : String → Prop} {D : va_G} {cy : Nat → ClassId} {ad : Nat → Nat} {A : Nat → Prop} {nL : Nat} {L : q_L} {cc : ByteArray} {own E : String} {dd n0 : Nat} {S : q_St} {free : Addr → Prop}
    (C : q_Cx (p, e, R, s, m, args, below, meth, c, cells, slots, vx_MQ below Qc (vx_X px (fun E u t => PX E ∧ va_P D q_cl (q_wl cy ad L u) t.heap) A) args s mc ms free, D, cy, ad, A, nL, L) cc own dd n0) (hd : 6 ≤ dd) (hnox : ∀ x ∈ c.exceptionTable.toList, False) (hlocks : meth.locks = false) (hfree : ∀ q, A q → free q) (h1 : cells + 1 ≤ mc) (h2 : slots + 6 ≤ ms) (h3 : mc ≤ R.cells) (h4 : ms ≤ R.slots) (hpx : px S) (hE9 : PX E) (hEX : q_EX s) :
    q_XN (p, e, R, s, m, args, below, meth, c, cells, slots, vx_MQ below Qc (vx_X px (fun E u t => PX E ∧ va_P D q_cl (q_wl cy ad L u) t.heap) A) args s mc ms free, D, cy, ad, A, nL, L) l cc own E S := by
  obtain ⟨hx, hb, hml, hnl, hown, hts, hK, hi, hA1, hA2, hf1, hf2, hc1, hc2, hE⟩ := C
  intro pc ik is ic ix i rx text lv st ⟨x0, x1, x2, x5⟩ hq hk hin hat hfit hsum hdec H locs ls hP hS hl
  have hgood : ∀ w ∈ Cond.classLink own ik E :: Cond.initialized E :: vn_at own ic E ix rx, vx_ot w = true := by
    intro w hw
    have h9 : w ∈ q_WS ∨ w ∈ q_nws := by
      rcases List.mem_cons.mp hw with rfl | hw
      · exact Or.inl hk
      · rcases List.mem_cons.mp hw with rfl | hw
        · exact Or.inl hin
        · exact hat w hw
    show (w.onTables || goodWord w) = true
    rcases h9 with h9 | h9
    · rw [q_WS_good w h9, Bool.or_true]
    · have hp := (List.mem_filter.mp h9).2
      cases w <;> first | rfl | exact absurd hp Bool.false_ne_true
  have hat9 : ∀ w ∈ vn_at own ic E ix rx, w.before args s = true := fun w h => (hat w h).elim (fun h1 => hts w h1) (fun h1 => hEX.word h1)
  have hstr : vk_R own is text (ad (200 + i)) s := hE.2.1 i _ hq
  have hX : ∀ t : State, s.vm.Alike t.vm → H.size ≤ t.heap.size → (∀ q : Nat, q < H.size → t.heap[q]? = H[q]?) → vx_X px (fun E u t => PX E ∧ va_P D q_cl (q_wl cy ad L u) t.heap) A E s t := fun t _ hz hq9 => ⟨S, hpx, ⟨hE9, q_wl_kept hP hq9⟩, Nat.le_trans hS.1 hz, fun q hq1 hq2 => by rw [hq9 q (Nat.lt_of_lt_of_le hq1 hS.1)]; exact hS.2.1 q hq1 hq2⟩
  have hz : ls.size = c.maxLocals := hl.1.trans hml.symm
  have hsum9 : ((st.map (q_gv ad)).map fun v => v.category).sum ≤ 8 := by rw [q_cats]; exact hsum
  exact vn_throw hx hb hst x0 x1 x2 x5 hown hfit (hts _ hk) (hts _ hin) hstr hat9 hgood hE.2.2.2.2.1 hE.2.2.2.2.2.1 hS hz hdec.1.1 hdec.1.2 hdec.2 hnox (by omega) (by omega) (by omega) (by omega) hlocks hX (fun z h => hfree _ (hS.2.2 z h)) h1 h2

set_option maxHeartbeats 1000000 in
theorem q_Fx_of {l : Launch} (hst : l.stackTraces = false) {y : MethodName} {cd : Cond} {cc : ByteArray} {maxL d n : Nat} {ty : FieldType} {avs : List Value} {S : q_St} {r : (Int32 ⊕ String) × q_St} (hcd : cd = .code y cc maxL (some ty)) (hy : plainName y.cls = true) (hlen : ∀ ad : Nat → Nat, (lg_sl (avs.map (q_gv ad))).length ≤ maxL) (hn : ∀ (v : Int32) (u : q_St), r = (.inl v, u) → narrow ty (.int v) = .int v) (hd6 : 6 ≤ d)
    (body : ∀ K : q_K, q_KX K → (∀ a, a ≤ n → q_Cx (q_Kw K a) cc y.cls d maxL) → (∀ a, a ≤ n → ∀ (pc : Nat) (lv : List (Nat × Value)) (v : Int32) (S' : q_St), decode cc pc = .ok (.ireturn, 1) → r = (.inl v, S') → q_V l (q_Kw K a) pc lv [.int v] S') → (∀ a, a ≤ n → ∀ (E : String) (S' : q_St), r = (.inr E, S') → q_XT (q_Kw K a) l E S') → (∀ a, a + 1 ≤ n → ∀ (E : String) (S' : q_St), r = (.inr E, S') → q_XN (q_Kw K a) l cc y.cls E S') → q_V l (q_Kw K 0) 0 (lv_args 0 avs) [] S) : q_Fx l y cd d n avs S r := by
  intro D cy ad sz L
  subst hcd
  refine vx_ofW (cc := cc) (maxL := maxL) (ret := (some ty)) hy rfl ?_
  intro p e s m args below meth c s₁ B hml hnox hv
  obtain ⟨⟨rfl, hsz, hP, hK, hi, hE⟩, hEX⟩ := hv
  subst hsz
  have hts0 := atoms_spec (ws := Cond.code y cc maxL (some ty) :: q_WS) B.pre
  have hts : ∀ w ∈ q_WS, w.before (avs.map (q_gv ad)).toArray s = true := fun w h => hts0 w (List.mem_cons_of_mem _ h)
  have hown : s.vm.findClass y.cls = some m.cls := findClass_of_methodNamed B.named
  have hlocks := B.notSynchronized
  have hl := lv_entry (avs.map (q_gv ad)) (n := maxL) (hlen ad)
  rw [lg_entry_eq]
  generalize (lg_sl (avs.map (q_gv ad)) ++ List.replicate (maxL - (lg_sl (avs.map (q_gv ad))).length) Slot.unset).toArray = ls at hl ⊢
  rw [q_args] at hl
  have hC : ∀ a, a ≤ n → q_Cx (q_Kw (p, e, (headSpec (Cond.code y cc maxL (some ty) :: q_WS) (q_rmX d n)).room, s, m, (avs.map (q_gv ad)).toArray, below, meth, c, 0, 0, vx_MQ below (va_Qi (fun (v : Int32) (u : q_St) => r = (.inl v, u)) (fun u t => va_P D q_cl (q_wl cy ad L u) t.heap) (q_A ad s.heap.size)) (vx_X (fun (u : q_St) => u = r.2) (fun E u t => r.1 = .inr E ∧ va_P D q_cl (q_wl cy ad L u) t.heap) (q_A ad s.heap.size)) (avs.map (q_gv ad)).toArray s n (6 * n) (q_A ad s.heap.size), D, cy, ad, q_A ad s.heap.size, maxL, L) a) cc y.cls d maxL := fun a ha => ⟨B.exec, B.bytes, hml, rfl, hown, hts, hK, hi, fun k hk => Or.inl ⟨k, hk, rfl⟩, fun q h => Or.inr h, Nat.le_refl _, Nat.le_refl _, by show 0 + a ≤ n; omega, by show 0 + 6 * a ≤ 6 * n; omega, hE⟩
  refine body (p, e, (headSpec (Cond.code y cc maxL (some ty) :: q_WS) (q_rmX d n)).room, s, m, (avs.map (q_gv ad)).toArray, below, meth, c, 0, 0, vx_MQ below (va_Qi (fun (v : Int32) (u : q_St) => r = (.inl v, u)) (fun u t => va_P D q_cl (q_wl cy ad L u) t.heap) (q_A ad s.heap.size)) (vx_X (fun (u : q_St) => u = r.2) (fun E u t => r.1 = .inr E ∧ va_P D q_cl (q_wl cy ad L u) t.heap) (q_A ad s.heap.size)) (avs.map (q_gv ad)).toArray s n (6 * n) (q_A ad s.heap.size), D, cy, ad, q_A ad s.heap.size, maxL, L) hEX hC ?_ ?_ ?_ s.heap [] ls hP va_S.rf hl
  · intro a ha pc lv v S' hd hr H locs ls hP hS hl
    exact vx_ret (W.widen (by omega) (by omega) (W.zret B.exec B.bytes B.returns (hn v S' hr) (fun t ht hW => ⟨⟨v, S', rfl, hr, by show va_P D q_cl (q_wl cy ad L S') t.heap; rw [ht]; exact hP⟩, hS.F ht⟩) hS.2.2 hd hlocks))
  · intro a ha E S' hr H locs ce q pc ls rest hP hS hq hv9 hcl
    refine vx_out (fun x h => absurd (hnox x h) id) hlocks hq hv9 hcl (fun t ht _ => ⟨S', by rw [hr], ⟨by rw [hr], by rw [ht]; exact hP⟩, hS.F ht⟩) hS.2.2 ?_ ?_
    · show 0 + a ≤ n
      omega
    · show 0 + 6 * a ≤ 6 * n
      omega
  · intro a ha E S' hr
    exact q_XN_of hst (hC a (by omega)) hd6 hnox hlocks (fun q h => h) (by omega) (by omega) (Nat.le_refl _) (Nat.le_refl _) (by rw [hr]) (by rw [hr]) hEX
set_option maxHeartbeats 1000000 in
theorem q_Fxv_of {l : Launch} (hst : l.stackTraces = false) {y : MethodName} {cd : Cond} {cc : ByteArray} {maxL d n : Nat} {avs : List Value} {S : q_St} {r : Option String × q_St} (hcd : cd = .code y cc maxL none) (hy : plainName y.cls = true) (hlen : ∀ ad : Nat → Nat, (lg_sl (avs.map (q_gv ad))).length ≤ maxL) (hd6 : 6 ≤ d)
    (body : ∀ K : q_K, q_KX K → (∀ a, a ≤ n → q_Cx (q_Kw K a) cc y.cls d maxL) → (∀ a, a ≤ n → ∀ (pc : Nat) (lv : List (Nat × Value)) (S' : q_St), decode cc pc = .ok (.return_, 1) → r = (none, S') → q_V l (q_Kw K a) pc lv [] S') → (∀ a, a ≤ n → ∀ (E : String) (S' : q_St), r = (some E, S') → q_XT (q_Kw K a) l E S') → (∀ a, a + 1 ≤ n → ∀ (E : String) (S' : q_St), r = (some E, S') → q_XN (q_Kw K a) l cc y.cls E S') → q_V l (q_Kw K 0) 0 (lv_args 0 avs) [] S) : q_Fxv l y cd d n avs S r := by
  intro D cy ad sz L
  subst hcd
  refine vx_ofW (cc := cc) (maxL := maxL) (ret := none) hy rfl ?_
  intro p e s m args below meth c s₁ B hml hnox hv
  obtain ⟨⟨rfl, hsz, hP, hK, hi, hE⟩, hEX⟩ := hv
  subst hsz
  have hts0 := atoms_spec (ws := Cond.code y cc maxL none :: q_WS) B.pre
  have hts : ∀ w ∈ q_WS, w.before (avs.map (q_gv ad)).toArray s = true := fun w h => hts0 w (List.mem_cons_of_mem _ h)
  have hown : s.vm.findClass y.cls = some m.cls := findClass_of_methodNamed B.named
  have hlocks := B.notSynchronized
  have hl := lv_entry (avs.map (q_gv ad)) (n := maxL) (hlen ad)
  rw [lg_entry_eq]
  generalize (lg_sl (avs.map (q_gv ad)) ++ List.replicate (maxL - (lg_sl (avs.map (q_gv ad))).length) Slot.unset).toArray = ls at hl ⊢
  rw [q_args] at hl
  have hC : ∀ a, a ≤ n → q_Cx (q_Kw (p, e, (headSpec (Cond.code y cc maxL none :: q_WS) (q_rmX d n)).room, s, m, (avs.map (q_gv ad)).toArray, below, meth, c, 0, 0, vx_MQ below (va_Qv (fun (u : q_St) => r = (none, u)) (fun u t => va_P D q_cl (q_wl cy ad L u) t.heap) (q_A ad s.heap.size)) (vx_X (fun (u : q_St) => u = r.2) (fun E u t => r.1 = some E ∧ va_P D q_cl (q_wl cy ad L u) t.heap) (q_A ad s.heap.size)) (avs.map (q_gv ad)).toArray s n (6 * n) (q_A ad s.heap.size), D, cy, ad, q_A ad s.heap.size, maxL, L) a) cc y.cls d maxL := fun a ha => ⟨B.exec, B.bytes, hml, rfl, hown, hts, hK, hi, fun k hk => Or.inl ⟨k, hk, rfl⟩, fun q h => Or.inr h, Nat.le_refl _, Nat.le_refl _, by show 0 + a ≤ n; omega, by show 0 + 6 * a ≤ 6 * n; omega, hE⟩
  refine body (p, e, (headSpec (Cond.code y cc maxL none :: q_WS) (q_rmX d n)).room, s, m, (avs.map (q_gv ad)).toArray, below, meth, c, 0, 0, vx_MQ below (va_Qv (fun (u : q_St) => r = (none, u)) (fun u t => va_P D q_cl (q_wl cy ad L u) t.heap) (q_A ad s.heap.size)) (vx_X (fun (u : q_St) => u = r.2) (fun E u t => r.1 = some E ∧ va_P D q_cl (q_wl cy ad L u) t.heap) (q_A ad s.heap.size)) (avs.map (q_gv ad)).toArray s n (6 * n) (q_A ad s.heap.size), D, cy, ad, q_A ad s.heap.size, maxL, L) hEX hC ?_ ?_ ?_ s.heap [] ls hP va_S.rf hl
  · intro a ha pc lv S' hd hr H locs ls hP hS hl
    exact vx_ret (W.widen (by omega) (by omega) (W.vret B.exec B.bytes B.returns (fun t ht hW => ⟨⟨S', rfl, hr, by show va_P D q_cl (q_wl cy ad L S') t.heap; rw [ht]; exact hP⟩, hS.F ht⟩) hS.2.2 hd hlocks))
  · intro a ha E S' hr H locs ce q pc ls rest hP hS hq hv9 hcl
    refine vx_out (fun x h => absurd (hnox x h) id) hlocks hq hv9 hcl (fun t ht _ => ⟨S', by rw [hr], ⟨by rw [hr], by rw [ht]; exact hP⟩, hS.F ht⟩) hS.2.2 ?_ ?_
    · show 0 + a ≤ n
      omega
    · show 0 + 6 * a ≤ 6 * n
      omega
  · intro a ha E S' hr
    exact q_XN_of hst (hC a (by omega)) hd6 hnox hlocks (fun q h => h) (by omega) (by omega) (Nat.le_refl _) (Nat.le_refl _) (by rw [hr]) (by rw [hr]) hEX
section QX
variable {l : Launch} {K : q_K} {a : Nat} {cc : ByteArray} {own : String} {dd n0 pc idx : Nat} {lv : List (Nat × Value)} {st : List Value} {S : q_St}
set_option maxHeartbeats 1000000 in
theorem q_xv (hX : q_KX K) (C : q_Cx (q_Kw K a) cc own dd n0) (C1 : q_Cx (q_Kw K (a + 1)) cc own dd n0) {y : MethodName} {cd : Cond} {d k0 maxL ci n : Nat} {bytes : ByteArray} {ret : Option FieldType} {As rest : List Value} {o : Option String} {S2 : q_St} {fs : List (Option Nat)} (hM : q_Fxv l y cd d 1 (.ref k0 :: As) S (o, S2)) (hy : q_my y cd bytes maxL ret n ci) (hlk : Cond.methodLink own idx y ∈ q_WS) (hn : As.length = n) (hk0 : q_sh[k0]? = some (.inr (ci, fs))) (hR : d + 1 ≤ dd ∧ maxL ≤ 21) (hroom : (rest.map Value.category).sum ≤ 8) (dg : decode cc pc = .ok (.invokevirtual idx, 3)) (kx : ∀ E, o = some E → q_XT (q_Kw K (a + 1)) l E S2) (kk : o = none → q_V l (q_Kw K (a + 1)) (pc + 3) lv rest S2) : q_V l (q_Kw K a) pc lv (As.reverse ++ .ref k0 :: rest) S := by
  obtain ⟨p, e, R, s, m, args, below, meth, c, cells, slots, Q, D, cy, ad, A, nL, L⟩ := K
  obtain ⟨hx, hb, hml, hnl, hown, hts, hK, hi, hA1, hA2, hf1, hf2, hc1, hc2, hE⟩ := C
  obtain ⟨-, -, -, -, -, -, -, -, -, -, -, -, hc3, hc4, -⟩ := C1
  obtain ⟨y1, y2, y3, y4, ⟨T, N, y5⟩, y6, y7, y8, y9⟩ := hy
  intro H locs ls hP hS hl
  have hF := q_free (ad := ad) hS hA1 hA2
  have hn2 : (As.map (q_gv ad)).length = n := by rw [List.length_map]; exact hn
  have e1 : cells + a + 1 = cells + (a + 1) := by omega
  have e2 : slots + 6 * a + 6 * 1 = slots + 6 * (a + 1) := by omega
  refine vx_callv (mc := 1) (ms := 6 * 1) (vx_runV (As := As.map (q_gv ad)) (rest := rest.map (q_gv ad)) ⟨hx, hb, hml, hown, hts⟩ (hM D cy ad H.size L) (cwV n hts (q_goodV hlk y6 y7 y8 y9) (congrArg (fun z => z :: q_WS) y1) rfl rfl ⟨rfl, y2, y3, y4⟩ ⟨Nat.le_trans hR.1 hf1, ?_⟩) ⟨q_Px_blind _ _ _ _ _ _ _, va_recv hK hP y5 (q_wl_get hk0), fun U hU hW => ⟨⟨rfl, by rw [hU], by rw [hU]; exact hP, va_K.moved hW.alike hK, hi, by rw [hU]; exact q_E.go hE hS.2.1 hF hW⟩, q_EX.go hX hW⟩⟩ rfl hn2 hl.1 ?_ ?_ dg ⟨by omega, by omega⟩) hS (fun q _ h => hF q h) hF (fun q _ h => hF q h) (fun E ce q9 u t H1 locs1 ht hvm hpx hB hz1 hk1 hS1 hce hcv hcl => ?_) (fun u t H1 locs1 ht hvm hw hB hz1 hk1 hS1 => ?_)
  · have h9 : (q_rmX d 1).locals = 40 * d := rfl
    rw [h9]
    have h8 := hR.1
    have h7 := hR.2
    omega
  · show (As.reverse ++ .ref k0 :: rest).map (q_gv ad) = _
    rw [List.map_append, List.map_reverse]
    rfl
  · refine lv_room ?_
    rw [q_cats]
    exact hroom
  · rw [e1, e2]
    have hpx' : u = S2 := hpx
    subst hpx'
    exact kx E hB.1 H1 locs1 ce q9 pc ls (rest.map (q_gv ad)) (by rw [← ht]; exact hB.2) hS1 hce hcv hcl
  · rw [e1, e2]
    have hw1 : o = none := congrArg Prod.fst hw
    have hw2 : S2 = u := congrArg Prod.snd hw
    subst hw2
    exact kk hw1 H1 locs1 ls (by rw [← ht]; exact hB) hS1 hl
theorem q_xv1 (hX : q_KX K) (C : q_Cx (q_Kw K a) cc own dd n0) (C1 : q_Cx (q_Kw K (a + 1)) cc own dd n0) {y : MethodName} {cd : Cond} {d k0 maxL ci : Nat} {bytes : ByteArray} {ret : Option FieldType} {a1 : Value} {rest : List Value} {o : Option String} {S2 : q_St} {fs : List (Option Nat)} (hM : q_Fxv l y cd d 1 (.ref k0 :: [a1]) S (o, S2)) (hy : q_my y cd bytes maxL ret 1 ci) (hlk : Cond.methodLink own idx y ∈ q_WS) (hk0 : q_sh[k0]? = some (.inr (ci, fs))) (hR : d + 1 ≤ dd ∧ maxL ≤ 21) (hroom : (rest.map Value.category).sum ≤ 8) (dg : decode cc pc = .ok (.invokevirtual idx, 3)) (kx : ∀ E, o = some E → q_XT (q_Kw K (a + 1)) l E S2) (kk : o = none → q_V l (q_Kw K (a + 1)) (pc + 3) lv rest S2) : q_V l (q_Kw K a) pc lv (a1 :: .ref k0 :: rest) S := q_xv hX C C1 hM hy hlk rfl hk0 hR hroom dg kx kk
theorem q_xv3 (hX : q_KX K) (C : q_Cx (q_Kw K a) cc own dd n0) (C1 : q_Cx (q_Kw K (a + 1)) cc own dd n0) {y : MethodName} {cd : Cond} {d k0 maxL ci : Nat} {bytes : ByteArray} {ret : Option FieldType} {a1 a2 a3 : Value} {rest : List Value} {o : Option String} {S2 : q_St} {fs : List (Option Nat)} (hM : q_Fxv l y cd d 1 (.ref k0 :: [a1, a2, a3]) S (o, S2)) (hy : q_my y cd bytes maxL ret 3 ci) (hlk : Cond.methodLink own idx y ∈ q_WS) (hk0 : q_sh[k0]? = some (.inr (ci, fs))) (hR : d + 1 ≤ dd ∧ maxL ≤ 21) (hroom : (rest.map Value.category).sum ≤ 8) (dg : decode cc pc = .ok (.invokevirtual idx, 3)) (kx : ∀ E, o = some E → q_XT (q_Kw K (a + 1)) l E S2) (kk : o = none → q_V l (q_Kw K (a + 1)) (pc + 3) lv rest S2) : q_V l (q_Kw K a) pc lv (a3 :: a2 :: a1 :: .ref k0 :: rest) S := q_xv hX C C1 hM hy hlk rfl hk0 hR hroom dg kx kk
end QX
theorem xk_Un : Cond.classLink RX6 253 "java/lang/UnsupportedOperationException" ∈ q_WS := q_in 310 (by decide +kernel) rfl
theorem xk_Ns : Cond.classLink RX6 81 "java/util/NoSuchElementException" ∈ q_WS := q_in 417 (by decide +kernel) rfl
theorem xk_Ia : Cond.classLink RX6 241 "java/lang/IllegalArgumentException" ∈ q_WS := q_in 442 (by decide +kernel) rfl
theorem xk_Io : Cond.classLink RX6 204 "java/lang/IndexOutOfBoundsException" ∈ q_WS := q_in 525 (by decide +kernel) rfl
theorem xk_Is : Cond.classLink RX6 168 "java/lang/IllegalStateException" ∈ q_WS := q_in 810 (by decide +kernel) rfl
theorem xk_Ar : Cond.classLink RX6 297 "java/lang/ArithmeticException" ∈ q_WS := q_in 841 (by decide +kernel) rfl
abbrev xr_7 : ByteArray := .mk #[0x2a, 0x2b, 0xb7, 0x00, 0x07, 0xb1]
abbrev xr_13 : ByteArray := .mk #[0x2a, 0x2b, 0xb7, 0x00, 0x0d, 0xb1]
theorem xr_7_d : decode xr_7 0 = .ok (.aload_n 0, 1) ∧ decode xr_7 1 = .ok (.aload_n 1, 1) ∧ decode xr_7 2 = .ok (.invokespecial 7, 3) ∧ decode xr_7 5 = .ok (.return_, 1) := by decide +kernel
theorem xr_13_d : decode xr_13 0 = .ok (.aload_n 0, 1) ∧ decode xr_13 1 = .ok (.aload_n 1, 1) ∧ decode xr_13 2 = .ok (.invokespecial 13, 3) ∧ decode xr_13 5 = .ok (.return_, 1) := by decide +kernel
theorem xi_Un : Cond.initialized "java/lang/UnsupportedOperationException" ∈ q_WS := q_in 58 (by decide +kernel) rfl
theorem xf_Un : Bundle.fit "java/lang/UnsupportedOperationException" = true := by decide +kernel
theorem xa_Un : ∀ w ∈ vn_at RX6 257 "java/lang/UnsupportedOperationException" 7 xr_7, w ∈ q_WS ∨ w ∈ q_nws := by decide +kernel
theorem xi_Ns : Cond.initialized "java/util/NoSuchElementException" ∈ q_WS := q_in 61 (by decide +kernel) rfl
theorem xf_Ns : Bundle.fit "java/util/NoSuchElementException" = true := by decide +kernel
theorem xa_Ns : ∀ w ∈ vn_at RX6 85 "java/util/NoSuchElementException" 13 xr_13, w ∈ q_WS ∨ w ∈ q_nws := by decide +kernel
theorem xi_Ia : Cond.initialized "java/lang/IllegalArgumentException" ∈ q_WS := q_in 62 (by decide +kernel) rfl
theorem xf_Ia : Bundle.fit "java/lang/IllegalArgumentException" = true := by decide +kernel
theorem xa_Ia : ∀ w ∈ vn_at RX6 245 "java/lang/IllegalArgumentException" 7 xr_7, w ∈ q_WS ∨ w ∈ q_nws := by decide +kernel
theorem xi_Io : Cond.initialized "java/lang/IndexOutOfBoundsException" ∈ q_WS := q_in 63 (by decide +kernel) rfl
theorem xf_Io : Bundle.fit "java/lang/IndexOutOfBoundsException" = true := by decide +kernel
theorem xa_Io : ∀ w ∈ vn_at RX6 208 "java/lang/IndexOutOfBoundsException" 7 xr_7, w ∈ q_WS ∨ w ∈ q_nws := by decide +kernel
theorem xi_Is : Cond.initialized "java/lang/IllegalStateException" ∈ q_WS := q_in 66 (by decide +kernel) rfl
theorem xf_Is : Bundle.fit "java/lang/IllegalStateException" = true := by decide +kernel
theorem xa_Is : ∀ w ∈ vn_at RX6 172 "java/lang/IllegalStateException" 7 xr_7, w ∈ q_WS ∨ w ∈ q_nws := by decide +kernel
theorem xi_Ar : Cond.initialized "java/lang/ArithmeticException" ∈ q_WS := q_in 67 (by decide +kernel) rfl
theorem xf_Ar : Bundle.fit "java/lang/ArithmeticException" = true := by decide +kernel
theorem xa_Ar : ∀ w ∈ vn_at RX6 301 "java/lang/ArithmeticException" 7 xr_7, w ∈ q_WS ∨ w ∈ q_nws := by decide +kernel
