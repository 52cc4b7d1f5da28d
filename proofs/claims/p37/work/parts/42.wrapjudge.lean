
/-! the law's wrappers: what their judgement needs -/
def q_KT (K : q_K) (tb : List ExceptionTableEntry) : Prop := match K with
  | (p, e, R, s, m, args, below, meth, c, cells, slots, Q, D, cy, ad, A, nL, L) => c.exceptionTable.toList = tb
/-- an exception of a call at pc, with these locals -/
def q_XC (K : q_K) (l : Launch) (pc : Nat) (lv : List (Nat × Value)) (E : String) (S : q_St) : Prop := match K with
  | (p, e, R, s, m, args, below, meth, c, cells, slots, Q, D, cy, ad, A, nL, L) => ∀ (H : Heap) (locs : List Loc) (ce : Cell) (q : Addr) (ls : Array Slot) (rest : List Value), va_P D q_cl (q_wl cy ad L S) H → va_S A s.heap H locs → lv_has ls nL (q_ml ad lv) → H[q]? = some ce → ce.vm = .none → s.vm.findClass E = some ce.cls → vx_W p l e R s m args below meth c H locs cells slots Q (F0 m pc ls rest) q
section QW
variable {l : Launch} {K : q_K} {cc : ByteArray} {own : String} {dd n0 pc idx : Nat} {lv : List (Nat × Value)} {st : List Value} {S : q_St}
set_option maxHeartbeats 1000000 in
theorem q_wi (hX : q_KX K) (C : q_Cx (q_Kw K 0) cc own dd n0) (C1 : q_Cx (q_Kw K 6) cc own dd n0) {y : MethodName} {cd : Cond} {d k0 maxL ci n : Nat} {bytes : ByteArray} {ret : Option FieldType} {As rest : List Value} {o : Int32 ⊕ String} {S2 : q_St} {fs : List (Option Nat)} (hM : q_Fx l y cd d 6 (.ref k0 :: As) S (o, S2)) (hy : q_my y cd bytes maxL ret n ci) (hlk : Cond.methodLink own idx y ∈ q_WS) (hn : As.length = n) (hk0 : q_sh[k0]? = some (.inr (ci, fs))) (hR : d + 1 ≤ dd ∧ maxL ≤ 21) (hroom : (rest.map Value.category).sum ≤ 8) (dg : decode cc pc = .ok (.invokevirtual idx, 3)) (kx : ∀ E, o = .inr E → q_XC (q_Kw K 6) l pc lv E S2) (kk : ∀ v, o = .inl v → q_V l (q_Kw K 6) (pc + 3) lv (.int v :: rest) S2) : q_V l (q_Kw K 0) pc lv (As.reverse ++ .ref k0 :: rest) S := by
  obtain ⟨p, e, R, s, m, args, below, meth, c, cells, slots, Q, D, cy, ad, A, nL, L⟩ := K
  obtain ⟨hx, hb, hml, hnl, hown, hts, hK, hi, hA1, hA2, hf1, hf2, hc1, hc2, hE⟩ := C
  obtain ⟨-, -, -, -, -, -, -, -, -, -, -, -, hc3, hc4, -⟩ := C1
  obtain ⟨y1, y2, y3, y4, ⟨T, N, y5⟩, y6, y7, y8, y9⟩ := hy
  intro H locs ls hP hS hl
  have hF := q_free (ad := ad) hS hA1 hA2
  have hn2 : (As.map (q_gv ad)).length = n := by rw [List.length_map]; exact hn
  refine vx_calli (mc := 6) (ms := 6 * 6) (vx_runV (As := As.map (q_gv ad)) (rest := rest.map (q_gv ad)) ⟨hx, hb, hml, hown, hts⟩ (hM D cy ad H.size L) (cwV n hts (q_goodV hlk y6 y7 y8 y9) (congrArg (fun z => z :: q_WS) y1) rfl rfl ⟨rfl, y2, y3, y4⟩ ⟨Nat.le_trans hR.1 hf1, ?_⟩) ⟨q_Px_blind _ _ _ _ _ _ _, va_recv hK hP y5 (q_wl_get hk0), fun U hU hW => ⟨⟨rfl, by rw [hU], by rw [hU]; exact hP, va_K.moved hW.alike hK, hi, by rw [hU]; exact q_E.go hE hS.2.1 hF hW⟩, q_EX.go hX hW⟩⟩ rfl hn2 hl.1 ?_ ?_ dg ⟨by omega, by omega⟩) hS (fun q _ h => hF q h) hF (fun q _ h => hF q h) (fun E ce q9 u t H1 locs1 ht hvm hpx hB hz1 hk1 hS1 hce hcv hcl => ?_) (fun r u t H1 locs1 ht hvm hw hB hz1 hk1 hS1 => ?_)
  · have h9 : (q_rmX d 6).locals = 40 * d := rfl
    rw [h9]
    have h8 := hR.1
    have h7 := hR.2
    omega
  · show (As.reverse ++ .ref k0 :: rest).map (q_gv ad) = _
    rw [List.map_append, List.map_reverse]
    rfl
  · refine lv_room ?_
    rw [q_cats]
    exact hroom
  · have hpx' : u = S2 := hpx
    subst hpx'
    exact kx E hB.1 H1 locs1 ce q9 ls (rest.map (q_gv ad)) (by rw [← ht]; exact hB.2) hS1 hl hce hcv hcl
  · have hw1 : o = .inl r := congrArg Prod.fst hw
    have hw2 : S2 = u := congrArg Prod.snd hw
    subst hw2
    exact kk r hw1 H1 locs1 ls (by rw [← ht]; exact hB) hS1 hl
theorem q_wi0 (hX : q_KX K) (C : q_Cx (q_Kw K 0) cc own dd n0) (C1 : q_Cx (q_Kw K 6) cc own dd n0) {y : MethodName} {cd : Cond} {d k0 maxL ci : Nat} {bytes : ByteArray} {ret : Option FieldType} {rest : List Value} {o : Int32 ⊕ String} {S2 : q_St} {fs : List (Option Nat)} (hM : q_Fx l y cd d 6 (.ref k0 :: []) S (o, S2)) (hy : q_my y cd bytes maxL ret 0 ci) (hlk : Cond.methodLink own idx y ∈ q_WS) (hk0 : q_sh[k0]? = some (.inr (ci, fs))) (hR : d + 1 ≤ dd ∧ maxL ≤ 21) (hroom : (rest.map Value.category).sum ≤ 8) (dg : decode cc pc = .ok (.invokevirtual idx, 3)) (kx : ∀ E, o = .inr E → q_XC (q_Kw K 6) l pc lv E S2) (kk : ∀ v, o = .inl v → q_V l (q_Kw K 6) (pc + 3) lv (.int v :: rest) S2) : q_V l (q_Kw K 0) pc lv (.ref k0 :: rest) S := q_wi hX C C1 hM hy hlk rfl hk0 hR hroom dg kx kk
theorem q_wi1 (hX : q_KX K) (C : q_Cx (q_Kw K 0) cc own dd n0) (C1 : q_Cx (q_Kw K 6) cc own dd n0) {y : MethodName} {cd : Cond} {d k0 maxL ci : Nat} {bytes : ByteArray} {ret : Option FieldType} {a1 : Value} {rest : List Value} {o : Int32 ⊕ String} {S2 : q_St} {fs : List (Option Nat)} (hM : q_Fx l y cd d 6 (.ref k0 :: [a1]) S (o, S2)) (hy : q_my y cd bytes maxL ret 1 ci) (hlk : Cond.methodLink own idx y ∈ q_WS) (hk0 : q_sh[k0]? = some (.inr (ci, fs))) (hR : d + 1 ≤ dd ∧ maxL ≤ 21) (hroom : (rest.map Value.category).sum ≤ 8) (dg : decode cc pc = .ok (.invokevirtual idx, 3)) (kx : ∀ E, o = .inr E → q_XC (q_Kw K 6) l pc lv E S2) (kk : ∀ v, o = .inl v → q_V l (q_Kw K 6) (pc + 3) lv (.int v :: rest) S2) : q_V l (q_Kw K 0) pc lv (a1 :: .ref k0 :: rest) S := q_wi hX C C1 hM hy hlk rfl hk0 hR hroom dg kx kk
theorem q_wi2 (hX : q_KX K) (C : q_Cx (q_Kw K 0) cc own dd n0) (C1 : q_Cx (q_Kw K 6) cc own dd n0) {y : MethodName} {cd : Cond} {d k0 maxL ci : Nat} {bytes : ByteArray} {ret : Option FieldType} {a1 a2 : Value} {rest : List Value} {o : Int32 ⊕ String} {S2 : q_St} {fs : List (Option Nat)} (hM : q_Fx l y cd d 6 (.ref k0 :: [a1, a2]) S (o, S2)) (hy : q_my y cd bytes maxL ret 2 ci) (hlk : Cond.methodLink own idx y ∈ q_WS) (hk0 : q_sh[k0]? = some (.inr (ci, fs))) (hR : d + 1 ≤ dd ∧ maxL ≤ 21) (hroom : (rest.map Value.category).sum ≤ 8) (dg : decode cc pc = .ok (.invokevirtual idx, 3)) (kx : ∀ E, o = .inr E → q_XC (q_Kw K 6) l pc lv E S2) (kk : ∀ v, o = .inl v → q_V l (q_Kw K 6) (pc + 3) lv (.int v :: rest) S2) : q_V l (q_Kw K 0) pc lv (a2 :: a1 :: .ref k0 :: rest) S := q_wi hX C C1 hM hy hlk rfl hk0 hR hroom dg kx kk
theorem q_wi3 (hX : q_KX K) (C : q_Cx (q_Kw K 0) cc own dd n0) (C1 : q_Cx (q_Kw K 6) cc own dd n0) {y : MethodName} {cd : Cond} {d k0 maxL ci : Nat} {bytes : ByteArray} {ret : Option FieldType} {a1 a2 a3 : Value} {rest : List Value} {o : Int32 ⊕ String} {S2 : q_St} {fs : List (Option Nat)} (hM : q_Fx l y cd d 6 (.ref k0 :: [a1, a2, a3]) S (o, S2)) (hy : q_my y cd bytes maxL ret 3 ci) (hlk : Cond.methodLink own idx y ∈ q_WS) (hk0 : q_sh[k0]? = some (.inr (ci, fs))) (hR : d + 1 ≤ dd ∧ maxL ≤ 21) (hroom : (rest.map Value.category).sum ≤ 8) (dg : decode cc pc = .ok (.invokevirtual idx, 3)) (kx : ∀ E, o = .inr E → q_XC (q_Kw K 6) l pc lv E S2) (kk : ∀ v, o = .inl v → q_V l (q_Kw K 6) (pc + 3) lv (.int v :: rest) S2) : q_V l (q_Kw K 0) pc lv (a3 :: a2 :: a1 :: .ref k0 :: rest) S := q_wi hX C C1 hM hy hlk rfl hk0 hR hroom dg kx kk
theorem q_catch_n (C : q_Cx K cc own dd n0) (hX : q_KX K) {tb : List ExceptionTableEntry} {E : String} (hT : q_KT K tb) (pre : List ExceptionTableEntry) (x : ExceptionTableEntry) (suf : List ExceptionTableEntry) (hsplit : tb = pre ++ x :: suf) (hpass : ∀ z ∈ pre, z.catchType ≠ 0 ∧ ∃ nm : String, Cond.classLink own z.catchType nm ∈ q_WS ∧ (E, nm) ∈ q_ncs) (hx9 : covers x pc = true) (h0 : x.catchType ≠ 0) (hlk : Cond.classLink own x.catchType E ∈ q_WS) (hca : Cond.castable E E ∈ q_nws) {f : Fin 4} {i : Nat} (d : decode cc x.handlerPc = .ok (.astore_n f, 1)) (hi9 : (f : Nat) = i) (hn : i < n0) (k : q_V l K (x.handlerPc + 1) [] [] S) : q_XC K l pc lv E S := by
  obtain ⟨p, e, R, s, m, args, below, meth, c, cells, slots, Q, D, cy, ad, A, nL, L⟩ := K
  obtain ⟨hx, hb, hml, hnl, hown, hts, hK, hi, hA1, hA2, hf1, hf2, hc1, hc2, hE⟩ := C
  intro H locs ce q ls rest hP hS hl hq hv9 hcl
  subst hnl
  have hEE := hE.2.2.2.2.2.2.1
  refine vx_catch hown pre x suf (by show c.exceptionTable.toList = _; rw [show c.exceptionTable.toList = tb from hT]; exact hsplit) (fun z hz => ?_) hx9 h0 (hts _ hlk) (q_EX.word hX hca) hq hv9 hcl ?_
  · obtain ⟨h1, nm, h2, h3⟩ := hpass z hz
    exact Or.inr ⟨h1, nm, hts _ h2, hEE _ h3⟩
  · exact lv_astore_n hx hb d hi9 hl hn rfl (fun ls' hl' => k H locs ls' hP hS ⟨hl'.1, hl'.2.1, fun q hq => nomatch hq⟩)
theorem q_catch (C : q_Cx K cc own dd n0) (hX : q_KX K) {tb : List ExceptionTableEntry} {E : String} (hT : q_KT K tb) (pre : List ExceptionTableEntry) (x : ExceptionTableEntry) (suf : List ExceptionTableEntry) (hsplit : tb = pre ++ x :: suf) (hpass : ∀ z ∈ pre, z.catchType ≠ 0 ∧ ∃ nm : String, Cond.classLink own z.catchType nm ∈ q_WS ∧ (E, nm) ∈ q_ncs) (hx9 : covers x pc = true) (h0 : x.catchType ≠ 0) (hlk : Cond.classLink own x.catchType E ∈ q_WS) (hca : Cond.castable E E ∈ q_nws) {i : Nat} (d : decode cc x.handlerPc = .ok (.astore i, 2)) (hn : i < n0) (k : q_V l K (x.handlerPc + 2) [] [] S) : q_XC K l pc lv E S := by
  obtain ⟨p, e, R, s, m, args, below, meth, c, cells, slots, Q, D, cy, ad, A, nL, L⟩ := K
  obtain ⟨hx, hb, hml, hnl, hown, hts, hK, hi, hA1, hA2, hf1, hf2, hc1, hc2, hE⟩ := C
  intro H locs ce q ls rest hP hS hl hq hv9 hcl
  subst hnl
  have hEE := hE.2.2.2.2.2.2.1
  refine vx_catch hown pre x suf (by show c.exceptionTable.toList = _; rw [show c.exceptionTable.toList = tb from hT]; exact hsplit) (fun z hz => ?_) hx9 h0 (hts _ hlk) (q_EX.word hX hca) hq hv9 hcl ?_
  · obtain ⟨h1, nm, h2, h3⟩ := hpass z hz
    exact Or.inr ⟨h1, nm, hts _ h2, hEE _ h3⟩
  · exact lv_astore hx hb d hl hn rfl (fun ls' hl' => k H locs ls' hP hS ⟨hl'.1, hl'.2.1, fun q hq => nomatch hq⟩)
end QW
/-- the law's method answers v and leaves S2, at most u new cells and 6 u new slots -/
def q_Fy (l : Launch) (y : MethodName) (cd : Cond) (d u : Nat) (avs : List Value) (S : q_St) (v : Int32) (S2 : q_St) : Prop := ∀ (D : va_G) (cy : Nat → ClassId) (ad : Nat → Nat) (sz : Nat) (L : q_L), Met l y (cd :: q_WS) (q_rmX d u) (q_Px avs S D cy ad sz L) (va_Qi (fun (r : Int32) (w : q_St) => r = v ∧ w = S2) (fun w t => va_P D q_cl (q_wl cy ad L w) t.heap) (q_A ad sz)) u (6 * u) (q_A ad sz)
theorem q_Fy.cs {l : Launch} {y : MethodName} {cd : Cond} {d u : Nat} {avs : List Value} {S : q_St} {v v' : Int32} {S2 S3 : q_St} (e : v = v') (e2 : S2 = S3) (h : q_Fy l y cd d u avs S v S2) : q_Fy l y cd d u avs S v' S3 := by subst e; subst e2; exact h
set_option maxHeartbeats 1000000 in
theorem q_Fw_of {l : Launch} {y : MethodName} {cd : Cond} {cc : ByteArray} {maxL : Nat} {hh : List (Nat × Nat × Nat × Nat)} {avs : List Value} {S S2 : q_St} {r : Int32} (hcd : cd = .codeWith y cc maxL (some .int) hh) (hy : plainName y.cls = true) (hlen : ∀ ad : Nat → Nat, (lg_sl (avs.map (q_gv ad))).length ≤ maxL)
    (body : ∀ K : q_K, q_KX (q_Kw K 6) → q_KX K → (∀ a, a ≤ 6 → q_Cx (q_Kw K a) cc y.cls 9 maxL) → q_KT (q_Kw K 6) (tableOf hh) → (∀ (pc : Nat) (lv : List (Nat × Value)) (v : Int32) (S' : q_St), decode cc pc = .ok (.ireturn, 1) → v = r → S' = S2 → q_V l (q_Kw K 6) pc lv [.int v] S') → q_V l (q_Kw K 0) 0 (lv_args 0 avs) [] S) : q_Fy l y cd 9 6 avs S r S2 := by
  intro D cy ad sz L
  subst hcd
  refine va_MetW (cc := cc) (maxL := maxL) (ret := (some .int)) (hh := hh) hy rfl ?_
  intro p e s m args below meth c s₁ B hml hv
  obtain ⟨⟨rfl, hsz, hP, hK, hi, hE⟩, hEX⟩ := hv
  subst hsz
  have hts0 := atoms_spec (ws := Cond.codeWith y cc maxL (some .int) hh :: q_WS) B.pre
  have hts : ∀ w ∈ q_WS, w.before (avs.map (q_gv ad)).toArray s = true := fun w h => hts0 w (List.mem_cons_of_mem _ h)
  have htab := vx_table (x := y) B (hts0 _ List.mem_cons_self)
  have hown : s.vm.findClass y.cls = some m.cls := findClass_of_methodNamed B.named
  have hlocks := B.notSynchronized
  have hl := lv_entry (avs.map (q_gv ad)) (n := maxL) (hlen ad)
  rw [lg_entry_eq]
  generalize (lg_sl (avs.map (q_gv ad)) ++ List.replicate (maxL - (lg_sl (avs.map (q_gv ad))).length) Slot.unset).toArray = ls at hl ⊢
  rw [q_args] at hl
  refine body (p, e, (headSpec (Cond.codeWith y cc maxL (some .int) hh :: q_WS) (q_rmX 9 6)).room, s, m, (avs.map (q_gv ad)).toArray, below, meth, c, 0, 0, MQ below (va_Qi (fun (v : Int32) (w : q_St) => v = r ∧ w = S2) (fun w t => va_P D q_cl (q_wl cy ad L w) t.heap) (q_A ad s.heap.size)) (avs.map (q_gv ad)).toArray s 6 (6 * 6) (q_A ad s.heap.size), D, cy, ad, q_A ad s.heap.size, maxL, L) hEX hEX (fun a ha => ⟨B.exec, B.bytes, hml, rfl, hown, hts, hK, hi, fun k hk => Or.inl ⟨k, hk, rfl⟩, fun q h => Or.inr h, Nat.le_refl _, Nat.le_refl _, by show 0 + a ≤ 6; omega, by show 0 + 6 * a ≤ 6 * 6; omega, hE⟩) htab ?_ s.heap [] ls hP va_S.rf hl
  intro pc lv v S' hd h1 h2 H locs ls hP hS hl
  subst h1; subst h2
  exact W.widen (by omega) (by omega) (W.zret B.exec B.bytes B.returns rfl (fun t ht hW => ⟨⟨v, S', rfl, ⟨rfl, rfl⟩, by show va_P D q_cl (q_wl cy ad L S') t.heap; rw [ht]; exact hP⟩, hS.F ht⟩) hS.2.2 hd hlocks)
def uWc : List (String × Int32) → String → Int32
  | [], _ => 0
  | a :: r, E => if E = a.1 then a.2 else uWc r E
/-- what a wrapper answers -/
def uW (hs : List (String × Int32)) (o : Int32 ⊕ String) : Int32 := match o with
  | .inl v => v
  | .inr E => uWc hs E
theorem wk_Un : Cond.classLink RL 14 xEUn ∈ q_WS := q_in 293 (by decide +kernel) rfl
theorem wk_Ns : Cond.classLink RL 20 xENs ∈ q_WS := q_in 403 (by decide +kernel) rfl
theorem wk_Ia : Cond.classLink RL 22 xEIa ∈ q_WS := q_in 404 (by decide +kernel) rfl
theorem wk_Io : Cond.classLink RL 31 xEIo ∈ q_WS := q_in 493 (by decide +kernel) rfl
theorem wk_Is : Cond.classLink RL 59 xEIs ∈ q_WS := q_in 804 (by decide +kernel) rfl
theorem wc_Un : Cond.castable xEUn xEUn ∈ q_nws := List.mem_filter.mpr ⟨List.mem_of_getElem? (i := 312) (by decide +kernel), rfl⟩
theorem wc_Ns : Cond.castable xENs xENs ∈ q_nws := List.mem_filter.mpr ⟨List.mem_of_getElem? (i := 419) (by decide +kernel), rfl⟩
theorem wc_Ia : Cond.castable xEIa xEIa ∈ q_nws := List.mem_filter.mpr ⟨List.mem_of_getElem? (i := 444) (by decide +kernel), rfl⟩
theorem wc_Io : Cond.castable xEIo xEIo ∈ q_nws := List.mem_filter.mpr ⟨List.mem_of_getElem? (i := 527) (by decide +kernel), rfl⟩
theorem wc_Is : Cond.castable xEIs xEIs ∈ q_nws := List.mem_filter.mpr ⟨List.mem_of_getElem? (i := 812) (by decide +kernel), rfl⟩
theorem wc_Ar : Cond.castable xEAr xEAr ∈ q_nws := List.mem_filter.mpr ⟨List.mem_of_getElem? (i := 843) (by decide +kernel), rfl⟩
