
/-! the law's wrappers: what their judgement needs -/
def q_ty : q_Sh → Nat
  | .inl (t, _) => t
  | .inr _ => 100
theorem q_ty4 : ∀ j, j < 122 → j ≠ 120 → q_sh[j]?.map q_ty ≠ some 4 := by decide +kernel
theorem q_ty5 : ∀ j, j < 122 → j ≠ 121 → q_sh[j]?.map q_ty ≠ some 5 := by decide +kernel
theorem q_arr_4 {ad : Nat → Nat} {f : Nat → Int32} {L : q_L} (g : Nat → Int64) : ∀ t : Nat, t ≠ 4 → q_arr ad t f L = q_arr ad t f (g, L.2)
  | 3, _ => rfl
  | 4, h => absurd rfl h
  | 5, _ => rfl
  | 0, _ => rfl
  | 1, _ => rfl
  | 2, _ => rfl
  | _ + 6, _ => rfl
theorem q_arr_5 {ad : Nat → Nat} {f : Nat → Int32} {L : q_L} (g : Nat → UInt64) : ∀ t : Nat, t ≠ 5 → q_arr ad t f L = q_arr ad t f (L.1, g)
  | 3, _ => rfl
  | 5, h => absurd rfl h
  | 4, _ => rfl
  | 0, _ => rfl
  | 1, _ => rfl
  | 2, _ => rfl
  | _ + 6, _ => rfl
theorem q_cell_4 {cy : Nat → ClassId} {ad : Nat → Nat} {f : Nat → Int32} {L : q_L} (g : Nat → Int64) (sh : q_Sh) (h : q_ty sh ≠ 4) : q_cell cy ad L f sh = q_cell cy ad (g, L.2) f sh := by
  rcases sh with ⟨t, n⟩ | ⟨ci, fs⟩
  · show (Sum.inl (cy t, n, q_arr ad t f L) : va_E) = .inl (cy t, n, q_arr ad t f (g, L.2))
    rw [q_arr_4 g t h]
  · rfl
theorem q_cell_5 {cy : Nat → ClassId} {ad : Nat → Nat} {f : Nat → Int32} {L : q_L} (g : Nat → UInt64) (sh : q_Sh) (h : q_ty sh ≠ 5) : q_cell cy ad L f sh = q_cell cy ad (L.1, g) f sh := by
  rcases sh with ⟨t, n⟩ | ⟨ci, fs⟩
  · show (Sum.inl (cy t, n, q_arr ad t f L) : va_E) = .inl (cy t, n, q_arr ad t f (L.1, g))
    rw [q_arr_5 g t h]
  · rfl
theorem q_wl_L4 {cy : Nat → ClassId} {ad : Nat → Nat} {L : q_L} {S : q_St} (f : Nat → Int64) : (q_wl cy ad L S).set 120 (ad 120, .inl (cy 4, 1, (.inr (.inl f)))) = q_wl cy ad (f, L.2) S := by
  apply List.ext_getElem?
  intro j
  by_cases hj : j = 120
  · subst hj
    rw [List.getElem?_set_self (by rw [q_wl_len]; omega), q_wl_get q_s120]
    rfl
  · rw [List.getElem?_set_ne (Ne.symm hj)]
    cases e : q_sh[j]? with
    | none =>
      have h1 : 122 ≤ j := by
        have := List.getElem?_eq_none_iff.mp e
        rw [q_sh_len] at this; exact this
      rw [List.getElem?_eq_none (by rw [q_wl_len]; exact h1), List.getElem?_eq_none (by rw [q_wl_len]; exact h1)]
    | some sh =>
      have hk : j < 122 := by have := (List.getElem?_eq_some_iff.mp e).1; rw [q_sh_len] at this; exact this
      have h2 := q_ty4 j hk hj
      rw [e] at h2
      rw [q_wl_get e, q_wl_get e, q_cell_4 f sh (fun q => h2 (congrArg some q))]
theorem q_wl_L5 {cy : Nat → ClassId} {ad : Nat → Nat} {L : q_L} {S : q_St} (f : Nat → UInt64) : (q_wl cy ad L S).set 121 (ad 121, .inl (cy 5, 1, (.inr (.inr (.inr (.inl f)))))) = q_wl cy ad (L.1, f) S := by
  apply List.ext_getElem?
  intro j
  by_cases hj : j = 121
  · subst hj
    rw [List.getElem?_set_self (by rw [q_wl_len]; omega), q_wl_get q_s121]
    rfl
  · rw [List.getElem?_set_ne (Ne.symm hj)]
    cases e : q_sh[j]? with
    | none =>
      have h1 : 122 ≤ j := by
        have := List.getElem?_eq_none_iff.mp e
        rw [q_sh_len] at this; exact this
      rw [List.getElem?_eq_none (by rw [q_wl_len]; exact h1), List.getElem?_eq_none (by rw [q_wl_len]; exact h1)]
    | some sh =>
      have hk : j < 122 := by have := (List.getElem?_eq_some_iff.mp e).1; rw [q_sh_len] at this; exact this
      have h2 := q_ty5 j hk hj
      rw [e] at h2
      rw [q_wl_get e, q_wl_get e, q_cell_5 f sh (fun q => h2 (congrArg some q))]

/-- the long and double cells changed -/
def q_KM (K : q_K) (g : q_L → q_L) : q_K := match K with
  | (p, e, R, s, m, args, below, meth, c, cells, slots, Q, D, cy, ad, A, nL, L) => (p, e, R, s, m, args, below, meth, c, cells, slots, Q, D, cy, ad, A, nL, g L)
def q_KT (K : q_K) (tb : List ExceptionTableEntry) : Prop := match K with
  | (p, e, R, s, m, args, below, meth, c, cells, slots, Q, D, cy, ad, A, nL, L) => c.exceptionTable.toList = tb
/-- an exception of a call at pc, with these locals -/
def q_XC (K : q_K) (l : Launch) (pc : Nat) (lv : List (Nat × Value)) (E : String) (S : q_St) : Prop := match K with
  | (p, e, R, s, m, args, below, meth, c, cells, slots, Q, D, cy, ad, A, nL, L) => ∀ (H : Heap) (locs : List Loc) (ce : Cell) (q : Addr) (ls : Array Slot) (rest : List Value), va_P D q_cl (q_wl cy ad L S) H → va_S A s.heap H locs → lv_has ls nL (q_ml ad lv) → H[q]? = some ce → ce.vm = .none → s.vm.findClass E = some ce.cls → vx_W p l e R s m args below meth c H locs cells slots Q (F0 m pc ls rest) q
theorem q_Cx.KM {K : q_K} {cc : ByteArray} {own : String} {dd n0 : Nat} (g : q_L → q_L) (C : q_Cx K cc own dd n0) : q_Cx (q_KM K g) cc own dd n0 := by
  obtain ⟨p, e, R, s, m, args, below, meth, c, cells, slots, Q, D, cy, ad, A, nL, L⟩ := K
  obtain ⟨hx, hb, hml, hnl, hown, hts, hK, hi, hA1, hA2, hf1, hf2, hc1, hc2, hE⟩ := C
  exact ⟨hx, hb, hml, hnl, hown, hts, hK, hi, hA1, hA2, hf1, hf2, hc1, hc2, hE⟩
section QW
variable {l : Launch} {K : q_K} {cc : ByteArray} {own : String} {dd n0 pc idx : Nat} {lv : List (Nat × Value)} {st : List Value} {S : q_St}
theorem q_i2l (C : q_Cx K cc own dd n0) {x : Int32} (d : decode cc pc = .ok (.i2l, 1)) (k : q_V l K (pc + 1) lv (.long x.toInt64 :: st) S) : q_V l K pc lv (.int x :: st) S := by
  obtain ⟨p, e, R, s, m, args, below, meth, c, cells, slots, Q, D, cy, ad, A, nL, L⟩ := K
  obtain ⟨hx, hb, hml, hnl, hown, hts, hK, hi, hA1, hA2, hf1, hf2, hc1, hc2, hE⟩ := C
  intro H locs ls hP hS hl
  exact lv_i2l hx hb d rfl (k H locs ls hP hS hl)
theorem q_lconst (C : q_Cx K cc own dd n0) {f : Fin 2} {v : Int64} (d : decode cc pc = .ok (.lconst f, 1)) (hv : Int64.ofNat (f : Nat) = v) (k : q_V l K (pc + 1) lv (.long v :: st) S) : q_V l K pc lv st S := by
  obtain ⟨p, e, R, s, m, args, below, meth, c, cells, slots, Q, D, cy, ad, A, nL, L⟩ := K
  obtain ⟨hx, hb, hml, hnl, hown, hts, hK, hi, hA1, hA2, hf1, hf2, hc1, hc2, hE⟩ := C
  intro H locs ls hP hS hl
  exact lv_lconst hx hb d hv (k H locs ls hP hS hl)
theorem q_last (C : q_Cx K cc own dd n0) {x : Int64} (d : decode cc pc = .ok (.lastore, 1)) (kk : q_V l (q_KM K (fun L => (vp_updL L.1 0 x, L.2))) (pc + 1) lv st S) : q_V l K pc lv (.long x :: .int 0 :: .ref 120 :: st) S := by
  obtain ⟨p, e, R, s, m, args, below, meth, c, cells, slots, Q, D, cy, ad, A, nL, L⟩ := K
  obtain ⟨hx, hb, hml, hnl, hown, hts, hK, hi, hA1, hA2, hf1, hf2, hc1, hc2, hE⟩ := C
  intro H locs ls hP hS hl
  refine va_last hx hb hK hP (q_wl_D hi hA1) hS 120 4 (q_wl_get q_s120) rfl (vp_in_nI (n := 0) (by decide) (by decide)) d (fun H1 locs1 hP1 hD1 hS1 => ?_)
  exact kk H1 locs1 ls (by rw [← q_wl_L4 (vp_updL L.1 0 x)]; exact hP1) hS1 hl
theorem q_dast (C : q_Cx K cc own dd n0) {x : UInt64} (d : decode cc pc = .ok (.dastore, 1)) (kk : q_V l (q_KM K (fun L => (L.1, vf_upd L.2 0 x))) (pc + 1) lv st S) : q_V l K pc lv (.double x :: .int 0 :: .ref 121 :: st) S := by
  obtain ⟨p, e, R, s, m, args, below, meth, c, cells, slots, Q, D, cy, ad, A, nL, L⟩ := K
  obtain ⟨hx, hb, hml, hnl, hown, hts, hK, hi, hA1, hA2, hf1, hf2, hc1, hc2, hE⟩ := C
  intro H locs ls hP hS hl
  refine va_dast hx hb hK hP (q_wl_D hi hA1) hS 121 5 (q_wl_get q_s121) rfl (vp_in_nI (n := 0) (by decide) (by decide)) d (fun H1 locs1 hP1 hD1 hS1 => ?_)
  exact kk H1 locs1 ls (by rw [← q_wl_L5 (vf_upd L.2 0 x)]; exact hP1) hS1 hl
set_option maxHeartbeats 1000000 in
theorem q_wi (hX : q_KX K) (C : q_Cx (q_Kw K 0) cc own dd n0) (C1 : q_Cx (q_Kw K 6) cc own dd n0) {y : MethodName} {cd : Cond} {d k0 maxL ci n : Nat} {bytes : ByteArray} {ret : Option FieldType} {As rest : List Value} {o : Int32 ⊕ String} {S2 : q_St} {fs : List (Option Nat)} (hM : q_Fx l y cd d 6 (.ref k0 :: As) S (o, S2)) (hy : q_my y cd bytes maxL ret n ci) (hlk : Cond.methodLink own idx y ∈ q_WS) (hn : As.length = n) (hk0 : q_sh[k0]? = some (.inr (ci, fs))) (hR : d + 1 ≤ dd ∧ maxL ≤ 21) (hroom : (rest.map Value.category).sum ≤ 8) (dg : decode cc pc = .ok (.invokevirtual idx, 3)) (kx : ∀ E, o = .inr E → q_XC (q_Kw K 6) l pc lv E S2) (kk : ∀ v, o = .inl v → q_V l (q_Kw K 6) (pc + 3) lv (.int v :: rest) S2) : q_V l (q_Kw K 0) pc lv (As.reverse ++ .ref k0 :: rest) S := by
  obtain ⟨p, e, R, s, m, args, below, meth, c, cells, slots, Q, D, cy, ad, A, nL, L⟩ := K
  obtain ⟨hx, hb, hml, hnl, hown, hts, hK, hi, hA1, hA2, hf1, hf2, hc1, hc2, hE⟩ := C
  obtain ⟨-, -, -, -, -, -, -, -, -, -, -, -, hc3, hc4, -⟩ := C1
  obtain ⟨y1, y2, y3, y4, ⟨T, N, y5⟩, y6, y7, y8, y9⟩ := hy
  intro H locs ls hP hS hl
  have hF := q_free (ad := ad) hS hA1 hA2
  have hn2 : (As.map (q_gv ad)).length = n := by rw [List.length_map]; exact hn
  refine vx_calli (mc := 6) (ms := 6 * 6) (vx_runV (As := As.map (q_gv ad)) (rest := rest.map (q_gv ad)) ⟨hx, hb, hml, hown, hts⟩ (hM D cy ad H.size L) (cwV n hts (q_goodV hlk y6 y7 y8 y9) (congrArg (fun z => z :: q_WS) y1) rfl rfl ⟨rfl, y2, y3, y4⟩ ⟨Nat.le_trans hR.1 hf1, ?_⟩) ⟨q_Px_blind _ _ _ _ _ _ _, va_recv hK hP y5 (q_wl_get hk0), fun U hU hW => ⟨⟨rfl, by rw [hU], by rw [hU]; exact hP, va_K.moved hW.alike hK, hi, by rw [hU]; exact q_E.go hE hS.2.1 hF hW⟩, q_EX.go hX hW⟩⟩ rfl hn2 hl.1 ?_ ?_ dg ⟨by omega, by omega⟩) hS (fun q _ h => hF q h) hF (fun q _ h => hF q h) (fun E ce q9 u t H1 locs1 ht hvm hpx hB hz1 hk1 hS1 hce hcv hcl => ?_) (fun r u t H1 locs1 ht hvm hw hB hz1 hk1 hS1 => ?_)
  · have h9 : (q_rmX d 6).locals = 40 * d := rfl
    rw [h9]
    have h8 := hR.1
    have h7 := hR.2
    omega
  · show (As.reverse ++ .ref k0 :: rest).map (q_gv ad) = _
    rw [List.map_append, List.map_reverse]
    rfl
  · refine lv_room ?_
    rw [q_cats]
    exact hroom
  · have hpx' : u = S2 := hpx
    subst hpx'
    exact kx E hB.1 H1 locs1 ce q9 ls (rest.map (q_gv ad)) (by rw [← ht]; exact hB.2) hS1 hl hce hcv hcl
  · have hw1 : o = .inl r := congrArg Prod.fst hw
    have hw2 : S2 = u := congrArg Prod.snd hw
    subst hw2
    exact kk r hw1 H1 locs1 ls (by rw [← ht]; exact hB) hS1 hl
theorem q_wi0 (hX : q_KX K) (C : q_Cx (q_Kw K 0) cc own dd n0) (C1 : q_Cx (q_Kw K 6) cc own dd n0) {y : MethodName} {cd : Cond} {d k0 maxL ci : Nat} {bytes : ByteArray} {ret : Option FieldType} {rest : List Value} {o : Int32 ⊕ String} {S2 : q_St} {fs : List (Option Nat)} (hM : q_Fx l y cd d 6 (.ref k0 :: []) S (o, S2)) (hy : q_my y cd bytes maxL ret 0 ci) (hlk : Cond.methodLink own idx y ∈ q_WS) (hk0 : q_sh[k0]? = some (.inr (ci, fs))) (hR : d + 1 ≤ dd ∧ maxL ≤ 21) (hroom : (rest.map Value.category).sum ≤ 8) (dg : decode cc pc = .ok (.invokevirtual idx, 3)) (kx : ∀ E, o = .inr E → q_XC (q_Kw K 6) l pc lv E S2) (kk : ∀ v, o = .inl v → q_V l (q_Kw K 6) (pc + 3) lv (.int v :: rest) S2) : q_V l (q_Kw K 0) pc lv (.ref k0 :: rest) S := q_wi hX C C1 hM hy hlk rfl hk0 hR hroom dg kx kk
theorem q_wi1 (hX : q_KX K) (C : q_Cx (q_Kw K 0) cc own dd n0) (C1 : q_Cx (q_Kw K 6) cc own dd n0) {y : MethodName} {cd : Cond} {d k0 maxL ci : Nat} {bytes : ByteArray} {ret : Option FieldType} {a1 : Value} {rest : List Value} {o : Int32 ⊕ String} {S2 : q_St} {fs : List (Option Nat)} (hM : q_Fx l y cd d 6 (.ref k0 :: [a1]) S (o, S2)) (hy : q_my y cd bytes maxL ret 1 ci) (hlk : Cond.methodLink own idx y ∈ q_WS) (hk0 : q_sh[k0]? = some (.inr (ci, fs))) (hR : d + 1 ≤ dd ∧ maxL ≤ 21) (hroom : (rest.map Value.category).sum ≤ 8) (dg : decode cc pc = .ok (.invokevirtual idx, 3)) (kx : ∀ E, o = .inr E → q_XC (q_Kw K 6) l pc lv E S2) (kk : ∀ v, o = .inl v → q_V l (q_Kw K 6) (pc + 3) lv (.int v :: rest) S2) : q_V l (q_Kw K 0) pc lv (a1 :: .ref k0 :: rest) S := q_wi hX C C1 hM hy hlk rfl hk0 hR hroom dg kx kk
theorem q_wi2 (hX : q_KX K) (C : q_Cx (q_Kw K 0) cc own dd n0) (C1 : q_Cx (q_Kw K 6) cc own dd n0) {y : MethodName} {cd : Cond} {d k0 maxL ci : Nat} {bytes : ByteArray} {ret : Option FieldType} {a1 a2 : Value} {rest : List Value} {o : Int32 ⊕ String} {S2 : q_St} {fs : List (Option Nat)} (hM : q_Fx l y cd d 6 (.ref k0 :: [a1, a2]) S (o, S2)) (hy : q_my y cd bytes maxL ret 2 ci) (hlk : Cond.methodLink own idx y ∈ q_WS) (hk0 : q_sh[k0]? = some (.inr (ci, fs))) (hR : d + 1 ≤ dd ∧ maxL ≤ 21) (hroom : (rest.map Value.category).sum ≤ 8) (dg : decode cc pc = .ok (.invokevirtual idx, 3)) (kx : ∀ E, o = .inr E → q_XC (q_Kw K 6) l pc lv E S2) (kk : ∀ v, o = .inl v → q_V l (q_Kw K 6) (pc + 3) lv (.int v :: rest) S2) : q_V l (q_Kw K 0) pc lv (a2 :: a1 :: .ref k0 :: rest) S := q_wi hX C C1 hM hy hlk rfl hk0 hR hroom dg kx kk
theorem q_wi3 (hX : q_KX K) (C : q_Cx (q_Kw K 0) cc own dd n0) (C1 : q_Cx (q_Kw K 6) cc own dd n0) {y : MethodName} {cd : Cond} {d k0 maxL ci : Nat} {bytes : ByteArray} {ret : Option FieldType} {a1 a2 a3 : Value} {rest : List Value} {o : Int32 ⊕ String} {S2 : q_St} {fs : List (Option Nat)} (hM : q_Fx l y cd d 6 (.ref k0 :: [a1, a2, a3]) S (o, S2)) (hy : q_my y cd bytes maxL ret 3 ci) (hlk : Cond.methodLink own idx y ∈ q_WS) (hk0 : q_sh[k0]? = some (.inr (ci, fs))) (hR : d + 1 ≤ dd ∧ maxL ≤ 21) (hroom : (rest.map Value.category).sum ≤ 8) (dg : decode cc pc = .ok (.invokevirtual idx, 3)) (kx : ∀ E, o = .inr E → q_XC (q_Kw K 6) l pc lv E S2) (kk : ∀ v, o = .inl v → q_V l (q_Kw K 6) (pc + 3) lv (.int v :: rest) S2) : q_V l (q_Kw K 0) pc lv (a3 :: a2 :: a1 :: .ref k0 :: rest) S := q_wi hX C C1 hM hy hlk rfl hk0 hR hroom dg kx kk
set_option maxHeartbeats 1000000 in
theorem q_wf (hX : q_KX K) (C : q_Cx (q_Kw K 0) cc own dd n0) (C1 : q_Cx (q_Kw K 6) cc own dd n0) {y : MethodName} {cd : Cond} {d k0 maxL ci n : Nat} {bytes : ByteArray} {ret : Option FieldType} {As rest : List Value} {o : UInt32 ⊕ String} {S2 : q_St} {fs : List (Option Nat)} (hM : q_Fxf l y cd d 6 (.ref k0 :: As) S (o, S2)) (hy : q_my y cd bytes maxL ret n ci) (hlk : Cond.methodLink own idx y ∈ q_WS) (hn : As.length = n) (hk0 : q_sh[k0]? = some (.inr (ci, fs))) (hR : d + 1 ≤ dd ∧ maxL ≤ 21) (hroom : (rest.map Value.category).sum ≤ 8) (dg : decode cc pc = .ok (.invokevirtual idx, 3)) (kx : ∀ E, o = .inr E → q_XC (q_Kw K 6) l pc lv E S2) (kk : ∀ v, o = .inl v → q_V l (q_Kw K 6) (pc + 3) lv (.float v :: rest) S2) : q_V l (q_Kw K 0) pc lv (As.reverse ++ .ref k0 :: rest) S := by
  obtain ⟨p, e, R, s, m, args, below, meth, c, cells, slots, Q, D, cy, ad, A, nL, L⟩ := K
  obtain ⟨hx, hb, hml, hnl, hown, hts, hK, hi, hA1, hA2, hf1, hf2, hc1, hc2, hE⟩ := C
  obtain ⟨-, -, -, -, -, -, -, -, -, -, -, -, hc3, hc4, -⟩ := C1
  obtain ⟨y1, y2, y3, y4, ⟨T, N, y5⟩, y6, y7, y8, y9⟩ := hy
  intro H locs ls hP hS hl
  have hF := q_free (ad := ad) hS hA1 hA2
  have hn2 : (As.map (q_gv ad)).length = n := by rw [List.length_map]; exact hn
  refine vx_callf (mc := 6) (ms := 6 * 6) (vx_runV (As := As.map (q_gv ad)) (rest := rest.map (q_gv ad)) ⟨hx, hb, hml, hown, hts⟩ (hM D cy ad H.size L) (cwV n hts (q_goodV hlk y6 y7 y8 y9) (congrArg (fun z => z :: q_WS) y1) rfl rfl ⟨rfl, y2, y3, y4⟩ ⟨Nat.le_trans hR.1 hf1, ?_⟩) ⟨q_Px_blind _ _ _ _ _ _ _, va_recv hK hP y5 (q_wl_get hk0), fun U hU hW => ⟨⟨rfl, by rw [hU], by rw [hU]; exact hP, va_K.moved hW.alike hK, hi, by rw [hU]; exact q_E.go hE hS.2.1 hF hW⟩, q_EX.go hX hW⟩⟩ rfl hn2 hl.1 ?_ ?_ dg ⟨by omega, by omega⟩) hS (fun q _ h => hF q h) hF (fun q _ h => hF q h) (fun E ce q9 u t H1 locs1 ht hvm hpx hB hz1 hk1 hS1 hce hcv hcl => ?_) (fun r u t H1 locs1 ht hvm hw hB hz1 hk1 hS1 => ?_)
  · have h9 : (q_rmX d 6).locals = 40 * d := rfl
    rw [h9]
    have h8 := hR.1
    have h7 := hR.2
    omega
  · show (As.reverse ++ .ref k0 :: rest).map (q_gv ad) = _
    rw [List.map_append, List.map_reverse]
    rfl
  · refine lv_room ?_
    rw [q_cats]
    exact hroom
  · have hpx' : u = S2 := hpx
    subst hpx'
    exact kx E hB.1 H1 locs1 ce q9 ls (rest.map (q_gv ad)) (by rw [← ht]; exact hB.2) hS1 hl hce hcv hcl
  · have hw1 : o = .inl r := congrArg Prod.fst hw
    have hw2 : S2 = u := congrArg Prod.snd hw
    subst hw2
    exact kk r hw1 H1 locs1 ls (by rw [← ht]; exact hB) hS1 hl
theorem q_wf0 (hX : q_KX K) (C : q_Cx (q_Kw K 0) cc own dd n0) (C1 : q_Cx (q_Kw K 6) cc own dd n0) {y : MethodName} {cd : Cond} {d k0 maxL ci : Nat} {bytes : ByteArray} {ret : Option FieldType} {rest : List Value} {o : UInt32 ⊕ String} {S2 : q_St} {fs : List (Option Nat)} (hM : q_Fxf l y cd d 6 (.ref k0 :: []) S (o, S2)) (hy : q_my y cd bytes maxL ret 0 ci) (hlk : Cond.methodLink own idx y ∈ q_WS) (hk0 : q_sh[k0]? = some (.inr (ci, fs))) (hR : d + 1 ≤ dd ∧ maxL ≤ 21) (hroom : (rest.map Value.category).sum ≤ 8) (dg : decode cc pc = .ok (.invokevirtual idx, 3)) (kx : ∀ E, o = .inr E → q_XC (q_Kw K 6) l pc lv E S2) (kk : ∀ v, o = .inl v → q_V l (q_Kw K 6) (pc + 3) lv (.float v :: rest) S2) : q_V l (q_Kw K 0) pc lv (.ref k0 :: rest) S := q_wf hX C C1 hM hy hlk rfl hk0 hR hroom dg kx kk
theorem q_wf1 (hX : q_KX K) (C : q_Cx (q_Kw K 0) cc own dd n0) (C1 : q_Cx (q_Kw K 6) cc own dd n0) {y : MethodName} {cd : Cond} {d k0 maxL ci : Nat} {bytes : ByteArray} {ret : Option FieldType} {a1 : Value} {rest : List Value} {o : UInt32 ⊕ String} {S2 : q_St} {fs : List (Option Nat)} (hM : q_Fxf l y cd d 6 (.ref k0 :: [a1]) S (o, S2)) (hy : q_my y cd bytes maxL ret 1 ci) (hlk : Cond.methodLink own idx y ∈ q_WS) (hk0 : q_sh[k0]? = some (.inr (ci, fs))) (hR : d + 1 ≤ dd ∧ maxL ≤ 21) (hroom : (rest.map Value.category).sum ≤ 8) (dg : decode cc pc = .ok (.invokevirtual idx, 3)) (kx : ∀ E, o = .inr E → q_XC (q_Kw K 6) l pc lv E S2) (kk : ∀ v, o = .inl v → q_V l (q_Kw K 6) (pc + 3) lv (.float v :: rest) S2) : q_V l (q_Kw K 0) pc lv (a1 :: .ref k0 :: rest) S := q_wf hX C C1 hM hy hlk rfl hk0 hR hroom dg kx kk
theorem q_wf2 (hX : q_KX K) (C : q_Cx (q_Kw K 0) cc own dd n0) (C1 : q_Cx (q_Kw K 6) cc own dd n0) {y : MethodName} {cd : Cond} {d k0 maxL ci : Nat} {bytes : ByteArray} {ret : Option FieldType} {a1 a2 : Value} {rest : List Value} {o : UInt32 ⊕ String} {S2 : q_St} {fs : List (Option Nat)} (hM : q_Fxf l y cd d 6 (.ref k0 :: [a1, a2]) S (o, S2)) (hy : q_my y cd bytes maxL ret 2 ci) (hlk : Cond.methodLink own idx y ∈ q_WS) (hk0 : q_sh[k0]? = some (.inr (ci, fs))) (hR : d + 1 ≤ dd ∧ maxL ≤ 21) (hroom : (rest.map Value.category).sum ≤ 8) (dg : decode cc pc = .ok (.invokevirtual idx, 3)) (kx : ∀ E, o = .inr E → q_XC (q_Kw K 6) l pc lv E S2) (kk : ∀ v, o = .inl v → q_V l (q_Kw K 6) (pc + 3) lv (.float v :: rest) S2) : q_V l (q_Kw K 0) pc lv (a2 :: a1 :: .ref k0 :: rest) S := q_wf hX C C1 hM hy hlk rfl hk0 hR hroom dg kx kk
theorem q_wf3 (hX : q_KX K) (C : q_Cx (q_Kw K 0) cc own dd n0) (C1 : q_Cx (q_Kw K 6) cc own dd n0) {y : MethodName} {cd : Cond} {d k0 maxL ci : Nat} {bytes : ByteArray} {ret : Option FieldType} {a1 a2 a3 : Value} {rest : List Value} {o : UInt32 ⊕ String} {S2 : q_St} {fs : List (Option Nat)} (hM : q_Fxf l y cd d 6 (.ref k0 :: [a1, a2, a3]) S (o, S2)) (hy : q_my y cd bytes maxL ret 3 ci) (hlk : Cond.methodLink own idx y ∈ q_WS) (hk0 : q_sh[k0]? = some (.inr (ci, fs))) (hR : d + 1 ≤ dd ∧ maxL ≤ 21) (hroom : (rest.map Value.category).sum ≤ 8) (dg : decode cc pc = .ok (.invokevirtual idx, 3)) (kx : ∀ E, o = .inr E → q_XC (q_Kw K 6) l pc lv E S2) (kk : ∀ v, o = .inl v → q_V l (q_Kw K 6) (pc + 3) lv (.float v :: rest) S2) : q_V l (q_Kw K 0) pc lv (a3 :: a2 :: a1 :: .ref k0 :: rest) S := q_wf hX C C1 hM hy hlk rfl hk0 hR hroom dg kx kk
theorem q_catch_n (C : q_Cx K cc own dd n0) (hX : q_KX K) {tb : List ExceptionTableEntry} {E : String} (hT : q_KT K tb) (pre : List ExceptionTableEntry) (x : ExceptionTableEntry) (suf : List ExceptionTableEntry) (hsplit : tb = pre ++ x :: suf) (hpass : ∀ z ∈ pre, z.catchType ≠ 0 ∧ ∃ nm : String, Cond.classLink own z.catchType nm ∈ q_WS ∧ (E, nm) ∈ q_ncs) (hx9 : covers x pc = true) (h0 : x.catchType ≠ 0) (hlk : Cond.classLink own x.catchType E ∈ q_WS) (hca : Cond.castable E E ∈ q_nws) {f : Fin 4} {i : Nat} (d : decode cc x.handlerPc = .ok (.astore_n f, 1)) (hi9 : (f : Nat) = i) (hn : i < n0) (k : q_V l K (x.handlerPc + 1) [] [] S) : q_XC K l pc lv E S := by
  obtain ⟨p, e, R, s, m, args, below, meth, c, cells, slots, Q, D, cy, ad, A, nL, L⟩ := K
  obtain ⟨hx, hb, hml, hnl, hown, hts, hK, hi, hA1, hA2, hf1, hf2, hc1, hc2, hE⟩ := C
  intro H locs ce q ls rest hP hS hl hq hv9 hcl
  subst hnl
  have hEE := hE.2.2.2.2.2.2
  refine vx_catch hown pre x suf (by show c.exceptionTable.toList = _; rw [show c.exceptionTable.toList = tb from hT]; exact hsplit) (fun z hz => ?_) hx9 h0 (hts _ hlk) (q_EX.word hX hca) hq hv9 hcl ?_
  · obtain ⟨h1, nm, h2, h3⟩ := hpass z hz
    exact Or.inr ⟨h1, nm, hts _ h2, hEE _ h3⟩
  · exact lv_astore_n hx hb d hi9 hl hn rfl (fun ls' hl' => k H locs ls' hP hS ⟨hl'.1, hl'.2.1, fun q hq => nomatch hq⟩)
theorem q_catch (C : q_Cx K cc own dd n0) (hX : q_KX K) {tb : List ExceptionTableEntry} {E : String} (hT : q_KT K tb) (pre : List ExceptionTableEntry) (x : ExceptionTableEntry) (suf : List ExceptionTableEntry) (hsplit : tb = pre ++ x :: suf) (hpass : ∀ z ∈ pre, z.catchType ≠ 0 ∧ ∃ nm : String, Cond.classLink own z.catchType nm ∈ q_WS ∧ (E, nm) ∈ q_ncs) (hx9 : covers x pc = true) (h0 : x.catchType ≠ 0) (hlk : Cond.classLink own x.catchType E ∈ q_WS) (hca : Cond.castable E E ∈ q_nws) {i : Nat} (d : decode cc x.handlerPc = .ok (.astore i, 2)) (hn : i < n0) (k : q_V l K (x.handlerPc + 2) [] [] S) : q_XC K l pc lv E S := by
  obtain ⟨p, e, R, s, m, args, below, meth, c, cells, slots, Q, D, cy, ad, A, nL, L⟩ := K
  obtain ⟨hx, hb, hml, hnl, hown, hts, hK, hi, hA1, hA2, hf1, hf2, hc1, hc2, hE⟩ := C
  intro H locs ce q ls rest hP hS hl hq hv9 hcl
  subst hnl
  have hEE := hE.2.2.2.2.2.2
  refine vx_catch hown pre x suf (by show c.exceptionTable.toList = _; rw [show c.exceptionTable.toList = tb from hT]; exact hsplit) (fun z hz => ?_) hx9 h0 (hts _ hlk) (q_EX.word hX hca) hq hv9 hcl ?_
  · obtain ⟨h1, nm, h2, h3⟩ := hpass z hz
    exact Or.inr ⟨h1, nm, hts _ h2, hEE _ h3⟩
  · exact lv_astore hx hb d hl hn rfl (fun ls' hl' => k H locs ls' hP hS ⟨hl'.1, hl'.2.1, fun q hq => nomatch hq⟩)
end QW
def q_Fw (l : Launch) (y : MethodName) (cd : Cond) (avs : List Value) (S : q_St) (r : Int32 × q_St × (q_L → q_L)) : Prop := ∀ (D : va_G) (cy : Nat → ClassId) (ad : Nat → Nat) (sz : Nat) (L : q_L), Met l y (cd :: q_WS) (q_rmX 9 6) (q_Px avs S D cy ad sz L) (va_Qi (fun (v : Int32) (u : q_St × q_L) => r.1 = v ∧ u = (r.2.1, r.2.2 L)) (fun u t => va_P D q_cl (q_wl cy ad u.2 u.1) t.heap) (q_A ad sz)) 6 (6 * 6) (q_A ad sz)
set_option maxHeartbeats 1000000 in
theorem q_Fw_of {l : Launch} {y : MethodName} {cd : Cond} {cc : ByteArray} {maxL : Nat} {hh : List (Nat × Nat × Nat × Nat)} {avs : List Value} {S : q_St} {r : Int32 × q_St × (q_L → q_L)} (hcd : cd = .codeWith y cc maxL (some .int) hh) (hy : plainName y.cls = true) (hlen : ∀ ad : Nat → Nat, (lg_sl (avs.map (q_gv ad))).length ≤ maxL)
    (body : ∀ K : q_K, q_KX (q_Kw K 6) → q_KX K → (∀ a, a ≤ 6 → q_Cx (q_Kw K a) cc y.cls 9 maxL) → q_KT (q_Kw K 6) (tableOf hh) → (∀ (g : q_L → q_L) (pc : Nat) (lv : List (Nat × Value)) (v : Int32) (S' : q_St), decode cc pc = .ok (.ireturn, 1) → r.1 = v → r.2.1 = S' → r.2.2 = g → q_V l (q_KM (q_Kw K 6) g) pc lv [.int v] S') → q_V l (q_Kw K 0) 0 (lv_args 0 avs) [] S) : q_Fw l y cd avs S r := by
  intro D cy ad sz L
  subst hcd
  refine va_MetW (cc := cc) (maxL := maxL) (ret := (some .int)) (hh := hh) hy rfl ?_
  intro p e s m args below meth c s₁ B hml hv
  obtain ⟨⟨rfl, hsz, hP, hK, hi, hE⟩, hEX⟩ := hv
  subst hsz
  have hts0 := atoms_spec (ws := Cond.codeWith y cc maxL (some .int) hh :: q_WS) B.pre
  have hts : ∀ w ∈ q_WS, w.before (avs.map (q_gv ad)).toArray s = true := fun w h => hts0 w (List.mem_cons_of_mem _ h)
  have htab := vx_table (x := y) B (hts0 _ List.mem_cons_self)
  have hown : s.vm.findClass y.cls = some m.cls := findClass_of_methodNamed B.named
  have hlocks := B.notSynchronized
  have hl := lv_entry (avs.map (q_gv ad)) (n := maxL) (hlen ad)
  rw [lg_entry_eq]
  generalize (lg_sl (avs.map (q_gv ad)) ++ List.replicate (maxL - (lg_sl (avs.map (q_gv ad))).length) Slot.unset).toArray = ls at hl ⊢
  rw [q_args] at hl
  refine body (p, e, (headSpec (Cond.codeWith y cc maxL (some .int) hh :: q_WS) (q_rmX 9 6)).room, s, m, (avs.map (q_gv ad)).toArray, below, meth, c, 0, 0, MQ below (va_Qi (fun (v : Int32) (u : q_St × q_L) => r.1 = v ∧ u = (r.2.1, r.2.2 L)) (fun u t => va_P D q_cl (q_wl cy ad u.2 u.1) t.heap) (q_A ad s.heap.size)) (avs.map (q_gv ad)).toArray s 6 (6 * 6) (q_A ad s.heap.size), D, cy, ad, q_A ad s.heap.size, maxL, L) hEX hEX (fun a ha => ⟨B.exec, B.bytes, hml, rfl, hown, hts, hK, hi, fun k hk => Or.inl ⟨k, hk, rfl⟩, fun q h => Or.inr h, Nat.le_refl _, Nat.le_refl _, by show 0 + a ≤ 6; omega, by show 0 + 6 * a ≤ 6 * 6; omega, hE⟩) htab ?_ s.heap [] ls hP va_S.rf hl
  intro g pc lv v S' hd h1 h2 h3 H locs ls hP hS hl
  subst h1; subst h2; subst h3
  exact W.widen (by omega) (by omega) (W.zret B.exec B.bytes B.returns rfl (fun t ht hW => ⟨⟨_, (_, _), rfl, ⟨rfl, rfl⟩, by show va_P D q_cl (q_wl cy ad (r.2.2 L) r.2.1) t.heap; rw [ht]; exact hP⟩, hS.F ht⟩) hS.2.2 hd hlocks)
def uWc : List String → String → Int32
  | [], _ => 1
  | a :: r, E => if E = a then 1 else uWc r E + 1
/-- what a wrapper answers, what it leaves -/
def uW (hs : List String) (o : (Int32 ⊕ String) × q_St) : Int32 × q_St × (q_L → q_L) := match o.1 with
  | .inl v => (0, o.2, fun L => (vp_updL L.1 0 v.toInt64, L.2))
  | .inr E => (uWc hs E, o.2, fun L => L)
def uWf (hs : List String) (o : (UInt32 ⊕ String) × q_St) : Int32 × q_St × (q_L → q_L) := match o.1 with
  | .inl v => (0, o.2, fun L => (L.1, vf_upd L.2 0 (FP.f2d v)))
  | .inr E => (uWc hs E, o.2, fun L => L)
theorem wk_Un : Cond.classLink RL 13 xEUn ∈ q_WS := q_in 429 (by decide +kernel) rfl
theorem wk_Ns : Cond.classLink RL 19 xENs ∈ q_WS := q_in 533 (by decide +kernel) rfl
theorem wk_Ia : Cond.classLink RL 21 xEIa ∈ q_WS := q_in 534 (by decide +kernel) rfl
theorem wk_Io : Cond.classLink RL 30 xEIo ∈ q_WS := q_in 632 (by decide +kernel) rfl
theorem wk_Is : Cond.classLink RL 58 xEIs ∈ q_WS := q_in 821 (by decide +kernel) rfl
theorem wk_Ar : Cond.classLink RL 107 xEAr ∈ q_WS := q_in 1216 (by decide +kernel) rfl
theorem wc_Un : Cond.castable xEUn xEUn ∈ q_nws := List.mem_filter.mpr ⟨List.mem_of_getElem? (i := 448) (by decide +kernel), rfl⟩
theorem wc_Ns : Cond.castable xENs xENs ∈ q_nws := List.mem_filter.mpr ⟨List.mem_of_getElem? (i := 549) (by decide +kernel), rfl⟩
theorem wc_Ia : Cond.castable xEIa xEIa ∈ q_nws := List.mem_filter.mpr ⟨List.mem_of_getElem? (i := 574) (by decide +kernel), rfl⟩
theorem wc_Io : Cond.castable xEIo xEIo ∈ q_nws := List.mem_filter.mpr ⟨List.mem_of_getElem? (i := 666) (by decide +kernel), rfl⟩
theorem wc_Is : Cond.castable xEIs xEIs ∈ q_nws := List.mem_filter.mpr ⟨List.mem_of_getElem? (i := 829) (by decide +kernel), rfl⟩
theorem wc_Ar : Cond.castable xEAr xEAr ∈ q_nws := List.mem_filter.mpr ⟨List.mem_of_getElem? (i := 1228) (by decide +kernel), rfl⟩
