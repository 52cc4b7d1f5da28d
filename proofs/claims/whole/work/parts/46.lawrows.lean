
/-! the law's own rows -/
def q_KL (K : q_K) (L : q_L) (a : Nat) : q_K := match K with
  | (p, e, R, s, m, args, below, meth, c, cells, slots, Q, D, cy, ad, A, nL, _) => (p, e, R, s, m, args, below, meth, c, cells + a, slots + 6 * a, Q, D, cy, ad, A, nL, L)
def q_KS (K : q_K) (b n : Nat) (xs : Nat → Int32) : Prop := match K with
  | (p, e, R, s, m, args, below, meth, c, cells, slots, Q, D, cy, ad, A, nL, L) => va_X b n xs s s.heap ∧ b < s.heap.size ∧ ¬ A b ∧ ad 300 = b
def q_lf2 (i : Nat) (l : List (Nat × Value)) : List (Nat × Value) := l.filter (fun q => !(q.1 == i) && (!(q.1 == i + 1) && !(q.1 + 1 == i && q.2.category == 2)))
theorem q_ml_lf2 (ad : Nat → Nat) (i : Nat) : ∀ l : List (Nat × Value), (q_ml ad l).filter (fun q => !(q.1 == i) && (!(q.1 == i + 1) && !(q.1 + 1 == i && q.2.category == 2))) = q_ml ad (q_lf2 i l) := by
  intro l
  unfold q_ml q_lf2
  rw [List.filter_map]
  congr 1
  apply List.filter_congr
  intro q _
  simp [q_gv_cat]
theorem lg_cmp_self (x : Int64) : lg_cmp x x = 0 := by
  unfold lg_cmp
  simp
section QLW
variable {l : Launch} {K : q_K} {cc : ByteArray} {own : String} {dd n0 pc idx : Nat} {lv : List (Nat × Value)} {st : List Value} {S : q_St}
theorem q_sld (C : q_Cx K cc own dd n0) {b n j : Nat} {xs : Nat → Int32} {ix : Int32} (hKS : q_KS K b n xs) (hix : ix = nI j) (hj : j < n) (hn : n < 2 ^ 31) (d : decode cc pc = .ok (.iaload, 1)) (k : q_V l K (pc + 1) lv (.int (xs j) :: st) S) : q_V l K pc lv (.int ix :: .ref 300 :: st) S := by
  obtain ⟨p, e, R, s, m, args, below, meth, c, cells, slots, Q, D, cy, ad, A, nL, L⟩ := K
  obtain ⟨hx, hb, hml, hnl, hown, hts, hK, hi, hA1, hA2, hf1, hf2, hc1, hc2, hE⟩ := C
  obtain ⟨hX, hb1, hb2, hb3⟩ := hKS
  intro H locs ls hP hS hl
  subst hix
  show W p l e R s m args below meth c H locs cells slots Q (F0 m pc ls (.int (nI j) :: .ref (ad 300) :: st.map (q_gv ad)))
  rw [hb3]
  refine va_sld hx hb hX hb1 hb2 hS (vp_in_nI hj hn) d ?_
  rw [nI_clamp (Nat.lt_trans hj hn)]
  exact k H locs ls hP hS hl
theorem q_slen (C : q_Cx K cc own dd n0) {b n : Nat} {xs : Nat → Int32} (hKS : q_KS K b n xs) (d : decode cc pc = .ok (.arraylength, 1)) (k : q_V l K (pc + 1) lv (.int (nI n) :: st) S) : q_V l K pc lv (.ref 300 :: st) S := by
  obtain ⟨p, e, R, s, m, args, below, meth, c, cells, slots, Q, D, cy, ad, A, nL, L⟩ := K
  obtain ⟨hx, hb, hml, hnl, hown, hts, hK, hi, hA1, hA2, hf1, hf2, hc1, hc2, hE⟩ := C
  obtain ⟨hX, hb1, hb2, hb3⟩ := hKS
  intro H locs ls hP hS hl
  show W p l e R s m args below meth c H locs cells slots Q (F0 m pc ls (.ref (ad 300) :: st.map (q_gv ad)))
  rw [hb3]
  exact va_slen hx hb hX hb1 hb2 hS d (k H locs ls hP hS hl)
theorem q_lcmpE (C : q_Cx K cc own dd n0) {x y : Int64} (h : x = y) (d : decode cc pc = .ok (.lcmp, 1)) (k : q_V l K (pc + 1) lv (.int 0 :: st) S) : q_V l K pc lv (.long y :: .long x :: st) S := by
  obtain ⟨p, e, R, s, m, args, below, meth, c, cells, slots, Q, D, cy, ad, A, nL, L⟩ := K
  obtain ⟨hx, hb, hml, hnl, hown, hts, hK, hi, hA1, hA2, hf1, hf2, hc1, hc2, hE⟩ := C
  intro H locs ls hP hS hl
  subst h
  exact W.lcmp hx hb d (by rw [lg_cmp_self]; exact k H locs ls hP hS hl)
theorem q_dcmpE (C : q_Cx K cc own dd n0) {x y : UInt64} {op : CmpOp} (h : x = y) (hne : FP.Core.dIsNaN x = false) (d : decode cc pc = .ok (.dcmp op, 1)) (k : q_V l K (pc + 1) lv (.int 0 :: st) S) : q_V l K pc lv (.double y :: .double x :: st) S := by
  obtain ⟨p, e, R, s, m, args, below, meth, c, cells, slots, Q, D, cy, ad, A, nL, L⟩ := K
  obtain ⟨hx, hb, hml, hnl, hown, hts, hK, hi, hA1, hA2, hf1, hf2, hc1, hc2, hE⟩ := C
  intro H locs ls hP hS hl
  subst h
  have e9 : FP.dcmp x x = some .eq := FP.Core.dcmp_self ((FP.Core.notNaN_iff x).mp hne)
  exact lv_dcmp hx hb d (by rw [e9]; exact k H locs ls hP hS hl)
theorem q_dstore (C : q_Cx K cc own dd n0) {i : Nat} {x : UInt64} {lv' : List (Nat × Value)} (d : decode cc pc = .ok (.dstore i, 2)) (hn : i + 1 < n0) (hlv : (i, Value.double x) :: q_lf2 i lv = lv') (k : q_V l K (pc + 2) lv' st S) : q_V l K pc lv (.double x :: st) S := by
  obtain ⟨p, e, R, s, m, args, below, meth, c, cells, slots, Q, D, cy, ad, A, nL, L⟩ := K
  obtain ⟨hx, hb, hml, hnl, hown, hts, hK, hi, hA1, hA2, hf1, hf2, hc1, hc2, hE⟩ := C
  intro H locs ls hP hS hl
  subst hlv; subst hnl
  exact lv_dstore hx hb d hl hn rfl (fun ls' hl' => k H locs ls' hP hS (by rw [q_ml_lf2] at hl'; exact hl'))
theorem q_fstore (C : q_Cx K cc own dd n0) {i : Nat} {x : UInt32} {lv' : List (Nat × Value)} (d : decode cc pc = .ok (.fstore i, 2)) (hn : i < n0) (hlv : (i, Value.float x) :: q_lf i lv = lv') (k : q_V l K (pc + 2) lv' st S) : q_V l K pc lv (.float x :: st) S := by
  obtain ⟨p, e, R, s, m, args, below, meth, c, cells, slots, Q, D, cy, ad, A, nL, L⟩ := K
  obtain ⟨hx, hb, hml, hnl, hown, hts, hK, hi, hA1, hA2, hf1, hf2, hc1, hc2, hE⟩ := C
  intro H locs ls hP hS hl
  subst hlv; subst hnl
  exact lv_fstore hx hb d hl hn rfl (fun ls' hl' => k H locs ls' hP hS (by rw [q_ml_lf] at hl'; exact hl'))
theorem q_dload (C : q_Cx K cc own dd n0) {i : Nat} {x : UInt64} (d : decode cc pc = .ok (.dload i, 2)) (hk : q_lk i lv = some (.double x)) (k : q_V l K (pc + 2) lv (.double x :: st) S) : q_V l K pc lv st S := by
  obtain ⟨p, e, R, s, m, args, below, meth, c, cells, slots, Q, D, cy, ad, A, nL, L⟩ := K
  obtain ⟨hx, hb, hml, hnl, hown, hts, hK, hi, hA1, hA2, hf1, hf2, hc1, hc2, hE⟩ := C
  intro H locs ls hP hS hl
  exact lv_dload hx hb d (q_has hl hk) (k H locs ls hP hS hl)
theorem q_fload (C : q_Cx K cc own dd n0) {i : Nat} {x : UInt32} (d : decode cc pc = .ok (.fload i, 2)) (hk : q_lk i lv = some (.float x)) (k : q_V l K (pc + 2) lv (.float x :: st) S) : q_V l K pc lv st S := by
  obtain ⟨p, e, R, s, m, args, below, meth, c, cells, slots, Q, D, cy, ad, A, nL, L⟩ := K
  obtain ⟨hx, hb, hml, hnl, hown, hts, hK, hi, hA1, hA2, hf1, hf2, hc1, hc2, hE⟩ := C
  intro H locs ls hP hS hl
  exact lv_fload hx hb d (q_has hl hk) (k H locs ls hP hS hl)
theorem q_lald {L0 : q_L} {a0 : Nat} (C : q_Cx (q_KL K L0 a0) cc own dd n0) (d : decode cc pc = .ok (.laload, 1)) (k : q_V l (q_KL K L0 a0) (pc + 1) lv (.long (L0.1 0) :: st) S) : q_V l (q_KL K L0 a0) pc lv (.int 0 :: .ref 120 :: st) S := by
  obtain ⟨p, e, R, s, m, args, below, meth, c, cells, slots, Q, D, cy, ad, A, nL, L⟩ := K
  obtain ⟨hx, hb, hml, hnl, hown, hts, hK, hi, hA1, hA2, hf1, hf2, hc1, hc2, hE⟩ := C
  intro H locs ls hP hS hl
  exact va_lald hx hb hK hP 120 4 (q_wl_get q_s120) rfl (vp_in_nI (n := 0) (by decide) (by decide)) d (k H locs ls hP hS hl)
theorem q_dald {L0 : q_L} {a0 : Nat} (C : q_Cx (q_KL K L0 a0) cc own dd n0) (d : decode cc pc = .ok (.daload, 1)) (k : q_V l (q_KL K L0 a0) (pc + 1) lv (.double (L0.2 0) :: st) S) : q_V l (q_KL K L0 a0) pc lv (.int 0 :: .ref 121 :: st) S := by
  obtain ⟨p, e, R, s, m, args, below, meth, c, cells, slots, Q, D, cy, ad, A, nL, L⟩ := K
  obtain ⟨hx, hb, hml, hnl, hown, hts, hK, hi, hA1, hA2, hf1, hf2, hc1, hc2, hE⟩ := C
  intro H locs ls hP hS hl
  exact va_dald hx hb hK hP 121 5 (q_wl_get q_s121) rfl (vp_in_nI (n := 0) (by decide) (by decide)) d (k H locs ls hP hS hl)
theorem q_KLw {L0 : q_L} {a0 a1 : Nat} (h : a0 ≤ a1) (k : q_V l (q_KL K L0 a1) pc lv st S) : q_V l (q_KL K L0 a0) pc lv st S := by
  obtain ⟨p, e, R, s, m, args, below, meth, c, cells, slots, Q, D, cy, ad, A, nL, L⟩ := K
  intro H locs ls hP hS hl
  exact W.widen (by omega) (by omega) (k H locs ls hP hS hl)
theorem q_goodSW {own : String} {idx : Nat} {y : MethodName} {cd : Cond} (h1 : Cond.methodLink own idx y ∈ q_WS) (h2 : Cond.static y ∈ q_WS) (h4 : Cond.initialized y.cls ∈ q_WS) (h5 : cd ∈ q_WS) : GoodIn q_WS (va_wsS own idx y (cd :: q_WS)) := by
  intro w hw
  have hm : w ∈ q_WS := by
    unfold va_wsS at hw
    simp only [List.mem_append, List.mem_cons, List.not_mem_nil, or_false] at hw
    rcases hw with (rfl | rfl | rfl) | (rfl | h) <;> assumption
  exact ⟨hm, good_of_word (q_WS_good w hm)⟩
def q_mw (y : MethodName) (cd : Cond) (bytes : ByteArray) (maxL : Nat) (hh : List (Nat × Nat × Nat × Nat)) (n : Nat) : Prop := cd = .codeWith y bytes maxL (some .int) hh ∧ y.cls ≠ "java/lang/invoke/MethodHandle" ∧ y.cls ≠ "java/lang/invoke/VarHandle" ∧ (parseMethodDescriptor y.desc).map (fun d => d.parameters.length) = some n ∧ Cond.static y ∈ q_WS ∧ Cond.initialized y.cls ∈ q_WS ∧ cd ∈ q_WS
set_option maxHeartbeats 1000000 in
theorem q_lwi {L0 : q_L} {a0 : Nat} (hX : q_KX (q_KL K L0 a0)) (C : q_Cx (q_KL K L0 a0) cc own dd n0) (C1 : q_Cx (q_KL K L0 (a0 + 6)) cc own dd n0) {y : MethodName} {cd : Cond} {maxL n : Nat} {bytes : ByteArray} {hh : List (Nat × Nat × Nat × Nat)} {As rest : List Value} {r : Int32 × q_St × (q_L → q_L)} (hM : q_Fw l y cd As S r) (hy : q_mw y cd bytes maxL hh n) (hlk : Cond.methodLink own idx y ∈ q_WS) (hn : As.length = n) (hR : 10 ≤ dd ∧ maxL ≤ 21) (hroom : (rest.map Value.category).sum ≤ 8) (dg : decode cc pc = .ok (.invokestatic idx, 3)) (kk : q_V l (q_KL K (r.2.2 L0) (a0 + 6)) (pc + 3) lv (.int r.1 :: rest) r.2.1) : q_V l (q_KL K L0 a0) pc lv (As.reverse ++ rest) S := by
  obtain ⟨p, e, R, s, m, args, below, meth, c, cells, slots, Q, D, cy, ad, A, nL, L⟩ := K
  obtain ⟨hx, hb, hml, hnl, hown, hts, hK, hi, hA1, hA2, hf1, hf2, hc1, hc2, hE⟩ := C
  obtain ⟨-, -, -, -, -, -, -, -, -, -, -, -, hc3, hc4, -⟩ := C1
  obtain ⟨y1, y2, y3, y4, y6, y8, y9⟩ := hy
  intro H locs ls hP hS hl
  have hF := q_free (ad := ad) hS hA1 hA2
  have hn2 : (As.map (q_gv ad)).length = n := by rw [List.length_map]; exact hn
  have e1 : cells + a0 + 6 = cells + (a0 + 6) := by omega
  have e2 : slots + 6 * a0 + 6 * 6 = slots + 6 * (a0 + 6) := by omega
  refine va_calli (mc := 6) (ms := 6 * 6) (vx_runSW (As := As.map (q_gv ad)) (rest := rest.map (q_gv ad)) ⟨hx, hb, hml, hown, hts⟩ (hM D cy ad H.size L0) (vx_cwSW n hts (q_goodSW hlk y6 y8 y9) (congrArg (fun z => z :: q_WS) y1) rfl rfl ⟨y2, y3, y4⟩ ⟨Nat.le_trans hR.1 hf1, ?_⟩) ⟨q_Px_blind _ _ _ _ _ _ _, fun U hU hW => ⟨⟨rfl, by rw [hU], by rw [hU]; exact hP, va_K.moved hW.alike hK, hi, by rw [hU]; exact q_E.go hE hS.2.1 hF hW⟩, q_EX.go hX hW⟩⟩ rfl hn2 hl.1 ?_ ?_ dg ⟨by omega, by omega⟩) hS (fun q _ h => hF q h) hF (fun v u t H1 locs1 ht hvm hw hB hz1 hk1 hS1 => ?_)
  · have h9 : (q_rmX 9 6).locals = 40 * 9 := rfl
    rw [h9]
    have h8 := hR.1
    have h7 := hR.2
    omega
  · show (As.reverse ++ rest).map (q_gv ad) = _
    rw [List.map_append, List.map_reverse]
  · refine lv_room ?_
    rw [q_cats]
    exact hroom
  · rw [e1, e2]
    obtain ⟨rfl, rfl⟩ := hw
    exact kk H1 locs1 ls (by rw [← ht]; exact hB) hS1 hl
theorem q_lwi2 {L0 : q_L} {a0 : Nat} (hX : q_KX (q_KL K L0 a0)) (C : q_Cx (q_KL K L0 a0) cc own dd n0) (C1 : q_Cx (q_KL K L0 (a0 + 6)) cc own dd n0) {y : MethodName} {cd : Cond} {maxL : Nat} {bytes : ByteArray} {hh : List (Nat × Nat × Nat × Nat)} {a1 a2 : Value} {rest : List Value} {r : Int32 × q_St × (q_L → q_L)} (hM : q_Fw l y cd [a1, a2] S r) (hy : q_mw y cd bytes maxL hh 2) (hlk : Cond.methodLink own idx y ∈ q_WS) (hR : 10 ≤ dd ∧ maxL ≤ 21) (hroom : (rest.map Value.category).sum ≤ 8) (dg : decode cc pc = .ok (.invokestatic idx, 3)) (kk : q_V l (q_KL K (r.2.2 L0) (a0 + 6)) (pc + 3) lv (.int r.1 :: rest) r.2.1) : q_V l (q_KL K L0 a0) pc lv (a2 :: a1 :: rest) S := q_lwi hX C C1 hM hy hlk rfl hR hroom dg kk
theorem q_lwi3 {L0 : q_L} {a0 : Nat} (hX : q_KX (q_KL K L0 a0)) (C : q_Cx (q_KL K L0 a0) cc own dd n0) (C1 : q_Cx (q_KL K L0 (a0 + 6)) cc own dd n0) {y : MethodName} {cd : Cond} {maxL : Nat} {bytes : ByteArray} {hh : List (Nat × Nat × Nat × Nat)} {a1 a2 a3 : Value} {rest : List Value} {r : Int32 × q_St × (q_L → q_L)} (hM : q_Fw l y cd [a1, a2, a3] S r) (hy : q_mw y cd bytes maxL hh 3) (hlk : Cond.methodLink own idx y ∈ q_WS) (hR : 10 ≤ dd ∧ maxL ≤ 21) (hroom : (rest.map Value.category).sum ≤ 8) (dg : decode cc pc = .ok (.invokestatic idx, 3)) (kk : q_V l (q_KL K (r.2.2 L0) (a0 + 6)) (pc + 3) lv (.int r.1 :: rest) r.2.1) : q_V l (q_KL K L0 a0) pc lv (a3 :: a2 :: a1 :: rest) S := q_lwi hX C C1 hM hy hlk rfl hR hroom dg kk
theorem q_lwi4 {L0 : q_L} {a0 : Nat} (hX : q_KX (q_KL K L0 a0)) (C : q_Cx (q_KL K L0 a0) cc own dd n0) (C1 : q_Cx (q_KL K L0 (a0 + 6)) cc own dd n0) {y : MethodName} {cd : Cond} {maxL : Nat} {bytes : ByteArray} {hh : List (Nat × Nat × Nat × Nat)} {a1 a2 a3 a4 : Value} {rest : List Value} {r : Int32 × q_St × (q_L → q_L)} (hM : q_Fw l y cd [a1, a2, a3, a4] S r) (hy : q_mw y cd bytes maxL hh 4) (hlk : Cond.methodLink own idx y ∈ q_WS) (hR : 10 ≤ dd ∧ maxL ≤ 21) (hroom : (rest.map Value.category).sum ≤ 8) (dg : decode cc pc = .ok (.invokestatic idx, 3)) (kk : q_V l (q_KL K (r.2.2 L0) (a0 + 6)) (pc + 3) lv (.int r.1 :: rest) r.2.1) : q_V l (q_KL K L0 a0) pc lv (a4 :: a3 :: a2 :: a1 :: rest) S := q_lwi hX C C1 hM hy hlk rfl hR hroom dg kk
theorem q_lwi5 {L0 : q_L} {a0 : Nat} (hX : q_KX (q_KL K L0 a0)) (C : q_Cx (q_KL K L0 a0) cc own dd n0) (C1 : q_Cx (q_KL K L0 (a0 + 6)) cc own dd n0) {y : MethodName} {cd : Cond} {maxL : Nat} {bytes : ByteArray} {hh : List (Nat × Nat × Nat × Nat)} {a1 a2 a3 a4 a5 : Value} {rest : List Value} {r : Int32 × q_St × (q_L → q_L)} (hM : q_Fw l y cd [a1, a2, a3, a4, a5] S r) (hy : q_mw y cd bytes maxL hh 5) (hlk : Cond.methodLink own idx y ∈ q_WS) (hR : 10 ≤ dd ∧ maxL ≤ 21) (hroom : (rest.map Value.category).sum ≤ 8) (dg : decode cc pc = .ok (.invokestatic idx, 3)) (kk : q_V l (q_KL K (r.2.2 L0) (a0 + 6)) (pc + 3) lv (.int r.1 :: rest) r.2.1) : q_V l (q_KL K L0 a0) pc lv (a5 :: a4 :: a3 :: a2 :: a1 :: rest) S := q_lwi hX C C1 hM hy hlk rfl hR hroom dg kk
set_option maxHeartbeats 1000000 in
theorem q_cd (C : q_Cx K cc own dd n0) {y : MethodName} {cd : Cond} {d k0 maxL ci n : Nat} {bytes : ByteArray} {ret : Option FieldType} {As rest : List Value} {S2 : q_St} {v : UInt64} {fs : List (Option Nat)} (hM : q_Fd l y cd d (.ref k0 :: As) S v S2) (hy : q_my y cd bytes maxL ret n ci) (hlk : Cond.methodLink own idx y ∈ q_WS) (hn : As.length = n) (hk0 : q_sh[k0]? = some (.inr (ci, fs))) (hR : d + 1 ≤ dd ∧ maxL ≤ 21) (hroom : (rest.map Value.category).sum ≤ 8) (dg : decode cc pc = .ok (.invokevirtual idx, 3)) (kk : q_V l K (pc + 3) lv (.double v :: rest) S2) : q_V l K pc lv (As.reverse ++ .ref k0 :: rest) S := by
  obtain ⟨p, e, R, s, m, args, below, meth, c, cells, slots, Q, D, cy, ad, A, nL, L⟩ := K
  obtain ⟨hx, hb, hml, hnl, hown, hts, hK, hi, hA1, hA2, hf1, hf2, hc1, hc2, hE⟩ := C
  obtain ⟨y1, y2, y3, y4, ⟨T, N, y5⟩, y6, y7, y8, y9⟩ := hy
  intro H locs ls hP hS hl
  have hF := q_free (ad := ad) hS hA1 hA2
  have hn2 : (As.map (q_gv ad)).length = n := by rw [List.length_map]; exact hn
  refine va_calld (va_runV (As := As.map (q_gv ad)) (rest := rest.map (q_gv ad)) ⟨hx, hb, hml, hown, hts⟩ (hM D cy ad H.size L) (cwV n hts (q_goodV hlk y6 y7 y8 y9) (congrArg (fun z => z :: q_WS) y1) rfl rfl ⟨rfl, y2, y3, y4⟩ ⟨Nat.le_trans hR.1 hf1, ?_⟩) ⟨q_Pc_blind _ _ _ _ _ _ _, va_recv hK hP y5 (q_wl_get hk0), fun U hU hW => ⟨rfl, by rw [hU], by rw [hU]; exact hP, va_K.moved hW.alike hK, hi, by rw [hU]; exact q_E.go hE hS.2.1 hF hW⟩⟩ rfl hn2 hl.1 ?_ ?_ dg ⟨hc1, hc2⟩) hS (fun q _ h => hF q h) hF (fun r u t H1 locs1 ht hvm hw hB hz1 hk1 hS1 => ?_)
  · have h9 : (q_rm d).locals = 40 * d := rfl
    rw [h9]
    have h8 := hR.1
    have h7 := hR.2
    omega
  · show (As.reverse ++ .ref k0 :: rest).map (q_gv ad) = _
    rw [List.map_append, List.map_reverse]
    rfl
  · refine lv_room ?_
    rw [q_cats]
    exact hroom
  · obtain ⟨rfl, rfl⟩ := hw
    exact kk H1 locs1 ls (by rw [← ht]; exact hB) hS1 hl
theorem q_cd0 (C : q_Cx K cc own dd n0) {y : MethodName} {cd : Cond} {d k0 maxL ci : Nat} {bytes : ByteArray} {ret : Option FieldType} {rest : List Value} {S2 : q_St} {v : UInt64} {fs : List (Option Nat)} (hM : q_Fd l y cd d (.ref k0 :: []) S v S2) (hy : q_my y cd bytes maxL ret 0 ci) (hlk : Cond.methodLink own idx y ∈ q_WS) (hk0 : q_sh[k0]? = some (.inr (ci, fs))) (hR : d + 1 ≤ dd ∧ maxL ≤ 21) (hroom : (rest.map Value.category).sum ≤ 8) (dg : decode cc pc = .ok (.invokevirtual idx, 3)) (kk : q_V l K (pc + 3) lv (.double v :: rest) S2) : q_V l K pc lv (.ref k0 :: rest) S := q_cd C hM hy hlk rfl hk0 hR hroom dg kk
set_option maxHeartbeats 1000000 in
theorem q_cf (C : q_Cx K cc own dd n0) {y : MethodName} {cd : Cond} {d k0 maxL ci n : Nat} {bytes : ByteArray} {ret : Option FieldType} {As rest : List Value} {S2 : q_St} {v : UInt32} {fs : List (Option Nat)} (hM : q_Ff l y cd d (.ref k0 :: As) S v S2) (hy : q_my y cd bytes maxL ret n ci) (hlk : Cond.methodLink own idx y ∈ q_WS) (hn : As.length = n) (hk0 : q_sh[k0]? = some (.inr (ci, fs))) (hR : d + 1 ≤ dd ∧ maxL ≤ 21) (hroom : (rest.map Value.category).sum ≤ 8) (dg : decode cc pc = .ok (.invokevirtual idx, 3)) (kk : q_V l K (pc + 3) lv (.float v :: rest) S2) : q_V l K pc lv (As.reverse ++ .ref k0 :: rest) S := by
  obtain ⟨p, e, R, s, m, args, below, meth, c, cells, slots, Q, D, cy, ad, A, nL, L⟩ := K
  obtain ⟨hx, hb, hml, hnl, hown, hts, hK, hi, hA1, hA2, hf1, hf2, hc1, hc2, hE⟩ := C
  obtain ⟨y1, y2, y3, y4, ⟨T, N, y5⟩, y6, y7, y8, y9⟩ := hy
  intro H locs ls hP hS hl
  have hF := q_free (ad := ad) hS hA1 hA2
  have hn2 : (As.map (q_gv ad)).length = n := by rw [List.length_map]; exact hn
  refine va_callf (va_runV (As := As.map (q_gv ad)) (rest := rest.map (q_gv ad)) ⟨hx, hb, hml, hown, hts⟩ (hM D cy ad H.size L) (cwV n hts (q_goodV hlk y6 y7 y8 y9) (congrArg (fun z => z :: q_WS) y1) rfl rfl ⟨rfl, y2, y3, y4⟩ ⟨Nat.le_trans hR.1 hf1, ?_⟩) ⟨q_Pc_blind _ _ _ _ _ _ _, va_recv hK hP y5 (q_wl_get hk0), fun U hU hW => ⟨rfl, by rw [hU], by rw [hU]; exact hP, va_K.moved hW.alike hK, hi, by rw [hU]; exact q_E.go hE hS.2.1 hF hW⟩⟩ rfl hn2 hl.1 ?_ ?_ dg ⟨hc1, hc2⟩) hS (fun q _ h => hF q h) hF (fun r u t H1 locs1 ht hvm hw hB hz1 hk1 hS1 => ?_)
  · have h9 : (q_rm d).locals = 40 * d := rfl
    rw [h9]
    have h8 := hR.1
    have h7 := hR.2
    omega
  · show (As.reverse ++ .ref k0 :: rest).map (q_gv ad) = _
    rw [List.map_append, List.map_reverse]
    rfl
  · refine lv_room ?_
    rw [q_cats]
    exact hroom
  · obtain ⟨rfl, rfl⟩ := hw
    exact kk H1 locs1 ls (by rw [← ht]; exact hB) hS1 hl
theorem q_cf0 (C : q_Cx K cc own dd n0) {y : MethodName} {cd : Cond} {d k0 maxL ci : Nat} {bytes : ByteArray} {ret : Option FieldType} {rest : List Value} {S2 : q_St} {v : UInt32} {fs : List (Option Nat)} (hM : q_Ff l y cd d (.ref k0 :: []) S v S2) (hy : q_my y cd bytes maxL ret 0 ci) (hlk : Cond.methodLink own idx y ∈ q_WS) (hk0 : q_sh[k0]? = some (.inr (ci, fs))) (hR : d + 1 ≤ dd ∧ maxL ≤ 21) (hroom : (rest.map Value.category).sum ≤ 8) (dg : decode cc pc = .ok (.invokevirtual idx, 3)) (kk : q_V l K (pc + 3) lv (.float v :: rest) S2) : q_V l K pc lv (.ref k0 :: rest) S := q_cf C hM hy hlk rfl hk0 hR hroom dg kk
end QLW
