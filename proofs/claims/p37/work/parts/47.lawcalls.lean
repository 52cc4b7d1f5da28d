
/-! the law's own judgement: calls, arrays -/
theorem q_goodSW {own : String} {idx : Nat} {y : MethodName} {cd : Cond} (h1 : Cond.methodLink own idx y ∈ q_WS) (h2 : Cond.static y ∈ q_WS) (h4 : Cond.initialized y.cls ∈ q_WS) (h5 : cd ∈ q_WS) : GoodIn q_WS (va_wsS own idx y (cd :: q_WS)) := by
  intro w hw
  have hm : w ∈ q_WS := by
    unfold va_wsS at hw
    simp only [List.mem_append, List.mem_cons, List.not_mem_nil, or_false] at hw
    rcases hw with (rfl | rfl | rfl) | (rfl | h) <;> assumption
  exact ⟨hm, good_of_word (q_WS_good w hm)⟩
def q_mw (y : MethodName) (cd : Cond) (bytes : ByteArray) (maxL : Nat) (hh : List (Nat × Nat × Nat × Nat)) (n : Nat) : Prop := cd = .codeWith y bytes maxL (some .int) hh ∧ y.cls ≠ "java/lang/invoke/MethodHandle" ∧ y.cls ≠ "java/lang/invoke/VarHandle" ∧ (parseMethodDescriptor y.desc).map (fun d => d.parameters.length) = some n ∧ Cond.static y ∈ q_WS ∧ Cond.initialized y.cls ∈ q_WS ∧ cd ∈ q_WS
/-- what stands beside the world is as it was, where nothing but the world has changed -/
theorem q_keepX {D : va_G} {ex : va_W} {xa : List Nat} {ad : Nat → Nat} {H H1 : Heap} {n : Nat} (hP : va_P D q_cl ex H) (hex : ex.map (fun q => q.1) = xa) (hxa : xa.Nodup ∧ ∀ a ∈ xa, n ≤ a ∧ ∀ k, k < 112 → ad k ≠ a) (hk1 : ∀ q : Nat, q < H.size → ¬ q_A ad H.size q → H1[q]? = H[q]?) : va_P D q_cl ex H1 := hP.kept (fun k x hx => hk1 x.1 (vx_lt hP hx) (by
  have hm : x.1 ∈ xa := by
    rw [← hex]
    exact List.mem_map.mpr ⟨x, List.mem_of_getElem? hx, rfl⟩
  rintro (⟨j, hj, h⟩ | h)
  · exact (hxa.2 _ hm).2 j hj h.symm
  · exact absurd (vx_lt hP hx) (Nat.not_lt.mpr h)))
theorem q_keepZ {Z : Heap → Prop} {xa : List Nat} {ad : Nat → Nat} {H H1 : Heap} (hZs : q_Zs ad xa Z) (hz : H.size ≤ H1.size) (hk1 : ∀ q : Nat, q < H.size → ¬ q_A ad H.size q → H1[q]? = H[q]?) (hZ : Z H) : Z H1 := hZs H H1 hz (fun a ha h1 _ => hk1 a ha (by
  rintro (⟨j, hj, h⟩ | h)
  · exact h1 j hj h
  · exact absurd ha (Nat.not_lt.mpr h))) hZ
theorem q_wlX1 {cy : Nat → ClassId} {ad : Nat → Nat} {L : q_L} {S : q_St} {x : Nat × va_E} : (q_wl cy ad L S ++ [x])[112]? = some x := by
  rw [List.getElem?_append_right (by rw [q_wl_len]; exact Nat.le_refl _), q_wl_len]
  rfl
theorem q_wlX2 {cy : Nat → ClassId} {ad : Nat → Nat} {L : q_L} {S : q_St} {x y : Nat × va_E} : (q_wl cy ad L S ++ [x]).set 112 y = q_wl cy ad L S ++ [y] := by
  rw [List.set_append_right _ _ (by rw [q_wl_len]; exact Nat.le_refl _), q_wl_len]
  rfl
theorem q_wlDX {cy : Nat → ClassId} {ad : Nat → Nat} {L : q_L} {S : q_St} {A : Nat → Prop} {x : Nat × va_E} (h1 : ∀ i j, i < 112 → j < 112 → ad i = ad j → i = j) (h2 : ∀ k, k < 112 → A (ad k)) (h3 : ∀ k, k < 112 → ad k ≠ x.1) (h4 : A x.1) : va_D A (q_wl cy ad L S ++ [x]) := by
  have key : ∀ (i : Nat) (q : Nat × va_E), (q_wl cy ad L S ++ [x])[i]? = some q → (i < 112 ∧ q.1 = ad i) ∨ (i = 112 ∧ q = x) := by
    intro i q hq
    by_cases hi : i < 112
    · rw [List.getElem?_append_left (by rw [q_wl_len]; exact hi)] at hq
      obtain ⟨a1, _, _, rfl⟩ := q_wl_inv hq
      exact Or.inl ⟨hi, rfl⟩
    · rw [List.getElem?_append_right (by rw [q_wl_len]; omega), q_wl_len] at hq
      cases h : i - 112 with
      | zero =>
        rw [h] at hq
        exact Or.inr ⟨by omega, (Option.some.inj hq).symm⟩
      | succ n =>
        rw [h] at hq
        cases hq
  refine ⟨fun i j a b ha hb hab => ?_, fun k q hk => ?_⟩
  · rcases key i a ha with ⟨a1, a2⟩ | ⟨a1, a2⟩ <;> rcases key j b hb with ⟨b1, b2⟩ | ⟨b1, b2⟩
    · exact h1 i j a1 b1 (by rw [← a2, ← b2]; exact hab)
    · exact absurd (a2.symm.trans (hab.trans (by rw [b2]))) (h3 i a1)
    · exact absurd (b2.symm.trans (hab.symm.trans (by rw [a2]))) (h3 j b1)
    · omega
  · rcases key k q hk with ⟨a1, a2⟩ | ⟨a1, a2⟩
    · rw [a2]; exact h2 k a1
    · rw [a2]; exact h4
/-- the law's method answers a long -/
def q_Fyl (l : Launch) (y : MethodName) (cd : Cond) (d u : Nat) (avs : List Value) (S : q_St) (v : Int64) (S2 : q_St) : Prop := ∀ (D : va_G) (cy : Nat → ClassId) (ad : Nat → Nat) (sz : Nat) (L : q_L), Met l y (cd :: q_WS) (q_rmX d u) (q_Px avs S D cy ad sz L) (va_Ql (fun (r : Int64) (w : q_St) => r = v ∧ w = S2) (fun w t => va_P D q_cl (q_wl cy ad L w) t.heap) (q_A ad sz)) u (6 * u) (q_A ad sz)
set_option maxHeartbeats 1000000 in
theorem q_Fy_of {l : Launch} {y : MethodName} {cd : Cond} {cc : ByteArray} {maxL d U : Nat} {ty : FieldType} {avs : List Value} {S S2 : q_St} {v : Int32} (hcd : cd = .code y cc maxL (some ty)) (hy : plainName y.cls = true) (hlen : ∀ ad : Nat → Nat, (lg_sl (avs.map (q_gv ad))).length ≤ maxL) (hn : narrow ty (.int v) = .int v)
    (body : ∀ K : q_K, q_Cy K cc y.cls d maxL U [] q_Tr → (∀ (u : Nat) (ex : va_W) (Z : Heap → Prop) (pc : Nat) (lv : List (Nat × Value)) (r : Int32) (S' : q_St), u ≤ U → decode cc pc = .ok (.ireturn, 1) → r = v → S' = S2 → q_Y l K u ex Z pc lv [.int r] S') → q_Y l K 0 [] q_Tr 0 (q_ml (q_ad K) (lv_args 0 avs)) [] S) : q_Fy l y cd d U avs S v S2 := by
  intro D cy ad sz L
  subst hcd
  refine Met.ofW (cc := cc) (maxL := maxL) (ret := (some ty)) hy rfl ?_
  intro p e s m args below meth c s₁ B hml hv
  obtain ⟨⟨rfl, hsz, hP, hK, hi, hE⟩, hEX⟩ := hv
  subst hsz
  have hts0 := atoms_spec (ws := Cond.code y cc maxL (some ty) :: q_WS) B.pre
  have hts : ∀ w ∈ q_WS, w.before (avs.map (q_gv ad)).toArray s = true := fun w h => hts0 w (List.mem_cons_of_mem _ h)
  have hown : s.vm.findClass y.cls = some m.cls := findClass_of_methodNamed B.named
  have hlocks := B.notSynchronized
  have hl := lv_entry (avs.map (q_gv ad)) (n := maxL) (hlen ad)
  rw [lg_entry_eq]
  generalize (lg_sl (avs.map (q_gv ad)) ++ List.replicate (maxL - (lg_sl (avs.map (q_gv ad))).length) Slot.unset).toArray = ls at hl ⊢
  rw [q_args] at hl
  refine body (p, e, (headSpec (Cond.code y cc maxL (some ty) :: q_WS) (q_rmX d U)).room, s, m, (avs.map (q_gv ad)).toArray, below, meth, c, 0, 0, MQ below (va_Qi (fun (r : Int32) (w : q_St) => r = v ∧ w = S2) (fun w t => va_P D q_cl (q_wl cy ad L w) t.heap) (q_A ad s.heap.size)) (avs.map (q_gv ad)).toArray s U (6 * U) (q_A ad s.heap.size), D, cy, ad, q_A ad s.heap.size, maxL, L) ⟨B.exec, B.bytes, hml, rfl, hown, hts, hK, hi, fun k hk => Or.inl ⟨k, hk, rfl⟩, fun q h => Or.inr h, Nat.le_refl _, Nat.le_refl _, Nat.le_refl _, Nat.le_refl _, hE, hEX, ⟨List.nodup_nil, fun a ha => nomatch ha⟩, q_Zs_Tr _ _⟩ ?_ 0 0 s.heap [] ls (Nat.le_refl _) (Nat.zero_le _) (by rw [List.append_nil]; exact hP) trivial va_S.rf hl
  intro u ex Z pc lv r S' hu hd h1 h2 cl sl H locs ls hc9 hs9 hP hZ hS hl
  subst h1; subst h2
  exact W.widen (Nat.le_trans hc9 hu) (Nat.le_trans hs9 (Nat.mul_le_mul_left 6 hu)) (W.zret B.exec B.bytes B.returns hn (fun t ht hW => ⟨⟨r, S', rfl, ⟨rfl, rfl⟩, by show va_P D q_cl (q_wl cy ad L S') t.heap; rw [ht]; exact q_P_l hP⟩, hS.F ht⟩) hS.2.2 hd hlocks)
set_option maxHeartbeats 1000000 in
theorem q_Fyl_of {l : Launch} {y : MethodName} {cd : Cond} {cc : ByteArray} {maxL d U : Nat} {avs : List Value} {S S2 : q_St} {v : Int64} (hcd : cd = .code y cc maxL (some .long)) (hy : plainName y.cls = true) (hlen : ∀ ad : Nat → Nat, (lg_sl (avs.map (q_gv ad))).length ≤ maxL) 
    (body : ∀ K : q_K, q_Cy K cc y.cls d maxL U [] q_Tr → (∀ (u : Nat) (ex : va_W) (Z : Heap → Prop) (pc : Nat) (lv : List (Nat × Value)) (r : Int64) (S' : q_St), u ≤ U → decode cc pc = .ok (.lreturn, 1) → r = v → S' = S2 → q_Y l K u ex Z pc lv [.long r] S') → q_Y l K 0 [] q_Tr 0 (q_ml (q_ad K) (lv_args 0 avs)) [] S) : q_Fyl l y cd d U avs S v S2 := by
  intro D cy ad sz L
  subst hcd
  refine Met.ofW (cc := cc) (maxL := maxL) (ret := (some .long)) hy rfl ?_
  intro p e s m args below meth c s₁ B hml hv
  obtain ⟨⟨rfl, hsz, hP, hK, hi, hE⟩, hEX⟩ := hv
  subst hsz
  have hts0 := atoms_spec (ws := Cond.code y cc maxL (some .long) :: q_WS) B.pre
  have hts : ∀ w ∈ q_WS, w.before (avs.map (q_gv ad)).toArray s = true := fun w h => hts0 w (List.mem_cons_of_mem _ h)
  have hown : s.vm.findClass y.cls = some m.cls := findClass_of_methodNamed B.named
  have hlocks := B.notSynchronized
  have hl := lv_entry (avs.map (q_gv ad)) (n := maxL) (hlen ad)
  rw [lg_entry_eq]
  generalize (lg_sl (avs.map (q_gv ad)) ++ List.replicate (maxL - (lg_sl (avs.map (q_gv ad))).length) Slot.unset).toArray = ls at hl ⊢
  rw [q_args] at hl
  refine body (p, e, (headSpec (Cond.code y cc maxL (some .long) :: q_WS) (q_rmX d U)).room, s, m, (avs.map (q_gv ad)).toArray, below, meth, c, 0, 0, MQ below (va_Ql (fun (r : Int64) (w : q_St) => r = v ∧ w = S2) (fun w t => va_P D q_cl (q_wl cy ad L w) t.heap) (q_A ad s.heap.size)) (avs.map (q_gv ad)).toArray s U (6 * U) (q_A ad s.heap.size), D, cy, ad, q_A ad s.heap.size, maxL, L) ⟨B.exec, B.bytes, hml, rfl, hown, hts, hK, hi, fun k hk => Or.inl ⟨k, hk, rfl⟩, fun q h => Or.inr h, Nat.le_refl _, Nat.le_refl _, Nat.le_refl _, Nat.le_refl _, hE, hEX, ⟨List.nodup_nil, fun a ha => nomatch ha⟩, q_Zs_Tr _ _⟩ ?_ 0 0 s.heap [] ls (Nat.le_refl _) (Nat.zero_le _) (by rw [List.append_nil]; exact hP) trivial va_S.rf hl
  intro u ex Z pc lv r S' hu hd h1 h2 cl sl H locs ls hc9 hs9 hP hZ hS hl
  subst h1; subst h2
  exact W.widen (Nat.le_trans hc9 hu) (Nat.le_trans hs9 (Nat.mul_le_mul_left 6 hu)) (W.lret B.exec B.bytes B.returns (fun t ht hW => ⟨⟨r, S', rfl, ⟨rfl, rfl⟩, by show va_P D q_cl (q_wl cy ad L S') t.heap; rw [ht]; exact q_P_l hP⟩, hS.F ht⟩) hS.2.2 hd hlocks)
section QYC
variable {l : Launch} {K : q_K} {cc : ByteArray} {own : String} {dd n0 U u pc idx : Nat} {xa : List Nat} {ex : va_W} {Z : Heap → Prop} {lv : List (Nat × Value)} {st : List Value} {S : q_St}
set_option maxHeartbeats 1000000 in
theorem y_si (C : q_Cy K cc own dd n0 U xa Z) {y : MethodName} {cd : Cond} {d u1 maxL n : Nat} {bytes : ByteArray} {As rest st0 : List Value} {S2 : q_St} {v : Int32} (hM : q_Fy l y cd d u1 As S v S2) {ret : Option FieldType} (hy : q_ms y cd bytes maxL ret n) (hco : y.cls = own) (hlk : Cond.methodLink own idx y ∈ q_WS) (hn : As.length = n) (hst : st0 = (As.map (q_gv (q_ad K))).reverse ++ rest) (hex : ex.map (fun q => q.1) = xa) (hR : d + 1 ≤ dd ∧ maxL ≤ 21) (hU : u + u1 ≤ U) (hroom : (rest.map Value.category).sum ≤ 8) (dg : decode cc pc = .ok (.invokestatic idx, 3)) (kk : q_Y l K (u + u1) ex Z (pc + 3) lv (.int v :: rest) S2) : q_Y l K u ex Z pc lv st0 S := by
  obtain ⟨p, e, R, s, m, args, below, meth, c, cells, slots, Q, D, cy, ad, A, nL, L⟩ := K
  obtain ⟨hx, hb, hml, hnl, hown, hts, hK, hi, hA1, hA2, hf1, hf2, hc1, hc2, hE, hEX, hxa, hZs⟩ := C
  obtain ⟨y1, y2, y3, y4, y6, y8, y9⟩ := hy
  intro cl sl H locs ls hc9 hs9 hP hZ hS hl
  have hF := q_free (ad := ad) hS hA1 hA2
  have hn2 : (As.map (q_gv ad)).length = n := by rw [List.length_map]; exact hn
  refine va_calli (mc := u1) (ms := 6 * u1) (va_runS (As := As.map (q_gv ad)) (rest := rest) ⟨hx, hb, hml, hown, hts⟩ (hM D cy ad H.size L) (cwS n hts (q_goodS hlk y6 (by rw [← hco]; exact y8) y9) (congrArg (fun z => z :: q_WS) y1) rfl rfl ⟨hco, y2, y3, y4⟩ ⟨Nat.le_trans hR.1 hf1, ?_⟩) ⟨q_Px_blind _ _ _ _ _ _ _, fun U hU hW => ⟨⟨rfl, by rw [hU], by rw [hU]; exact q_P_l hP, va_K.moved hW.alike hK, hi, by rw [hU]; exact q_E.go hE hS.2.1 hF hW⟩, q_EX.go hEX hW⟩⟩ rfl hn2 hl.1 hst ?_ dg ⟨by omega, by omega⟩) hS (fun q _ h => hF q h) hF (fun r w t H1 locs1 ht hvm hw hB hz1 hk1 hS1 => ?_)
  · have h9 : (q_rmX d u1).locals = 40 * d := rfl
    rw [h9]
    have h8 := hR.1
    have h7 := hR.2
    omega
  · exact lv_room hroom
  · obtain ⟨rfl, rfl⟩ := hw
    exact kk (cl + u1) (sl + 6 * u1) H1 locs1 ls (by omega) (by omega) (va_P.app (by rw [← ht]; exact hB) (q_keepX (q_P_r hP) hex hxa hk1)) (q_keepZ hZs hz1 hk1 hZ) hS1 hl
set_option maxHeartbeats 1000000 in
theorem y_sl (C : q_Cy K cc own dd n0 U xa Z) {y : MethodName} {cd : Cond} {d u1 maxL n : Nat} {bytes : ByteArray} {As rest st0 : List Value} {S2 : q_St} {v : Int64} (hM : q_Fyl l y cd d u1 As S v S2) {ret : Option FieldType} (hy : q_ms y cd bytes maxL ret n) (hco : y.cls = own) (hlk : Cond.methodLink own idx y ∈ q_WS) (hn : As.length = n) (hst : st0 = (As.map (q_gv (q_ad K))).reverse ++ rest) (hex : ex.map (fun q => q.1) = xa) (hR : d + 1 ≤ dd ∧ maxL ≤ 21) (hU : u + u1 ≤ U) (hroom : (rest.map Value.category).sum ≤ 8) (dg : decode cc pc = .ok (.invokestatic idx, 3)) (kk : q_Y l K (u + u1) ex Z (pc + 3) lv (.long v :: rest) S2) : q_Y l K u ex Z pc lv st0 S := by
  obtain ⟨p, e, R, s, m, args, below, meth, c, cells, slots, Q, D, cy, ad, A, nL, L⟩ := K
  obtain ⟨hx, hb, hml, hnl, hown, hts, hK, hi, hA1, hA2, hf1, hf2, hc1, hc2, hE, hEX, hxa, hZs⟩ := C
  obtain ⟨y1, y2, y3, y4, y6, y8, y9⟩ := hy
  intro cl sl H locs ls hc9 hs9 hP hZ hS hl
  have hF := q_free (ad := ad) hS hA1 hA2
  have hn2 : (As.map (q_gv ad)).length = n := by rw [List.length_map]; exact hn
  refine va_calll (mc := u1) (ms := 6 * u1) (va_runS (As := As.map (q_gv ad)) (rest := rest) ⟨hx, hb, hml, hown, hts⟩ (hM D cy ad H.size L) (cwS n hts (q_goodS hlk y6 (by rw [← hco]; exact y8) y9) (congrArg (fun z => z :: q_WS) y1) rfl rfl ⟨hco, y2, y3, y4⟩ ⟨Nat.le_trans hR.1 hf1, ?_⟩) ⟨q_Px_blind _ _ _ _ _ _ _, fun U hU hW => ⟨⟨rfl, by rw [hU], by rw [hU]; exact q_P_l hP, va_K.moved hW.alike hK, hi, by rw [hU]; exact q_E.go hE hS.2.1 hF hW⟩, q_EX.go hEX hW⟩⟩ rfl hn2 hl.1 hst ?_ dg ⟨by omega, by omega⟩) hS (fun q _ h => hF q h) hF (fun r w t H1 locs1 ht hvm hw hB hz1 hk1 hS1 => ?_)
  · have h9 : (q_rmX d u1).locals = 40 * d := rfl
    rw [h9]
    have h8 := hR.1
    have h7 := hR.2
    omega
  · exact lv_room hroom
  · obtain ⟨rfl, rfl⟩ := hw
    exact kk (cl + u1) (sl + 6 * u1) H1 locs1 ls (by omega) (by omega) (va_P.app (by rw [← ht]; exact hB) (q_keepX (q_P_r hP) hex hxa hk1)) (q_keepZ hZs hz1 hk1 hZ) hS1 hl
set_option maxHeartbeats 1000000 in
theorem y_sw (C : q_Cy K cc own dd n0 U xa Z) {y : MethodName} {cd : Cond} {d u1 maxL n : Nat} {bytes : ByteArray} {As rest st0 : List Value} {S2 : q_St} {v : Int32} (hM : q_Fy l y cd d u1 As S v S2) {hh : List (Nat × Nat × Nat × Nat)} (hy : q_mw y cd bytes maxL hh n) (hlk : Cond.methodLink own idx y ∈ q_WS) (hn : As.length = n) (hst : st0 = (As.map (q_gv (q_ad K))).reverse ++ rest) (hex : ex.map (fun q => q.1) = xa) (hR : d + 1 ≤ dd ∧ maxL ≤ 21) (hU : u + u1 ≤ U) (hroom : (rest.map Value.category).sum ≤ 8) (dg : decode cc pc = .ok (.invokestatic idx, 3)) (kk : q_Y l K (u + u1) ex Z (pc + 3) lv (.int v :: rest) S2) : q_Y l K u ex Z pc lv st0 S := by
  obtain ⟨p, e, R, s, m, args, below, meth, c, cells, slots, Q, D, cy, ad, A, nL, L⟩ := K
  obtain ⟨hx, hb, hml, hnl, hown, hts, hK, hi, hA1, hA2, hf1, hf2, hc1, hc2, hE, hEX, hxa, hZs⟩ := C
  obtain ⟨y1, y2, y3, y4, y6, y8, y9⟩ := hy
  intro cl sl H locs ls hc9 hs9 hP hZ hS hl
  have hF := q_free (ad := ad) hS hA1 hA2
  have hn2 : (As.map (q_gv ad)).length = n := by rw [List.length_map]; exact hn
  refine va_calli (mc := u1) (ms := 6 * u1) (vx_runSW (As := As.map (q_gv ad)) (rest := rest) ⟨hx, hb, hml, hown, hts⟩ (hM D cy ad H.size L) (vx_cwSW n hts (q_goodSW hlk y6 y8 y9) (congrArg (fun z => z :: q_WS) y1) rfl rfl ⟨y2, y3, y4⟩ ⟨Nat.le_trans hR.1 hf1, ?_⟩) ⟨q_Px_blind _ _ _ _ _ _ _, fun U hU hW => ⟨⟨rfl, by rw [hU], by rw [hU]; exact q_P_l hP, va_K.moved hW.alike hK, hi, by rw [hU]; exact q_E.go hE hS.2.1 hF hW⟩, q_EX.go hEX hW⟩⟩ rfl hn2 hl.1 hst ?_ dg ⟨by omega, by omega⟩) hS (fun q _ h => hF q h) hF (fun r w t H1 locs1 ht hvm hw hB hz1 hk1 hS1 => ?_)
  · have h9 : (q_rmX d u1).locals = 40 * d := rfl
    rw [h9]
    have h8 := hR.1
    have h7 := hR.2
    omega
  · exact lv_room hroom
  · obtain ⟨rfl, rfl⟩ := hw
    exact kk (cl + u1) (sl + 6 * u1) H1 locs1 ls (by omega) (by omega) (va_P.app (by rw [← ht]; exact hB) (q_keepX (q_P_r hP) hex hxa hk1)) (q_keepZ hZs hz1 hk1 hZ) hS1 hl
set_option maxHeartbeats 1000000 in
theorem y_ci (C : q_Cy K cc own dd n0 U xa Z) {y : MethodName} {cd : Cond} {d maxL n : Nat} {bytes : ByteArray} {ret : Option FieldType} {As rest st0 : List Value} {S2 : q_St} {v : Int32} (hM : q_Fi l y cd d (.ref 0 :: As) S v S2) (hy : q_my y cd bytes maxL ret n 6) (hlk : Cond.methodLink own idx y ∈ q_WS) (hn : As.length = n) (hst : st0 = (As.map (q_gv (q_ad K))).reverse ++ .ref (q_ad K 0) :: rest) (hex : ex.map (fun q => q.1) = xa) (hR : d + 1 ≤ dd ∧ maxL ≤ 21) (hU : u ≤ U) (hroom : (rest.map Value.category).sum ≤ 8) (dg : decode cc pc = .ok (.invokevirtual idx, 3)) (kk : q_Y l K u ex Z (pc + 3) lv (.int v :: rest) S2) : q_Y l K u ex Z pc lv st0 S := by
  obtain ⟨p, e, R, s, m, args, below, meth, c, cells, slots, Q, D, cy, ad, A, nL, L⟩ := K
  obtain ⟨hx, hb, hml, hnl, hown, hts, hK, hi, hA1, hA2, hf1, hf2, hc1, hc2, hE, hEX, hxa, hZs⟩ := C
  obtain ⟨y1, y2, y3, y4, ⟨T, N, y5⟩, y6, y7, y8, y9⟩ := hy
  intro cl sl H locs ls hc9 hs9 hP hZ hS hl
  have hF := q_free (ad := ad) hS hA1 hA2
  have hn2 : (As.map (q_gv ad)).length = n := by rw [List.length_map]; exact hn
  refine va_calli  (va_runV (As := As.map (q_gv ad)) (rest := rest) ⟨hx, hb, hml, hown, hts⟩ (hM D cy ad H.size L) (cwV n hts (q_goodV hlk y6 y7 y8 y9) (congrArg (fun z => z :: q_WS) y1) rfl rfl ⟨rfl, y2, y3, y4⟩ ⟨Nat.le_trans hR.1 hf1, ?_⟩) ⟨q_Pc_blind _ _ _ _ _ _ _, va_recv hK (q_P_l hP) y5 (q_wl_get q_s0), fun U hU hW => ⟨rfl, by rw [hU], by rw [hU]; exact q_P_l hP, va_K.moved hW.alike hK, hi, by rw [hU]; exact q_E.go hE hS.2.1 hF hW⟩⟩ rfl hn2 hl.1 hst ?_ dg ⟨by omega, by omega⟩) hS (fun q _ h => hF q h) hF (fun r w t H1 locs1 ht hvm hw hB hz1 hk1 hS1 => ?_)
  · have h9 : (q_rm d).locals = 40 * d := rfl
    rw [h9]
    have h8 := hR.1
    have h7 := hR.2
    omega
  · exact lv_room hroom
  · obtain ⟨rfl, rfl⟩ := hw
    exact kk cl sl H1 locs1 ls (by omega) (by omega) (va_P.app (by rw [← ht]; exact hB) (q_keepX (q_P_r hP) hex hxa hk1)) (q_keepZ hZs hz1 hk1 hZ) hS1 hl
set_option maxHeartbeats 1000000 in
theorem y_cd (C : q_Cy K cc own dd n0 U xa Z) {y : MethodName} {cd : Cond} {d maxL n : Nat} {bytes : ByteArray} {ret : Option FieldType} {As rest st0 : List Value} {S2 : q_St} {v : UInt64} (hM : q_Fd l y cd d (.ref 0 :: As) S v S2) (hy : q_my y cd bytes maxL ret n 6) (hlk : Cond.methodLink own idx y ∈ q_WS) (hn : As.length = n) (hst : st0 = (As.map (q_gv (q_ad K))).reverse ++ .ref (q_ad K 0) :: rest) (hex : ex.map (fun q => q.1) = xa) (hR : d + 1 ≤ dd ∧ maxL ≤ 21) (hU : u ≤ U) (hroom : (rest.map Value.category).sum ≤ 8) (dg : decode cc pc = .ok (.invokevirtual idx, 3)) (kk : q_Y l K u ex Z (pc + 3) lv (.double v :: rest) S2) : q_Y l K u ex Z pc lv st0 S := by
  obtain ⟨p, e, R, s, m, args, below, meth, c, cells, slots, Q, D, cy, ad, A, nL, L⟩ := K
  obtain ⟨hx, hb, hml, hnl, hown, hts, hK, hi, hA1, hA2, hf1, hf2, hc1, hc2, hE, hEX, hxa, hZs⟩ := C
  obtain ⟨y1, y2, y3, y4, ⟨T, N, y5⟩, y6, y7, y8, y9⟩ := hy
  intro cl sl H locs ls hc9 hs9 hP hZ hS hl
  have hF := q_free (ad := ad) hS hA1 hA2
  have hn2 : (As.map (q_gv ad)).length = n := by rw [List.length_map]; exact hn
  refine va_calld  (va_runV (As := As.map (q_gv ad)) (rest := rest) ⟨hx, hb, hml, hown, hts⟩ (hM D cy ad H.size L) (cwV n hts (q_goodV hlk y6 y7 y8 y9) (congrArg (fun z => z :: q_WS) y1) rfl rfl ⟨rfl, y2, y3, y4⟩ ⟨Nat.le_trans hR.1 hf1, ?_⟩) ⟨q_Pc_blind _ _ _ _ _ _ _, va_recv hK (q_P_l hP) y5 (q_wl_get q_s0), fun U hU hW => ⟨rfl, by rw [hU], by rw [hU]; exact q_P_l hP, va_K.moved hW.alike hK, hi, by rw [hU]; exact q_E.go hE hS.2.1 hF hW⟩⟩ rfl hn2 hl.1 hst ?_ dg ⟨by omega, by omega⟩) hS (fun q _ h => hF q h) hF (fun r w t H1 locs1 ht hvm hw hB hz1 hk1 hS1 => ?_)
  · have h9 : (q_rm d).locals = 40 * d := rfl
    rw [h9]
    have h8 := hR.1
    have h7 := hR.2
    omega
  · exact lv_room hroom
  · obtain ⟨rfl, rfl⟩ := hw
    exact kk cl sl H1 locs1 ls (by omega) (by omega) (va_P.app (by rw [← ht]; exact hB) (q_keepX (q_P_r hP) hex hxa hk1)) (q_keepZ hZs hz1 hk1 hZ) hS1 hl
set_option maxHeartbeats 1000000 in
theorem y_cx (C : q_Cy K cc own dd n0 U xa Z) {y : MethodName} {cd : Cond} {d maxL n : Nat} {bytes : ByteArray} {ret : Option FieldType} {As rest st0 : List Value} {S2 : q_St} {v : Int32} (hM : q_Fx l y cd d 6 (.ref 0 :: As) S (.inl v, S2)) (hy : q_my y cd bytes maxL ret n 6) (hlk : Cond.methodLink own idx y ∈ q_WS) (hn : As.length = n) (hst : st0 = (As.map (q_gv (q_ad K))).reverse ++ .ref (q_ad K 0) :: rest) (hex : ex.map (fun q => q.1) = xa) (hR : d + 1 ≤ dd ∧ maxL ≤ 21) (hU : u + 6 ≤ U) (hroom : (rest.map Value.category).sum ≤ 8) (dg : decode cc pc = .ok (.invokevirtual idx, 3)) (kk : q_Y l K (u + 6) ex Z (pc + 3) lv (.int v :: rest) S2) : q_Y l K u ex Z pc lv st0 S := by
  obtain ⟨p, e, R, s, m, args, below, meth, c, cells, slots, Q, D, cy, ad, A, nL, L⟩ := K
  obtain ⟨hx, hb, hml, hnl, hown, hts, hK, hi, hA1, hA2, hf1, hf2, hc1, hc2, hE, hEX, hxa, hZs⟩ := C
  obtain ⟨y1, y2, y3, y4, ⟨T, N, y5⟩, y6, y7, y8, y9⟩ := hy
  intro cl sl H locs ls hc9 hs9 hP hZ hS hl
  have hF := q_free (ad := ad) hS hA1 hA2
  have hn2 : (As.map (q_gv ad)).length = n := by rw [List.length_map]; exact hn
  refine vx_calli (mc := 6) (ms := 6 * 6) (vx_runV (As := As.map (q_gv ad)) (rest := rest) ⟨hx, hb, hml, hown, hts⟩ (hM D cy ad H.size L) (cwV n hts (q_goodV hlk y6 y7 y8 y9) (congrArg (fun z => z :: q_WS) y1) rfl rfl ⟨rfl, y2, y3, y4⟩ ⟨Nat.le_trans hR.1 hf1, ?_⟩) ⟨q_Px_blind _ _ _ _ _ _ _, va_recv hK (q_P_l hP) y5 (q_wl_get q_s0), fun U hU hW => ⟨⟨rfl, by rw [hU], by rw [hU]; exact q_P_l hP, va_K.moved hW.alike hK, hi, by rw [hU]; exact q_E.go hE hS.2.1 hF hW⟩, q_EX.go hEX hW⟩⟩ rfl hn2 hl.1 hst ?_ dg ⟨by omega, by omega⟩) hS (fun q _ h => hF q h) hF (fun q _ h => hF q h) (fun E ce q9 u9 t H1 locs1 ht hvm hpx hB hz1 hk1 hS1 hce hcv hcl => ?_) (fun r w t H1 locs1 ht hvm hw hB hz1 hk1 hS1 => ?_)
  · have h9 : (q_rmX d 6).locals = 40 * d := rfl
    rw [h9]
    have h8 := hR.1
    have h7 := hR.2
    omega
  · exact lv_room hroom
  · exact nomatch hB.1
  · have hw1 : v = r := Sum.inl.inj (congrArg Prod.fst hw)
    have hw2 : S2 = w := congrArg Prod.snd hw
    subst hw1; subst hw2
    exact kk (cl + 6) (sl + 6 * 6) H1 locs1 ls (by omega) (by omega) (va_P.app (by rw [← ht]; exact hB) (q_keepX (q_P_r hP) hex hxa hk1)) (q_keepZ hZs hz1 hk1 hZ) hS1 hl
set_option maxHeartbeats 1000000 in
theorem y_cf (C : q_Cy K cc own dd n0 U xa Z) {y : MethodName} {cd : Cond} {d maxL n : Nat} {bytes : ByteArray} {ret : Option FieldType} {As rest st0 : List Value} {S2 : q_St} {v : UInt32} (hM : q_Fxf l y cd d 6 (.ref 0 :: As) S (.inl v, S2)) (hy : q_my y cd bytes maxL ret n 6) (hlk : Cond.methodLink own idx y ∈ q_WS) (hn : As.length = n) (hst : st0 = (As.map (q_gv (q_ad K))).reverse ++ .ref (q_ad K 0) :: rest) (hex : ex.map (fun q => q.1) = xa) (hR : d + 1 ≤ dd ∧ maxL ≤ 21) (hU : u + 6 ≤ U) (hroom : (rest.map Value.category).sum ≤ 8) (dg : decode cc pc = .ok (.invokevirtual idx, 3)) (kk : q_Y l K (u + 6) ex Z (pc + 3) lv (.float v :: rest) S2) : q_Y l K u ex Z pc lv st0 S := by
  obtain ⟨p, e, R, s, m, args, below, meth, c, cells, slots, Q, D, cy, ad, A, nL, L⟩ := K
  obtain ⟨hx, hb, hml, hnl, hown, hts, hK, hi, hA1, hA2, hf1, hf2, hc1, hc2, hE, hEX, hxa, hZs⟩ := C
  obtain ⟨y1, y2, y3, y4, ⟨T, N, y5⟩, y6, y7, y8, y9⟩ := hy
  intro cl sl H locs ls hc9 hs9 hP hZ hS hl
  have hF := q_free (ad := ad) hS hA1 hA2
  have hn2 : (As.map (q_gv ad)).length = n := by rw [List.length_map]; exact hn
  refine vx_callf (mc := 6) (ms := 6 * 6) (vx_runV (As := As.map (q_gv ad)) (rest := rest) ⟨hx, hb, hml, hown, hts⟩ (hM D cy ad H.size L) (cwV n hts (q_goodV hlk y6 y7 y8 y9) (congrArg (fun z => z :: q_WS) y1) rfl rfl ⟨rfl, y2, y3, y4⟩ ⟨Nat.le_trans hR.1 hf1, ?_⟩) ⟨q_Px_blind _ _ _ _ _ _ _, va_recv hK (q_P_l hP) y5 (q_wl_get q_s0), fun U hU hW => ⟨⟨rfl, by rw [hU], by rw [hU]; exact q_P_l hP, va_K.moved hW.alike hK, hi, by rw [hU]; exact q_E.go hE hS.2.1 hF hW⟩, q_EX.go hEX hW⟩⟩ rfl hn2 hl.1 hst ?_ dg ⟨by omega, by omega⟩) hS (fun q _ h => hF q h) hF (fun q _ h => hF q h) (fun E ce q9 u9 t H1 locs1 ht hvm hpx hB hz1 hk1 hS1 hce hcv hcl => ?_) (fun r w t H1 locs1 ht hvm hw hB hz1 hk1 hS1 => ?_)
  · have h9 : (q_rmX d 6).locals = 40 * d := rfl
    rw [h9]
    have h8 := hR.1
    have h7 := hR.2
    omega
  · exact lv_room hroom
  · exact nomatch hB.1
  · have hw1 : v = r := Sum.inl.inj (congrArg Prod.fst hw)
    have hw2 : S2 = w := congrArg Prod.snd hw
    subst hw1; subst hw2
    exact kk (cl + 6) (sl + 6 * 6) H1 locs1 ls (by omega) (by omega) (va_P.app (by rw [← ht]; exact hB) (q_keepX (q_P_r hP) hex hxa hk1)) (q_keepZ hZs hz1 hk1 hZ) hS1 hl
theorem y_newI (C : q_Cy K cc own dd n0 U [] q_Tr) {N : Nat} {x : Int32} (hw : Cond.arrayClass .int ∈ q_WS) (hxN : x = nI N) (hN : N ≤ 6) (hU : u + 1 ≤ U) (d : decode cc pc = .ok (.newarray .int, 2)) (k : ∀ a, q_Cy K cc own dd n0 U [a] q_Tr → q_Y l K (u + 1) [(a, .inl (q_cy K 0, N, .inl (fun _ => 0)))] q_Tr (pc + 2) lv (.ref a :: st) S) : q_Y l K u [] q_Tr pc lv (.int x :: st) S := by
  obtain ⟨p, e, R, s, m, args, below, meth, c, cells, slots, Q, D, cy, ad, A, nL, L⟩ := K
  obtain ⟨hx, hb, hml, hnl, hown, hts, hK, hi, hA1, hA2, hf1, hf2, hc1, hc2, hE, hEX, hxa, hZs⟩ := C
  intro cl sl H locs ls hc9 hs9 hP hZ hS hl
  subst hxN
  have hP0 := q_P_l hP
  refine va_newaK (atype := .int) hx hb (hts _ hw) rfl d rfl (nI_pos (by omega)) (nI_clamp (by omega)) ?_ (by omega) (by omega) rfl (fun H1 cA e1 z1 o1 hAr hNm => ?_)
  · show N * componentBytes .int ≤ 536870912
    have : componentBytes .int ≤ 8 := by decide
    have := Nat.mul_le_mul_left N this
    omega
  · have hcA : cA = cy 0 := by
      have h9 : s.vm.findClass ("[" ++ (.int : FieldType).toString) = some (cy 0) := (hK.2 0 _ rfl).2
      exact Option.some.inj (hNm.symm.trans h9)
    subst hcA
    have hne : ∀ j, j < 112 → ad j ≠ H.size := fun j hj h => by
      have hlen : j < (q_wl cy ad L S).length := by rw [q_wl_len]; exact hj
      have hlt := vx_lt hP0 (List.getElem?_eq_getElem hlen)
      obtain ⟨_, _, _, e9⟩ := q_wl_inv (List.getElem?_eq_getElem hlen)
      rw [e9] at hlt
      exact absurd (show ad j < H.size from hlt) (by rw [h]; exact Nat.lt_irrefl _)
    have hh : s.heap.size ≤ H.size := hS.1
    exact k H.size ⟨hx, hb, hml, hnl, hown, hts, hK, hi, hA1, hA2, hf1, hf2, hc1, hc2, hE, hEX, ⟨by simp, fun a ha => by
      obtain rfl := List.mem_singleton.mp ha
      exact ⟨hh, hne⟩⟩, q_Zs_Tr _ _⟩ (cl + 1) (sl + N) H1 locs ls (by omega) (by omega) (va_P.app (q_Bkept hP0 o1) (q_B1 e1)) trivial (q_BS hS z1 o1) hl
theorem y_newL (C : q_Cy K cc own dd n0 U [] q_Tr) {N : Nat} {x : Int32} (hw : Cond.arrayClass .long ∈ q_WS) (hxN : x = nI N) (hN : N ≤ 12) (hU : u + 2 ≤ U) (d : decode cc pc = .ok (.newarray .long, 2)) (k : ∀ a, q_Cy K cc own dd n0 U [a] q_Tr → q_Y l K (u + 2) [(a, .inl (q_cy K 4, N, .inr (.inl (fun _ => 0))))] q_Tr (pc + 2) lv (.ref a :: st) S) : q_Y l K u [] q_Tr pc lv (.int x :: st) S := by
  obtain ⟨p, e, R, s, m, args, below, meth, c, cells, slots, Q, D, cy, ad, A, nL, L⟩ := K
  obtain ⟨hx, hb, hml, hnl, hown, hts, hK, hi, hA1, hA2, hf1, hf2, hc1, hc2, hE, hEX, hxa, hZs⟩ := C
  intro cl sl H locs ls hc9 hs9 hP hZ hS hl
  subst hxN
  have hP0 := q_P_l hP
  refine va_newaK (atype := .long) hx hb (hts _ hw) rfl d rfl (nI_pos (by omega)) (nI_clamp (by omega)) ?_ (by omega) (by omega) rfl (fun H1 cA e1 z1 o1 hAr hNm => ?_)
  · show N * componentBytes .long ≤ 536870912
    have : componentBytes .long ≤ 8 := by decide
    have := Nat.mul_le_mul_left N this
    omega
  · have hcA : cA = cy 4 := by
      have h9 : s.vm.findClass ("[" ++ (.long : FieldType).toString) = some (cy 4) := (hK.2 4 _ rfl).2
      exact Option.some.inj (hNm.symm.trans h9)
    subst hcA
    have hne : ∀ j, j < 112 → ad j ≠ H.size := fun j hj h => by
      have hlen : j < (q_wl cy ad L S).length := by rw [q_wl_len]; exact hj
      have hlt := vx_lt hP0 (List.getElem?_eq_getElem hlen)
      obtain ⟨_, _, _, e9⟩ := q_wl_inv (List.getElem?_eq_getElem hlen)
      rw [e9] at hlt
      exact absurd (show ad j < H.size from hlt) (by rw [h]; exact Nat.lt_irrefl _)
    have hh : s.heap.size ≤ H.size := hS.1
    exact k H.size ⟨hx, hb, hml, hnl, hown, hts, hK, hi, hA1, hA2, hf1, hf2, hc1, hc2, hE, hEX, ⟨by simp, fun a ha => by
      obtain rfl := List.mem_singleton.mp ha
      exact ⟨hh, hne⟩⟩, q_Zs_Tr _ _⟩ (cl + 1) (sl + N) H1 locs ls (by omega) (by omega) (va_P.app (q_Bkept hP0 o1) (q_B1 e1)) trivial (q_BS hS z1 o1) hl
theorem y_iald (C : q_Cy K cc own dd n0 U xa Z) {a N i : Nat} {f : Nat → Int32} {ix : Int32} {v : Int32} (hix : ix = nI i) (hi9 : i < N) (hN : N < 2 ^ 31) (hv : f i = v) (d : decode cc pc = .ok (.iaload, 1)) (k : q_Y l K u [(a, .inl (q_cy K 0, N, .inl f))] Z (pc + 1) lv (.int v :: st) S) : q_Y l K u [(a, .inl (q_cy K 0, N, .inl f))] Z pc lv (.int ix :: .ref a :: st) S := by
  obtain ⟨p, e, R, s, m, args, below, meth, c, cells, slots, Q, D, cy, ad, A, nL, L⟩ := K
  obtain ⟨hx, hb, hml, hnl, hown, hts, hK, hi, hA1, hA2, hf1, hf2, hc1, hc2, hE, hEX, hxa, hZs⟩ := C
  intro cl sl H locs ls hc9 hs9 hP hZ hS hl
  subst hix; subst hv
  have h9 := va_iald (ls := ls) (rest := st) (cells := cl) (slots := sl) (R := R) (Q := Q) (locs := locs) (p := p) (l := l) (e := e) (below := below) (meth := meth) (args := args) (m := m) hx hb hK (q_P_r hP) 0 0 rfl rfl (vp_in_nI hi9 hN) d
  rw [nI_clamp (Nat.lt_trans hi9 hN)] at h9
  exact h9 (k cl sl H locs ls hc9 hs9 hP hZ hS hl)
theorem y_lald (C : q_Cy K cc own dd n0 U xa Z) {a N i : Nat} {f : Nat → Int64} {ix : Int32} {v : Int64} (hix : ix = nI i) (hi9 : i < N) (hN : N < 2 ^ 31) (hv : f i = v) (d : decode cc pc = .ok (.laload, 1)) (k : q_Y l K u [(a, .inl (q_cy K 4, N, .inr (.inl f)))] Z (pc + 1) lv (.long v :: st) S) : q_Y l K u [(a, .inl (q_cy K 4, N, .inr (.inl f)))] Z pc lv (.int ix :: .ref a :: st) S := by
  obtain ⟨p, e, R, s, m, args, below, meth, c, cells, slots, Q, D, cy, ad, A, nL, L⟩ := K
  obtain ⟨hx, hb, hml, hnl, hown, hts, hK, hi, hA1, hA2, hf1, hf2, hc1, hc2, hE, hEX, hxa, hZs⟩ := C
  intro cl sl H locs ls hc9 hs9 hP hZ hS hl
  subst hix; subst hv
  have h9 := va_lald (ls := ls) (rest := st) (cells := cl) (slots := sl) (R := R) (Q := Q) (locs := locs) (p := p) (l := l) (e := e) (below := below) (meth := meth) (args := args) (m := m) hx hb hK (q_P_r hP) 0 4 rfl rfl (vp_in_nI hi9 hN) d
  rw [nI_clamp (Nat.lt_trans hi9 hN)] at h9
  exact h9 (k cl sl H locs ls hc9 hs9 hP hZ hS hl)
theorem y_iast {a : Nat} (C : q_Cy K cc own dd n0 U [a] q_Tr) {N i : Nat} {f : Nat → Int32} {ix : Int32} {x : Int32} (hix : ix = nI i) (hi9 : i < N) (hN : N < 2 ^ 31) (d : decode cc pc = .ok (.iastore, 1)) (k : q_Y l K u [(a, .inl (q_cy K 0, N, .inl (upd f i x)))] q_Tr (pc + 1) lv st S) : q_Y l K u [(a, .inl (q_cy K 0, N, .inl f))] q_Tr pc lv (.int x :: .int ix :: .ref a :: st) S := by
  obtain ⟨p, e, R, s, m, args, below, meth, c, cells, slots, Q, D, cy, ad, A, nL, L⟩ := K
  obtain ⟨hx, hb, hml, hnl, hown, hts, hK, hi, hA1, hA2, hf1, hf2, hc1, hc2, hE, hEX, hxa, hZs⟩ := C
  intro cl sl H locs ls hc9 hs9 hP hZ hS hl
  subst hix
  have ha := hxa.2 a (List.mem_singleton.mpr rfl)
  refine va_iast hx hb hK hP (q_wlDX hi hA1 ha.2 (hA2 _ ha.1)) hS 112 0 q_wlX1 rfl (vp_in_nI hi9 hN) d (fun H1 locs1 hP1 hD1 hS1 => ?_)
  rw [nI_clamp (Nat.lt_trans hi9 hN)] at hP1
  rw [q_wlX2] at hP1
  exact k cl sl H1 locs1 ls hc9 hs9 hP1 trivial hS1 hl
theorem y_last {a : Nat} (C : q_Cy K cc own dd n0 U [a] q_Tr) {N i : Nat} {f : Nat → Int64} {ix : Int32} {x : Int64} (hix : ix = nI i) (hi9 : i < N) (hN : N < 2 ^ 31) (d : decode cc pc = .ok (.lastore, 1)) (k : q_Y l K u [(a, .inl (q_cy K 4, N, .inr (.inl (vp_updL f i x))))] q_Tr (pc + 1) lv st S) : q_Y l K u [(a, .inl (q_cy K 4, N, .inr (.inl f)))] q_Tr pc lv (.long x :: .int ix :: .ref a :: st) S := by
  obtain ⟨p, e, R, s, m, args, below, meth, c, cells, slots, Q, D, cy, ad, A, nL, L⟩ := K
  obtain ⟨hx, hb, hml, hnl, hown, hts, hK, hi, hA1, hA2, hf1, hf2, hc1, hc2, hE, hEX, hxa, hZs⟩ := C
  intro cl sl H locs ls hc9 hs9 hP hZ hS hl
  subst hix
  have ha := hxa.2 a (List.mem_singleton.mpr rfl)
  refine va_last hx hb hK hP (q_wlDX hi hA1 ha.2 (hA2 _ ha.1)) hS 112 4 q_wlX1 rfl (vp_in_nI hi9 hN) d (fun H1 locs1 hP1 hD1 hS1 => ?_)
  rw [nI_clamp (Nat.lt_trans hi9 hN)] at hP1
  rw [q_wlX2] at hP1
  exact k cl sl H1 locs1 ls hc9 hs9 hP1 trivial hS1 hl
theorem y_i2f (C : q_Cy K cc own dd n0 U xa Z) {x : Int32} (d : decode cc pc = .ok (.i2f, 1)) (k : q_Y l K u ex Z (pc + 1) lv (.float (FP.i2f x) :: st) S) : q_Y l K u ex Z pc lv (.int x :: st) S := by
  obtain ⟨p, e, R, s, m, args, below, meth, c, cells, slots, Q, D, cy, ad, A, nL, L⟩ := K
  obtain ⟨hx, hb, hml, hnl, hown, hts, hK, hi, hA1, hA2, hf1, hf2, hc1, hc2, hE, hEX, hxa, hZs⟩ := C
  intro cl sl H locs ls hc9 hs9 hP hZ hS hl
  exact lv_i2f hx hb d (k cl sl H locs ls hc9 hs9 hP hZ hS hl)
theorem y_i2d (C : q_Cy K cc own dd n0 U xa Z) {x : Int32} (d : decode cc pc = .ok (.i2d, 1)) (k : q_Y l K u ex Z (pc + 1) lv (.double (FP.i2d x) :: st) S) : q_Y l K u ex Z pc lv (.int x :: st) S := by
  obtain ⟨p, e, R, s, m, args, below, meth, c, cells, slots, Q, D, cy, ad, A, nL, L⟩ := K
  obtain ⟨hx, hb, hml, hnl, hown, hts, hK, hi, hA1, hA2, hf1, hf2, hc1, hc2, hE, hEX, hxa, hZs⟩ := C
  intro cl sl H locs ls hc9 hs9 hP hZ hS hl
  exact lv_i2d hx hb d (k cl sl H locs ls hc9 hs9 hP hZ hS hl)
theorem y_fdiv (C : q_Cy K cc own dd n0 U xa Z) {x y : UInt32} (hne : vf_n32 (FP.fdiv x y)) (d : decode cc pc = .ok (.fdiv, 1)) (k : q_Y l K u ex Z (pc + 1) lv (.float (FP.fdiv x y) :: st) S) : q_Y l K u ex Z pc lv (.float y :: .float x :: st) S := by
  obtain ⟨p, e, R, s, m, args, below, meth, c, cells, slots, Q, D, cy, ad, A, nL, L⟩ := K
  obtain ⟨hx, hb, hml, hnl, hown, hts, hK, hi, hA1, hA2, hf1, hf2, hc1, hc2, hE, hEX, hxa, hZs⟩ := C
  intro cl sl H locs ls hc9 hs9 hP hZ hS hl
  exact lv_fdiv hx hb d hne (k cl sl H locs ls hc9 hs9 hP hZ hS hl)
theorem y_ddiv (C : q_Cy K cc own dd n0 U xa Z) {x y : UInt64} (hne : vf_n64 (FP.ddiv x y)) (d : decode cc pc = .ok (.ddiv, 1)) (k : q_Y l K u ex Z (pc + 1) lv (.double (FP.ddiv x y) :: st) S) : q_Y l K u ex Z pc lv (.double y :: .double x :: st) S := by
  obtain ⟨p, e, R, s, m, args, below, meth, c, cells, slots, Q, D, cy, ad, A, nL, L⟩ := K
  obtain ⟨hx, hb, hml, hnl, hown, hts, hK, hi, hA1, hA2, hf1, hf2, hc1, hc2, hE, hEX, hxa, hZs⟩ := C
  intro cl sl H locs ls hc9 hs9 hP hZ hS hl
  exact lv_ddiv hx hb d hne (k cl sl H locs ls hc9 hs9 hP hZ hS hl)
theorem y_ldc2d (C : q_Cy K cc own dd n0 U xa Z) {v : UInt64} (hw : Cond.constantDouble own idx v ∈ q_WS) (d : decode cc pc = .ok (.ldc2_w idx, 3)) (k : q_Y l K u ex Z (pc + 3) lv (.double v :: st) S) : q_Y l K u ex Z pc lv st S := by
  obtain ⟨p, e, R, s, m, args, below, meth, c, cells, slots, Q, D, cy, ad, A, nL, L⟩ := K
  obtain ⟨hx, hb, hml, hnl, hown, hts, hK, hi, hA1, hA2, hf1, hf2, hc1, hc2, hE, hEX, hxa, hZs⟩ := C
  intro cl sl H locs ls hc9 hs9 hP hZ hS hl
  exact lv_ldc2d hx hb hown (hts _ hw) d (k cl sl H locs ls hc9 hs9 hP hZ hS hl)
theorem y_dcmpE (C : q_Cy K cc own dd n0 U xa Z) {x y : UInt64} {op : CmpOp} (h : x = y) (hne : FP.Core.dIsNaN x = false) (d : decode cc pc = .ok (.dcmp op, 1)) (k : q_Y l K u ex Z (pc + 1) lv (.int 0 :: st) S) : q_Y l K u ex Z pc lv (.double y :: .double x :: st) S := by
  obtain ⟨p, e, R, s, m, args, below, meth, c, cells, slots, Q, D, cy, ad, A, nL, L⟩ := K
  obtain ⟨hx, hb, hml, hnl, hown, hts, hK, hi, hA1, hA2, hf1, hf2, hc1, hc2, hE, hEX, hxa, hZs⟩ := C
  intro cl sl H locs ls hc9 hs9 hP hZ hS hl
  subst h
  have e9 : FP.dcmp x x = some .eq := FP.Core.dcmp_self ((FP.Core.notNaN_iff x).mp hne)
  exact lv_dcmp hx hb d (by rw [e9]; exact k cl sl H locs ls hc9 hs9 hP hZ hS hl)
theorem y_fcmpE (C : q_Cy K cc own dd n0 U xa Z) {x y : UInt32} {op : CmpOp} (h : x = y) (hne : FP.Core.fIsNaN x = false) (d : decode cc pc = .ok (.fcmp op, 1)) (k : q_Y l K u ex Z (pc + 1) lv (.int 0 :: st) S) : q_Y l K u ex Z pc lv (.float y :: .float x :: st) S := by
  obtain ⟨p, e, R, s, m, args, below, meth, c, cells, slots, Q, D, cy, ad, A, nL, L⟩ := K
  obtain ⟨hx, hb, hml, hnl, hown, hts, hK, hi, hA1, hA2, hf1, hf2, hc1, hc2, hE, hEX, hxa, hZs⟩ := C
  intro cl sl H locs ls hc9 hs9 hP hZ hS hl
  subst h
  have e9 : FP.fcmp x x = some .eq := FP.Core.fcmp_self ((FP.Core.notNaN_iff32 x).mp hne)
  exact lv_fcmp hx hb d (by rw [e9]; exact k cl sl H locs ls hc9 hs9 hP hZ hS hl)
end QYC
