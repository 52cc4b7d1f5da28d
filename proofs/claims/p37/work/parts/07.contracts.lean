def q_rm (d : Nat) : Room := { frames := d, cells := 0, slots := 0, locals := 40 * d }
def q_A (ad : Nat → Nat) (sz : Nat) : Nat → Prop := fun q => (∃ k, k < 112 ∧ q = ad k) ∨ sz ≤ q
def q_Pc (avs : List Value) (S : q_St) (D : va_G) (cy : Nat → ClassId) (ad : Nat → Nat) (sz : Nat) (L : q_L) : Array Value → State → Prop := va_Pc (avs.map (q_gv ad)) (fun U => U.heap.size = sz ∧ va_P D q_cl (q_wl cy ad L S) U.heap ∧ va_K D q_cl (q_tys cy) U ∧ (∀ i j, i < 112 → j < 112 → ad i = ad j → i = j) ∧ q_E ad L (q_A ad sz) U U.heap)
/-- the method answers v and leaves S2 -/
def q_Fi (l : Launch) (y : MethodName) (cd : Cond) (d : Nat) (avs : List Value) (S : q_St) (v : Int32) (S2 : q_St) : Prop := ∀ (D : va_G) (cy : Nat → ClassId) (ad : Nat → Nat) (sz : Nat) (L : q_L), Met l y (cd :: q_WS) (q_rm d) (q_Pc avs S D cy ad sz L) (va_Qi (fun (r : Int32) (u : q_St) => r = v ∧ u = S2) (fun u t => va_P D q_cl (q_wl cy ad L u) t.heap) (q_A ad sz)) 0 0 (q_A ad sz)
def q_Fv (l : Launch) (y : MethodName) (cd : Cond) (d : Nat) (avs : List Value) (S : q_St) (S2 : q_St) : Prop := ∀ (D : va_G) (cy : Nat → ClassId) (ad : Nat → Nat) (sz : Nat) (L : q_L), Met l y (cd :: q_WS) (q_rm d) (q_Pc avs S D cy ad sz L) (va_Qv (fun (u : q_St) => u = S2) (fun u t => va_P D q_cl (q_wl cy ad L u) t.heap) (q_A ad sz)) 0 0 (q_A ad sz)
theorem q_args (ad : Nat → Nat) : ∀ (vs : List Value) (i : Nat), lv_args i (vs.map (q_gv ad)) = q_ml ad (lv_args i vs)
  | [], _ => rfl
  | v :: vs, i => by
    show (i, q_gv ad v) :: lv_args (if (q_gv ad v).category = 2 then i + 2 else i + 1) (vs.map (q_gv ad)) = (i, q_gv ad v) :: q_ml ad (lv_args (if v.category = 2 then i + 2 else i + 1) vs)
    rw [q_gv_cat, q_args ad vs]
theorem q_cats (ad : Nat → Nat) (st : List Value) : ((st.map (q_gv ad)).map fun v => v.category).sum = (st.map Value.category).sum := by
  rw [List.map_map]
  congr 1
  apply List.map_congr_left
  intro v _
  exact q_gv_cat ad v
theorem q_Pc_blind (avs : List Value) (S : q_St) (D : va_G) (cy : Nat → ClassId) (ad : Nat → Nat) (sz : Nat) (L : q_L) : FrameBlind (q_Pc avs S D cy ad sz L) := fun a U g mk q => by
  obtain ⟨q0, q1, qP, qK, qi, qE⟩ := q
  exact ⟨q0, q1, qP, va_K.moved (u := U) (U := U.calling g mk a) (Vm.Alike.refl U.vm) qK, qi, q_E.same (U := U.calling g mk a) rfl qE⟩
theorem q_free {s : State} {H : Heap} {A : Nat → Prop} {ad : Nat → Nat} {locs : List Loc} (hS : va_S A s.heap H locs) (hA1 : ∀ k, k < 112 → A (ad k)) (hA2 : ∀ q, s.heap.size ≤ q → A q) : ∀ q, q_A ad H.size q → A q := by
  intro q h
  rcases h with ⟨k, hk, rfl⟩ | h
  · exact hA1 k hk
  · exact hA2 q (Nat.le_trans hS.1 h)
theorem q_goodV {own : String} {idx : Nat} {y : MethodName} {cd : Cond} (h1 : Cond.methodLink own idx y ∈ q_WS) (h2 : Cond.instanceMethod y ∈ q_WS) (h3 : Cond.selects y.cls y y ∈ q_WS) (h4 : Cond.initialized y.cls ∈ q_WS) (h5 : cd ∈ q_WS) : GoodIn q_WS (wsV own idx y.cls y (cd :: q_WS)) := by
  intro w hw
  have hm : w ∈ q_WS := by
    unfold wsV at hw
    simp only [List.mem_append, List.mem_cons, List.not_mem_nil, or_false] at hw
    rcases hw with (rfl | rfl | rfl | rfl) | (rfl | h) <;> assumption
  exact ⟨hm, good_of_word (q_WS_good w hm)⟩
theorem q_goodS {own : String} {idx : Nat} {y : MethodName} {cd : Cond} (h1 : Cond.methodLink own idx y ∈ q_WS) (h2 : Cond.static y ∈ q_WS) (h4 : Cond.initialized own ∈ q_WS) (h5 : cd ∈ q_WS) : GoodIn q_WS (wsS own idx y (cd :: q_WS)) := by
  intro w hw
  have hm : w ∈ q_WS := by
    unfold wsS at hw
    simp only [List.mem_append, List.mem_cons, List.not_mem_nil, or_false] at hw
    rcases hw with (rfl | rfl | rfl) | (rfl | h) <;> assumption
  exact ⟨hm, good_of_word (q_WS_good w hm)⟩
set_option maxHeartbeats 1000000 in
theorem q_Fi_of {l : Launch} {y : MethodName} {cd : Cond} {cc : ByteArray} {maxL d : Nat} {ty : FieldType} {avs : List Value} {S S2 : q_St} {v : Int32} (hcd : cd = .code y cc maxL (some ty)) (hy : plainName y.cls = true) (hlen : ∀ ad : Nat → Nat, (lg_sl (avs.map (q_gv ad))).length ≤ maxL) (hn : narrow ty (.int v) = .int v) (body : ∀ K : q_K, q_Cx K cc y.cls d maxL → (∀ (pc : Nat) (lv : List (Nat × Value)) (r : Int32) (S' : q_St), decode cc pc = .ok (.ireturn, 1) → r = v → S' = S2 → q_V l K pc lv [.int r] S') → q_V l K 0 (lv_args 0 avs) [] S) : q_Fi l y cd d avs S v S2 := by
  intro D cy ad sz L
  subst hcd
  refine Met.ofW (cc := cc) (maxL := maxL) (ret := (some ty)) hy rfl ?_
  intro p e s m args below meth c s₁ B hml hv
  obtain ⟨rfl, hsz, hP, hK, hi, hE⟩ := hv
  subst hsz
  have hts0 := atoms_spec (ws := Cond.code y cc maxL (some ty) :: q_WS) B.pre
  have hts : ∀ w ∈ q_WS, w.before (avs.map (q_gv ad)).toArray s = true := fun w h => hts0 w (List.mem_cons_of_mem _ h)
  have hown : s.vm.findClass y.cls = some m.cls := findClass_of_methodNamed B.named
  have hlocks := B.notSynchronized
  have hl := lv_entry (avs.map (q_gv ad)) (n := maxL) (hlen ad)
  rw [lg_entry_eq]
  generalize (lg_sl (avs.map (q_gv ad)) ++ List.replicate (maxL - (lg_sl (avs.map (q_gv ad))).length) Slot.unset).toArray = ls at hl ⊢
  rw [q_args] at hl
  refine body (p, e, (headSpec (Cond.code y cc maxL (some ty) :: q_WS) (q_rm d)).room, s, m, (avs.map (q_gv ad)).toArray, below, meth, c, 0, 0, _, D, cy, ad, q_A ad s.heap.size, maxL, L) ⟨B.exec, B.bytes, hml, rfl, hown, hts, hK, hi, fun k hk => Or.inl ⟨k, hk, rfl⟩, fun q h => Or.inr h, Nat.le_refl _, Nat.le_refl _, Nat.zero_le _, Nat.zero_le _, hE⟩ ?_ s.heap [] ls hP va_S.rf hl
  intro pc lv r S' hd hr hS' H locs ls hP hS hl
  subst hr
  exact W.zret B.exec B.bytes B.returns hn (fun t ht hW => ⟨⟨r, S', rfl, ⟨rfl, hS'⟩, by show va_P D q_cl (q_wl cy ad L S') t.heap; rw [ht]; exact hP⟩, hS.F ht⟩) hS.2.2 hd hlocks
set_option maxHeartbeats 1000000 in
theorem q_Fv_of {l : Launch} {y : MethodName} {cd : Cond} {cc : ByteArray} {maxL d : Nat} {avs : List Value} {S S2 : q_St} (hcd : cd = .code y cc maxL none) (hy : plainName y.cls = true) (hlen : ∀ ad : Nat → Nat, (lg_sl (avs.map (q_gv ad))).length ≤ maxL) (body : ∀ K : q_K, q_Cx K cc y.cls d maxL → (∀ (pc : Nat) (lv : List (Nat × Value)) (S' : q_St), decode cc pc = .ok (.return_, 1) → S' = S2 → q_V l K pc lv [] S') → q_V l K 0 (lv_args 0 avs) [] S) : q_Fv l y cd d avs S S2 := by
  intro D cy ad sz L
  subst hcd
  refine Met.ofW (cc := cc) (maxL := maxL) (ret := none) hy rfl ?_
  intro p e s m args below meth c s₁ B hml hv
  obtain ⟨rfl, hsz, hP, hK, hi, hE⟩ := hv
  subst hsz
  have hts0 := atoms_spec (ws := Cond.code y cc maxL none :: q_WS) B.pre
  have hts : ∀ w ∈ q_WS, w.before (avs.map (q_gv ad)).toArray s = true := fun w h => hts0 w (List.mem_cons_of_mem _ h)
  have hown : s.vm.findClass y.cls = some m.cls := findClass_of_methodNamed B.named
  have hlocks := B.notSynchronized
  have hl := lv_entry (avs.map (q_gv ad)) (n := maxL) (hlen ad)
  rw [lg_entry_eq]
  generalize (lg_sl (avs.map (q_gv ad)) ++ List.replicate (maxL - (lg_sl (avs.map (q_gv ad))).length) Slot.unset).toArray = ls at hl ⊢
  rw [q_args] at hl
  refine body (p, e, (headSpec (Cond.code y cc maxL none :: q_WS) (q_rm d)).room, s, m, (avs.map (q_gv ad)).toArray, below, meth, c, 0, 0, _, D, cy, ad, q_A ad s.heap.size, maxL, L) ⟨B.exec, B.bytes, hml, rfl, hown, hts, hK, hi, fun k hk => Or.inl ⟨k, hk, rfl⟩, fun q h => Or.inr h, Nat.le_refl _, Nat.le_refl _, Nat.zero_le _, Nat.zero_le _, hE⟩ ?_ s.heap [] ls hP va_S.rf hl
  intro pc lv S' hd hS' H locs ls hP hS hl
  exact W.vret B.exec B.bytes B.returns (fun t ht hW => ⟨⟨S', rfl, hS', by show va_P D q_cl (q_wl cy ad L S') t.heap; rw [ht]; exact hP⟩, hS.F ht⟩) hS.2.2 hd hlocks
section QC
variable {l : Launch} {K : q_K} {cc : ByteArray} {own : String} {dd n0 pc idx : Nat} {lv : List (Nat × Value)} {st : List Value} {S : q_St}
set_option maxHeartbeats 1000000 in
theorem q_ci (C : q_Cx K cc own dd n0) {y : MethodName} {cd : Cond} {d k0 maxL ci n : Nat} {bytes : ByteArray} {ret : Option FieldType} {As rest : List Value} {S2 : q_St} {v : Int32} {fs : List (Option Nat)} (hM : q_Fi l y cd d (.ref k0 :: As) S v S2) (hy : q_my y cd bytes maxL ret n ci) (hlk : Cond.methodLink own idx y ∈ q_WS) (hn : As.length = n) (hk0 : q_sh[k0]? = some (.inr (ci, fs))) (hR : d + 1 ≤ dd ∧ maxL ≤ 21) (hroom : (rest.map Value.category).sum ≤ 8) (dg : decode cc pc = .ok (.invokevirtual idx, 3)) (kk : q_V l K (pc + 3) lv (.int v :: rest) S2) : q_V l K pc lv (As.reverse ++ .ref k0 :: rest) S := by
  obtain ⟨p, e, R, s, m, args, below, meth, c, cells, slots, Q, D, cy, ad, A, nL, L⟩ := K
  obtain ⟨hx, hb, hml, hnl, hown, hts, hK, hi, hA1, hA2, hf1, hf2, hc1, hc2, hE⟩ := C
  obtain ⟨y1, y2, y3, y4, ⟨T, N, y5⟩, y6, y7, y8, y9⟩ := hy
  intro H locs ls hP hS hl
  have hF := q_free (ad := ad) hS hA1 hA2
  have hn2 : (As.map (q_gv ad)).length = n := by rw [List.length_map]; exact hn
  refine va_calli (va_runV (As := As.map (q_gv ad)) (rest := rest.map (q_gv ad)) ⟨hx, hb, hml, hown, hts⟩ (hM D cy ad H.size L) (cwV n hts (q_goodV hlk y6 y7 y8 y9) (congrArg (fun z => z :: q_WS) y1) rfl rfl ⟨rfl, y2, y3, y4⟩ ⟨Nat.le_trans hR.1 hf1, ?_⟩) ⟨q_Pc_blind _ _ _ _ _ _ _, va_recv hK hP y5 (q_wl_get hk0), fun U hU hW => ⟨rfl, by rw [hU], by rw [hU]; exact hP, va_K.moved hW.alike hK, hi, by rw [hU]; exact q_E.go hE hS.2.1 hF hW⟩⟩ rfl hn2 hl.1 ?_ ?_ dg ⟨hc1, hc2⟩) hS (fun q _ h => hF q h) hF (fun r u t H1 locs1 ht hvm hw hB hz1 hk1 hS1 => ?_)
  · have h9 : (q_rm d).locals = 40 * d := rfl
    rw [h9]
    have h8 := hR.1
    have h7 := hR.2
    omega
  · show (As.reverse ++ .ref k0 :: rest).map (q_gv ad) = _
    rw [List.map_append, List.map_reverse]
    rfl
  · refine lv_room ?_
    rw [q_cats]
    exact hroom
  · obtain ⟨rfl, rfl⟩ := hw
    exact kk H1 locs1 ls (by rw [← ht]; exact hB) hS1 hl
theorem q_ci0 (C : q_Cx K cc own dd n0) {y : MethodName} {cd : Cond} {d k0 maxL ci : Nat} {bytes : ByteArray} {ret : Option FieldType} {rest : List Value} {S2 : q_St} {v : Int32} {fs : List (Option Nat)} (hM : q_Fi l y cd d (.ref k0 :: []) S v S2) (hy : q_my y cd bytes maxL ret 0 ci) (hlk : Cond.methodLink own idx y ∈ q_WS) (hk0 : q_sh[k0]? = some (.inr (ci, fs))) (hR : d + 1 ≤ dd ∧ maxL ≤ 21) (hroom : (rest.map Value.category).sum ≤ 8) (dg : decode cc pc = .ok (.invokevirtual idx, 3)) (kk : q_V l K (pc + 3) lv (.int v :: rest) S2) : q_V l K pc lv (.ref k0 :: rest) S := q_ci C hM hy hlk rfl hk0 hR hroom dg kk
theorem q_ci1 (C : q_Cx K cc own dd n0) {y : MethodName} {cd : Cond} {d k0 maxL ci : Nat} {bytes : ByteArray} {ret : Option FieldType} {a1 : Value} {rest : List Value} {S2 : q_St} {v : Int32} {fs : List (Option Nat)} (hM : q_Fi l y cd d (.ref k0 :: [a1]) S v S2) (hy : q_my y cd bytes maxL ret 1 ci) (hlk : Cond.methodLink own idx y ∈ q_WS) (hk0 : q_sh[k0]? = some (.inr (ci, fs))) (hR : d + 1 ≤ dd ∧ maxL ≤ 21) (hroom : (rest.map Value.category).sum ≤ 8) (dg : decode cc pc = .ok (.invokevirtual idx, 3)) (kk : q_V l K (pc + 3) lv (.int v :: rest) S2) : q_V l K pc lv (a1 :: .ref k0 :: rest) S := q_ci C hM hy hlk rfl hk0 hR hroom dg kk
theorem q_ci2 (C : q_Cx K cc own dd n0) {y : MethodName} {cd : Cond} {d k0 maxL ci : Nat} {bytes : ByteArray} {ret : Option FieldType} {a1 a2 : Value} {rest : List Value} {S2 : q_St} {v : Int32} {fs : List (Option Nat)} (hM : q_Fi l y cd d (.ref k0 :: [a1, a2]) S v S2) (hy : q_my y cd bytes maxL ret 2 ci) (hlk : Cond.methodLink own idx y ∈ q_WS) (hk0 : q_sh[k0]? = some (.inr (ci, fs))) (hR : d + 1 ≤ dd ∧ maxL ≤ 21) (hroom : (rest.map Value.category).sum ≤ 8) (dg : decode cc pc = .ok (.invokevirtual idx, 3)) (kk : q_V l K (pc + 3) lv (.int v :: rest) S2) : q_V l K pc lv (a2 :: a1 :: .ref k0 :: rest) S := q_ci C hM hy hlk rfl hk0 hR hroom dg kk
theorem q_ci3 (C : q_Cx K cc own dd n0) {y : MethodName} {cd : Cond} {d k0 maxL ci : Nat} {bytes : ByteArray} {ret : Option FieldType} {a1 a2 a3 : Value} {rest : List Value} {S2 : q_St} {v : Int32} {fs : List (Option Nat)} (hM : q_Fi l y cd d (.ref k0 :: [a1, a2, a3]) S v S2) (hy : q_my y cd bytes maxL ret 3 ci) (hlk : Cond.methodLink own idx y ∈ q_WS) (hk0 : q_sh[k0]? = some (.inr (ci, fs))) (hR : d + 1 ≤ dd ∧ maxL ≤ 21) (hroom : (rest.map Value.category).sum ≤ 8) (dg : decode cc pc = .ok (.invokevirtual idx, 3)) (kk : q_V l K (pc + 3) lv (.int v :: rest) S2) : q_V l K pc lv (a3 :: a2 :: a1 :: .ref k0 :: rest) S := q_ci C hM hy hlk rfl hk0 hR hroom dg kk
theorem q_ci4 (C : q_Cx K cc own dd n0) {y : MethodName} {cd : Cond} {d k0 maxL ci : Nat} {bytes : ByteArray} {ret : Option FieldType} {a1 a2 a3 a4 : Value} {rest : List Value} {S2 : q_St} {v : Int32} {fs : List (Option Nat)} (hM : q_Fi l y cd d (.ref k0 :: [a1, a2, a3, a4]) S v S2) (hy : q_my y cd bytes maxL ret 4 ci) (hlk : Cond.methodLink own idx y ∈ q_WS) (hk0 : q_sh[k0]? = some (.inr (ci, fs))) (hR : d + 1 ≤ dd ∧ maxL ≤ 21) (hroom : (rest.map Value.category).sum ≤ 8) (dg : decode cc pc = .ok (.invokevirtual idx, 3)) (kk : q_V l K (pc + 3) lv (.int v :: rest) S2) : q_V l K pc lv (a4 :: a3 :: a2 :: a1 :: .ref k0 :: rest) S := q_ci C hM hy hlk rfl hk0 hR hroom dg kk
set_option maxHeartbeats 1000000 in
theorem q_cv (C : q_Cx K cc own dd n0) {y : MethodName} {cd : Cond} {d k0 maxL ci n : Nat} {bytes : ByteArray} {ret : Option FieldType} {As rest : List Value} {S2 : q_St} {fs : List (Option Nat)} (hM : q_Fv l y cd d (.ref k0 :: As) S S2) (hy : q_my y cd bytes maxL ret n ci) (hlk : Cond.methodLink own idx y ∈ q_WS) (hn : As.length = n) (hk0 : q_sh[k0]? = some (.inr (ci, fs))) (hR : d + 1 ≤ dd ∧ maxL ≤ 21) (hroom : (rest.map Value.category).sum ≤ 8) (dg : decode cc pc = .ok (.invokevirtual idx, 3)) (kk : q_V l K (pc + 3) lv rest S2) : q_V l K pc lv (As.reverse ++ .ref k0 :: rest) S := by
  obtain ⟨p, e, R, s, m, args, below, meth, c, cells, slots, Q, D, cy, ad, A, nL, L⟩ := K
  obtain ⟨hx, hb, hml, hnl, hown, hts, hK, hi, hA1, hA2, hf1, hf2, hc1, hc2, hE⟩ := C
  obtain ⟨y1, y2, y3, y4, ⟨T, N, y5⟩, y6, y7, y8, y9⟩ := hy
  intro H locs ls hP hS hl
  have hF := q_free (ad := ad) hS hA1 hA2
  have hn2 : (As.map (q_gv ad)).length = n := by rw [List.length_map]; exact hn
  refine va_callv (va_runV (As := As.map (q_gv ad)) (rest := rest.map (q_gv ad)) ⟨hx, hb, hml, hown, hts⟩ (hM D cy ad H.size L) (cwV n hts (q_goodV hlk y6 y7 y8 y9) (congrArg (fun z => z :: q_WS) y1) rfl rfl ⟨rfl, y2, y3, y4⟩ ⟨Nat.le_trans hR.1 hf1, ?_⟩) ⟨q_Pc_blind _ _ _ _ _ _ _, va_recv hK hP y5 (q_wl_get hk0), fun U hU hW => ⟨rfl, by rw [hU], by rw [hU]; exact hP, va_K.moved hW.alike hK, hi, by rw [hU]; exact q_E.go hE hS.2.1 hF hW⟩⟩ rfl hn2 hl.1 ?_ ?_ dg ⟨hc1, hc2⟩) hS (fun q _ h => hF q h) hF (fun u t H1 locs1 ht hvm hw hB hz1 hk1 hS1 => ?_)
  · have h9 : (q_rm d).locals = 40 * d := rfl
    rw [h9]
    have h8 := hR.1
    have h7 := hR.2
    omega
  · show (As.reverse ++ .ref k0 :: rest).map (q_gv ad) = _
    rw [List.map_append, List.map_reverse]
    rfl
  · refine lv_room ?_
    rw [q_cats]
    exact hroom
  · subst hw
    exact kk H1 locs1 ls (by rw [← ht]; exact hB) hS1 hl
theorem q_cv0 (C : q_Cx K cc own dd n0) {y : MethodName} {cd : Cond} {d k0 maxL ci : Nat} {bytes : ByteArray} {ret : Option FieldType} {rest : List Value} {S2 : q_St} {fs : List (Option Nat)} (hM : q_Fv l y cd d (.ref k0 :: []) S S2) (hy : q_my y cd bytes maxL ret 0 ci) (hlk : Cond.methodLink own idx y ∈ q_WS) (hk0 : q_sh[k0]? = some (.inr (ci, fs))) (hR : d + 1 ≤ dd ∧ maxL ≤ 21) (hroom : (rest.map Value.category).sum ≤ 8) (dg : decode cc pc = .ok (.invokevirtual idx, 3)) (kk : q_V l K (pc + 3) lv rest S2) : q_V l K pc lv (.ref k0 :: rest) S := q_cv C hM hy hlk rfl hk0 hR hroom dg kk
theorem q_cv1 (C : q_Cx K cc own dd n0) {y : MethodName} {cd : Cond} {d k0 maxL ci : Nat} {bytes : ByteArray} {ret : Option FieldType} {a1 : Value} {rest : List Value} {S2 : q_St} {fs : List (Option Nat)} (hM : q_Fv l y cd d (.ref k0 :: [a1]) S S2) (hy : q_my y cd bytes maxL ret 1 ci) (hlk : Cond.methodLink own idx y ∈ q_WS) (hk0 : q_sh[k0]? = some (.inr (ci, fs))) (hR : d + 1 ≤ dd ∧ maxL ≤ 21) (hroom : (rest.map Value.category).sum ≤ 8) (dg : decode cc pc = .ok (.invokevirtual idx, 3)) (kk : q_V l K (pc + 3) lv rest S2) : q_V l K pc lv (a1 :: .ref k0 :: rest) S := q_cv C hM hy hlk rfl hk0 hR hroom dg kk
theorem q_cv2 (C : q_Cx K cc own dd n0) {y : MethodName} {cd : Cond} {d k0 maxL ci : Nat} {bytes : ByteArray} {ret : Option FieldType} {a1 a2 : Value} {rest : List Value} {S2 : q_St} {fs : List (Option Nat)} (hM : q_Fv l y cd d (.ref k0 :: [a1, a2]) S S2) (hy : q_my y cd bytes maxL ret 2 ci) (hlk : Cond.methodLink own idx y ∈ q_WS) (hk0 : q_sh[k0]? = some (.inr (ci, fs))) (hR : d + 1 ≤ dd ∧ maxL ≤ 21) (hroom : (rest.map Value.category).sum ≤ 8) (dg : decode cc pc = .ok (.invokevirtual idx, 3)) (kk : q_V l K (pc + 3) lv rest S2) : q_V l K pc lv (a2 :: a1 :: .ref k0 :: rest) S := q_cv C hM hy hlk rfl hk0 hR hroom dg kk
theorem q_cv3 (C : q_Cx K cc own dd n0) {y : MethodName} {cd : Cond} {d k0 maxL ci : Nat} {bytes : ByteArray} {ret : Option FieldType} {a1 a2 a3 : Value} {rest : List Value} {S2 : q_St} {fs : List (Option Nat)} (hM : q_Fv l y cd d (.ref k0 :: [a1, a2, a3]) S S2) (hy : q_my y cd bytes maxL ret 3 ci) (hlk : Cond.methodLink own idx y ∈ q_WS) (hk0 : q_sh[k0]? = some (.inr (ci, fs))) (hR : d + 1 ≤ dd ∧ maxL ≤ 21) (hroom : (rest.map Value.category).sum ≤ 8) (dg : decode cc pc = .ok (.invokevirtual idx, 3)) (kk : q_V l K (pc + 3) lv rest S2) : q_V l K pc lv (a3 :: a2 :: a1 :: .ref k0 :: rest) S := q_cv C hM hy hlk rfl hk0 hR hroom dg kk
theorem q_cv4 (C : q_Cx K cc own dd n0) {y : MethodName} {cd : Cond} {d k0 maxL ci : Nat} {bytes : ByteArray} {ret : Option FieldType} {a1 a2 a3 a4 : Value} {rest : List Value} {S2 : q_St} {fs : List (Option Nat)} (hM : q_Fv l y cd d (.ref k0 :: [a1, a2, a3, a4]) S S2) (hy : q_my y cd bytes maxL ret 4 ci) (hlk : Cond.methodLink own idx y ∈ q_WS) (hk0 : q_sh[k0]? = some (.inr (ci, fs))) (hR : d + 1 ≤ dd ∧ maxL ≤ 21) (hroom : (rest.map Value.category).sum ≤ 8) (dg : decode cc pc = .ok (.invokevirtual idx, 3)) (kk : q_V l K (pc + 3) lv rest S2) : q_V l K pc lv (a4 :: a3 :: a2 :: a1 :: .ref k0 :: rest) S := q_cv C hM hy hlk rfl hk0 hR hroom dg kk
set_option maxHeartbeats 1000000 in
theorem q_si (C : q_Cx K cc own dd n0) {y : MethodName} {cd : Cond} {d maxL n : Nat} {bytes : ByteArray} {ret : Option FieldType} {As rest : List Value} {S2 : q_St} {v : Int32} (hM : q_Fi l y cd d As S v S2) (hy : q_ms y cd bytes maxL ret n) (hco : y.cls = own) (hlk : Cond.methodLink own idx y ∈ q_WS) (hn : As.length = n) (hR : d + 1 ≤ dd ∧ maxL ≤ 21) (hroom : (rest.map Value.category).sum ≤ 8) (dg : decode cc pc = .ok (.invokestatic idx, 3)) (kk : q_V l K (pc + 3) lv (.int v :: rest) S2) : q_V l K pc lv (As.reverse ++ rest) S := by
  obtain ⟨p, e, R, s, m, args, below, meth, c, cells, slots, Q, D, cy, ad, A, nL, L⟩ := K
  obtain ⟨hx, hb, hml, hnl, hown, hts, hK, hi, hA1, hA2, hf1, hf2, hc1, hc2, hE⟩ := C
  obtain ⟨y1, y2, y3, y4, y6, y8, y9⟩ := hy
  intro H locs ls hP hS hl
  have hF := q_free (ad := ad) hS hA1 hA2
  have hn2 : (As.map (q_gv ad)).length = n := by rw [List.length_map]; exact hn
  refine va_calli (va_runS (As := As.map (q_gv ad)) (rest := rest.map (q_gv ad)) ⟨hx, hb, hml, hown, hts⟩ (hM D cy ad H.size L) (cwS n hts (q_goodS hlk y6 (by rw [← hco]; exact y8) y9) (congrArg (fun z => z :: q_WS) y1) rfl rfl ⟨hco, y2, y3, y4⟩ ⟨Nat.le_trans hR.1 hf1, ?_⟩) ⟨q_Pc_blind _ _ _ _ _ _ _, fun U hU hW => ⟨rfl, by rw [hU], by rw [hU]; exact hP, va_K.moved hW.alike hK, hi, by rw [hU]; exact q_E.go hE hS.2.1 hF hW⟩⟩ rfl hn2 hl.1 ?_ ?_ dg ⟨hc1, hc2⟩) hS (fun q _ h => hF q h) hF (fun r u t H1 locs1 ht hvm hw hB hz1 hk1 hS1 => ?_)
  · have h9 : (q_rm d).locals = 40 * d := rfl
    rw [h9]
    have h8 := hR.1
    have h7 := hR.2
    omega
  · show (As.reverse ++ rest).map (q_gv ad) = _
    rw [List.map_append, List.map_reverse]
  · refine lv_room ?_
    rw [q_cats]
    exact hroom
  · obtain ⟨rfl, rfl⟩ := hw
    exact kk H1 locs1 ls (by rw [← ht]; exact hB) hS1 hl
theorem q_si1 (C : q_Cx K cc own dd n0) {y : MethodName} {cd : Cond} {d maxL : Nat} {bytes : ByteArray} {ret : Option FieldType} {a1 : Value} {rest : List Value} {S2 : q_St} {v : Int32} (hM : q_Fi l y cd d [a1] S v S2) (hy : q_ms y cd bytes maxL ret 1) (hco : y.cls = own) (hlk : Cond.methodLink own idx y ∈ q_WS) (hR : d + 1 ≤ dd ∧ maxL ≤ 21) (hroom : (rest.map Value.category).sum ≤ 8) (dg : decode cc pc = .ok (.invokestatic idx, 3)) (kk : q_V l K (pc + 3) lv (.int v :: rest) S2) : q_V l K pc lv (a1 :: rest) S := q_si C hM hy hco hlk rfl hR hroom dg kk
theorem q_si2 (C : q_Cx K cc own dd n0) {y : MethodName} {cd : Cond} {d maxL : Nat} {bytes : ByteArray} {ret : Option FieldType} {a1 a2 : Value} {rest : List Value} {S2 : q_St} {v : Int32} (hM : q_Fi l y cd d [a1, a2] S v S2) (hy : q_ms y cd bytes maxL ret 2) (hco : y.cls = own) (hlk : Cond.methodLink own idx y ∈ q_WS) (hR : d + 1 ≤ dd ∧ maxL ≤ 21) (hroom : (rest.map Value.category).sum ≤ 8) (dg : decode cc pc = .ok (.invokestatic idx, 3)) (kk : q_V l K (pc + 3) lv (.int v :: rest) S2) : q_V l K pc lv (a2 :: a1 :: rest) S := q_si C hM hy hco hlk rfl hR hroom dg kk
theorem q_si3 (C : q_Cx K cc own dd n0) {y : MethodName} {cd : Cond} {d maxL : Nat} {bytes : ByteArray} {ret : Option FieldType} {a1 a2 a3 : Value} {rest : List Value} {S2 : q_St} {v : Int32} (hM : q_Fi l y cd d [a1, a2, a3] S v S2) (hy : q_ms y cd bytes maxL ret 3) (hco : y.cls = own) (hlk : Cond.methodLink own idx y ∈ q_WS) (hR : d + 1 ≤ dd ∧ maxL ≤ 21) (hroom : (rest.map Value.category).sum ≤ 8) (dg : decode cc pc = .ok (.invokestatic idx, 3)) (kk : q_V l K (pc + 3) lv (.int v :: rest) S2) : q_V l K pc lv (a3 :: a2 :: a1 :: rest) S := q_si C hM hy hco hlk rfl hR hroom dg kk
theorem q_copyV (C : q_Cx K cc own dd n0) {k0 k1 m0 m1 sp dp n : Nat} {xs xd xn : Int32} {f : Nat → Int32} (sh0 : q_sh[k0]? = some (.inl (0, m0))) (sh1 : q_sh[k1]? = some (.inl (0, m1))) (e1 : xn = nI n) (e2 : xd = nI dp) (e3 : xs = nI sp) (hl9 : Cond.methodLink own idx arraycopyName ∈ q_WS) (w1 : Cond.native arraycopyName ∈ q_WS) (w2 : Cond.static arraycopyName ∈ q_WS) (w3 : Cond.initialized "java/lang/System" ∈ q_WS) (h4 : sp + n ≤ m0) (h5 : dp + n ≤ m1) (hm0 : m0 < 2 ^ 31) (hm1 : m1 < 2 ^ 31) (hdd : 1 ≤ dd) (hroom : (st.map Value.category).sum ≤ 8) (d : decode cc pc = .ok (.invokestatic idx, 3)) (hf : va_cpy (S k0) (S k1) sp dp n = f) (kk : q_V l K (pc + 3) lv st (q_u S k1 f)) : q_V l K pc lv (.int xn :: .int xd :: .ref k1 :: .int xs :: .ref k0 :: st) S := by
  subst e1; subst e2; subst e3; subst hf
  exact q_copy C sh0 sh1 hl9 w1 w2 w3 h4 h5 hm0 hm1 hdd hroom d kk
theorem q_min (C : q_Cx K cc own dd n0) {x y : Int32} (hl9 : Cond.methodLink own idx Lib.Math.min.name ∈ q_WS) (hdd : 1 ≤ dd) (hroom : (st.map Value.category).sum ≤ 8) (d : decode cc pc = .ok (.invokestatic idx, 3)) (kk : q_V l K (pc + 3) lv (.int (if y < x then y else x) :: st) S) : q_V l K pc lv (.int y :: .int x :: st) S := by
  obtain ⟨p, e, R, s, m, args, below, meth, c, cells, slots, Q, D, cy, ad, A, nL, L⟩ := K
  obtain ⟨hx, hb, hml, hnl, hown, hts, hK, hi, hA1, hA2, hf1, hf2, hc1, hc2, hE⟩ := C
  intro H locs ls hP hS hl
  exact va_mmin hx hb (hml.trans hl.1.symm) hown (hts _ hl9) (hts _ w_minS) (hts _ w_mathI) (hts _ w_minC) (by omega) (by rw [q_cats]; omega) hc1 hc2 d (kk H locs ls hP hS hl)
theorem q_minN {a b : Nat} {x y : Int32} (C : q_Cx K cc own dd n0) (h1 : x = nI a) (h2 : y = nI b) (ha : a < 2 ^ 31) (hb9 : b < 2 ^ 31) (hl9 : Cond.methodLink own idx Lib.Math.min.name ∈ q_WS) (hdd : 1 ≤ dd) (hroom : (st.map Value.category).sum ≤ 8) (d : decode cc pc = .ok (.invokestatic idx, 3)) (kk : q_V l K (pc + 3) lv (.int (nI (min a b)) :: st) S) : q_V l K pc lv (.int y :: .int x :: st) S := by
  subst h1; subst h2
  refine q_min C hl9 hdd hroom d ?_
  have e9 : (if nI b < nI a then nI b else nI a) = nI (min a b) := by
    by_cases h : b < a
    · rw [if_pos ((nI_ltI hb9 ha).mpr h), Nat.min_eq_right (by omega)]
    · rw [if_neg (fun q => h ((nI_ltI hb9 ha).mp q)), Nat.min_eq_left (by omega)]
  rw [e9]
  exact kk
theorem q_abs (C : q_Cx K cc own dd n0) {x : Int32} (hl9 : Cond.methodLink own idx Lib.Math.abs.name ∈ q_WS) (hdd : 1 ≤ dd) (hroom : (st.map Value.category).sum ≤ 8) (d : decode cc pc = .ok (.invokestatic idx, 3)) (kk : q_V l K (pc + 3) lv (.int (if 0 ≤ x then x else 0 - x) :: st) S) : q_V l K pc lv (.int x :: st) S := by
  obtain ⟨p, e, R, s, m, args, below, meth, c, cells, slots, Q, D, cy, ad, A, nL, L⟩ := K
  obtain ⟨hx, hb, hml, hnl, hown, hts, hK, hi, hA1, hA2, hf1, hf2, hc1, hc2, hE⟩ := C
  intro H locs ls hP hS hl
  exact va_mabs hx hb (hml.trans hl.1.symm) hown (hts _ hl9) (hts _ w_absS) (hts _ w_mathI) (hts _ w_absC) (by omega) (by rw [q_cats]; omega) hc1 hc2 d (kk H locs ls hP hS hl)
end QC
