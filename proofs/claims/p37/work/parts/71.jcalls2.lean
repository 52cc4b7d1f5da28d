
/-! further rows for the methods of text -/
section QJD
variable {l : Launch} {K : q_K} {cc : ByteArray} {own : String} {dd n0 U u pc idx : Nat} {ws fr : va_W} {lv : List (Nat × Value)} {st : List Value}
theorem j_ifnn (C : q_Cj K cc own dd n0 U) {x : Nat} {off : Int} {tgt : Nat} (d : decode cc pc = .ok (.ifnonnull off, 3)) (ht : (pc : Int) + off = (tgt : Int)) (kk : q_J l K u ws tgt lv st) : q_J l K u ws pc lv (.ref x :: st) := by
  obtain ⟨p, e, R, s, m, args, below, meth, c, cells, slots, Q, D, cy, ad, A, nL, L⟩ := K
  obtain ⟨hx, hb, hml, hnl, hown, hts, hK, hA2, hf1, hf2, hc1, hc2, hE, hEX⟩ := C
  intro cl sl H locs ls hc9 hs9 hP hD hS hl
  exact lv_ifnonnull hx hb d ht (kk cl sl H locs ls hc9 hs9 hP hD hS hl)
theorem j_dupx1 (C : q_Cj K cc own dd n0 U) {va vb : Value} (d : decode cc pc = .ok (.dup_x1, 1)) (h1 : va.category = 1) (h2 : vb.category = 1) (kk : q_J l K u ws (pc + 1) lv (va :: vb :: va :: st)) : q_J l K u ws pc lv (va :: vb :: st) := by
  obtain ⟨p, e, R, s, m, args, below, meth, c, cells, slots, Q, D, cy, ad, A, nL, L⟩ := K
  obtain ⟨hx, hb, hml, hnl, hown, hts, hK, hA2, hf1, hf2, hc1, hc2, hE, hEX⟩ := C
  intro cl sl H locs ls hc9 hs9 hP hD hS hl
  exact lv_dup_x1 hx hb d h1 h2 (kk cl sl H locs ls hc9 hs9 hP hD hS hl)
theorem j_i2b (C : q_Cj K cc own dd n0 U) {x v : Int32} (hv : x.toInt8.toInt32 = v) (d : decode cc pc = .ok (.i2b, 1)) (kk : q_J l K u ws (pc + 1) lv (.int v :: st)) : q_J l K u ws pc lv (.int x :: st) := by
  obtain ⟨p, e, R, s, m, args, below, meth, c, cells, slots, Q, D, cy, ad, A, nL, L⟩ := K
  obtain ⟨hx, hb, hml, hnl, hown, hts, hK, hA2, hf1, hf2, hc1, hc2, hE, hEX⟩ := C
  intro cl sl H locs ls hc9 hs9 hP hD hS hl
  exact lv_i2b hx hb d hv (kk cl sl H locs ls hc9 hs9 hP hD hS hl)
theorem j_null (C : q_Cj K cc own dd n0 U) (d : decode cc pc = .ok (.aconst_null, 1)) (kk : q_J l K u ws (pc + 1) lv (.null :: st)) : q_J l K u ws pc lv st := by
  obtain ⟨p, e, R, s, m, args, below, meth, c, cells, slots, Q, D, cy, ad, A, nL, L⟩ := K
  obtain ⟨hx, hb, hml, hnl, hown, hts, hK, hA2, hf1, hf2, hc1, hc2, hE, hEX⟩ := C
  intro cl sl H locs ls hc9 hs9 hP hD hS hl
  exact lv_null hx hb d (kk cl sl H locs ls hc9 hs9 hP hD hS hl)
theorem q_goodSU {own : String} {idx : Nat} {y : MethodName} {cd : Cond} (h1 : Cond.methodLink own idx y ∈ q_WS) (h2 : Cond.sameMethod y.cls y.cls y.name y.desc ∈ q_WS) (h3 : Cond.superclass own y.cls ∈ q_WS) (h4 : Cond.instanceMethod y ∈ q_WS) (h5 : Cond.initialized y.cls ∈ q_WS) (h6 : cd ∈ q_WS) : GoodIn q_WS (va_wsSU own idx y (cd :: q_WS)) := by
  intro w hw
  have hm : w ∈ q_WS := by
    unfold va_wsSU at hw
    simp only [List.mem_append, List.mem_cons, List.not_mem_nil, or_false] at hw
    rcases hw with (rfl | rfl | rfl | rfl | rfl) | (rfl | h) <;> assumption
  exact ⟨hm, good_of_word (q_WS_good w hm)⟩
set_option maxHeartbeats 1000000 in
theorem j_csu (C : q_Cj K cc own dd n0 U) {y : MethodName} {cd : Cond} {d u1 maxL n : Nat} {bytes : ByteArray} {ret : Option FieldType} {As rest st0 : List Value} {w : (Nat → ClassId) → va_W} {P : (Nat → ClassId) → Nat → Option Value → va_W → Prop} {b k0 : Nat} {fs : List Value} (hM : q_Jm l y cd d u1 (.ref b :: As) w P) (hrc : (w (q_cy K))[k0]? = some (b, .inr (7, fs))) (hownS : own = RSB) (y1 : cd = .code y bytes maxL ret) (y2 : y.name ≠ "<init>" ∧ (parseMethodDescriptor y.desc).map (fun d => d.parameters.length) = some n) (hlk : Cond.methodLink own idx y ∈ q_WS) (y6 : Cond.instanceMethod y ∈ q_WS) (y8 : Cond.initialized y.cls ∈ q_WS) (y9 : cd ∈ q_WS) (y10 : Cond.sameMethod y.cls y.cls y.name y.desc ∈ q_WS) (y11 : Cond.superclass own y.cls ∈ q_WS) (hn : As.length = n) (hst : st0 = As.reverse ++ .ref b :: rest) (hR : d + 1 ≤ dd ∧ maxL ≤ 21) (hU : u + u1 ≤ U) (hroom : (rest.map Value.category).sum ≤ 8) (dg : decode cc pc = .ok (.invokespecial idx, 3)) (kk : ∀ (sz : Nat) (rv : Option Value) (w' : va_W), q_sz0 K ≤ sz → (∀ q ∈ w (q_cy K) ++ fr, q.1 < sz) → P (q_cy K) sz rv w' → q_J l K (u + u1) (w' ++ fr) (pc + 3) lv (rv.toList ++ rest)) : q_J l K u (w (q_cy K) ++ fr) pc lv st0 := by
  obtain ⟨p, e, R, s, m, args, below, meth, c, cells, slots, Q, D, cy, ad, A, nL, L⟩ := K
  obtain ⟨hx, hb, hml, hnl, hown, hts, hK, hA2, hf1, hf2, hc1, hc2, hE, hEX⟩ := C
  intro cl sl H locs ls hc9 hs9 hP hD hS hl
  have hF := q_freeJ hD hS hA2
  have hlt : ∀ q ∈ w cy ++ fr, q.1 < H.size := fun q hq => by
    obtain ⟨i, hi⟩ := q_mem_at hq
    exact vx_lt hP hi
  have hpre : ∀ T : State, T.heap = H → s.WarmedH T.vm → q_Pj (.ref b :: As) (w cy) H.size D cy ad L (.ref b :: As).toArray T := fun T hT hW => ⟨rfl, by rw [hT], by rw [hT]; exact q_P_l hP, q_ownJ hD _, va_K.moved hW.alike hK, by rw [hT]; exact q_E.go hE hS.2.1 hF hW, q_EX.go hEX hW⟩
  have hat : ClassAt s own (D.1 7) := by rw [hownS]; exact (hK.1 7 _ rfl).2
  refine q_runJ (va_runSU (As := As) (rest := rest) hat ⟨hx, hb, hml, hown, hts⟩ (hM D cy ad H.size L) (va_cwSU n hts (q_goodSU hlk y10 y11 y6 y8 y9) (congrArg (fun z => z :: q_WS) y1) rfl rfl y2 ⟨Nat.le_trans hR.1 hf1, ?_⟩) ⟨q_Pj_blind _ _ _ _ _ _ _, by rw [hownS]; exact va_recv (q := (RSB, TSB, 4)) hK (q_P_l hP) rfl hrc, hpre⟩ rfl hn hl.1 hst (lv_room hroom) dg ⟨by omega, by omega⟩) hP hD hS hA2 (fun rv w' H1 locs1 hp hP1 hD1 hS1 => kk H.size rv w' hS.1 hlt hp (cl + u1) (sl + 6 * u1) H1 locs1 ls (by omega) (by omega) hP1 hD1 hS1 hl)
  · have h9 : (q_rmX d u1).locals = 40 * d := rfl
    rw [h9]
    have h8 := hR.1
    have h7 := hR.2
    omega

set_option maxHeartbeats 1000000 in
theorem j_cv (C : q_Cj K cc own dd n0 U) {y : MethodName} {cd : Cond} {d u1 maxL n : Nat} {bytes : ByteArray} {ret : Option FieldType} {As rest st0 : List Value} {w : (Nat → ClassId) → va_W} {P : (Nat → ClassId) → Nat → Option Value → va_W → Prop} {b k0 : Nat} {fs : List Value} (hM : q_Jm l y cd d u1 (.ref b :: As) w P) (hrc : (w (q_cy K))[k0]? = some (b, .inr (8, fs))) (hcls : y.cls = RST) (y1 : cd = .code y bytes maxL ret) (y2 : y.cls ≠ "java/lang/invoke/MethodHandle" ∧ y.cls ≠ "java/lang/invoke/VarHandle" ∧ (parseMethodDescriptor y.desc).map (fun d => d.parameters.length) = some n) (hlk : Cond.methodLink own idx y ∈ q_WS) (y6 : Cond.instanceMethod y ∈ q_WS) (y7 : Cond.selects y.cls y y ∈ q_WS) (y8 : Cond.initialized y.cls ∈ q_WS) (y9 : cd ∈ q_WS) (hn : As.length = n) (hst : st0 = As.reverse ++ .ref b :: rest) (hR : d + 1 ≤ dd ∧ maxL ≤ 21) (hU : u + u1 ≤ U) (hroom : (rest.map Value.category).sum ≤ 8) (dg : decode cc pc = .ok (.invokevirtual idx, 3)) (kk : ∀ (sz : Nat) (rv : Option Value) (w' : va_W), q_sz0 K ≤ sz → (∀ q ∈ w (q_cy K) ++ fr, q.1 < sz) → P (q_cy K) sz rv w' → q_J l K (u + u1) (w' ++ fr) (pc + 3) lv (rv.toList ++ rest)) : q_J l K u (w (q_cy K) ++ fr) pc lv st0 := by
  obtain ⟨p, e, R, s, m, args, below, meth, c, cells, slots, Q, D, cy, ad, A, nL, L⟩ := K
  obtain ⟨hx, hb, hml, hnl, hown, hts, hK, hA2, hf1, hf2, hc1, hc2, hE, hEX⟩ := C
  intro cl sl H locs ls hc9 hs9 hP hD hS hl
  have hF := q_freeJ hD hS hA2
  have hlt : ∀ q ∈ w cy ++ fr, q.1 < H.size := fun q hq => by
    obtain ⟨i, hi⟩ := q_mem_at hq
    exact vx_lt hP hi
  have hpre : ∀ T : State, T.heap = H → s.WarmedH T.vm → q_Pj (.ref b :: As) (w cy) H.size D cy ad L (.ref b :: As).toArray T := fun T hT hW => ⟨rfl, by rw [hT], by rw [hT]; exact q_P_l hP, q_ownJ hD _, va_K.moved hW.alike hK, by rw [hT]; exact q_E.go hE hS.2.1 hF hW, q_EX.go hEX hW⟩
  refine q_runJ (va_runV (As := As) (rest := rest) ⟨hx, hb, hml, hown, hts⟩ (hM D cy ad H.size L) (cwV n hts (q_goodV hlk y6 y7 y8 y9) (congrArg (fun z => z :: q_WS) y1) rfl rfl ⟨rfl, y2⟩ ⟨Nat.le_trans hR.1 hf1, ?_⟩) ⟨q_Pj_blind _ _ _ _ _ _ _, by rw [hcls]; exact va_recv (q := (RST, TST, 4)) hK (q_P_l hP) rfl hrc, hpre⟩ rfl hn hl.1 hst (lv_room hroom) dg ⟨by omega, by omega⟩) hP hD hS hA2 (fun rv w' H1 locs1 hp hP1 hD1 hS1 => kk H.size rv w' hS.1 hlt hp (cl + u1) (sl + 6 * u1) H1 locs1 ls (by omega) (by omega) hP1 hD1 hS1 hl)
  · have h9 : (q_rmX d u1).locals = 40 * d := rfl
    rw [h9]
    have h8 := hR.1
    have h7 := hR.2
    omega

set_option maxHeartbeats 1000000 in
theorem j_ci (C : q_Cj K cc own dd n0 U) {y : MethodName} {cd : Cond} {d u1 maxL n : Nat} {bytes : ByteArray} {As rest st0 : List Value} {w : (Nat → ClassId) → va_W} {P : (Nat → ClassId) → Nat → Option Value → va_W → Prop} {b : Nat} (hM : q_Jm l y cd d u1 (.ref b :: As) w P) (hy1 : y.name = "<init>") (y1 : cd = .code y bytes maxL none) (y2 : y.cls ≠ "java/lang/invoke/MethodHandle" ∧ y.cls ≠ "java/lang/invoke/VarHandle" ∧ (parseMethodDescriptor y.desc).map (fun d => d.parameters.length) = some n) (hlk : Cond.methodLink own idx y ∈ q_WS) (y6 : Cond.instanceMethod y ∈ q_WS) (y8 : Cond.initialized y.cls ∈ q_WS) (y9 : cd ∈ q_WS) (hn : As.length = n) (hst : st0 = As.reverse ++ .ref b :: rest) (hR : d + 1 ≤ dd ∧ maxL ≤ 21) (hU : u + u1 ≤ U) (hroom : (rest.map Value.category).sum ≤ 8) (dg : decode cc pc = .ok (.invokespecial idx, 3)) (kk : ∀ (sz : Nat) (rv : Option Value) (w' : va_W), q_sz0 K ≤ sz → (∀ q ∈ w (q_cy K) ++ fr, q.1 < sz) → P (q_cy K) sz rv w' → q_J l K (u + u1) (w' ++ fr) (pc + 3) lv (rv.toList ++ rest)) : q_J l K u (w (q_cy K) ++ fr) pc lv st0 := by
  obtain ⟨p, e, R, s, m, args, below, meth, c, cells, slots, Q, D, cy, ad, A, nL, L⟩ := K
  obtain ⟨hx, hb, hml, hnl, hown, hts, hK, hA2, hf1, hf2, hc1, hc2, hE, hEX⟩ := C
  intro cl sl H locs ls hc9 hs9 hP hD hS hl
  have hF := q_freeJ hD hS hA2
  have hlt : ∀ q ∈ w cy ++ fr, q.1 < H.size := fun q hq => by
    obtain ⟨i, hi⟩ := q_mem_at hq
    exact vx_lt hP hi
  have hpre : ∀ T : State, T.heap = H → s.WarmedH T.vm → q_Pj (.ref b :: As) (w cy) H.size D cy ad L (.ref b :: As).toArray T := fun T hT hW => ⟨rfl, by rw [hT], by rw [hT]; exact q_P_l hP, q_ownJ hD _, va_K.moved hW.alike hK, by rw [hT]; exact q_E.go hE hS.2.1 hF hW, q_EX.go hEX hW⟩
  refine q_runJ (va_runI (As := As) (rest := rest) ⟨hx, hb, hml, hown, hts⟩ (hM D cy ad H.size L) (cwI n hts (q_goodI y9) (congrArg (fun z => z :: q_WS) y1) rfl rfl (hts _ y8) (hts _ hlk) (hts _ y6) hy1 y2 ⟨Nat.le_trans hR.1 hf1, ?_⟩) ⟨q_Pj_blind _ _ _ _ _ _ _, hpre⟩ rfl hn hl.1 hst (lv_room hroom) dg ⟨by omega, by omega⟩) hP hD hS hA2 (fun rv w' H1 locs1 hp hP1 hD1 hS1 => kk H.size rv w' hS.1 hlt hp (cl + u1) (sl + 6 * u1) H1 locs1 ls (by omega) (by omega) hP1 hD1 hS1 hl)
  · have h9 : (q_rmX d u1).locals = 40 * d := rfl
    rw [h9]
    have h8 := hR.1
    have h7 := hR.2
    omega

theorem j_maxN (C : q_Cj K cc own dd n0 U) {a b : Nat} {x y : Int32} (h1 : x = nI a) (h2 : y = nI b) (ha : a < 2 ^ 31) (hb9 : b < 2 ^ 31) (hl9 : Cond.methodLink own idx Lib.Math.max.name ∈ q_WS) (hdd : 1 ≤ dd) (hU : u ≤ U) (hroom : (st.map Value.category).sum ≤ 8) (d : decode cc pc = .ok (.invokestatic idx, 3)) (kk : q_J l K u ws (pc + 3) lv (.int (nI (max a b)) :: st)) : q_J l K u ws pc lv (.int y :: .int x :: st) := by
  obtain ⟨p, e, R, s, m, args, below, meth, c, cells, slots, Q, D, cy, ad, A, nL, L⟩ := K
  obtain ⟨hx, hb, hml, hnl, hown, hts, hK, hA2, hf1, hf2, hc1, hc2, hE, hEX⟩ := C
  intro cl sl H locs ls hc9 hs9 hP hD hS hl
  subst h1; subst h2
  have hr9 : (st.map (fun v => v.category)).sum ≤ 8 := hroom
  refine va_mmax hx hb (hml.trans hl.1.symm) hown (hts _ hl9) (hts _ w_maxS) (hts _ w_mathI) (hts _ w_maxC) (by omega) (by omega) (by omega) (by omega) d ?_
  have e9 : (if nI a < nI b then nI b else nI a) = nI (max a b) := by
    by_cases h : a < b
    · rw [if_pos ((nI_ltI ha hb9).mpr h), Nat.max_eq_right (by omega)]
    · rw [if_neg (fun q => h ((nI_ltI ha hb9).mp q)), Nat.max_eq_left (by omega)]
  rw [e9]
  exact kk cl sl H locs ls hc9 hs9 hP hD hS hl
theorem j_minN (C : q_Cj K cc own dd n0 U) {a b : Nat} {x y : Int32} (h1 : x = nI a) (h2 : y = nI b) (ha : a < 2 ^ 31) (hb9 : b < 2 ^ 31) (hl9 : Cond.methodLink own idx Lib.Math.min.name ∈ q_WS) (hdd : 1 ≤ dd) (hU : u ≤ U) (hroom : (st.map Value.category).sum ≤ 8) (d : decode cc pc = .ok (.invokestatic idx, 3)) (kk : q_J l K u ws (pc + 3) lv (.int (nI (min a b)) :: st)) : q_J l K u ws pc lv (.int y :: .int x :: st) := by
  obtain ⟨p, e, R, s, m, args, below, meth, c, cells, slots, Q, D, cy, ad, A, nL, L⟩ := K
  obtain ⟨hx, hb, hml, hnl, hown, hts, hK, hA2, hf1, hf2, hc1, hc2, hE, hEX⟩ := C
  intro cl sl H locs ls hc9 hs9 hP hD hS hl
  subst h1; subst h2
  have hr9 : (st.map (fun v => v.category)).sum ≤ 8 := hroom
  refine va_mmin hx hb (hml.trans hl.1.symm) hown (hts _ hl9) (hts _ w_minS) (hts _ w_mathI) (hts _ w_minC) (by omega) (by omega) (by omega) (by omega) d ?_
  have e9 : (if nI b < nI a then nI b else nI a) = nI (min a b) := by
    by_cases h : b < a
    · rw [if_pos ((nI_ltI hb9 ha).mpr h), Nat.min_eq_right (by omega)]
    · rw [if_neg (fun q => h ((nI_ltI hb9 ha).mp q)), Nat.min_eq_left (by omega)]
  rw [e9]
  exact kk cl sl H locs ls hc9 hs9 hP hD hS hl
end QJD
