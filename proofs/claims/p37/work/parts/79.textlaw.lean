
/-! the law's rows for text -/
theorem mlL_220 : Cond.methodLink RL 220 yJ4_init_da8c8 ∈ q_WS := q_in 959 (by decide +kernel) rfl
theorem mlL_223 : Cond.methodLink RL 223 yJ4_append_15ec4 ∈ q_WS := q_in 989 (by decide +kernel) rfl
theorem mlL_226 : Cond.methodLink RL 226 yJ4_append_bf812 ∈ q_WS := q_in 1105 (by decide +kernel) rfl
theorem mlL_231 : Cond.methodLink RL 231 yJ4_append_cf468 ∈ q_WS := q_in 1158 (by decide +kernel) rfl
theorem mlL_234 : Cond.methodLink RL 234 yJ4_toString_0e30d ∈ q_WS := q_in 1171 (by decide +kernel) rfl
section QYT
variable {l : Launch} {K : q_K} {cc : ByteArray} {own : String} {dd n0 U u pc idx : Nat} {xa : List Nat} {ex fr : va_W} {lv : List (Nat × Value)} {st : List Value} {S : q_St}
theorem y_tu (C : q_Cy K cc own dd n0 U xa q_Tr) (hA : q_KA K) {y : MethodName} {cd : Cond} {d u1 maxL n : Nat} {bytes : ByteArray} {ret : Option FieldType} {As rest st0 : List Value} {w : (Nat → ClassId) → va_W} {P : (Nat → ClassId) → Nat → Option Value → va_W → Prop} {b k0 : Nat} {fs : List Value} (hM : q_Jm l y cd d u1 (.ref b :: As) w P) (hrc : (w (q_cy K))[k0]? = some (b, .inr (7, fs))) (y1 : cd = .code y bytes maxL ret) (y2 : y.cls ≠ "java/lang/invoke/MethodHandle" ∧ y.cls ≠ "java/lang/invoke/VarHandle" ∧ (parseMethodDescriptor y.desc).map (fun d => d.parameters.length) = some n) (hlk : Cond.methodLink own idx y ∈ q_WS) (y6 : Cond.instanceMethod y ∈ q_WS) (y8 : Cond.initialized y.cls ∈ q_WS) (y9 : cd ∈ q_WS) (y10 : Cond.sameMethod y.cls y.cls y.name y.desc ∈ q_WS) (ysel : ∀ (args : Array Value) (s : State), (∀ w ∈ q_WS, w.before args s = true) → (Cond.selects RSB y y).before args s = true) (hex : (w (q_cy K) ++ fr).map (fun q => q.1) = xa) (hn : As.length = n) (hst : st0 = As.reverse ++ .ref b :: rest) (hR : d + 1 ≤ dd ∧ maxL ≤ 21) (hU : u + u1 ≤ U) (hroom : (rest.map Value.category).sum ≤ 8) (dg : decode cc pc = .ok (.invokevirtual idx, 3)) (kk : ∀ (sz : Nat) (rv : Option Value) (w' : va_W), P (q_cy K) sz rv w' → q_Cy K cc own dd n0 U ((w' ++ fr).map (fun q => q.1)) q_Tr → q_Y l K (u + u1) (w' ++ fr) q_Tr (pc + 3) lv (rv.toList ++ rest) S) : q_Y l K u (w (q_cy K) ++ fr) q_Tr pc lv st0 S := by
  refine y_toJ C hex ?_
  rw [List.append_assoc]
  refine j_cu (As := As) (rest := rest) (w := w) (fr := fr ++ _) (P := P) (k0 := k0) (ci := 7) (y_Cj C) rfl hM hrc y1 y2 hlk y6 y8 y9 y10 ysel hn hst hR hU hroom dg (fun sz rv w' h1 h2 hp => ?_)
  rw [← List.append_assoc]
  exact j_toY hA C (fun C' => kk sz rv w' hp C')
theorem y_tuK (C : q_Cy K cc own dd n0 U xa q_Tr) (hA : q_KA K) {i a0 : Nat} (hi3 : i < 13) (hG : q_ad K (200 + i) = a0) {y : MethodName} {cd : Cond} {d u1 maxL n : Nat} {bytes : ByteArray} {ret : Option FieldType} {As rest st0 : List Value} {w : (Nat → ClassId) → va_W} {P : (Nat → ClassId) → Nat → Option Value → va_W → Prop} {b k0 : Nat} {fs : List Value} (hM : q_JmK i a0 l y cd d u1 (.ref b :: As) w P) (hrc : (w (q_cy K))[k0]? = some (b, .inr (7, fs))) (y1 : cd = .code y bytes maxL ret) (y2 : y.cls ≠ "java/lang/invoke/MethodHandle" ∧ y.cls ≠ "java/lang/invoke/VarHandle" ∧ (parseMethodDescriptor y.desc).map (fun d => d.parameters.length) = some n) (hlk : Cond.methodLink own idx y ∈ q_WS) (y6 : Cond.instanceMethod y ∈ q_WS) (y8 : Cond.initialized y.cls ∈ q_WS) (y9 : cd ∈ q_WS) (y10 : Cond.sameMethod y.cls y.cls y.name y.desc ∈ q_WS) (ysel : ∀ (args : Array Value) (s : State), (∀ w ∈ q_WS, w.before args s = true) → (Cond.selects RSB y y).before args s = true) (hex : (w (q_cy K) ++ fr).map (fun q => q.1) = xa) (hn : As.length = n) (hst : st0 = As.reverse ++ .ref b :: rest) (hR : d + 1 ≤ dd ∧ maxL ≤ 21) (hU : u + u1 ≤ U) (hroom : (rest.map Value.category).sum ≤ 8) (dg : decode cc pc = .ok (.invokevirtual idx, 3)) (kk : ∀ (sz : Nat) (rv : Option Value) (w' : va_W), P (q_cy K) sz rv w' → q_Cy K cc own dd n0 U ((w' ++ fr).map (fun q => q.1)) q_Tr → q_Y l K (u + u1) (w' ++ fr) q_Tr (pc + 3) lv (rv.toList ++ rest) S) : q_Y l K u (w (q_cy K) ++ fr) q_Tr pc lv st0 S := by
  refine y_toJ C hex ?_
  rw [List.append_assoc]
  refine j_cuK (As := As) (rest := rest) (w := w) (fr := fr ++ _) (P := P) (k0 := k0) (ci := 7) (y_Cj C) hi3 hG rfl hM hrc y1 y2 hlk y6 y8 y9 y10 ysel hn hst hR hU hroom dg (fun sz rv w' h1 h2 hp => ?_)
  rw [← List.append_assoc]
  exact j_toY hA C (fun C' => kk sz rv w' hp C')
theorem y_tv (C : q_Cy K cc own dd n0 U xa q_Tr) (hA : q_KA K) {y : MethodName} {cd : Cond} {d u1 maxL n : Nat} {bytes : ByteArray} {ret : Option FieldType} {As rest st0 : List Value} {w : (Nat → ClassId) → va_W} {P : (Nat → ClassId) → Nat → Option Value → va_W → Prop} {b k0 : Nat} {fs : List Value} (hM : q_Jm l y cd d u1 (.ref b :: As) w P) (hrc : (w (q_cy K))[k0]? = some (b, .inr (8, fs))) (hcls : y.cls = RST) (y1 : cd = .code y bytes maxL ret) (y2 : y.cls ≠ "java/lang/invoke/MethodHandle" ∧ y.cls ≠ "java/lang/invoke/VarHandle" ∧ (parseMethodDescriptor y.desc).map (fun d => d.parameters.length) = some n) (hlk : Cond.methodLink own idx y ∈ q_WS) (y6 : Cond.instanceMethod y ∈ q_WS) (y7 : Cond.selects y.cls y y ∈ q_WS) (y8 : Cond.initialized y.cls ∈ q_WS) (y9 : cd ∈ q_WS) (hex : (w (q_cy K) ++ fr).map (fun q => q.1) = xa) (hn : As.length = n) (hst : st0 = As.reverse ++ .ref b :: rest) (hR : d + 1 ≤ dd ∧ maxL ≤ 21) (hU : u + u1 ≤ U) (hroom : (rest.map Value.category).sum ≤ 8) (dg : decode cc pc = .ok (.invokevirtual idx, 3)) (kk : ∀ (sz : Nat) (rv : Option Value) (w' : va_W), P (q_cy K) sz rv w' → q_Cy K cc own dd n0 U ((w' ++ fr).map (fun q => q.1)) q_Tr → q_Y l K (u + u1) (w' ++ fr) q_Tr (pc + 3) lv (rv.toList ++ rest) S) : q_Y l K u (w (q_cy K) ++ fr) q_Tr pc lv st0 S := by
  refine y_toJ C hex ?_
  rw [List.append_assoc]
  refine j_cv (As := As) (rest := rest) (w := w) (fr := fr ++ _) (P := P) (k0 := k0) (y_Cj C) hM hrc hcls y1 y2 hlk y6 y7 y8 y9 hn hst hR hU hroom dg (fun sz rv w' h1 h2 hp => ?_)
  rw [← List.append_assoc]
  exact j_toY hA C (fun C' => kk sz rv w' hp C')
theorem y_ti (C : q_Cy K cc own dd n0 U xa q_Tr) (hA : q_KA K) {y : MethodName} {cd : Cond} {d u1 maxL n : Nat} {bytes : ByteArray} {As rest st0 : List Value} {w : (Nat → ClassId) → va_W} {P : (Nat → ClassId) → Nat → Option Value → va_W → Prop} {b : Nat} (hM : q_Jm l y cd d u1 (.ref b :: As) w P) (hy1 : y.name = "<init>") (y1 : cd = .code y bytes maxL none) (y2 : y.cls ≠ "java/lang/invoke/MethodHandle" ∧ y.cls ≠ "java/lang/invoke/VarHandle" ∧ (parseMethodDescriptor y.desc).map (fun d => d.parameters.length) = some n) (hlk : Cond.methodLink own idx y ∈ q_WS) (y6 : Cond.instanceMethod y ∈ q_WS) (y8 : Cond.initialized y.cls ∈ q_WS) (y9 : cd ∈ q_WS) (hex : (w (q_cy K) ++ fr).map (fun q => q.1) = xa) (hn : As.length = n) (hst : st0 = As.reverse ++ .ref b :: rest) (hR : d + 1 ≤ dd ∧ maxL ≤ 21) (hU : u + u1 ≤ U) (hroom : (rest.map Value.category).sum ≤ 8) (dg : decode cc pc = .ok (.invokespecial idx, 3)) (kk : ∀ (sz : Nat) (rv : Option Value) (w' : va_W), P (q_cy K) sz rv w' → q_Cy K cc own dd n0 U ((w' ++ fr).map (fun q => q.1)) q_Tr → q_Y l K (u + u1) (w' ++ fr) q_Tr (pc + 3) lv (rv.toList ++ rest) S) : q_Y l K u (w (q_cy K) ++ fr) q_Tr pc lv st0 S := by
  refine y_toJ C hex ?_
  rw [List.append_assoc]
  refine j_ci (As := As) (rest := rest) (w := w) (fr := fr ++ _) (P := P) (y_Cj C) hM hy1 y1 y2 hlk y6 y8 y9 hn hst hR hU hroom dg (fun sz rv w' h1 h2 hp => ?_)
  rw [← List.append_assoc]
  exact j_toY hA C (fun C' => kk sz rv w' hp C')
theorem y_tsel (is : List Nat) (hn : is.Nodup) {ex' : va_W} (C : q_Cy K cc own dd n0 U xa q_Tr) (hex : ex.map (fun q => q.1) = xa) (e : is.filterMap (fun i => ex[i]?) = ex') (k : q_Cy K cc own dd n0 U (ex'.map (fun q => q.1)) q_Tr → q_Y l K u ex' q_Tr pc lv st S) : q_Y l K u ex q_Tr pc lv st S := by
  subst e
  obtain ⟨p, e, R, s, m, args, below, meth, c, cells, slots, Q, D, cy, ad, A, nL, L⟩ := K
  obtain ⟨hx, hb, hml, hnl, hown, hts, hK, hi, hA1, hA2, hf1, hf2, hc1, hc2, hE, hEX, hxa, hZs⟩ := C
  intro cl sl H locs ls hc9 hs9 hP hZ hS hl
  subst hex
  have hD0 : va_D (fun _ => True) ex := q_nd_D hxa.1 (fun _ _ => trivial)
  obtain ⟨h1, h2⟩ := q_selPD (q_P_r hP) hD0 is hn
  refine k ⟨hx, hb, hml, hnl, hown, hts, hK, hi, hA1, hA2, hf1, hf2, hc1, hc2, hE, hEX, ⟨q_D_nd h2, fun a ha => hxa.2 a ?_⟩, q_Zs_Tr _ _⟩ cl sl H locs ls hc9 hs9 ((q_P_l hP).app h1) trivial hS hl
  obtain ⟨q, hq, rfl⟩ := List.mem_map.mp ha
  obtain ⟨i, hi9, hq9⟩ := List.mem_filterMap.mp hq
  exact List.mem_map.mpr ⟨q, List.mem_of_getElem? hq9, rfl⟩
theorem y_tnew (C : q_Cy K cc own dd n0 U xa q_Tr) (hA : q_KA K) (hex : ex.map (fun q => q.1) = xa) (w1 : Cond.classLink own idx RSB ∈ q_WS) (hU : u + 1 ≤ U) (d : decode cc pc = .ok (.new idx, 3)) (k : ∀ b, q_Cy K cc own dd n0 U ([(b, (.inr (7, [.null, .int 0, .int 0, .int 0]) : va_E))] ++ ex |>.map (fun q => q.1)) q_Tr → q_Y l K (u + 1) ([(b, .inr (7, [.null, .int 0, .int 0, .int 0]))] ++ ex) q_Tr (pc + 3) lv (.ref b :: st) S) : q_Y l K u ex q_Tr pc lv st S := by
  refine y_toJ C hex ?_
  refine j_new (ci := 7) (fs := [.null, .int 0, .int 0, .int 0]) (y_Cj C) rfl cl_SB tySB_ok (fun j hj => by rcases j with _ | _ | _ | _ | j <;> first | rfl | omega) w1 wB_nSB jw_iSB (by decide) hU d (fun b h1 h2 => ?_)
  intro cl sl H locs ls hc9 hs9 hP hD hS hl
  refine j_toY (ex := [(b, .inr (7, [.null, .int 0, .int 0, .int 0]))] ++ ex) hA C (fun C' => k b C') cl sl H locs ls hc9 hs9 ?_ ?_ hS hl
  · rw [List.append_assoc]
    exact (q_P_r hP).app (q_P_l hP)
  · have nd := q_D_nd hD
    rw [List.map_append] at nd
    refine q_nd_D ?_ (fun q hq => ?_)
    · rw [List.append_assoc, List.map_append]
      exact (List.Perm.nodup_iff List.perm_append_comm).mp nd
    · rw [List.append_assoc] at hq
      obtain ⟨i, hi9⟩ := q_mem_at (List.mem_append.mpr ((List.mem_append.mp hq).symm))
      exact hD.2 i q hi9
end QYT
