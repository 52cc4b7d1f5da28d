
/-! contracts of the JDK's methods of text, and their calls -/
def q_Qj (w : va_W) (sz : Nat) (P : Option Value → va_W → Prop) (D : va_G) : Array Value → State → Outcome → State → Prop := fun _ st oc t => (∃ (rv : Option Value) (w' : va_W), oc = .returned rv ∧ P rv w' ∧ va_P D q_cl w' t.heap ∧ va_D (va_A w sz) w') ∧ va_F (va_A w sz) st t
def q_Pj (As : List Value) (w : va_W) (sz : Nat) (D : va_G) (cy : Nat → ClassId) (ad : Nat → Nat) (L : q_L) : Array Value → State → Prop := va_Pc As (fun T => T.heap.size = sz ∧ va_P D q_cl w T.heap ∧ va_D (va_A w sz) w ∧ va_K D q_cl (q_tys cy) T ∧ q_E ad L (va_A w sz) T T.heap ∧ q_EX T)
theorem q_Pj_blind (As : List Value) (w : va_W) (sz : Nat) (D : va_G) (cy : Nat → ClassId) (ad : Nat → Nat) (L : q_L) : FrameBlind (q_Pj As w sz D cy ad L) := fun a U g mk q => by
  obtain ⟨q0, q1, qP, qD, qK, qE, qX⟩ := q
  exact ⟨q0, q1, qP, qD, va_K.moved (u := U) (U := U.calling g mk a) (Vm.Alike.refl U.vm) qK, q_E.same (u := U) (U := U.calling g mk a) rfl qE, q_EX.same (u := U) (U := U.calling g mk a) rfl qX⟩
def q_Jm (l : Launch) (y : MethodName) (cd : Cond) (d U : Nat) (As : List Value) (w : (Nat → ClassId) → va_W) (P : (Nat → ClassId) → Nat → Option Value → va_W → Prop) : Prop := ∀ (D : va_G) (cy : Nat → ClassId) (ad : Nat → Nat) (sz : Nat) (L : q_L), Met l y (cd :: q_WS) (q_rmX d U) (q_Pj As (w cy) sz D cy ad L) (q_Qj (w cy) sz (P cy sz) D) U (6 * U) (va_A (w cy) sz)
set_option maxHeartbeats 1000000 in
theorem q_Jm_of {l : Launch} {y : MethodName} {cd : Cond} {cc : ByteArray} {maxL d U : Nat} {ret : Option FieldType} {As : List Value} {w : (Nat → ClassId) → va_W} {P : (Nat → ClassId) → Nat → Option Value → va_W → Prop} (hcd : cd = .code y cc maxL ret) (hy : plainName y.cls = true) (hlen : (lg_sl As).length ≤ maxL)
    (body : ∀ K : q_K, q_Cj K cc y.cls d maxL U → (y.name = "<init>" → q_Ji K) →
      (∀ (u pc : Nat) (lv : List (Nat × Value)) (r : Int32) (ws : va_W) (ty : FieldType), u ≤ U → decode cc pc = .ok (.ireturn, 1) → ret = some ty → narrow ty (.int r) = .int r → P (q_cy K) (q_sz0 K) (some (.int r)) ws → q_J l K u ws pc lv [.int r]) →
      (∀ (u pc : Nat) (lv : List (Nat × Value)) (a : Nat) (ws : va_W) (ty : FieldType), u ≤ U → decode cc pc = .ok (.areturn, 1) → ret = some ty → ((∃ n, ty = .object n) ∨ ∃ t, ty = .array t) → P (q_cy K) (q_sz0 K) (some (.ref a)) ws → q_J l K u ws pc lv [.ref a]) →
      (∀ (u pc : Nat) (lv : List (Nat × Value)) (ws : va_W), u ≤ U → decode cc pc = .ok (.return_, 1) → ret = none → P (q_cy K) (q_sz0 K) none ws → q_J l K u ws pc lv []) → q_J l K 0 (w (q_cy K)) 0 (lv_args 0 As) []) : q_Jm l y cd d U As w P := by
  intro D cy ad sz L
  subst hcd
  refine Met.ofW (cc := cc) (maxL := maxL) (ret := ret) hy rfl ?_
  intro p e s m args below meth c s₁ B hml hv
  obtain ⟨rfl, hsz, hP, hD, hK, hE, hEX⟩ := hv
  subst hsz
  have hts0 := atoms_spec (ws := Cond.code y cc maxL ret :: q_WS) B.pre
  have hts : ∀ w ∈ q_WS, w.before As.toArray s = true := fun w h => hts0 w (List.mem_cons_of_mem _ h)
  have hown : s.vm.findClass y.cls = some m.cls := findClass_of_methodNamed B.named
  have hlocks := B.notSynchronized
  have hl := lv_entry As (n := maxL) hlen
  rw [lg_entry_eq]
  generalize (lg_sl As ++ List.replicate (maxL - (lg_sl As).length) Slot.unset).toArray = ls at hl ⊢
  refine body (p, e, (headSpec (Cond.code y cc maxL ret :: q_WS) (q_rmX d U)).room, s, m, As.toArray, below, meth, c, 0, 0, MQ below (q_Qj (w cy) s.heap.size (P cy s.heap.size) D) As.toArray s U (6 * U) (va_A (w cy) s.heap.size), D, cy, ad, va_A (w cy) s.heap.size, maxL, L) ⟨B.exec, B.bytes, hml, rfl, hown, hts, hK, fun q h => Or.inr h, Nat.le_refl _, Nat.le_refl _, Nat.le_refl _, Nat.le_refl _, hE, hEX⟩ (fun h => ((name_of_methodNamed B.named B.method).1).trans h) ?_ ?_ ?_ 0 0 s.heap [] ls (Nat.le_refl _) (Nat.zero_le _) hP hD va_S.rf hl
  · intro u pc lv r ws ty hu hd hr hn hp cl sl H locs ls hc9 hs9 hP hD hS hl
    exact W.widen (Nat.le_trans hc9 hu) (Nat.le_trans hs9 (Nat.mul_le_mul_left 6 hu)) (W.zret B.exec B.bytes (by rw [B.returns]; exact hr) hn (fun t ht hW => ⟨⟨_, ws, rfl, hp, by rw [ht]; exact hP, hD⟩, hS.F ht⟩) hS.2.2 hd hlocks)
  · intro u pc lv a ws ty hu hd hr hty hp cl sl H locs ls hc9 hs9 hP hD hS hl
    exact W.widen (Nat.le_trans hc9 hu) (Nat.le_trans hs9 (Nat.mul_le_mul_left 6 hu)) (W.aret (v := .ref a) B.exec B.bytes (by rw [B.returns]; exact hr) hty (Or.inr ⟨_, rfl⟩) (fun t ht hW => ⟨⟨_, ws, rfl, hp, by rw [ht]; exact hP, hD⟩, hS.F ht⟩) hS.2.2 hd hlocks)
  · intro u pc lv ws hu hd hr hp cl sl H locs ls hc9 hs9 hP hD hS hl
    exact W.widen (Nat.le_trans hc9 hu) (Nat.le_trans hs9 (Nat.mul_le_mul_left 6 hu)) (W.vret B.exec B.bytes (by rw [B.returns]; exact hr) (fun t ht hW => ⟨⟨_, ws, rfl, hp, by rw [ht]; exact hP, hD⟩, hS.F ht⟩) hS.2.2 hd hlocks)

section QJC
set_option maxHeartbeats 1000000 in
theorem q_runJ {p : Program} {l : Launch} {e : Env} {R : Room} {s : State} {m : MethodId} {args : Array Value} {below : List Frame} {meth : Method} {c : Code} {H : Heap} {locs : List Loc} {cl sl u1 pc : Nat} {Q : State → Prop} {D : va_G} {A : Nat → Prop} {w fr : va_W} {P : Option Value → va_W → Prop} {ls : Array Slot} {st0 rest : List Value} {a : Array Value} (hr : va_Run p l e R s m args below meth c H locs cl sl u1 (6 * u1) (F0 m pc ls st0) rest (q_Qj w H.size P D a) (va_A w H.size)) (hP : va_P D q_cl (w ++ fr) H) (hD : va_D A (w ++ fr)) (hS : va_S A s.heap H locs) (hA2 : ∀ q, s.heap.size ≤ q → A q)
    (kk : ∀ (rv : Option Value) (w' : va_W) (H1 : Heap) (locs1 : List Loc), P rv w' → va_P D q_cl (w' ++ fr) H1 → va_D A (w' ++ fr) → va_S A s.heap H1 locs1 → W p l e R s m args below meth c H1 locs1 (cl + u1) (sl + 6 * u1) Q (F0 m (pc + 3) ls (rv.toList ++ rest))) : W p l e R s m args below meth c H locs cl sl Q (F0 m pc ls st0) := by
  intro T hT X
  obtain ⟨v, st₀, t, T', L, h0, X', hL, e1, e2, ⟨⟨rv, w', hv, hp, hb, hd⟩, hz, hk⟩, st⟩ := hr T hT X
  cases hv
  rw [h0] at hz hk
  have hF : ∀ q, va_A w H.size q → A q := fun q h => by
    rcases h with ⟨k, x, hx⟩ | h
    · exact hD.2 k (q, x) (by rw [List.getElem?_append_left (List.getElem?_eq_some_iff.mp hx).1]; exact hx)
    · exact hA2 q (Nat.le_trans hS.1 h)
  have nd := va_D_nd hD
  rw [List.map_append] at nd
  have nd3 := List.nodup_append.mp nd
  have frN : ∀ q ∈ fr, ¬ va_A w H.size q.1 := fun q hq h => by
    rcases h with ⟨k, x, hx⟩ | h
    · exact nd3.2.2 _ (List.mem_map.mpr ⟨(q.1, x), List.mem_of_getElem? hx, rfl⟩) _ (List.mem_map.mpr ⟨q, hq, rfl⟩) rfl
    · obtain ⟨i, hi⟩ := q_mem_at hq
      have := vx_lt (q_P_r hP) hi
      omega
  obtain ⟨t2, a1, b1⟩ := kk v w' T'.heap (locs ++ L) hp (va_P.app (by rw [e1]; exact hb) (fun k q hq => by
      have h1 := q_P_r hP k q hq
      refine (q_P_r hP).kept (H1 := T'.heap) (fun k9 x hx => ?_) k q hq
      rw [e1]
      exact hk x.1 (vx_lt (q_P_r hP) hx) (frN x (List.mem_of_getElem? hx)))) (q_nd_D (by
      rw [List.map_append]
      refine List.nodup_append.mpr ⟨va_D_nd hd, nd3.2.1, fun a ha b hb9 hab => ?_⟩
      obtain ⟨x, hx, rfl⟩ := List.mem_map.mp ha
      obtain ⟨y, hy, rfl⟩ := List.mem_map.mp hb9
      obtain ⟨i, hi⟩ := q_mem_at hx
      exact frN y hy (hab ▸ hd.2 i x hi)) (fun q hq => by
      rcases List.mem_append.mp hq with h | h
      · obtain ⟨i, hi⟩ := q_mem_at h
        exact hF _ (hd.2 i q hi)
      · obtain ⟨i, hi⟩ := q_mem_at (List.mem_append_right w h)
        exact hD.2 i q hi))
    ⟨Nat.le_trans hS.1 (by rw [e1]; exact hz), fun q h1 h2 => by rw [e1, hk q (Nat.lt_of_lt_of_le h1 hS.1) (fun z => h2 (hF q z))]; exact hS.2.1 q h1 h2, fun q hq => by
      rcases List.mem_append.mp hq with h | h
      · exact hS.2.2 q h
      · exact hF _ (hL q h)⟩ T' rfl X'
  exact ⟨t2, st t2 a1, b1⟩
theorem q_freeJ {A : Nat → Prop} {w fr : va_W} {s : State} {H : Heap} {locs : List Loc} (hD : va_D A (w ++ fr)) (hS : va_S A s.heap H locs) (hA2 : ∀ q, s.heap.size ≤ q → A q) : ∀ q, va_A w H.size q → A q := fun q h => by
  rcases h with ⟨k, x, hx⟩ | h
  · exact hD.2 k (q, x) (by rw [List.getElem?_append_left (List.getElem?_eq_some_iff.mp hx).1]; exact hx)
  · exact hA2 q (Nat.le_trans hS.1 h)
theorem q_ownJ {A : Nat → Prop} {w fr : va_W} (hD : va_D A (w ++ fr)) (sz : Nat) : va_D (va_A w sz) w := by
  have nd := va_D_nd hD
  rw [List.map_append] at nd
  exact q_nd_D (List.nodup_append.mp nd).1 (fun q hq => by
    obtain ⟨i, hi⟩ := q_mem_at hq
    exact Or.inl ⟨i, q.2, hi⟩)
/-- the selection of a private method of the superclass -/
theorem j_selP {args : Array Value} {s : State} {y : MethodName} (hy : y.cls ≠ "java/lang/invoke/MethodHandle" ∧ y.cls ≠ "java/lang/invoke/VarHandle") (hins : (Cond.instantiable RSB 4).before args s = true) (hpriv : (Cond.privateMethod y).before args s = true) (hinst : (Cond.instanceMethod y).before args s = true) (hsame : (Cond.sameMethod y.cls y.cls y.name y.desc).before args s = true) : (Cond.selects RSB y y).before args s = true := by
  obtain ⟨c, k, hc, hk, -, -, -, -⟩ := Cond.instantiable_spec hins
  obtain ⟨mk, methM, hnamed, hmethM, -, -⟩ := Cond.instanceMethod_spec hinst
  have hfound : s.methodFound? y.cls y.name y.desc = some mk := State.methodFound?_of_named hnamed hy
  obtain ⟨hn2, kk, hkk, hni⟩ := Cond.sameMethod_spec (findClass_of_methodNamed hnamed) hfound hsame
  have hsel : selectMethod {} s.vm c mk = .method mk := selectMethod_private hmethM (Cond.privateMethod_at hpriv mk methM hnamed hmethM)
  simp only [Cond.before, Cond.holds, Cond.value, hc, hfound, hnamed, hsel, hkk]
  simp; exact hni
variable {l : Launch} {K : q_K} {cc : ByteArray} {own : String} {dd n0 U u pc idx : Nat} {fr : va_W} {lv : List (Nat × Value)} {st : List Value}
set_option maxHeartbeats 1000000 in
theorem j_cs (C : q_Cj K cc own dd n0 U) {y : MethodName} {cd : Cond} {d u1 maxL n : Nat} {bytes : ByteArray} {ret : Option FieldType} {As rest st0 : List Value} {w : (Nat → ClassId) → va_W} {P : (Nat → ClassId) → Nat → Option Value → va_W → Prop} (hM : q_Jm l y cd d u1 As w P) (y1 : cd = .code y bytes maxL ret) (y2 : y.cls ≠ "java/lang/invoke/MethodHandle" ∧ y.cls ≠ "java/lang/invoke/VarHandle" ∧ (parseMethodDescriptor y.desc).map (fun d => d.parameters.length) = some n) (hlk : Cond.methodLink own idx y ∈ q_WS) (y6 : Cond.static y ∈ q_WS) (y8 : Cond.initialized y.cls ∈ q_WS) (y9 : cd ∈ q_WS) (hn : As.length = n) (hst : st0 = As.reverse ++ rest) (hR : d + 1 ≤ dd ∧ maxL ≤ 21) (hU : u + u1 ≤ U) (hroom : (rest.map Value.category).sum ≤ 8) (dg : decode cc pc = .ok (.invokestatic idx, 3)) (kk : ∀ (sz : Nat) (rv : Option Value) (w' : va_W), q_sz0 K ≤ sz → (∀ q ∈ w (q_cy K) ++ fr, q.1 < sz) → P (q_cy K) sz rv w' → q_J l K (u + u1) (w' ++ fr) (pc + 3) lv (rv.toList ++ rest)) : q_J l K u (w (q_cy K) ++ fr) pc lv st0 := by
  obtain ⟨p, e, R, s, m, args, below, meth, c, cells, slots, Q, D, cy, ad, A, nL, L⟩ := K
  obtain ⟨hx, hb, hml, hnl, hown, hts, hK, hA2, hf1, hf2, hc1, hc2, hE, hEX⟩ := C
  intro cl sl H locs ls hc9 hs9 hP hD hS hl
  have hF := q_freeJ hD hS hA2
  have hlt : ∀ q ∈ w cy ++ fr, q.1 < H.size := fun q hq => by
    obtain ⟨i, hi⟩ := q_mem_at hq
    exact vx_lt hP hi
  have hpre : ∀ T : State, T.heap = H → s.WarmedH T.vm → q_Pj As (w cy) H.size D cy ad L As.toArray T := fun T hT hW => ⟨rfl, by rw [hT], by rw [hT]; exact q_P_l hP, q_ownJ hD _, va_K.moved hW.alike hK, by rw [hT]; exact q_E.go hE hS.2.1 hF hW, q_EX.go hEX hW⟩
  refine q_runJ (va_runS (As := As) (rest := rest) ⟨hx, hb, hml, hown, hts⟩ (hM D cy ad H.size L) (va_cwS n hts (q_goodSW hlk y6 y8 y9) (congrArg (fun z => z :: q_WS) y1) rfl rfl y2 ⟨Nat.le_trans hR.1 hf1, ?_⟩) ⟨q_Pj_blind _ _ _ _ _ _ _, hpre⟩ rfl hn hl.1 hst (lv_room hroom) dg ⟨by omega, by omega⟩) hP hD hS hA2 (fun rv w' H1 locs1 hp hP1 hD1 hS1 => kk H.size rv w' hS.1 hlt hp (cl + u1) (sl + 6 * u1) H1 locs1 ls (by omega) (by omega) hP1 hD1 hS1 hl)
  · have h9 : (q_rmX d u1).locals = 40 * d := rfl
    rw [h9]
    have h8 := hR.1
    have h7 := hR.2
    omega
set_option maxHeartbeats 1000000 in
theorem j_cu (C : q_Cj K cc own dd n0 U) {y : MethodName} {cd : Cond} {d u1 maxL n : Nat} {bytes : ByteArray} {ret : Option FieldType} {As rest st0 : List Value} {w : (Nat → ClassId) → va_W} {P : (Nat → ClassId) → Nat → Option Value → va_W → Prop} {b k0 ci : Nat} {fs : List Value} {T : u_T} {N : Nat} {CN : String} (hci : q_cl[ci]? = some (CN, T, N)) (hM : q_Jm l y cd d u1 (.ref b :: As) w P) (hrc : (w (q_cy K))[k0]? = some (b, .inr (ci, fs))) (y1 : cd = .code y bytes maxL ret) (y2 : y.cls ≠ "java/lang/invoke/MethodHandle" ∧ y.cls ≠ "java/lang/invoke/VarHandle" ∧ (parseMethodDescriptor y.desc).map (fun d => d.parameters.length) = some n) (hlk : Cond.methodLink own idx y ∈ q_WS) (y6 : Cond.instanceMethod y ∈ q_WS) (y8 : Cond.initialized y.cls ∈ q_WS) (y9 : cd ∈ q_WS) (y10 : Cond.sameMethod y.cls y.cls y.name y.desc ∈ q_WS) (ysel : ∀ (args : Array Value) (s : State), (∀ w ∈ q_WS, w.before args s = true) → (Cond.selects CN y y).before args s = true) (hn : As.length = n) (hst : st0 = As.reverse ++ .ref b :: rest) (hR : d + 1 ≤ dd ∧ maxL ≤ 21) (hU : u + u1 ≤ U) (hroom : (rest.map Value.category).sum ≤ 8) (dg : decode cc pc = .ok (.invokevirtual idx, 3)) (kk : ∀ (sz : Nat) (rv : Option Value) (w' : va_W), q_sz0 K ≤ sz → (∀ q ∈ w (q_cy K) ++ fr, q.1 < sz) → P (q_cy K) sz rv w' → q_J l K (u + u1) (w' ++ fr) (pc + 3) lv (rv.toList ++ rest)) : q_J l K u (w (q_cy K) ++ fr) pc lv st0 := by
  obtain ⟨p, e, R, s, m, args, below, meth, c, cells, slots, Q, D, cy, ad, A, nL, L⟩ := K
  obtain ⟨hx, hb, hml, hnl, hown, hts, hK, hA2, hf1, hf2, hc1, hc2, hE, hEX⟩ := C
  intro cl sl H locs ls hc9 hs9 hP hD hS hl
  have hF := q_freeJ hD hS hA2
  have hlt : ∀ q ∈ w cy ++ fr, q.1 < H.size := fun q hq => by
    obtain ⟨i, hi⟩ := q_mem_at hq
    exact vx_lt hP hi
  have hpre : ∀ T : State, T.heap = H → s.WarmedH T.vm → q_Pj (.ref b :: As) (w cy) H.size D cy ad L (.ref b :: As).toArray T := fun T hT hW => ⟨rfl, by rw [hT], by rw [hT]; exact q_P_l hP, q_ownJ hD _, va_K.moved hW.alike hK, by rw [hT]; exact q_E.go hE hS.2.1 hF hW, q_EX.go hEX hW⟩
  refine q_runJ (va_runU (As := As) (rest := rest) (C := CN) (owner := y.cls) (x := y) ⟨hx, hb, hml, hown, hts⟩ (hM D cy ad H.size L) ⟨⟨rfl, rfl, Nat.le_trans hR.1 hf1, ?_, pay_in hts (q_goodI y9), by rw [y1]; exact List.mem_cons_self⟩, by rw [← y1]; exact hts _ y9, hts _ y8, ⟨y2.1, y2.2.1⟩, fun sig h => ?_, hts _ hlk, hts _ y10, va_Decl.of (hts _ y6) (by rw [← y1]; exact hts _ y9), ?_, hts _ y6⟩ ⟨q_Pj_blind _ _ _ _ _ _ _, va_recv hK (q_P_l hP) hci hrc, hpre⟩ rfl hn hl.1 hst (lv_room hroom) dg ⟨by omega, by omega⟩) hP hD hS hA2 (fun rv w' H1 locs1 hp hP1 hD1 hS1 => kk H.size rv w' hS.1 hlt hp (cl + u1) (sl + 6 * u1) H1 locs1 ls (by omega) (by omega) hP1 hD1 hS1 hl)
  · have h9 : (q_rmX d u1).locals = 40 * d := rfl
    rw [h9]
    have h8 := hR.1
    have h7 := hR.2
    omega
  · have h2 := y2.2.2
    rw [h] at h2
    exact (Option.some.inj h2).symm
  · exact ysel _ _ hts
end QJC
