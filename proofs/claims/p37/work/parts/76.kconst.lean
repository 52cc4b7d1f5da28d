
/-! constants of the law's text -/
abbrev kL (i : Nat) : Nat := q_len.getD i 0
abbrev kB (i : Nat) : Nat → Int32 := fun j => (q_byt.getD i []).getD j 0
def q_JmK (i a : Nat) (l : Launch) (y : MethodName) (cd : Cond) (d U : Nat) (As : List Value) (w : (Nat → ClassId) → va_W) (P : (Nat → ClassId) → Nat → Option Value → va_W → Prop) : Prop := ∀ (D : va_G) (cy : Nat → ClassId) (ad : Nat → Nat) (sz : Nat) (L : q_L), ad (200 + i) = a → Met l y (cd :: q_WS) (q_rmX d U) (q_Pj As (w cy) sz D cy ad L) (q_Qj (w cy) sz (P cy sz) D) U (6 * U) (va_A (w cy) sz)
set_option maxHeartbeats 1000000 in
theorem q_JmK_of {i a0 : Nat} {l : Launch} {y : MethodName} {cd : Cond} {cc : ByteArray} {maxL d U : Nat} {ret : Option FieldType} {As : List Value} {w : (Nat → ClassId) → va_W} {P : (Nat → ClassId) → Nat → Option Value → va_W → Prop} (hcd : cd = .code y cc maxL ret) (hy : plainName y.cls = true) (hlen : (lg_sl As).length ≤ maxL)
    (body : ∀ K : q_K, q_ad K (200 + i) = a0 → q_Cj K cc y.cls d maxL U → (y.name = "<init>" → q_Ji K) →
      (∀ (u pc : Nat) (lv : List (Nat × Value)) (r : Int32) (ws : va_W) (ty : FieldType), u ≤ U → decode cc pc = .ok (.ireturn, 1) → ret = some ty → narrow ty (.int r) = .int r → P (q_cy K) (q_sz0 K) (some (.int r)) ws → q_J l K u ws pc lv [.int r]) →
      (∀ (u pc : Nat) (lv : List (Nat × Value)) (a : Nat) (ws : va_W) (ty : FieldType), u ≤ U → decode cc pc = .ok (.areturn, 1) → ret = some ty → ((∃ n, ty = .object n) ∨ ∃ t, ty = .array t) → P (q_cy K) (q_sz0 K) (some (.ref a)) ws → q_J l K u ws pc lv [.ref a]) →
      (∀ (u pc : Nat) (lv : List (Nat × Value)) (ws : va_W), u ≤ U → decode cc pc = .ok (.return_, 1) → ret = none → P (q_cy K) (q_sz0 K) none ws → q_J l K u ws pc lv []) → q_J l K 0 (w (q_cy K)) 0 (lv_args 0 As) []) : q_JmK i a0 l y cd d U As w P := by
  intro D cy ad sz L hG
  subst hcd
  refine Met.ofW (cc := cc) (maxL := maxL) (ret := ret) hy rfl ?_
  intro p e s m args below meth c s₁ B hml hv
  obtain ⟨rfl, hsz, hP, hD, hK, hE, hEX⟩ := hv
  subst hsz
  have hts0 := atoms_spec (ws := Cond.code y cc maxL ret :: q_WS) B.pre
  have hts : ∀ w ∈ q_WS, w.before As.toArray s = true := fun w h => hts0 w (List.mem_cons_of_mem _ h)
  have hown : s.vm.findClass y.cls = some m.cls := findClass_of_methodNamed B.named
  have hlocks := B.notSynchronized
  have hl := lv_entry As (n := maxL) hlen
  rw [lg_entry_eq]
  generalize (lg_sl As ++ List.replicate (maxL - (lg_sl As).length) Slot.unset).toArray = ls at hl ⊢
  refine body (p, e, (headSpec (Cond.code y cc maxL ret :: q_WS) (q_rmX d U)).room, s, m, As.toArray, below, meth, c, 0, 0, MQ below (q_Qj (w cy) s.heap.size (P cy s.heap.size) D) As.toArray s U (6 * U) (va_A (w cy) s.heap.size), D, cy, ad, va_A (w cy) s.heap.size, maxL, L) hG ⟨B.exec, B.bytes, hml, rfl, hown, hts, hK, fun q h => Or.inr h, Nat.le_refl _, Nat.le_refl _, Nat.le_refl _, Nat.le_refl _, hE, hEX⟩ (fun h => ((name_of_methodNamed B.named B.method).1).trans h) ?_ ?_ ?_ 0 0 s.heap [] ls (Nat.le_refl _) (Nat.zero_le _) hP hD va_S.rf hl
  · intro u pc lv r ws ty hu hd hr hn hp cl sl H locs ls hc9 hs9 hP hD hS hl
    exact W.widen (Nat.le_trans hc9 hu) (Nat.le_trans hs9 (Nat.mul_le_mul_left 6 hu)) (W.zret B.exec B.bytes (by rw [B.returns]; exact hr) hn (fun t ht hW => ⟨⟨_, ws, rfl, hp, by rw [ht]; exact hP, hD⟩, hS.F ht⟩) hS.2.2 hd hlocks)
  · intro u pc lv a ws ty hu hd hr hty hp cl sl H locs ls hc9 hs9 hP hD hS hl
    exact W.widen (Nat.le_trans hc9 hu) (Nat.le_trans hs9 (Nat.mul_le_mul_left 6 hu)) (W.aret (v := .ref a) B.exec B.bytes (by rw [B.returns]; exact hr) hty (Or.inr ⟨_, rfl⟩) (fun t ht hW => ⟨⟨_, ws, rfl, hp, by rw [ht]; exact hP, hD⟩, hS.F ht⟩) hS.2.2 hd hlocks)
  · intro u pc lv ws hu hd hr hp cl sl H locs ls hc9 hs9 hP hD hS hl
    exact W.widen (Nat.le_trans hc9 hu) (Nat.le_trans hs9 (Nat.mul_le_mul_left 6 hu)) (W.vret B.exec B.bytes (by rw [B.returns]; exact hr) (fun t ht hW => ⟨⟨_, ws, rfl, hp, by rw [ht]; exact hP, hD⟩, hS.F ht⟩) hS.2.2 hd hlocks)

section QJK
variable {l : Launch} {K : q_K} {cc : ByteArray} {own : String} {dd n0 U u pc idx : Nat} {ws fr : va_W} {lv : List (Nat × Value)} {st : List Value}
theorem j_kval (C : q_Cj K cc own dd n0 U) {i a : Nat} (hi3 : i < 13) (hG : q_ad K (200 + i) = a) (hlk : Cond.fieldLink own idx "java/lang/String" "value" "[B" ∈ q_WS) (d : decode cc pc = .ok (.getfield idx, 3)) (kk : q_J l K u ws (pc + 3) lv (.ref (q_ad K (230 + i)) :: st)) : q_J l K u ws pc lv (.ref a :: st) := by
  obtain ⟨p, e, R, s, m, args, below, meth, c, cells, slots, Q, D, cy, ad, A, nL, L⟩ := K
  obtain ⟨hx, hb, hml, hnl, hown, hts, hK, hA2, hf1, hf2, hc1, hc2, hE, hEX⟩ := C
  intro cl sl H locs ls hc9 hs9 hP hD hS hl
  subst hG
  exact vk_getf hx hb (hE.1.1 i hi3).2.2.1 hS hown (hts _ hlk) (fun _ h => h) d (kk cl sl H locs ls hc9 hs9 hP hD hS hl)
theorem j_kcoder (C : q_Cj K cc own dd n0 U) {i a : Nat} (hi3 : i < 13) (hG : q_ad K (200 + i) = a) (hlk : Cond.fieldLink own idx "java/lang/String" "coder" "B" ∈ q_WS) (d : decode cc pc = .ok (.getfield idx, 3)) (kk : q_J l K u ws (pc + 3) lv (.int 0 :: st)) : q_J l K u ws pc lv (.ref a :: st) := by
  obtain ⟨p, e, R, s, m, args, below, meth, c, cells, slots, Q, D, cy, ad, A, nL, L⟩ := K
  obtain ⟨hx, hb, hml, hnl, hown, hts, hK, hA2, hf1, hf2, hc1, hc2, hE, hEX⟩ := C
  intro cl sl H locs ls hc9 hs9 hP hD hS hl
  subst hG
  exact vk_getf hx hb (hE.1.1 i hi3).2.1 hS hown (hts _ hlk) (fun _ h => h) d (kk cl sl H locs ls hc9 hs9 hP hD hS hl)
theorem j_kalen (C : q_Cj K cc own dd n0 U) {i : Nat} (hi3 : i < 13) (d : decode cc pc = .ok (.arraylength, 1)) (kk : q_J l K u ws (pc + 1) lv (.int (nI (kL i)) :: st)) : q_J l K u ws pc lv (.ref (q_ad K (230 + i)) :: st) := by
  obtain ⟨p, e, R, s, m, args, below, meth, c, cells, slots, Q, D, cy, ad, A, nL, L⟩ := K
  obtain ⟨hx, hb, hml, hnl, hown, hts, hK, hA2, hf1, hf2, hc1, hc2, hE, hEX⟩ := C
  intro cl sl H locs ls hc9 hs9 hP hD hS hl
  exact va_tlen hx hb (hE.1.1 i hi3).2.2.2 hS rfl d (kk cl sl H locs ls hc9 hs9 hP hD hS hl)
set_option maxHeartbeats 1000000 in
theorem j_kcopy (C : q_Cj K cc own dd n0 U) {i a n1' dp n' : Nat} {g : Nat → Int32} {xd xn : Int32} {ws' : va_W} (hi3 : i < 13) (q1 : Nat) (ha1 : ws[q1]? = some (a, .inl (q_cy K 5, n1', .inl g))) (e2 : xd = nI dp) (e3 : xn = nI n') (b1 : n' ≤ kL i) (b2 : dp + n' ≤ n1') (b3 : n1' < 2 ^ 31) (b4 : kL i < 2 ^ 31) (hfit : ∀ j, fits .byte (.int (kB i j)) = true) (hw' : ws.set q1 (a, .inl (q_cy K 5, n1', .inl (va_cpy (kB i) g 0 dp n'))) = ws') (hlk : Cond.methodLink own idx arraycopyName ∈ q_WS) (hna : Cond.native arraycopyName ∈ q_WS) (hst : Cond.static arraycopyName ∈ q_WS) (hin : Cond.initialized "java/lang/System" ∈ q_WS) (hdd : 1 ≤ dd) (hroom : (st.map Value.category).sum ≤ 8) (d : decode cc pc = .ok (.invokestatic idx, 3)) (kk : q_J l K u ws' (pc + 3) lv st) : q_J l K u ws pc lv (.int xn :: .int xd :: .ref a :: .int 0 :: .ref (q_ad K (230 + i)) :: st) := by
  obtain ⟨p, e, R, s, m, args, below, meth, c, cells, slots, Q, D, cy, ad, A, nL, L⟩ := K
  obtain ⟨hx, hb, hml, hnl, hown, hts, hK, hA2, hf1, hf2, hc1, hc2, hE, hEX⟩ := C
  intro cl sl H locs ls hc9 hs9 hP hD hS hl
  subst e2; subst e3; subst hw'
  have c0 : (0 : Int32).toNatClampNeg = 0 := by decide
  have c2 : (nI dp).toNatClampNeg = dp := nI_clamp (by omega)
  have c3 : (nI n').toNatClampNeg = n' := nI_clamp (by omega)
  have i2 : (nI dp).toInt = (dp : Int) := nI_toInt (by omega)
  have i3 : (nI n').toInt = (n' : Int) := nI_toInt (by omega)
  have bq : n' ≤ q_len.getD i 0 := b1
  have hw9 : nativeFrameWords "java/lang/System" "arraycopy" 5 ≤ 20 := by decide
  have hroom9 : (st.map (fun v => v.category)).sum ≤ 8 := hroom
  intro T hT X
  obtain ⟨scr, hs1, hs2, hs3, hs4, -, hs5, hsA⟩ := (hE.1.1 i hi3).2.2.2
  obtain ⟨hs6, k0, hk0, cm0, hkk0⟩ := hs2
  have hbl : ad (230 + i) < s.heap.size := (Array.getElem?_eq_some_iff.mp hs1).1
  have hc0 : H[ad (230 + i)]? = some scr := by rw [hS.2.1 _ hbl hsA]; exact hs1
  have hc1' : H[a]? = some (vp_cell (cy 5) (n1', .inl g)) := hP q1 _ ha1
  obtain ⟨-, k1, hk1, cm1, hkk1⟩ := (hK.2 5 _ rfl).1 n1' (fun j => .int (g j))
  obtain ⟨vm', X', step⟩ := X.arraycopy hx hown (hts _ hlk) (hts _ hna) (hts _ hst) (hts _ hin) (src := ad (230 + i)) (dst := a) (cs := scr) (cd := vp_cell (cy 5) (n1', .inl g)) (srcPos := 0) (destPos := nI dp) (n := nI n') (by rw [hT]; exact hc0) (by rw [hT]; exact hc1')
    hs6 (fun _ h => by cases h) hs3 (fun h => by cases h) hk0 hk1 hkk0 hkk1 (by simp [refKind]) (by decide) (nI_pos (by omega)) (nI_pos (by omega))
    (by rw [i3, Int32.toInt_zero]; omega)
    (by rw [i2, i3]; show ¬ _ > ((arrV (cy 5) n1' (fun j => .int (g j))).slots.size : Int); rw [arrV_size]; omega)
    (fun vm₁ _ j hj => by
      have e : scr.slots.getD ((0 : Int32).toNatClampNeg + j) .null = .int (kB i ((0 : Int32).toNatClampNeg + j)) := by
        rw [Array.getD_eq_getD_getElem?, hs5 _ (by rw [c0]; rw [c3] at hj; show 0 + j < kL i; omega)]
        rfl
      refine ⟨?_, ?_⟩
      · rw [e]
        exact hfit _
      · rw [e]
        exact trivial)
    (g := F0 m pc ls (.int (nI n') :: .int (nI dp) :: .ref a :: .int 0 :: .ref (ad (230 + i)) :: st)) rfl (by rw [hml, hl.1]) (rest := st) rfl (by rw [hb]; exact d) (by omega) (by show 2 * 0 + _ + _ ≤ _; omega)
  have e1 : copied scr (vp_cell (cy 5) (n1', .inl g)) 0 (nI dp) (nI n') = vp_cell (cy 5) (n1', .inl (va_cpy (kB i) g 0 dp n')) := by
    have h9 : copied scr (vp_cell (cy 5) (n1', .inl g)) 0 (nI dp) (nI n') = vp_cell (cy 5) (n1', .inl (va_cpy (kB i) g (0 : Int32).toNatClampNeg (nI dp).toNatClampNeg (nI n').toNatClampNeg)) := va_copiedX (fun z => .int z) scr (cy 5) (kB i) g hs5 (by rw [c0, c3]; show 0 + n' ≤ kL i; omega)
    rw [c0, c2, c3] at h9
    exact h9
  rw [e1] at X' step
  have hl9 : a < H.size := (Array.getElem?_eq_some_iff.mp hc1').1
  have oq : ∀ q : Nat, q ≠ a → (H.setIfInBounds a (vp_cell (cy 5) (n1', .inl (va_cpy (kB i) g 0 dp n'))))[q]? = H[q]? := fun q hq => by simp [Array.getElem?_setIfInBounds, Ne.symm hq]
  obtain ⟨t, a1, b1'⟩ := kk cl sl _ _ ls hc9 hs9 (hP.set hD ha1 (show (H.setIfInBounds a _)[a]? = some _ by simp [Array.getElem?_setIfInBounds, hl9]; rfl) oq) (hD.set ha1) ⟨by simp; exact hS.1, fun q g1 g2 => by
      rw [oq q (fun e => g2 (by rw [e]; exact hD.2 q1 _ ha1))]
      exact hS.2.1 q g1 g2, fun q hq => by
      rcases List.mem_append.mp hq with h | h
      · exact hS.2.2 q h
      · obtain ⟨z, -, hz⟩ := List.mem_map.mp h
        rw [← hz]
        exact hD.2 q1 _ ha1⟩ hl _ (show ((T.setVm vm').setCell a _).heap = _ by rw [← hT]; rfl) X'
  exact ⟨t, step t a1, b1'⟩
set_option maxHeartbeats 1000000 in
theorem j_cuK (C : q_Cj K cc own dd n0 U) {i a0 : Nat} (hi3 : i < 13) (hG : q_ad K (200 + i) = a0) {y : MethodName} {cd : Cond} {d u1 maxL n : Nat} {bytes : ByteArray} {ret : Option FieldType} {As rest st0 : List Value} {w : (Nat → ClassId) → va_W} {P : (Nat → ClassId) → Nat → Option Value → va_W → Prop} {b k0 ci : Nat} {fs : List Value} {T : u_T} {N : Nat} {CN : String} (hci : q_cl[ci]? = some (CN, T, N)) (hM : q_JmK i a0 l y cd d u1 (.ref b :: As) w P) (hrc : (w (q_cy K))[k0]? = some (b, .inr (ci, fs))) (y1 : cd = .code y bytes maxL ret) (y2 : y.cls ≠ "java/lang/invoke/MethodHandle" ∧ y.cls ≠ "java/lang/invoke/VarHandle" ∧ (parseMethodDescriptor y.desc).map (fun d => d.parameters.length) = some n) (hlk : Cond.methodLink own idx y ∈ q_WS) (y6 : Cond.instanceMethod y ∈ q_WS) (y8 : Cond.initialized y.cls ∈ q_WS) (y9 : cd ∈ q_WS) (y10 : Cond.sameMethod y.cls y.cls y.name y.desc ∈ q_WS) (ysel : ∀ (args : Array Value) (s : State), (∀ w ∈ q_WS, w.before args s = true) → (Cond.selects CN y y).before args s = true) (hn : As.length = n) (hst : st0 = As.reverse ++ .ref b :: rest) (hR : d + 1 ≤ dd ∧ maxL ≤ 21) (hU : u + u1 ≤ U) (hroom : (rest.map Value.category).sum ≤ 8) (dg : decode cc pc = .ok (.invokevirtual idx, 3)) (kk : ∀ (sz : Nat) (rv : Option Value) (w' : va_W), q_sz0 K ≤ sz → (∀ q ∈ w (q_cy K) ++ fr, q.1 < sz) → P (q_cy K) sz rv w' → q_J l K (u + u1) (w' ++ fr) (pc + 3) lv (rv.toList ++ rest)) : q_J l K u (w (q_cy K) ++ fr) pc lv st0 := by
  obtain ⟨p, e, R, s, m, args, below, meth, c, cells, slots, Q, D, cy, ad, A, nL, L⟩ := K
  obtain ⟨hx, hb, hml, hnl, hown, hts, hK, hA2, hf1, hf2, hc1, hc2, hE, hEX⟩ := C
  intro cl sl H locs ls hc9 hs9 hP hD hS hl
  have hF := q_freeJ hD hS hA2
  have hlt : ∀ q ∈ w cy ++ fr, q.1 < H.size := fun q hq => by
    obtain ⟨i, hi⟩ := q_mem_at hq
    exact vx_lt hP hi
  have hpre : ∀ T : State, T.heap = H → s.WarmedH T.vm → q_Pj (.ref b :: As) (w cy) H.size D cy ad L (.ref b :: As).toArray T := fun T hT hW => ⟨rfl, by rw [hT], by rw [hT]; exact q_P_l hP, q_ownJ hD _, va_K.moved hW.alike hK, by rw [hT]; exact q_E.go hE hS.2.1 hF hW, q_EX.go hEX hW⟩
  refine q_runJ (va_runU (As := As) (rest := rest) (C := CN) (owner := y.cls) (x := y) ⟨hx, hb, hml, hown, hts⟩ (hM D cy ad H.size L hG) ⟨⟨rfl, rfl, Nat.le_trans hR.1 hf1, ?_, pay_in hts (q_goodI y9), by rw [y1]; exact List.mem_cons_self⟩, by rw [← y1]; exact hts _ y9, hts _ y8, ⟨y2.1, y2.2.1⟩, fun sig h => ?_, hts _ hlk, hts _ y10, va_Decl.of (hts _ y6) (by rw [← y1]; exact hts _ y9), ?_, hts _ y6⟩ ⟨q_Pj_blind _ _ _ _ _ _ _, va_recv hK (q_P_l hP) hci hrc, hpre⟩ rfl hn hl.1 hst (lv_room hroom) dg ⟨by omega, by omega⟩) hP hD hS hA2 (fun rv w' H1 locs1 hp hP1 hD1 hS1 => kk H.size rv w' hS.1 hlt hp (cl + u1) (sl + 6 * u1) H1 locs1 ls (by omega) (by omega) hP1 hD1 hS1 hl)
  · have h9 : (q_rmX d u1).locals = 40 * d := rfl
    rw [h9]
    have h8 := hR.1
    have h7 := hR.2
    omega
  · have h2 := y2.2.2
    rw [h] at h2
    exact (Option.some.inj h2).symm
  · exact ysel _ _ hts
set_option maxHeartbeats 1000000 in
theorem j_csuK (C : q_Cj K cc own dd n0 U) {i a0 : Nat} (hi3 : i < 13) (hG : q_ad K (200 + i) = a0) {y : MethodName} {cd : Cond} {d u1 maxL n : Nat} {bytes : ByteArray} {ret : Option FieldType} {As rest st0 : List Value} {w : (Nat → ClassId) → va_W} {P : (Nat → ClassId) → Nat → Option Value → va_W → Prop} {b k0 : Nat} {fs : List Value} (hM : q_JmK i a0 l y cd d u1 (.ref b :: As) w P) (hrc : (w (q_cy K))[k0]? = some (b, .inr (7, fs))) (hownS : own = RSB) (y1 : cd = .code y bytes maxL ret) (y2 : y.name ≠ "<init>" ∧ (parseMethodDescriptor y.desc).map (fun d => d.parameters.length) = some n) (hlk : Cond.methodLink own idx y ∈ q_WS) (y6 : Cond.instanceMethod y ∈ q_WS) (y8 : Cond.initialized y.cls ∈ q_WS) (y9 : cd ∈ q_WS) (y10 : Cond.sameMethod y.cls y.cls y.name y.desc ∈ q_WS) (y11 : Cond.superclass own y.cls ∈ q_WS) (hn : As.length = n) (hst : st0 = As.reverse ++ .ref b :: rest) (hR : d + 1 ≤ dd ∧ maxL ≤ 21) (hU : u + u1 ≤ U) (hroom : (rest.map Value.category).sum ≤ 8) (dg : decode cc pc = .ok (.invokespecial idx, 3)) (kk : ∀ (sz : Nat) (rv : Option Value) (w' : va_W), q_sz0 K ≤ sz → (∀ q ∈ w (q_cy K) ++ fr, q.1 < sz) → P (q_cy K) sz rv w' → q_J l K (u + u1) (w' ++ fr) (pc + 3) lv (rv.toList ++ rest)) : q_J l K u (w (q_cy K) ++ fr) pc lv st0 := by
  obtain ⟨p, e, R, s, m, args, below, meth, c, cells, slots, Q, D, cy, ad, A, nL, L⟩ := K
  obtain ⟨hx, hb, hml, hnl, hown, hts, hK, hA2, hf1, hf2, hc1, hc2, hE, hEX⟩ := C
  intro cl sl H locs ls hc9 hs9 hP hD hS hl
  have hF := q_freeJ hD hS hA2
  have hlt : ∀ q ∈ w cy ++ fr, q.1 < H.size := fun q hq => by
    obtain ⟨i, hi⟩ := q_mem_at hq
    exact vx_lt hP hi
  have hpre : ∀ T : State, T.heap = H → s.WarmedH T.vm → q_Pj (.ref b :: As) (w cy) H.size D cy ad L (.ref b :: As).toArray T := fun T hT hW => ⟨rfl, by rw [hT], by rw [hT]; exact q_P_l hP, q_ownJ hD _, va_K.moved hW.alike hK, by rw [hT]; exact q_E.go hE hS.2.1 hF hW, q_EX.go hEX hW⟩
  have hat : ClassAt s own (D.1 7) := by rw [hownS]; exact (hK.1 7 _ rfl).2
  refine q_runJ (va_runSU (As := As) (rest := rest) hat ⟨hx, hb, hml, hown, hts⟩ (hM D cy ad H.size L hG) (va_cwSU n hts (q_goodSU hlk y10 y11 y6 y8 y9) (congrArg (fun z => z :: q_WS) y1) rfl rfl y2 ⟨Nat.le_trans hR.1 hf1, ?_⟩) ⟨q_Pj_blind _ _ _ _ _ _ _, by rw [hownS]; exact va_recv (q := (RSB, TSB, 4)) hK (q_P_l hP) rfl hrc, hpre⟩ rfl hn hl.1 hst (lv_room hroom) dg ⟨by omega, by omega⟩) hP hD hS hA2 (fun rv w' H1 locs1 hp hP1 hD1 hS1 => kk H.size rv w' hS.1 hlt hp (cl + u1) (sl + 6 * u1) H1 locs1 ls (by omega) (by omega) hP1 hD1 hS1 hl)
  · have h9 : (q_rmX d u1).locals = 40 * d := rfl
    rw [h9]
    have h8 := hR.1
    have h7 := hR.2
    omega

set_option maxHeartbeats 1000000 in
theorem j_cvK (C : q_Cj K cc own dd n0 U) {i a0 : Nat} (hi3 : i < 13) (hG : q_ad K (200 + i) = a0) {y : MethodName} {cd : Cond} {d u1 maxL n : Nat} {bytes : ByteArray} {ret : Option FieldType} {As rest st0 : List Value} {w : (Nat → ClassId) → va_W} {P : (Nat → ClassId) → Nat → Option Value → va_W → Prop} (hM : q_JmK i a0 l y cd d u1 (.ref a0 :: As) w P) (hcls : y.cls = RST) (y1 : cd = .code y bytes maxL ret) (y2 : y.cls ≠ "java/lang/invoke/MethodHandle" ∧ y.cls ≠ "java/lang/invoke/VarHandle" ∧ (parseMethodDescriptor y.desc).map (fun d => d.parameters.length) = some n) (hlk : Cond.methodLink own idx y ∈ q_WS) (y6 : Cond.instanceMethod y ∈ q_WS) (y7 : Cond.selects y.cls y y ∈ q_WS) (y8 : Cond.initialized y.cls ∈ q_WS) (y9 : cd ∈ q_WS) (hn : As.length = n) (hst : st0 = As.reverse ++ .ref a0 :: rest) (hR : d + 1 ≤ dd ∧ maxL ≤ 21) (hU : u + u1 ≤ U) (hroom : (rest.map Value.category).sum ≤ 8) (dg : decode cc pc = .ok (.invokevirtual idx, 3)) (kk : ∀ (sz : Nat) (rv : Option Value) (w' : va_W), q_sz0 K ≤ sz → (∀ q ∈ w (q_cy K) ++ fr, q.1 < sz) → P (q_cy K) sz rv w' → q_J l K (u + u1) (w' ++ fr) (pc + 3) lv (rv.toList ++ rest)) : q_J l K u (w (q_cy K) ++ fr) pc lv st0 := by
  obtain ⟨p, e, R, s, m, args, below, meth, c, cells, slots, Q, D, cy, ad, A, nL, L⟩ := K
  obtain ⟨hx, hb, hml, hnl, hown, hts, hK, hA2, hf1, hf2, hc1, hc2, hE, hEX⟩ := C
  intro cl sl H locs ls hc9 hs9 hP hD hS hl
  have hF := q_freeJ hD hS hA2
  have hlt : ∀ q ∈ w cy ++ fr, q.1 < H.size := fun q hq => by
    obtain ⟨i, hi⟩ := q_mem_at hq
    exact vx_lt hP hi
  have hpre : ∀ T : State, T.heap = H → s.WarmedH T.vm → q_Pj (.ref a0 :: As) (w cy) H.size D cy ad L (.ref a0 :: As).toArray T := fun T hT hW => ⟨rfl, by rw [hT], by rw [hT]; exact q_P_l hP, q_ownJ hD _, va_K.moved hW.alike hK, by rw [hT]; exact q_E.go hE hS.2.1 hF hW, q_EX.go hEX hW⟩
  refine q_runJ (va_runV (As := As) (rest := rest) ⟨hx, hb, hml, hown, hts⟩ (hM D cy ad H.size L hG) (cwV n hts (q_goodV hlk y6 y7 y8 y9) (congrArg (fun z => z :: q_WS) y1) rfl rfl ⟨rfl, y2⟩ ⟨Nat.le_trans hR.1 hf1, ?_⟩) ⟨q_Pj_blind _ _ _ _ _ _ _, by rw [hcls, ← hG]; exact vk_recv (i := i) (adK := fun i => ad (200 + i)) hE.1 hi3 hS, hpre⟩ rfl hn hl.1 hst (lv_room hroom) dg ⟨by omega, by omega⟩) hP hD hS hA2 (fun rv w' H1 locs1 hp hP1 hD1 hS1 => kk H.size rv w' hS.1 hlt hp (cl + u1) (sl + 6 * u1) H1 locs1 ls (by omega) (by omega) hP1 hD1 hS1 hl)
  · have h9 : (q_rmX d u1).locals = 40 * d := rfl
    rw [h9]
    have h8 := hR.1
    have h7 := hR.2
    omega

end QJK
