
/-! StringBuilder's own methods, called from the law -/
theorem jVJ4_append_cf468 : Cond.selects yJ4_append_cf468.cls yJ4_append_cf468 yJ4_append_cf468 ∈ q_WS := q_in 1160 (by decide +kernel) rfl
theorem jVJ4_append_bf812 : Cond.selects yJ4_append_bf812.cls yJ4_append_bf812 yJ4_append_bf812 ∈ q_WS := q_in 1107 (by decide +kernel) rfl
theorem jVJ4_append_15ec4 : Cond.selects yJ4_append_15ec4.cls yJ4_append_15ec4 yJ4_append_15ec4 ∈ q_WS := q_in 991 (by decide +kernel) rfl
theorem jVJ4_toString_0e30d : Cond.selects yJ4_toString_0e30d.cls yJ4_toString_0e30d yJ4_toString_0e30d ∈ q_WS := q_in 1173 (by decide +kernel) rfl
section QJW
variable {l : Launch} {K : q_K} {cc : ByteArray} {own : String} {dd n0 U u pc idx : Nat} {ws fr : va_W} {lv : List (Nat × Value)} {st : List Value}
set_option maxHeartbeats 1000000 in
theorem j_cw (C : q_Cj K cc own dd n0 U) {y : MethodName} {cd : Cond} {d u1 maxL n : Nat} {bytes : ByteArray} {ret : Option FieldType} {As rest st0 : List Value} {w : (Nat → ClassId) → va_W} {P : (Nat → ClassId) → Nat → Option Value → va_W → Prop} {b k0 : Nat} {fs : List Value} (hM : q_Jm l y cd d u1 (.ref b :: As) w P) (hrc : (w (q_cy K))[k0]? = some (b, .inr (7, fs))) (hcls : y.cls = RSB) (y1 : cd = .code y bytes maxL ret) (y2 : y.cls ≠ "java/lang/invoke/MethodHandle" ∧ y.cls ≠ "java/lang/invoke/VarHandle" ∧ (parseMethodDescriptor y.desc).map (fun d => d.parameters.length) = some n) (hlk : Cond.methodLink own idx y ∈ q_WS) (y6 : Cond.instanceMethod y ∈ q_WS) (y7 : Cond.selects y.cls y y ∈ q_WS) (y8 : Cond.initialized y.cls ∈ q_WS) (y9 : cd ∈ q_WS) (hn : As.length = n) (hst : st0 = As.reverse ++ .ref b :: rest) (hR : d + 1 ≤ dd ∧ maxL ≤ 21) (hU : u + u1 ≤ U) (hroom : (rest.map Value.category).sum ≤ 8) (dg : decode cc pc = .ok (.invokevirtual idx, 3)) (kk : ∀ (sz : Nat) (rv : Option Value) (w' : va_W), q_sz0 K ≤ sz → (∀ q ∈ w (q_cy K) ++ fr, q.1 < sz) → P (q_cy K) sz rv w' → q_J l K (u + u1) (w' ++ fr) (pc + 3) lv (rv.toList ++ rest)) : q_J l K u (w (q_cy K) ++ fr) pc lv st0 := by
  obtain ⟨p, e, R, s, m, args, below, meth, c, cells, slots, Q, D, cy, ad, A, nL, L⟩ := K
  obtain ⟨hx, hb, hml, hnl, hown, hts, hK, hA2, hf1, hf2, hc1, hc2, hE, hEX⟩ := C
  intro cl sl H locs ls hc9 hs9 hP hD hS hl
  have hF := q_freeJ hD hS hA2
  have hlt : ∀ q ∈ w cy ++ fr, q.1 < H.size := fun q hq => by
    obtain ⟨i, hi⟩ := q_mem_at hq
    exact vx_lt hP hi
  have hpre : ∀ T : State, T.heap = H → s.WarmedH T.vm → q_Pj (.ref b :: As) (w cy) H.size D cy ad L (.ref b :: As).toArray T := fun T hT hW => ⟨rfl, by rw [hT], by rw [hT]; exact q_P_l hP, q_ownJ hD _, va_K.moved hW.alike hK, by rw [hT]; exact q_E.go hE hS.2.1 hF hW, q_EX.go hEX hW⟩
  refine q_runJ (va_runV (As := As) (rest := rest) ⟨hx, hb, hml, hown, hts⟩ (hM D cy ad H.size L) (cwV n hts (q_goodV hlk y6 y7 y8 y9) (congrArg (fun z => z :: q_WS) y1) rfl rfl ⟨rfl, y2⟩ ⟨Nat.le_trans hR.1 hf1, ?_⟩) ⟨q_Pj_blind _ _ _ _ _ _ _, by rw [hcls]; exact va_recv (q := (RSB, TSB, 4)) hK (q_P_l hP) rfl hrc, hpre⟩ rfl hn hl.1 hst (lv_room hroom) dg ⟨by omega, by omega⟩) hP hD hS hA2 (fun rv w' H1 locs1 hp hP1 hD1 hS1 => kk H.size rv w' hS.1 hlt hp (cl + u1) (sl + 6 * u1) H1 locs1 ls (by omega) (by omega) hP1 hD1 hS1 hl)
  · have h9 : (q_rmX d u1).locals = 40 * d := rfl
    rw [h9]
    have h8 := hR.1
    have h7 := hR.2
    omega

set_option maxHeartbeats 1000000 in
theorem j_cwK (C : q_Cj K cc own dd n0 U) {i a0 : Nat} (hG : q_ad K (200 + i) = a0) {y : MethodName} {cd : Cond} {d u1 maxL n : Nat} {bytes : ByteArray} {ret : Option FieldType} {As rest st0 : List Value} {w : (Nat → ClassId) → va_W} {P : (Nat → ClassId) → Nat → Option Value → va_W → Prop} {b k0 : Nat} {fs : List Value} (hM : q_JmK i a0 l y cd d u1 (.ref b :: As) w P) (hrc : (w (q_cy K))[k0]? = some (b, .inr (7, fs))) (hcls : y.cls = RSB) (y1 : cd = .code y bytes maxL ret) (y2 : y.cls ≠ "java/lang/invoke/MethodHandle" ∧ y.cls ≠ "java/lang/invoke/VarHandle" ∧ (parseMethodDescriptor y.desc).map (fun d => d.parameters.length) = some n) (hlk : Cond.methodLink own idx y ∈ q_WS) (y6 : Cond.instanceMethod y ∈ q_WS) (y7 : Cond.selects y.cls y y ∈ q_WS) (y8 : Cond.initialized y.cls ∈ q_WS) (y9 : cd ∈ q_WS) (hn : As.length = n) (hst : st0 = As.reverse ++ .ref b :: rest) (hR : d + 1 ≤ dd ∧ maxL ≤ 21) (hU : u + u1 ≤ U) (hroom : (rest.map Value.category).sum ≤ 8) (dg : decode cc pc = .ok (.invokevirtual idx, 3)) (kk : ∀ (sz : Nat) (rv : Option Value) (w' : va_W), q_sz0 K ≤ sz → (∀ q ∈ w (q_cy K) ++ fr, q.1 < sz) → P (q_cy K) sz rv w' → q_J l K (u + u1) (w' ++ fr) (pc + 3) lv (rv.toList ++ rest)) : q_J l K u (w (q_cy K) ++ fr) pc lv st0 := by
  obtain ⟨p, e, R, s, m, args, below, meth, c, cells, slots, Q, D, cy, ad, A, nL, L⟩ := K
  obtain ⟨hx, hb, hml, hnl, hown, hts, hK, hA2, hf1, hf2, hc1, hc2, hE, hEX⟩ := C
  intro cl sl H locs ls hc9 hs9 hP hD hS hl
  have hF := q_freeJ hD hS hA2
  have hlt : ∀ q ∈ w cy ++ fr, q.1 < H.size := fun q hq => by
    obtain ⟨i, hi⟩ := q_mem_at hq
    exact vx_lt hP hi
  have hpre : ∀ T : State, T.heap = H → s.WarmedH T.vm → q_Pj (.ref b :: As) (w cy) H.size D cy ad L (.ref b :: As).toArray T := fun T hT hW => ⟨rfl, by rw [hT], by rw [hT]; exact q_P_l hP, q_ownJ hD _, va_K.moved hW.alike hK, by rw [hT]; exact q_E.go hE hS.2.1 hF hW, q_EX.go hEX hW⟩
  refine q_runJ (va_runV (As := As) (rest := rest) ⟨hx, hb, hml, hown, hts⟩ (hM D cy ad H.size L hG) (cwV n hts (q_goodV hlk y6 y7 y8 y9) (congrArg (fun z => z :: q_WS) y1) rfl rfl ⟨rfl, y2⟩ ⟨Nat.le_trans hR.1 hf1, ?_⟩) ⟨q_Pj_blind _ _ _ _ _ _ _, by rw [hcls]; exact va_recv (q := (RSB, TSB, 4)) hK (q_P_l hP) rfl hrc, hpre⟩ rfl hn hl.1 hst (lv_room hroom) dg ⟨by omega, by omega⟩) hP hD hS hA2 (fun rv w' H1 locs1 hp hP1 hD1 hS1 => kk H.size rv w' hS.1 hlt hp (cl + u1) (sl + 6 * u1) H1 locs1 ls (by omega) (by omega) hP1 hD1 hS1 hl)
  · have h9 : (q_rmX d u1).locals = 40 * d := rfl
    rw [h9]
    have h8 := hR.1
    have h7 := hR.2
    omega

end QJW
section QYW
variable {l : Launch} {K : q_K} {cc : ByteArray} {own : String} {dd n0 U u pc idx : Nat} {xa : List Nat} {ex fr : va_W} {lv : List (Nat × Value)} {st : List Value} {S : q_St}
theorem y_tw (C : q_Cy K cc own dd n0 U xa q_Tr) (hA : q_KA K) {y : MethodName} {cd : Cond} {d u1 maxL n : Nat} {bytes : ByteArray} {ret : Option FieldType} {As rest st0 : List Value} {w : (Nat → ClassId) → va_W} {P : (Nat → ClassId) → Nat → Option Value → va_W → Prop} {b k0 : Nat} {fs : List Value} (hM : q_Jm l y cd d u1 (.ref b :: As) w P) (hrc : (w (q_cy K))[k0]? = some (b, .inr (7, fs))) (hcls : y.cls = RSB) (y1 : cd = .code y bytes maxL ret) (y2 : y.cls ≠ "java/lang/invoke/MethodHandle" ∧ y.cls ≠ "java/lang/invoke/VarHandle" ∧ (parseMethodDescriptor y.desc).map (fun d => d.parameters.length) = some n) (hlk : Cond.methodLink own idx y ∈ q_WS) (y6 : Cond.instanceMethod y ∈ q_WS) (y7 : Cond.selects y.cls y y ∈ q_WS) (y8 : Cond.initialized y.cls ∈ q_WS) (y9 : cd ∈ q_WS) (hex : (w (q_cy K) ++ fr).map (fun q => q.1) = xa) (hn : As.length = n) (hst : st0 = As.reverse ++ .ref b :: rest) (hR : d + 1 ≤ dd ∧ maxL ≤ 21) (hU : u + u1 ≤ U) (hroom : (rest.map Value.category).sum ≤ 8) (dg : decode cc pc = .ok (.invokevirtual idx, 3)) (kk : ∀ (sz : Nat) (rv : Option Value) (w' : va_W), P (q_cy K) sz rv w' → q_Cy K cc own dd n0 U ((w' ++ fr).map (fun q => q.1)) q_Tr → q_Y l K (u + u1) (w' ++ fr) q_Tr (pc + 3) lv (rv.toList ++ rest) S) : q_Y l K u (w (q_cy K) ++ fr) q_Tr pc lv st0 S := by
  refine y_toJ C hex ?_
  rw [List.append_assoc]
  refine j_cw (As := As) (rest := rest) (w := w) (fr := fr ++ _) (P := P) (k0 := k0) (y_Cj C) hM hrc hcls y1 y2 hlk y6 y7 y8 y9 hn hst hR hU hroom dg (fun sz rv w' h1 h2 hp => ?_)
  rw [← List.append_assoc]
  exact j_toY hA C (fun C' => kk sz rv w' hp C')
theorem y_twK (C : q_Cy K cc own dd n0 U xa q_Tr) (hA : q_KA K) {i a0 : Nat} (hG : q_ad K (200 + i) = a0) {y : MethodName} {cd : Cond} {d u1 maxL n : Nat} {bytes : ByteArray} {ret : Option FieldType} {As rest st0 : List Value} {w : (Nat → ClassId) → va_W} {P : (Nat → ClassId) → Nat → Option Value → va_W → Prop} {b k0 : Nat} {fs : List Value} (hM : q_JmK i a0 l y cd d u1 (.ref b :: As) w P) (hrc : (w (q_cy K))[k0]? = some (b, .inr (7, fs))) (hcls : y.cls = RSB) (y1 : cd = .code y bytes maxL ret) (y2 : y.cls ≠ "java/lang/invoke/MethodHandle" ∧ y.cls ≠ "java/lang/invoke/VarHandle" ∧ (parseMethodDescriptor y.desc).map (fun d => d.parameters.length) = some n) (hlk : Cond.methodLink own idx y ∈ q_WS) (y6 : Cond.instanceMethod y ∈ q_WS) (y7 : Cond.selects y.cls y y ∈ q_WS) (y8 : Cond.initialized y.cls ∈ q_WS) (y9 : cd ∈ q_WS) (hex : (w (q_cy K) ++ fr).map (fun q => q.1) = xa) (hn : As.length = n) (hst : st0 = As.reverse ++ .ref b :: rest) (hR : d + 1 ≤ dd ∧ maxL ≤ 21) (hU : u + u1 ≤ U) (hroom : (rest.map Value.category).sum ≤ 8) (dg : decode cc pc = .ok (.invokevirtual idx, 3)) (kk : ∀ (sz : Nat) (rv : Option Value) (w' : va_W), P (q_cy K) sz rv w' → q_Cy K cc own dd n0 U ((w' ++ fr).map (fun q => q.1)) q_Tr → q_Y l K (u + u1) (w' ++ fr) q_Tr (pc + 3) lv (rv.toList ++ rest) S) : q_Y l K u (w (q_cy K) ++ fr) q_Tr pc lv st0 S := by
  refine y_toJ C hex ?_
  rw [List.append_assoc]
  refine j_cwK (As := As) (rest := rest) (w := w) (fr := fr ++ _) (P := P) (k0 := k0) (y_Cj C) hG hM hrc hcls y1 y2 hlk y6 y7 y8 y9 hn hst hR hU hroom dg (fun sz rv w' h1 h2 hp => ?_)
  rw [← List.append_assoc]
  exact j_toY hA C (fun C' => kk sz rv w' hp C')
theorem y_appC (C : q_Cy K cc own dd n0 U xa q_Tr) (hA : q_KA K) {b da N n : Nat} {f : Nat → Int32} {xs : List Int32} {c : Nat} (hX : jX xs n f) (hf : jB f) (hn : n ≤ N) (hb : N ≤ 2 * n + 16) (hc : c < 128) (h100 : xs.length < 100) (hlk : Cond.methodLink own idx yJ4_append_cf468 ∈ q_WS) (hdd : 8 ≤ dd) (hU : u + 101 ≤ U) {rest : List Value} (hroom : (rest.map Value.category).sum ≤ 8) (dg : decode cc pc = .ok (.invokevirtual idx, 3)) (hex : (uB (q_cy K) b da N f n ++ fr).map (fun q => q.1) = xa) (kk : ∀ (da' N' n' : Nat) (f' : Nat → Int32), jX (xs ++ [nI c]) n' f' → jB f' → n' ≤ N' → N' ≤ 2 * n' + 16 → q_Cy K cc own dd n0 U ((uB (q_cy K) b da' N' f' n' ++ fr).map (fun q => q.1)) q_Tr → q_Y l K (u + 101) (uB (q_cy K) b da' N' f' n' ++ fr) q_Tr (pc + 3) lv (.ref b :: rest) S) : q_Y l K u (uB (q_cy K) b da N f n ++ fr) q_Tr pc lv (.int (nI c) :: .ref b :: rest) S := by
  have h9 : n < 100 := by rw [hX.1]; exact h100
  refine y_tw (As := [.int (nI c)]) (rest := rest) (w := fun cy => uB cy b da N f n) (fr := fr) (k0 := 0) C hA (m_appC l b da N f n hf hn hb c hc (by omega)) rfl rfl rfl jhJ4_append_cf468 hlk jiJ4_append_cf468 jVJ4_append_cf468 jnJ4_append_cf468 jcJ4_append_cf468 hex rfl rfl ⟨hdd, by decide⟩ hU hroom dg (fun sz rv w' hp C' => ?_)
  obtain ⟨da', N', f', rfl, rfl, h1, h2, h3, h4, h5, h6⟩ := hp
  exact kk da' N' (n + 1) f' (jX_push hX h5 h6) h4 h2 h3 C'
theorem kX {i : Nat} (hi : i < 13) : jX (q_byt.getD i []) (kL i) (kB i) := by
  have key : ∀ i, i < 13 → kL i = (q_byt.getD i []).length := by decide +kernel
  exact ⟨key i hi, fun _ _ => rfl⟩
theorem y_appK (C : q_Cy K cc own dd n0 U xa q_Tr) (hA : q_KA K) {b da N n : Nat} {f : Nat → Int32} {xs : List Int32} {i a0 : Nat} (hX : jX xs n f) (hf : jB f) (hn : n ≤ N) (hb : N ≤ 2 * n + 16) (hi3 : i < 13) (hG : q_ad K (200 + i) = a0) (h100 : xs.length < 100) (hlk : Cond.methodLink own idx yJ4_append_15ec4 ∈ q_WS) (hdd : 8 ≤ dd) (hU : u + 101 ≤ U) {rest : List Value} (hroom : (rest.map Value.category).sum ≤ 8) (dg : decode cc pc = .ok (.invokevirtual idx, 3)) (hex : (uB (q_cy K) b da N f n ++ fr).map (fun q => q.1) = xa) (kk : ∀ (da' N' n' : Nat) (f' : Nat → Int32), jX (xs ++ q_byt.getD i []) n' f' → jB f' → n' ≤ N' → N' ≤ 2 * n' + 16 → q_Cy K cc own dd n0 U ((uB (q_cy K) b da' N' f' n' ++ fr).map (fun q => q.1)) q_Tr → q_Y l K (u + 101) (uB (q_cy K) b da' N' f' n' ++ fr) q_Tr (pc + 3) lv (.ref b :: rest) S) : q_Y l K u (uB (q_cy K) b da N f n ++ fr) q_Tr pc lv (.ref a0 :: .ref b :: rest) S := by
  have h9 : n < 100 := by rw [hX.1]; exact h100
  have hk9 := kL_lt hi3
  refine y_twK (As := [.ref a0]) (rest := rest) (w := fun cy => uB cy b da N f n) (fr := fr) (k0 := 0) C hA hG (k_appS l hi3 a0 b da N f n hf hn hb (by omega)) rfl rfl rfl jhJ4_append_15ec4 hlk jiJ4_append_15ec4 jVJ4_append_15ec4 jnJ4_append_15ec4 jcJ4_append_15ec4 hex rfl rfl ⟨hdd, by decide⟩ hU hroom dg (fun sz rv w' hp C' => ?_)
  obtain ⟨da', N', f', rfl, rfl, h1, h2, h3, h4, h5, h6⟩ := hp
  exact kk da' N' (n + kL i) f' (jX_app hX (kX hi3) h5 h6) h4 h2 h3 C'
theorem y_appS (C : q_Cy K cc own dd n0 U xa q_Tr) (hA : q_KA K) {b da N n : Nat} {f : Nat → Int32} {xs : List Int32} {q sd k : Nat} {g : Nat → Int32} {h z : Int32} {ys : List Int32} (hX : jX xs n f) (hf : jB f) (hn : n ≤ N) (hb : N ≤ 2 * n + 16) (hY : jX ys k g) (hg : jB g) (hk : k < 20 ∨ k + xs.length < 100) (h100 : xs.length < 100) (hlk : Cond.methodLink own idx yJ4_append_15ec4 ∈ q_WS) (hdd : 8 ≤ dd) (hU : u + 101 ≤ U) {rest : List Value} (hroom : (rest.map Value.category).sum ≤ 8) (dg : decode cc pc = .ok (.invokevirtual idx, 3)) (hex : (uB (q_cy K) b da N f n ++ uS (q_cy K) q sd k g h z ++ fr).map (fun q => q.1) = xa) (kk : ∀ (da' N' n' : Nat) (f' : Nat → Int32), jX (xs ++ ys) n' f' → jB f' → n' ≤ N' → N' ≤ 2 * n' + 16 → q_Cy K cc own dd n0 U ((uB (q_cy K) b da' N' f' n' ++ uS (q_cy K) q sd k g h z ++ fr).map (fun q => q.1)) q_Tr → q_Y l K (u + 101) (uB (q_cy K) b da' N' f' n' ++ uS (q_cy K) q sd k g h z ++ fr) q_Tr (pc + 3) lv (.ref b :: rest) S) : q_Y l K u (uB (q_cy K) b da N f n ++ uS (q_cy K) q sd k g h z ++ fr) q_Tr pc lv (.ref q :: .ref b :: rest) S := by
  have h9 : n < 100 := by rw [hX.1]; exact h100
  have h8 := hX.1
  refine y_tw (As := [.ref q]) (rest := rest) (w := fun cy => uB cy b da N f n ++ uS cy q sd k g h z) (fr := fr) (k0 := 0) C hA (m_appS l b da N f n hf hn hb q sd k g h z hg (by omega)) rfl rfl rfl jhJ4_append_15ec4 hlk jiJ4_append_15ec4 jVJ4_append_15ec4 jnJ4_append_15ec4 jcJ4_append_15ec4 hex rfl rfl ⟨hdd, by decide⟩ hU hroom dg (fun sz rv w' hp C' => ?_)
  obtain ⟨da', N', f', rfl, rfl, h1, h2, h3, h4, h5, h6⟩ := hp
  exact kk da' N' (n + k) f' (jX_app hX hY h5 h6) h4 h2 h3 C'
def jI (x : Int32) : List Int32 := if x < 0 then [45] ++ jD (uL_abs x) else jD (uL_abs x)
theorem y_tstr (C : q_Cy K cc own dd n0 U xa q_Tr) (hA : q_KA K) {b da N n : Nat} {f : Nat → Int32} {xs : List Int32} (hX : jX xs n f) (hf : jB f) (hn : n ≤ N) (hb : N ≤ 2 * n + 16) (h100 : xs.length < 200) (hlk : Cond.methodLink own idx yJ4_toString_0e30d ∈ q_WS) (hdd : 8 ≤ dd) (hU : u + 102 ≤ U) {rest : List Value} (hroom : (rest.map Value.category).sum ≤ 8) (dg : decode cc pc = .ok (.invokevirtual idx, 3)) (hex : (uB (q_cy K) b da N f n ++ fr).map (fun q => q.1) = xa) (kk : ∀ (q sd : Nat) (g : Nat → Int32), jX xs n g → jB g → q_Cy K cc own dd n0 U ((uS (q_cy K) q sd n g 0 0 ++ uB (q_cy K) b da N f n ++ fr).map (fun q => q.1)) q_Tr → q_Y l K (u + 102) (uS (q_cy K) q sd n g 0 0 ++ uB (q_cy K) b da N f n ++ fr) q_Tr (pc + 3) lv (.ref q :: rest) S) : q_Y l K u (uB (q_cy K) b da N f n ++ fr) q_Tr pc lv (.ref b :: rest) S := by
  have h9 : n < 200 := by rw [hX.1]; exact h100
  refine y_tw (As := []) (rest := rest) (w := fun cy => uB cy b da N f n) (fr := fr) (k0 := 0) C hA (m_toString l b da N f n hf hn (by omega)) rfl rfl rfl jhJ4_toString_0e30d hlk jiJ4_toString_0e30d jVJ4_toString_0e30d jnJ4_toString_0e30d jcJ4_toString_0e30d hex rfl rfl ⟨hdd, by decide⟩ hU hroom dg (fun sz rv w' hp C' => ?_)
  obtain ⟨q, sd, g, rfl, rfl, h1, h2⟩ := hp
  exact kk q sd g (jX_of hX h2) h1 C'
end QYW
