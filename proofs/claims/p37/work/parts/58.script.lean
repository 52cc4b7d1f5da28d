
/-! the script -/
def q_KS (K : q_K) (n : Nat) (xs : Nat → Int32) : Prop := match K with
  | (p, e, R, s, m, args, below, meth, c, cells, slots, Q, D, cy, ad, A, nL, L) => va_X (ad 300) n xs s s.heap ∧ ad 300 < s.heap.size ∧ ¬ A (ad 300)
def q_PxS (avs : List Value) (S : q_St) (D : va_G) (cy : Nat → ClassId) (ad : Nat → Nat) (sz : Nat) (L : q_L) (n : Nat) (xs : Nat → Int32) : Array Value → State → Prop := fun a U => q_Px avs S D cy ad sz L a U ∧ va_X (ad 300) n xs U U.heap ∧ ad 300 < sz ∧ ¬ q_A ad sz (ad 300)
theorem q_PxS_blind (avs : List Value) (S : q_St) (D : va_G) (cy : Nat → ClassId) (ad : Nat → Nat) (sz : Nat) (L : q_L) (n : Nat) (xs : Nat → Int32) : FrameBlind (q_PxS avs S D cy ad sz L n xs) := fun a U g mk q => ⟨q_Px_blind avs S D cy ad sz L a U g mk q.1, q.2⟩
def q_FyS (l : Launch) (y : MethodName) (cd : Cond) (d u : Nat) (avs : List Value) (n : Nat) (xs : Nat → Int32) (S : q_St) (v : Int32) (S2 : q_St) : Prop := ∀ (D : va_G) (cy : Nat → ClassId) (ad : Nat → Nat) (sz : Nat) (L : q_L), Met l y (cd :: q_WS) (q_rmX d u) (q_PxS avs S D cy ad sz L n xs) (va_Qi (fun (r : Int32) (w : q_St) => r = v ∧ w = S2) (fun w t => va_P D q_cl (q_wl cy ad L w) t.heap) (q_A ad sz)) u (6 * u) (q_A ad sz)
set_option maxHeartbeats 1000000 in
theorem q_FyS_of {l : Launch} {y : MethodName} {cd : Cond} {cc : ByteArray} {maxL d U : Nat} {ty : FieldType} {avs : List Value} {S S2 : q_St} {v : Int32} {n : Nat} {xs : Nat → Int32} (hcd : cd = .code y cc maxL (some ty)) (hy : plainName y.cls = true) (hlen : ∀ ad : Nat → Nat, (lg_sl (avs.map (q_gv ad))).length ≤ maxL) (hn : narrow ty (.int v) = .int v)
    (body : ∀ K : q_K, q_Cy K cc y.cls d maxL U [] q_Tr → q_KS K n xs → (∀ (u : Nat) (ex : va_W) (Z : Heap → Prop) (pc : Nat) (lv : List (Nat × Value)) (r : Int32) (S' : q_St), u ≤ U → decode cc pc = .ok (.ireturn, 1) → r = v → S' = S2 → q_Y l K u ex Z pc lv [.int r] S') → q_Y l K 0 [] q_Tr 0 (q_ml (q_ad K) (lv_args 0 avs)) [] S) : q_FyS l y cd d U avs n xs S v S2 := by
  intro D cy ad sz L
  subst hcd
  refine Met.ofW (cc := cc) (maxL := maxL) (ret := (some ty)) hy rfl ?_
  intro p e s m args below meth c s₁ B hml hv
  obtain ⟨⟨⟨rfl, hsz, hP, hK, hi, hE⟩, hEX⟩, hX1, hX2, hX3⟩ := hv
  subst hsz
  have hts0 := atoms_spec (ws := Cond.code y cc maxL (some ty) :: q_WS) B.pre
  have hts : ∀ w ∈ q_WS, w.before (avs.map (q_gv ad)).toArray s = true := fun w h => hts0 w (List.mem_cons_of_mem _ h)
  have hown : s.vm.findClass y.cls = some m.cls := findClass_of_methodNamed B.named
  have hlocks := B.notSynchronized
  have hl := lv_entry (avs.map (q_gv ad)) (n := maxL) (hlen ad)
  rw [lg_entry_eq]
  generalize (lg_sl (avs.map (q_gv ad)) ++ List.replicate (maxL - (lg_sl (avs.map (q_gv ad))).length) Slot.unset).toArray = ls at hl ⊢
  rw [q_args] at hl
  refine body (p, e, (headSpec (Cond.code y cc maxL (some ty) :: q_WS) (q_rmX d U)).room, s, m, (avs.map (q_gv ad)).toArray, below, meth, c, 0, 0, MQ below (va_Qi (fun (r : Int32) (w : q_St) => r = v ∧ w = S2) (fun w t => va_P D q_cl (q_wl cy ad L w) t.heap) (q_A ad s.heap.size)) (avs.map (q_gv ad)).toArray s U (6 * U) (q_A ad s.heap.size), D, cy, ad, q_A ad s.heap.size, maxL, L) ⟨B.exec, B.bytes, hml, rfl, hown, hts, hK, hi, fun k hk => Or.inl ⟨k, hk, rfl⟩, fun q h => Or.inr h, Nat.le_refl _, Nat.le_refl _, Nat.le_refl _, Nat.le_refl _, hE, hEX, ⟨List.nodup_nil, fun a ha => nomatch ha⟩, q_Zs_Tr _ _⟩ ⟨hX1, hX2, hX3⟩ ?_ 0 0 s.heap [] ls (Nat.le_refl _) (Nat.zero_le _) (by rw [List.append_nil]; exact hP) trivial va_S.rf hl
  intro u ex Z pc lv r S' hu hd h1 h2 cl sl H locs ls hc9 hs9 hP hZ hS hl
  subst h1; subst h2
  exact W.widen (Nat.le_trans hc9 hu) (Nat.le_trans hs9 (Nat.mul_le_mul_left 6 hu)) (W.zret B.exec B.bytes B.returns hn (fun t ht hW => ⟨⟨r, S', rfl, ⟨rfl, rfl⟩, by show va_P D q_cl (q_wl cy ad L S') t.heap; rw [ht]; exact q_P_l hP⟩, hS.F ht⟩) hS.2.2 hd hlocks)
section QYS
variable {l : Launch} {K : q_K} {cc : ByteArray} {own : String} {dd n0 U u pc idx : Nat} {xa : List Nat} {ex : va_W} {Z : Heap → Prop} {lv : List (Nat × Value)} {st : List Value} {S : q_St}
set_option maxHeartbeats 1000000 in
theorem y_sS (C : q_Cy K cc own dd n0 U xa Z) {y : MethodName} {cd : Cond} {d u1 maxL n : Nat} {bytes : ByteArray} {As rest st0 : List Value} {S2 : q_St} {v : Int32} {ns : Nat} {xs : Nat → Int32} (hKS : q_KS K ns xs) (hM : q_FyS l y cd d u1 As ns xs S v S2) {ret : Option FieldType} (hy : q_ms y cd bytes maxL ret n) (hco : y.cls = own) (hlk : Cond.methodLink own idx y ∈ q_WS) (hn : As.length = n) (hst : st0 = (As.map (q_gv (q_ad K))).reverse ++ rest) (hex : ex.map (fun q => q.1) = xa) (hR : d + 1 ≤ dd ∧ maxL ≤ 21) (hU : u + u1 ≤ U) (hroom : (rest.map Value.category).sum ≤ 8) (dg : decode cc pc = .ok (.invokestatic idx, 3)) (kk : q_Y l K (u + u1) ex Z (pc + 3) lv (.int v :: rest) S2) : q_Y l K u ex Z pc lv st0 S := by
  obtain ⟨p, e, R, s, m, args, below, meth, c, cells, slots, Q, D, cy, ad, A, nL, L⟩ := K
  obtain ⟨hx, hb, hml, hnl, hown, hts, hK, hi, hA1, hA2, hf1, hf2, hc1, hc2, hE, hEX, hxa, hZs⟩ := C
  obtain ⟨y1, y2, y3, y4, y6, y8, y9⟩ := hy
  intro cl sl H locs ls hc9 hs9 hP hZ hS hl
  have hF := q_free (ad := ad) hS hA1 hA2
  obtain ⟨hX1, hX2, hX3⟩ := hKS
  have hX4 : ad 300 < H.size := Nat.lt_of_lt_of_le hX2 hS.1
  have hn2 : (As.map (q_gv ad)).length = n := by rw [List.length_map]; exact hn
  refine va_calli (mc := u1) (ms := 6 * u1) (va_runS (As := As.map (q_gv ad)) (rest := rest) ⟨hx, hb, hml, hown, hts⟩ (hM D cy ad H.size L) (cwS n hts (q_goodS hlk y6 (by rw [← hco]; exact y8) y9) (congrArg (fun z => z :: q_WS) y1) rfl rfl ⟨hco, y2, y3, y4⟩ ⟨Nat.le_trans hR.1 hf1, ?_⟩) ⟨q_PxS_blind _ _ _ _ _ _ _ _ _, fun U hU hW => ⟨⟨⟨rfl, by rw [hU], by rw [hU]; exact q_P_l hP, va_K.moved hW.alike hK, hi, by rw [hU]; exact q_E.go hE hS.2.1 hF hW⟩, q_EX.go hEX hW⟩, by rw [hU]; exact (hX1.kept (hS.2.1 _ hX2 hX3)).moved hW.alike, hX4, fun q => hX3 (hF _ q)⟩⟩ rfl hn2 hl.1 hst ?_ dg ⟨by omega, by omega⟩) hS (fun q _ h => hF q h) hF (fun r w t H1 locs1 ht hvm hw hB hz1 hk1 hS1 => ?_)
  · have h9 : (q_rmX d u1).locals = 40 * d := rfl
    rw [h9]
    have h8 := hR.1
    have h7 := hR.2
    omega
  · exact lv_room hroom
  · obtain ⟨rfl, rfl⟩ := hw
    exact kk (cl + u1) (sl + 6 * u1) H1 locs1 ls (by omega) (by omega) (va_P.app (by rw [← ht]; exact hB) (q_keepX (q_P_r hP) hex hxa hk1)) (q_keepZ hZs hz1 hk1 hZ) hS1 hl
theorem y_sld (C : q_Cy K cc own dd n0 U xa Z) {n j : Nat} {xs : Nat → Int32} {ix : Int32} (hKS : q_KS K n xs) (hix : ix = nI j) (hj : j < n) (hn : n < 2 ^ 31) (d : decode cc pc = .ok (.iaload, 1)) (k : q_Y l K u ex Z (pc + 1) lv (.int (xs j) :: st) S) : q_Y l K u ex Z pc lv (.int ix :: .ref (q_ad K 300) :: st) S := by
  obtain ⟨p, e, R, s, m, args, below, meth, c, cells, slots, Q, D, cy, ad, A, nL, L⟩ := K
  obtain ⟨hx, hb, hml, hnl, hown, hts, hK, hi, hA1, hA2, hf1, hf2, hc1, hc2, hE, hEX, hxa, hZs⟩ := C
  obtain ⟨hX, hb1, hb2⟩ := hKS
  intro cl sl H locs ls hc9 hs9 hP hZ hS hl
  subst hix
  refine va_sld hx hb hX hb1 hb2 hS (vp_in_nI hj hn) d ?_
  rw [nI_clamp (Nat.lt_trans hj hn)]
  exact k cl sl H locs ls hc9 hs9 hP hZ hS hl
theorem y_slen (C : q_Cy K cc own dd n0 U xa Z) {n : Nat} {xs : Nat → Int32} (hKS : q_KS K n xs) (d : decode cc pc = .ok (.arraylength, 1)) (k : q_Y l K u ex Z (pc + 1) lv (.int (nI n) :: st) S) : q_Y l K u ex Z pc lv (.ref (q_ad K 300) :: st) S := by
  obtain ⟨p, e, R, s, m, args, below, meth, c, cells, slots, Q, D, cy, ad, A, nL, L⟩ := K
  obtain ⟨hx, hb, hml, hnl, hown, hts, hK, hi, hA1, hA2, hf1, hf2, hc1, hc2, hE, hEX, hxa, hZs⟩ := C
  obtain ⟨hX, hb1, hb2⟩ := hKS
  intro cl sl H locs ls hc9 hs9 hP hZ hS hl
  exact va_slen hx hb hX hb1 hb2 hS d (k cl sl H locs ls hc9 hs9 hP hZ hS hl)
end QYS
def uCell (n : Nat) (xs : Nat → Int32) (k : Nat) : Int32 := if k < n then xs k else 40503 * nI k
theorem cl7 : Cond.constant RL 7 40503 ∈ q_WS := q_in 289 (by decide +kernel) rfl
theorem l_cell (l : Launch) (S : q_St) (n : Nat) (xs : Nat → Int32) (hn : n < 2 ^ 31) (k : Nat) (hk : k < 2 ^ 31) : q_FyS l yL_cell kL_cell 2 0 [.ref 300, .int (nI k)] n xs S (uCell n xs k) S := by
  refine q_FyS_of (maxL := 2) rfl (by decide +kernel) (fun ad => Nat.le_of_ble_eq_true rfl) rfl ?_
  intro K C hKS hret
  have C : q_Cy K cL_cell RL 2 2 0 [] q_Tr := C
  show q_Y l K 0 [] q_Tr 0 [(0, .ref (q_ad K 300)), (1, .int (nI k))] [] S
  refine y_iload_n C dL_cell_0 rfl rfl ?_
  refine y_aload_n C dL_cell_1 rfl rfl ?_
  refine y_slen C hKS dL_cell_2 ?_
  refine y_icmp_geN (a := k) (b := n) (tgt := 12) C dL_cell_3 (by decide) rfl rfl (by omega) (by omega) (fun c => ?_) (fun c => ?_)
  · refine y_ldc (v := 40503) C cl7 dL_cell_12 ?_
    refine y_iload_n C dL_cell_14 rfl rfl ?_
    refine y_imul C dL_cell_15 ?_
    exact hret _ _ _ _ _ _ _ (by omega) dL_cell_16 (by unfold uCell; rw [if_neg (by omega)]) rfl
  · refine y_aload_n C dL_cell_6 rfl rfl ?_
    refine y_iload_n C dL_cell_7 rfl rfl ?_
    refine y_sld (j := k) C hKS rfl (by omega) hn dL_cell_8 ?_
    refine y_goto (tgt := 16) C dL_cell_9 (by decide) ?_
    exact hret _ _ _ _ _ _ _ (by omega) dL_cell_16 (by unfold uCell; rw [if_pos (by omega)]) rfl
