
/-! a String that is made while the law runs -/
def q_Gi (bs : List Int32) (l : Launch) (y : MethodName) (cd : Cond) (d : Nat) (avs : List Value) (S : q_St) (v : Int32) (S2 : q_St) : Prop := ∀ (D : va_G) (cy : Nat → ClassId) (ad : Nat → Nat) (sz : Nat) (L : q_L), L.2 = bs → Met l y (cd :: q_WS) (q_rm d) (q_Pc avs S D cy ad sz L) (va_Qi (fun (r : Int32) (u : q_St) => r = v ∧ u = S2) (fun u t => va_P D q_cl (q_wl cy ad L u) t.heap) (q_A ad sz)) 0 0 (q_A ad sz)
set_option maxHeartbeats 1000000 in
theorem q_Gi_of {l : Launch} {y : MethodName} {cd : Cond} {cc : ByteArray} {maxL d : Nat} {ty : FieldType} {avs : List Value} {S S2 : q_St} {v : Int32} {bs : List Int32} (hcd : cd = .code y cc maxL (some ty)) (hy : plainName y.cls = true) (hlen : ∀ ad : Nat → Nat, (lg_sl (avs.map (q_gv ad))).length ≤ maxL) (hn : narrow ty (.int v) = .int v) (body : ∀ K : q_K, q_Cx K cc y.cls d maxL → (q_LL K).2 = bs → (∀ (pc : Nat) (lv : List (Nat × Value)) (r : Int32) (S' : q_St), decode cc pc = .ok (.ireturn, 1) → r = v → S' = S2 → q_V l K pc lv [.int r] S') → q_V l K 0 (lv_args 0 avs) [] S) : q_Gi bs l y cd d avs S v S2 := by
  intro D cy ad sz L hLb
  subst hcd
  refine Met.ofW (cc := cc) (maxL := maxL) (ret := (some ty)) hy rfl ?_
  intro p e s m args below meth c s₁ B hml hv
  obtain ⟨rfl, hsz, hP, hK, hi, hE⟩ := hv
  subst hsz
  have hts0 := atoms_spec (ws := Cond.code y cc maxL (some ty) :: q_WS) B.pre
  have hts : ∀ w ∈ q_WS, w.before (avs.map (q_gv ad)).toArray s = true := fun w h => hts0 w (List.mem_cons_of_mem _ h)
  have hown : s.vm.findClass y.cls = some m.cls := findClass_of_methodNamed B.named
  have hlocks := B.notSynchronized
  have hl := lv_entry (avs.map (q_gv ad)) (n := maxL) (hlen ad)
  rw [lg_entry_eq]
  generalize (lg_sl (avs.map (q_gv ad)) ++ List.replicate (maxL - (lg_sl (avs.map (q_gv ad))).length) Slot.unset).toArray = ls at hl ⊢
  rw [q_args] at hl
  refine body (p, e, (headSpec (Cond.code y cc maxL (some ty) :: q_WS) (q_rm d)).room, s, m, (avs.map (q_gv ad)).toArray, below, meth, c, 0, 0, _, D, cy, ad, q_A ad s.heap.size, maxL, L) ⟨B.exec, B.bytes, hml, rfl, hown, hts, hK, hi, fun k hk => Or.inl ⟨k, hk, rfl⟩, fun q h => Or.inr h, Nat.le_refl _, Nat.le_refl _, Nat.zero_le _, Nat.zero_le _, hE⟩ hLb ?_ s.heap [] ls hP va_S.rf hl
  intro pc lv r S' hd hr hS' H locs ls hP hS hl
  subst hr
  exact W.zret B.exec B.bytes B.returns hn (fun t ht hW => ⟨⟨r, S', rfl, ⟨rfl, hS'⟩, by show va_P D q_cl (q_wl cy ad L S') t.heap; rw [ht]; exact hP⟩, hS.F ht⟩) hS.2.2 hd hlocks
section QDY
variable {l : Launch} {K : q_K} {cc : ByteArray} {own : String} {dd n0 pc idx : Nat} {lv : List (Nat × Value)} {st : List Value} {S : q_St} {bs : List Int32}
theorem q_dCoder (C : q_Cx K cc own dd n0) (hL : (q_LL K).2 = bs) (hbs : bs ≠ []) (hlk : Cond.fieldLink own idx "java/lang/String" "coder" "B" ∈ q_WS) (d : decode cc pc = .ok (.getfield idx, 3)) (kk : q_V l K (pc + 3) lv (.int 0 :: st) S) : q_V l K pc lv (.ref 229 :: st) S := by
  obtain ⟨p, e, R, s, m, args, below, meth, c, cells, slots, Q, D, cy, ad, A, nL, L⟩ := K
  obtain ⟨hx, hb, hml, hnl, hown, hts, hK, hi, hA1, hA2, hf1, hf2, hc1, hc2, hE⟩ := C
  intro H locs ls hP hS hl
  have hd := hE.2.2.2.2.2.2.2.2.2.2 (by rw [show L.2 = bs from hL]; exact hbs)
  rw [show L.2 = bs from hL] at hd
  exact vk_getf hx hb hd.2.1 hS hown (hts _ hlk) (fun _ h => h) d (kk H locs ls hP hS hl)
theorem q_dValue (C : q_Cx K cc own dd n0) (hL : (q_LL K).2 = bs) (hbs : bs ≠ []) (hlk : Cond.fieldLink own idx "java/lang/String" "value" "[B" ∈ q_WS) (d : decode cc pc = .ok (.getfield idx, 3)) (kk : q_V l K (pc + 3) lv (.ref 243 :: st) S) : q_V l K pc lv (.ref 229 :: st) S := by
  obtain ⟨p, e, R, s, m, args, below, meth, c, cells, slots, Q, D, cy, ad, A, nL, L⟩ := K
  obtain ⟨hx, hb, hml, hnl, hown, hts, hK, hi, hA1, hA2, hf1, hf2, hc1, hc2, hE⟩ := C
  intro H locs ls hP hS hl
  have hd := hE.2.2.2.2.2.2.2.2.2.2 (by rw [show L.2 = bs from hL]; exact hbs)
  rw [show L.2 = bs from hL] at hd
  exact vk_getf hx hb hd.2.2.1 hS hown (hts _ hlk) (fun _ h => h) d (kk H locs ls hP hS hl)
theorem q_dLen (C : q_Cx K cc own dd n0) (hL : (q_LL K).2 = bs) (hbs : bs ≠ []) (d : decode cc pc = .ok (.arraylength, 1)) (kk : q_V l K (pc + 1) lv (.int (nI bs.length) :: st) S) : q_V l K pc lv (.ref 243 :: st) S := by
  obtain ⟨p, e, R, s, m, args, below, meth, c, cells, slots, Q, D, cy, ad, A, nL, L⟩ := K
  obtain ⟨hx, hb, hml, hnl, hown, hts, hK, hi, hA1, hA2, hf1, hf2, hc1, hc2, hE⟩ := C
  intro H locs ls hP hS hl
  have hd := hE.2.2.2.2.2.2.2.2.2.2 (by rw [show L.2 = bs from hL]; exact hbs)
  rw [show L.2 = bs from hL] at hd
  exact va_tlen hx hb hd.2.2.2 hS rfl d (kk H locs ls hP hS hl)
theorem q_dByte (C : q_Cx K cc own dd n0) {j : Nat} {ix x : Int32} (hix : ix = nI j) (hL : (q_LL K).2 = bs) (hbs : bs ≠ []) (hj : j < bs.length) (hn31 : bs.length < 2 ^ 31) (hxv : bs.getD j 0 = x) (d : decode cc pc = .ok (.baload, 1)) (kk : q_V l K (pc + 1) lv (.int x :: st) S) : q_V l K pc lv (.int ix :: .ref 243 :: st) S := by
  obtain ⟨p, e, R, s, m, args, below, meth, c, cells, slots, Q, D, cy, ad, A, nL, L⟩ := K
  obtain ⟨hx, hb, hml, hnl, hown, hts, hK, hi, hA1, hA2, hf1, hf2, hc1, hc2, hE⟩ := C
  intro H locs ls hP hS hl
  subst hix; subst hxv
  have hd := hE.2.2.2.2.2.2.2.2.2.2 (by rw [show L.2 = bs from hL]; exact hbs)
  rw [show L.2 = bs from hL] at hd
  exact va_tb hx hb hd.2.2.2 hS (vp_in_nI hj hn31) (by rw [nI_clamp (Nat.lt_trans hj hn31)]; rfl) d (kk H locs ls hP hS hl)
set_option maxHeartbeats 1000000 in
theorem q_dji (C : q_Cx K cc own dd n0) {y : MethodName} {cd : Cond} {d maxL n : Nat} {bytes : ByteArray} {ret : Option FieldType} {As rest : List Value} {S2 : q_St} {v : Int32} (hL : (q_LL K).2 = bs) (hM : q_Gi bs l y cd d As S v S2) (hy : q_ms y cd bytes maxL ret n) (hlk : Cond.methodLink own idx y ∈ q_WS) (hn : As.length = n) (hR : d + 1 ≤ dd ∧ maxL ≤ 21) (hroom : (rest.map Value.category).sum ≤ 8) (dg : decode cc pc = .ok (.invokestatic idx, 3)) (kk : q_V l K (pc + 3) lv (.int v :: rest) S2) : q_V l K pc lv (As.reverse ++ rest) S := by
  obtain ⟨p, e, R, s, m, args, below, meth, c, cells, slots, Q, D, cy, ad, A, nL, L⟩ := K
  obtain ⟨hx, hb, hml, hnl, hown, hts, hK, hi, hA1, hA2, hf1, hf2, hc1, hc2, hE⟩ := C
  obtain ⟨y1, y2, y3, y4, y6, y8, y9⟩ := hy
  intro H locs ls hP hS hl
  have hF := q_free (ad := ad) hS hA1 hA2
  have hn2 : (As.map (q_gv ad)).length = n := by rw [List.length_map]; exact hn
  have hG : GoodIn q_WS (va_wsS own idx y (cd :: q_WS)) := by
    intro w hw
    have hm : w ∈ q_WS := by
      unfold va_wsS at hw
      simp only [List.mem_append, List.mem_cons, List.not_mem_nil, or_false] at hw
      rcases hw with (rfl | rfl | rfl) | (rfl | h) <;> assumption
    exact ⟨hm, good_of_word (q_WS_good w hm)⟩
  refine va_calli (va_runS (As := As.map (q_gv ad)) (rest := rest.map (q_gv ad)) ⟨hx, hb, hml, hown, hts⟩ (hM D cy ad H.size L hL) (va_cwS n hts hG (congrArg (fun z => z :: q_WS) y1) rfl rfl ⟨y2, y3, y4⟩ ⟨Nat.le_trans hR.1 hf1, ?_⟩) ⟨q_Pc_blind _ _ _ _ _ _ _, fun U hU hW => ⟨rfl, by rw [hU], by rw [hU]; exact hP, va_K.moved hW.alike hK, hi, by rw [hU]; exact q_E.go hE hS.2.1 hF hW⟩⟩ rfl hn2 hl.1 ?_ ?_ dg ⟨hc1, hc2⟩) hS (fun q _ h => hF q h) hF (fun r u t H1 locs1 ht hvm hw hB hz1 hk1 hS1 => ?_)
  · have h9 : (q_rm d).locals = 40 * d := rfl
    rw [h9]
    have h8 := hR.1
    have h7 := hR.2
    omega
  · show (As.reverse ++ rest).map (q_gv ad) = _
    rw [List.map_append, List.map_reverse]
  · refine lv_room ?_
    rw [q_cats]
    exact hroom
  · obtain ⟨rfl, rfl⟩ := hw
    exact kk H1 locs1 ls (by rw [← ht]; exact hB) hS1 hl
theorem q_dji2 (C : q_Cx K cc own dd n0) {y : MethodName} {cd : Cond} {d maxL : Nat} {bytes : ByteArray} {ret : Option FieldType} {a1 a2 : Value} {rest : List Value} {S2 : q_St} {v : Int32} (hL : (q_LL K).2 = bs) (hM : q_Gi bs l y cd d [a1, a2] S v S2) (hy : q_ms y cd bytes maxL ret 2) (hlk : Cond.methodLink own idx y ∈ q_WS) (hR : d + 1 ≤ dd ∧ maxL ≤ 21) (hroom : (rest.map Value.category).sum ≤ 8) (dg : decode cc pc = .ok (.invokestatic idx, 3)) (kk : q_V l K (pc + 3) lv (.int v :: rest) S2) : q_V l K pc lv (a2 :: a1 :: rest) S := q_dji C hL hM hy hlk rfl hR hroom dg kk
set_option maxHeartbeats 1000000 in
theorem q_dj (C : q_Cx K cc own dd n0) {y : MethodName} {cd : Cond} {d maxL n : Nat} {bytes : ByteArray} {ret : Option FieldType} {As rest : List Value} {S2 : q_St} {v : Int32} (hL : (q_LL K).2 = bs) (hbs : bs ≠ []) (hM : q_Gi bs l y cd d (.ref 229 :: As) S v S2) (hy : q_mj y cd bytes maxL ret n) (hcls : y.cls = "java/lang/String") (hlk : Cond.methodLink own idx y ∈ q_WS) (hn : As.length = n) (hR : d + 1 ≤ dd ∧ maxL ≤ 21) (hroom : (rest.map Value.category).sum ≤ 8) (dg : decode cc pc = .ok (.invokevirtual idx, 3)) (kk : q_V l K (pc + 3) lv (.int v :: rest) S2) : q_V l K pc lv (As.reverse ++ .ref 229 :: rest) S := by
  obtain ⟨p, e, R, s, m, args, below, meth, c, cells, slots, Q, D, cy, ad, A, nL, L⟩ := K
  obtain ⟨hx, hb, hml, hnl, hown, hts, hK, hi, hA1, hA2, hf1, hf2, hc1, hc2, hE⟩ := C
  obtain ⟨y1, y2, y3, y4, y6, y7, y8, y9⟩ := hy
  intro H locs ls hP hS hl
  have hd := hE.2.2.2.2.2.2.2.2.2.2 (by rw [show L.2 = bs from hL]; exact hbs)
  have hrec : ∃ cell : Cell, H[ad 229]? = some cell ∧ cell.vm.isStatics = false ∧ s.vm.findClass "java/lang/String" = some cell.cls := by
    obtain ⟨cell, h1, h2, h3, -⟩ := hd.1.kept hS.2.1
    exact ⟨cell, h1, h2, h3⟩
  have hF := q_free (ad := ad) hS hA1 hA2
  have hn2 : (As.map (q_gv ad)).length = n := by rw [List.length_map]; exact hn
  refine va_calli (va_runV (As := As.map (q_gv ad)) (rest := rest.map (q_gv ad)) ⟨hx, hb, hml, hown, hts⟩ (hM D cy ad H.size L hL) (cwV n hts (q_goodV hlk y6 y7 y8 y9) (congrArg (fun z => z :: q_WS) y1) rfl rfl ⟨rfl, y2, y3, y4⟩ ⟨Nat.le_trans hR.1 hf1, ?_⟩) ⟨q_Pc_blind _ _ _ _ _ _ _, by rw [hcls]; exact hrec, fun U hU hW => ⟨rfl, by rw [hU], by rw [hU]; exact hP, va_K.moved hW.alike hK, hi, by rw [hU]; exact q_E.go hE hS.2.1 hF hW⟩⟩ rfl hn2 hl.1 ?_ ?_ dg ⟨hc1, hc2⟩) hS (fun q _ h => hF q h) hF (fun r u t H1 locs1 ht hvm hw hB hz1 hk1 hS1 => ?_)
  · have h9 : (q_rm d).locals = 40 * d := rfl
    rw [h9]
    have h8 := hR.1
    have h7 := hR.2
    omega
  · show (As.reverse ++ .ref 229 :: rest).map (q_gv ad) = _
    rw [List.map_append, List.map_reverse]
    rfl
  · refine lv_room ?_
    rw [q_cats]
    exact hroom
  · obtain ⟨rfl, rfl⟩ := hw
    exact kk H1 locs1 ls (by rw [← ht]; exact hB) hS1 hl
theorem q_dj0 (C : q_Cx K cc own dd n0) {y : MethodName} {cd : Cond} {d maxL : Nat} {bytes : ByteArray} {ret : Option FieldType} {rest : List Value} {S2 : q_St} {v : Int32} (hL : (q_LL K).2 = bs) (hbs : bs ≠ []) (hM : q_Gi bs l y cd d (.ref 229 :: []) S v S2) (hy : q_mj y cd bytes maxL ret 0) (hcls : y.cls = "java/lang/String") (hlk : Cond.methodLink own idx y ∈ q_WS) (hR : d + 1 ≤ dd ∧ maxL ≤ 21) (hroom : (rest.map Value.category).sum ≤ 8) (dg : decode cc pc = .ok (.invokevirtual idx, 3)) (kk : q_V l K (pc + 3) lv (.int v :: rest) S2) : q_V l K pc lv (.ref 229 :: rest) S := q_dj C hL hbs hM hy hcls hlk rfl hR hroom dg kk
end QDY
def q_asc (bs : List Int32) : Prop := bs ≠ [] ∧ bs.length < 100 ∧ ∀ j, j < bs.length → ∃ k, k < 128 ∧ bs.getD j 0 = nI k
theorem q_asc_c {k : Nat} (h : k < 128) : (((nI k &&& 255).toUInt32 % 65536).toInt32 = nI k) ∧ narrow .char (.int (nI k)) = .int (nI k) := by
  have key : ∀ k, k < 128 → (((nI k &&& 255).toUInt32 % 65536).toInt32 = nI k) ∧ ((nI k).toUInt32 % 65536).toInt32 = nI k := by decide +kernel
  exact ⟨(key k h).1, by show Value.int (((nI k).toUInt32 % 65536).toInt32) = _; rw [(key k h).2]⟩
theorem ish0 (x : Int32) : x >>> ((0 : Int32) &&& 31) = x := by simp
theorem c_J0_coder_d (l : Launch) (S : q_St) {bs : List Int32} (ha : q_asc bs) : q_Gi bs l yJ0_coder_7d493 kJ0_coder_7d493 1 [.ref 229] S 0 S := by
  refine q_Gi_of (maxL := 1) rfl (by decide +kernel) (fun ad => Nat.le_of_ble_eq_true rfl) rfl ?_
  intro K C hL hret
  have C : q_Cx K cJ0_coder_7d493 RJ0 1 1 := C
  show q_V l K 0 [(0, .ref 229)] [] S
  refine q_sCompact C flJ0_38 dJ0_coder_7d493_0 ?_
  refine q_if_eq (tgt := 13) C dJ0_coder_7d493_3 (by decide) (fun h9 => absurd h9 (by decide)) (fun _ => ?_)
  refine q_aload_n C dJ0_coder_7d493_6 rfl rfl ?_
  refine q_dCoder C hL ha.1 flJ0_15 dJ0_coder_7d493_7 ?_
  refine q_goto (tgt := 14) C dJ0_coder_7d493_10 (by decide) ?_
  exact hret _ _ _ _ dJ0_coder_7d493_14 rfl rfl
theorem c_J0_isLatin1_d (l : Launch) (S : q_St) {bs : List Int32} (ha : q_asc bs) : q_Gi bs l yJ0_isLatin1_aae02 kJ0_isLatin1_aae02 1 [.ref 229] S 1 S := by
  refine q_Gi_of (maxL := 1) rfl (by decide +kernel) (fun ad => Nat.le_of_ble_eq_true rfl) rfl ?_
  intro K C hL hret
  have C : q_Cx K cJ0_isLatin1_aae02 RJ0 1 1 := C
  show q_V l K 0 [(0, .ref 229)] [] S
  refine q_sCompact C flJ0_38 dJ0_isLatin1_aae02_0 ?_
  refine q_if_eq (tgt := 17) C dJ0_isLatin1_aae02_3 (by decide) (fun h9 => absurd h9 (by decide)) (fun _ => ?_)
  refine q_aload_n C dJ0_isLatin1_aae02_6 rfl rfl ?_
  refine q_dCoder C hL ha.1 flJ0_15 dJ0_isLatin1_aae02_7 ?_
  refine q_if_ne (tgt := 17) C dJ0_isLatin1_aae02_10 (by decide) (fun h9 => absurd h9 (by decide)) (fun _ => ?_)
  refine q_iconst (v := 1) C dJ0_isLatin1_aae02_13 (by decide) ?_
  refine q_goto (tgt := 18) C dJ0_isLatin1_aae02_14 (by decide) ?_
  exact hret _ _ _ _ dJ0_isLatin1_aae02_18 rfl rfl
theorem c_J0_length_d (l : Launch) (S : q_St) {bs : List Int32} (ha : q_asc bs) : q_Gi bs l yJ0_length_8abf5 kJ0_length_8abf5 2 [.ref 229] S (nI bs.length) S := by
  refine q_Gi_of (maxL := 1) rfl (by decide +kernel) (fun ad => Nat.le_of_ble_eq_true rfl) rfl ?_
  intro K C hL hret
  have C : q_Cx K cJ0_length_8abf5 RJ0 2 1 := C
  show q_V l K 0 [(0, .ref 229)] [] S
  refine q_aload_n C dJ0_length_8abf5_0 rfl rfl ?_
  refine q_dValue C hL ha.1 flJ0_9 dJ0_length_8abf5_1 ?_
  refine q_dLen C hL ha.1 dJ0_length_8abf5_4 ?_
  refine q_aload_n C dJ0_length_8abf5_5 rfl rfl ?_
  refine q_dj0 C hL ha.1 (c_J0_coder_d l S ha) myJ0_coder_7d493 rfl mlJ0_335 ⟨by decide, by decide⟩ (Nat.le_of_ble_eq_true rfl) dJ0_length_8abf5_6 ?_
  refine q_ishr C (v := nI bs.length) (ish0 _) dJ0_length_8abf5_9 ?_
  exact hret _ _ _ _ dJ0_length_8abf5_10 rfl rfl
theorem c_J1_charAt_d (l : Launch) (S : q_St) {bs : List Int32} (ha : q_asc bs) (j : Nat) (hj : j < bs.length) : q_Gi bs l yJ1_charAt_3b067 kJ1_charAt_3b067 3 [.ref 243, .int (nI j)] S (bs.getD j 0) S := by
  refine q_Gi_of (maxL := 2) rfl (by decide +kernel) (fun ad => Nat.le_of_ble_eq_true rfl) (by obtain ⟨k, k1, k2⟩ := ha.2.2 j hj; rw [k2]; exact (q_asc_c k1).2) ?_
  intro K C hL hret
  have C : q_Cx K cJ1_charAt_3b067 RJ1 3 2 := C
  show q_V l K 0 [(0, .ref 243), (1, .int (nI j))] [] S
  refine q_iload_n C dJ1_charAt_3b067_0 rfl rfl ?_
  refine q_aload_n C dJ1_charAt_3b067_1 rfl rfl ?_
  refine q_dLen C hL ha.1 dJ1_charAt_3b067_2 ?_
  refine q_sjv2 C (c_J0_checkIndex l S j bs.length (by omega) ha.2.1) msJ0_checkIndex_df160 mlJ1_9 ⟨by decide, by decide⟩ (Nat.le_of_ble_eq_true rfl) dJ1_charAt_3b067_3 ?_
  refine q_aload_n C dJ1_charAt_3b067_6 rfl rfl ?_
  refine q_iload_n C dJ1_charAt_3b067_7 rfl rfl ?_
  refine q_dByte (j := j) (x := bs.getD j 0) C rfl hL ha.1 (by omega) (Nat.lt_trans ha.2.1 (by decide)) rfl dJ1_charAt_3b067_8 ?_
  refine q_sipush (v := 255) C dJ1_charAt_3b067_9 (by decide) ?_
  refine q_iand C dJ1_charAt_3b067_12 ?_
  refine q_i2c C (v := bs.getD j 0) (by obtain ⟨k, k1, k2⟩ := ha.2.2 j hj; rw [k2]; exact (q_asc_c k1).1) dJ1_charAt_3b067_13 ?_
  exact hret _ _ _ _ dJ1_charAt_3b067_14 rfl rfl
theorem c_J0_charAt_d (l : Launch) (S : q_St) {bs : List Int32} (ha : q_asc bs) (j : Nat) (hj : j < bs.length) : q_Gi bs l yJ0_charAt_5068e kJ0_charAt_5068e 4 [.ref 229, .int (nI j)] S (bs.getD j 0) S := by
  refine q_Gi_of (maxL := 2) rfl (by decide +kernel) (fun ad => Nat.le_of_ble_eq_true rfl) (by obtain ⟨k, k1, k2⟩ := ha.2.2 j hj; rw [k2]; exact (q_asc_c k1).2) ?_
  intro K C hL hret
  have C : q_Cx K cJ0_charAt_5068e RJ0 4 2 := C
  show q_V l K 0 [(0, .ref 229), (1, .int (nI j))] [] S
  refine q_aload_n C dJ0_charAt_5068e_0 rfl rfl ?_
  refine q_dj0 C hL ha.1 (c_J0_isLatin1_d l S ha) myJ0_isLatin1_aae02 rfl mlJ0_492 ⟨by decide, by decide⟩ (Nat.le_of_ble_eq_true rfl) dJ0_charAt_5068e_1 ?_
  refine q_if_eq (tgt := 16) C dJ0_charAt_5068e_4 (by decide) (fun h9 => absurd h9 (by decide)) (fun _ => ?_)
  refine q_aload_n C dJ0_charAt_5068e_7 rfl rfl ?_
  refine q_dValue C hL ha.1 flJ0_9 dJ0_charAt_5068e_8 ?_
  refine q_iload_n C dJ0_charAt_5068e_11 rfl rfl ?_
  refine q_dji2 C hL (c_J1_charAt_d l S ha j hj) msJ1_charAt_3b067 mlJ0_495 ⟨by decide, by decide⟩ (Nat.le_of_ble_eq_true rfl) dJ0_charAt_5068e_12 ?_
  exact hret _ _ _ _ dJ0_charAt_5068e_15 rfl rfl
