section QT
variable {l : Launch} {K : q_K} {cc : ByteArray} {own : String} {dd n0 pc idx : Nat} {lv : List (Nat × Value)} {st : List Value} {S : q_St}
theorem q_sCoder (C : q_Cx K cc own dd n0) {i k : Nat} (hi3 : i < 13) (hk : k = 200 + i) (hlk : Cond.fieldLink own idx "java/lang/String" "coder" "B" ∈ q_WS) (d : decode cc pc = .ok (.getfield idx, 3)) (kk : q_V l K (pc + 3) lv (.int 0 :: st) S) : q_V l K pc lv (.ref k :: st) S := by
  obtain ⟨p, e, R, s, m, args, below, meth, c, cells, slots, Q, D, cy, ad, A, nL, L⟩ := K
  obtain ⟨hx, hb, hml, hnl, hown, hts, hK, hi, hA1, hA2, hf1, hf2, hc1, hc2, hE⟩ := C
  intro H locs ls hP hS hl
  subst hk
  exact vk_getf hx hb (hE.1.1 i hi3).2.1 hS hown (hts _ hlk) (fun _ h => h) d (kk H locs ls hP hS hl)
theorem q_sValue (C : q_Cx K cc own dd n0) {i k : Nat} (hi3 : i < 13) (hk : k = 200 + i) (hlk : Cond.fieldLink own idx "java/lang/String" "value" "[B" ∈ q_WS) (d : decode cc pc = .ok (.getfield idx, 3)) (kk : q_V l K (pc + 3) lv (.ref (230 + i) :: st) S) : q_V l K pc lv (.ref k :: st) S := by
  obtain ⟨p, e, R, s, m, args, below, meth, c, cells, slots, Q, D, cy, ad, A, nL, L⟩ := K
  obtain ⟨hx, hb, hml, hnl, hown, hts, hK, hi, hA1, hA2, hf1, hf2, hc1, hc2, hE⟩ := C
  intro H locs ls hP hS hl
  subst hk
  exact vk_getf hx hb (hE.1.1 i hi3).2.2.1 hS hown (hts _ hlk) (fun _ h => h) d (kk H locs ls hP hS hl)
theorem q_sCompact (C : q_Cx K cc own dd n0) (hlk : Cond.fieldLink own idx "java/lang/String" "COMPACT_STRINGS" "Z" ∈ q_WS) (d : decode cc pc = .ok (.getstatic idx, 3)) (kk : q_V l K (pc + 3) lv (.int 1 :: st) S) : q_V l K pc lv st S := by
  obtain ⟨p, e, R, s, m, args, below, meth, c, cells, slots, Q, D, cy, ad, A, nL, L⟩ := K
  obtain ⟨hx, hb, hml, hnl, hown, hts, hK, hi, hA1, hA2, hf1, hf2, hc1, hc2, hE⟩ := C
  intro H locs ls hP hS hl
  exact va_gets hx hb hE.2.2.1 hS hown (hts _ hlk) (fun _ h => h) d (kk H locs ls hP hS hl)
theorem q_sForm (C : q_Cx K cc own dd n0) (hlk : Cond.fieldLink own idx "jdk/internal/util/Preconditions" "SIOOBE_FORMATTER" "Ljava/util/function/BiFunction;" ∈ q_WS) (d : decode cc pc = .ok (.getstatic idx, 3)) (kk : ∀ v : Value, (v = .null ∨ v = .ref 299) → q_V l K (pc + 3) lv (v :: st) S) : q_V l K pc lv st S := by
  obtain ⟨p, e, R, s, m, args, below, meth, c, cells, slots, Q, D, cy, ad, A, nL, L⟩ := K
  obtain ⟨hx, hb, hml, hnl, hown, hts, hK, hi, hA1, hA2, hf1, hf2, hc1, hc2, hE⟩ := C
  intro H locs ls hP hS hl
  rcases hE.2.2.2.1 with h9 | h9
  · exact va_gets hx hb h9 hS hown (hts _ hlk) (fun _ h => h) d (kk .null (Or.inl rfl) H locs ls hP hS hl)
  · exact va_gets hx hb h9 hS hown (hts _ hlk) (fun _ h => h) d (kk (.ref 299) (Or.inr rfl) H locs ls hP hS hl)
theorem q_sLen (C : q_Cx K cc own dd n0) {i k n : Nat} (hi3 : i < 13) (hk : k = 230 + i) (hn9 : q_len.getD i 0 = n) (d : decode cc pc = .ok (.arraylength, 1)) (kk : q_V l K (pc + 1) lv (.int (nI n) :: st) S) : q_V l K pc lv (.ref k :: st) S := by
  obtain ⟨p, e, R, s, m, args, below, meth, c, cells, slots, Q, D, cy, ad, A, nL, L⟩ := K
  obtain ⟨hx, hb, hml, hnl, hown, hts, hK, hi, hA1, hA2, hf1, hf2, hc1, hc2, hE⟩ := C
  intro H locs ls hP hS hl
  subst hk; subst hn9
  exact va_tlen hx hb (hE.1.1 i hi3).2.2.2 hS rfl d (kk H locs ls hP hS hl)
theorem q_sByte (C : q_Cx K cc own dd n0) {i k n j : Nat} {ix x : Int32} (hix : ix = nI j) (hi3 : i < 13) (hk : k = 230 + i) (hn9 : q_len.getD i 0 = n) (hj : j < n) (hn31 : n < 2 ^ 31) (hxv : (q_byt.getD i []).getD j 0 = x) (d : decode cc pc = .ok (.baload, 1)) (kk : q_V l K (pc + 1) lv (.int x :: st) S) : q_V l K pc lv (.int ix :: .ref k :: st) S := by
  obtain ⟨p, e, R, s, m, args, below, meth, c, cells, slots, Q, D, cy, ad, A, nL, L⟩ := K
  obtain ⟨hx, hb, hml, hnl, hown, hts, hK, hi, hA1, hA2, hf1, hf2, hc1, hc2, hE⟩ := C
  intro H locs ls hP hS hl
  subst hk; subst hn9; subst hix; subst hxv
  exact va_tb hx hb (hE.1.1 i hi3).2.2.2 hS (vp_in_nI hj hn31) (by rw [nI_clamp (Nat.lt_trans hj hn31)]; rfl) d (kk H locs ls hP hS hl)
theorem q_sLdc (C : q_Cx K cc own dd n0) {i : Nat} {tx : String} (hq : q_strs[i]? = some (own, idx, tx)) (d : decode cc pc = .ok (.ldc idx, 2)) (kk : q_V l K (pc + 2) lv (.ref (200 + i) :: st) S) : q_V l K pc lv st S := by
  obtain ⟨p, e, R, s, m, args, below, meth, c, cells, slots, Q, D, cy, ad, A, nL, L⟩ := K
  obtain ⟨hx, hb, hml, hnl, hown, hts, hK, hi, hA1, hA2, hf1, hf2, hc1, hc2, hE⟩ := C
  intro H locs ls hP hS hl
  exact va_ldcS hx hb hown (hE.2.1 i _ hq) d (kk H locs ls hP hS hl)
theorem q_max (C : q_Cx K cc own dd n0) {x y : Int32} (hl9 : Cond.methodLink own idx Lib.Math.max.name ∈ q_WS) (hdd : 1 ≤ dd) (hroom : (st.map Value.category).sum ≤ 8) (d : decode cc pc = .ok (.invokestatic idx, 3)) (kk : q_V l K (pc + 3) lv (.int (if x < y then y else x) :: st) S) : q_V l K pc lv (.int y :: .int x :: st) S := by
  obtain ⟨p, e, R, s, m, args, below, meth, c, cells, slots, Q, D, cy, ad, A, nL, L⟩ := K
  obtain ⟨hx, hb, hml, hnl, hown, hts, hK, hi, hA1, hA2, hf1, hf2, hc1, hc2, hE⟩ := C
  intro H locs ls hP hS hl
  exact va_mmax hx hb (hml.trans hl.1.symm) hown (hts _ hl9) (hts _ w_maxS) (hts _ w_mathI) (hts _ w_maxC) (by omega) (by rw [q_cats]; omega) hc1 hc2 d (kk H locs ls hP hS hl)
theorem q_ishr (C : q_Cx K cc own dd n0) {x y v : Int32} (hv : x >>> (y &&& 31) = v) (d : decode cc pc = .ok (.ishr, 1)) (kk : q_V l K (pc + 1) lv (.int v :: st) S) : q_V l K pc lv (.int y :: .int x :: st) S := by
  obtain ⟨p, e, R, s, m, args, below, meth, c, cells, slots, Q, D, cy, ad, A, nL, L⟩ := K
  obtain ⟨hx, hb, hml, hnl, hown, hts, hK, hi, hA1, hA2, hf1, hf2, hc1, hc2, hE⟩ := C
  intro H locs ls hP hS hl
  subst hv
  exact lv_ishr hx hb d (kk H locs ls hP hS hl)
theorem q_i2b (C : q_Cx K cc own dd n0) {x v : Int32} (hv : x.toInt8.toInt32 = v) (d : decode cc pc = .ok (.i2b, 1)) (kk : q_V l K (pc + 1) lv (.int v :: st) S) : q_V l K pc lv (.int x :: st) S := by
  obtain ⟨p, e, R, s, m, args, below, meth, c, cells, slots, Q, D, cy, ad, A, nL, L⟩ := K
  obtain ⟨hx, hb, hml, hnl, hown, hts, hK, hi, hA1, hA2, hf1, hf2, hc1, hc2, hE⟩ := C
  intro H locs ls hP hS hl
  exact lv_i2b hx hb d hv (kk H locs ls hP hS hl)
set_option maxHeartbeats 1000000 in
theorem q_sji (C : q_Cx K cc own dd n0) {y : MethodName} {cd : Cond} {d maxL n : Nat} {bytes : ByteArray} {ret : Option FieldType} {As rest : List Value} {S2 : q_St} {v : Int32} (hM : q_Fi l y cd d As S v S2) (hy : q_ms y cd bytes maxL ret n) (hlk : Cond.methodLink own idx y ∈ q_WS) (hn : As.length = n) (hR : d + 1 ≤ dd ∧ maxL ≤ 21) (hroom : (rest.map Value.category).sum ≤ 8) (dg : decode cc pc = .ok (.invokestatic idx, 3)) (kk : q_V l K (pc + 3) lv (.int v :: rest) S2) : q_V l K pc lv (As.reverse ++ rest) S := by
  obtain ⟨p, e, R, s, m, args, below, meth, c, cells, slots, Q, D, cy, ad, A, nL, L⟩ := K
  obtain ⟨hx, hb, hml, hnl, hown, hts, hK, hi, hA1, hA2, hf1, hf2, hc1, hc2, hE⟩ := C
  obtain ⟨y1, y2, y3, y4, y6, y8, y9⟩ := hy
  intro H locs ls hP hS hl
  have hF := q_free (ad := ad) hS hA1 hA2
  have hn2 : (As.map (q_gv ad)).length = n := by rw [List.length_map]; exact hn
  have hG : GoodIn q_WS (va_wsS own idx y (cd :: q_WS)) := by
    intro w hw
    have hm : w ∈ q_WS := by
      unfold va_wsS at hw
      simp only [List.mem_append, List.mem_cons, List.not_mem_nil, or_false] at hw
      rcases hw with (rfl | rfl | rfl) | (rfl | h) <;> assumption
    exact ⟨hm, good_of_word (q_WS_good w hm)⟩
  refine va_calli (va_runS (As := As.map (q_gv ad)) (rest := rest.map (q_gv ad)) ⟨hx, hb, hml, hown, hts⟩ (hM D cy ad H.size L) (va_cwS n hts hG (congrArg (fun z => z :: q_WS) y1) rfl rfl ⟨y2, y3, y4⟩ ⟨Nat.le_trans hR.1 hf1, ?_⟩) ⟨q_Pc_blind _ _ _ _ _ _ _, fun U hU hW => ⟨rfl, by rw [hU], by rw [hU]; exact hP, va_K.moved hW.alike hK, hi, by rw [hU]; exact q_E.go hE hS.2.1 hF hW⟩⟩ rfl hn2 hl.1 ?_ ?_ dg ⟨hc1, hc2⟩) hS (fun q _ h => hF q h) hF (fun r u t H1 locs1 ht hvm hw hB hz1 hk1 hS1 => ?_)
  · have h9 : (q_rm d).locals = 40 * d := rfl
    rw [h9]
    have h8 := hR.1
    have h7 := hR.2
    omega
  · show (As.reverse ++ rest).map (q_gv ad) = _
    rw [List.map_append, List.map_reverse]
  · refine lv_room ?_
    rw [q_cats]
    exact hroom
  · obtain ⟨rfl, rfl⟩ := hw
    exact kk H1 locs1 ls (by rw [← ht]; exact hB) hS1 hl
theorem q_sji1 (C : q_Cx K cc own dd n0) {y : MethodName} {cd : Cond} {d maxL : Nat} {bytes : ByteArray} {ret : Option FieldType} {a1 : Value} {rest : List Value} {S2 : q_St} {v : Int32} (hM : q_Fi l y cd d [a1] S v S2) (hy : q_ms y cd bytes maxL ret 1) (hlk : Cond.methodLink own idx y ∈ q_WS) (hR : d + 1 ≤ dd ∧ maxL ≤ 21) (hroom : (rest.map Value.category).sum ≤ 8) (dg : decode cc pc = .ok (.invokestatic idx, 3)) (kk : q_V l K (pc + 3) lv (.int v :: rest) S2) : q_V l K pc lv (a1 :: rest) S := q_sji C hM hy hlk rfl hR hroom dg kk
theorem q_sji2 (C : q_Cx K cc own dd n0) {y : MethodName} {cd : Cond} {d maxL : Nat} {bytes : ByteArray} {ret : Option FieldType} {a1 a2 : Value} {rest : List Value} {S2 : q_St} {v : Int32} (hM : q_Fi l y cd d [a1, a2] S v S2) (hy : q_ms y cd bytes maxL ret 2) (hlk : Cond.methodLink own idx y ∈ q_WS) (hR : d + 1 ≤ dd ∧ maxL ≤ 21) (hroom : (rest.map Value.category).sum ≤ 8) (dg : decode cc pc = .ok (.invokestatic idx, 3)) (kk : q_V l K (pc + 3) lv (.int v :: rest) S2) : q_V l K pc lv (a2 :: a1 :: rest) S := q_sji C hM hy hlk rfl hR hroom dg kk
theorem q_sji3 (C : q_Cx K cc own dd n0) {y : MethodName} {cd : Cond} {d maxL : Nat} {bytes : ByteArray} {ret : Option FieldType} {a1 a2 a3 : Value} {rest : List Value} {S2 : q_St} {v : Int32} (hM : q_Fi l y cd d [a1, a2, a3] S v S2) (hy : q_ms y cd bytes maxL ret 3) (hlk : Cond.methodLink own idx y ∈ q_WS) (hR : d + 1 ≤ dd ∧ maxL ≤ 21) (hroom : (rest.map Value.category).sum ≤ 8) (dg : decode cc pc = .ok (.invokestatic idx, 3)) (kk : q_V l K (pc + 3) lv (.int v :: rest) S2) : q_V l K pc lv (a3 :: a2 :: a1 :: rest) S := q_sji C hM hy hlk rfl hR hroom dg kk
theorem q_sji4 (C : q_Cx K cc own dd n0) {y : MethodName} {cd : Cond} {d maxL : Nat} {bytes : ByteArray} {ret : Option FieldType} {a1 a2 a3 a4 : Value} {rest : List Value} {S2 : q_St} {v : Int32} (hM : q_Fi l y cd d [a1, a2, a3, a4] S v S2) (hy : q_ms y cd bytes maxL ret 4) (hlk : Cond.methodLink own idx y ∈ q_WS) (hR : d + 1 ≤ dd ∧ maxL ≤ 21) (hroom : (rest.map Value.category).sum ≤ 8) (dg : decode cc pc = .ok (.invokestatic idx, 3)) (kk : q_V l K (pc + 3) lv (.int v :: rest) S2) : q_V l K pc lv (a4 :: a3 :: a2 :: a1 :: rest) S := q_sji C hM hy hlk rfl hR hroom dg kk
set_option maxHeartbeats 1000000 in
theorem q_sjv (C : q_Cx K cc own dd n0) {y : MethodName} {cd : Cond} {d maxL n : Nat} {bytes : ByteArray} {ret : Option FieldType} {As rest : List Value} {S2 : q_St} (hM : q_Fv l y cd d As S S2) (hy : q_ms y cd bytes maxL ret n) (hlk : Cond.methodLink own idx y ∈ q_WS) (hn : As.length = n) (hR : d + 1 ≤ dd ∧ maxL ≤ 21) (hroom : (rest.map Value.category).sum ≤ 8) (dg : decode cc pc = .ok (.invokestatic idx, 3)) (kk : q_V l K (pc + 3) lv rest S2) : q_V l K pc lv (As.reverse ++ rest) S := by
  obtain ⟨p, e, R, s, m, args, below, meth, c, cells, slots, Q, D, cy, ad, A, nL, L⟩ := K
  obtain ⟨hx, hb, hml, hnl, hown, hts, hK, hi, hA1, hA2, hf1, hf2, hc1, hc2, hE⟩ := C
  obtain ⟨y1, y2, y3, y4, y6, y8, y9⟩ := hy
  intro H locs ls hP hS hl
  have hF := q_free (ad := ad) hS hA1 hA2
  have hn2 : (As.map (q_gv ad)).length = n := by rw [List.length_map]; exact hn
  have hG : GoodIn q_WS (va_wsS own idx y (cd :: q_WS)) := by
    intro w hw
    have hm : w ∈ q_WS := by
      unfold va_wsS at hw
      simp only [List.mem_append, List.mem_cons, List.not_mem_nil, or_false] at hw
      rcases hw with (rfl | rfl | rfl) | (rfl | h) <;> assumption
    exact ⟨hm, good_of_word (q_WS_good w hm)⟩
  refine va_callv (va_runS (As := As.map (q_gv ad)) (rest := rest.map (q_gv ad)) ⟨hx, hb, hml, hown, hts⟩ (hM D cy ad H.size L) (va_cwS n hts hG (congrArg (fun z => z :: q_WS) y1) rfl rfl ⟨y2, y3, y4⟩ ⟨Nat.le_trans hR.1 hf1, ?_⟩) ⟨q_Pc_blind _ _ _ _ _ _ _, fun U hU hW => ⟨rfl, by rw [hU], by rw [hU]; exact hP, va_K.moved hW.alike hK, hi, by rw [hU]; exact q_E.go hE hS.2.1 hF hW⟩⟩ rfl hn2 hl.1 ?_ ?_ dg ⟨hc1, hc2⟩) hS (fun q _ h => hF q h) hF (fun u t H1 locs1 ht hvm hw hB hz1 hk1 hS1 => ?_)
  · have h9 : (q_rm d).locals = 40 * d := rfl
    rw [h9]
    have h8 := hR.1
    have h7 := hR.2
    omega
  · show (As.reverse ++ rest).map (q_gv ad) = _
    rw [List.map_append, List.map_reverse]
  · refine lv_room ?_
    rw [q_cats]
    exact hroom
  · subst hw
    exact kk H1 locs1 ls (by rw [← ht]; exact hB) hS1 hl
theorem q_sjv1 (C : q_Cx K cc own dd n0) {y : MethodName} {cd : Cond} {d maxL : Nat} {bytes : ByteArray} {ret : Option FieldType} {a1 : Value} {rest : List Value} {S2 : q_St} (hM : q_Fv l y cd d [a1] S S2) (hy : q_ms y cd bytes maxL ret 1) (hlk : Cond.methodLink own idx y ∈ q_WS) (hR : d + 1 ≤ dd ∧ maxL ≤ 21) (hroom : (rest.map Value.category).sum ≤ 8) (dg : decode cc pc = .ok (.invokestatic idx, 3)) (kk : q_V l K (pc + 3) lv rest S2) : q_V l K pc lv (a1 :: rest) S := q_sjv C hM hy hlk rfl hR hroom dg kk
theorem q_sjv2 (C : q_Cx K cc own dd n0) {y : MethodName} {cd : Cond} {d maxL : Nat} {bytes : ByteArray} {ret : Option FieldType} {a1 a2 : Value} {rest : List Value} {S2 : q_St} (hM : q_Fv l y cd d [a1, a2] S S2) (hy : q_ms y cd bytes maxL ret 2) (hlk : Cond.methodLink own idx y ∈ q_WS) (hR : d + 1 ≤ dd ∧ maxL ≤ 21) (hroom : (rest.map Value.category).sum ≤ 8) (dg : decode cc pc = .ok (.invokestatic idx, 3)) (kk : q_V l K (pc + 3) lv rest S2) : q_V l K pc lv (a2 :: a1 :: rest) S := q_sjv C hM hy hlk rfl hR hroom dg kk
theorem q_sjv3 (C : q_Cx K cc own dd n0) {y : MethodName} {cd : Cond} {d maxL : Nat} {bytes : ByteArray} {ret : Option FieldType} {a1 a2 a3 : Value} {rest : List Value} {S2 : q_St} (hM : q_Fv l y cd d [a1, a2, a3] S S2) (hy : q_ms y cd bytes maxL ret 3) (hlk : Cond.methodLink own idx y ∈ q_WS) (hR : d + 1 ≤ dd ∧ maxL ≤ 21) (hroom : (rest.map Value.category).sum ≤ 8) (dg : decode cc pc = .ok (.invokestatic idx, 3)) (kk : q_V l K (pc + 3) lv rest S2) : q_V l K pc lv (a3 :: a2 :: a1 :: rest) S := q_sjv C hM hy hlk rfl hR hroom dg kk
theorem q_sjv4 (C : q_Cx K cc own dd n0) {y : MethodName} {cd : Cond} {d maxL : Nat} {bytes : ByteArray} {ret : Option FieldType} {a1 a2 a3 a4 : Value} {rest : List Value} {S2 : q_St} (hM : q_Fv l y cd d [a1, a2, a3, a4] S S2) (hy : q_ms y cd bytes maxL ret 4) (hlk : Cond.methodLink own idx y ∈ q_WS) (hR : d + 1 ≤ dd ∧ maxL ≤ 21) (hroom : (rest.map Value.category).sum ≤ 8) (dg : decode cc pc = .ok (.invokestatic idx, 3)) (kk : q_V l K (pc + 3) lv rest S2) : q_V l K pc lv (a4 :: a3 :: a2 :: a1 :: rest) S := q_sjv C hM hy hlk rfl hR hroom dg kk
set_option maxHeartbeats 1000000 in
theorem q_cj (C : q_Cx K cc own dd n0) {y : MethodName} {cd : Cond} {d k0 i maxL n : Nat} {bytes : ByteArray} {ret : Option FieldType} {As rest : List Value} {S2 : q_St} {v : Int32} (hM : q_Fi l y cd d (.ref k0 :: As) S v S2) (hy : q_mj y cd bytes maxL ret n) (hcls : y.cls = "java/lang/String") (hlk : Cond.methodLink own idx y ∈ q_WS) (hn : As.length = n) (hi3 : i < 13) (hk0 : k0 = 200 + i) (hR : d + 1 ≤ dd ∧ maxL ≤ 21) (hroom : (rest.map Value.category).sum ≤ 8) (dg : decode cc pc = .ok (.invokevirtual idx, 3)) (kk : q_V l K (pc + 3) lv (.int v :: rest) S2) : q_V l K pc lv (As.reverse ++ .ref k0 :: rest) S := by
  obtain ⟨p, e, R, s, m, args, below, meth, c, cells, slots, Q, D, cy, ad, A, nL, L⟩ := K
  obtain ⟨hx, hb, hml, hnl, hown, hts, hK, hi, hA1, hA2, hf1, hf2, hc1, hc2, hE⟩ := C
  obtain ⟨y1, y2, y3, y4, y6, y7, y8, y9⟩ := hy
  subst hk0
  intro H locs ls hP hS hl
  have hF := q_free (ad := ad) hS hA1 hA2
  have hn2 : (As.map (q_gv ad)).length = n := by rw [List.length_map]; exact hn
  refine va_calli (va_runV (As := As.map (q_gv ad)) (rest := rest.map (q_gv ad)) ⟨hx, hb, hml, hown, hts⟩ (hM D cy ad H.size L) (cwV n hts (q_goodV hlk y6 y7 y8 y9) (congrArg (fun z => z :: q_WS) y1) rfl rfl ⟨rfl, y2, y3, y4⟩ ⟨Nat.le_trans hR.1 hf1, ?_⟩) ⟨q_Pc_blind _ _ _ _ _ _ _, by rw [hcls]; exact vk_recv (i := i) (adK := fun i => ad (200 + i)) hE.1 hi3 hS, fun U hU hW => ⟨rfl, by rw [hU], by rw [hU]; exact hP, va_K.moved hW.alike hK, hi, by rw [hU]; exact q_E.go hE hS.2.1 hF hW⟩⟩ rfl hn2 hl.1 ?_ ?_ dg ⟨hc1, hc2⟩) hS (fun q _ h => hF q h) hF (fun r u t H1 locs1 ht hvm hw hB hz1 hk1 hS1 => ?_)
  · have h9 : (q_rm d).locals = 40 * d := rfl
    rw [h9]
    have h8 := hR.1
    have h7 := hR.2
    omega
  · show (As.reverse ++ .ref (200 + i) :: rest).map (q_gv ad) = _
    rw [List.map_append, List.map_reverse]
    rfl
  · refine lv_room ?_
    rw [q_cats]
    exact hroom
  · obtain ⟨rfl, rfl⟩ := hw
    exact kk H1 locs1 ls (by rw [← ht]; exact hB) hS1 hl
theorem q_cj0 (C : q_Cx K cc own dd n0) {y : MethodName} {cd : Cond} {d k0 i maxL : Nat} {bytes : ByteArray} {ret : Option FieldType} {rest : List Value} {S2 : q_St} {v : Int32} (hM : q_Fi l y cd d (.ref k0 :: []) S v S2) (hy : q_mj y cd bytes maxL ret 0) (hcls : y.cls = "java/lang/String") (hlk : Cond.methodLink own idx y ∈ q_WS) (hi3 : i < 13) (hk0 : k0 = 200 + i) (hR : d + 1 ≤ dd ∧ maxL ≤ 21) (hroom : (rest.map Value.category).sum ≤ 8) (dg : decode cc pc = .ok (.invokevirtual idx, 3)) (kk : q_V l K (pc + 3) lv (.int v :: rest) S2) : q_V l K pc lv (.ref k0 :: rest) S := q_cj C hM hy hcls hlk rfl hi3 hk0 hR hroom dg kk
theorem q_cj1 (C : q_Cx K cc own dd n0) {y : MethodName} {cd : Cond} {d k0 i maxL : Nat} {bytes : ByteArray} {ret : Option FieldType} {a1 : Value} {rest : List Value} {S2 : q_St} {v : Int32} (hM : q_Fi l y cd d (.ref k0 :: [a1]) S v S2) (hy : q_mj y cd bytes maxL ret 1) (hcls : y.cls = "java/lang/String") (hlk : Cond.methodLink own idx y ∈ q_WS) (hi3 : i < 13) (hk0 : k0 = 200 + i) (hR : d + 1 ≤ dd ∧ maxL ≤ 21) (hroom : (rest.map Value.category).sum ≤ 8) (dg : decode cc pc = .ok (.invokevirtual idx, 3)) (kk : q_V l K (pc + 3) lv (.int v :: rest) S2) : q_V l K pc lv (a1 :: .ref k0 :: rest) S := q_cj C hM hy hcls hlk rfl hi3 hk0 hR hroom dg kk
theorem q_cj2 (C : q_Cx K cc own dd n0) {y : MethodName} {cd : Cond} {d k0 i maxL : Nat} {bytes : ByteArray} {ret : Option FieldType} {a1 a2 : Value} {rest : List Value} {S2 : q_St} {v : Int32} (hM : q_Fi l y cd d (.ref k0 :: [a1, a2]) S v S2) (hy : q_mj y cd bytes maxL ret 2) (hcls : y.cls = "java/lang/String") (hlk : Cond.methodLink own idx y ∈ q_WS) (hi3 : i < 13) (hk0 : k0 = 200 + i) (hR : d + 1 ≤ dd ∧ maxL ≤ 21) (hroom : (rest.map Value.category).sum ≤ 8) (dg : decode cc pc = .ok (.invokevirtual idx, 3)) (kk : q_V l K (pc + 3) lv (.int v :: rest) S2) : q_V l K pc lv (a2 :: a1 :: .ref k0 :: rest) S := q_cj C hM hy hcls hlk rfl hi3 hk0 hR hroom dg kk
end QT
def uT_ix (c : Int32) : Int32 := if c < 0 ∨ 255 < c then -1 else q_find (fun j => decide ((q_byt.getD 0 []).getD j 0 = c.toInt8.toInt32)) 11 0
