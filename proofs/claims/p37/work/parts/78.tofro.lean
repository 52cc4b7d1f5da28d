
/-! from the law's judgement to the one of the methods of text, and back -/
def q_KA (K : q_K) : Prop := match K with
  | (p, e, R, s, m, args, below, meth, c, cells, slots, Q, D, cy, ad, A, nL, L) => ∀ q, A q → (∃ k, k < 112 ∧ q = ad k) ∨ s.heap.size ≤ q
set_option maxHeartbeats 1000000 in
theorem q_FyA_of {l : Launch} {y : MethodName} {cd : Cond} {cc : ByteArray} {maxL d U : Nat} {ty : FieldType} {avs : List Value} {S S2 : q_St} {v : Int32} (hcd : cd = .code y cc maxL (some ty)) (hy : plainName y.cls = true) (hlen : ∀ ad : Nat → Nat, (lg_sl (avs.map (q_gv ad))).length ≤ maxL) (hn : narrow ty (.int v) = .int v)
    (body : ∀ K : q_K, q_KA K → q_Cy K cc y.cls d maxL U [] q_Tr → (∀ (u : Nat) (ex : va_W) (Z : Heap → Prop) (pc : Nat) (lv : List (Nat × Value)) (r : Int32) (S' : q_St), u ≤ U → decode cc pc = .ok (.ireturn, 1) → r = v → S' = S2 → q_Y l K u ex Z pc lv [.int r] S') → q_Y l K 0 [] q_Tr 0 (q_ml (q_ad K) (lv_args 0 avs)) [] S) : q_Fy l y cd d U avs S v S2 := by
  intro D cy ad sz L
  subst hcd
  refine Met.ofW (cc := cc) (maxL := maxL) (ret := (some ty)) hy rfl ?_
  intro p e s m args below meth c s₁ B hml hv
  obtain ⟨⟨rfl, hsz, hP, hK, hi, hE⟩, hEX⟩ := hv
  subst hsz
  have hts0 := atoms_spec (ws := Cond.code y cc maxL (some ty) :: q_WS) B.pre
  have hts : ∀ w ∈ q_WS, w.before (avs.map (q_gv ad)).toArray s = true := fun w h => hts0 w (List.mem_cons_of_mem _ h)
  have hown : s.vm.findClass y.cls = some m.cls := findClass_of_methodNamed B.named
  have hlocks := B.notSynchronized
  have hl := lv_entry (avs.map (q_gv ad)) (n := maxL) (hlen ad)
  rw [lg_entry_eq]
  generalize (lg_sl (avs.map (q_gv ad)) ++ List.replicate (maxL - (lg_sl (avs.map (q_gv ad))).length) Slot.unset).toArray = ls at hl ⊢
  rw [q_args] at hl
  refine body (p, e, (headSpec (Cond.code y cc maxL (some ty) :: q_WS) (q_rmX d U)).room, s, m, (avs.map (q_gv ad)).toArray, below, meth, c, 0, 0, MQ below (va_Qi (fun (r : Int32) (w : q_St) => r = v ∧ w = S2) (fun w t => va_P D q_cl (q_wl cy ad L w) t.heap) (q_A ad s.heap.size)) (avs.map (q_gv ad)).toArray s U (6 * U) (q_A ad s.heap.size), D, cy, ad, q_A ad s.heap.size, maxL, L) (fun q h => h) ⟨B.exec, B.bytes, hml, rfl, hown, hts, hK, hi, fun k hk => Or.inl ⟨k, hk, rfl⟩, fun q h => Or.inr h, Nat.le_refl _, Nat.le_refl _, Nat.le_refl _, Nat.le_refl _, hE, hEX, ⟨List.nodup_nil, fun a ha => nomatch ha⟩, q_Zs_Tr _ _⟩ ?_ 0 0 s.heap [] ls (Nat.le_refl _) (Nat.zero_le _) (by rw [List.append_nil]; exact hP) trivial va_S.rf hl
  intro u ex Z pc lv r S' hu hd h1 h2 cl sl H locs ls hc9 hs9 hP hZ hS hl
  subst h1; subst h2
  exact W.widen (Nat.le_trans hc9 hu) (Nat.le_trans hs9 (Nat.mul_le_mul_left 6 hu)) (W.zret B.exec B.bytes B.returns hn (fun t ht hW => ⟨⟨r, S', rfl, ⟨rfl, rfl⟩, by show va_P D q_cl (q_wl cy ad L S') t.heap; rw [ht]; exact q_P_l hP⟩, hS.F ht⟩) hS.2.2 hd hlocks)
section QYJ
variable {l : Launch} {K : q_K} {cc : ByteArray} {own : String} {dd n0 U u pc idx : Nat} {xa : List Nat} {ex : va_W} {Z : Heap → Prop} {lv : List (Nat × Value)} {st : List Value} {S : q_St}
theorem y_Cj (C : q_Cy K cc own dd n0 U xa Z) : q_Cj K cc own dd n0 U := by
  obtain ⟨p, e, R, s, m, args, below, meth, c, cells, slots, Q, D, cy, ad, A, nL, L⟩ := K
  obtain ⟨hx, hb, hml, hnl, hown, hts, hK, hi, hA1, hA2, hf1, hf2, hc1, hc2, hE, hEX, hxa, hZs⟩ := C
  exact ⟨hx, hb, hml, hnl, hown, hts, hK, hA2, hf1, hf2, hc1, hc2, hE, hEX⟩
theorem q_wl_in {cy : Nat → ClassId} {ad : Nat → Nat} {L : q_L} {b : Nat} (h : b ∈ (q_wl cy ad L S).map (fun q => q.1)) : ∃ k, k < 112 ∧ b = ad k := by
  obtain ⟨q, hq, rfl⟩ := List.mem_map.mp h
  obtain ⟨k, hk⟩ := q_mem_at hq
  obtain ⟨h1, sh, _, rfl⟩ := q_wl_inv hk
  exact ⟨k, h1, rfl⟩
theorem q_wl_at {cy : Nat → ClassId} {ad : Nat → Nat} {L : q_L} {k : Nat} (h : k < 112) : ad k ∈ (q_wl cy ad L S).map (fun q => q.1) := by
  have hl : k < (q_wl cy ad L S).length := by
    rw [q_wl_len]
    exact h
  have e := List.getElem?_eq_getElem hl
  obtain ⟨_, sh, _, h2⟩ := q_wl_inv e
  exact List.mem_map.mpr ⟨_, List.getElem_mem hl, by rw [h2]⟩
theorem y_toJ (C : q_Cy K cc own dd n0 U xa q_Tr) (hex : ex.map (fun q => q.1) = xa) (k : q_J l K u (ex ++ q_wl (q_cy K) (q_ad K) (q_LL K) S) pc lv st) : q_Y l K u ex q_Tr pc lv st S := by
  obtain ⟨p, e, R, s, m, args, below, meth, c, cells, slots, Q, D, cy, ad, A, nL, L⟩ := K
  obtain ⟨hx, hb, hml, hnl, hown, hts, hK, hi, hA1, hA2, hf1, hf2, hc1, hc2, hE, hEX, hxa, hZs⟩ := C
  intro cl sl H locs ls hc9 hs9 hP hZ hS hl
  subst hex
  refine k cl sl H locs ls hc9 hs9 ((q_P_r hP).app (q_P_l hP)) (q_nd_D ?_ (fun q hq => ?_)) hS hl
  · rw [List.map_append]
    refine List.nodup_append.mpr ⟨hxa.1, q_D_nd (q_wl_D hi hA1), fun a ha b hb9 hab => ?_⟩
    obtain ⟨k9, h1, h2⟩ := q_wl_in hb9
    exact (hxa.2 a ha).2 k9 h1 (h2.symm.trans hab.symm)
  · rcases List.mem_append.mp hq with h | h
    · exact hA2 _ (hxa.2 q.1 (List.mem_map.mpr ⟨q, h, rfl⟩)).1
    · obtain ⟨k9, h1, h2⟩ := q_wl_in (S := S) (List.mem_map.mpr ⟨q, h, rfl⟩)
      rw [h2]
      exact hA1 k9 h1
theorem j_toY (hA : q_KA K) (C : q_Cy K cc own dd n0 U xa q_Tr) (k : q_Cy K cc own dd n0 U (ex.map (fun q => q.1)) q_Tr → q_Y l K u ex q_Tr pc lv st S) : q_J l K u (ex ++ q_wl (q_cy K) (q_ad K) (q_LL K) S) pc lv st := by
  obtain ⟨p, e, R, s, m, args, below, meth, c, cells, slots, Q, D, cy, ad, A, nL, L⟩ := K
  obtain ⟨hx, hb, hml, hnl, hown, hts, hK, hi, hA1, hA2, hf1, hf2, hc1, hc2, hE, hEX, hxa, hZs⟩ := C
  intro cl sl H locs ls hc9 hs9 hP hD hS hl
  have nd := q_D_nd hD
  rw [List.map_append] at nd
  have nd3 := List.nodup_append.mp nd
  have hne : ∀ a ∈ ex.map (fun q => q.1), ∀ k, k < 112 → ad k ≠ a := fun a ha k9 h9 hab => nd3.2.2 a ha (ad k9) (q_wl_at h9) hab.symm
  refine k ⟨hx, hb, hml, hnl, hown, hts, hK, hi, hA1, hA2, hf1, hf2, hc1, hc2, hE, hEX, ⟨nd3.1, fun a ha => ⟨?_, hne a ha⟩⟩, q_Zs_Tr _ _⟩ cl sl H locs ls hc9 hs9 ((q_P_r hP).app (q_P_l hP)) trivial hS hl
  obtain ⟨q, hq, rfl⟩ := List.mem_map.mp ha
  obtain ⟨i, hi9⟩ := q_mem_at (List.mem_append_left (q_wl cy ad L S) hq)
  rcases hA _ (hD.2 i q hi9) with ⟨k9, h1, h2⟩ | h
  · exact absurd h2.symm (hne q.1 ha k9 h1)
  · exact h
end QYJ
