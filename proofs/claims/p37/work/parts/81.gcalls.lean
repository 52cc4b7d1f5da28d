
/-! calls with a made String of the law -/
theorem q_fv_dyn {ad : Nat → Nat} {q sd : Nat} {f : Nat → Int32} : ∀ (fs : List (Option Nat)) (j : Nat), (∀ k, some k ∈ fs → k < 112) → q_fv (uAd2 ad q sd) f j fs = q_fv ad f j fs
  | [], _, _ => rfl
  | none :: r, j, h => by
    show _ :: q_fv (uAd2 ad q sd) f (j + 1) r = _ :: q_fv ad f (j + 1) r
    rw [q_fv_dyn r (j + 1) (fun k hk => h k (List.mem_cons_of_mem _ hk))]
  | some k :: r, j, h => by
    have hk := h k List.mem_cons_self
    show Value.ref (uAd2 ad q sd k) :: q_fv (uAd2 ad q sd) f (j + 1) r = Value.ref (ad k) :: q_fv ad f (j + 1) r
    rw [q_fv_dyn r (j + 1) (fun k hk => h k (List.mem_cons_of_mem _ hk)), uAd2_at (by omega) (by omega)]
theorem q_sh_refs : ∀ sh ∈ q_sh, (match sh with | .inl _ => True | .inr (_, fs) => ∀ k, some k ∈ fs → k < 112) := by
  have key : q_sh.all (fun sh => match sh with | .inl _ => true | .inr (_, fs) => fs.all (fun o => match o with | none => true | some k => decide (k < 112))) = true := by decide +kernel
  intro sh h
  have h9 := List.all_eq_true.mp key sh h
  rcases sh with t | ⟨ci, fs⟩
  · trivial
  · intro k hk
    exact of_decide_eq_true (List.all_eq_true.mp h9 (some k) hk)
theorem q_wl_dyn {cy : Nat → ClassId} {ad : Nat → Nat} {L : q_L} {S : q_St} {q sd : Nat} {bs : List Int32} : q_wl cy (uAd2 ad q sd) (L.1, bs) S = q_wl cy ad L S := by
  unfold q_wl
  refine List.map_congr_left (fun x hx => ?_)
  obtain ⟨sh, k⟩ := x
  have hx9 := List.mem_zipIdx hx
  have hk : k < 112 := by
    have h1 := hx9.2.1
    have h2 : q_sh.length = 112 := by decide +kernel
    omega
  have hsh : sh ∈ q_sh := by
    rw [hx9.2.2]
    exact List.getElem_mem _
  show (uAd2 ad q sd k, q_cell cy (uAd2 ad q sd) (L.1, bs) (S k) sh) = (ad k, q_cell cy ad L (S k) sh)
  rw [uAd2_at (by omega) (by omega)]
  congr 1
  rcases sh with ⟨t, n⟩ | ⟨ci, fs⟩
  · show (Sum.inl (cy t, n, q_arr (uAd2 ad q sd) t (S k) (L.1, bs)) : va_E) = .inl (cy t, n, q_arr ad t (S k) L)
    unfold q_arr
    split
    · have e : (fun j => some (uAd2 ad q sd (30 + 9 * j))) = (fun j => some (ad (30 + 9 * j))) := funext fun j => by rw [uAd2_at (by omega) (by omega)]
      rw [e]
    · rfl
    · rfl
  · show (Sum.inr (ci, q_fv (uAd2 ad q sd) (S k) 0 fs) : va_E) = .inr (ci, q_fv ad (S k) 0 fs)
    rw [q_fv_dyn fs 0 (q_sh_refs _ hsh)]
theorem q_A_dyn {ad : Nat → Nat} {q sd m a : Nat} : q_A (uAd2 ad q sd) m a ↔ q_A ad m a := by
  constructor
  · rintro (⟨k, hk, h⟩ | h)
    · exact Or.inl ⟨k, hk, by rw [h]; exact uAd2_at (by omega) (by omega)⟩
    · exact Or.inr h
  · rintro (⟨k, hk, h⟩ | h)
    · exact Or.inl ⟨k, hk, by rw [h]; exact (uAd2_at (by omega) (by omega)).symm⟩
    · exact Or.inr h
theorem q_dynE {args : Array Value} {D : va_G} {cy : Nat → ClassId} {ad : Nat → Nat} {L : q_L} {A : Nat → Prop} {s : State} {H : Heap} {locs : List Loc} {ex : va_W} {q sd n i j : Nat} {g : Nat → Int32} {h z : Int32} (hE : q_E ad L A s s.heap) (hS : va_S A s.heap H locs) (hF : ∀ a, q_A ad H.size a → A a) (hts : ∀ w ∈ q_WS, w.before args s = true) (hK : va_K D q_cl (q_tys cy) s) (hP : va_P D q_cl ex H) (h1 : ex[i]? = some (q, .inr (8, [.ref sd, .int 0, .int h, .int z]))) (h2 : ex[j]? = some (sd, .inl (cy 5, n, .inl g))) (hne : ∀ a ∈ ex.map (fun q => q.1), ∀ k, k < 112 → ad k ≠ a) (U : State) (hU : U.heap = H) (hW : s.WarmedH U.vm) : q_E (uAd2 ad q sd) (L.1, (List.range n).map g) (q_A (uAd2 ad q sd) H.size) U U.heap := by
  have nA : ∀ (i : Nat) (x : Nat × va_E), ex[i]? = some x → ¬ q_A ad H.size x.1 := fun i x hx h9 => by
    rcases h9 with ⟨k, hk, h⟩ | h
    · exact hne x.1 (List.mem_map.mpr ⟨x, List.mem_of_getElem? hx, rfl⟩) k hk h.symm
    · exact absurd (vx_lt hP hx) (Nat.not_lt.mpr h)
  have e0 : q_E ad L (q_A ad H.size) s H := q_E.go hE hS.2.1 hF (State.WarmedH.refl s)
  have e1 := q_E_dyn e0 hts hK hP h1 h2 (nA i _ h1) (nA j _ h2)
  rw [hU]
  exact q_E.go (s := { s with heap := H }) (A := q_A ad H.size) (q_E.same rfl e1) (fun _ _ _ => rfl) (fun a ha => q_A_dyn.mp ha) hW
section QYG
variable {l : Launch} {K : q_K} {cc : ByteArray} {own : String} {dd n0 U u pc idx : Nat} {xa : List Nat} {ex : va_W} {lv : List (Nat × Value)} {st : List Value} {S : q_St}
set_option maxHeartbeats 1000000 in
theorem y_gd (C : q_Cy K cc own dd n0 U xa q_Tr) {q sd nS i j : Nat} {g : Nat → Int32} {h z : Int32} (h1 : ex[i]? = some (q, .inr (8, [.ref sd, .int 0, .int h, .int z]))) (h2 : ex[j]? = some (sd, .inl (q_cy K 5, nS, .inl g))) {y : MethodName} {cd : Cond} {d maxL n : Nat} {bytes : ByteArray} {ret : Option FieldType} {As rest st0 : List Value} {S2 : q_St} {v : Int32} (hM : q_Gi ((List.range nS).map g) l y cd d (.ref 229 :: As) S v S2) (hy : q_mj y cd bytes maxL ret n) (hcls : y.cls = "java/lang/String") (hlk : Cond.methodLink own idx y ∈ q_WS) (hn : As.length = n) (hst : st0 = (As.map (q_gv (uAd2 (q_ad K) q sd))).reverse ++ .ref q :: rest) (hex : ex.map (fun q => q.1) = xa) (hR : d + 1 ≤ dd ∧ maxL ≤ 21) (hU : u ≤ U) (hroom : (rest.map Value.category).sum ≤ 8) (dg : decode cc pc = .ok (.invokevirtual idx, 3)) (kk : q_Y l K u ex q_Tr (pc + 3) lv (.int v :: rest) S2) : q_Y l K u ex q_Tr pc lv st0 S := by
  obtain ⟨p, e, R, s, m, args, below, meth, c, cells, slots, Q, D, cy, ad, A, nL, L⟩ := K
  obtain ⟨hx, hb, hml, hnl, hown, hts, hK, hi, hA1, hA2, hf1, hf2, hc1, hc2, hE, hEX, hxa, hZs⟩ := C
  intro cl sl H locs ls hc9 hs9 hP hZ hS hl
  subst hex
  have hF0 := q_free (ad := ad) hS hA1 hA2
  have hF : ∀ a, q_A (uAd2 ad q sd) H.size a → A a := fun a ha => hF0 a (q_A_dyn.mp ha)
  have hn2 : (As.map (q_gv (uAd2 ad q sd))).length = n := by rw [List.length_map]; exact hn
  have hi9 : ∀ i j, i < 112 → j < 112 → uAd2 ad q sd i = uAd2 ad q sd j → i = j := fun i j h1 h2 h3 => hi i j h1 h2 (by rw [← uAd2_at (ad := ad) (q := q) (sd := sd) (show i ≠ 229 by omega) (by omega), ← uAd2_at (ad := ad) (q := q) (sd := sd) (show j ≠ 229 by omega) (by omega)]; exact h3)
  have hE9 := q_dynE hE hS hF0 hts hK (q_P_r hP) h1 h2 (fun a ha => (hxa.2 a ha).2)
  obtain ⟨y1, y2, y3, y4, y6, y7, y8, y9⟩ := hy
  refine va_calli (va_runV (b := q) (As := As.map (q_gv (uAd2 ad q sd))) (rest := rest) ⟨hx, hb, hml, hown, hts⟩ (hM D cy (uAd2 ad q sd) H.size (L.1, (List.range nS).map g) rfl) (cwV n hts (q_goodV hlk y6 y7 y8 y9) (congrArg (fun z => z :: q_WS) y1) rfl rfl ⟨rfl, y2, y3, y4⟩ ⟨Nat.le_trans hR.1 hf1, ?_⟩) ⟨q_Pc_blind _ _ _ _ _ _ _, by rw [hcls]; exact va_recv (q := (RST, TST, 4)) hK (q_P_r hP) rfl h1, fun U hU hW => ⟨rfl, by rw [hU], by rw [hU, q_wl_dyn]; exact q_P_l hP, va_K.moved hW.alike hK, hi9, hE9 U hU hW⟩⟩ rfl hn2 hl.1 hst ?_ dg ⟨by omega, by omega⟩) hS (fun q _ h => hF q h) hF (fun r w t H1 locs1 ht hvm hw hB hz1 hk1 hS1 => ?_)
  · have h9 : (q_rm d).locals = 40 * d := rfl
    rw [h9]
    have h8 := hR.1
    have h7 := hR.2
    omega
  · exact lv_room hroom
  · obtain ⟨rfl, rfl⟩ := hw
    rw [q_wl_dyn] at hB
    exact kk cl sl H1 locs1 ls (by omega) (by omega) (va_P.app (by rw [← ht]; exact hB) (q_keepX (q_P_r hP) rfl hxa (fun q h1 h2 => hk1 q h1 (fun h => h2 (q_A_dyn.mp h))))) trivial hS1 hl
set_option maxHeartbeats 1000000 in
theorem y_gr (C : q_Cy K cc own dd n0 U xa q_Tr) {q sd nS i j : Nat} {g : Nat → Int32} {h z : Int32} (h1 : ex[i]? = some (q, .inr (8, [.ref sd, .int 0, .int h, .int z]))) (h2 : ex[j]? = some (sd, .inl (q_cy K 5, nS, .inl g))) {y : MethodName} {cd : Cond} {d u1 maxL n : Nat} {bytes : ByteArray} {As rest st0 : List Value} {S2 : q_St} {v : Int32} (hM : q_FyD ((List.range nS).map g) l y cd d u1 As S v S2) {ret : Option FieldType} (hy : q_ms y cd bytes maxL ret n) (hco : y.cls = own) (hlk : Cond.methodLink own idx y ∈ q_WS) (hn : As.length = n) (hst : st0 = (As.map (q_gv (uAd2 (q_ad K) q sd))).reverse ++ rest) (hex : ex.map (fun q => q.1) = xa) (hR : d + 1 ≤ dd ∧ maxL ≤ 21) (hU : u + u1 ≤ U) (hroom : (rest.map Value.category).sum ≤ 8) (dg : decode cc pc = .ok (.invokestatic idx, 3)) (kk : q_Y l K (u + u1) ex q_Tr (pc + 3) lv (.int v :: rest) S2) : q_Y l K u ex q_Tr pc lv st0 S := by
  obtain ⟨p, e, R, s, m, args, below, meth, c, cells, slots, Q, D, cy, ad, A, nL, L⟩ := K
  obtain ⟨hx, hb, hml, hnl, hown, hts, hK, hi, hA1, hA2, hf1, hf2, hc1, hc2, hE, hEX, hxa, hZs⟩ := C
  intro cl sl H locs ls hc9 hs9 hP hZ hS hl
  subst hex
  have hF0 := q_free (ad := ad) hS hA1 hA2
  have hF : ∀ a, q_A (uAd2 ad q sd) H.size a → A a := fun a ha => hF0 a (q_A_dyn.mp ha)
  have hn2 : (As.map (q_gv (uAd2 ad q sd))).length = n := by rw [List.length_map]; exact hn
  have hi9 : ∀ i j, i < 112 → j < 112 → uAd2 ad q sd i = uAd2 ad q sd j → i = j := fun i j h1 h2 h3 => hi i j h1 h2 (by rw [← uAd2_at (ad := ad) (q := q) (sd := sd) (show i ≠ 229 by omega) (by omega), ← uAd2_at (ad := ad) (q := q) (sd := sd) (show j ≠ 229 by omega) (by omega)]; exact h3)
  have hE9 := q_dynE hE hS hF0 hts hK (q_P_r hP) h1 h2 (fun a ha => (hxa.2 a ha).2)
  obtain ⟨y1, y2, y3, y4, y6, y8, y9⟩ := hy
  refine va_calli (mc := u1) (ms := 6 * u1) (va_runS (As := As.map (q_gv (uAd2 ad q sd))) (rest := rest) ⟨hx, hb, hml, hown, hts⟩ (hM D cy (uAd2 ad q sd) H.size (L.1, (List.range nS).map g) rfl) (cwS n hts (q_goodS hlk y6 (by rw [← hco]; exact y8) y9) (congrArg (fun z => z :: q_WS) y1) rfl rfl ⟨hco, y2, y3, y4⟩ ⟨Nat.le_trans hR.1 hf1, ?_⟩) ⟨q_Px_blind _ _ _ _ _ _ _, fun U hU hW => ⟨⟨rfl, by rw [hU], by rw [hU, q_wl_dyn]; exact q_P_l hP, va_K.moved hW.alike hK, hi9, hE9 U hU hW⟩, q_EX.go hEX hW⟩⟩ rfl hn2 hl.1 hst ?_ dg ⟨by omega, by omega⟩) hS (fun q _ h => hF q h) hF (fun r w t H1 locs1 ht hvm hw hB hz1 hk1 hS1 => ?_)
  · have h9 : (q_rmX d u1).locals = 40 * d := rfl
    rw [h9]
    have h8 := hR.1
    have h7 := hR.2
    omega
  · exact lv_room hroom
  · obtain ⟨rfl, rfl⟩ := hw
    rw [q_wl_dyn] at hB
    exact kk (cl + u1) (sl + 6 * u1) H1 locs1 ls (by omega) (by omega) (va_P.app (by rw [← ht]; exact hB) (q_keepX (q_P_r hP) rfl hxa (fun q h1 h2 => hk1 q h1 (fun h => h2 (q_A_dyn.mp h))))) trivial hS1 hl
end QYG
