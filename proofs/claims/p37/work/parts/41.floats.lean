
/-! floats -/
theorem uF_n64 (x : Int32) : vf_n64 (FP.ddiv (FP.i2d x) 4618441417868443648) := by
  have hb : FP.Core.DFin 4618441417868443648 := (FP.Core.fin_bits _).mpr (by decide)
  have hz : ¬ FP.Core.DZero 4618441417868443648 := fun h => absurd ((FP.Core.zero_bits2 _).mp h) (by decide)
  have h : FP.Core.dIsNaN (FP.Core.ddiv (FP.Core.i2d x) 4618441417868443648) = false := FP.Core.ddiv_out ((FP.Core.notNaN_iff _).mpr (FP.Core.i2d_fin x).ne_nan) hb hz
  have h2 := (FP.Core.ne_nan _).mp ((FP.Core.notNaN_iff _).mp h)
  show (FP.Core.ddiv (FP.Core.i2d x) 4618441417868443648) &&& 0x7fffffffffffffff ≤ 0x7ff0000000000000
  rw [UInt64.le_iff_toNat_le, FP.Core.mask_toNat]
  exact h2
theorem uF_m32 (a : UInt32) : (a &&& 0x7fffffff).toNat = a.toNat % 2 ^ 31 := by
  rw [UInt32.toNat_and, show (0x7fffffff : UInt32).toNat = 2 ^ 31 - 1 from rfl, Nat.and_two_pow_sub_one_eq_mod]
theorem uF_z32 (a : UInt32) : FP.Core.FZero a → a.toNat % 2 ^ 31 = 0 := (FP.Core.zero_bits232 a).mp
theorem uF_fin (x y : Int32) (h0 : y ≠ 0) : FP.Core.fIsNaN (FP.Core.fdiv (FP.Core.i2f x) (FP.Core.i2f y)) = false := FP.Core.fdiv_out ((FP.Core.notNaN_iff32 _).mpr (FP.Core.i2f_fin x).ne_nan) (FP.Core.i2f_fin y) (fun h => FP.Core.i2f_ne_zero h0 (uF_z32 _ h))
theorem uF_n32 (x y : Int32) (h0 : y ≠ 0) : vf_n32 (FP.fdiv (FP.i2f x) (FP.i2f y)) := by
  have h2 := (FP.Core.ne_nan32 _).mp ((FP.Core.notNaN_iff32 _).mp (uF_fin x y h0))
  show (FP.Core.fdiv (FP.Core.i2f x) (FP.Core.i2f y)) &&& 0x7fffffff ≤ 0x7f800000
  rw [UInt32.le_iff_toNat_le, uF_m32]
  exact h2
theorem uF_d64 (x y : Int32) (h0 : y ≠ 0) : vf_n64 (FP.f2d (FP.fdiv (FP.i2f x) (FP.i2f y))) := by
  have h2 := (FP.Core.ne_nan _).mp ((FP.Core.notNaN_iff _).mp (FP.Core.f2d_out (uF_fin x y h0)))
  rw [show FP.f2d (FP.fdiv (FP.i2f x) (FP.i2f y)) = FP.Core.f2d (FP.Core.fdiv (FP.Core.i2f x) (FP.Core.i2f y)) from FP.f2d_core (uF_fin x y h0)]
  show (FP.Core.f2d (FP.Core.fdiv (FP.Core.i2f x) (FP.Core.i2f y))) &&& 0x7fffffffffffffff ≤ 0x7ff0000000000000
  rw [UInt64.le_iff_toNat_le, FP.Core.mask_toNat]
  exact h2
section QFL
variable {l : Launch} {K : q_K} {cc : ByteArray} {own : String} {dd n0 pc idx : Nat} {lv : List (Nat × Value)} {st : List Value} {S : q_St}
theorem q_i2d (C : q_Cx K cc own dd n0) {x : Int32} (d : decode cc pc = .ok (.i2d, 1)) (k : q_V l K (pc + 1) lv (.double (FP.i2d x) :: st) S) : q_V l K pc lv (.int x :: st) S := by
  obtain ⟨p, e, R, s, m, args, below, meth, c, cells, slots, Q, D, cy, ad, A, nL, L⟩ := K
  obtain ⟨hx, hb, hml, hnl, hown, hts, hK, hi, hA1, hA2, hf1, hf2, hc1, hc2, hE⟩ := C
  intro H locs ls hP hS hl
  exact lv_i2d hx hb d (k H locs ls hP hS hl)
theorem q_i2f (C : q_Cx K cc own dd n0) {x : Int32} (d : decode cc pc = .ok (.i2f, 1)) (k : q_V l K (pc + 1) lv (.float (FP.i2f x) :: st) S) : q_V l K pc lv (.int x :: st) S := by
  obtain ⟨p, e, R, s, m, args, below, meth, c, cells, slots, Q, D, cy, ad, A, nL, L⟩ := K
  obtain ⟨hx, hb, hml, hnl, hown, hts, hK, hi, hA1, hA2, hf1, hf2, hc1, hc2, hE⟩ := C
  intro H locs ls hP hS hl
  exact lv_i2f hx hb d (k H locs ls hP hS hl)
theorem q_ddiv (C : q_Cx K cc own dd n0) {x y : UInt64} (hne : vf_n64 (FP.ddiv x y)) (d : decode cc pc = .ok (.ddiv, 1)) (k : q_V l K (pc + 1) lv (.double (FP.ddiv x y) :: st) S) : q_V l K pc lv (.double y :: .double x :: st) S := by
  obtain ⟨p, e, R, s, m, args, below, meth, c, cells, slots, Q, D, cy, ad, A, nL, L⟩ := K
  obtain ⟨hx, hb, hml, hnl, hown, hts, hK, hi, hA1, hA2, hf1, hf2, hc1, hc2, hE⟩ := C
  intro H locs ls hP hS hl
  exact lv_ddiv hx hb d hne (k H locs ls hP hS hl)
theorem q_fdiv (C : q_Cx K cc own dd n0) {x y : UInt32} (hne : vf_n32 (FP.fdiv x y)) (d : decode cc pc = .ok (.fdiv, 1)) (k : q_V l K (pc + 1) lv (.float (FP.fdiv x y) :: st) S) : q_V l K pc lv (.float y :: .float x :: st) S := by
  obtain ⟨p, e, R, s, m, args, below, meth, c, cells, slots, Q, D, cy, ad, A, nL, L⟩ := K
  obtain ⟨hx, hb, hml, hnl, hown, hts, hK, hi, hA1, hA2, hf1, hf2, hc1, hc2, hE⟩ := C
  intro H locs ls hP hS hl
  exact lv_fdiv hx hb d hne (k H locs ls hP hS hl)
theorem q_f2d (C : q_Cx K cc own dd n0) {x : UInt32} (hne : vf_n64 (FP.f2d x)) (d : decode cc pc = .ok (.f2d, 1)) (k : q_V l K (pc + 1) lv (.double (FP.f2d x) :: st) S) : q_V l K pc lv (.float x :: st) S := by
  obtain ⟨p, e, R, s, m, args, below, meth, c, cells, slots, Q, D, cy, ad, A, nL, L⟩ := K
  obtain ⟨hx, hb, hml, hnl, hown, hts, hK, hi, hA1, hA2, hf1, hf2, hc1, hc2, hE⟩ := C
  intro H locs ls hP hS hl
  exact lv_f2d hx hb d hne (k H locs ls hP hS hl)
theorem q_fconst0 (C : q_Cx K cc own dd n0)  (d : decode cc pc = .ok (.fconst 0, 1)) (k : q_V l K (pc + 1) lv (.float FP.fconst0 :: st) S) : q_V l K pc lv (st) S := by
  obtain ⟨p, e, R, s, m, args, below, meth, c, cells, slots, Q, D, cy, ad, A, nL, L⟩ := K
  obtain ⟨hx, hb, hml, hnl, hown, hts, hK, hi, hA1, hA2, hf1, hf2, hc1, hc2, hE⟩ := C
  intro H locs ls hP hS hl
  exact lv_fconst0 hx hb d (k H locs ls hP hS hl)
theorem q_ldc2d (C : q_Cx K cc own dd n0) {v : UInt64} (hw9 : Cond.constantDouble own idx v ∈ q_WS) (d : decode cc pc = .ok (.ldc2_w idx, 3)) (k : q_V l K (pc + 3) lv (.double v :: st) S) : q_V l K pc lv (st) S := by
  obtain ⟨p, e, R, s, m, args, below, meth, c, cells, slots, Q, D, cy, ad, A, nL, L⟩ := K
  obtain ⟨hx, hb, hml, hnl, hown, hts, hK, hi, hA1, hA2, hf1, hf2, hc1, hc2, hE⟩ := C
  intro H locs ls hP hS hl
  exact lv_ldc2d hx hb hown (hts _ hw9) d (k H locs ls hP hS hl)
end QFL
def q_Fd (l : Launch) (y : MethodName) (cd : Cond) (d : Nat) (avs : List Value) (S : q_St) (v : UInt64) (S2 : q_St) : Prop := ∀ (D : va_G) (cy : Nat → ClassId) (ad : Nat → Nat) (sz : Nat) (L : q_L), Met l y (cd :: q_WS) (q_rm d) (q_Pc avs S D cy ad sz L) (va_Qd (fun (r : UInt64) (u : q_St) => r = v ∧ u = S2) (fun u t => va_P D q_cl (q_wl cy ad L u) t.heap) (q_A ad sz)) 0 0 (q_A ad sz)
set_option maxHeartbeats 1000000 in
theorem q_Fd_of {l : Launch} {y : MethodName} {cd : Cond} {cc : ByteArray} {maxL d : Nat} {avs : List Value} {S S2 : q_St} {v : UInt64} (hcd : cd = .code y cc maxL (some .double)) (hy : plainName y.cls = true) (hlen : ∀ ad : Nat → Nat, (lg_sl (avs.map (q_gv ad))).length ≤ maxL) (body : ∀ K : q_K, q_Cx K cc y.cls d maxL → (∀ (pc : Nat) (lv : List (Nat × Value)) (r : UInt64) (S' : q_St), decode cc pc = .ok (.dreturn, 1) → r = v → S' = S2 → q_V l K pc lv [.double r] S') → q_V l K 0 (lv_args 0 avs) [] S) : q_Fd l y cd d avs S v S2 := by
  intro D cy ad sz L
  subst hcd
  refine Met.ofW (cc := cc) (maxL := maxL) (ret := (some .double)) hy rfl ?_
  intro p e s m args below meth c s₁ B hml hv
  obtain ⟨rfl, hsz, hP, hK, hi, hE⟩ := hv
  subst hsz
  have hts0 := atoms_spec (ws := Cond.code y cc maxL (some .double) :: q_WS) B.pre
  have hts : ∀ w ∈ q_WS, w.before (avs.map (q_gv ad)).toArray s = true := fun w h => hts0 w (List.mem_cons_of_mem _ h)
  have hown : s.vm.findClass y.cls = some m.cls := findClass_of_methodNamed B.named
  have hlocks := B.notSynchronized
  have hl := lv_entry (avs.map (q_gv ad)) (n := maxL) (hlen ad)
  rw [lg_entry_eq]
  generalize (lg_sl (avs.map (q_gv ad)) ++ List.replicate (maxL - (lg_sl (avs.map (q_gv ad))).length) Slot.unset).toArray = ls at hl ⊢
  rw [q_args] at hl
  refine body (p, e, (headSpec (Cond.code y cc maxL (some .double) :: q_WS) (q_rm d)).room, s, m, (avs.map (q_gv ad)).toArray, below, meth, c, 0, 0, _, D, cy, ad, q_A ad s.heap.size, maxL, L) ⟨B.exec, B.bytes, hml, rfl, hown, hts, hK, hi, fun k hk => Or.inl ⟨k, hk, rfl⟩, fun q h => Or.inr h, Nat.le_refl _, Nat.le_refl _, Nat.zero_le _, Nat.zero_le _, hE⟩ ?_ s.heap [] ls hP va_S.rf hl
  intro pc lv r S' hd hr hS' H locs ls hP hS hl
  subst hr
  exact W.dret B.exec B.bytes B.returns (fun t ht hW => ⟨⟨r, S', rfl, ⟨rfl, hS'⟩, by show va_P D q_cl (q_wl cy ad L S') t.heap; rw [ht]; exact hP⟩, hS.F ht⟩) hS.2.2 hd hlocks
def q_Ff (l : Launch) (y : MethodName) (cd : Cond) (d : Nat) (avs : List Value) (S : q_St) (v : UInt32) (S2 : q_St) : Prop := ∀ (D : va_G) (cy : Nat → ClassId) (ad : Nat → Nat) (sz : Nat) (L : q_L), Met l y (cd :: q_WS) (q_rm d) (q_Pc avs S D cy ad sz L) (va_Qf (fun (r : UInt32) (u : q_St) => r = v ∧ u = S2) (fun u t => va_P D q_cl (q_wl cy ad L u) t.heap) (q_A ad sz)) 0 0 (q_A ad sz)
set_option maxHeartbeats 1000000 in
theorem q_Ff_of {l : Launch} {y : MethodName} {cd : Cond} {cc : ByteArray} {maxL d : Nat} {avs : List Value} {S S2 : q_St} {v : UInt32} (hcd : cd = .code y cc maxL (some .float)) (hy : plainName y.cls = true) (hlen : ∀ ad : Nat → Nat, (lg_sl (avs.map (q_gv ad))).length ≤ maxL) (body : ∀ K : q_K, q_Cx K cc y.cls d maxL → (∀ (pc : Nat) (lv : List (Nat × Value)) (r : UInt32) (S' : q_St), decode cc pc = .ok (.freturn, 1) → r = v → S' = S2 → q_V l K pc lv [.float r] S') → q_V l K 0 (lv_args 0 avs) [] S) : q_Ff l y cd d avs S v S2 := by
  intro D cy ad sz L
  subst hcd
  refine Met.ofW (cc := cc) (maxL := maxL) (ret := (some .float)) hy rfl ?_
  intro p e s m args below meth c s₁ B hml hv
  obtain ⟨rfl, hsz, hP, hK, hi, hE⟩ := hv
  subst hsz
  have hts0 := atoms_spec (ws := Cond.code y cc maxL (some .float) :: q_WS) B.pre
  have hts : ∀ w ∈ q_WS, w.before (avs.map (q_gv ad)).toArray s = true := fun w h => hts0 w (List.mem_cons_of_mem _ h)
  have hown : s.vm.findClass y.cls = some m.cls := findClass_of_methodNamed B.named
  have hlocks := B.notSynchronized
  have hl := lv_entry (avs.map (q_gv ad)) (n := maxL) (hlen ad)
  rw [lg_entry_eq]
  generalize (lg_sl (avs.map (q_gv ad)) ++ List.replicate (maxL - (lg_sl (avs.map (q_gv ad))).length) Slot.unset).toArray = ls at hl ⊢
  rw [q_args] at hl
  refine body (p, e, (headSpec (Cond.code y cc maxL (some .float) :: q_WS) (q_rm d)).room, s, m, (avs.map (q_gv ad)).toArray, below, meth, c, 0, 0, _, D, cy, ad, q_A ad s.heap.size, maxL, L) ⟨B.exec, B.bytes, hml, rfl, hown, hts, hK, hi, fun k hk => Or.inl ⟨k, hk, rfl⟩, fun q h => Or.inr h, Nat.le_refl _, Nat.le_refl _, Nat.zero_le _, Nat.zero_le _, hE⟩ ?_ s.heap [] ls hP va_S.rf hl
  intro pc lv r S' hd hr hS' H locs ls hP hS hl
  subst hr
  exact W.fret B.exec B.bytes B.returns (fun t ht hW => ⟨⟨r, S', rfl, ⟨rfl, hS'⟩, by show va_P D q_cl (q_wl cy ad L S') t.heap; rw [ht]; exact hP⟩, hS.F ht⟩) hS.2.2 hd hlocks
def q_Fxf (l : Launch) (y : MethodName) (cd : Cond) (d n : Nat) (avs : List Value) (S : q_St) (r : (UInt32 ⊕ String) × q_St) : Prop := ∀ (D : va_G) (cy : Nat → ClassId) (ad : Nat → Nat) (sz : Nat) (L : q_L), vx_Met l y (cd :: q_WS) (q_rmX d n) (q_Px avs S D cy ad sz L) (va_Qf (fun (v : UInt32) (u : q_St) => r = (.inl v, u)) (fun u t => va_P D q_cl (q_wl cy ad L u) t.heap) (q_A ad sz)) (vx_X (fun (u : q_St) => u = r.2) (fun E u t => r.1 = .inr E ∧ va_P D q_cl (q_wl cy ad L u) t.heap) (q_A ad sz)) n (6 * n) (q_A ad sz)
set_option maxHeartbeats 1000000 in
theorem q_Fxf_of {l : Launch} (hst : l.stackTraces = false) {y : MethodName} {cd : Cond} {cc : ByteArray} {maxL d n : Nat} {avs : List Value} {S : q_St} {r : (UInt32 ⊕ String) × q_St} (hcd : cd = .code y cc maxL (some .float)) (hy : plainName y.cls = true) (hlen : ∀ ad : Nat → Nat, (lg_sl (avs.map (q_gv ad))).length ≤ maxL) (hd6 : 6 ≤ d)
    (body : ∀ K : q_K, q_KX K → (∀ a, a ≤ n → q_Cx (q_Kw K a) cc y.cls d maxL) → (∀ a, a ≤ n → ∀ (pc : Nat) (lv : List (Nat × Value)) (v : UInt32) (S' : q_St), decode cc pc = .ok (.freturn, 1) → r = (.inl v, S') → q_V l (q_Kw K a) pc lv [.float v] S') → (∀ a, a ≤ n → ∀ (E : String) (S' : q_St), r = (.inr E, S') → q_XT (q_Kw K a) l E S') → (∀ a, a + 1 ≤ n → ∀ (E : String) (S' : q_St), r = (.inr E, S') → q_XN (q_Kw K a) l cc y.cls E S') → q_V l (q_Kw K 0) 0 (lv_args 0 avs) [] S) : q_Fxf l y cd d n avs S r := by
  intro D cy ad sz L
  subst hcd
  refine vx_ofW (cc := cc) (maxL := maxL) (ret := (some .float)) hy rfl ?_
  intro p e s m args below meth c s₁ B hml hnox hv
  obtain ⟨⟨rfl, hsz, hP, hK, hi, hE⟩, hEX⟩ := hv
  subst hsz
  have hts0 := atoms_spec (ws := Cond.code y cc maxL (some .float) :: q_WS) B.pre
  have hts : ∀ w ∈ q_WS, w.before (avs.map (q_gv ad)).toArray s = true := fun w h => hts0 w (List.mem_cons_of_mem _ h)
  have hown : s.vm.findClass y.cls = some m.cls := findClass_of_methodNamed B.named
  have hlocks := B.notSynchronized
  have hl := lv_entry (avs.map (q_gv ad)) (n := maxL) (hlen ad)
  rw [lg_entry_eq]
  generalize (lg_sl (avs.map (q_gv ad)) ++ List.replicate (maxL - (lg_sl (avs.map (q_gv ad))).length) Slot.unset).toArray = ls at hl ⊢
  rw [q_args] at hl
  have hC : ∀ a, a ≤ n → q_Cx (q_Kw (p, e, (headSpec (Cond.code y cc maxL (some .float) :: q_WS) (q_rmX d n)).room, s, m, (avs.map (q_gv ad)).toArray, below, meth, c, 0, 0, vx_MQ below (va_Qf (fun (v : UInt32) (u : q_St) => r = (.inl v, u)) (fun u t => va_P D q_cl (q_wl cy ad L u) t.heap) (q_A ad s.heap.size)) (vx_X (fun (u : q_St) => u = r.2) (fun E u t => r.1 = .inr E ∧ va_P D q_cl (q_wl cy ad L u) t.heap) (q_A ad s.heap.size)) (avs.map (q_gv ad)).toArray s n (6 * n) (q_A ad s.heap.size), D, cy, ad, q_A ad s.heap.size, maxL, L) a) cc y.cls d maxL := fun a ha => ⟨B.exec, B.bytes, hml, rfl, hown, hts, hK, hi, fun k hk => Or.inl ⟨k, hk, rfl⟩, fun q h => Or.inr h, Nat.le_refl _, Nat.le_refl _, by show 0 + a ≤ n; omega, by show 0 + 6 * a ≤ 6 * n; omega, hE⟩
  refine body (p, e, (headSpec (Cond.code y cc maxL (some .float) :: q_WS) (q_rmX d n)).room, s, m, (avs.map (q_gv ad)).toArray, below, meth, c, 0, 0, vx_MQ below (va_Qf (fun (v : UInt32) (u : q_St) => r = (.inl v, u)) (fun u t => va_P D q_cl (q_wl cy ad L u) t.heap) (q_A ad s.heap.size)) (vx_X (fun (u : q_St) => u = r.2) (fun E u t => r.1 = .inr E ∧ va_P D q_cl (q_wl cy ad L u) t.heap) (q_A ad s.heap.size)) (avs.map (q_gv ad)).toArray s n (6 * n) (q_A ad s.heap.size), D, cy, ad, q_A ad s.heap.size, maxL, L) hEX hC ?_ ?_ ?_ s.heap [] ls hP va_S.rf hl
  · intro a ha pc lv v S' hd hr H locs ls hP hS hl
    exact vx_ret (W.widen (by omega) (by omega) (W.fret B.exec B.bytes B.returns (fun t ht hW => ⟨⟨v, S', rfl, hr, by show va_P D q_cl (q_wl cy ad L S') t.heap; rw [ht]; exact hP⟩, hS.F ht⟩) hS.2.2 hd hlocks))
  · intro a ha E S' hr H locs ce q pc ls rest hP hS hq hv9 hcl
    refine vx_out (fun x h => absurd (hnox x h) id) hlocks hq hv9 hcl (fun t ht _ => ⟨S', by rw [hr], ⟨by rw [hr], by rw [ht]; exact hP⟩, hS.F ht⟩) hS.2.2 ?_ ?_
    · show 0 + a ≤ n
      omega
    · show 0 + 6 * a ≤ 6 * n
      omega
  · intro a ha E S' hr
    exact q_XN_of hst (hC a (by omega)) hd6 hnox hlocks (fun q h => h) (by omega) (by omega) (Nat.le_refl _) (Nat.le_refl _) (by rw [hr]) (by rw [hr]) hEX
def uG_share (S : q_St) (M : Nat) : (UInt32 ⊕ String) × q_St := if S 1 1 = 0 then (.inr xEAr, S) else (.inl (FP.fdiv (FP.i2f (uC_matters S M 1)) (FP.i2f (S 1 1))), S)
theorem cdX6 : Cond.constantDouble RX6 295 4618441417868443648 ∈ q_WS := q_in 921 (by decide +kernel) rfl
theorem c_X6_meanDoubt (l : Launch) (S : q_St) : q_Fd l yX6_meanDoubt kX6_meanDoubt 2 [.ref 0] S (FP.ddiv (FP.i2d (uC_allDoubt S)) 4618441417868443648) (S) := by
  refine q_Fd_of (maxL := 1) rfl (by decide +kernel) (fun ad => Nat.le_of_ble_eq_true rfl) ?_
  intro K C hret
  have C : q_Cx K cX6_meanDoubt RX6 2 1 := C
  show q_V l K 0 [(0, .ref 0)] [] S
  refine q_aload_n C dX6_meanDoubt_0 rfl rfl ?_
  refine q_getR C flX6_10 q_s0 rfl dX6_meanDoubt_1 ?_
  refine q_ci0 C (c_X1_allDoubt l S) myX1_allDoubt mlX6_292 q_s1 ⟨by decide, by decide⟩ (Nat.le_of_ble_eq_true rfl) dX6_meanDoubt_4 ?_
  refine q_i2d C dX6_meanDoubt_7 ?_
  refine q_ldc2d C cdX6 dX6_meanDoubt_8 ?_
  refine q_ddiv C (uF_n64 _) dX6_meanDoubt_11 ?_
  exact hret _ _ _ _ dX6_meanDoubt_12 rfl rfl
theorem c_X6_sealedShare (l : Launch) (hst : l.stackTraces = false) (S : q_St) (M : Nat) (hM : S 1 0 = nI M) (hM8 : M ≤ 8) : q_Fxf l yX6_sealedShare kX6_sealedShare 7 6 [.ref 0] S (uG_share S M) := by
  refine q_Fxf_of hst (maxL := 1) rfl (by decide +kernel) (fun ad => Nat.le_of_ble_eq_true rfl) (by decide) ?_
  intro K hX hC hret hTh hNw
  have C : q_Cx (q_Kw K 0) cX6_sealedShare RX6 7 1 := hC 0 (by decide)
  show q_V l (q_Kw K 0) 0 [(0, .ref 0)] [] S
  refine q_aload_n C dX6_sealedShare_0 rfl rfl ?_
  refine q_getR C flX6_10 q_s0 rfl dX6_sealedShare_1 ?_
  refine q_getI (x := S 1 1) C flX6_152 q_s1 rfl dX6_sealedShare_4 rfl ?_
  refine q_if_ne (tgt := 21) C dX6_sealedShare_7 (by decide)  (fun c_7 => ?_) (fun c_7 => ?_)
  · refine q_aload_n C dX6_sealedShare_21 rfl rfl ?_
    refine q_getR C flX6_10 q_s0 rfl dX6_sealedShare_22 ?_
    refine q_iconst (v := 1) C dX6_sealedShare_25 (by decide) ?_
    refine q_ci1 C (c_X1_countMatters l S M hM hM8 1) myX1_countMatters mlX6_302 q_s1 ⟨by decide, by decide⟩ (Nat.le_of_ble_eq_true rfl) dX6_sealedShare_26 ?_
    refine q_i2f C dX6_sealedShare_29 ?_
    refine q_aload_n C dX6_sealedShare_30 rfl rfl ?_
    refine q_getR C flX6_10 q_s0 rfl dX6_sealedShare_31 ?_
    refine q_getI (x := S 1 1) C flX6_152 q_s1 rfl dX6_sealedShare_34 rfl ?_
    refine q_i2f C dX6_sealedShare_37 ?_
    refine q_fdiv C (uF_n32 _ _ c_7) dX6_sealedShare_38 ?_
    exact hret 0 (by decide) _ _ _ _ dX6_sealedShare_39 (by simp [uG_share, c_7])
  · exact hNw 0 (by decide) xEAr _ (by simp [uG_share, c_7]) _ 297 299 301 7 22 xr_7 "none was decided" _ _ xr_7_d rfl xk_Ar xi_Ar xa_Ar xf_Ar (Nat.le_of_ble_eq_true rfl) ⟨⟨dX6_sealedShare_10, dX6_sealedShare_13⟩, Or.inr ⟨dX6_sealedShare_14, dX6_sealedShare_17, dX6_sealedShare_20⟩⟩
