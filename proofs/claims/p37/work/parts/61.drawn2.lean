
/-! what a method that draws a council gives -/
theorem q_P_rf {D : va_G} {ws : va_W} {H : Heap} {k a n : Nat} {cA : ClassId} {f g : Nat → Option Nat} (hP : va_P D q_cl ws H) (hk : ws[k]? = some (a, .inl (cA, n, .inr (.inr (.inr (.inr f)))))) (hfg : ∀ j, j < n → f j = g j) : va_P D q_cl (ws.set k (a, .inl (cA, n, .inr (.inr (.inr (.inr g)))))) H := by
  intro i q hq
  by_cases hik : i = k
  · subst hik
    rw [List.getElem?_set_self (List.getElem?_eq_some_iff.mp hk).1] at hq
    cases hq
    have h1 := hP i _ hk
    show H[a]? = some (vp_cell cA (n, .inr (.inr (.inr (.inr g)))))
    rw [show H[a]? = some (vp_cell cA (n, .inr (.inr (.inr (.inr f))))) from h1, vp_cell_q, vp_cell_q]
    congr 1
    unfold arrV
    congr 1
    apply Array.ext (by simp)
    intro j h1 h2
    simp only [Array.getElem_ofFn]
    rw [hfg j (by simpa using h1)]
  · rw [List.getElem?_set_ne (Ne.symm hik)] at hq
    exact hP i q hq
def uAd (B : Nat) (ad : Nat → Nat) : Nat → Nat := fun k => if k < 112 then B + k else ad k
set_option maxRecDepth 100000 in
set_option maxHeartbeats 4000000 in
theorem kG_eq (cy : Nat → ClassId) (B : Nat) (ad : Nat → Nat) (L : q_L) : (q_kG cy B (B + 1)).set 29 (B + 29, .inl (cy 3, 8, .inr (.inr (.inr (.inr (fun j => some (uAd B ad (30 + 9 * j)))))))) = q_wl cy (uAd B ad) L uS0 := rfl
theorem kG_29 (cy : Nat → ClassId) (B : Nat) : (q_kG cy B (B + 1))[29]? = some (B + 29, .inl (cy 3, 8, .inr (.inr (.inr (.inr (q_rf 8 (B + 30))))))) := rfl
theorem uAd_of {B : Nat} {ad : Nat → Nat} (h : ∀ k, k < 112 → ad k = B + k) : uAd B ad = ad := by
  funext k
  unfold uAd
  by_cases c : k < 112
  · rw [if_pos c, h k c]
  · rw [if_neg c]
def q_Fd2 (l : Launch) (y : MethodName) (cd : Cond) (d u n : Nat) (xs : Nat → Int32) (G : q_St → Prop) : Prop := ∀ (D : va_G) (cy : Nat → ClassId) (ad : Nat → Nat) (sz : Nat) (L : q_L), (∀ k, k < 112 → ad k = sz + k) → Met l y (cd :: q_WS) (q_rmX d u) (va_Pc [.ref (ad 300)] (fun U => U.heap.size = sz ∧ va_K D q_cl (q_tys cy) U ∧ va_AO "GuildSeals$Council" U ∧ q_E ad L (fun q => sz ≤ q) U U.heap ∧ q_EX U ∧ va_X (ad 300) n xs U U.heap ∧ ad 300 < sz)) (va_Qr (fun (S : q_St) => G S) (fun S a t => a = sz ∧ va_P D q_cl (q_wl cy ad L S) t.heap) (fun q => sz ≤ q)) u (6 * u) (fun q => sz ≤ q)
set_option maxHeartbeats 8000000 in
set_option maxRecDepth 100000 in
theorem q_Fd2_of {l : Launch} {n : Nat} {xs : Nat → Int32} {G : q_St → Prop} (body : ∀ K : q_K, q_Cy K cL_drawn RL 12 11 2100 [] q_Tr → q_KS K n xs → (∀ (u pc : Nat) (lv : List (Nat × Value)) (S' : q_St), u ≤ 2100 → decode cL_drawn pc = .ok (.areturn, 1) → G S' → q_Y l K u [] q_Tr pc lv [.ref (q_ad K 0)] S') → q_Y l K 322 [] q_Tr 8 [(1, .ref (q_ad K 0)), (0, .ref (q_ad K 300))] [] uS0) : q_Fd2 l yL_drawn kL_drawn 12 2100 n xs G := by
  intro D cy ad sz L had
  refine Met.ofW (cc := cL_drawn) (maxL := 11) (ret := (some (.object "GuildSeals"))) (by decide +kernel) rfl ?_
  intro p e s m args below meth c s₁ B hml hv
  obtain ⟨rfl, hsz, hK, hAO, hE, hEX, hX, hb⟩ := hv
  subst hsz
  have hts0 := atoms_spec (ws := Cond.code yL_drawn cL_drawn 11 (some (.object "GuildSeals")) :: q_WS) B.pre
  have hts : ∀ w ∈ q_WS, w.before #[Value.ref (ad 300)] s = true := fun w h => hts0 w (List.mem_cons_of_mem _ h)
  have hown : s.vm.findClass RL = some m.cls := findClass_of_methodNamed B.named
  have hlocks := B.notSynchronized
  have hl := lv_entry ([.ref (ad 300)]) (n := 11) (Nat.le_of_ble_eq_true rfl)
  rw [lg_entry_eq]
  generalize (lg_sl ([.ref (ad 300)]) ++ List.replicate (11 - (lg_sl ([.ref (ad 300)])).length) Slot.unset).toArray = ls at hl ⊢
  have hl : lv_has ls 11 [(0, .ref (ad 300))] := hl
  generalize hQ : MQ below (va_Qr (fun (S : q_St) => G S) (fun S a t => a = s.heap.size ∧ va_P D q_cl (q_wl cy ad L S) t.heap) (fun q => s.heap.size ≤ q)) #[Value.ref (ad 300)] s 2100 (6 * 2100) (fun q => s.heap.size ≤ q) = Q
  have C : q_Bx D cy ((p, e, (headSpec (Cond.code yL_drawn cL_drawn 11 (some (.object "GuildSeals")) :: q_WS) (q_rmX 12 2100)).room, s, m, #[Value.ref (ad 300)], below, meth, c, Q, (fun q : Nat => s.heap.size ≤ q), 11) : q_BK) cL_drawn RL 12 11 2100 12600 := ⟨B.exec, B.bytes, hml, rfl, hown, hts, hK, fun q h => h, Nat.le_refl _, Nat.le_refl _, Nat.le_refl _, Nat.le_refl _, hAO⟩
  have main : q_B l D ((p, e, (headSpec (Cond.code yL_drawn cL_drawn 11 (some (.object "GuildSeals")) :: q_WS) (q_rmX 12 2100)).room, s, m, #[Value.ref (ad 300)], below, meth, c, Q, (fun q : Nat => s.heap.size ≤ q), 11) : q_BK) 0 [(0, .ref (ad 300))] [] [] s.heap.size 0 0 := by
    refine q_Bnew (fs := [.null, .null, .null, .int 0, .null, .null, .null, .null, .null]) C (ci := 6) rfl cl_X6 tyX6_ok (by decide) wB_kL_9 wB_nX6 wB_iX6 (by decide) (by decide) dL_drawn_0 ?_
    refine q_Bdup C rfl dL_drawn_3 ?_
    refine q_Bcall (np := 0) (mc := 1) (ms := 9) (n := s.heap.size + 1) (pre := []) (a := s.heap.size) (As := []) (rest := [.ref s.heap.size]) (maxL := 1) C (c_X6_init l) rfl wB_cX6 wB_iX6 mlL_121 wB_mX6 rfl (by decide +kernel) rfl ⟨by decide, by decide⟩ (Nat.le_of_ble_eq_true rfl) (by decide) (by decide) (q_kG_ad cy _) dL_drawn_4 ?_
    refine q_Bastore_n (lv' := [(1, .ref s.heap.size), (0, .ref (ad 300))]) C dL_drawn_7 rfl (by decide) rfl ?_
    intro H locs ls hP hD hS hn hl
    have hP2 : va_P D q_cl (q_kG cy s.heap.size (s.heap.size + 1)) H := hP
    have hP3 := q_P_rf hP2 (kG_29 cy s.heap.size) (g := fun j => some (uAd s.heap.size ad (30 + 9 * j))) (fun j hj => by
      unfold q_rf uAd
      rw [if_pos hj, if_pos (by omega)]
      congr 1
      omega)
    rw [kG_eq cy s.heap.size ad L, uAd_of had] at hP3
    refine body (p, e, (headSpec (Cond.code yL_drawn cL_drawn 11 (some (.object "GuildSeals")) :: q_WS) (q_rmX 12 2100)).room, s, m, #[Value.ref (ad 300)], below, meth, c, 0, 0, Q, D, cy, ad, (fun q : Nat => s.heap.size ≤ q), 11, L) ⟨B.exec, B.bytes, hml, rfl, hown, hts, hK, ?_, ?_, fun q h => h, Nat.le_refl _, Nat.le_refl _, Nat.le_refl _, Nat.le_refl _, hE, hEX, ⟨List.nodup_nil, fun a ha => nomatch ha⟩, q_Zs_Tr _ _⟩ ⟨hX, hb, Nat.not_le.mpr hb⟩ ?_ 112 1928 H locs ls (by decide) (by decide) (by rw [List.append_nil]; exact hP3) trivial hS ?_
    · intro i j hi hj he
      rw [had i hi, had j hj] at he
      omega
    · intro k hk
      show s.heap.size ≤ ad k
      rw [had k hk]
      omega
    · intro u pc lv S' hu hd hG cl sl H locs ls hc9 hs9 hP hZ hS hl
      show W _ _ _ _ _ _ _ _ _ _ _ _ _ _ Q _
      rw [← hQ]
      refine W.widen (Nat.le_trans hc9 hu) (Nat.le_trans hs9 (Nat.mul_le_mul_left 6 hu)) (W.aret (v := .ref (ad 0)) B.exec B.bytes B.returns (Or.inl ⟨_, rfl⟩) (Or.inr ⟨_, rfl⟩) (fun t ht hW => ⟨⟨S', ad 0, rfl, hG, had 0 (by decide), by show va_P D q_cl (q_wl cy ad L S') t.heap; rw [ht]; exact q_P_l hP⟩, hS.F ht⟩) hS.2.2 hd hlocks)
    · show lv_has ls 11 [(1, .ref (ad 0)), (0, .ref (ad 300))]
      rw [had 0 (by decide)]
      exact hl
  exact main s.heap [] ls (fun k q h => by simp at h) ⟨fun i j x y h => by simp at h, fun k q h => by simp at h⟩ va_S.rf rfl hl
/-- shifts of what is drawn -/
theorem iu_n (x : UInt32) (k : UInt32) (h : x.toNat < 2 ^ 31 ∨ k.toNat % 32 = 1) : ∃ b, b < 2 ^ 31 ∧ (x >>> k).toInt32 = nI b := by
  refine ⟨(x >>> k).toNat, ?_, ?_⟩
  · rw [UInt32.toNat_shiftRight, Nat.shiftRight_eq_div_pow]
    rcases h with h | h
    · exact Nat.lt_of_le_of_lt (Nat.div_le_self _ _) h
    · rw [h]
      have := x.toNat_lt
      omega
  · unfold nI
    rw [← UInt32.toInt32_ofNat', UInt32.ofNat_toNat]
theorem ius1 (x : Int32) : ∃ b, b < 2 ^ 31 ∧ (x.toUInt32 >>> ((1 : Int32).toUInt32 &&& Int32.toUInt32 31)).toInt32 = nI b := iu_n _ _ (Or.inr (by decide))
theorem iusN (a : Nat) (h : a < 2 ^ 31) (y : Int32) : ∃ b, b < 2 ^ 31 ∧ ((nI a).toUInt32 >>> (y.toUInt32 &&& Int32.toUInt32 31)).toInt32 = nI b := iu_n _ _ (Or.inl (by
  have e : (nI a).toUInt32 = UInt32.ofNat a := rfl
  rw [e, UInt32.toNat_ofNat']
  exact Nat.lt_of_le_of_lt (Nat.mod_le _ _) h))
