
set_option maxHeartbeats 8000000 in
set_option maxRecDepth 100000 in
theorem uStart {p : Program} {e : Env} {s : State} {m : MethodId} {below : List Frame} {meth : Method} {c : Code} (l : Launch) (hflags : l.flags = flags0) {b L : Nat} {xs : Nat → Int32} (hL : L ≤ 2048) (C0 : lw_At p s m meth c b L xs) (Inv : Nat → q_St → Prop) (hI : l.stackTraces = false → uSteps l Inv) (h0 : Inv 0 uS0) : W p l e room_1 s m #[Value.ref b] below meth c s.heap [] 0 0 (lw_Z below #[Value.ref b] s) (entryFrame m ([Value.ref b] : List Value).toArray 10) := by
  have hst : l.stackTraces = false := by
    unfold Launch.stackTraces
    rw [hflags]
    decide +kernel
  obtain ⟨D, cy, fm, str, adV, hK, hAO, hEX, hE⟩ := uEntry C0
  obtain ⟨hx, hb, hr, hml, hown, hts, hX, hbl, hlocks, hgv⟩ := id C0
  have htw : ∀ w ∈ q_WS, w.before #[Value.ref b] s = true := fun w h => hts w (q_WS_tbl w h)
  have hl := lv_entry ([.ref b]) (n := 10) (Nat.le_of_ble_eq_true rfl)
  rw [lg_entry_eq]
  generalize (lg_sl ([.ref b]) ++ List.replicate (10 - (lg_sl ([.ref b])).length) Slot.unset).toArray = ls at hl ⊢
  have hl : lv_has ls 10 [(0, .ref b)] := hl
  have C : q_Bx D cy ((p, e, room_1, s, m, #[Value.ref b], below, meth, c, lw_Z below #[Value.ref b] s, (fun q : Nat => s.heap.size ≤ q), 10) : q_BK) cL_law RL 20 10 200 10000 := ⟨hx, hb, hml, rfl, hown, htw, hK, fun q h => h, Nat.le_of_ble_eq_true rfl, Nat.le_of_ble_eq_true rfl, Nat.le_of_ble_eq_true rfl, Nat.le_of_ble_eq_true rfl, hAO⟩
  have main : q_B l D ((p, e, room_1, s, m, #[Value.ref b], below, meth, c, lw_Z below #[Value.ref b] s, (fun q : Nat => s.heap.size ≤ q), 10) : q_BK) 0 [(0, .ref b)] [] [] s.heap.size 0 0 := by
    refine q_Bnew (fs := [.null, .null, .null, .int 0, .null, .null, .null, .null, .null]) C (ci := 6) rfl cl_X6 tyX6_ok (by decide) wB_kL_8 wB_nX6 wB_iX6 (by decide) (by decide) dL_law_0 ?_
    refine q_Bdup C rfl dL_law_3 ?_
    refine q_Bcall (np := 0) (mc := 1) (ms := 9) (n := s.heap.size + 1) (pre := []) (a := s.heap.size) (As := []) (rest := [.ref s.heap.size]) (maxL := 1) C (c_X6_init l) rfl wB_cX6 wB_iX6 mlL_115 wB_mX6 rfl (by decide +kernel) rfl ⟨by decide, by decide⟩ (Nat.le_of_ble_eq_true rfl) (by decide) (by decide) (q_kG_ad cy _) dL_law_4 ?_
    show q_B l D ((p, e, room_1, s, m, #[Value.ref b], below, meth, c, lw_Z below #[Value.ref b] s, (fun q : Nat => s.heap.size ≤ q), 10) : q_BK) 7 [(0, .ref b)] [.ref s.heap.size] (q_kG cy s.heap.size (s.heap.size + 1)) (s.heap.size + 112) 112 1928
    refine q_Bastore_n (lv' := [(1, .ref s.heap.size), (0, .ref b)]) C dL_law_7 rfl (by decide) rfl ?_
    refine q_Bnew (fs := [.null, .null, .null, .int 0, .null, .int 0, .int 0, .int 0, .int 0, .int 0, .null, .int 0, .null, .int 0, .int 0, .int 0, .int 0, .null, .int 0]) C (ci := 7) rfl cl_X7 tyX7_ok (by decide) wB_kL_116 wB_nX7 wB_iX7 (by decide) (by decide) dL_law_8 ?_
    refine q_Bdup C rfl dL_law_11 ?_
    refine q_Bcall (np := 0) (mc := 113) (ms := 1947) (n := s.heap.size + 113) (pre := q_kG cy s.heap.size (s.heap.size + 1)) (a := s.heap.size + 112) (As := []) (rest := [.ref (s.heap.size + 112)]) (maxL := 2) C (c_X7_init l) rfl wB_cX7 wB_iX7 mlL_118 wB_mX7 rfl (by decide +kernel) rfl ⟨by decide, by decide⟩ (Nat.le_of_ble_eq_true rfl) (by decide) (by decide) (q_kM_ad cy _ _) dL_law_12 ?_
    show q_B l D ((p, e, room_1, s, m, #[Value.ref b], below, meth, c, lw_Z below #[Value.ref b] s, (fun q : Nat => s.heap.size ≤ q), 10) : q_BK) 15 [(1, .ref s.heap.size), (0, .ref b)] [.ref (s.heap.size + 112)] (q_kG cy s.heap.size (s.heap.size + 1) ++ q_kM cy (s.heap.size + 112) (s.heap.size + 113)) (s.heap.size + 120) 120 3891
    refine q_Bastore_n (lv' := [(2, .ref (s.heap.size + 112)), (1, .ref s.heap.size), (0, .ref b)]) C dL_law_15 rfl (by decide) rfl ?_
    refine q_Biconst (v := 1) C dL_law_16 (by decide) ?_
    refine q_Bnewa_long (N := 1) C wB_long rfl (by decide) (by decide) (by decide) dL_law_17 ?_
    refine q_Bastore_n (lv' := [(3, .ref (s.heap.size + 120)), (2, .ref (s.heap.size + 112)), (1, .ref s.heap.size), (0, .ref b)]) C dL_law_19 rfl (by decide) rfl ?_
    refine q_Biconst (v := 1) C dL_law_20 (by decide) ?_
    refine q_Bnewa_dbl (N := 1) C wB_double rfl (by decide) (by decide) (by decide) dL_law_21 ?_
    refine q_Bastore (lv' := [(4, .ref (s.heap.size + 121)), (3, .ref (s.heap.size + 120)), (2, .ref (s.heap.size + 112)), (1, .ref s.heap.size), (0, .ref b)]) C dL_law_23 (by decide) rfl ?_
    refine q_Biconst (v := 0) C dL_law_25 (by decide) ?_
    refine q_Bistore (lv' := [(5, .int 0), (4, .ref (s.heap.size + 121)), (3, .ref (s.heap.size + 120)), (2, .ref (s.heap.size + 112)), (1, .ref s.heap.size), (0, .ref b)]) C dL_law_26 (by decide) rfl ?_
    intro H locs ls hP hD hS hn hl
    have hP2 : va_P D q_cl (uW0 cy s.heap.size) H := hP
    have hP3 := q_P_rf hP2 (uW0_29 cy s.heap.size) (g := fun j => some (uAd s.heap.size b fm str adV (30 + 9 * j))) (fun j hj => by
      unfold q_rf uAd
      rw [if_pos hj, if_pos (by omega)]
      congr 1
      omega)
    rw [uW0_eq cy s.heap.size b fm str adV] at hP3
    have hLC : q_LC l (p, e, room_1, s, m, #[Value.ref b], below, meth, c, 122, 3893, lw_Z below #[Value.ref b] s, D, cy, uAd s.heap.size b fm str adV, (fun q : Nat => s.heap.size ≤ q), 10, ((fun _ => 0, fun _ => 0) : q_L)) b L xs := by
      refine ⟨fun L9 a ha => ⟨hx, hb, hml, rfl, hown, htw, hK, ?_, ?_, fun q h => h, Nat.le_of_ble_eq_true rfl, Nat.le_of_ble_eq_true rfl, ?_, ?_, hE⟩, fun L9 a => hEX, fun L9 a => ⟨hX, hbl, Nat.not_le.mpr hbl, ?_⟩⟩
      · intro i j hi hj he
        unfold uAd at he
        rw [if_pos hi, if_pos hj] at he
        omega
      · intro k hk
        show s.heap.size ≤ uAd s.heap.size b fm str adV k
        unfold uAd
        rw [if_pos hk]
        omega
      · show 122 + a ≤ 603072
        omega
      · show 3893 + 6 * a ≤ 7211114
        omega
      · rfl
    have hret : ∀ (L9 : q_L) (a : Nat) (lv : List (Nat × Value)) (S : q_St), a ≤ 3072 → q_V l (q_KL (p, e, room_1, s, m, #[Value.ref b], below, meth, c, 122, 3893, lw_Z below #[Value.ref b] s, D, cy, uAd s.heap.size b fm str adV, (fun q : Nat => s.heap.size ≤ q), 10, ((fun _ => 0, fun _ => 0) : q_L)) L9 a) 2023 lv [.int 1] S := by
      intro L9 a lv S ha H locs ls hP hS hl
      refine va_forget hS.2.2 ?_
      refine W.widen (k := 603072) (n := 7211114) ?_ ?_ ?_
      · show 122 + a ≤ 603072
        omega
      · show 3893 + 6 * a ≤ 7211114
        omega
      · exact lw_ret (Drawn.sameBut.refl s.drawn lw_cs) hx hb hr hlocks dL_law_2023
    exact law_loop l (p, e, room_1, s, m, #[Value.ref b], below, meth, c, 122, 3893, lw_Z below #[Value.ref b] s, D, cy, uAd s.heap.size b fm str adV, (fun q : Nat => s.heap.size ≤ q), 10, ((fun _ => 0, fun _ => 0) : q_L)) b L xs hL hLC Inv (hI hst) hret 513 0 rfl (by omega) (fun _ => 0, fun _ => 0) uS0 h0 H locs ls hP3 hS hl
  exact main s.heap [] ls (fun k q h => by simp at h) ⟨fun i j x y h => by simp at h, fun k q h => by simp at h⟩ va_S.rf rfl hl
