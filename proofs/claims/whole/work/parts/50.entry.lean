
theorem q_Bsld {l : Launch} {D : va_G} {cy : Nat → ClassId} {K : q_BK} {cc : ByteArray} {own : String} {dd n0 MC MS pc : Nat} {lv : List (Nat × Value)} {st : List Value} {ws : va_W} {n mc ms : Nat} (C : q_Bx D cy K cc own dd n0 MC MS) (k : q_B l D K pc lv st ws n mc ms) : q_B l D K pc lv st ws n mc ms := k
set_option maxHeartbeats 4000000 in
/-- what the machine gives at the entry -/
theorem uEntry {p : Program} {s : State} {m : MethodId} {meth : Method} {c : Code} {b L : Nat} {xs : Nat → Int32} (C0 : lw_At p s m meth c b L xs) : ∃ (D : va_G) (cy : Nat → ClassId) (fm : Nat) (str adV : Nat → Nat), va_K D q_cl (q_tys cy) s ∧ va_AO "GuildSeals$Council" s ∧ q_EX s ∧ q_E (uAd s.heap.size b fm str adV) (fun q : Nat => s.heap.size ≤ q) s s.heap := by
  obtain ⟨hx, hb, hr, hml, hown, hts, hX, hbl, hlocks, hgv⟩ := C0
  have hat : ∀ w ∈ uAts, w.before #[Value.ref b] s = true := flat_of_before _ hgv
  have hA : ∀ a : Nat, a < s.heap.size → ¬ (fun q : Nat => s.heap.size ≤ q) a := fun a h => Nat.not_le.mpr h
  have htw : ∀ w ∈ q_WS, w.before #[Value.ref b] s = true := fun w h => hts w (q_WS_tbl w h)
  obtain ⟨c0, i0, hK0⟩ := u_known (C := RX0) (T := TX0) (N := 2) (n := 2) htw cl_X0 (htw _ wB_nX0)
  obtain ⟨c1, i1, hK1⟩ := u_known (C := RX1) (T := TX1) (N := 14) (n := 14) htw cl_X1 (htw _ wB_nX1)
  obtain ⟨c2, i2, hK2⟩ := u_known (C := RX2) (T := TX2) (N := 3) (n := 3) htw cl_X2 (htw _ wB_nX2)
  obtain ⟨c3, i3, hK3⟩ := u_known (C := RX3) (T := TX3) (N := 2) (n := 2) htw cl_X3 (htw _ wB_nX3)
  obtain ⟨c4, i4, hK4⟩ := u_known (C := RX4) (T := TX4) (N := 10) (n := 10) htw cl_X4 (htw _ wB_nX4)
  obtain ⟨c5, i5, hK5⟩ := u_known (C := RX5) (T := TX5) (N := 3) (n := 3) htw cl_X5 (htw _ wB_nX5)
  obtain ⟨c6, i6, hK6⟩ := u_known (C := RX6) (T := TX6) (N := 9) (n := 9) htw cl_X6 (htw _ wB_nX6)
  obtain ⟨c7, i7, hK7⟩ := u_known (C := RX7) (T := TX7) (N := 19) (n := 19) htw cl_X7 (htw _ wB_nX7)
  obtain ⟨dC, dI, hKc⟩ : ∃ (dC : Nat → ClassId) (dI : Nat → Nat → Nat), ∀ (k : Nat) (q : vw_C), q_cl[k]? = some q → u_Kn s q.1 q.2.1 q.2.2 (dC k) (dI k) := by
    refine ⟨fun k => [c0, c1, c2, c3, c4, c5, c6, c7].getD k c0, fun k => [i0, i1, i2, i3, i4, i5, i6, i7].getD k i0, ?_⟩
    intro k q hq
    match k, hq with
    | 0, hq => cases hq; exact hK0
    | 1, hq => cases hq; exact hK1
    | 2, hq => cases hq; exact hK2
    | 3, hq => cases hq; exact hK3
    | 4, hq => cases hq; exact hK4
    | 5, hq => cases hq; exact hK5
    | 6, hq => cases hq; exact hK6
    | 7, hq => cases hq; exact hK7
    | k + 8, hq => simp [q_cl] at hq
  obtain ⟨a0, a01, a02⟩ := uArr (htw _ wB_int)
  obtain ⟨a1, a11, a12⟩ := uArr (htw _ wB_boolean)
  obtain ⟨a2, a21, a22⟩ := uArr (htw _ wB_char)
  obtain ⟨a3, a31, a32⟩ := uArrO (hts _ uTb_O)
  obtain ⟨a4, a41, a42⟩ := uArr (htw _ wB_long)
  obtain ⟨a5, a51, a52⟩ := uArr (htw _ wB_double)
  obtain ⟨cy, hcy⟩ : ∃ cy : Nat → ClassId, cy = fun k => [a0, a1, a2, a3, a4, a5].getD k a0 := ⟨_, rfl⟩
  have hK : va_K (dC, dI) q_cl (q_tys cy) s := by
    refine ⟨hKc, fun k q hq => ?_⟩
    subst hcy
    match k, hq with
    | 0, hq => cases hq; exact ⟨a01, a02⟩
    | 1, hq => cases hq; exact ⟨a11, a12⟩
    | 2, hq => cases hq; exact ⟨a21, a22⟩
    | 3, hq => cases hq; exact ⟨a31, a32⟩
    | 4, hq => cases hq; exact ⟨a41, a42⟩
    | 5, hq => cases hq; exact ⟨a51, a52⟩
    | k + 6, hq => simp [q_tys] at hq
  obtain ⟨adK, adV, hS3, hS3e⟩ := vk_Sof (args := #[Value.ref b]) (s := s) (N := 3) (tm := uTm) (len := [11, 3, 5]) (byt := q_byt) (A := fun q : Nat => s.heap.size ≤ q) (by decide +kernel) (fun i hi => hat _ (uTm_ex i (by omega))) (fun i hi => hat _ (uTm_co i hi)) (fun i hi => hat _ (uTm_ar i hi)) (fun i hi => hat _ (uTm_le i hi)) (fun i hi j hj => hat _ (uTm_el i hi j hj)) (fun i j hi hj hij => (uTm_ne i hi j hj hij).imp (fun h => hat _ h) (fun h => hat _ h)) hA
  have h0 : ∀ i : Nat, ∃ a : Nat, i < 19 → (uTm i).eval #[Value.ref b] s none [] s = some (.ref a) := by
    intro i
    by_cases hi : i < 19
    · obtain ⟨a, _, _, _, q1, _⟩ := Cond.exactly_spec (args := #[Value.ref b]) (first := s) (o := none) (s := s) (idx := []) (t := uTm i) (cls := "java/lang/String") (hat _ (uTm_ex i hi))
      exact ⟨a, fun _ => q1⟩
    · exact ⟨0, fun h => absurd h hi⟩
  obtain ⟨str, hstr⟩ := Classical.axiomOfChoice h0
  have hstr3 : ∀ i, i < 3 → str i = adK i := fun i hi => by
    have h1 := hstr i (by omega)
    rw [hS3e i hi] at h1
    exact (Value.ref.inj (Option.some.inj h1)).symm
  obtain ⟨fm, hfm⟩ : ∃ fm : Nat, va_Z "jdk/internal/util/Preconditions" "SIOOBE_FORMATTER" "Ljava/util/function/BiFunction;" .null (fun q : Nat => s.heap.size ≤ q) s s.heap ∨ va_Z "jdk/internal/util/Preconditions" "SIOOBE_FORMATTER" "Ljava/util/function/BiFunction;" (.ref fm) (fun q : Nat => s.heap.size ≤ q) s s.heap := by
    obtain ⟨v, hv, hv2⟩ := Cond.isRef_spec (hat _ uTm_F)
    have hz := va_Zof (A := fun q : Nat => s.heap.size ≤ q) (hts _ uTb_F) (hts _ uTb_Fi) hv hA
    cases v with
    | null => exact ⟨0, Or.inl hz⟩
    | ref a => exact ⟨a, Or.inr hz⟩
    | _ => cases hv2
  refine ⟨(dC, dI), cy, fm, str, adV, hK, va_AO.of (hts _ uTb_O), ?_, ?_, ?_, ?_, ?_, ?_, ?_, ?_⟩
  · intro w hw
    have hp := (List.mem_filter.mp hw).2
    have h1 := hts w (List.mem_filter.mp hw).1
    cases w <;> first | exact va_tabs rfl rfl h1 | exact absurd hp Bool.false_ne_true
  · refine ⟨fun i hi => ?_, fun i j hi hj he => hS3.2 i j hi hj ?_⟩
    · have e1 : uAd s.heap.size b fm str adV (200 + i) = adK i := by
        unfold uAd
        rw [if_neg (by omega), if_neg (by omega), if_neg (by omega), if_pos (by omega), show 200 + i - 200 = i by omega, hstr3 i hi]
      have e2 : uAd s.heap.size b fm str adV (230 + i) = adV i := by
        unfold uAd
        rw [if_neg (by omega), if_neg (by omega), if_neg (by omega), if_neg (by omega), show 230 + i - 230 = i by omega]
      dsimp only
      rw [e1, e2]
      exact hS3.1 i hi
    · have e1 : ∀ i, i < 3 → uAd s.heap.size b fm str adV (200 + i) = adK i := fun i hi => by
        unfold uAd
        rw [if_neg (by omega), if_neg (by omega), if_neg (by omega), if_pos (by omega), show 200 + i - 200 = i by omega, hstr3 i hi]
      have he' : uAd s.heap.size b fm str adV (200 + i) = uAd s.heap.size b fm str adV (200 + j) := he
      rw [e1 i hi, e1 j hj] at he'
      exact he'
  · intro i q hq
    have hi : i < 19 := (List.getElem?_eq_some_iff.mp hq).1
    have e1 : uAd s.heap.size b fm str adV (200 + i) = str i := by
      unfold uAd
      rw [if_neg (by omega), if_neg (by omega), if_neg (by omega), if_pos (by omega), show 200 + i - 200 = i by omega]
    rw [e1]
    have h2 := hstr i hi
    have e2 : uTm i = .string q.1 q.2.1 := by
      unfold uTm
      rw [List.getD_eq_getElem?_getD, hq]
      rfl
    rw [e2] at h2
    exact vk_R.of (hts _ (uTm_sr q (List.mem_of_getElem? hq))) h2
  · exact va_Zof (hts _ uTb_C) (hts _ uTb_Si) (va_eqt (hat _ uTm_C)) hA
  · exact hfm
  · exact vx_Zqof (hts _ uTb_U) (hts _ uTb_Ti) (hat _ uTm_U) hA
  · exact vx_Zqof (hts _ uTb_N) (hts _ uTb_Ti) (hat _ uTm_N) hA
  · exact fun q hq => va_Nc.of (hat _ (uTm_nc q hq))
