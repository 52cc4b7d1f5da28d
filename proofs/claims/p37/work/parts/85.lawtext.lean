
/-! rows for a text in the law -/
section VSTW
variable {p : Program} {l : Launch} {e : Env} {R : Room} {s : State} {m : MethodId} {args : Array Value} {below : List Frame} {meth : Method} {c : Code} {H : Heap} {locs : List Loc} {cells slots : Nat} {Q : State → Prop}
variable {cc : ByteArray} {pc : Nat} {ls : Array Slot} {rest : List Value}
theorem va_ldcTW (hexec : p.tables.exec = Jvm.exec) (hb : c.code = cc) {own tx : String} {index q : Nat} (hown : s.vm.findClass own = some m.cls) (hZ : vk_R own index tx q s) (hdg : decode cc pc = .ok (.ldc_w index, 3))
    (k : W p l e R s m args below meth c H locs cells slots Q (F0 m (pc + 3) ls (.ref q :: rest))) : W p l e R s m args below meth c H locs cells slots Q (F0 m pc ls rest) := by
  intro T hT X
  obtain ⟨t, a1, b1⟩ := k T hT X
  exact ⟨t, X.ldcStringW hexec hown (text := tx) (a := q) hZ.1 hZ.2 (g := F0 m pc ls rest) rfl (by rw [hb]; exact hdg) t a1, b1⟩
end VSTW
section QYU
variable {l : Launch} {K : q_K} {cc : ByteArray} {own : String} {dd n0 U u pc idx : Nat} {xa : List Nat} {ex fr : va_W} {lv : List (Nat × Value)} {st : List Value} {S : q_St}
theorem y_ldcT (C : q_Cy K cc own dd n0 U xa q_Tr) {i : Nat} {tx : String} (hq : q_strs[i]? = some (own, idx, tx)) (d : decode cc pc = .ok (.ldc idx, 2)) (k : q_Y l K u ex q_Tr (pc + 2) lv (.ref (q_ad K (200 + i)) :: st) S) : q_Y l K u ex q_Tr pc lv st S := by
  obtain ⟨p, e, R, s, m, args, below, meth, c, cells, slots, Q, D, cy, ad, A, nL, L⟩ := K
  obtain ⟨hx, hb, hml, hnl, hown, hts, hK, hi, hA1, hA2, hf1, hf2, hc1, hc2, hE, hEX, hxa, hZs⟩ := C
  intro cl sl H locs ls hc9 hs9 hP hZ hS hl
  exact va_ldcS hx hb hown (hE.2.1 i _ hq) d (k cl sl H locs ls hc9 hs9 hP hZ hS hl)
theorem y_ldcTW (C : q_Cy K cc own dd n0 U xa q_Tr) {i : Nat} {tx : String} (hq : q_strs[i]? = some (own, idx, tx)) (d : decode cc pc = .ok (.ldc_w idx, 3)) (k : q_Y l K u ex q_Tr (pc + 3) lv (.ref (q_ad K (200 + i)) :: st) S) : q_Y l K u ex q_Tr pc lv st S := by
  obtain ⟨p, e, R, s, m, args, below, meth, c, cells, slots, Q, D, cy, ad, A, nL, L⟩ := K
  obtain ⟨hx, hb, hml, hnl, hown, hts, hK, hi, hA1, hA2, hf1, hf2, hc1, hc2, hE, hEX, hxa, hZs⟩ := C
  intro cl sl H locs ls hc9 hs9 hP hZ hS hl
  exact va_ldcTW hx hb hown (hE.2.1 i _ hq) d (k cl sl H locs ls hc9 hs9 hP hZ hS hl)
theorem y_sbnew (C : q_Cy K cc own dd n0 U xa q_Tr) (hA : q_KA K) {i1 i2 : Nat} (hcl : Cond.classLink own i1 RSB ∈ q_WS) (hlk : Cond.methodLink own i2 yJ4_init_da8c8 ∈ q_WS) (hdd : 8 ≤ dd) (hU : u + 102 ≤ U) (hroom : (st.map Value.category).sum ≤ 7) (d0 : decode cc pc = .ok (.new i1, 3)) (d1 : decode cc (pc + 3) = .ok (.dup, 1)) (d2 : decode cc (pc + 4) = .ok (.invokespecial i2, 3)) (hex : ex.map (fun q => q.1) = xa) (kk : ∀ b da, q_Cy K cc own dd n0 U ((uB (q_cy K) b da 16 (fun _ => 0) 0 ++ ex).map (fun q => q.1)) q_Tr → q_Y l K (u + 102) (uB (q_cy K) b da 16 (fun _ => 0) 0 ++ ex) q_Tr (pc + 7) lv (.ref b :: st) S) : q_Y l K u ex q_Tr pc lv st S := by
  refine y_tnew C hA hex hcl (by omega) d0 (fun b C => ?_)
  refine y_dup C rfl d1 ?_
  refine y_ti (As := []) (rest := .ref b :: st) (w := fun cy => [(b, .inr (7, [.null, .int 0, .int 0, .int 0]))]) (fr := ex) C hA (m_init l b) rfl rfl jhJ4_init_da8c8 hlk jiJ4_init_da8c8 jnJ4_init_da8c8 jcJ4_init_da8c8 rfl rfl rfl ⟨by omega, by decide⟩ (by omega) (by show 1 + (st.map Value.category).sum ≤ 8; omega) d2 (fun sz rv w' hp C' => ?_)
  obtain ⟨da, rfl, rfl, h1⟩ := hp
  exact kk b da C'
theorem y_appT (C : q_Cy K cc own dd n0 U xa q_Tr) (hA : q_KA K) {b da N n : Nat} {f : Nat → Int32} {xs ys : List Int32} (i : Nat) (hX : jX xs n f) (hf : jB f) (hn : n ≤ N) (hb : N ≤ 2 * n + 16) (hi3 : i < 13) (ey : q_byt.getD i [] = ys) (h100 : xs.length < 100) (hlk : Cond.methodLink own idx yJ4_append_15ec4 ∈ q_WS) (hdd : 8 ≤ dd) (hU : u + 101 ≤ U) {rest : List Value} (hroom : (rest.map Value.category).sum ≤ 8) (dg : decode cc pc = .ok (.invokevirtual idx, 3)) (hex : (uB (q_cy K) b da N f n ++ fr).map (fun q => q.1) = xa) (kk : ∀ (da' N' n' : Nat) (f' : Nat → Int32), jX (xs ++ ys) n' f' → jB f' → n' ≤ N' → N' ≤ 2 * n' + 16 → q_Cy K cc own dd n0 U ((uB (q_cy K) b da' N' f' n' ++ fr).map (fun q => q.1)) q_Tr → q_Y l K (u + 101) (uB (q_cy K) b da' N' f' n' ++ fr) q_Tr (pc + 3) lv (.ref b :: rest) S) : q_Y l K u (uB (q_cy K) b da N f n ++ fr) q_Tr pc lv (.ref (q_ad K (200 + i)) :: .ref b :: rest) S := by
  subst ey
  exact y_appK C hA hX hf hn hb hi3 rfl h100 hlk hdd hU hroom dg hex kk
theorem y_appS2 (C : q_Cy K cc own dd n0 U xa q_Tr) (hA : q_KA K) {b da N n : Nat} {f : Nat → Int32} {xs : List Int32} {q sd k : Nat} {g : Nat → Int32} {ys : List Int32} (hX : jX xs n f) (hf : jB f) (hn : n ≤ N) (hb : N ≤ 2 * n + 16) (hY : jX ys k g) (hg : jB g) (hk : ys.length < 20 ∨ ys.length + xs.length < 100) (h100 : xs.length < 100) (hlk : Cond.methodLink own idx yJ4_append_15ec4 ∈ q_WS) (hdd : 8 ≤ dd) (hU : u + 101 ≤ U) {rest : List Value} (hroom : (rest.map Value.category).sum ≤ 8) (dg : decode cc pc = .ok (.invokevirtual idx, 3)) (hex : (uB (q_cy K) b da N f n ++ (uS (q_cy K) q sd k g 0 0 ++ fr)).map (fun q => q.1) = xa) (kk : ∀ (da' N' n' : Nat) (f' : Nat → Int32), jX (xs ++ ys) n' f' → jB f' → n' ≤ N' → N' ≤ 2 * n' + 16 → q_Cy K cc own dd n0 U ((uB (q_cy K) b da' N' f' n' ++ (uS (q_cy K) q sd k g 0 0 ++ fr)).map (fun q => q.1)) q_Tr → q_Y l K (u + 101) (uB (q_cy K) b da' N' f' n' ++ (uS (q_cy K) q sd k g 0 0 ++ fr)) q_Tr (pc + 3) lv (.ref b :: rest) S) : q_Y l K u (uB (q_cy K) b da N f n ++ (uS (q_cy K) q sd k g 0 0 ++ fr)) q_Tr pc lv (.ref q :: .ref b :: rest) S :=
  y_appS (fr := fr) C hA hX hf hn hb hY hg (by rw [hY.1]; exact hk) h100 hlk hdd hU hroom dg hex kk
theorem y_appI (C : q_Cy K cc own dd n0 U xa q_Tr) (hA : q_KA K) {b da N n : Nat} {f : Nat → Int32} {xs : List Int32} {x : Int32} (hx1 : -100 < x) (hx2 : x < 100) (hX : jX xs n f) (hf : jB f) (hn : n ≤ N) (hb : N ≤ 2 * n + 16) (h100 : xs.length < 100) (hlk : Cond.methodLink own idx yJ4_append_bf812 ∈ q_WS) (hdd : 8 ≤ dd) (hU : u + 101 ≤ U) {rest : List Value} (hroom : (rest.map Value.category).sum ≤ 8) (dg : decode cc pc = .ok (.invokevirtual idx, 3)) (hex : (uB (q_cy K) b da N f n ++ fr).map (fun q => q.1) = xa) (kk : ∀ (da' N' n' : Nat) (f' : Nat → Int32), jX (xs ++ jI x) n' f' → jB f' → n' ≤ N' → N' ≤ 2 * n' + 16 → q_Cy K cc own dd n0 U ((uB (q_cy K) b da' N' f' n' ++ fr).map (fun q => q.1)) q_Tr → q_Y l K (u + 101) (uB (q_cy K) b da' N' f' n' ++ fr) q_Tr (pc + 3) lv (.ref b :: rest) S) : q_Y l K u (uB (q_cy K) b da N f n ++ fr) q_Tr pc lv (.int x :: .ref b :: rest) S := by
  have h9 := abs_cases hx1 hx2
  generalize hab : uL_abs x = a at h9
  rcases h9 with ⟨n0, e9, h2⟩ | ⟨n0, e9, h1, h2⟩
  · subst e9
    by_cases h10 : 10 ≤ a
    · have ej : jI (nI a) = [nI (48 + a / 10), nI (48 + a % 10)] := by unfold jI jD; rw [if_neg n0, hab, if_pos h10]
      rw [ej] at kk
      exact y_appI01 C hA hX hf hn hb h10 h2 h100 hlk hdd hU hroom dg hex kk
    · have ej : jI (nI a) = [nI (48 + a % 10)] := by unfold jI jD; rw [if_neg n0, hab, if_neg h10]
      rw [ej] at kk
      exact y_appI00 C hA hX hf hn hb (by omega) h100 hlk hdd hU hroom dg hex kk
  · subst e9
    by_cases h10 : 10 ≤ a
    · have ej : jI (-(nI a)) = [45, nI (48 + a / 10), nI (48 + a % 10)] := by unfold jI jD; rw [if_pos n0, hab, if_pos h10]; rfl
      rw [ej] at kk
      exact y_appI11 C hA hX hf hn hb h10 h2 h100 hlk hdd hU hroom dg hex kk
    · have ej : jI (-(nI a)) = [45, nI (48 + a % 10)] := by unfold jI jD; rw [if_pos n0, hab, if_neg h10]; rfl
      rw [ej] at kk
      exact y_appI10 C hA hX hf hn hb h1 (by omega) h100 hlk hdd hU hroom dg hex kk
theorem jX_range {xs : List Int32} {n : Nat} {g : Nat → Int32} (h : jX xs n g) : (List.range n).map g = xs := by
  refine List.ext_getElem (by rw [List.length_map, List.length_range]; exact h.1) (fun j h1 h2 => ?_)
  rw [List.getElem_map, List.getElem_range, h.2 j (by rw [h.1]; exact h2), List.getD_eq_getElem?_getD, List.getElem?_eq_getElem h2]
  rfl
theorem y_gch (C : q_Cy K cc own dd n0 U xa q_Tr) {q sd n i j k : Nat} {g : Nat → Int32} {xs : List Int32} (hX : jX xs n g) (ha : q_asc xs) (hk : k < xs.length) (h1 : ex[i]? = some (q, .inr (8, [.ref sd, .int 0, .int 0, .int 0]))) (h2 : ex[j]? = some (sd, .inl (q_cy K 5, n, .inl g))) (hlk : Cond.methodLink own idx yJ0_charAt_5068e ∈ q_WS) (hex : ex.map (fun q => q.1) = xa) (hdd : 8 ≤ dd) (hU : u ≤ U) {rest : List Value} (hroom : (rest.map Value.category).sum ≤ 8) (dg : decode cc pc = .ok (.invokevirtual idx, 3)) (kk : q_Y l K u ex q_Tr (pc + 3) lv (.int (xs.getD k 0) :: rest) S) : q_Y l K u ex q_Tr pc lv (.int (nI k) :: .ref q :: rest) S :=
  y_gd (As := [.int (nI k)]) (rest := rest) C h1 h2 (by rw [jX_range hX]; exact c_J0_charAt_d l S ha k hk) myJ0_charAt_5068e rfl hlk rfl rfl hex ⟨by omega, by decide⟩ hU hroom dg kk
theorem y_gln (C : q_Cy K cc own dd n0 U xa q_Tr) {q sd n i j : Nat} {g : Nat → Int32} {xs : List Int32} (hX : jX xs n g) (ha : q_asc xs) (h1 : ex[i]? = some (q, .inr (8, [.ref sd, .int 0, .int 0, .int 0]))) (h2 : ex[j]? = some (sd, .inl (q_cy K 5, n, .inl g))) (hlk : Cond.methodLink own idx yJ0_length_8abf5 ∈ q_WS) (hex : ex.map (fun q => q.1) = xa) (hdd : 8 ≤ dd) (hU : u ≤ U) {rest : List Value} (hroom : (rest.map Value.category).sum ≤ 8) (dg : decode cc pc = .ok (.invokevirtual idx, 3)) (kk : q_Y l K u ex q_Tr (pc + 3) lv (.int (nI xs.length) :: rest) S) : q_Y l K u ex q_Tr pc lv (.ref q :: rest) S :=
  y_gd (As := []) (rest := rest) C h1 h2 (by rw [jX_range hX]; exact c_J0_length_d l S ha) myJ0_length_8abf5 rfl hlk rfl rfl hex ⟨by omega, by decide⟩ hU hroom dg kk
theorem y_grun (C : q_Cy K cc own dd n0 U xa q_Tr) {q sd n i j : Nat} {g : Nat → Int32} {xs : List Int32} {v : Int32} {T : q_St} (hX : jX xs n g) (hM : q_FyD xs l yL_run kL_run 10 400 [.ref 0, .ref 229] S v T) (h1 : ex[i]? = some (q, .inr (8, [.ref sd, .int 0, .int 0, .int 0]))) (h2 : ex[j]? = some (sd, .inl (q_cy K 5, n, .inl g))) (hco : yL_run.cls = own) (hlk : Cond.methodLink own idx yL_run ∈ q_WS) (hex : ex.map (fun q => q.1) = xa) (hdd : 11 ≤ dd) (hU : u + 400 ≤ U) {rest : List Value} (hroom : (rest.map Value.category).sum ≤ 8) (dg : decode cc pc = .ok (.invokestatic idx, 3)) (kk : q_Y l K (u + 400) ex q_Tr (pc + 3) lv (.int v :: rest) T) : q_Y l K u ex q_Tr pc lv (.ref q :: .ref (q_ad K 0) :: rest) S :=
  y_gr (As := [.ref 0, .ref 229]) (rest := rest) C h1 h2 (by rw [jX_range hX]; exact hM) msL_run hco hlk rfl rfl hex ⟨by omega, by decide⟩ hU hroom dg kk
end QYU
/-! facts of the texts -/
def jA (xs : List Int32) : Prop := ∀ x ∈ xs, ∃ k, k < 128 ∧ x = nI k
theorem jA_app {xs ys : List Int32} (h : jA xs) (h2 : jA ys) : jA (xs ++ ys) := fun x hx => (List.mem_append.mp hx).elim (h x) (h2 x)
theorem jA_nil : jA [] := fun _ h => nomatch h
theorem jA_cons {k : Nat} {xs : List Int32} (hk : k < 128) (h : jA xs) : jA (nI k :: xs) := fun x hx => (List.mem_cons.mp hx).elim (fun e => ⟨k, hk, e⟩) (h x)
theorem jA_asc {xs : List Int32} (h : jA xs) (h0 : xs ≠ []) (h9 : xs.length < 100) : q_asc xs := ⟨h0, h9, fun j hj => h _ (by
  rw [List.getD_eq_getElem?_getD, List.getElem?_eq_getElem hj]
  exact List.getElem_mem hj)⟩
theorem jA_D {v : Nat} (h : v < 100) : jA (jD v) := by
  unfold jD
  split
  · exact jA_cons (by omega) (jA_cons (by omega) jA_nil)
  · exact jA_cons (by omega) jA_nil
theorem jD_len (v : Nat) : 1 ≤ (jD v).length ∧ (jD v).length ≤ 2 := by
  unfold jD
  split
  · exact ⟨Nat.le_of_ble_eq_true rfl, Nat.le_of_ble_eq_true rfl⟩
  · exact ⟨Nat.le_of_ble_eq_true rfl, Nat.le_of_ble_eq_true rfl⟩
theorem jD_1 {v : Nat} (h : v < 10) : jD v = [nI (48 + v % 10)] := by
  unfold jD
  rw [if_neg (by omega)]
theorem jI_len (x : Int32) : (jI x).length ≤ 3 := by
  unfold jI
  have h := (jD_len (uL_abs x)).2
  split
  · rw [List.length_append]
    show 1 + _ ≤ 3
    omega
  · omega
def jca (a : Nat) : Nat := [110, 114, 117, 115, 98].getD a 110
def jch (a : Nat) : Nat := [111, 115, 98].getD a 111
theorem jca_e : ∀ a, a < 5 → (q_byt.getD 6 []).getD a 0 = nI (jca a) ∧ jca a < 128 ∧ uL_ans (nI a) = nI (jca a) := by decide +kernel
theorem jch_e : ∀ a, a < 3 → (q_byt.getD 2 []).getD a 0 = nI (jch a) ∧ jch a < 128 ∧ uL_how (nI a) = nI (jch a) := by decide +kernel
theorem jH_eq {S : q_St} {m k : Nat} (hm : m < 10) (hk : k < 3) (e : S 2 m = nI k) : [] ++ [35] ++ [nI (48 + m % 10)] ++ [nI (jch k)] = jG S m 0 := by
  show _ = jH S m
  unfold jH
  rw [jD_1 hm, e, (jch_e k hk).2.2]
  rfl
theorem jP_pos {S : q_St} {m g a : Nat} (hg : g < 10) (ha : a < 5) (e : S 6 (m * 6 + g) = nI a) (h0 : S 5 (m * 6 + g) ≠ 0) (hx : 0 < S 5 (m * 6 + g)) : [] ++ jG S m g ++ ([] ++ [32] ++ [nI (48 + g % 10)] ++ [43] ++ jI (S 5 (m * 6 + g)) ++ [nI (jca a)]) = jG S m (g + 1) := by
  show _ = jG S m g ++ jP S m g
  unfold jP jI
  have n0 : ¬ S 5 (m * 6 + g) < 0 := fun h => Int32.lt_irrefl (Int32.lt_trans h hx)
  rw [if_pos h0, if_neg n0, if_neg n0, jD_1 hg, e, (jca_e a ha).2.2]
  simp only [List.nil_append, List.append_assoc]
theorem jP_neg {S : q_St} {m g a : Nat} (hg : g < 10) (ha : a < 5) (e : S 6 (m * 6 + g) = nI a) (h0 : S 5 (m * 6 + g) ≠ 0) (hx : S 5 (m * 6 + g) ≤ 0) : [] ++ jG S m g ++ ([] ++ [32] ++ [nI (48 + g % 10)] ++ [] ++ jI (S 5 (m * 6 + g)) ++ [nI (jca a)]) = jG S m (g + 1) := by
  show _ = jG S m g ++ jP S m g
  unfold jP jI
  have n0 : S 5 (m * 6 + g) < 0 := by
    rw [Int32.lt_iff_toInt_lt, Int32.toInt_zero]
    rw [Int32.le_iff_toInt_le, Int32.toInt_zero] at hx
    have : (S 5 (m * 6 + g)).toInt ≠ 0 := fun h => h0 (Int32.toInt_inj.mp (by rw [h, Int32.toInt_zero]))
    omega
  rw [if_pos h0, if_pos n0, if_pos n0, jD_1 hg, e, (jca_e a ha).2.2]
  simp only [List.nil_append, List.append_assoc]
theorem jP_zero {S : q_St} {m g : Nat} (hx : S 5 (m * 6 + g) = 0) : [] ++ jG S m g ++ [] = jG S m (g + 1) := by
  show _ = jG S m g ++ jP S m g
  unfold jP
  rw [if_neg (show ¬ S 5 (m * 6 + g) ≠ 0 from fun h => h hx)]
  simp only [List.nil_append, List.append_nil]
theorem jabs_lt {x : Int32} (h1 : -50 ≤ x) (h2 : x ≤ 50) : uL_abs x < 100 := by
  unfold uL_abs
  rw [Int32.le_iff_toInt_le] at h1 h2
  have e1 : (-50 : Int32).toInt = -50 := by decide
  have e2 : (50 : Int32).toInt = 50 := by decide
  omega
theorem jrng {x : Int32} (h1 : -50 ≤ x) (h2 : x ≤ 50) : -100 < x ∧ x < 100 := by
  rw [Int32.lt_iff_toInt_lt, Int32.lt_iff_toInt_lt]
  rw [Int32.le_iff_toInt_le] at h1 h2
  have e1 : (-50 : Int32).toInt = -50 := by decide
  have e2 : (50 : Int32).toInt = 50 := by decide
  have e3 : (-100 : Int32).toInt = -100 := by decide
  have e4 : (100 : Int32).toInt = 100 := by decide
  omega
theorem pI.an5 {d M N m g : Nat} {S : q_St} (h : pI d M N S) (hm : m < 8) (hg : g < 6) : ∃ a, a < 5 ∧ S 6 (m * 6 + g) = nI a := by
  rcases (h.c hm hg).1 with e | e | e | e | e
  · exact ⟨0, by decide, e⟩
  · exact ⟨1, by decide, e⟩
  · exact ⟨2, by decide, e⟩
  · exact ⟨3, by decide, e⟩
  · exact ⟨4, by decide, e⟩
theorem jP_len {d M N m g : Nat} {S : q_St} (h : pI d M N S) (hm : m < 8) (hg : g < 6) : (jP S m g).length ≤ 6 ∧ jA (jP S m g) := by
  obtain ⟨a, ha, e⟩ := h.an5 hm hg
  have hr := (h.c hm hg).2.2.1
  have hl := jD_len (uL_abs (S 5 (m * 6 + g)))
  unfold jP
  split
  · rw [jD_1 (show g < 10 by omega), e, (jca_e a ha).2.2]
    refine ⟨?_, ?_⟩
    · simp only [List.length_append, List.length_cons, List.length_nil]
      omega
    · refine jA_app (jA_app (jA_app (jA_app (jA_cons (k := 32) (by decide) jA_nil) (jA_cons (by omega) jA_nil)) ?_) (jA_D (jabs_lt hr.1 hr.2))) (jA_cons (jca_e a ha).2.1 jA_nil)
      split
      · exact jA_cons (k := 45) (by decide) jA_nil
      · exact jA_cons (k := 43) (by decide) jA_nil
  · exact ⟨by decide, jA_nil⟩
theorem jG_len {d M N m : Nat} {S : q_St} (h : pI d M N S) (hm : m < 8) : ∀ g, g ≤ 6 → 3 ≤ (jG S m g).length ∧ (jG S m g).length ≤ 3 + 6 * g ∧ jA (jG S m g)
  | 0, _ => by
    obtain ⟨k, hk, e⟩ := h.h3 hm
    have e9 := jH_eq (show m < 10 by omega) hk e
    rw [← e9]
    exact ⟨by simp, by simp, jA_app (jA_app (jA_cons (k := 35) (by decide) jA_nil) (jA_cons (by omega) jA_nil)) (jA_cons (jch_e k hk).2.1 jA_nil)⟩
  | g + 1, hg => by
    obtain ⟨i1, i2, i3⟩ := jG_len h hm g (by omega)
    obtain ⟨p1, p2⟩ := jP_len h hm (show g < 6 by omega)
    show 3 ≤ (jG S m g ++ jP S m g).length ∧ (jG S m g ++ jP S m g).length ≤ 3 + 6 * (g + 1) ∧ jA (jG S m g ++ jP S m g)
    refine ⟨?_, ?_, jA_app i3 p2⟩
    · rw [List.length_append]; omega
    · rw [List.length_append]; omega
theorem jG_asc {d M N m g : Nat} {S : q_St} (h : pI d M N S) (hm : m < 8) (hg : g ≤ 6) : q_asc (jG S m g) := by
  obtain ⟨i1, i2, i3⟩ := jG_len h hm g hg
  exact jA_asc i3 (fun e => by rw [e] at i1; exact absurd i1 (by decide)) (by omega)
/-! the line, and its characters -/
def uTl (S : q_St) : Nat → q_St
  | 0 => S
  | m + 1 => uL_at (uTl S m) (uL_gs (uTl S m) m 6)
theorem uTl_k (S : q_St) {k : Nat} (hk : k < 110) : ∀ m, uTl S m k = S k
  | 0 => rfl
  | m + 1 => by
    have ih := uTl_k S hk m
    rw [← ih]
    show (if k = 111 then _ else if k = 110 then _ else uTl S m k) = _
    rw [if_neg (show ¬ k = 111 by omega), if_neg (show ¬ k = 110 by omega)]
theorem pI.tl {d M N : Nat} {S : q_St} (h : pI d M N S) (m : Nat) : pI d M N (uTl S m) := h.cg (fun k _ hk j _ => by rw [uTl_k S (by omega) m])
theorem b_line (l : Launch) (hst : l.stackTraces = false) {d M N : Nat} {S : q_St} (h : pI d M N S) (m : Nat) (hm : m < M) : q_Fy l yL_line kL_line 9 6 [.ref 0, .int (nI m)] S (nI (jG S m 6).length) (uL_at S (uL_gs S m 6)) := by
  have h8 := h.M8
  have k := kk_line l hst S M h.hM (fun m hm g hg => (h.c (show m < 8 by omega) hg).2.2.1) (fun m hm g hg => (h.c (show m < 8 by omega) hg).1) (nI m)
  have e : uG_line S (nI m) = (.inl (nI (uL_gs S m 6).1), uL_at S (uL_gs S m 6)) := by
    unfold uG_line
    rw [if_pos (pIn h.hM hm), uN_nI (show m < 2 ^ 31 by omega)]
  rw [e] at k
  rw [← (jX_gs S m 6).1]
  exact k
theorem b_lineM (l : Launch) (hst : l.stackTraces = false) {d M N : Nat} {S : q_St} (h : pI d M N S) : q_Fy l yL_line kL_line 9 6 [.ref 0, .int (nI M)] S (-13) S := by
  have h8 := h.M8
  have k := kk_line l hst S M h.hM (fun m hm g hg => (h.c (show m < 8 by omega) hg).2.2.1) (fun m hm g hg => (h.c (show m < 8 by omega) hg).1) (nI M)
  have e : uG_line S (nI M) = (.inr xENs, S) := by
    unfold uG_line
    rw [if_neg (pIo h.hM)]
  rw [e] at k
  exact k
theorem b_ch (l : Launch) (hst : l.stackTraces = false) {d M N : Nat} {S : q_St} (h : pI d M N S) (m : Nat) (hm : m < M) (x : Int32) : q_Fy l yL_character kL_character 9 6 [.ref 0, .int x] (uL_at S (uL_gs S m 6)) (uW [(xEIo, (-11))] (uG_char (uL_at S (uL_gs S m 6)) x).1) (uG_char (uL_at S (uL_gs S m 6)) x).2 := by
  have h8 := h.M8
  have hX := jX_gs S m 6
  obtain ⟨i1, i2, i3⟩ := jG_len h (show m < 8 by omega) 6 (by omega)
  have ha := jG_asc h (show m < 8 by omega) (Nat.le_refl 6)
  refine kk_character l hst (uL_at S (uL_gs S m 6)) (uL_gs S m 6).1 rfl (by rw [hX.1]; omega) (fun j hj => ?_) x
  obtain ⟨k, k1, k2⟩ := ha.2.2 j (by rw [← hX.1]; exact hj)
  exact ⟨k, by omega, by show (uL_gs S m 6).2 j = nI k; rw [hX.2 j hj]; exact k2⟩
theorem b_char (l : Launch) (hst : l.stackTraces = false) {d M N : Nat} {S : q_St} (h : pI d M N S) (m : Nat) (hm : m < M) (k : Nat) (hk : k < (jG S m 6).length) : q_Fy l yL_character kL_character 9 6 [.ref 0, .int (nI k)] (uL_at S (uL_gs S m 6)) ((jG S m 6).getD k 0) (uL_at S (uL_gs S m 6)) := by
  have h8 := h.M8
  have hX := jX_gs S m 6
  obtain ⟨i1, i2, i3⟩ := jG_len h (show m < 8 by omega) 6 (by omega)
  have c := b_ch l hst h m hm (nI k)
  have e : uG_char (uL_at S (uL_gs S m 6)) (nI k) = (.inl ((jG S m 6).getD k 0), uL_at S (uL_gs S m 6)) := by
    unfold uG_char
    show (if 0 ≤ nI k ∧ nI k < nI (uL_gs S m 6).1 then (Sum.inl (uL_at S (uL_gs S m 6) 111 (uN (nI k))), uL_at S (uL_gs S m 6)) else (Sum.inr xEIo, uL_at S (uL_gs S m 6))) = _
    rw [if_pos (show 0 ≤ nI k ∧ nI k < nI (uL_gs S m 6).1 from pIg (by rw [hX.1]; exact hk) (by rw [hX.1]; omega)), uN_nI (show k < 2 ^ 31 by omega)]
    show (Sum.inl ((uL_gs S m 6).2 k), _) = _
    rw [hX.2 k (by rw [hX.1]; exact hk)]
  rw [e] at c
  exact c
theorem b_charN (l : Launch) (hst : l.stackTraces = false) {d M N : Nat} {S : q_St} (h : pI d M N S) (m : Nat) (hm : m < M) : q_Fy l yL_character kL_character 9 6 [.ref 0, .int (nI (jG S m 6).length)] (uL_at S (uL_gs S m 6)) (-11) (uL_at S (uL_gs S m 6)) := by
  have h8 := h.M8
  have hX := jX_gs S m 6
  obtain ⟨i1, i2, i3⟩ := jG_len h (show m < 8 by omega) 6 (by omega)
  have c := b_ch l hst h m hm (nI (jG S m 6).length)
  have e : uG_char (uL_at S (uL_gs S m 6)) (nI (jG S m 6).length) = (.inr xEIo, uL_at S (uL_gs S m 6)) := by
    unfold uG_char
    show (if 0 ≤ nI (jG S m 6).length ∧ nI (jG S m 6).length < nI (uL_gs S m 6).1 then (Sum.inl (uL_at S (uL_gs S m 6) 111 (uN (nI (jG S m 6).length))), uL_at S (uL_gs S m 6)) else (Sum.inr xEIo, uL_at S (uL_gs S m 6))) = _
    rw [if_neg (show ¬ (0 ≤ nI (jG S m 6).length ∧ nI (jG S m 6).length < nI (uL_gs S m 6).1) from fun q => Int32.lt_irrefl (a := nI (jG S m 6).length) (by have q2 := q.2; rw [hX.1] at q2; exact q2))]
  rw [e] at c
  exact c
