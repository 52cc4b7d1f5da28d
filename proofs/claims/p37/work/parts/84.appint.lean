
/-! append(int), as a list of codes -/
theorem abs_cases {x : Int32} (h1 : -100 < x) (h2 : x < 100) : (¬ x < 0 ∧ x = nI (uL_abs x) ∧ uL_abs x < 100) ∨ (x < 0 ∧ x = -(nI (uL_abs x)) ∧ 1 ≤ uL_abs x ∧ uL_abs x < 100) := by
  have a1 : (-100 : Int) < x.toInt := by
    have := Int32.lt_iff_toInt_lt.mp h1
    exact this
  have a2 : x.toInt < 100 := by
    have := Int32.lt_iff_toInt_lt.mp h2
    exact this
  have hx : x = Int32.ofInt x.toInt := by simp
  have key : ∀ k : Nat, k < 100 → ((¬ Int32.ofInt k < 0 ∧ Int32.ofInt k = nI k) ∧ (1 ≤ k → Int32.ofInt (-(k : Int)) < 0 ∧ Int32.ofInt (-(k : Int)) = -(nI k))) := by decide +kernel
  unfold uL_abs
  rcases Int.natAbs_eq x.toInt with e | e
  · left
    have hk := key x.toInt.natAbs (by omega)
    rw [e] at hx
    refine ⟨?_, ?_, by omega⟩
    · rw [hx]; exact hk.1.1
    · exact hx.trans hk.1.2
  · by_cases h0 : x.toInt.natAbs = 0
    · left
      have hz : x = 0 := by rw [hx, show x.toInt = 0 by omega]; rfl
      subst hz
      decide
    · right
      have hk := (key x.toInt.natAbs (by omega)).2 (by omega)
      rw [e] at hx
      have hx2 : x < 0 := by rw [hx]; exact hk.1
      exact ⟨hx2, hx.trans hk.2, by omega, by omega⟩

section QYI
variable {l : Launch} {K : q_K} {cc : ByteArray} {own : String} {dd n0 U u pc idx : Nat} {xa : List Nat} {ex fr : va_W} {lv : List (Nat × Value)} {st : List Value} {S : q_St}
theorem y_appI00 (C : q_Cy K cc own dd n0 U xa q_Tr) (hA : q_KA K) {b da N n : Nat} {f : Nat → Int32} {xs : List Int32} {a : Nat} (hX : jX xs n f) (hf : jB f) (hn : n ≤ N) (hb : N ≤ 2 * n + 16) (h2 : a < 10) (h100 : xs.length < 100) (hlk : Cond.methodLink own idx yJ4_append_bf812 ∈ q_WS) (hdd : 8 ≤ dd) (hU : u + 101 ≤ U) {rest : List Value} (hroom : (rest.map Value.category).sum ≤ 8) (dg : decode cc pc = .ok (.invokevirtual idx, 3)) (hex : (uB (q_cy K) b da N f n ++ fr).map (fun q => q.1) = xa) (kk : ∀ (da' N' n' : Nat) (f' : Nat → Int32), jX (xs ++ [nI (48 + a % 10)]) n' f' → jB f' → n' ≤ N' → N' ≤ 2 * n' + 16 → q_Cy K cc own dd n0 U ((uB (q_cy K) b da' N' f' n' ++ fr).map (fun q => q.1)) q_Tr → q_Y l K (u + 101) (uB (q_cy K) b da' N' f' n' ++ fr) q_Tr (pc + 3) lv (.ref b :: rest) S) : q_Y l K u (uB (q_cy K) b da N f n ++ fr) q_Tr pc lv (.int (nI a) :: .ref b :: rest) S := by
  have h9 : n < 100 := by rw [hX.1]; exact h100
  refine y_tw (As := [.int (nI a)]) (rest := rest) (w := fun cy => uB cy b da N f n) (fr := fr) (k0 := 0) C hA (m_appI00 l b da N f n hf hn hb a h2 (by omega)) rfl rfl rfl jhJ4_append_bf812 hlk jiJ4_append_bf812 jVJ4_append_bf812 jnJ4_append_bf812 jcJ4_append_bf812 hex rfl rfl ⟨hdd, by decide⟩ hU hroom dg (fun sz rv w' hp C' => ?_)
  obtain ⟨da', N', f', rfl, rfl, h1, h3, h4, h5, h6, h7⟩ := hp
  exact kk da' N' (n + 1) f' (jX_push hX h6 h7) h5 h3 h4 C'
theorem y_appI01 (C : q_Cy K cc own dd n0 U xa q_Tr) (hA : q_KA K) {b da N n : Nat} {f : Nat → Int32} {xs : List Int32} {a : Nat} (hX : jX xs n f) (hf : jB f) (hn : n ≤ N) (hb : N ≤ 2 * n + 16) (h1 : 10 ≤ a) (h2 : a < 100) (h100 : xs.length < 100) (hlk : Cond.methodLink own idx yJ4_append_bf812 ∈ q_WS) (hdd : 8 ≤ dd) (hU : u + 101 ≤ U) {rest : List Value} (hroom : (rest.map Value.category).sum ≤ 8) (dg : decode cc pc = .ok (.invokevirtual idx, 3)) (hex : (uB (q_cy K) b da N f n ++ fr).map (fun q => q.1) = xa) (kk : ∀ (da' N' n' : Nat) (f' : Nat → Int32), jX (xs ++ [nI (48 + a / 10), nI (48 + a % 10)]) n' f' → jB f' → n' ≤ N' → N' ≤ 2 * n' + 16 → q_Cy K cc own dd n0 U ((uB (q_cy K) b da' N' f' n' ++ fr).map (fun q => q.1)) q_Tr → q_Y l K (u + 101) (uB (q_cy K) b da' N' f' n' ++ fr) q_Tr (pc + 3) lv (.ref b :: rest) S) : q_Y l K u (uB (q_cy K) b da N f n ++ fr) q_Tr pc lv (.int (nI a) :: .ref b :: rest) S := by
  have h9 : n < 100 := by rw [hX.1]; exact h100
  refine y_tw (As := [.int (nI a)]) (rest := rest) (w := fun cy => uB cy b da N f n) (fr := fr) (k0 := 0) C hA (m_appI01 l b da N f n hf hn hb a h1 h2 (by omega)) rfl rfl rfl jhJ4_append_bf812 hlk jiJ4_append_bf812 jVJ4_append_bf812 jnJ4_append_bf812 jcJ4_append_bf812 hex rfl rfl ⟨hdd, by decide⟩ hU hroom dg (fun sz rv w' hp C' => ?_)
  obtain ⟨da', N', f', rfl, rfl, h8, h3, h4, h5, h6, h7, h10⟩ := hp
  exact kk da' N' (n + 2) f' (jX_app (ys := [nI (48 + a / 10), nI (48 + a % 10)]) (k := 2) (g := fun j => f' (n + j)) hX ⟨rfl, fun j hj => by rcases j with _ | _ | j <;> first | exact h7 | exact h10 | omega⟩ h6 (fun _ _ => rfl)) h5 h3 h4 C'
theorem y_appI10 (C : q_Cy K cc own dd n0 U xa q_Tr) (hA : q_KA K) {b da N n : Nat} {f : Nat → Int32} {xs : List Int32} {a : Nat} (hX : jX xs n f) (hf : jB f) (hn : n ≤ N) (hb : N ≤ 2 * n + 16) (h1 : 1 ≤ a) (h2 : a < 10) (h100 : xs.length < 100) (hlk : Cond.methodLink own idx yJ4_append_bf812 ∈ q_WS) (hdd : 8 ≤ dd) (hU : u + 101 ≤ U) {rest : List Value} (hroom : (rest.map Value.category).sum ≤ 8) (dg : decode cc pc = .ok (.invokevirtual idx, 3)) (hex : (uB (q_cy K) b da N f n ++ fr).map (fun q => q.1) = xa) (kk : ∀ (da' N' n' : Nat) (f' : Nat → Int32), jX (xs ++ [45, nI (48 + a % 10)]) n' f' → jB f' → n' ≤ N' → N' ≤ 2 * n' + 16 → q_Cy K cc own dd n0 U ((uB (q_cy K) b da' N' f' n' ++ fr).map (fun q => q.1)) q_Tr → q_Y l K (u + 101) (uB (q_cy K) b da' N' f' n' ++ fr) q_Tr (pc + 3) lv (.ref b :: rest) S) : q_Y l K u (uB (q_cy K) b da N f n ++ fr) q_Tr pc lv (.int (-(nI a)) :: .ref b :: rest) S := by
  have h9 : n < 100 := by rw [hX.1]; exact h100
  refine y_tw (As := [.int (-(nI a))]) (rest := rest) (w := fun cy => uB cy b da N f n) (fr := fr) (k0 := 0) C hA (m_appI10 l b da N f n hf hn hb a h1 h2 (by omega)) rfl rfl rfl jhJ4_append_bf812 hlk jiJ4_append_bf812 jVJ4_append_bf812 jnJ4_append_bf812 jcJ4_append_bf812 hex rfl rfl ⟨hdd, by decide⟩ hU hroom dg (fun sz rv w' hp C' => ?_)
  obtain ⟨da', N', f', rfl, rfl, h8, h3, h4, h5, h6, h7, h10⟩ := hp
  exact kk da' N' (n + 2) f' (jX_app (ys := [45, nI (48 + a % 10)]) (k := 2) (g := fun j => f' (n + j)) hX ⟨rfl, fun j hj => by rcases j with _ | _ | j <;> first | exact h7 | exact h10 | omega⟩ h6 (fun _ _ => rfl)) h5 h3 h4 C'
theorem y_appI11 (C : q_Cy K cc own dd n0 U xa q_Tr) (hA : q_KA K) {b da N n : Nat} {f : Nat → Int32} {xs : List Int32} {a : Nat} (hX : jX xs n f) (hf : jB f) (hn : n ≤ N) (hb : N ≤ 2 * n + 16) (h1 : 10 ≤ a) (h2 : a < 100) (h100 : xs.length < 100) (hlk : Cond.methodLink own idx yJ4_append_bf812 ∈ q_WS) (hdd : 8 ≤ dd) (hU : u + 101 ≤ U) {rest : List Value} (hroom : (rest.map Value.category).sum ≤ 8) (dg : decode cc pc = .ok (.invokevirtual idx, 3)) (hex : (uB (q_cy K) b da N f n ++ fr).map (fun q => q.1) = xa) (kk : ∀ (da' N' n' : Nat) (f' : Nat → Int32), jX (xs ++ [45, nI (48 + a / 10), nI (48 + a % 10)]) n' f' → jB f' → n' ≤ N' → N' ≤ 2 * n' + 16 → q_Cy K cc own dd n0 U ((uB (q_cy K) b da' N' f' n' ++ fr).map (fun q => q.1)) q_Tr → q_Y l K (u + 101) (uB (q_cy K) b da' N' f' n' ++ fr) q_Tr (pc + 3) lv (.ref b :: rest) S) : q_Y l K u (uB (q_cy K) b da N f n ++ fr) q_Tr pc lv (.int (-(nI a)) :: .ref b :: rest) S := by
  have h9 : n < 100 := by rw [hX.1]; exact h100
  refine y_tw (As := [.int (-(nI a))]) (rest := rest) (w := fun cy => uB cy b da N f n) (fr := fr) (k0 := 0) C hA (m_appI11 l b da N f n hf hn hb a h1 h2 (by omega)) rfl rfl rfl jhJ4_append_bf812 hlk jiJ4_append_bf812 jVJ4_append_bf812 jnJ4_append_bf812 jcJ4_append_bf812 hex rfl rfl ⟨hdd, by decide⟩ hU hroom dg (fun sz rv w' hp C' => ?_)
  obtain ⟨da', N', f', rfl, rfl, h8, h3, h4, h5, h6, h7, h10, h11⟩ := hp
  exact kk da' N' (n + 3) f' (jX_app (ys := [45, nI (48 + a / 10), nI (48 + a % 10)]) (k := 3) (g := fun j => f' (n + j)) hX ⟨rfl, fun j hj => by rcases j with _ | _ | _ | j <;> first | exact h7 | exact h10 | exact h11 | omega⟩ h6 (fun _ _ => rfl)) h5 h3 h4 C'
end QYI
