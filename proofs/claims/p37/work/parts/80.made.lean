
/-! a made String among the law's cells -/
def uAd2 (ad : Nat → Nat) (q sd : Nat) : Nat → Nat := fun k => if k = 229 then q else if k = 243 then sd else ad k
theorem uAd2_at {ad : Nat → Nat} {q sd k : Nat} (h1 : k ≠ 229) (h2 : k ≠ 243) : uAd2 ad q sd k = ad k := by
  unfold uAd2
  rw [if_neg h1, if_neg h2]
theorem q_dyn {args : Array Value} {D : va_G} {cy : Nat → ClassId} {ad : Nat → Nat} {B : Nat → Prop} {s : State} {H : Heap} {ex : va_W} {q sd n i j : Nat} {g : Nat → Int32} {h z : Int32} (hts : ∀ w ∈ q_WS, w.before args s = true) (hK : va_K D q_cl (q_tys cy) s) (hP : va_P D q_cl ex H) (h1 : ex[i]? = some (q, .inr (8, [.ref sd, .int 0, .int h, .int z]))) (h2 : ex[j]? = some (sd, .inl (cy 5, n, .inl g))) (hq : ¬ B q) (hsd : ¬ B sd) : q_dy (uAd2 ad q sd) ((List.range n).map g) B s H := by
  obtain ⟨cell, c1, c2, c3⟩ := va_recv (q := (RST, TST, 4)) hK hP rfl h1
  have hOF : ∀ k, k < 4 → ∀ v, [Value.ref sd, .int 0, .int h, .int z][k]? = some v → va_OF (TST k).1 (TST k).2.1 (TST k).2.2.1 v q B s H := fun k hk v hv => by
    obtain ⟨r, r1, cell, q1, q2, q3, q4⟩ := hP i _ h1
    have hr : r = (RST, TST, 4) := Option.some.inj (r1.symm.trans rfl)
    subst hr
    obtain ⟨hS, hfc, kC, hkC, hkind⟩ := hK.1 8 _ rfl
    obtain ⟨cf, kf, fi, f, hi, hsl⟩ := hS k hk
    refine ⟨cf, kf, fi, f, cell, hi, (u_facts hfc hkC (u_lays hts cl_ST hk) hi).1, q1, (by rw [q3]; exact fun h => by cases h), ?_, hq⟩
    rw [hsl, q4 k hk]
    simp [vp_V, hv]
  have hlen : ((List.range n).map g).length = n := by simp
  show va_O "java/lang/String" q B s H ∧ va_OF "java/lang/String" "coder" "B" (.int 0) q B s H ∧ va_OF "java/lang/String" "value" "[B" (.ref sd) q B s H ∧ va_T .byte sd ((List.range n).map g).length (fun j => .int (((List.range n).map g).getD j 0)) B s H
  refine ⟨⟨cell, c1, c2, c3, hq⟩, hOF 1 (by decide) _ rfl, hOF 0 (by decide) _ rfl, ?_⟩
  rw [hlen]
  refine ⟨vp_cell (cy 5) (n, .inl g), hP j _ h2, (hK.2 5 _ rfl).1 n (fun j => .int (g j)), (fun h => by cases h), ?_, ?_, fun j hj => ?_, hsd⟩
  · show n ≤ (arrV (cy 5) n (fun j => .int (g j))).slots.size
    rw [arrV_size]
    exact Nat.le_refl _
  · show (arrV (cy 5) n (fun j => .int (g j))).slots.size.toInt32 = _
    rw [arrV_size]
  · show (arrV (cy 5) n (fun j => .int (g j))).slots[j]? = _
    rw [arrV_read _ _ hj]
    simp [List.getD_eq_getElem?_getD, hj]
theorem q_E_dyn {args : Array Value} {D : va_G} {cy : Nat → ClassId} {ad : Nat → Nat} {L : q_L} {B : Nat → Prop} {s : State} {H : Heap} {ex : va_W} {q sd n i j : Nat} {g : Nat → Int32} {h z : Int32} (hE : q_E ad L B s H) (hts : ∀ w ∈ q_WS, w.before args s = true) (hK : va_K D q_cl (q_tys cy) s) (hP : va_P D q_cl ex H) (h1 : ex[i]? = some (q, .inr (8, [.ref sd, .int 0, .int h, .int z]))) (h2 : ex[j]? = some (sd, .inl (cy 5, n, .inl g))) (hq : ¬ B q) (hsd : ¬ B sd) : q_E (uAd2 ad q sd) (L.1, (List.range n).map g) B s H := by
  obtain ⟨e1, e2, e3, e4, e5, e6, e7, e8, e9, e10, e11⟩ := hE
  have k1 : ∀ i, i < 28 → uAd2 ad q sd (200 + i) = ad (200 + i) := fun i hi => uAd2_at (by omega) (by omega)
  have k2 : ∀ i, i < 13 → uAd2 ad q sd (230 + i) = ad (230 + i) := fun i hi => uAd2_at (by omega) (by omega)
  refine ⟨⟨fun i hi => ?_, fun i j hi hj he => ?_⟩, fun i r hr => ?_, e3, ?_, e5, e6, e7, fun i hi => ?_, ?_, ?_, fun _ => q_dyn hts hK hP h1 h2 hq hsd⟩
  · simp only [k1 i (by omega), k2 i hi]
    exact e1.1 i hi
  · simp only [k1 i (by omega), k1 j (by omega)] at he
    exact e1.2 i j hi hj he
  · have hi : i < 28 := (List.getElem?_eq_some_iff.mp hr).1
    rw [k1 i hi]
    exact e2 i r hr
  · rw [uAd2_at (by decide) (by decide)]
    exact e4
  · rw [k2 i hi]
    exact e8 i hi
  · rw [uAd2_at (by decide) (by decide)]
    exact e9
  · rw [uAd2_at (by decide) (by decide)]
    exact e10
