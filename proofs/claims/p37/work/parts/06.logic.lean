/-! the world: 112 cells at fixed places; what they hold is one function of place and index -/
abbrev q_St : Type := Nat → Nat → Int32
abbrev q_L : Type := (Nat → Int64) × List Int32
abbrev q_Sh : Type := (Nat × Nat) ⊕ (Nat × List (Option Nat))
def q_sh : List q_Sh := [.inr (6, [some 1, some 10, some 19, none, some 28, some 102, some 103, some 109, some 110]),
  .inr (1, [none, none, none, none, none, none, some 2, some 3, some 4, some 5, some 6, some 7, some 8, some 9]),
  .inl (0, 8),
  .inl (0, 8),
  .inl (0, 8),
  .inl (0, 48),
  .inl (0, 48),
  .inl (0, 6),
  .inl (0, 6),
  .inl (1, 6),
  .inr (1, [none, none, none, none, none, none, some 11, some 12, some 13, some 14, some 15, some 16, some 17, some 18]),
  .inl (0, 8),
  .inl (0, 8),
  .inl (0, 8),
  .inl (0, 48),
  .inl (0, 48),
  .inl (0, 6),
  .inl (0, 6),
  .inl (1, 6),
  .inr (1, [none, none, none, none, none, none, some 20, some 21, some 22, some 23, some 24, some 25, some 26, some 27]),
  .inl (0, 8),
  .inl (0, 8),
  .inl (0, 8),
  .inl (0, 48),
  .inl (0, 48),
  .inl (0, 6),
  .inl (0, 6),
  .inl (1, 6),
  .inr (2, [some 29, none, none]),
  .inl (3, 8),
  .inr (1, [none, none, none, none, none, none, some 31, some 32, some 33, some 34, some 35, some 36, some 37, some 38]),
  .inl (0, 8),
  .inl (0, 8),
  .inl (0, 8),
  .inl (0, 48),
  .inl (0, 48),
  .inl (0, 6),
  .inl (0, 6),
  .inl (1, 6),
  .inr (1, [none, none, none, none, none, none, some 40, some 41, some 42, some 43, some 44, some 45, some 46, some 47]),
  .inl (0, 8),
  .inl (0, 8),
  .inl (0, 8),
  .inl (0, 48),
  .inl (0, 48),
  .inl (0, 6),
  .inl (0, 6),
  .inl (1, 6),
  .inr (1, [none, none, none, none, none, none, some 49, some 50, some 51, some 52, some 53, some 54, some 55, some 56]),
  .inl (0, 8),
  .inl (0, 8),
  .inl (0, 8),
  .inl (0, 48),
  .inl (0, 48),
  .inl (0, 6),
  .inl (0, 6),
  .inl (1, 6),
  .inr (1, [none, none, none, none, none, none, some 58, some 59, some 60, some 61, some 62, some 63, some 64, some 65]),
  .inl (0, 8),
  .inl (0, 8),
  .inl (0, 8),
  .inl (0, 48),
  .inl (0, 48),
  .inl (0, 6),
  .inl (0, 6),
  .inl (1, 6),
  .inr (1, [none, none, none, none, none, none, some 67, some 68, some 69, some 70, some 71, some 72, some 73, some 74]),
  .inl (0, 8),
  .inl (0, 8),
  .inl (0, 8),
  .inl (0, 48),
  .inl (0, 48),
  .inl (0, 6),
  .inl (0, 6),
  .inl (1, 6),
  .inr (1, [none, none, none, none, none, none, some 76, some 77, some 78, some 79, some 80, some 81, some 82, some 83]),
  .inl (0, 8),
  .inl (0, 8),
  .inl (0, 8),
  .inl (0, 48),
  .inl (0, 48),
  .inl (0, 6),
  .inl (0, 6),
  .inl (1, 6),
  .inr (1, [none, none, none, none, none, none, some 85, some 86, some 87, some 88, some 89, some 90, some 91, some 92]),
  .inl (0, 8),
  .inl (0, 8),
  .inl (0, 8),
  .inl (0, 48),
  .inl (0, 48),
  .inl (0, 6),
  .inl (0, 6),
  .inl (1, 6),
  .inr (1, [none, none, none, none, none, none, some 94, some 95, some 96, some 97, some 98, some 99, some 100, some 101]),
  .inl (0, 8),
  .inl (0, 8),
  .inl (0, 8),
  .inl (0, 48),
  .inl (0, 48),
  .inl (0, 6),
  .inl (0, 6),
  .inl (1, 6),
  .inr (5, [some 1, none, none]),
  .inr (4, [some 104, none, none, none, none, none, some 105, some 106, some 107, some 108]),
  .inl (2, 60),
  .inl (0, 30),
  .inl (0, 30),
  .inl (0, 30),
  .inl (0, 30),
  .inr (0, [some 1, some 102]),
  .inr (3, [some 111, none]),
  .inl (2, 39)]
theorem q_sh_len : q_sh.length = 112 := by decide +kernel
theorem q_s0 : q_sh[0]? = some (.inr (6, [some 1, some 10, some 19, none, some 28, some 102, some 103, some 109, some 110])) := by decide +kernel
theorem q_s1 : q_sh[1]? = some (.inr (1, [none, none, none, none, none, none, some 2, some 3, some 4, some 5, some 6, some 7, some 8, some 9])) := by decide +kernel
theorem q_s2 : q_sh[2]? = some (.inl (0, 8)) := by decide +kernel
theorem q_s3 : q_sh[3]? = some (.inl (0, 8)) := by decide +kernel
theorem q_s4 : q_sh[4]? = some (.inl (0, 8)) := by decide +kernel
theorem q_s5 : q_sh[5]? = some (.inl (0, 48)) := by decide +kernel
theorem q_s6 : q_sh[6]? = some (.inl (0, 48)) := by decide +kernel
theorem q_s7 : q_sh[7]? = some (.inl (0, 6)) := by decide +kernel
theorem q_s8 : q_sh[8]? = some (.inl (0, 6)) := by decide +kernel
theorem q_s9 : q_sh[9]? = some (.inl (1, 6)) := by decide +kernel
theorem q_s10 : q_sh[10]? = some (.inr (1, [none, none, none, none, none, none, some 11, some 12, some 13, some 14, some 15, some 16, some 17, some 18])) := by decide +kernel
theorem q_s11 : q_sh[11]? = some (.inl (0, 8)) := by decide +kernel
theorem q_s12 : q_sh[12]? = some (.inl (0, 8)) := by decide +kernel
theorem q_s13 : q_sh[13]? = some (.inl (0, 8)) := by decide +kernel
theorem q_s14 : q_sh[14]? = some (.inl (0, 48)) := by decide +kernel
theorem q_s15 : q_sh[15]? = some (.inl (0, 48)) := by decide +kernel
theorem q_s16 : q_sh[16]? = some (.inl (0, 6)) := by decide +kernel
theorem q_s17 : q_sh[17]? = some (.inl (0, 6)) := by decide +kernel
theorem q_s18 : q_sh[18]? = some (.inl (1, 6)) := by decide +kernel
theorem q_s19 : q_sh[19]? = some (.inr (1, [none, none, none, none, none, none, some 20, some 21, some 22, some 23, some 24, some 25, some 26, some 27])) := by decide +kernel
theorem q_s20 : q_sh[20]? = some (.inl (0, 8)) := by decide +kernel
theorem q_s21 : q_sh[21]? = some (.inl (0, 8)) := by decide +kernel
theorem q_s22 : q_sh[22]? = some (.inl (0, 8)) := by decide +kernel
theorem q_s23 : q_sh[23]? = some (.inl (0, 48)) := by decide +kernel
theorem q_s24 : q_sh[24]? = some (.inl (0, 48)) := by decide +kernel
theorem q_s25 : q_sh[25]? = some (.inl (0, 6)) := by decide +kernel
theorem q_s26 : q_sh[26]? = some (.inl (0, 6)) := by decide +kernel
theorem q_s27 : q_sh[27]? = some (.inl (1, 6)) := by decide +kernel
theorem q_s28 : q_sh[28]? = some (.inr (2, [some 29, none, none])) := by decide +kernel
theorem q_s29 : q_sh[29]? = some (.inl (3, 8)) := by decide +kernel
theorem q_s30 : q_sh[30]? = some (.inr (1, [none, none, none, none, none, none, some 31, some 32, some 33, some 34, some 35, some 36, some 37, some 38])) := by decide +kernel
theorem q_s31 : q_sh[31]? = some (.inl (0, 8)) := by decide +kernel
theorem q_s32 : q_sh[32]? = some (.inl (0, 8)) := by decide +kernel
theorem q_s33 : q_sh[33]? = some (.inl (0, 8)) := by decide +kernel
theorem q_s34 : q_sh[34]? = some (.inl (0, 48)) := by decide +kernel
theorem q_s35 : q_sh[35]? = some (.inl (0, 48)) := by decide +kernel
theorem q_s36 : q_sh[36]? = some (.inl (0, 6)) := by decide +kernel
theorem q_s37 : q_sh[37]? = some (.inl (0, 6)) := by decide +kernel
theorem q_s38 : q_sh[38]? = some (.inl (1, 6)) := by decide +kernel
theorem q_s39 : q_sh[39]? = some (.inr (1, [none, none, none, none, none, none, some 40, some 41, some 42, some 43, some 44, some 45, some 46, some 47])) := by decide +kernel
theorem q_s40 : q_sh[40]? = some (.inl (0, 8)) := by decide +kernel
theorem q_s41 : q_sh[41]? = some (.inl (0, 8)) := by decide +kernel
theorem q_s42 : q_sh[42]? = some (.inl (0, 8)) := by decide +kernel
theorem q_s43 : q_sh[43]? = some (.inl (0, 48)) := by decide +kernel
theorem q_s44 : q_sh[44]? = some (.inl (0, 48)) := by decide +kernel
theorem q_s45 : q_sh[45]? = some (.inl (0, 6)) := by decide +kernel
theorem q_s46 : q_sh[46]? = some (.inl (0, 6)) := by decide +kernel
theorem q_s47 : q_sh[47]? = some (.inl (1, 6)) := by decide +kernel
theorem q_s48 : q_sh[48]? = some (.inr (1, [none, none, none, none, none, none, some 49, some 50, some 51, some 52, some 53, some 54, some 55, some 56])) := by decide +kernel
theorem q_s49 : q_sh[49]? = some (.inl (0, 8)) := by decide +kernel
theorem q_s50 : q_sh[50]? = some (.inl (0, 8)) := by decide +kernel
theorem q_s51 : q_sh[51]? = some (.inl (0, 8)) := by decide +kernel
theorem q_s52 : q_sh[52]? = some (.inl (0, 48)) := by decide +kernel
theorem q_s53 : q_sh[53]? = some (.inl (0, 48)) := by decide +kernel
theorem q_s54 : q_sh[54]? = some (.inl (0, 6)) := by decide +kernel
theorem q_s55 : q_sh[55]? = some (.inl (0, 6)) := by decide +kernel
theorem q_s56 : q_sh[56]? = some (.inl (1, 6)) := by decide +kernel
theorem q_s57 : q_sh[57]? = some (.inr (1, [none, none, none, none, none, none, some 58, some 59, some 60, some 61, some 62, some 63, some 64, some 65])) := by decide +kernel
theorem q_s58 : q_sh[58]? = some (.inl (0, 8)) := by decide +kernel
theorem q_s59 : q_sh[59]? = some (.inl (0, 8)) := by decide +kernel
theorem q_s60 : q_sh[60]? = some (.inl (0, 8)) := by decide +kernel
theorem q_s61 : q_sh[61]? = some (.inl (0, 48)) := by decide +kernel
theorem q_s62 : q_sh[62]? = some (.inl (0, 48)) := by decide +kernel
theorem q_s63 : q_sh[63]? = some (.inl (0, 6)) := by decide +kernel
theorem q_s64 : q_sh[64]? = some (.inl (0, 6)) := by decide +kernel
theorem q_s65 : q_sh[65]? = some (.inl (1, 6)) := by decide +kernel
theorem q_s66 : q_sh[66]? = some (.inr (1, [none, none, none, none, none, none, some 67, some 68, some 69, some 70, some 71, some 72, some 73, some 74])) := by decide +kernel
theorem q_s67 : q_sh[67]? = some (.inl (0, 8)) := by decide +kernel
theorem q_s68 : q_sh[68]? = some (.inl (0, 8)) := by decide +kernel
theorem q_s69 : q_sh[69]? = some (.inl (0, 8)) := by decide +kernel
theorem q_s70 : q_sh[70]? = some (.inl (0, 48)) := by decide +kernel
theorem q_s71 : q_sh[71]? = some (.inl (0, 48)) := by decide +kernel
theorem q_s72 : q_sh[72]? = some (.inl (0, 6)) := by decide +kernel
theorem q_s73 : q_sh[73]? = some (.inl (0, 6)) := by decide +kernel
theorem q_s74 : q_sh[74]? = some (.inl (1, 6)) := by decide +kernel
theorem q_s75 : q_sh[75]? = some (.inr (1, [none, none, none, none, none, none, some 76, some 77, some 78, some 79, some 80, some 81, some 82, some 83])) := by decide +kernel
theorem q_s76 : q_sh[76]? = some (.inl (0, 8)) := by decide +kernel
theorem q_s77 : q_sh[77]? = some (.inl (0, 8)) := by decide +kernel
theorem q_s78 : q_sh[78]? = some (.inl (0, 8)) := by decide +kernel
theorem q_s79 : q_sh[79]? = some (.inl (0, 48)) := by decide +kernel
theorem q_s80 : q_sh[80]? = some (.inl (0, 48)) := by decide +kernel
theorem q_s81 : q_sh[81]? = some (.inl (0, 6)) := by decide +kernel
theorem q_s82 : q_sh[82]? = some (.inl (0, 6)) := by decide +kernel
theorem q_s83 : q_sh[83]? = some (.inl (1, 6)) := by decide +kernel
theorem q_s84 : q_sh[84]? = some (.inr (1, [none, none, none, none, none, none, some 85, some 86, some 87, some 88, some 89, some 90, some 91, some 92])) := by decide +kernel
theorem q_s85 : q_sh[85]? = some (.inl (0, 8)) := by decide +kernel
theorem q_s86 : q_sh[86]? = some (.inl (0, 8)) := by decide +kernel
theorem q_s87 : q_sh[87]? = some (.inl (0, 8)) := by decide +kernel
theorem q_s88 : q_sh[88]? = some (.inl (0, 48)) := by decide +kernel
theorem q_s89 : q_sh[89]? = some (.inl (0, 48)) := by decide +kernel
theorem q_s90 : q_sh[90]? = some (.inl (0, 6)) := by decide +kernel
theorem q_s91 : q_sh[91]? = some (.inl (0, 6)) := by decide +kernel
theorem q_s92 : q_sh[92]? = some (.inl (1, 6)) := by decide +kernel
theorem q_s93 : q_sh[93]? = some (.inr (1, [none, none, none, none, none, none, some 94, some 95, some 96, some 97, some 98, some 99, some 100, some 101])) := by decide +kernel
theorem q_s94 : q_sh[94]? = some (.inl (0, 8)) := by decide +kernel
theorem q_s95 : q_sh[95]? = some (.inl (0, 8)) := by decide +kernel
theorem q_s96 : q_sh[96]? = some (.inl (0, 8)) := by decide +kernel
theorem q_s97 : q_sh[97]? = some (.inl (0, 48)) := by decide +kernel
theorem q_s98 : q_sh[98]? = some (.inl (0, 48)) := by decide +kernel
theorem q_s99 : q_sh[99]? = some (.inl (0, 6)) := by decide +kernel
theorem q_s100 : q_sh[100]? = some (.inl (0, 6)) := by decide +kernel
theorem q_s101 : q_sh[101]? = some (.inl (1, 6)) := by decide +kernel
theorem q_s102 : q_sh[102]? = some (.inr (5, [some 1, none, none])) := by decide +kernel
theorem q_s103 : q_sh[103]? = some (.inr (4, [some 104, none, none, none, none, none, some 105, some 106, some 107, some 108])) := by decide +kernel
theorem q_s104 : q_sh[104]? = some (.inl (2, 60)) := by decide +kernel
theorem q_s105 : q_sh[105]? = some (.inl (0, 30)) := by decide +kernel
theorem q_s106 : q_sh[106]? = some (.inl (0, 30)) := by decide +kernel
theorem q_s107 : q_sh[107]? = some (.inl (0, 30)) := by decide +kernel
theorem q_s108 : q_sh[108]? = some (.inl (0, 30)) := by decide +kernel
theorem q_s109 : q_sh[109]? = some (.inr (0, [some 1, some 102])) := by decide +kernel
theorem q_s110 : q_sh[110]? = some (.inr (3, [some 111, none])) := by decide +kernel
theorem q_s111 : q_sh[111]? = some (.inl (2, 39)) := by decide +kernel
def q_arr (ad : Nat → Nat) (t : Nat) (f : Nat → Int32) (L : q_L) : (Nat → Int32) ⊕ (Nat → Int64) ⊕ (Nat → UInt32) ⊕ (Nat → UInt64) ⊕ (Nat → Option Nat) := match t with
  | 3 => .inr (.inr (.inr (.inr (fun j => some (ad (30 + 9 * j))))))
  | 4 => .inr (.inl L.1)
  | _ => .inl f
def q_fv (ad : Nat → Nat) (f : Nat → Int32) : Nat → List (Option Nat) → List Value
  | _, [] => []
  | j, none :: r => .int (f j) :: q_fv ad f (j + 1) r
  | j, some k :: r => .ref (ad k) :: q_fv ad f (j + 1) r
def q_cell (cy : Nat → ClassId) (ad : Nat → Nat) (L : q_L) (f : Nat → Int32) (sh : q_Sh) : va_E := match sh with
  | .inl (t, n) => .inl (cy t, n, q_arr ad t f L)
  | .inr (ci, fs) => .inr (ci, q_fv ad f 0 fs)
def q_wl (cy : Nat → ClassId) (ad : Nat → Nat) (L : q_L) (S : q_St) : va_W := q_sh.zipIdx.map (fun q => (ad q.2, q_cell cy ad L (S q.2) q.1))
def q_p (S : q_St) (k i : Nat) (v : Int32) : q_St := fun j => if j = k then upd (S k) i v else S j
def q_u (S : q_St) (k : Nat) (f : Nat → Int32) : q_St := fun j => if j = k then f else S j
def q_gv (ad : Nat → Nat) : Value → Value
  | .ref k => .ref (ad k)
  | v => v
def q_tys (cy : Nat → ClassId) : List (ClassId × FieldType) := [(cy 0, .int), (cy 1, .boolean), (cy 2, .char), (cy 3, .object "GuildSeals$Council"), (cy 4, .long), (cy 5, .byte)]
theorem q_p_u (S : q_St) (k i : Nat) (v : Int32) : q_p S k i v = q_u S k (upd (S k) i v) := rfl
theorem q_wl_get {cy : Nat → ClassId} {ad : Nat → Nat} {L : q_L} {S : q_St} {k : Nat} {sh : q_Sh} (h : q_sh[k]? = some sh) : (q_wl cy ad L S)[k]? = some (ad k, q_cell cy ad L (S k) sh) := by
  unfold q_wl
  rw [List.getElem?_map, List.getElem?_zipIdx, h]
  simp
theorem q_wl_inv {cy : Nat → ClassId} {ad : Nat → Nat} {L : q_L} {S : q_St} {k : Nat} {q : Nat × va_E} (h : (q_wl cy ad L S)[k]? = some q) : k < 112 ∧ ∃ sh, q_sh[k]? = some sh ∧ q = (ad k, q_cell cy ad L (S k) sh) := by
  cases e : q_sh[k]? with
  | none =>
    unfold q_wl at h
    rw [List.getElem?_map, List.getElem?_zipIdx, e] at h
    cases h
  | some sh =>
    rw [q_wl_get e] at h
    cases h
    exact ⟨by have := (List.getElem?_eq_some_iff.mp e).1; rw [q_sh_len] at this; exact this, sh, rfl, rfl⟩
theorem q_wl_len {cy : Nat → ClassId} {ad : Nat → Nat} {L : q_L} {S : q_St} : (q_wl cy ad L S).length = 112 := by
  unfold q_wl
  rw [List.length_map, List.length_zipIdx, q_sh_len]
theorem q_wl_set {cy : Nat → ClassId} {ad : Nat → Nat} {L : q_L} {S : q_St} {k : Nat} {sh : q_Sh} {f : Nat → Int32} {e : va_E} (h : q_sh[k]? = some sh) (he : e = q_cell cy ad L f sh) : (q_wl cy ad L S).set k (ad k, e) = q_wl cy ad L (q_u S k f) := by
  subst he
  apply List.ext_getElem?
  intro j
  have hk : k < 112 := by have := (List.getElem?_eq_some_iff.mp h).1; rw [q_sh_len] at this; exact this
  by_cases hj : j = k
  · subst hj
    rw [List.getElem?_set_self (by rw [q_wl_len]; exact hk), q_wl_get h]
    simp [q_u]
  · rw [List.getElem?_set_ne (Ne.symm hj)]
    cases e : q_sh[j]? with
    | none =>
      have h1 : 112 ≤ j := by
        have := List.getElem?_eq_none_iff.mp e
        rw [q_sh_len] at this; exact this
      rw [List.getElem?_eq_none_iff.mpr (by rw [q_wl_len]; exact h1), List.getElem?_eq_none_iff.mpr (by rw [q_wl_len]; exact h1)]
    | some sj =>
      rw [q_wl_get e, q_wl_get e]
      simp [q_u, hj]
theorem q_fv_get (ad : Nat → Nat) (f : Nat → Int32) : ∀ (fs : List (Option Nat)) (o j : Nat), (fs[j]? = some none → (q_fv ad f o fs)[j]? = some (.int (f (o + j)))) ∧ ∀ k, fs[j]? = some (some k) → (q_fv ad f o fs)[j]? = some (.ref (ad k))
  | [], o, j => ⟨fun h => by simp at h, fun k h => by simp at h⟩
  | x :: r, o, j => by
    cases j with
    | zero =>
      cases x with
      | none => exact ⟨fun _ => rfl, fun k h => by simp at h⟩
      | some y => exact ⟨fun h => by simp at h, fun k h => by simp at h; subst h; rfl⟩
    | succ j =>
      have ih := q_fv_get ad f r (o + 1) j
      have e : o + 1 + j = o + (j + 1) := by omega
      rw [e] at ih
      cases x with
      | none => exact ⟨fun h => ih.1 (by simpa using h), fun k h => ih.2 k (by simpa using h)⟩
      | some y => exact ⟨fun h => ih.1 (by simpa using h), fun k h => ih.2 k (by simpa using h)⟩
theorem q_fv_len (ad : Nat → Nat) (f : Nat → Int32) : ∀ (fs : List (Option Nat)) (o : Nat), (q_fv ad f o fs).length = fs.length
  | [], _ => rfl
  | none :: r, o => by simp [q_fv, q_fv_len ad f r (o + 1)]
  | some _ :: r, o => by simp [q_fv, q_fv_len ad f r (o + 1)]
theorem q_fv_low (ad : Nat → Nat) (f : Nat → Int32) (v : Int32) (i : Nat) : ∀ (fs : List (Option Nat)) (o : Nat), i < o → q_fv ad (upd f i v) o fs = q_fv ad f o fs
  | [], _, _ => rfl
  | none :: r, o, h => by
    have h2 : o ≠ i := by omega
    simp [q_fv, q_fv_low ad f v i r (o + 1) (by omega), upd, h2]
  | some _ :: r, o, h => by simp [q_fv, q_fv_low ad f v i r (o + 1) (by omega)]
theorem q_fv_set (ad : Nat → Nat) (f : Nat → Int32) (v : Int32) : ∀ (fs : List (Option Nat)) (o j : Nat), fs[j]? = some none → (q_fv ad f o fs).set j (.int v) = q_fv ad (upd f (o + j) v) o fs
  | [], o, j, h => by simp at h
  | x :: r, o, j, h => by
    cases j with
    | zero =>
      cases x with
      | none => simp [q_fv, q_fv_low ad f v o r (o + 1) (by omega), upd]
      | some y => simp at h
    | succ j =>
      have ih := q_fv_set ad f v r (o + 1) j (by simpa using h)
      have e : o + 1 + j = o + (j + 1) := by omega
      rw [e] at ih
      have h2 : o ≠ o + (j + 1) := by omega
      cases x with
      | none => simp [q_fv, ih, upd, h2]
      | some y => simp [q_fv, ih]
theorem q_wl_D {cy : Nat → ClassId} {ad : Nat → Nat} {L : q_L} {S : q_St} {A : Nat → Prop} (h1 : ∀ i j, i < 112 → j < 112 → ad i = ad j → i = j) (h2 : ∀ k, k < 112 → A (ad k)) : va_D A (q_wl cy ad L S) := by
  refine ⟨fun i j x y hi hj hxy => ?_, fun k q hk => ?_⟩
  · obtain ⟨a1, _, _, rfl⟩ := q_wl_inv hi
    obtain ⟨a2, _, _, rfl⟩ := q_wl_inv hj
    exact h1 i j a1 a2 hxy
  · obtain ⟨a1, _, _, rfl⟩ := q_wl_inv hk
    exact h2 k a1
theorem q_not3 : ∀ t : Nat, t ≠ 3 → t ≠ 4 → t ≠ 5 → ∀ (ad : Nat → Nat) (f : Nat → Int32) (L : q_L), q_arr ad t f L = .inl f := by
  intro t h1 h2 h3 ad f L
  unfold q_arr
  split <;> first | omega | rfl
/-- the locals: a list of places and values -/
def q_lk (i : Nat) : List (Nat × Value) → Option Value
  | [] => none
  | q :: r => match Nat.beq i q.1 with
    | true => some q.2
    | false => q_lk i r
theorem q_lk_mem {i : Nat} {v : Value} : ∀ {l : List (Nat × Value)}, q_lk i l = some v → (i, v) ∈ l
  | [], h => by cases h
  | q :: r, h => by
    unfold q_lk at h
    split at h
    · rename_i hb
      have h1 := Nat.eq_of_beq_eq_true hb
      cases h
      rw [h1]
      exact List.mem_cons_self
    · exact List.mem_cons_of_mem _ (q_lk_mem h)
def q_ml (ad : Nat → Nat) (l : List (Nat × Value)) : List (Nat × Value) := l.map fun q => (q.1, q_gv ad q.2)
theorem q_gv_cat (ad : Nat → Nat) (v : Value) : (q_gv ad v).category = v.category := by cases v <;> rfl
def q_lf (i : Nat) (l : List (Nat × Value)) : List (Nat × Value) := l.filter (fun q => !(q.1 == i) && !(q.1 + 1 == i && q.2.category == 2))
theorem q_ml_lf (ad : Nat → Nat) (i : Nat) : ∀ l : List (Nat × Value), (q_ml ad l).filter (fun q => !(q.1 == i) && !(q.1 + 1 == i && q.2.category == 2)) = q_ml ad (q_lf i l) := by
  intro l
  unfold q_ml q_lf
  rw [List.filter_map]
  congr 1
  apply List.filter_congr
  intro q _
  simp [q_gv_cat]
theorem q_has {ls : Array Slot} {nL i : Nat} {ad : Nat → Nat} {l : List (Nat × Value)} {v : Value} (h : lv_has ls nL (q_ml ad l)) (hk : q_lk i l = some v) : ls[i]? = some (.val (q_gv ad v)) :=
  h.2.2 (i, q_gv ad v) (List.mem_map.mpr ⟨(i, v), q_lk_mem hk, rfl⟩)
theorem q_lv_sub {ls : Array Slot} {nL : Nat} {l l' : List (Nat × Value)} (h : lv_has ls nL l) (hs : ∀ q ∈ l', q ∈ l) : lv_has ls nL l' := ⟨h.1, h.2.1, fun q hq => h.2.2 q (hs q hq)⟩
/-- the String that a method of the law is given: its bytes -/
def q_dy (ad : Nat → Nat) (bs : List Int32) (A : Nat → Prop) (U : State) (H : Heap) : Prop := va_O "java/lang/String" (ad 229) A U H ∧ va_OF "java/lang/String" "coder" "B" (.int 0) (ad 229) A U H ∧ va_OF "java/lang/String" "value" "[B" (.ref (ad 243)) (ad 229) A U H ∧ va_T .byte (ad 243) bs.length (fun j => .int (bs.getD j 0)) A U H
theorem q_dy.moved {ad : Nat → Nat} {bs : List Int32} {A : Nat → Prop} {u U : State} {H : Heap} (hvm : u.vm.Alike U.vm) (h : q_dy ad bs A u H) : q_dy ad bs A U H := ⟨va_O.moved hvm h.1, va_OF.moved hvm h.2.1, va_OF.moved hvm h.2.2.1, va_T.moved hvm h.2.2.2⟩
theorem q_dy.kept {ad : Nat → Nat} {bs : List Int32} {A : Nat → Prop} {U : State} {H H1 : Heap} (h : q_dy ad bs A U H) (hq : ∀ a : Nat, a < H.size → ¬ A a → H1[a]? = H[a]?) : q_dy ad bs A U H1 := ⟨h.1.kept hq, h.2.1.kept hq, h.2.2.1.kept hq, h.2.2.2.kept hq⟩
theorem q_dy.narrow {ad : Nat → Nat} {bs : List Int32} {A B : Nat → Prop} {U : State} {H : Heap} (h : q_dy ad bs A U H) (hAB : ∀ q, B q → A q) : q_dy ad bs B U H := ⟨h.1.narrow hAB, h.2.1.narrow hAB, h.2.2.1.narrow hAB, h.2.2.2.narrow hAB⟩
/-- how many slots a cell has -/
def q_sz (a n : Nat) (A : Nat → Prop) (H : Heap) : Prop := (∃ cell : Cell, H[a]? = some cell ∧ cell.slots.size = n) ∧ ¬ A a
theorem q_sz.kept {a n : Nat} {A : Nat → Prop} {H H1 : Heap} (h : q_sz a n A H) (hq : ∀ a : Nat, a < H.size → ¬ A a → H1[a]? = H[a]?) : q_sz a n A H1 := by
  obtain ⟨⟨cell, h1, h2⟩, h3⟩ := h
  exact ⟨⟨cell, by rw [hq a (Array.getElem?_eq_some_iff.mp h1).1 h3]; exact h1, h2⟩, h3⟩
theorem q_sz.narrow {a n : Nat} {A B : Nat → Prop} {H : Heap} (h : q_sz a n A H) (hAB : ∀ q, B q → A q) : q_sz a n B H := ⟨h.1, fun q => h.2 (hAB a q)⟩
/-- a table of Integer's -/
def q_tb (nm : String) (t : Nat) (f : Nat → Int32) (A : Nat → Prop) (U : State) (H : Heap) : Prop := va_Z "java/lang/Integer" nm "[B" (.ref t) A U H ∧ va_T .byte t 100 (fun j => .int (f j)) A U H ∧ q_sz t 100 A H
theorem q_tb.moved {nm : String} {t : Nat} {f : Nat → Int32} {A : Nat → Prop} {u U : State} {H : Heap} (hvm : u.vm.Alike U.vm) (h : q_tb nm t f A u H) : q_tb nm t f A U H := ⟨va_Z.moved hvm h.1, va_T.moved hvm h.2.1, h.2.2⟩
theorem q_tb.kept {nm : String} {t : Nat} {f : Nat → Int32} {A : Nat → Prop} {U : State} {H H1 : Heap} (h : q_tb nm t f A U H) (hq : ∀ a : Nat, a < H.size → ¬ A a → H1[a]? = H[a]?) : q_tb nm t f A U H1 := ⟨va_Z.kept h.1 hq, h.2.1.kept hq, h.2.2.kept hq⟩
theorem q_tb.narrow {nm : String} {t : Nat} {f : Nat → Int32} {A B : Nat → Prop} {U : State} {H : Heap} (h : q_tb nm t f A U H) (hAB : ∀ q, B q → A q) : q_tb nm t f B U H := ⟨va_Z.narrow h.1 hAB, h.2.1.narrow hAB, h.2.2.narrow hAB⟩
def q_ones (j : Nat) : Int32 := Int32.ofNat (48 + j % 10)
def q_tens (j : Nat) : Int32 := Int32.ofNat (48 + j / 10)
/-- what the law's own methods of text stand on -/
def q_E2 (ad : Nat → Nat) (L : q_L) (A : Nat → Prop) (U : State) (H : Heap) : Prop := (∀ i : Nat, i < 13 → q_sz (ad (230 + i)) (q_len.getD i 0) A H) ∧ q_tb "DigitOnes" (ad 260) q_ones A U H ∧ q_tb "DigitTens" (ad 261) q_tens A U H ∧ (L.2 ≠ [] → q_dy ad L.2 A U H)
theorem q_E2.moved {ad : Nat → Nat} {L : q_L} {A : Nat → Prop} {u U : State} {H : Heap} (hvm : u.vm.Alike U.vm) (h : q_E2 ad L A u H) : q_E2 ad L A U H := ⟨h.1, h.2.1.moved hvm, h.2.2.1.moved hvm, fun q => (h.2.2.2 q).moved hvm⟩
theorem q_E2.kept {ad : Nat → Nat} {L : q_L} {A : Nat → Prop} {U : State} {H H1 : Heap} (h : q_E2 ad L A U H) (hq : ∀ a : Nat, a < H.size → ¬ A a → H1[a]? = H[a]?) : q_E2 ad L A U H1 := ⟨fun i hi => (h.1 i hi).kept hq, h.2.1.kept hq, h.2.2.1.kept hq, fun q => (h.2.2.2 q).kept hq⟩
theorem q_E2.narrow {ad : Nat → Nat} {L : q_L} {A B : Nat → Prop} {U : State} {H : Heap} (h : q_E2 ad L A U H) (hAB : ∀ q, B q → A q) : q_E2 ad L B U H := ⟨fun i hi => (h.1 i hi).narrow hAB, h.2.1.narrow hAB, h.2.2.1.narrow hAB, fun q => (h.2.2.2 q).narrow hAB⟩
/-- what stands outside the world: the String constants, some statics, what isn't castable -/
def q_E (ad : Nat → Nat) (L : q_L) (A : Nat → Prop) (U : State) (H : Heap) : Prop :=
  vk_S 13 q_len q_byt (fun i => ad (200 + i)) (fun i => ad (230 + i)) A U H ∧ (∀ (i : Nat) (q : String × Nat × String), q_strs[i]? = some q → vk_R q.1 q.2.1 q.2.2 (ad (200 + i)) U) ∧ va_Z "java/lang/String" "COMPACT_STRINGS" "Z" (.int 1) A U H ∧ (va_Z "jdk/internal/util/Preconditions" "SIOOBE_FORMATTER" "Ljava/util/function/BiFunction;" .null A U H ∨ va_Z "jdk/internal/util/Preconditions" "SIOOBE_FORMATTER" "Ljava/util/function/BiFunction;" (.ref (ad 299)) A U H) ∧ vx_Zq Bundle.tN "UNASSIGNED_STACK" Bundle.steD A U H ∧ vx_Zq Bundle.tN "SUPPRESSED_SENTINEL" Bundle.listD A U H ∧ (∀ q ∈ q_ncs, va_Nc q.1 q.2 U) ∧ q_E2 ad L A U H
theorem q_E.go {ad : Nat → Nat} {L : q_L} {A B : Nat → Prop} {s U : State} {H : Heap} (h : q_E ad L A s s.heap) (hq : ∀ a : Nat, a < s.heap.size → ¬ A a → H[a]? = s.heap[a]?) (hAB : ∀ q, B q → A q) (hW : s.WarmedH U.vm) : q_E ad L B U H := by
  obtain ⟨h1, h2, h3, h4, h5, h6, h7, h8⟩ := h
  refine ⟨vk_S.narrow (vk_S.moved hW.alike (vk_S.kept h1 hq)) hAB, fun i q e => (h2 i q e).warm hW, va_Z.narrow (va_Z.moved hW.alike (va_Z.kept h3 hq)) hAB, ?_, vx_Zq.narrow (vx_Zq.moved hW.alike (vx_Zq.kept h5 hq)) hAB, vx_Zq.narrow (vx_Zq.moved hW.alike (vx_Zq.kept h6 hq)) hAB, fun q hm => va_Nc.moved hW.alike (h7 q hm), ((h8.kept hq).moved hW.alike).narrow hAB⟩
  rcases h4 with h4 | h4
  · exact Or.inl (va_Z.narrow (va_Z.moved hW.alike (va_Z.kept h4 hq)) hAB)
  · exact Or.inr (va_Z.narrow (va_Z.moved hW.alike (va_Z.kept h4 hq)) hAB)
theorem q_E.same {ad : Nat → Nat} {L : q_L} {A : Nat → Prop} {u U : State} {H : Heap} (hv : U.vm = u.vm) (h : q_E ad L A u H) : q_E ad L A U H := by
  have ha : u.vm.Alike U.vm := by rw [hv]; exact Vm.Alike.refl u.vm
  obtain ⟨h1, h2, h3, h4, h5, h6, h7, h8⟩ := h
  refine ⟨vk_S.moved ha h1, fun i q e => vk_R.same hv (h2 i q e), va_Z.moved ha h3, ?_, vx_Zq.moved ha h5, vx_Zq.moved ha h6, fun q hm => va_Nc.moved ha (h7 q hm), h8.moved ha⟩
  rcases h4 with h4 | h4
  · exact Or.inl (va_Z.moved ha h4)
  · exact Or.inr (va_Z.moved ha h4)
abbrev q_K : Type := Program × Env × Room × State × MethodId × Array Value × List Frame × Method × Code × Nat × Nat × (State → Prop) × va_G × (Nat → ClassId) × (Nat → Nat) × (Nat → Prop) × Nat × q_L
/-- the judgement: from pc, with these locals and this stack, over every heap that holds the world of S -/
def q_V (l : Launch) (K : q_K) (pc : Nat) (lv : List (Nat × Value)) (st : List Value) (S : q_St) : Prop :=
  match K with
  | (p, e, R, s, m, args, below, meth, c, cells, slots, Q, D, cy, ad, A, nL, L) => ∀ (H : Heap) (locs : List Loc) (ls : Array Slot), va_P D q_cl (q_wl cy ad L S) H → va_S A s.heap H locs → lv_has ls nL (q_ml ad lv) → W p l e R s m args below meth c H locs cells slots Q (F0 m pc ls (st.map (q_gv ad)))
/-- what stands through a method -/
def q_Cx (K : q_K) (cc : ByteArray) (own : String) (dd : Nat) (n0 : Nat) : Prop :=
  match K with
  | (p, e, R, s, m, args, below, meth, c, cells, slots, Q, D, cy, ad, A, nL, L) => p.tables.exec = Jvm.exec ∧ c.code = cc ∧ c.maxLocals = nL ∧ nL = n0 ∧ s.vm.findClass own = some m.cls ∧ (∀ w ∈ q_WS, w.before args s = true) ∧ va_K D q_cl (q_tys cy) s ∧ (∀ i j, i < 112 → j < 112 → ad i = ad j → i = j) ∧ (∀ k, k < 112 → A (ad k)) ∧ (∀ q, s.heap.size ≤ q → A q) ∧ dd ≤ R.frames ∧ 40 * dd ≤ R.locals ∧ cells ≤ R.cells ∧ slots ≤ R.slots ∧ q_E ad L A s s.heap
section QV
variable {l : Launch} {K : q_K} {cc : ByteArray} {own : String} {dd n0 pc idx : Nat} {lv : List (Nat × Value)} {st : List Value} {S : q_St}
theorem q_iconst (C : q_Cx K cc own dd n0) {n : Int} {v : Int32} (d : decode cc pc = .ok (.iconst n, 1)) (hv : Int32.ofInt n = v) (k : q_V l K (pc + 1) lv (.int v :: st) S) : q_V l K pc lv st S := by
  obtain ⟨p, e, R, s, m, args, below, meth, c, cells, slots, Q, D, cy, ad, A, nL, L⟩ := K
  obtain ⟨hx, hb, hml, hnl, hown, hts, hK, hi, hA1, hA2, hf1, hf2, hc1, hc2, hE⟩ := C
  intro H locs ls hP hS hl
  exact lv_iconst hx hb d hv (k H locs ls hP hS hl)
theorem q_bipush (C : q_Cx K cc own dd n0) {n : Int} {v : Int32} (d : decode cc pc = .ok (.bipush n, 2)) (hv : (Int8.ofInt n).toInt32 = v) (k : q_V l K (pc + 2) lv (.int v :: st) S) : q_V l K pc lv st S := by
  obtain ⟨p, e, R, s, m, args, below, meth, c, cells, slots, Q, D, cy, ad, A, nL, L⟩ := K
  obtain ⟨hx, hb, hml, hnl, hown, hts, hK, hi, hA1, hA2, hf1, hf2, hc1, hc2, hE⟩ := C
  intro H locs ls hP hS hl
  exact lv_bipush hx hb d hv (k H locs ls hP hS hl)
theorem q_sipush (C : q_Cx K cc own dd n0) {n : Int} {v : Int32} (d : decode cc pc = .ok (.sipush n, 3)) (hv : (Int16.ofInt n).toInt32 = v) (k : q_V l K (pc + 3) lv (.int v :: st) S) : q_V l K pc lv st S := by
  obtain ⟨p, e, R, s, m, args, below, meth, c, cells, slots, Q, D, cy, ad, A, nL, L⟩ := K
  obtain ⟨hx, hb, hml, hnl, hown, hts, hK, hi, hA1, hA2, hf1, hf2, hc1, hc2, hE⟩ := C
  intro H locs ls hP hS hl
  exact lv_sipush hx hb d hv (k H locs ls hP hS hl)
theorem q_iload_n (C : q_Cx K cc own dd n0) {f : Fin 4} {i : Nat} {x : Int32} (d : decode cc pc = .ok (.iload_n f, 1)) (hi9 : (f : Nat) = i) (hk : q_lk i lv = some (.int x)) (k : q_V l K (pc + 1) lv (.int x :: st) S) : q_V l K pc lv st S := by
  obtain ⟨p, e, R, s, m, args, below, meth, c, cells, slots, Q, D, cy, ad, A, nL, L⟩ := K
  obtain ⟨hx, hb, hml, hnl, hown, hts, hK, hi, hA1, hA2, hf1, hf2, hc1, hc2, hE⟩ := C
  intro H locs ls hP hS hl
  exact lv_iload_n hx hb d hi9 (q_has hl hk) (k H locs ls hP hS hl)
theorem q_iload (C : q_Cx K cc own dd n0) {i : Nat} {x : Int32} (d : decode cc pc = .ok (.iload i, 2)) (hk : q_lk i lv = some (.int x)) (k : q_V l K (pc + 2) lv (.int x :: st) S) : q_V l K pc lv st S := by
  obtain ⟨p, e, R, s, m, args, below, meth, c, cells, slots, Q, D, cy, ad, A, nL, L⟩ := K
  obtain ⟨hx, hb, hml, hnl, hown, hts, hK, hi, hA1, hA2, hf1, hf2, hc1, hc2, hE⟩ := C
  intro H locs ls hP hS hl
  exact lv_iload hx hb d (q_has hl hk) (k H locs ls hP hS hl)
theorem q_aload_n (C : q_Cx K cc own dd n0) {f : Fin 4} {i : Nat} {x : Nat} (d : decode cc pc = .ok (.aload_n f, 1)) (hi9 : (f : Nat) = i) (hk : q_lk i lv = some (.ref x)) (k : q_V l K (pc + 1) lv (.ref x :: st) S) : q_V l K pc lv st S := by
  obtain ⟨p, e, R, s, m, args, below, meth, c, cells, slots, Q, D, cy, ad, A, nL, L⟩ := K
  obtain ⟨hx, hb, hml, hnl, hown, hts, hK, hi, hA1, hA2, hf1, hf2, hc1, hc2, hE⟩ := C
  intro H locs ls hP hS hl
  exact lv_aload_n hx hb d hi9 (q_has hl hk) (k H locs ls hP hS hl)
theorem q_aload (C : q_Cx K cc own dd n0) {i : Nat} {x : Nat} (d : decode cc pc = .ok (.aload i, 2)) (hk : q_lk i lv = some (.ref x)) (k : q_V l K (pc + 2) lv (.ref x :: st) S) : q_V l K pc lv st S := by
  obtain ⟨p, e, R, s, m, args, below, meth, c, cells, slots, Q, D, cy, ad, A, nL, L⟩ := K
  obtain ⟨hx, hb, hml, hnl, hown, hts, hK, hi, hA1, hA2, hf1, hf2, hc1, hc2, hE⟩ := C
  intro H locs ls hP hS hl
  exact lv_aload hx hb d (q_has hl hk) (k H locs ls hP hS hl)
theorem q_istore_n (C : q_Cx K cc own dd n0) {f : Fin 4} {i : Nat} {x : Int32} {lv' : List (Nat × Value)} (d : decode cc pc = .ok (.istore_n f, 1)) (hi9 : (f : Nat) = i) (hn : i < n0) (hlv : (i, Value.int x) :: q_lf i lv = lv') (k : q_V l K (pc + 1) lv' st S) : q_V l K pc lv (.int x :: st) S := by
  obtain ⟨p, e, R, s, m, args, below, meth, c, cells, slots, Q, D, cy, ad, A, nL, L⟩ := K
  obtain ⟨hx, hb, hml, hnl, hown, hts, hK, hi, hA1, hA2, hf1, hf2, hc1, hc2, hE⟩ := C
  intro H locs ls hP hS hl
  subst hlv; subst hnl
  exact lv_istore_n hx hb d hi9 hl hn rfl (fun ls' hl' => k H locs ls' hP hS (by rw [q_ml_lf] at hl'; exact hl'))
theorem q_istore (C : q_Cx K cc own dd n0) {i : Nat} {x : Int32} {lv' : List (Nat × Value)} (d : decode cc pc = .ok (.istore i, 2)) (hn : i < n0) (hlv : (i, Value.int x) :: q_lf i lv = lv') (k : q_V l K (pc + 2) lv' st S) : q_V l K pc lv (.int x :: st) S := by
  obtain ⟨p, e, R, s, m, args, below, meth, c, cells, slots, Q, D, cy, ad, A, nL, L⟩ := K
  obtain ⟨hx, hb, hml, hnl, hown, hts, hK, hi, hA1, hA2, hf1, hf2, hc1, hc2, hE⟩ := C
  intro H locs ls hP hS hl
  subst hlv; subst hnl
  exact lv_istore hx hb d hl hn rfl (fun ls' hl' => k H locs ls' hP hS (by rw [q_ml_lf] at hl'; exact hl'))
theorem q_astore_n (C : q_Cx K cc own dd n0) {f : Fin 4} {i : Nat} {x : Nat} {lv' : List (Nat × Value)} (d : decode cc pc = .ok (.astore_n f, 1)) (hi9 : (f : Nat) = i) (hn : i < n0) (hlv : (i, Value.ref x) :: q_lf i lv = lv') (k : q_V l K (pc + 1) lv' st S) : q_V l K pc lv (.ref x :: st) S := by
  obtain ⟨p, e, R, s, m, args, below, meth, c, cells, slots, Q, D, cy, ad, A, nL, L⟩ := K
  obtain ⟨hx, hb, hml, hnl, hown, hts, hK, hi, hA1, hA2, hf1, hf2, hc1, hc2, hE⟩ := C
  intro H locs ls hP hS hl
  subst hlv; subst hnl
  exact lv_astore_n hx hb d hi9 hl hn rfl (fun ls' hl' => k H locs ls' hP hS (by rw [q_ml_lf] at hl'; exact hl'))
theorem q_astore (C : q_Cx K cc own dd n0) {i : Nat} {x : Nat} {lv' : List (Nat × Value)} (d : decode cc pc = .ok (.astore i, 2)) (hn : i < n0) (hlv : (i, Value.ref x) :: q_lf i lv = lv') (k : q_V l K (pc + 2) lv' st S) : q_V l K pc lv (.ref x :: st) S := by
  obtain ⟨p, e, R, s, m, args, below, meth, c, cells, slots, Q, D, cy, ad, A, nL, L⟩ := K
  obtain ⟨hx, hb, hml, hnl, hown, hts, hK, hi, hA1, hA2, hf1, hf2, hc1, hc2, hE⟩ := C
  intro H locs ls hP hS hl
  subst hlv; subst hnl
  exact lv_astore hx hb d hl hn rfl (fun ls' hl' => k H locs ls' hP hS (by rw [q_ml_lf] at hl'; exact hl'))
theorem q_iinc (C : q_Cx K cc own dd n0) {i : Nat} {n : Int} {x v : Int32} {lv' : List (Nat × Value)} (d : decode cc pc = .ok (.iinc i n, 3)) (hk : q_lk i lv = some (.int x)) (hv : x + Int32.ofInt n = v) (hn : i < n0) (hlv : (i, Value.int v) :: q_lf i lv = lv') (k : q_V l K (pc + 3) lv' st S) : q_V l K pc lv st S := by
  obtain ⟨p, e, R, s, m, args, below, meth, c, cells, slots, Q, D, cy, ad, A, nL, L⟩ := K
  obtain ⟨hx, hb, hml, hnl, hown, hts, hK, hi, hA1, hA2, hf1, hf2, hc1, hc2, hE⟩ := C
  intro H locs ls hP hS hl
  subst hlv; subst hnl
  obtain ⟨k0, hk0⟩ := List.getElem?_of_mem (List.mem_map.mpr ⟨(i, .int x), q_lk_mem hk, rfl⟩ : (i, Value.int x) ∈ q_ml ad lv)
  exact lv_iinc hx hb d hl hk0 hv hn rfl (fun ls' hl' => k H locs ls' hP hS (by rw [q_ml_lf] at hl'; exact hl'))
theorem q_iadd (C : q_Cx K cc own dd n0) {x y : Int32} (d : decode cc pc = .ok (.iadd, 1)) (k : q_V l K (pc + 1) lv (.int (x + y) :: st) S) : q_V l K pc lv (.int y :: .int x :: st) S := by
  obtain ⟨p, e, R, s, m, args, below, meth, c, cells, slots, Q, D, cy, ad, A, nL, L⟩ := K
  obtain ⟨hx, hb, hml, hnl, hown, hts, hK, hi, hA1, hA2, hf1, hf2, hc1, hc2, hE⟩ := C
  intro H locs ls hP hS hl
  exact lv_iadd hx hb d (k H locs ls hP hS hl)
theorem q_isub (C : q_Cx K cc own dd n0) {x y : Int32} (d : decode cc pc = .ok (.isub, 1)) (k : q_V l K (pc + 1) lv (.int (x - y) :: st) S) : q_V l K pc lv (.int y :: .int x :: st) S := by
  obtain ⟨p, e, R, s, m, args, below, meth, c, cells, slots, Q, D, cy, ad, A, nL, L⟩ := K
  obtain ⟨hx, hb, hml, hnl, hown, hts, hK, hi, hA1, hA2, hf1, hf2, hc1, hc2, hE⟩ := C
  intro H locs ls hP hS hl
  exact lv_isub hx hb d (k H locs ls hP hS hl)
theorem q_imul (C : q_Cx K cc own dd n0) {x y : Int32} (d : decode cc pc = .ok (.imul, 1)) (k : q_V l K (pc + 1) lv (.int (x * y) :: st) S) : q_V l K pc lv (.int y :: .int x :: st) S := by
  obtain ⟨p, e, R, s, m, args, below, meth, c, cells, slots, Q, D, cy, ad, A, nL, L⟩ := K
  obtain ⟨hx, hb, hml, hnl, hown, hts, hK, hi, hA1, hA2, hf1, hf2, hc1, hc2, hE⟩ := C
  intro H locs ls hP hS hl
  exact lv_imul hx hb d (k H locs ls hP hS hl)
theorem q_iand (C : q_Cx K cc own dd n0) {x y : Int32} (d : decode cc pc = .ok (.iand, 1)) (k : q_V l K (pc + 1) lv (.int (x &&& y) :: st) S) : q_V l K pc lv (.int y :: .int x :: st) S := by
  obtain ⟨p, e, R, s, m, args, below, meth, c, cells, slots, Q, D, cy, ad, A, nL, L⟩ := K
  obtain ⟨hx, hb, hml, hnl, hown, hts, hK, hi, hA1, hA2, hf1, hf2, hc1, hc2, hE⟩ := C
  intro H locs ls hP hS hl
  exact lv_iand hx hb d (k H locs ls hP hS hl)
theorem q_ior (C : q_Cx K cc own dd n0) {x y : Int32} (d : decode cc pc = .ok (.ior, 1)) (k : q_V l K (pc + 1) lv (.int (x ||| y) :: st) S) : q_V l K pc lv (.int y :: .int x :: st) S := by
  obtain ⟨p, e, R, s, m, args, below, meth, c, cells, slots, Q, D, cy, ad, A, nL, L⟩ := K
  obtain ⟨hx, hb, hml, hnl, hown, hts, hK, hi, hA1, hA2, hf1, hf2, hc1, hc2, hE⟩ := C
  intro H locs ls hP hS hl
  exact lv_ior hx hb d (k H locs ls hP hS hl)
theorem q_ixor (C : q_Cx K cc own dd n0) {x y : Int32} (d : decode cc pc = .ok (.ixor, 1)) (k : q_V l K (pc + 1) lv (.int (x ^^^ y) :: st) S) : q_V l K pc lv (.int y :: .int x :: st) S := by
  obtain ⟨p, e, R, s, m, args, below, meth, c, cells, slots, Q, D, cy, ad, A, nL, L⟩ := K
  obtain ⟨hx, hb, hml, hnl, hown, hts, hK, hi, hA1, hA2, hf1, hf2, hc1, hc2, hE⟩ := C
  intro H locs ls hP hS hl
  exact lv_ixor hx hb d (k H locs ls hP hS hl)
theorem q_ishl (C : q_Cx K cc own dd n0) {x y : Int32} (d : decode cc pc = .ok (.ishl, 1)) (k : q_V l K (pc + 1) lv (.int (x <<< (y &&& 31)) :: st) S) : q_V l K pc lv (.int y :: .int x :: st) S := by
  obtain ⟨p, e, R, s, m, args, below, meth, c, cells, slots, Q, D, cy, ad, A, nL, L⟩ := K
  obtain ⟨hx, hb, hml, hnl, hown, hts, hK, hi, hA1, hA2, hf1, hf2, hc1, hc2, hE⟩ := C
  intro H locs ls hP hS hl
  exact lv_ishl hx hb d (k H locs ls hP hS hl)
theorem q_idiv (C : q_Cx K cc own dd n0) {x y : Int32} (h0 : ¬ y = 0) (d : decode cc pc = .ok (.idiv, 1)) (k : q_V l K (pc + 1) lv (.int (x / y) :: st) S) : q_V l K pc lv (.int y :: .int x :: st) S := by
  obtain ⟨p, e, R, s, m, args, below, meth, c, cells, slots, Q, D, cy, ad, A, nL, L⟩ := K
  obtain ⟨hx, hb, hml, hnl, hown, hts, hK, hi, hA1, hA2, hf1, hf2, hc1, hc2, hE⟩ := C
  intro H locs ls hP hS hl
  exact lv_idiv hx hb d h0 (k H locs ls hP hS hl)
theorem q_irem (C : q_Cx K cc own dd n0) {x y : Int32} (h0 : ¬ y = 0) (d : decode cc pc = .ok (.irem, 1)) (k : q_V l K (pc + 1) lv (.int (x - x / y * y) :: st) S) : q_V l K pc lv (.int y :: .int x :: st) S := by
  obtain ⟨p, e, R, s, m, args, below, meth, c, cells, slots, Q, D, cy, ad, A, nL, L⟩ := K
  obtain ⟨hx, hb, hml, hnl, hown, hts, hK, hi, hA1, hA2, hf1, hf2, hc1, hc2, hE⟩ := C
  intro H locs ls hP hS hl
  exact lv_irem hx hb d h0 (k H locs ls hP hS hl)
theorem q_ineg (C : q_Cx K cc own dd n0) {x : Int32} (d : decode cc pc = .ok (.ineg, 1)) (k : q_V l K (pc + 1) lv (.int (-x) :: st) S) : q_V l K pc lv (.int x :: st) S := by
  obtain ⟨p, e, R, s, m, args, below, meth, c, cells, slots, Q, D, cy, ad, A, nL, L⟩ := K
  obtain ⟨hx, hb, hml, hnl, hown, hts, hK, hi, hA1, hA2, hf1, hf2, hc1, hc2, hE⟩ := C
  intro H locs ls hP hS hl
  exact lv_ineg hx hb d (k H locs ls hP hS hl)
theorem q_i2c (C : q_Cx K cc own dd n0) {x v : Int32} (hv : (x.toUInt32 % 65536).toInt32 = v) (d : decode cc pc = .ok (.i2c, 1)) (k : q_V l K (pc + 1) lv (.int v :: st) S) : q_V l K pc lv (.int x :: st) S := by
  obtain ⟨p, e, R, s, m, args, below, meth, c, cells, slots, Q, D, cy, ad, A, nL, L⟩ := K
  obtain ⟨hx, hb, hml, hnl, hown, hts, hK, hi, hA1, hA2, hf1, hf2, hc1, hc2, hE⟩ := C
  intro H locs ls hP hS hl
  exact lv_i2c hx hb d hv (k H locs ls hP hS hl)
theorem q_dup (C : q_Cx K cc own dd n0) {v : Value} (hc : v.category = 1) (d : decode cc pc = .ok (.dup, 1)) (k : q_V l K (pc + 1) lv (v :: v :: st) S) : q_V l K pc lv (v :: st) S := by
  obtain ⟨p, e, R, s, m, args, below, meth, c, cells, slots, Q, D, cy, ad, A, nL, L⟩ := K
  obtain ⟨hx, hb, hml, hnl, hown, hts, hK, hi, hA1, hA2, hf1, hf2, hc1, hc2, hE⟩ := C
  intro H locs ls hP hS hl
  exact lv_dup hx hb d ((q_gv_cat ad v).trans hc) (k H locs ls hP hS hl)
theorem q_pop (C : q_Cx K cc own dd n0) {v : Value} (hc : v.category = 1) (d : decode cc pc = .ok (.pop, 1)) (k : q_V l K (pc + 1) lv st S) : q_V l K pc lv (v :: st) S := by
  obtain ⟨p, e, R, s, m, args, below, meth, c, cells, slots, Q, D, cy, ad, A, nL, L⟩ := K
  obtain ⟨hx, hb, hml, hnl, hown, hts, hK, hi, hA1, hA2, hf1, hf2, hc1, hc2, hE⟩ := C
  intro H locs ls hP hS hl
  exact lv_pop hx hb d ((q_gv_cat ad v).trans hc) (k H locs ls hP hS hl)
theorem q_dup2 (C : q_Cx K cc own dd n0) {v u : Value} (hcv : v.category = 1) (hcu : u.category = 1) (d : decode cc pc = .ok (.dup2, 1)) (k : q_V l K (pc + 1) lv (v :: u :: v :: u :: st) S) : q_V l K pc lv (v :: u :: st) S := by
  obtain ⟨p, e, R, s, m, args, below, meth, c, cells, slots, Q, D, cy, ad, A, nL, L⟩ := K
  obtain ⟨hx, hb, hml, hnl, hown, hts, hK, hi, hA1, hA2, hf1, hf2, hc1, hc2, hE⟩ := C
  intro H locs ls hP hS hl
  exact lv_dup2_11 hx hb d ((q_gv_cat ad v).trans hcv) ((q_gv_cat ad u).trans hcu) (k H locs ls hP hS hl)
theorem q_if_eq (C : q_Cx K cc own dd n0) {x : Int32} {off : Int} {tgt : Nat} (d : decode cc pc = .ok (.ifCond .eq off, 3)) (ht : (pc : Int) + off = (tgt : Int)) (kt : x = 0 → q_V l K tgt lv st S) (kf : x ≠ 0 → q_V l K (pc + 3) lv st S) : q_V l K pc lv (.int x :: st) S := by
  obtain ⟨p, e, R, s, m, args, below, meth, c, cells, slots, Q, D, cy, ad, A, nL, L⟩ := K
  obtain ⟨hx, hb, hml, hnl, hown, hts, hK, hi, hA1, hA2, hf1, hf2, hc1, hc2, hE⟩ := C
  intro H locs ls hP hS hl
  exact lv_if_eq hx hb d ht (fun h => kt h H locs ls hP hS hl) (fun h => kf h H locs ls hP hS hl)
theorem q_icmp_eq (C : q_Cx K cc own dd n0) {x y : Int32} {off : Int} {tgt : Nat} (d : decode cc pc = .ok (.if_icmp .eq off, 3)) (ht : (pc : Int) + off = (tgt : Int)) (kt : x = y → q_V l K tgt lv st S) (kf : x ≠ y → q_V l K (pc + 3) lv st S) : q_V l K pc lv (.int y :: .int x :: st) S := by
  obtain ⟨p, e, R, s, m, args, below, meth, c, cells, slots, Q, D, cy, ad, A, nL, L⟩ := K
  obtain ⟨hx, hb, hml, hnl, hown, hts, hK, hi, hA1, hA2, hf1, hf2, hc1, hc2, hE⟩ := C
  intro H locs ls hP hS hl
  exact lv_icmp_eq hx hb d ht (fun h => kt h H locs ls hP hS hl) (fun h => kf h H locs ls hP hS hl)
theorem q_if_ne (C : q_Cx K cc own dd n0) {x : Int32} {off : Int} {tgt : Nat} (d : decode cc pc = .ok (.ifCond .ne off, 3)) (ht : (pc : Int) + off = (tgt : Int)) (kt : x ≠ 0 → q_V l K tgt lv st S) (kf : x = 0 → q_V l K (pc + 3) lv st S) : q_V l K pc lv (.int x :: st) S := by
  obtain ⟨p, e, R, s, m, args, below, meth, c, cells, slots, Q, D, cy, ad, A, nL, L⟩ := K
  obtain ⟨hx, hb, hml, hnl, hown, hts, hK, hi, hA1, hA2, hf1, hf2, hc1, hc2, hE⟩ := C
  intro H locs ls hP hS hl
  exact lv_if_ne hx hb d ht (fun h => kt h H locs ls hP hS hl) (fun h => kf h H locs ls hP hS hl)
theorem q_icmp_ne (C : q_Cx K cc own dd n0) {x y : Int32} {off : Int} {tgt : Nat} (d : decode cc pc = .ok (.if_icmp .ne off, 3)) (ht : (pc : Int) + off = (tgt : Int)) (kt : x ≠ y → q_V l K tgt lv st S) (kf : x = y → q_V l K (pc + 3) lv st S) : q_V l K pc lv (.int y :: .int x :: st) S := by
  obtain ⟨p, e, R, s, m, args, below, meth, c, cells, slots, Q, D, cy, ad, A, nL, L⟩ := K
  obtain ⟨hx, hb, hml, hnl, hown, hts, hK, hi, hA1, hA2, hf1, hf2, hc1, hc2, hE⟩ := C
  intro H locs ls hP hS hl
  exact lv_icmp_ne hx hb d ht (fun h => kt h H locs ls hP hS hl) (fun h => kf h H locs ls hP hS hl)
theorem q_if_lt (C : q_Cx K cc own dd n0) {x : Int32} {off : Int} {tgt : Nat} (d : decode cc pc = .ok (.ifCond .lt off, 3)) (ht : (pc : Int) + off = (tgt : Int)) (kt : x < 0 → q_V l K tgt lv st S) (kf : 0 ≤ x → q_V l K (pc + 3) lv st S) : q_V l K pc lv (.int x :: st) S := by
  obtain ⟨p, e, R, s, m, args, below, meth, c, cells, slots, Q, D, cy, ad, A, nL, L⟩ := K
  obtain ⟨hx, hb, hml, hnl, hown, hts, hK, hi, hA1, hA2, hf1, hf2, hc1, hc2, hE⟩ := C
  intro H locs ls hP hS hl
  exact lv_if_lt hx hb d ht (fun h => kt h H locs ls hP hS hl) (fun h => kf (Int32.not_lt.mp h) H locs ls hP hS hl)
theorem q_icmp_lt (C : q_Cx K cc own dd n0) {x y : Int32} {off : Int} {tgt : Nat} (d : decode cc pc = .ok (.if_icmp .lt off, 3)) (ht : (pc : Int) + off = (tgt : Int)) (kt : x < y → q_V l K tgt lv st S) (kf : y ≤ x → q_V l K (pc + 3) lv st S) : q_V l K pc lv (.int y :: .int x :: st) S := by
  obtain ⟨p, e, R, s, m, args, below, meth, c, cells, slots, Q, D, cy, ad, A, nL, L⟩ := K
  obtain ⟨hx, hb, hml, hnl, hown, hts, hK, hi, hA1, hA2, hf1, hf2, hc1, hc2, hE⟩ := C
  intro H locs ls hP hS hl
  exact lv_icmp_lt hx hb d ht (fun h => kt h H locs ls hP hS hl) (fun h => kf (Int32.not_lt.mp h) H locs ls hP hS hl)
theorem q_if_ge (C : q_Cx K cc own dd n0) {x : Int32} {off : Int} {tgt : Nat} (d : decode cc pc = .ok (.ifCond .ge off, 3)) (ht : (pc : Int) + off = (tgt : Int)) (kt : 0 ≤ x → q_V l K tgt lv st S) (kf : x < 0 → q_V l K (pc + 3) lv st S) : q_V l K pc lv (.int x :: st) S := by
  obtain ⟨p, e, R, s, m, args, below, meth, c, cells, slots, Q, D, cy, ad, A, nL, L⟩ := K
  obtain ⟨hx, hb, hml, hnl, hown, hts, hK, hi, hA1, hA2, hf1, hf2, hc1, hc2, hE⟩ := C
  intro H locs ls hP hS hl
  exact lv_if_ge hx hb d ht (fun h => kt h H locs ls hP hS hl) (fun h => kf (Int32.not_le.mp h) H locs ls hP hS hl)
theorem q_icmp_ge (C : q_Cx K cc own dd n0) {x y : Int32} {off : Int} {tgt : Nat} (d : decode cc pc = .ok (.if_icmp .ge off, 3)) (ht : (pc : Int) + off = (tgt : Int)) (kt : y ≤ x → q_V l K tgt lv st S) (kf : x < y → q_V l K (pc + 3) lv st S) : q_V l K pc lv (.int y :: .int x :: st) S := by
  obtain ⟨p, e, R, s, m, args, below, meth, c, cells, slots, Q, D, cy, ad, A, nL, L⟩ := K
  obtain ⟨hx, hb, hml, hnl, hown, hts, hK, hi, hA1, hA2, hf1, hf2, hc1, hc2, hE⟩ := C
  intro H locs ls hP hS hl
  exact lv_icmp_ge hx hb d ht (fun h => kt h H locs ls hP hS hl) (fun h => kf (Int32.not_le.mp h) H locs ls hP hS hl)
theorem q_if_gt (C : q_Cx K cc own dd n0) {x : Int32} {off : Int} {tgt : Nat} (d : decode cc pc = .ok (.ifCond .gt off, 3)) (ht : (pc : Int) + off = (tgt : Int)) (kt : 0 < x → q_V l K tgt lv st S) (kf : x ≤ 0 → q_V l K (pc + 3) lv st S) : q_V l K pc lv (.int x :: st) S := by
  obtain ⟨p, e, R, s, m, args, below, meth, c, cells, slots, Q, D, cy, ad, A, nL, L⟩ := K
  obtain ⟨hx, hb, hml, hnl, hown, hts, hK, hi, hA1, hA2, hf1, hf2, hc1, hc2, hE⟩ := C
  intro H locs ls hP hS hl
  exact lv_if_gt hx hb d ht (fun h => kt h H locs ls hP hS hl) (fun h => kf (Int32.not_lt.mp h) H locs ls hP hS hl)
theorem q_icmp_gt (C : q_Cx K cc own dd n0) {x y : Int32} {off : Int} {tgt : Nat} (d : decode cc pc = .ok (.if_icmp .gt off, 3)) (ht : (pc : Int) + off = (tgt : Int)) (kt : y < x → q_V l K tgt lv st S) (kf : x ≤ y → q_V l K (pc + 3) lv st S) : q_V l K pc lv (.int y :: .int x :: st) S := by
  obtain ⟨p, e, R, s, m, args, below, meth, c, cells, slots, Q, D, cy, ad, A, nL, L⟩ := K
  obtain ⟨hx, hb, hml, hnl, hown, hts, hK, hi, hA1, hA2, hf1, hf2, hc1, hc2, hE⟩ := C
  intro H locs ls hP hS hl
  exact lv_icmp_gt hx hb d ht (fun h => kt h H locs ls hP hS hl) (fun h => kf (Int32.not_lt.mp h) H locs ls hP hS hl)
theorem q_if_le (C : q_Cx K cc own dd n0) {x : Int32} {off : Int} {tgt : Nat} (d : decode cc pc = .ok (.ifCond .le off, 3)) (ht : (pc : Int) + off = (tgt : Int)) (kt : x ≤ 0 → q_V l K tgt lv st S) (kf : 0 < x → q_V l K (pc + 3) lv st S) : q_V l K pc lv (.int x :: st) S := by
  obtain ⟨p, e, R, s, m, args, below, meth, c, cells, slots, Q, D, cy, ad, A, nL, L⟩ := K
  obtain ⟨hx, hb, hml, hnl, hown, hts, hK, hi, hA1, hA2, hf1, hf2, hc1, hc2, hE⟩ := C
  intro H locs ls hP hS hl
  exact lv_if_le hx hb d ht (fun h => kt h H locs ls hP hS hl) (fun h => kf (Int32.not_le.mp h) H locs ls hP hS hl)
theorem q_icmp_le (C : q_Cx K cc own dd n0) {x y : Int32} {off : Int} {tgt : Nat} (d : decode cc pc = .ok (.if_icmp .le off, 3)) (ht : (pc : Int) + off = (tgt : Int)) (kt : x ≤ y → q_V l K tgt lv st S) (kf : y < x → q_V l K (pc + 3) lv st S) : q_V l K pc lv (.int y :: .int x :: st) S := by
  obtain ⟨p, e, R, s, m, args, below, meth, c, cells, slots, Q, D, cy, ad, A, nL, L⟩ := K
  obtain ⟨hx, hb, hml, hnl, hown, hts, hK, hi, hA1, hA2, hf1, hf2, hc1, hc2, hE⟩ := C
  intro H locs ls hP hS hl
  exact lv_icmp_le hx hb d ht (fun h => kt h H locs ls hP hS hl) (fun h => kf (Int32.not_le.mp h) H locs ls hP hS hl)
theorem q_goto (C : q_Cx K cc own dd n0) {off : Int} {tgt : Nat} (d : decode cc pc = .ok (.goto off, 3)) (ht : (pc : Int) + off = (tgt : Int)) (k : q_V l K tgt lv st S) : q_V l K pc lv st S := by
  obtain ⟨p, e, R, s, m, args, below, meth, c, cells, slots, Q, D, cy, ad, A, nL, L⟩ := K
  obtain ⟨hx, hb, hml, hnl, hown, hts, hK, hi, hA1, hA2, hf1, hf2, hc1, hc2, hE⟩ := C
  intro H locs ls hP hS hl
  exact lv_goto hx hb d ht (k H locs ls hP hS hl)
theorem q_lookup (C : q_Cx K cc own dd n0) {dflt : Int} {ps : Array (Int × Int)} {len : Nat} {x : Int32} {off : Int} {tgt : Nat} (d : decode cc pc = .ok (.lookupswitch dflt ps, len)) (hp : (ps.toList.zip (ps.toList.drop 1)).all (fun (a, next) => a.1 < next.1) = true) (ho : Op.lookupswitch.offset ps.toList dflt x.toInt = off) (ht : (pc : Int) + off = (tgt : Int)) (k : q_V l K tgt lv st S) : q_V l K pc lv (.int x :: st) S := by
  obtain ⟨p, e, R, s, m, args, below, meth, c, cells, slots, Q, D, cy, ad, A, nL, L⟩ := K
  obtain ⟨hx, hb, hml, hnl, hown, hts, hK, hi, hA1, hA2, hf1, hf2, hc1, hc2, hE⟩ := C
  intro H locs ls hP hS hl
  exact lv_lookup hx hb d hp ho ht (k H locs ls hP hS hl)
theorem q_tabout (C : q_Cx K cc own dd n0) {dflt lo hi : Int} {offs : Array Int} {len : Nat} {x : Int32} {tgt : Nat} (d : decode cc pc = .ok (.tableswitch dflt lo hi offs, len)) (h : x.toInt < lo ∨ hi < x.toInt) (ht : (pc : Int) + dflt = (tgt : Int)) (k : q_V l K tgt lv st S) : q_V l K pc lv (.int x :: st) S := by
  obtain ⟨p, e, R, s, m, args, below, meth, c, cells, slots, Q, D, cy, ad, A, nL, L⟩ := K
  obtain ⟨hx, hb, hml, hnl, hown, hts, hK, hi, hA1, hA2, hf1, hf2, hc1, hc2, hE⟩ := C
  intro H locs ls hP hS hl
  exact lv_tableOut hx hb d h ht (k H locs ls hP hS hl)
theorem q_tabin (C : q_Cx K cc own dd n0) {dflt lo hi : Int} {offs : Array Int} {len : Nat} {x : Int32} {off : Int} {tgt : Nat} (d : decode cc pc = .ok (.tableswitch dflt lo hi offs, len)) (h1 : ¬ x.toInt < lo) (h2 : ¬ hi < x.toInt) (ho : offs[(x.toInt - lo).toNat]? = some off) (ht : (pc : Int) + off = (tgt : Int)) (k : q_V l K tgt lv st S) : q_V l K pc lv (.int x :: st) S := by
  obtain ⟨p, e, R, s, m, args, below, meth, c, cells, slots, Q, D, cy, ad, A, nL, L⟩ := K
  obtain ⟨hx, hb, hml, hnl, hown, hts, hK, hi, hA1, hA2, hf1, hf2, hc1, hc2, hE⟩ := C
  intro H locs ls hP hS hl
  exact lv_tableIn hx hb d h1 h2 ho ht (k H locs ls hP hS hl)
theorem q_getI (C : q_Cx K cc own dd n0) {k ci j : Nat} {fs : List (Option Nat)} {x : Int32} (fl : q_fl own idx ci j) (sh : q_sh[k]? = some (.inr (ci, fs))) (hf : fs[j]? = some none) (d : decode cc pc = .ok (.getfield idx, 3)) (hv : S k j = x) (kk : q_V l K (pc + 3) lv (.int x :: st) S) : q_V l K pc lv (.ref k :: st) S := by
  obtain ⟨p, e, R, s, m, args, below, meth, c, cells, slots, Q, D, cy, ad, A, nL, L⟩ := K
  obtain ⟨hx, hb, hml, hnl, hown, hts, hK, hi, hA1, hA2, hf1, hf2, hc1, hc2, hE⟩ := C
  intro H locs ls hP hS hl
  subst hv
  obtain ⟨CC, T, N, ty, hc, hin, hj, hlk, hty, hnm⟩ := fl
  have h9 := (q_fv_get ad (S k) fs 0 j).1 hf
  rw [Nat.zero_add] at h9
  exact va_get hx hb hts hin hown hK hP k (q_wl_get sh) hc j hj (hts _ hlk) (fun _ h => h) h9 d (kk H locs ls hP hS hl)
theorem q_getR (C : q_Cx K cc own dd n0) {k ci j r : Nat} {fs : List (Option Nat)} (fl : q_fl own idx ci j) (sh : q_sh[k]? = some (.inr (ci, fs))) (hf : fs[j]? = some (some r)) (d : decode cc pc = .ok (.getfield idx, 3)) (kk : q_V l K (pc + 3) lv (.ref r :: st) S) : q_V l K pc lv (.ref k :: st) S := by
  obtain ⟨p, e, R, s, m, args, below, meth, c, cells, slots, Q, D, cy, ad, A, nL, L⟩ := K
  obtain ⟨hx, hb, hml, hnl, hown, hts, hK, hi, hA1, hA2, hf1, hf2, hc1, hc2, hE⟩ := C
  intro H locs ls hP hS hl
  obtain ⟨CC, T, N, ty, hc, hin, hj, hlk, hty, hnm⟩ := fl
  exact va_get hx hb hts hin hown hK hP k (q_wl_get sh) hc j hj (hts _ hlk) (fun _ h => h) ((q_fv_get ad (S k) fs 0 j).2 r hf) d (kk H locs ls hP hS hl)
theorem q_put (C : q_Cx K cc own dd n0) {k ci j : Nat} {fs : List (Option Nat)} {x : Int32} (fl : q_fl own idx ci j) (sh : q_sh[k]? = some (.inr (ci, fs))) (hf : fs[j]? = some none) {ty9 : FieldType} (hT : ∀ (CC : String) (T : u_T) (N : Nat), q_cl[ci]? = some (CC, T, N) → (T j).2.2.2 = false ∧ parseFieldDescriptor (T j).2.2.1 = some ty9) (hn : narrow ty9 (.int x) = .int x) (hfit : fits ty9 (.int x) = true) (d : decode cc pc = .ok (.putfield idx, 3)) (kk : q_V l K (pc + 3) lv st (q_p S k j x)) : q_V l K pc lv (.int x :: .ref k :: st) S := by
  obtain ⟨p, e, R, s, m, args, below, meth, c, cells, slots, Q, D, cy, ad, A, nL, L⟩ := K
  obtain ⟨hx, hb, hml, hnl, hown, hts, hK, hi, hA1, hA2, hf1, hf2, hc1, hc2, hE⟩ := C
  intro H locs ls hP hS hl
  obtain ⟨CC, T, N, ty, hc, hin, hj, hlk, hty, hnm⟩ := fl
  have hjl : j < fs.length := (List.getElem?_eq_some_iff.mp hf).1
  refine va_put hx hb hts hin ty hty hnm hown hK hP (q_wl_D hi hA1) hS k (q_wl_get sh) hc j hj (hts _ hlk) (fun _ h => h) (hT CC T N hc).1 (hT CC T N hc).2 hn hfit (by rw [q_fv_len]; exact hjl) d (fun H1 locs1 hP1 hD1 hS1 => ?_)
  rw [q_wl_set (f := upd (S k) j x) sh (by show Sum.inr (ci, (q_fv ad (S k) 0 fs).set j (Value.int x)) = _; rw [q_fv_set ad (S k) x fs 0 j hf, Nat.zero_add]; rfl)] at hP1
  exact kk H1 locs1 ls hP1 hS1 hl
theorem q_iald (C : q_Cx K cc own dd n0) {k n : Nat} {i x : Int32} (sh : q_sh[k]? = some (.inl (0, n))) (hin : vp_in i n) (d : decode cc pc = .ok (.iaload, 1)) (hv : S k i.toNatClampNeg = x) (kk : q_V l K (pc + 1) lv (.int x :: st) S) : q_V l K pc lv (.int i :: .ref k :: st) S := by
  obtain ⟨p, e, R, s, m, args, below, meth, c, cells, slots, Q, D, cy, ad, A, nL, L⟩ := K
  obtain ⟨hx, hb, hml, hnl, hown, hts, hK, hi, hA1, hA2, hf1, hf2, hc1, hc2, hE⟩ := C
  intro H locs ls hP hS hl
  subst hv
  exact va_iald hx hb hK hP k 0 (q_wl_get sh) rfl hin d (kk H locs ls hP hS hl)
theorem q_ialdN (C : q_Cx K cc own dd n0) {k n i : Nat} {ix x : Int32} (hix : ix = nI i) (sh : q_sh[k]? = some (.inl (0, n))) (h0 : i < n) (hn9 : n < 2 ^ 31) (d : decode cc pc = .ok (.iaload, 1)) (hv : S k i = x) (kk : q_V l K (pc + 1) lv (.int x :: st) S) : q_V l K pc lv (.int ix :: .ref k :: st) S := by
  obtain ⟨p, e, R, s, m, args, below, meth, c, cells, slots, Q, D, cy, ad, A, nL, L⟩ := K
  obtain ⟨hx, hb, hml, hnl, hown, hts, hK, hi, hA1, hA2, hf1, hf2, hc1, hc2, hE⟩ := C
  intro H locs ls hP hS hl
  subst hv; subst hix
  have h9 := va_iald (ls := ls) (rest := st.map (q_gv ad)) (cells := cells) (slots := slots) (R := R) (Q := Q) (locs := locs) (p := p) (l := l) (e := e) (below := below) (meth := meth) (args := args) (m := m) hx hb hK hP k 0 (q_wl_get sh) rfl (vp_in_nI h0 hn9) d
  rw [nI_clamp (Nat.lt_trans h0 hn9)] at h9
  exact h9 (kk H locs ls hP hS hl)
theorem q_zald (C : q_Cx K cc own dd n0) {k n : Nat} {i x : Int32} (sh : q_sh[k]? = some (.inl (1, n))) (hin : vp_in i n) (d : decode cc pc = .ok (.baload, 1)) (hv : S k i.toNatClampNeg = x) (kk : q_V l K (pc + 1) lv (.int x :: st) S) : q_V l K pc lv (.int i :: .ref k :: st) S := by
  obtain ⟨p, e, R, s, m, args, below, meth, c, cells, slots, Q, D, cy, ad, A, nL, L⟩ := K
  obtain ⟨hx, hb, hml, hnl, hown, hts, hK, hi, hA1, hA2, hf1, hf2, hc1, hc2, hE⟩ := C
  intro H locs ls hP hS hl
  subst hv
  exact va_zald hx hb hK hP k 1 (q_wl_get sh) rfl hin d (kk H locs ls hP hS hl)
theorem q_zaldN (C : q_Cx K cc own dd n0) {k n i : Nat} {ix x : Int32} (hix : ix = nI i) (sh : q_sh[k]? = some (.inl (1, n))) (h0 : i < n) (hn9 : n < 2 ^ 31) (d : decode cc pc = .ok (.baload, 1)) (hv : S k i = x) (kk : q_V l K (pc + 1) lv (.int x :: st) S) : q_V l K pc lv (.int ix :: .ref k :: st) S := by
  obtain ⟨p, e, R, s, m, args, below, meth, c, cells, slots, Q, D, cy, ad, A, nL, L⟩ := K
  obtain ⟨hx, hb, hml, hnl, hown, hts, hK, hi, hA1, hA2, hf1, hf2, hc1, hc2, hE⟩ := C
  intro H locs ls hP hS hl
  subst hv; subst hix
  have h9 := va_zald (ls := ls) (rest := st.map (q_gv ad)) (cells := cells) (slots := slots) (R := R) (Q := Q) (locs := locs) (p := p) (l := l) (e := e) (below := below) (meth := meth) (args := args) (m := m) hx hb hK hP k 1 (q_wl_get sh) rfl (vp_in_nI h0 hn9) d
  rw [nI_clamp (Nat.lt_trans h0 hn9)] at h9
  exact h9 (kk H locs ls hP hS hl)
theorem q_cald (C : q_Cx K cc own dd n0) {k n : Nat} {i x : Int32} (sh : q_sh[k]? = some (.inl (2, n))) (hin : vp_in i n) (d : decode cc pc = .ok (.caload, 1)) (hv : S k i.toNatClampNeg = x) (kk : q_V l K (pc + 1) lv (.int x :: st) S) : q_V l K pc lv (.int i :: .ref k :: st) S := by
  obtain ⟨p, e, R, s, m, args, below, meth, c, cells, slots, Q, D, cy, ad, A, nL, L⟩ := K
  obtain ⟨hx, hb, hml, hnl, hown, hts, hK, hi, hA1, hA2, hf1, hf2, hc1, hc2, hE⟩ := C
  intro H locs ls hP hS hl
  subst hv
  exact va_cald hx hb hK hP k 2 (q_wl_get sh) rfl hin d (kk H locs ls hP hS hl)
theorem q_caldN (C : q_Cx K cc own dd n0) {k n i : Nat} {ix x : Int32} (hix : ix = nI i) (sh : q_sh[k]? = some (.inl (2, n))) (h0 : i < n) (hn9 : n < 2 ^ 31) (d : decode cc pc = .ok (.caload, 1)) (hv : S k i = x) (kk : q_V l K (pc + 1) lv (.int x :: st) S) : q_V l K pc lv (.int ix :: .ref k :: st) S := by
  obtain ⟨p, e, R, s, m, args, below, meth, c, cells, slots, Q, D, cy, ad, A, nL, L⟩ := K
  obtain ⟨hx, hb, hml, hnl, hown, hts, hK, hi, hA1, hA2, hf1, hf2, hc1, hc2, hE⟩ := C
  intro H locs ls hP hS hl
  subst hv; subst hix
  have h9 := va_cald (ls := ls) (rest := st.map (q_gv ad)) (cells := cells) (slots := slots) (R := R) (Q := Q) (locs := locs) (p := p) (l := l) (e := e) (below := below) (meth := meth) (args := args) (m := m) hx hb hK hP k 2 (q_wl_get sh) rfl (vp_in_nI h0 hn9) d
  rw [nI_clamp (Nat.lt_trans h0 hn9)] at h9
  exact h9 (kk H locs ls hP hS hl)
theorem q_aldN (C : q_Cx K cc own dd n0) {k n i : Nat} {ix : Int32} (hix : ix = nI i) (sh : q_sh[k]? = some (.inl (3, n))) (h0 : i < n) (hn9 : n < 2 ^ 31) (d : decode cc pc = .ok (.aaload, 1)) (kk : q_V l K (pc + 1) lv (.ref (30 + 9 * i) :: st) S) : q_V l K pc lv (.int ix :: .ref k :: st) S := by
  obtain ⟨p, e, R, s, m, args, below, meth, c, cells, slots, Q, D, cy, ad, A, nL, L⟩ := K
  obtain ⟨hx, hb, hml, hnl, hown, hts, hK, hi, hA1, hA2, hf1, hf2, hc1, hc2, hE⟩ := C
  intro H locs ls hP hS hl
  subst hix
  have h9 := va_aldq (ls := ls) (rest := st.map (q_gv ad)) (cells := cells) (slots := slots) (R := R) (Q := Q) (locs := locs) (p := p) (l := l) (e := e) (below := below) (meth := meth) (args := args) (m := m) hx hb hK hP k 3 (q_wl_get sh) rfl (vp_in_nI h0 hn9) d
  rw [nI_clamp (Nat.lt_trans h0 hn9)] at h9
  exact h9 (kk H locs ls hP hS hl)
theorem q_iastN (C : q_Cx K cc own dd n0) {k n i : Nat} {ix x : Int32} (hix : ix = nI i) (sh : q_sh[k]? = some (.inl (0, n))) (h0 : i < n) (hn9 : n < 2 ^ 31) (d : decode cc pc = .ok (.iastore, 1)) (kk : q_V l K (pc + 1) lv st (q_p S k i x)) : q_V l K pc lv (.int x :: .int ix :: .ref k :: st) S := by
  obtain ⟨p, e, R, s, m, args, below, meth, c, cells, slots, Q, D, cy, ad, A, nL, L⟩ := K
  obtain ⟨hx, hb, hml, hnl, hown, hts, hK, hi, hA1, hA2, hf1, hf2, hc1, hc2, hE⟩ := C
  intro H locs ls hP hS hl
  subst hix
  refine va_iast hx hb hK hP (q_wl_D hi hA1) hS k 0 (q_wl_get sh) rfl (vp_in_nI h0 hn9) d (fun H1 locs1 hP1 hD1 hS1 => ?_)
  rw [nI_clamp (Nat.lt_trans h0 hn9)] at hP1
  rw [q_wl_set (e := .inl (cy 0, n, .inl (upd (S k) i x))) (f := upd (S k) i x) sh rfl] at hP1
  exact kk H1 locs1 ls hP1 hS1 hl
theorem q_zastV (C : q_Cx K cc own dd n0) {k n i : Nat} {ix x v : Int32} (hix : ix = nI i) (sh : q_sh[k]? = some (.inl (1, n))) (h0 : i < n) (hn9 : n < 2 ^ 31) (d : decode cc pc = .ok (.bastore, 1)) (hv : vp_nar .boolean x = v) (kk : q_V l K (pc + 1) lv st (q_p S k i v)) : q_V l K pc lv (.int x :: .int ix :: .ref k :: st) S := by
  obtain ⟨p, e, R, s, m, args, below, meth, c, cells, slots, Q, D, cy, ad, A, nL, L⟩ := K
  obtain ⟨hx, hb, hml, hnl, hown, hts, hK, hi, hA1, hA2, hf1, hf2, hc1, hc2, hE⟩ := C
  intro H locs ls hP hS hl
  subst hix; subst hv
  refine va_zast hx hb hK hP (q_wl_D hi hA1) hS k 1 (q_wl_get sh) rfl (vp_in_nI h0 hn9) d (fun H1 locs1 hP1 hD1 hS1 => ?_)
  rw [nI_clamp (Nat.lt_trans h0 hn9)] at hP1
  rw [q_wl_set (e := .inl (cy 1, n, .inl (upd (S k) i (vp_nar .boolean x)))) (f := upd (S k) i (vp_nar .boolean x)) sh rfl] at hP1
  exact kk H1 locs1 ls hP1 hS1 hl
theorem q_castV (C : q_Cx K cc own dd n0) {k n i : Nat} {ix x v : Int32} (hix : ix = nI i) (sh : q_sh[k]? = some (.inl (2, n))) (h0 : i < n) (hn9 : n < 2 ^ 31) (d : decode cc pc = .ok (.castore, 1)) (hv : vp_nar .char x = v) (kk : q_V l K (pc + 1) lv st (q_p S k i v)) : q_V l K pc lv (.int x :: .int ix :: .ref k :: st) S := by
  obtain ⟨p, e, R, s, m, args, below, meth, c, cells, slots, Q, D, cy, ad, A, nL, L⟩ := K
  obtain ⟨hx, hb, hml, hnl, hown, hts, hK, hi, hA1, hA2, hf1, hf2, hc1, hc2, hE⟩ := C
  intro H locs ls hP hS hl
  subst hix; subst hv
  refine va_cast hx hb hK hP (q_wl_D hi hA1) hS k 2 (q_wl_get sh) rfl (vp_in_nI h0 hn9) d (fun H1 locs1 hP1 hD1 hS1 => ?_)
  rw [nI_clamp (Nat.lt_trans h0 hn9)] at hP1
  rw [q_wl_set (e := .inl (cy 2, n, .inl (upd (S k) i (vp_nar .char x)))) (f := upd (S k) i (vp_nar .char x)) sh rfl] at hP1
  exact kk H1 locs1 ls hP1 hS1 hl
theorem q_copy (C : q_Cx K cc own dd n0) {k0 k1 m0 m1 sp dp n : Nat} (sh0 : q_sh[k0]? = some (.inl (0, m0))) (sh1 : q_sh[k1]? = some (.inl (0, m1))) (hl9 : Cond.methodLink own idx arraycopyName ∈ q_WS) (w1 : Cond.native arraycopyName ∈ q_WS) (w2 : Cond.static arraycopyName ∈ q_WS) (w3 : Cond.initialized "java/lang/System" ∈ q_WS) (h4 : sp + n ≤ m0) (h5 : dp + n ≤ m1) (hm0 : m0 < 2 ^ 31) (hm1 : m1 < 2 ^ 31) (hdd : 1 ≤ dd) (hroom : (st.map Value.category).sum ≤ 8) (d : decode cc pc = .ok (.invokestatic idx, 3)) (kk : q_V l K (pc + 3) lv st (q_u S k1 (va_cpy (S k0) (S k1) sp dp n))) : q_V l K pc lv (.int (nI n) :: .int (nI dp) :: .ref k1 :: .int (nI sp) :: .ref k0 :: st) S := by
  obtain ⟨p, e, R, s, m, args, below, meth, c, cells, slots, Q, D, cy, ad, A, nL, L⟩ := K
  obtain ⟨hx, hb, hml, hnl, hown, hts, hK, hi, hA1, hA2, hf1, hf2, hc1, hc2, hE⟩ := C
  intro H locs ls hP hS hl
  have e1 : (nI n).toNatClampNeg = n := nI_clamp (by omega)
  have e2 : (nI sp).toNatClampNeg = sp := nI_clamp (by omega)
  have e3 : (nI dp).toNatClampNeg = dp := nI_clamp (by omega)
  refine va_copyi hx hb (hml.trans hl.1.symm) hown (hts _ hl9) (hts _ w1) (hts _ w2) (hts _ w3) hK hP (q_wl_D hi hA1) hS k0 k1 0 0 (q_wl_get sh0) (q_wl_get sh1) rfl rfl rfl (nI_pos (by omega)) (nI_pos (by omega)) (nI_pos (by omega)) (by rw [e1, e2]; exact h4) (by rw [e1, e3]; exact h5) (fun _ _ => rfl) (by omega) ?_ d (fun H1 locs1 hP1 hD1 hS1 => ?_)
  · have h9 : nativeFrameWords "java/lang/System" "arraycopy" 5 + 11 ≤ 32 := by decide +kernel
    have h8 : ((st.map (q_gv ad)).map fun v => v.category).sum = (st.map Value.category).sum := by
      rw [List.map_map]
      congr 1
      apply List.map_congr_left
      intro v _
      exact q_gv_cat ad v
    rw [h8]
    omega
  · rw [e1, e2, e3] at hP1
    rw [q_wl_set (e := .inl (cy 0, m1, .inl (va_cpy (S k0) (S k1) sp dp n))) (f := va_cpy (S k0) (S k1) sp dp n) sh1 rfl] at hP1
    exact kk H1 locs1 ls hP1 hS1 hl
end QV
