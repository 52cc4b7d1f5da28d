def q_al : List (Nat × Value) → List (Nat × Value) → Prop
  | [], _ => True
  | q :: r, lv => q_lk q.1 lv = some q.2 ∧ q_al r lv
theorem q_al_mem : ∀ {l' l : List (Nat × Value)}, q_al l' l → ∀ q ∈ l', q ∈ l
  | [], _, _, q, h => by cases h
  | x :: r, l, h, q, hq => by
    rcases List.mem_cons.mp hq with rfl | hq
    · exact q_lk_mem h.1
    · exact q_al_mem h.2 q hq
theorem q_iv {x y : Int32} (h : x = y) : (some (Value.int x) : Option Value) = some (.int y) := by rw [h]
theorem q_Fi.cv {l : Launch} {y : MethodName} {cd : Cond} {d : Nat} {avs : List Value} {S : q_St} {v v' : Int32} {S2 : q_St} (e : v = v') (h : q_Fi l y cd d avs S v S2) : q_Fi l y cd d avs S v' S2 := e ▸ h
theorem q_Fi.cs {l : Launch} {y : MethodName} {cd : Cond} {d : Nat} {avs : List Value} {S : q_St} {v v' : Int32} {S2 S3 : q_St} (e : v = v') (e2 : S2 = S3) (h : q_Fi l y cd d avs S v S2) : q_Fi l y cd d avs S v' S3 := by subst e; subst e2; exact h
theorem q_Fv.cs {l : Launch} {y : MethodName} {cd : Cond} {d : Nat} {avs : List Value} {S : q_St} {S2 S3 : q_St} (e2 : S2 = S3) (h : q_Fv l y cd d avs S S2) : q_Fv l y cd d avs S S3 := by subst e2; exact h
section QR
variable {l : Launch} {K : q_K} {cc : ByteArray} {own : String} {dd n0 pc idx : Nat} {lv : List (Nat × Value)} {st : List Value} {S : q_St}
theorem q_V_to {lv' : List (Nat × Value)} {S' : q_St} (h : q_V l K pc lv' st S') (hl : q_al lv' lv) (hS : S = S') : q_V l K pc lv st S := by
  subst hS
  obtain ⟨p, e, R, s, m, args, below, meth, c, cells, slots, Q, D, cy, ad, A, nL, L⟩ := K
  intro H locs ls hP hS hv
  refine h H locs ls hP hS (q_lv_sub hv ?_)
  intro q hq
  obtain ⟨q0, h0, rfl⟩ := List.mem_map.mp hq
  exact List.mem_map.mpr ⟨q0, q_al_mem hl q0 h0, rfl⟩
theorem q_top {x y : Int32} (e : x = y) (k : q_V l K pc lv (.int y :: st) S) : q_V l K pc lv (.int x :: st) S := e ▸ k
theorem q_st {S' : q_St} (e : S = S') (k : q_V l K pc lv st S') : q_V l K pc lv st S := e ▸ k
theorem q_iaddN {a b : Nat} {x y : Int32} (C : q_Cx K cc own dd n0) (d : decode cc pc = .ok (.iadd, 1)) (h1 : x = nI a) (h2 : y = nI b) (k : q_V l K (pc + 1) lv (.int (nI (a + b)) :: st) S) : q_V l K pc lv (.int y :: .int x :: st) S := by
  subst h1; subst h2
  exact q_iadd C d (by rw [nI_add a b]; exact k)
theorem q_imulN {a b : Nat} {x y : Int32} (C : q_Cx K cc own dd n0) (d : decode cc pc = .ok (.imul, 1)) (h1 : x = nI a) (h2 : y = nI b) (k : q_V l K (pc + 1) lv (.int (nI (a * b)) :: st) S) : q_V l K pc lv (.int y :: .int x :: st) S := by
  subst h1; subst h2
  exact q_imul C d (by rw [pk_mul a b]; exact k)
theorem q_isubN {a b : Nat} {x y : Int32} (C : q_Cx K cc own dd n0) (d : decode cc pc = .ok (.isub, 1)) (h1 : x = nI a) (h2 : y = nI b) (hab : b ≤ a) (k : q_V l K (pc + 1) lv (.int (nI (a - b)) :: st) S) : q_V l K pc lv (.int y :: .int x :: st) S := by
  subst h1; subst h2
  exact q_isub C d (by rw [pk_sub hab]; exact k)
theorem q_iaddE {v x y : Int32} (C : q_Cx K cc own dd n0) (d : decode cc pc = .ok (.iadd, 1)) (h : x + y = v) (k : q_V l K (pc + 1) lv (.int v :: st) S) : q_V l K pc lv (.int y :: .int x :: st) S := by
  subst h
  exact q_iadd C d k
theorem q_isubE {v x y : Int32} (C : q_Cx K cc own dd n0) (d : decode cc pc = .ok (.isub, 1)) (h : x - y = v) (k : q_V l K (pc + 1) lv (.int v :: st) S) : q_V l K pc lv (.int y :: .int x :: st) S := by
  subst h
  exact q_isub C d k
theorem q_imulE {v x y : Int32} (C : q_Cx K cc own dd n0) (d : decode cc pc = .ok (.imul, 1)) (h : x * y = v) (k : q_V l K (pc + 1) lv (.int v :: st) S) : q_V l K pc lv (.int y :: .int x :: st) S := by
  subst h
  exact q_imul C d k
theorem q_idivN {a b : Nat} {x y : Int32} (C : q_Cx K cc own dd n0) (d : decode cc pc = .ok (.idiv, 1)) (h1 : x = nI a) (h2 : y = nI b) (ha : a < 2 ^ 31) (h0 : 0 < b) (hb : b < 2 ^ 31) (k : q_V l K (pc + 1) lv (.int (nI (a / b)) :: st) S) : q_V l K pc lv (.int y :: .int x :: st) S := by
  subst h1; subst h2
  exact q_idiv (h0 := nI_ne0 h0 hb) C d (by rw [pk_div ha h0 hb]; exact k)
theorem q_iremN {a b : Nat} {x y : Int32} (C : q_Cx K cc own dd n0) (d : decode cc pc = .ok (.irem, 1)) (h1 : x = nI a) (h2 : y = nI b) (ha : a < 2 ^ 31) (h0 : 0 < b) (hb : b < 2 ^ 31) (k : q_V l K (pc + 1) lv (.int (nI (a % b)) :: st) S) : q_V l K pc lv (.int y :: .int x :: st) S := by
  subst h1; subst h2
  exact q_irem (h0 := nI_ne0 h0 hb) C d (by rw [pk_rem ha h0 hb]; exact k)
theorem q_i2cN {a : Nat} {x : Int32} (C : q_Cx K cc own dd n0) (d : decode cc pc = .ok (.i2c, 1)) (h1 : x = nI a) (ha : a < 65536) (k : q_V l K (pc + 1) lv (.int (nI a) :: st) S) : q_V l K pc lv (.int x :: st) S := by
  subst h1
  exact q_i2c C (v := nI a) (by rw [pk_char, pk_tn (by omega), Nat.mod_eq_of_lt ha]) d k
theorem q_icmp_eqN {a b : Nat} {x y : Int32} {off : Int} {tgt : Nat} (C : q_Cx K cc own dd n0) (d : decode cc pc = .ok (.if_icmp .eq off, 3)) (ht : (pc : Int) + off = (tgt : Int)) (h1 : x = nI a) (h2 : y = nI b) (ha : a < 2 ^ 31) (hb9 : b < 2 ^ 31) (kt : a = b → q_V l K tgt lv st S) (kf : a ≠ b → q_V l K (pc + 3) lv st S) : q_V l K pc lv (.int y :: .int x :: st) S := by
  subst h1; subst h2
  exact q_icmp_eq C d ht (fun h => kt ((nI_eq ha hb9).mp h)) (fun h => kf (fun e => h ((nI_eq ha hb9).mpr e)))
theorem q_icmp_neN {a b : Nat} {x y : Int32} {off : Int} {tgt : Nat} (C : q_Cx K cc own dd n0) (d : decode cc pc = .ok (.if_icmp .ne off, 3)) (ht : (pc : Int) + off = (tgt : Int)) (h1 : x = nI a) (h2 : y = nI b) (ha : a < 2 ^ 31) (hb9 : b < 2 ^ 31) (kt : a ≠ b → q_V l K tgt lv st S) (kf : a = b → q_V l K (pc + 3) lv st S) : q_V l K pc lv (.int y :: .int x :: st) S := by
  subst h1; subst h2
  exact q_icmp_ne C d ht (fun h => kt (fun e => h ((nI_eq ha hb9).mpr e))) (fun h => kf ((nI_eq ha hb9).mp h))
theorem q_icmp_ltN {a b : Nat} {x y : Int32} {off : Int} {tgt : Nat} (C : q_Cx K cc own dd n0) (d : decode cc pc = .ok (.if_icmp .lt off, 3)) (ht : (pc : Int) + off = (tgt : Int)) (h1 : x = nI a) (h2 : y = nI b) (ha : a < 2 ^ 31) (hb9 : b < 2 ^ 31) (kt : a < b → q_V l K tgt lv st S) (kf : b ≤ a → q_V l K (pc + 3) lv st S) : q_V l K pc lv (.int y :: .int x :: st) S := by
  subst h1; subst h2
  exact q_icmp_lt C d ht (fun h => kt ((nI_ltI ha hb9).mp h)) (fun h => kf ((nI_leI hb9 ha).mp h))
theorem q_icmp_geN {a b : Nat} {x y : Int32} {off : Int} {tgt : Nat} (C : q_Cx K cc own dd n0) (d : decode cc pc = .ok (.if_icmp .ge off, 3)) (ht : (pc : Int) + off = (tgt : Int)) (h1 : x = nI a) (h2 : y = nI b) (ha : a < 2 ^ 31) (hb9 : b < 2 ^ 31) (kt : b ≤ a → q_V l K tgt lv st S) (kf : a < b → q_V l K (pc + 3) lv st S) : q_V l K pc lv (.int y :: .int x :: st) S := by
  subst h1; subst h2
  exact q_icmp_ge C d ht (fun h => kt ((nI_leI hb9 ha).mp h)) (fun h => kf ((nI_ltI ha hb9).mp h))
theorem q_icmp_gtN {a b : Nat} {x y : Int32} {off : Int} {tgt : Nat} (C : q_Cx K cc own dd n0) (d : decode cc pc = .ok (.if_icmp .gt off, 3)) (ht : (pc : Int) + off = (tgt : Int)) (h1 : x = nI a) (h2 : y = nI b) (ha : a < 2 ^ 31) (hb9 : b < 2 ^ 31) (kt : b < a → q_V l K tgt lv st S) (kf : a ≤ b → q_V l K (pc + 3) lv st S) : q_V l K pc lv (.int y :: .int x :: st) S := by
  subst h1; subst h2
  exact q_icmp_gt C d ht (fun h => kt ((nI_ltI hb9 ha).mp h)) (fun h => kf ((nI_leI ha hb9).mp h))
theorem q_icmp_leN {a b : Nat} {x y : Int32} {off : Int} {tgt : Nat} (C : q_Cx K cc own dd n0) (d : decode cc pc = .ok (.if_icmp .le off, 3)) (ht : (pc : Int) + off = (tgt : Int)) (h1 : x = nI a) (h2 : y = nI b) (ha : a < 2 ^ 31) (hb9 : b < 2 ^ 31) (kt : a ≤ b → q_V l K tgt lv st S) (kf : b < a → q_V l K (pc + 3) lv st S) : q_V l K pc lv (.int y :: .int x :: st) S := by
  subst h1; subst h2
  exact q_icmp_le C d ht (fun h => kt ((nI_leI ha hb9).mp h)) (fun h => kf ((nI_ltI hb9 ha).mp h))
theorem q_if_eqN {a : Nat} {x : Int32} {off : Int} {tgt : Nat} (C : q_Cx K cc own dd n0) (d : decode cc pc = .ok (.ifCond .eq off, 3)) (ht : (pc : Int) + off = (tgt : Int)) (h1 : x = nI a) (ha : a < 2 ^ 31) (kt : a = 0 → q_V l K tgt lv st S) (kf : a ≠ 0 → q_V l K (pc + 3) lv st S) : q_V l K pc lv (.int x :: st) S := by
  subst h1
  have e0 : (0 : Int32) = nI 0 := rfl
  have h0 : (0 : Nat) < 2 ^ 31 := by omega
  refine q_if_eq C d ht (fun h => kt ?_) (fun h => kf ?_)
  · rw [e0] at h
    first | (have := (nI_eq ha h0).mp h; omega) | (have : a ≠ 0 := fun e => h ((nI_eq ha h0).mpr e); omega) | (have := (nI_ltI ha h0).mp h; omega) | (have := (nI_leI h0 ha).mp h; trivial) | (have := (nI_ltI h0 ha).mp h; omega) | (have := (nI_leI ha h0).mp h; omega)
  · rw [e0] at h
    first | (have := (nI_eq ha h0).mp h; omega) | (have : a ≠ 0 := fun e => h ((nI_eq ha h0).mpr e); omega) | (have := (nI_ltI ha h0).mp h; omega) | (have := (nI_leI h0 ha).mp h; trivial) | (have := (nI_ltI h0 ha).mp h; omega) | (have := (nI_leI ha h0).mp h; omega)
theorem q_if_neN {a : Nat} {x : Int32} {off : Int} {tgt : Nat} (C : q_Cx K cc own dd n0) (d : decode cc pc = .ok (.ifCond .ne off, 3)) (ht : (pc : Int) + off = (tgt : Int)) (h1 : x = nI a) (ha : a < 2 ^ 31) (kt : a ≠ 0 → q_V l K tgt lv st S) (kf : a = 0 → q_V l K (pc + 3) lv st S) : q_V l K pc lv (.int x :: st) S := by
  subst h1
  have e0 : (0 : Int32) = nI 0 := rfl
  have h0 : (0 : Nat) < 2 ^ 31 := by omega
  refine q_if_ne C d ht (fun h => kt ?_) (fun h => kf ?_)
  · rw [e0] at h
    first | (have := (nI_eq ha h0).mp h; omega) | (have : a ≠ 0 := fun e => h ((nI_eq ha h0).mpr e); omega) | (have := (nI_ltI ha h0).mp h; omega) | (have := (nI_leI h0 ha).mp h; trivial) | (have := (nI_ltI h0 ha).mp h; omega) | (have := (nI_leI ha h0).mp h; omega)
  · rw [e0] at h
    first | (have := (nI_eq ha h0).mp h; omega) | (have : a ≠ 0 := fun e => h ((nI_eq ha h0).mpr e); omega) | (have := (nI_ltI ha h0).mp h; omega) | (have := (nI_leI h0 ha).mp h; trivial) | (have := (nI_ltI h0 ha).mp h; omega) | (have := (nI_leI ha h0).mp h; omega)
theorem q_if_ltN {a : Nat} {x : Int32} {off : Int} {tgt : Nat} (C : q_Cx K cc own dd n0) (d : decode cc pc = .ok (.ifCond .lt off, 3)) (ht : (pc : Int) + off = (tgt : Int)) (h1 : x = nI a) (ha : a < 2 ^ 31) (kt : False → q_V l K tgt lv st S) (kf : True → q_V l K (pc + 3) lv st S) : q_V l K pc lv (.int x :: st) S := by
  subst h1
  have e0 : (0 : Int32) = nI 0 := rfl
  have h0 : (0 : Nat) < 2 ^ 31 := by omega
  refine q_if_lt C d ht (fun h => kt ?_) (fun h => kf ?_)
  · rw [e0] at h
    first | (have := (nI_eq ha h0).mp h; omega) | (have : a ≠ 0 := fun e => h ((nI_eq ha h0).mpr e); omega) | (have := (nI_ltI ha h0).mp h; omega) | (have := (nI_leI h0 ha).mp h; trivial) | (have := (nI_ltI h0 ha).mp h; omega) | (have := (nI_leI ha h0).mp h; omega)
  · rw [e0] at h
    first | (have := (nI_eq ha h0).mp h; omega) | (have : a ≠ 0 := fun e => h ((nI_eq ha h0).mpr e); omega) | (have := (nI_ltI ha h0).mp h; omega) | (have := (nI_leI h0 ha).mp h; trivial) | (have := (nI_ltI h0 ha).mp h; omega) | (have := (nI_leI ha h0).mp h; omega)
theorem q_if_geN {a : Nat} {x : Int32} {off : Int} {tgt : Nat} (C : q_Cx K cc own dd n0) (d : decode cc pc = .ok (.ifCond .ge off, 3)) (ht : (pc : Int) + off = (tgt : Int)) (h1 : x = nI a) (ha : a < 2 ^ 31) (kt : True → q_V l K tgt lv st S) (kf : False → q_V l K (pc + 3) lv st S) : q_V l K pc lv (.int x :: st) S := by
  subst h1
  have e0 : (0 : Int32) = nI 0 := rfl
  have h0 : (0 : Nat) < 2 ^ 31 := by omega
  refine q_if_ge C d ht (fun h => kt ?_) (fun h => kf ?_)
  · rw [e0] at h
    first | (have := (nI_eq ha h0).mp h; omega) | (have : a ≠ 0 := fun e => h ((nI_eq ha h0).mpr e); omega) | (have := (nI_ltI ha h0).mp h; omega) | (have := (nI_leI h0 ha).mp h; trivial) | (have := (nI_ltI h0 ha).mp h; omega) | (have := (nI_leI ha h0).mp h; omega)
  · rw [e0] at h
    first | (have := (nI_eq ha h0).mp h; omega) | (have : a ≠ 0 := fun e => h ((nI_eq ha h0).mpr e); omega) | (have := (nI_ltI ha h0).mp h; omega) | (have := (nI_leI h0 ha).mp h; trivial) | (have := (nI_ltI h0 ha).mp h; omega) | (have := (nI_leI ha h0).mp h; omega)
theorem q_if_gtN {a : Nat} {x : Int32} {off : Int} {tgt : Nat} (C : q_Cx K cc own dd n0) (d : decode cc pc = .ok (.ifCond .gt off, 3)) (ht : (pc : Int) + off = (tgt : Int)) (h1 : x = nI a) (ha : a < 2 ^ 31) (kt : 0 < a → q_V l K tgt lv st S) (kf : a = 0 → q_V l K (pc + 3) lv st S) : q_V l K pc lv (.int x :: st) S := by
  subst h1
  have e0 : (0 : Int32) = nI 0 := rfl
  have h0 : (0 : Nat) < 2 ^ 31 := by omega
  refine q_if_gt C d ht (fun h => kt ?_) (fun h => kf ?_)
  · rw [e0] at h
    first | (have := (nI_eq ha h0).mp h; omega) | (have : a ≠ 0 := fun e => h ((nI_eq ha h0).mpr e); omega) | (have := (nI_ltI ha h0).mp h; omega) | (have := (nI_leI h0 ha).mp h; trivial) | (have := (nI_ltI h0 ha).mp h; omega) | (have := (nI_leI ha h0).mp h; omega)
  · rw [e0] at h
    first | (have := (nI_eq ha h0).mp h; omega) | (have : a ≠ 0 := fun e => h ((nI_eq ha h0).mpr e); omega) | (have := (nI_ltI ha h0).mp h; omega) | (have := (nI_leI h0 ha).mp h; trivial) | (have := (nI_ltI h0 ha).mp h; omega) | (have := (nI_leI ha h0).mp h; omega)
theorem q_if_leN {a : Nat} {x : Int32} {off : Int} {tgt : Nat} (C : q_Cx K cc own dd n0) (d : decode cc pc = .ok (.ifCond .le off, 3)) (ht : (pc : Int) + off = (tgt : Int)) (h1 : x = nI a) (ha : a < 2 ^ 31) (kt : a = 0 → q_V l K tgt lv st S) (kf : 0 < a → q_V l K (pc + 3) lv st S) : q_V l K pc lv (.int x :: st) S := by
  subst h1
  have e0 : (0 : Int32) = nI 0 := rfl
  have h0 : (0 : Nat) < 2 ^ 31 := by omega
  refine q_if_le C d ht (fun h => kt ?_) (fun h => kf ?_)
  · rw [e0] at h
    first | (have := (nI_eq ha h0).mp h; omega) | (have : a ≠ 0 := fun e => h ((nI_eq ha h0).mpr e); omega) | (have := (nI_ltI ha h0).mp h; omega) | (have := (nI_leI h0 ha).mp h; trivial) | (have := (nI_ltI h0 ha).mp h; omega) | (have := (nI_leI ha h0).mp h; omega)
  · rw [e0] at h
    first | (have := (nI_eq ha h0).mp h; omega) | (have : a ≠ 0 := fun e => h ((nI_eq ha h0).mpr e); omega) | (have := (nI_ltI ha h0).mp h; omega) | (have := (nI_leI h0 ha).mp h; trivial) | (have := (nI_ltI h0 ha).mp h; omega) | (have := (nI_leI ha h0).mp h; omega)
end QR
theorem q_p_ne (S : q_St) (k i : Nat) (v : Int32) (j : Nat) (h : j ≠ i) : q_p S k i v k j = S k j := by simp [q_p, upd, h]
theorem q_p_eq (S : q_St) (k i : Nat) (v : Int32) : q_p S k i v k i = v := by simp [q_p, upd]
def q_sum (f : Nat → Int32) : Nat → Int32
  | 0 => 0
  | n + 1 => q_sum f n + f n
def q_find (P : Nat → Bool) : Nat → Nat → Int32
  | 0, _ => -1
  | n + 1, i => if P i = true then nI i else q_find P n (i + 1)
def q_first (P : Nat → Bool) : Nat → Nat → Nat
  | 0, i => i
  | n + 1, i => if P i = true then i else q_first P n (i + 1)
def q_every (P : Nat → Bool) : Nat → Nat → Bool
  | 0, _ => true
  | n + 1, i => if P i = true then q_every P n (i + 1) else false
def q_some (P : Nat → Bool) : Nat → Nat → Bool
  | 0, _ => false
  | n + 1, i => if P i = true then true else q_some P n (i + 1)
def q_ors (f : Nat → Int32) : Nat → Int32
  | 0 => 0
  | n + 1 => q_ors f n ||| f n
