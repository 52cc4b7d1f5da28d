
/-! the constructors -/
def q_cn (n : Nat) (v : Int32) : Nat → Int32 := fun j => if j < n then v else 0
theorem q_cn0 (v : Int32) : (fun _ => 0 : Nat → Int32) = q_cn 0 v := by funext j; simp [q_cn]
theorem q_cns (i : Nat) (v : Int32) : upd (q_cn i v) i v = q_cn (i + 1) v := by
  funext j
  unfold upd q_cn
  by_cases h : j = i
  · subst h; simp
  · rw [if_neg h]
    by_cases h2 : j < i
    · rw [if_pos h2, if_pos (by omega)]
    · rw [if_neg h2, if_neg (by omega)]
def q_rf (n o : Nat) : Nat → Option Nat := fun j => if j < n then some (o + 9 * j) else none
theorem q_rf0 (o : Nat) : (fun _ => none : Nat → Option Nat) = q_rf 0 o := by funext j; simp [q_rf]
theorem q_rfs (i o : Nat) : va_up (q_rf i o) i (some (o + 9 * i)) = q_rf (i + 1) o := by
  funext j
  unfold va_up q_rf
  by_cases h : j = i
  · subst h; simp
  · rw [if_neg h]
    by_cases h2 : j < i
    · rw [if_pos h2, if_pos (by omega)]
    · rw [if_neg h2, if_neg (by omega)]
theorem q_Bto {l : Launch} {D : va_G} {K : q_BK} {pc : Nat} {lv : List (Nat × Value)} {st : List Value} {ws ws' : va_W} {n n' mc mc' ms ms' : Nat} (h : q_B l D K pc lv st ws' n' mc' ms') (e1 : ws = ws') (e2 : n = n') (e3 : mc = mc') (e4 : ms = ms') : q_B l D K pc lv st ws n mc ms := by
  subst e1; subst e2; subst e3; subst e4; exact h
def q_kCi (cy : Nat → ClassId) (a sz i : Nat) : va_W := [(a, .inr (1, [.int 0, .int 0, .int 0, .int 0, .int 0, .int 1, .ref sz, .ref (sz + 1), .ref (sz + 2), .ref (sz + 3), .ref (sz + 4), .ref (sz + 5), .ref (sz + 6), .ref (sz + 7)])), (sz, .inl (cy 0, 8, .inl (fun _ => 0))), (sz + 1, .inl (cy 0, 8, .inl (fun _ => 0))), (sz + 2, .inl (cy 0, 8, .inl (fun _ => 0))), (sz + 3, .inl (cy 0, 48, .inl (fun _ => 0))), (sz + 4, .inl (cy 0, 48, .inl (fun _ => 0))), (sz + 5, .inl (cy 0, 6, .inl (q_cn i 20))), (sz + 6, .inl (cy 0, 6, .inl (fun _ => 0))), (sz + 7, .inl (cy 1, 6, .inl (q_cn i 1)))]
def q_kC (cy : Nat → ClassId) (a sz : Nat) : va_W := q_kCi cy a sz 6
def q_cs (cy : Nat → ClassId) (b : Nat) : Nat → va_W
  | 0 => []
  | i + 1 => q_cs cy b i ++ q_kC cy (b + 9 * i) (b + 9 * i + 1)
def q_kHi (cy : Nat → ClassId) (a sz i : Nat) : va_W := [(a, .inr (2, [.ref sz, .int 0, .int 0])), (sz, .inl (cy 3, 8, .inr (.inr (.inr (.inr (q_rf i (sz + 1)))))))] ++ q_cs cy (sz + 1) i
def q_kH (cy : Nat → ClassId) (a sz : Nat) : va_W := q_kHi cy a sz 8
def q_kR (c : Nat) (_ : Nat → ClassId) (a _ : Nat) : va_W := [(a, .inr (5, [.ref c, .int 0, .int 0]))]
def q_kO (cy : Nat → ClassId) (a sz : Nat) : va_W := [(a, .inr (4, [.ref sz, .int 0, .int 0, .int 0, .int (-1), .int 0, .ref (sz + 1), .ref (sz + 2), .ref (sz + 3), .ref (sz + 4)])), (sz, .inl (cy 2, 60, .inl (fun _ => 0))), (sz + 1, .inl (cy 0, 30, .inl (fun _ => 0))), (sz + 2, .inl (cy 0, 30, .inl (fun _ => 0))), (sz + 3, .inl (cy 0, 30, .inl (fun _ => 0))), (sz + 4, .inl (cy 0, 30, .inl (fun _ => 0)))]
def q_kK (c r : Nat) (_ : Nat → ClassId) (a _ : Nat) : va_W := [(a, .inr (0, [.ref c, .ref r]))]
def q_kL (cy : Nat → ClassId) (a sz : Nat) : va_W := [(a, .inr (3, [.ref sz, .int 0])), (sz, .inl (cy 2, 39, .inl (fun _ => 0)))]
def q_kG (cy : Nat → ClassId) (a sz : Nat) : va_W := [(a, .inr (6, [.ref sz, .ref (sz + 9), .ref (sz + 18), .int 0, .ref (sz + 27), .ref (sz + 101), .ref (sz + 102), .ref (sz + 108), .ref (sz + 109)]))] ++ q_kC cy sz (sz + 1) ++ q_kC cy (sz + 9) (sz + 10) ++ q_kC cy (sz + 18) (sz + 19) ++ q_kH cy (sz + 27) (sz + 28) ++ q_kR sz cy (sz + 101) (sz + 102) ++ q_kO cy (sz + 102) (sz + 103) ++ q_kK sz (sz + 101) cy (sz + 108) (sz + 109) ++ q_kL cy (sz + 109) (sz + 110)
theorem q_kC_ad (cy : Nat → ClassId) (a sz : Nat) : q_Bad (q_kC cy a sz) a sz 8 := rfl
theorem q_kR_ad (c : Nat) (cy : Nat → ClassId) (a sz : Nat) : q_Bad (q_kR c cy a sz) a sz 0 := rfl
theorem q_kO_ad (cy : Nat → ClassId) (a sz : Nat) : q_Bad (q_kO cy a sz) a sz 5 := rfl
theorem q_kK_ad (c r : Nat) (cy : Nat → ClassId) (a sz : Nat) : q_Bad (q_kK c r cy a sz) a sz 0 := rfl
theorem q_kL_ad (cy : Nat → ClassId) (a sz : Nat) : q_Bad (q_kL cy a sz) a sz 1 := rfl
theorem q_kH_ad (cy : Nat → ClassId) (a sz : Nat) : q_Bad (q_kH cy a sz) a sz 73 := rfl
theorem q_kG_ad (cy : Nat → ClassId) (a : Nat) : q_Bad (q_kG cy a (a + 1)) a (a + 1) 111 := rfl
theorem q_cs_len (cy : Nat → ClassId) (b : Nat) : ∀ i, (q_cs cy b i).length = 9 * i
  | 0 => rfl
  | i + 1 => by
    show (q_cs cy b i ++ q_kC cy (b + 9 * i) (b + 9 * i + 1)).length = _
    rw [List.length_append, q_cs_len cy b i]
    show 9 * i + 9 = _
    omega
theorem wB_oi : Cond.instanceMethod Lib.objectInit ∈ q_WS := q_in 87 (by decide +kernel) rfl
theorem wB_oc : Cond.code Lib.objectInit ⟨#[0xb1]⟩ 1 none ∈ q_WS := q_in 88 (by decide +kernel) rfl
theorem wB_int : Cond.arrayClass .int ∈ q_WS := q_in 148 (by decide +kernel) rfl
theorem wB_boolean : Cond.arrayClass .boolean ∈ q_WS := q_in 149 (by decide +kernel) rfl
theorem wB_char : Cond.arrayClass .char ∈ q_WS := q_in 230 (by decide +kernel) rfl
theorem wB_long : Cond.arrayClass .long ∈ q_WS := q_in 1478 (by decide +kernel) rfl
theorem wB_byte : Cond.arrayClass .byte ∈ q_WS := q_in 381 (by decide +kernel) rfl
theorem wB_oX0 : Cond.methodLink RX0 3 Lib.objectInit ∈ q_WS := q_in 236 (by decide +kernel) rfl
theorem wB_nX0 : Cond.instantiable RX0 2 ∈ q_WS := q_in 232 (by decide +kernel) rfl
theorem wB_iX0 : Cond.initialized RX0 ∈ q_WS := q_in 53 (by decide +kernel) rfl
theorem wB_mX0 : Cond.instanceMethod yX0_init ∈ q_WS := q_in 234 (by decide +kernel) rfl
theorem wB_cX0 : kX0_init ∈ q_WS := q_in 235 (by decide +kernel) rfl
theorem wB_oX1 : Cond.methodLink RX1 3 Lib.objectInit ∈ q_WS := q_in 94 (by decide +kernel) rfl
theorem wB_nX1 : Cond.instantiable RX1 14 ∈ q_WS := q_in 90 (by decide +kernel) rfl
theorem wB_iX1 : Cond.initialized RX1 ∈ q_WS := q_in 49 (by decide +kernel) rfl
theorem wB_mX1 : Cond.instanceMethod yX1_init ∈ q_WS := q_in 92 (by decide +kernel) rfl
theorem wB_cX1 : kX1_init ∈ q_WS := q_in 93 (by decide +kernel) rfl
theorem wB_oX2 : Cond.methodLink RX2 3 Lib.objectInit ∈ q_WS := q_in 155 (by decide +kernel) rfl
theorem wB_nX2 : Cond.instantiable RX2 3 ∈ q_WS := q_in 151 (by decide +kernel) rfl
theorem wB_iX2 : Cond.initialized RX2 ∈ q_WS := q_in 50 (by decide +kernel) rfl
theorem wB_mX2 : Cond.instanceMethod yX2_init ∈ q_WS := q_in 153 (by decide +kernel) rfl
theorem wB_cX2 : kX2_init ∈ q_WS := q_in 154 (by decide +kernel) rfl
theorem wB_oX3 : Cond.methodLink RX3 3 Lib.objectInit ∈ q_WS := q_in 249 (by decide +kernel) rfl
theorem wB_nX3 : Cond.instantiable RX3 2 ∈ q_WS := q_in 245 (by decide +kernel) rfl
theorem wB_iX3 : Cond.initialized RX3 ∈ q_WS := q_in 54 (by decide +kernel) rfl
theorem wB_mX3 : Cond.instanceMethod yX3_init ∈ q_WS := q_in 247 (by decide +kernel) rfl
theorem wB_cX3 : kX3_init ∈ q_WS := q_in 248 (by decide +kernel) rfl
theorem wB_oX4 : Cond.methodLink RX4 3 Lib.objectInit ∈ q_WS := q_in 191 (by decide +kernel) rfl
theorem wB_nX4 : Cond.instantiable RX4 10 ∈ q_WS := q_in 187 (by decide +kernel) rfl
theorem wB_iX4 : Cond.initialized RX4 ∈ q_WS := q_in 52 (by decide +kernel) rfl
theorem wB_mX4 : Cond.instanceMethod yX4_init ∈ q_WS := q_in 189 (by decide +kernel) rfl
theorem wB_cX4 : kX4_init ∈ q_WS := q_in 190 (by decide +kernel) rfl
theorem wB_oX5 : Cond.methodLink RX5 3 Lib.objectInit ∈ q_WS := q_in 175 (by decide +kernel) rfl
theorem wB_nX5 : Cond.instantiable RX5 3 ∈ q_WS := q_in 171 (by decide +kernel) rfl
theorem wB_iX5 : Cond.initialized RX5 ∈ q_WS := q_in 51 (by decide +kernel) rfl
theorem wB_mX5 : Cond.instanceMethod yX5_init ∈ q_WS := q_in 173 (by decide +kernel) rfl
theorem wB_cX5 : kX5_init ∈ q_WS := q_in 174 (by decide +kernel) rfl
theorem wB_oX6 : Cond.methodLink RX6 1 Lib.objectInit ∈ q_WS := q_in 86 (by decide +kernel) rfl
theorem wB_nX6 : Cond.instantiable RX6 9 ∈ q_WS := q_in 82 (by decide +kernel) rfl
theorem wB_iX6 : Cond.initialized RX6 ∈ q_WS := q_in 48 (by decide +kernel) rfl
theorem wB_mX6 : Cond.instanceMethod yX6_init ∈ q_WS := q_in 84 (by decide +kernel) rfl
theorem wB_cX6 : kX6_init ∈ q_WS := q_in 85 (by decide +kernel) rfl
theorem wB_kX6_7 : Cond.classLink RX6 7 RX1 ∈ q_WS := q_in 89 (by decide +kernel) rfl
theorem wB_kX6_22 : Cond.classLink RX6 22 RX2 ∈ q_WS := q_in 150 (by decide +kernel) rfl
theorem wB_kX6_29 : Cond.classLink RX6 29 RX5 ∈ q_WS := q_in 170 (by decide +kernel) rfl
theorem wB_kX6_38 : Cond.classLink RX6 38 RX4 ∈ q_WS := q_in 186 (by decide +kernel) rfl
theorem wB_kX6_45 : Cond.classLink RX6 45 RX0 ∈ q_WS := q_in 231 (by decide +kernel) rfl
theorem wB_kX6_54 : Cond.classLink RX6 54 RX3 ∈ q_WS := q_in 244 (by decide +kernel) rfl
theorem wB_kX2_9 : Cond.classLink RX2 9 RX1 ∈ q_WS := q_in 156 (by decide +kernel) rfl
theorem wB_kL_9 : Cond.classLink RL 9 RX6 ∈ q_WS := q_in 81 (by decide +kernel) rfl
def q_kCu (cy : Nat → ClassId) (a sz : Nat) (f g : Nat → Int32) : va_W := [(a, .inr (1, [.int 0, .int 0, .int 0, .int 0, .int 0, .int 1, .ref sz, .ref (sz + 1), .ref (sz + 2), .ref (sz + 3), .ref (sz + 4), .ref (sz + 5), .ref (sz + 6), .ref (sz + 7)])), (sz, .inl (cy 0, 8, .inl (fun _ => 0))), (sz + 1, .inl (cy 0, 8, .inl (fun _ => 0))), (sz + 2, .inl (cy 0, 8, .inl (fun _ => 0))), (sz + 3, .inl (cy 0, 48, .inl (fun _ => 0))), (sz + 4, .inl (cy 0, 48, .inl (fun _ => 0))), (sz + 5, .inl (cy 0, 6, .inl f)), (sz + 6, .inl (cy 0, 6, .inl (fun _ => 0))), (sz + 7, .inl (cy 1, 6, .inl g))]
set_option maxHeartbeats 2000000 in
theorem c_X5_init (l : Launch) (c : Nat) : q_Bc l yX5_init kX5_init 2 0 0 5 [.null, .int 0, .int 0] [.ref c] (q_kR c) := by
  refine q_Bc_of (maxL := 2) rfl (by decide +kernel) rfl (fun ad => Nat.le_of_ble_eq_true rfl) ?_
  intro D cy a sz K haz C hI hret
  have C : q_Bx D cy K cX5_init RX5 2 2 0 0 := C
  show q_B l D K 0 [(0, .ref a), (1, .ref c)] [] ([(a, .inr (5, [.null, .int 0, .int 0]))]) (sz) 0 0
  refine q_Baload_n C dX5_init_0 rfl rfl ?_
  refine q_Bobj C wB_oX5 wB_oi wB_oc (by decide) rfl dX5_init_1 ?_
  refine q_Baload_n C dX5_init_4 rfl rfl ?_
  refine q_Baload_n C dX5_init_5 rfl rfl ?_
  refine q_BputF (ws' := [(a, .inr (5, [.ref c, .int 0, .int 0]))]) C hI flX5_9 0 rfl (fun _ _ _ h => by cases h; exact ⟨rfl, rfl, rfl⟩) rfl rfl (Nat.le_of_ble_eq_true rfl) rfl dX5_init_6 ?_
  exact hret _ _ _ _ dX5_init_9 rfl rfl
set_option maxHeartbeats 2000000 in
theorem c_X0_init (l : Launch) (c r : Nat) : q_Bc l yX0_init kX0_init 2 0 0 0 [.null, .null] [.ref c, .ref r] (q_kK c r) := by
  refine q_Bc_of (maxL := 3) rfl (by decide +kernel) rfl (fun ad => Nat.le_of_ble_eq_true rfl) ?_
  intro D cy a sz K haz C hI hret
  have C : q_Bx D cy K cX0_init RX0 2 3 0 0 := C
  show q_B l D K 0 [(0, .ref a), (1, .ref c), (2, .ref r)] [] ([(a, .inr (0, [.null, .null]))]) (sz) 0 0
  refine q_Baload_n C dX0_init_0 rfl rfl ?_
  refine q_Bobj C wB_oX0 wB_oi wB_oc (by decide) rfl dX0_init_1 ?_
  refine q_Baload_n C dX0_init_4 rfl rfl ?_
  refine q_Baload_n C dX0_init_5 rfl rfl ?_
  refine q_BputF (ws' := [(a, .inr (0, [.ref c, .null]))]) C hI flX0_9 0 rfl (fun _ _ _ h => by cases h; exact ⟨rfl, rfl, rfl⟩) rfl rfl (Nat.le_of_ble_eq_true rfl) rfl dX0_init_6 ?_
  refine q_Baload_n C dX0_init_9 rfl rfl ?_
  refine q_Baload_n C dX0_init_10 rfl rfl ?_
  refine q_BputF (ws' := [(a, .inr (0, [.ref c, .ref r]))]) C hI flX0_15 0 rfl (fun _ _ _ h => by cases h; exact ⟨rfl, rfl, rfl⟩) rfl rfl (Nat.le_of_ble_eq_true rfl) rfl dX0_init_11 ?_
  exact hret _ _ _ _ dX0_init_14 rfl rfl
set_option maxHeartbeats 2000000 in
theorem c_X3_init (l : Launch) : q_Bc l yX3_init kX3_init 2 1 39 3 [.null, .int 0] [] q_kL := by
  refine q_Bc_of (maxL := 1) rfl (by decide +kernel) rfl (fun ad => Nat.le_of_ble_eq_true rfl) ?_
  intro D cy a sz K haz C hI hret
  have C : q_Bx D cy K cX3_init RX3 2 1 1 39 := C
  show q_B l D K 0 [(0, .ref a)] [] ([(a, .inr (3, [.null, .int 0]))]) (sz) 0 0
  refine q_Baload_n C dX3_init_0 rfl rfl ?_
  refine q_Bobj C wB_oX3 wB_oi wB_oc (by decide) rfl dX3_init_1 ?_
  refine q_Baload_n C dX3_init_4 rfl rfl ?_
  refine q_Bbipush (v := 39) C dX3_init_5 (by decide) ?_
  refine q_Bnewa_char (N := 39) C wB_char rfl (by decide) (by decide) (by decide) dX3_init_7 ?_
  show q_B l D K 9 [(0, .ref a)] [.ref sz, .ref a] ([(a, .inr (3, [.null, .int 0])), (sz, .inl (cy 2, 39, .inl (fun _ => 0)))]) (sz + 1) 1 39
  refine q_BputF (ws' := [(a, .inr (3, [.ref sz, .int 0])), (sz, .inl (cy 2, 39, .inl (fun _ => 0)))]) C hI flX3_9 0 rfl (fun _ _ _ h => by cases h; exact ⟨rfl, rfl, rfl⟩) rfl rfl (Nat.le_of_ble_eq_true rfl) rfl dX3_init_9 ?_
  exact hret _ _ _ _ dX3_init_12 rfl rfl
set_option maxHeartbeats 2000000 in
theorem c_X4_init (l : Launch) : q_Bc l yX4_init kX4_init 2 5 180 4 [.null, .int 0, .int 0, .int 0, .int 0, .int 0, .null, .null, .null, .null] [] q_kO := by
  refine q_Bc_of (maxL := 1) rfl (by decide +kernel) rfl (fun ad => Nat.le_of_ble_eq_true rfl) ?_
  intro D cy a sz K haz C hI hret
  have C : q_Bx D cy K cX4_init RX4 2 1 5 180 := C
  show q_B l D K 0 [(0, .ref a)] [] ([(a, .inr (4, [.null, .int 0, .int 0, .int 0, .int 0, .int 0, .null, .null, .null, .null]))]) (sz) 0 0
  refine q_Baload_n C dX4_init_0 rfl rfl ?_
  refine q_Bobj C wB_oX4 wB_oi wB_oc (by decide) rfl dX4_init_1 ?_
  refine q_Baload_n C dX4_init_4 rfl rfl ?_
  refine q_Bbipush (v := 60) C dX4_init_5 (by decide) ?_
  refine q_Bnewa_char (N := 60) C wB_char rfl (by decide) (by decide) (by decide) dX4_init_7 ?_
  show q_B l D K 9 [(0, .ref a)] [.ref sz, .ref a] ([(a, .inr (4, [.null, .int 0, .int 0, .int 0, .int 0, .int 0, .null, .null, .null, .null])), (sz, .inl (cy 2, 60, .inl (fun _ => 0)))]) (sz + 1) 1 60
  refine q_BputF (ws' := [(a, .inr (4, [.ref sz, .int 0, .int 0, .int 0, .int 0, .int 0, .null, .null, .null, .null])), (sz, .inl (cy 2, 60, .inl (fun _ => 0)))]) C hI flX4_9 0 rfl (fun _ _ _ h => by cases h; exact ⟨rfl, rfl, rfl⟩) rfl rfl (Nat.le_of_ble_eq_true rfl) rfl dX4_init_9 ?_
  refine q_Baload_n C dX4_init_12 rfl rfl ?_
  refine q_Biconst (v := (-1)) C dX4_init_13 (by decide) ?_
  refine q_Bput (ws' := [(a, .inr (4, [.ref sz, .int 0, .int 0, .int 0, .int (-1), .int 0, .null, .null, .null, .null])), (sz, .inl (cy 2, 60, .inl (fun _ => 0)))]) (ty9 := .int) C flX4_15 0 rfl (fun _ _ _ h => by cases h; exact ⟨rfl, rfl⟩) rfl rfl (Nat.le_of_ble_eq_true rfl) rfl dX4_init_14 ?_
  refine q_Baload_n C dX4_init_17 rfl rfl ?_
  refine q_Bbipush (v := 30) C dX4_init_18 (by decide) ?_
  refine q_Bnewa_int (N := 30) C wB_int rfl (by decide) (by decide) (by decide) dX4_init_20 ?_
  show q_B l D K 22 [(0, .ref a)] [.ref (sz + 1), .ref a] ([(a, .inr (4, [.ref sz, .int 0, .int 0, .int 0, .int (-1), .int 0, .null, .null, .null, .null])), (sz, .inl (cy 2, 60, .inl (fun _ => 0))), (sz + 1, .inl (cy 0, 30, .inl (fun _ => 0)))]) (sz + 2) 2 90
  refine q_BputF (ws' := [(a, .inr (4, [.ref sz, .int 0, .int 0, .int 0, .int (-1), .int 0, .ref (sz + 1), .null, .null, .null])), (sz, .inl (cy 2, 60, .inl (fun _ => 0))), (sz + 1, .inl (cy 0, 30, .inl (fun _ => 0)))]) C hI flX4_19 0 rfl (fun _ _ _ h => by cases h; exact ⟨rfl, rfl, rfl⟩) rfl rfl (Nat.le_of_ble_eq_true rfl) rfl dX4_init_22 ?_
  refine q_Baload_n C dX4_init_25 rfl rfl ?_
  refine q_Bbipush (v := 30) C dX4_init_26 (by decide) ?_
  refine q_Bnewa_int (N := 30) C wB_int rfl (by decide) (by decide) (by decide) dX4_init_28 ?_
  show q_B l D K 30 [(0, .ref a)] [.ref (sz + 2), .ref a] ([(a, .inr (4, [.ref sz, .int 0, .int 0, .int 0, .int (-1), .int 0, .ref (sz + 1), .null, .null, .null])), (sz, .inl (cy 2, 60, .inl (fun _ => 0))), (sz + 1, .inl (cy 0, 30, .inl (fun _ => 0))), (sz + 2, .inl (cy 0, 30, .inl (fun _ => 0)))]) (sz + 3) 3 120
  refine q_BputF (ws' := [(a, .inr (4, [.ref sz, .int 0, .int 0, .int 0, .int (-1), .int 0, .ref (sz + 1), .ref (sz + 2), .null, .null])), (sz, .inl (cy 2, 60, .inl (fun _ => 0))), (sz + 1, .inl (cy 0, 30, .inl (fun _ => 0))), (sz + 2, .inl (cy 0, 30, .inl (fun _ => 0)))]) C hI flX4_23 0 rfl (fun _ _ _ h => by cases h; exact ⟨rfl, rfl, rfl⟩) rfl rfl (Nat.le_of_ble_eq_true rfl) rfl dX4_init_30 ?_
  refine q_Baload_n C dX4_init_33 rfl rfl ?_
  refine q_Bbipush (v := 30) C dX4_init_34 (by decide) ?_
  refine q_Bnewa_int (N := 30) C wB_int rfl (by decide) (by decide) (by decide) dX4_init_36 ?_
  show q_B l D K 38 [(0, .ref a)] [.ref (sz + 3), .ref a] ([(a, .inr (4, [.ref sz, .int 0, .int 0, .int 0, .int (-1), .int 0, .ref (sz + 1), .ref (sz + 2), .null, .null])), (sz, .inl (cy 2, 60, .inl (fun _ => 0))), (sz + 1, .inl (cy 0, 30, .inl (fun _ => 0))), (sz + 2, .inl (cy 0, 30, .inl (fun _ => 0))), (sz + 3, .inl (cy 0, 30, .inl (fun _ => 0)))]) (sz + 4) 4 150
  refine q_BputF (ws' := [(a, .inr (4, [.ref sz, .int 0, .int 0, .int 0, .int (-1), .int 0, .ref (sz + 1), .ref (sz + 2), .ref (sz + 3), .null])), (sz, .inl (cy 2, 60, .inl (fun _ => 0))), (sz + 1, .inl (cy 0, 30, .inl (fun _ => 0))), (sz + 2, .inl (cy 0, 30, .inl (fun _ => 0))), (sz + 3, .inl (cy 0, 30, .inl (fun _ => 0)))]) C hI flX4_26 0 rfl (fun _ _ _ h => by cases h; exact ⟨rfl, rfl, rfl⟩) rfl rfl (Nat.le_of_ble_eq_true rfl) rfl dX4_init_38 ?_
  refine q_Baload_n C dX4_init_41 rfl rfl ?_
  refine q_Bbipush (v := 30) C dX4_init_42 (by decide) ?_
  refine q_Bnewa_int (N := 30) C wB_int rfl (by decide) (by decide) (by decide) dX4_init_44 ?_
  show q_B l D K 46 [(0, .ref a)] [.ref (sz + 4), .ref a] ([(a, .inr (4, [.ref sz, .int 0, .int 0, .int 0, .int (-1), .int 0, .ref (sz + 1), .ref (sz + 2), .ref (sz + 3), .null])), (sz, .inl (cy 2, 60, .inl (fun _ => 0))), (sz + 1, .inl (cy 0, 30, .inl (fun _ => 0))), (sz + 2, .inl (cy 0, 30, .inl (fun _ => 0))), (sz + 3, .inl (cy 0, 30, .inl (fun _ => 0))), (sz + 4, .inl (cy 0, 30, .inl (fun _ => 0)))]) (sz + 5) 5 180
  refine q_BputF (ws' := [(a, .inr (4, [.ref sz, .int 0, .int 0, .int 0, .int (-1), .int 0, .ref (sz + 1), .ref (sz + 2), .ref (sz + 3), .ref (sz + 4)])), (sz, .inl (cy 2, 60, .inl (fun _ => 0))), (sz + 1, .inl (cy 0, 30, .inl (fun _ => 0))), (sz + 2, .inl (cy 0, 30, .inl (fun _ => 0))), (sz + 3, .inl (cy 0, 30, .inl (fun _ => 0))), (sz + 4, .inl (cy 0, 30, .inl (fun _ => 0)))]) C hI flX4_29 0 rfl (fun _ _ _ h => by cases h; exact ⟨rfl, rfl, rfl⟩) rfl rfl (Nat.le_of_ble_eq_true rfl) rfl dX4_init_46 ?_
  exact hret _ _ _ _ dX4_init_49 rfl rfl
set_option maxHeartbeats 2000000 in
theorem c_X1_init (l : Launch) : q_Bc l yX1_init kX1_init 2 8 138 1 [.int 0, .int 0, .int 0, .int 0, .int 0, .int 0, .null, .null, .null, .null, .null, .null, .null, .null] [] q_kC := by
  refine q_Bc_of (maxL := 2) rfl (by decide +kernel) rfl (fun ad => Nat.le_of_ble_eq_true rfl) ?_
  intro D cy a sz K haz C hI hret
  have C : q_Bx D cy K cX1_init RX1 2 2 8 138 := C
  show q_B l D K 0 [(0, .ref a)] [] ([(a, .inr (1, [.int 0, .int 0, .int 0, .int 0, .int 0, .int 0, .null, .null, .null, .null, .null, .null, .null, .null]))]) (sz) 0 0
  refine q_Baload_n C dX1_init_0 rfl rfl ?_
  refine q_Bobj C wB_oX1 wB_oi wB_oc (by decide) rfl dX1_init_1 ?_
  refine q_Baload_n C dX1_init_4 rfl rfl ?_
  refine q_Biconst (v := 1) C dX1_init_5 (by decide) ?_
  refine q_Bput (ws' := [(a, .inr (1, [.int 0, .int 0, .int 0, .int 0, .int 0, .int 1, .null, .null, .null, .null, .null, .null, .null, .null]))]) (ty9 := .boolean) C flX1_9 0 rfl (fun _ _ _ h => by cases h; exact ⟨rfl, rfl⟩) rfl rfl (Nat.le_of_ble_eq_true rfl) rfl dX1_init_6 ?_
  refine q_Baload_n C dX1_init_9 rfl rfl ?_
  refine q_Bbipush (v := 8) C dX1_init_10 (by decide) ?_
  refine q_Bnewa_int (N := 8) C wB_int rfl (by decide) (by decide) (by decide) dX1_init_12 ?_
  show q_B l D K 14 [(0, .ref a)] [.ref sz, .ref a] ([(a, .inr (1, [.int 0, .int 0, .int 0, .int 0, .int 0, .int 1, .null, .null, .null, .null, .null, .null, .null, .null])), (sz, .inl (cy 0, 8, .inl (fun _ => 0)))]) (sz + 1) 1 8
  refine q_BputF (ws' := [(a, .inr (1, [.int 0, .int 0, .int 0, .int 0, .int 0, .int 1, .ref sz, .null, .null, .null, .null, .null, .null, .null])), (sz, .inl (cy 0, 8, .inl (fun _ => 0)))]) C hI flX1_15 0 rfl (fun _ _ _ h => by cases h; exact ⟨rfl, rfl, rfl⟩) rfl rfl (Nat.le_of_ble_eq_true rfl) rfl dX1_init_14 ?_
  refine q_Baload_n C dX1_init_17 rfl rfl ?_
  refine q_Bbipush (v := 8) C dX1_init_18 (by decide) ?_
  refine q_Bnewa_int (N := 8) C wB_int rfl (by decide) (by decide) (by decide) dX1_init_20 ?_
  show q_B l D K 22 [(0, .ref a)] [.ref (sz + 1), .ref a] ([(a, .inr (1, [.int 0, .int 0, .int 0, .int 0, .int 0, .int 1, .ref sz, .null, .null, .null, .null, .null, .null, .null])), (sz, .inl (cy 0, 8, .inl (fun _ => 0))), (sz + 1, .inl (cy 0, 8, .inl (fun _ => 0)))]) (sz + 2) 2 16
  refine q_BputF (ws' := [(a, .inr (1, [.int 0, .int 0, .int 0, .int 0, .int 0, .int 1, .ref sz, .ref (sz + 1), .null, .null, .null, .null, .null, .null])), (sz, .inl (cy 0, 8, .inl (fun _ => 0))), (sz + 1, .inl (cy 0, 8, .inl (fun _ => 0)))]) C hI flX1_19 0 rfl (fun _ _ _ h => by cases h; exact ⟨rfl, rfl, rfl⟩) rfl rfl (Nat.le_of_ble_eq_true rfl) rfl dX1_init_22 ?_
  refine q_Baload_n C dX1_init_25 rfl rfl ?_
  refine q_Bbipush (v := 8) C dX1_init_26 (by decide) ?_
  refine q_Bnewa_int (N := 8) C wB_int rfl (by decide) (by decide) (by decide) dX1_init_28 ?_
  show q_B l D K 30 [(0, .ref a)] [.ref (sz + 2), .ref a] ([(a, .inr (1, [.int 0, .int 0, .int 0, .int 0, .int 0, .int 1, .ref sz, .ref (sz + 1), .null, .null, .null, .null, .null, .null])), (sz, .inl (cy 0, 8, .inl (fun _ => 0))), (sz + 1, .inl (cy 0, 8, .inl (fun _ => 0))), (sz + 2, .inl (cy 0, 8, .inl (fun _ => 0)))]) (sz + 3) 3 24
  refine q_BputF (ws' := [(a, .inr (1, [.int 0, .int 0, .int 0, .int 0, .int 0, .int 1, .ref sz, .ref (sz + 1), .ref (sz + 2), .null, .null, .null, .null, .null])), (sz, .inl (cy 0, 8, .inl (fun _ => 0))), (sz + 1, .inl (cy 0, 8, .inl (fun _ => 0))), (sz + 2, .inl (cy 0, 8, .inl (fun _ => 0)))]) C hI flX1_22 0 rfl (fun _ _ _ h => by cases h; exact ⟨rfl, rfl, rfl⟩) rfl rfl (Nat.le_of_ble_eq_true rfl) rfl dX1_init_30 ?_
  refine q_Baload_n C dX1_init_33 rfl rfl ?_
  refine q_Bbipush (v := 48) C dX1_init_34 (by decide) ?_
  refine q_Bnewa_int (N := 48) C wB_int rfl (by decide) (by decide) (by decide) dX1_init_36 ?_
  show q_B l D K 38 [(0, .ref a)] [.ref (sz + 3), .ref a] ([(a, .inr (1, [.int 0, .int 0, .int 0, .int 0, .int 0, .int 1, .ref sz, .ref (sz + 1), .ref (sz + 2), .null, .null, .null, .null, .null])), (sz, .inl (cy 0, 8, .inl (fun _ => 0))), (sz + 1, .inl (cy 0, 8, .inl (fun _ => 0))), (sz + 2, .inl (cy 0, 8, .inl (fun _ => 0))), (sz + 3, .inl (cy 0, 48, .inl (fun _ => 0)))]) (sz + 4) 4 72
  refine q_BputF (ws' := [(a, .inr (1, [.int 0, .int 0, .int 0, .int 0, .int 0, .int 1, .ref sz, .ref (sz + 1), .ref (sz + 2), .ref (sz + 3), .null, .null, .null, .null])), (sz, .inl (cy 0, 8, .inl (fun _ => 0))), (sz + 1, .inl (cy 0, 8, .inl (fun _ => 0))), (sz + 2, .inl (cy 0, 8, .inl (fun _ => 0))), (sz + 3, .inl (cy 0, 48, .inl (fun _ => 0)))]) C hI flX1_25 0 rfl (fun _ _ _ h => by cases h; exact ⟨rfl, rfl, rfl⟩) rfl rfl (Nat.le_of_ble_eq_true rfl) rfl dX1_init_38 ?_
  refine q_Baload_n C dX1_init_41 rfl rfl ?_
  refine q_Bbipush (v := 48) C dX1_init_42 (by decide) ?_
  refine q_Bnewa_int (N := 48) C wB_int rfl (by decide) (by decide) (by decide) dX1_init_44 ?_
  show q_B l D K 46 [(0, .ref a)] [.ref (sz + 4), .ref a] ([(a, .inr (1, [.int 0, .int 0, .int 0, .int 0, .int 0, .int 1, .ref sz, .ref (sz + 1), .ref (sz + 2), .ref (sz + 3), .null, .null, .null, .null])), (sz, .inl (cy 0, 8, .inl (fun _ => 0))), (sz + 1, .inl (cy 0, 8, .inl (fun _ => 0))), (sz + 2, .inl (cy 0, 8, .inl (fun _ => 0))), (sz + 3, .inl (cy 0, 48, .inl (fun _ => 0))), (sz + 4, .inl (cy 0, 48, .inl (fun _ => 0)))]) (sz + 5) 5 120
  refine q_BputF (ws' := [(a, .inr (1, [.int 0, .int 0, .int 0, .int 0, .int 0, .int 1, .ref sz, .ref (sz + 1), .ref (sz + 2), .ref (sz + 3), .ref (sz + 4), .null, .null, .null])), (sz, .inl (cy 0, 8, .inl (fun _ => 0))), (sz + 1, .inl (cy 0, 8, .inl (fun _ => 0))), (sz + 2, .inl (cy 0, 8, .inl (fun _ => 0))), (sz + 3, .inl (cy 0, 48, .inl (fun _ => 0))), (sz + 4, .inl (cy 0, 48, .inl (fun _ => 0)))]) C hI flX1_28 0 rfl (fun _ _ _ h => by cases h; exact ⟨rfl, rfl, rfl⟩) rfl rfl (Nat.le_of_ble_eq_true rfl) rfl dX1_init_46 ?_
  refine q_Baload_n C dX1_init_49 rfl rfl ?_
  refine q_Bbipush (v := 6) C dX1_init_50 (by decide) ?_
  refine q_Bnewa_int (N := 6) C wB_int rfl (by decide) (by decide) (by decide) dX1_init_52 ?_
  show q_B l D K 54 [(0, .ref a)] [.ref (sz + 5), .ref a] ([(a, .inr (1, [.int 0, .int 0, .int 0, .int 0, .int 0, .int 1, .ref sz, .ref (sz + 1), .ref (sz + 2), .ref (sz + 3), .ref (sz + 4), .null, .null, .null])), (sz, .inl (cy 0, 8, .inl (fun _ => 0))), (sz + 1, .inl (cy 0, 8, .inl (fun _ => 0))), (sz + 2, .inl (cy 0, 8, .inl (fun _ => 0))), (sz + 3, .inl (cy 0, 48, .inl (fun _ => 0))), (sz + 4, .inl (cy 0, 48, .inl (fun _ => 0))), (sz + 5, .inl (cy 0, 6, .inl (fun _ => 0)))]) (sz + 6) 6 126
  refine q_BputF (ws' := [(a, .inr (1, [.int 0, .int 0, .int 0, .int 0, .int 0, .int 1, .ref sz, .ref (sz + 1), .ref (sz + 2), .ref (sz + 3), .ref (sz + 4), .ref (sz + 5), .null, .null])), (sz, .inl (cy 0, 8, .inl (fun _ => 0))), (sz + 1, .inl (cy 0, 8, .inl (fun _ => 0))), (sz + 2, .inl (cy 0, 8, .inl (fun _ => 0))), (sz + 3, .inl (cy 0, 48, .inl (fun _ => 0))), (sz + 4, .inl (cy 0, 48, .inl (fun _ => 0))), (sz + 5, .inl (cy 0, 6, .inl (fun _ => 0)))]) C hI flX1_31 0 rfl (fun _ _ _ h => by cases h; exact ⟨rfl, rfl, rfl⟩) rfl rfl (Nat.le_of_ble_eq_true rfl) rfl dX1_init_54 ?_
  refine q_Baload_n C dX1_init_57 rfl rfl ?_
  refine q_Bbipush (v := 6) C dX1_init_58 (by decide) ?_
  refine q_Bnewa_int (N := 6) C wB_int rfl (by decide) (by decide) (by decide) dX1_init_60 ?_
  show q_B l D K 62 [(0, .ref a)] [.ref (sz + 6), .ref a] ([(a, .inr (1, [.int 0, .int 0, .int 0, .int 0, .int 0, .int 1, .ref sz, .ref (sz + 1), .ref (sz + 2), .ref (sz + 3), .ref (sz + 4), .ref (sz + 5), .null, .null])), (sz, .inl (cy 0, 8, .inl (fun _ => 0))), (sz + 1, .inl (cy 0, 8, .inl (fun _ => 0))), (sz + 2, .inl (cy 0, 8, .inl (fun _ => 0))), (sz + 3, .inl (cy 0, 48, .inl (fun _ => 0))), (sz + 4, .inl (cy 0, 48, .inl (fun _ => 0))), (sz + 5, .inl (cy 0, 6, .inl (fun _ => 0))), (sz + 6, .inl (cy 0, 6, .inl (fun _ => 0)))]) (sz + 7) 7 132
  refine q_BputF (ws' := [(a, .inr (1, [.int 0, .int 0, .int 0, .int 0, .int 0, .int 1, .ref sz, .ref (sz + 1), .ref (sz + 2), .ref (sz + 3), .ref (sz + 4), .ref (sz + 5), .ref (sz + 6), .null])), (sz, .inl (cy 0, 8, .inl (fun _ => 0))), (sz + 1, .inl (cy 0, 8, .inl (fun _ => 0))), (sz + 2, .inl (cy 0, 8, .inl (fun _ => 0))), (sz + 3, .inl (cy 0, 48, .inl (fun _ => 0))), (sz + 4, .inl (cy 0, 48, .inl (fun _ => 0))), (sz + 5, .inl (cy 0, 6, .inl (fun _ => 0))), (sz + 6, .inl (cy 0, 6, .inl (fun _ => 0)))]) C hI flX1_34 0 rfl (fun _ _ _ h => by cases h; exact ⟨rfl, rfl, rfl⟩) rfl rfl (Nat.le_of_ble_eq_true rfl) rfl dX1_init_62 ?_
  refine q_Baload_n C dX1_init_65 rfl rfl ?_
  refine q_Bbipush (v := 6) C dX1_init_66 (by decide) ?_
  refine q_Bnewa_bool (N := 6) C wB_boolean rfl (by decide) (by decide) (by decide) dX1_init_68 ?_
  show q_B l D K 70 [(0, .ref a)] [.ref (sz + 7), .ref a] ([(a, .inr (1, [.int 0, .int 0, .int 0, .int 0, .int 0, .int 1, .ref sz, .ref (sz + 1), .ref (sz + 2), .ref (sz + 3), .ref (sz + 4), .ref (sz + 5), .ref (sz + 6), .null])), (sz, .inl (cy 0, 8, .inl (fun _ => 0))), (sz + 1, .inl (cy 0, 8, .inl (fun _ => 0))), (sz + 2, .inl (cy 0, 8, .inl (fun _ => 0))), (sz + 3, .inl (cy 0, 48, .inl (fun _ => 0))), (sz + 4, .inl (cy 0, 48, .inl (fun _ => 0))), (sz + 5, .inl (cy 0, 6, .inl (fun _ => 0))), (sz + 6, .inl (cy 0, 6, .inl (fun _ => 0))), (sz + 7, .inl (cy 1, 6, .inl (fun _ => 0)))]) (sz + 8) 8 138
  refine q_BputF (ws' := [(a, .inr (1, [.int 0, .int 0, .int 0, .int 0, .int 0, .int 1, .ref sz, .ref (sz + 1), .ref (sz + 2), .ref (sz + 3), .ref (sz + 4), .ref (sz + 5), .ref (sz + 6), .ref (sz + 7)])), (sz, .inl (cy 0, 8, .inl (fun _ => 0))), (sz + 1, .inl (cy 0, 8, .inl (fun _ => 0))), (sz + 2, .inl (cy 0, 8, .inl (fun _ => 0))), (sz + 3, .inl (cy 0, 48, .inl (fun _ => 0))), (sz + 4, .inl (cy 0, 48, .inl (fun _ => 0))), (sz + 5, .inl (cy 0, 6, .inl (fun _ => 0))), (sz + 6, .inl (cy 0, 6, .inl (fun _ => 0))), (sz + 7, .inl (cy 1, 6, .inl (fun _ => 0)))]) C hI flX1_37 0 rfl (fun _ _ _ h => by cases h; exact ⟨rfl, rfl, rfl⟩) rfl rfl (Nat.le_of_ble_eq_true rfl) rfl dX1_init_70 ?_
  refine q_Biconst (v := 0) C dX1_init_73 (by decide) ?_
  refine q_Bistore_n (lv' := [(1, .int 0), (0, .ref a)]) C dX1_init_74 rfl (by decide) rfl ?_
  have loop_75 : ∀ (n i : Nat), i + n = 6 → q_B l D K 75 [(1, .int (nI i)), (0, .ref a)] [] (q_kCi cy a sz i) (sz + 8) 8 138 := by
    intro n
    induction n with
    | zero =>
      intro i hi
      have e : i = 6 := by omega
      subst e
      refine q_Biload_n C dX1_init_75 rfl rfl ?_
      refine q_Bbipush (v := 6) C dX1_init_76 (by decide) ?_
      refine q_Bicmp_ge (tgt := 102) C dX1_init_78 (by decide) (fun _ => ?_) (fun h9 => absurd h9 (by decide))
      exact hret _ _ _ _ dX1_init_102 rfl rfl
    | succ n ih =>
      intro i hi
      refine q_Biload_n C dX1_init_75 rfl rfl ?_
      refine q_Bbipush (v := 6) C dX1_init_76 (by decide) ?_
      refine q_Bicmp_ge (tgt := 102) C dX1_init_78 (by decide) (fun h9 => absurd h9 (nI_ge (show i < 6 by omega) (by decide))) (fun _ => ?_)
      refine q_Baload_n C dX1_init_81 rfl rfl ?_
      refine q_Bget C flX1_31 0 rfl rfl dX1_init_82 ?_
      refine q_Biload_n C dX1_init_85 rfl rfl ?_
      refine q_Bbipush (v := 20) C dX1_init_86 (by decide) ?_
      refine q_Biast (i := i) C rfl 6 rfl (by omega) (by decide) rfl dX1_init_88 ?_
      refine q_Baload_n C dX1_init_89 rfl rfl ?_
      refine q_Bget C flX1_37 0 rfl rfl dX1_init_90 ?_
      refine q_Biload_n C dX1_init_93 rfl rfl ?_
      refine q_Biconst (v := 1) C dX1_init_94 (by decide) ?_
      refine q_Bzast (i := i) C rfl 8 rfl (by omega) (by decide) rfl dX1_init_95 ?_
      refine q_Biinc (v := nI (i + 1)) (lv' := [(1, .int (nI (i + 1))), (0, .ref a)]) C dX1_init_96 rfl (nI_add _ _) (by decide) rfl ?_
      refine q_Bgoto (tgt := 75) C dX1_init_99 (by decide) ?_
      refine q_Bto (ih (i + 1) (by omega)) ?_ rfl rfl rfl
      show q_kCu cy a sz (upd (q_cn i 20) i 20) (upd (q_cn i 1) i (vp_nar .boolean 1)) = q_kCi cy a sz (i + 1)
      rw [show vp_nar .boolean 1 = 1 from by decide, q_cns, q_cns]
      rfl
  refine q_Bto (loop_75 6 0 rfl) ?_ rfl rfl rfl
  show q_kCu cy a sz (fun _ => 0) (fun _ => 0) = q_kCi cy a sz 0
  unfold q_kCi q_kCu
  rw [← q_cn0, ← q_cn0]
set_option maxHeartbeats 2000000 in
theorem c_X2_init (l : Launch) : q_Bc l yX2_init kX2_init 3 73 1224 2 [.null, .int 0, .int 0] [] q_kH := by
  refine q_Bc_of (maxL := 2) rfl (by decide +kernel) rfl (fun ad => Nat.le_of_ble_eq_true rfl) ?_
  intro D cy a sz K haz C hI hret
  have C : q_Bx D cy K cX2_init RX2 3 2 73 1224 := C
  show q_B l D K 0 [(0, .ref a)] [] ([(a, .inr (2, [.null, .int 0, .int 0]))]) (sz) 0 0
  refine q_Baload_n C dX2_init_0 rfl rfl ?_
  refine q_Bobj C wB_oX2 wB_oi wB_oc (by decide) rfl dX2_init_1 ?_
  refine q_Baload_n C dX2_init_4 rfl rfl ?_
  refine q_Bbipush (v := 8) C dX2_init_5 (by decide) ?_
  refine q_Bnewq (N := 8) C wB_kX2_9 rfl (by decide) (by decide) (by decide) dX2_init_7 ?_
  show q_B l D K 10 [(0, .ref a)] [.ref sz, .ref a] [(a, .inr (2, [.null, .int 0, .int 0])), (sz, .inl (cy 3, 8, .inr (.inr (.inr (.inr (fun _ => none))))))] (sz + 1) 1 8
  refine q_BputF (ws' := [(a, .inr (2, [.ref sz, .int 0, .int 0])), (sz, .inl (cy 3, 8, .inr (.inr (.inr (.inr (fun _ => none))))))]) C hI flX2_11 0 rfl (fun _ _ _ h => by cases h; exact ⟨rfl, rfl, rfl⟩) rfl rfl (Nat.le_of_ble_eq_true rfl) rfl dX2_init_10 ?_
  refine q_Biconst (v := 0) C dX2_init_13 (by decide) ?_
  refine q_Bistore_n (lv' := [(1, .int 0), (0, .ref a)]) C dX2_init_14 rfl (by decide) rfl ?_
  have loop_15 : ∀ (n i : Nat), i + n = 8 → q_B l D K 15 [(1, .int (nI i)), (0, .ref a)] [] (q_kHi cy a sz i) (sz + 1 + 9 * i) (1 + 9 * i) (8 + 152 * i) := by
    intro n
    induction n with
    | zero =>
      intro i hi
      have e : i = 8 := by omega
      subst e
      refine q_Biload_n C dX2_init_15 rfl rfl ?_
      refine q_Bbipush (v := 8) C dX2_init_16 (by decide) ?_
      refine q_Bicmp_ge (tgt := 40) C dX2_init_18 (by decide) (fun _ => ?_) (fun h9 => absurd h9 (by decide))
      exact hret _ _ _ _ dX2_init_40 rfl rfl
    | succ n ih =>
      intro i hi
      refine q_Biload_n C dX2_init_15 rfl rfl ?_
      refine q_Bbipush (v := 8) C dX2_init_16 (by decide) ?_
      refine q_Bicmp_ge (tgt := 40) C dX2_init_18 (by decide) (fun h9 => absurd h9 (nI_ge (show i < 8 by omega) (by decide))) (fun _ => ?_)
      refine q_Baload_n C dX2_init_21 rfl rfl ?_
      refine q_Bget C flX2_11 0 rfl rfl dX2_init_22 ?_
      refine q_Biload_n C dX2_init_25 rfl rfl ?_
      refine q_Bnew (fs := [.int 0, .int 0, .int 0, .int 0, .int 0, .int 0, .null, .null, .null, .null, .null, .null, .null, .null]) C (ci := 1) rfl cl_X1 tyX1_ok (by decide) wB_kX2_9 wB_nX1 wB_iX1 (by omega) (by omega) dX2_init_26 ?_
      refine q_Bdup C rfl dX2_init_29 ?_
      refine q_Bcall (pre := q_kHi cy a sz i) (a := sz + 1 + 9 * i) (As := []) (rest := [.ref (sz + 1 + 9 * i), .int (nI i), .ref sz]) (maxL := 2) C (c_X1_init l) rfl wB_cX1 wB_iX1 mlX2_17 wB_mX1 rfl (by decide +kernel) rfl ⟨by decide, by decide⟩ (Nat.le_of_ble_eq_true rfl) (by omega) (by omega) (q_kC_ad cy _ _) dX2_init_30 ?_
      refine q_Bastq (vs := [.int 0, .int 0, .int 0, .int 0, .int 0, .int 1, .ref (sz + 1 + 9 * i + 1), .ref (sz + 1 + 9 * i + 1 + 1), .ref (sz + 1 + 9 * i + 1 + 2), .ref (sz + 1 + 9 * i + 1 + 3), .ref (sz + 1 + 9 * i + 1 + 4), .ref (sz + 1 + 9 * i + 1 + 5), .ref (sz + 1 + 9 * i + 1 + 6), .ref (sz + 1 + 9 * i + 1 + 7)]) (i := i) (ws' := q_kHi cy a sz (i + 1)) C rfl 1 (2 + 9 * i) rfl ?_ (by omega) (by decide) ?_ dX2_init_33 ?_
      · show (([_, _] ++ q_cs cy (sz + 1) i) ++ q_kC cy (sz + 1 + 9 * i) (sz + 1 + 9 * i + 1))[2 + 9 * i]? = _
        rw [List.getElem?_append_right (by rw [List.length_append, q_cs_len]; exact Nat.le_refl _), List.length_append, q_cs_len]
        rw [show 2 + 9 * i - (([_, _] : va_W).length + 9 * i) = 0 from Nat.sub_self _]
        rfl
      · show [_, (sz, Sum.inl (cy 3, 8, Sum.inr (Sum.inr (Sum.inr (Sum.inr (va_up (q_rf i (sz + 1)) i (some (sz + 1 + 9 * i))))))))] ++ q_cs cy (sz + 1) i ++ q_kC cy (sz + 1 + 9 * i) (sz + 1 + 9 * i + 1) = _
        rw [q_rfs, List.append_assoc]
        rfl
      · refine q_Biinc (v := nI (i + 1)) (lv' := [(1, .int (nI (i + 1))), (0, .ref a)]) C dX2_init_34 rfl (nI_add _ _) (by decide) rfl ?_
        refine q_Bgoto (tgt := 15) C dX2_init_37 (by decide) ?_
        exact q_Bto (ih (i + 1) (by omega)) rfl (by omega) (by omega) (by omega)
  refine q_Bto (loop_15 8 0 rfl) ?_ rfl rfl rfl
  show [_, (sz, Sum.inl (cy 3, 8, Sum.inr (Sum.inr (Sum.inr (Sum.inr (fun _ => none))))))] = q_kHi cy a sz 0
  unfold q_kHi
  rw [q_rf0 (sz + 1)]
  rfl
set_option maxHeartbeats 2000000 in
theorem c_X6_init (l : Launch) : q_Bc l yX6_init kX6_init 4 111 1919 6 [.null, .null, .null, .int 0, .null, .null, .null, .null, .null] [] q_kG := by
  refine q_Bc_of (maxL := 1) rfl (by decide +kernel) rfl (fun ad => Nat.le_of_ble_eq_true rfl) ?_
  intro D cy a sz K haz C hI hret
  have C : q_Bx D cy K cX6_init RX6 4 1 111 1919 := C
  show q_B l D K 0 [(0, .ref a)] [] ([(a, .inr (6, [.null, .null, .null, .int 0, .null, .null, .null, .null, .null]))]) (sz) 0 0
  refine q_Baload_n C dX6_init_0 rfl rfl ?_
  refine q_Bobj C wB_oX6 wB_oi wB_oc (by decide) rfl dX6_init_1 ?_
  refine q_Baload_n C dX6_init_4 rfl rfl ?_
  refine q_Bnew (fs := [.int 0, .int 0, .int 0, .int 0, .int 0, .int 0, .null, .null, .null, .null, .null, .null, .null, .null]) C (ci := 1) rfl cl_X1 tyX1_ok (by decide) wB_kX6_7 wB_nX1 wB_iX1 (by decide) (by decide) dX6_init_5 ?_
  show q_B l D K 8 [(0, .ref a)] [.ref sz, .ref a] ([(a, .inr (6, [.null, .null, .null, .int 0, .null, .null, .null, .null, .null]))] ++ [(sz, .inr (1, [.int 0, .int 0, .int 0, .int 0, .int 0, .int 0, .null, .null, .null, .null, .null, .null, .null, .null]))]) (sz + 1) 1 14
  refine q_Bdup C rfl dX6_init_8 ?_
  refine q_Bcall (np := 0) (mc := 1) (ms := 14) (n := sz + 1) (pre := [(a, .inr (6, [.null, .null, .null, .int 0, .null, .null, .null, .null, .null]))]) (a := sz) (As := []) (rest := [.ref sz, .ref a]) (maxL := 2) C (c_X1_init l) rfl wB_cX1 wB_iX1 mlX6_9 wB_mX1 rfl (by decide +kernel) rfl ⟨by decide, by decide⟩ (Nat.le_of_ble_eq_true rfl) (by decide) (by decide) (q_kC_ad cy _ _) dX6_init_9 ?_
  show q_B l D K 12 [(0, .ref a)] [.ref sz, .ref a] ([(a, .inr (6, [.null, .null, .null, .int 0, .null, .null, .null, .null, .null]))] ++ q_kC cy sz (sz + 1)) (sz + 9) 9 152
  refine q_BputF (ws' := [(a, .inr (6, [.ref sz, .null, .null, .int 0, .null, .null, .null, .null, .null]))] ++ q_kC cy sz (sz + 1)) C hI flX6_10 0 rfl (fun _ _ _ h => by cases h; exact ⟨rfl, rfl, rfl⟩) rfl rfl (Nat.le_of_ble_eq_true rfl) rfl dX6_init_12 ?_
  refine q_Baload_n C dX6_init_15 rfl rfl ?_
  refine q_Bnew (fs := [.int 0, .int 0, .int 0, .int 0, .int 0, .int 0, .null, .null, .null, .null, .null, .null, .null, .null]) C (ci := 1) rfl cl_X1 tyX1_ok (by decide) wB_kX6_7 wB_nX1 wB_iX1 (by decide) (by decide) dX6_init_16 ?_
  show q_B l D K 19 [(0, .ref a)] [.ref (sz + 9), .ref a] ([(a, .inr (6, [.ref sz, .null, .null, .int 0, .null, .null, .null, .null, .null]))] ++ q_kC cy sz (sz + 1) ++ [(sz + 9, .inr (1, [.int 0, .int 0, .int 0, .int 0, .int 0, .int 0, .null, .null, .null, .null, .null, .null, .null, .null]))]) (sz + 10) 10 166
  refine q_Bdup C rfl dX6_init_19 ?_
  refine q_Bcall (np := 0) (mc := 10) (ms := 166) (n := sz + 10) (pre := [(a, .inr (6, [.ref sz, .null, .null, .int 0, .null, .null, .null, .null, .null]))] ++ q_kC cy sz (sz + 1)) (a := sz + 9) (As := []) (rest := [.ref (sz + 9), .ref a]) (maxL := 2) C (c_X1_init l) rfl wB_cX1 wB_iX1 mlX6_9 wB_mX1 rfl (by decide +kernel) rfl ⟨by decide, by decide⟩ (Nat.le_of_ble_eq_true rfl) (by decide) (by decide) (q_kC_ad cy _ _) dX6_init_20 ?_
  show q_B l D K 23 [(0, .ref a)] [.ref (sz + 9), .ref a] ([(a, .inr (6, [.ref sz, .null, .null, .int 0, .null, .null, .null, .null, .null]))] ++ q_kC cy sz (sz + 1) ++ q_kC cy (sz + 9) (sz + 10)) (sz + 18) 18 304
  refine q_BputF (ws' := [(a, .inr (6, [.ref sz, .ref (sz + 9), .null, .int 0, .null, .null, .null, .null, .null]))] ++ q_kC cy sz (sz + 1) ++ q_kC cy (sz + 9) (sz + 10)) C hI flX6_16 0 rfl (fun _ _ _ h => by cases h; exact ⟨rfl, rfl, rfl⟩) rfl rfl (Nat.le_of_ble_eq_true rfl) rfl dX6_init_23 ?_
  refine q_Baload_n C dX6_init_26 rfl rfl ?_
  refine q_Bnew (fs := [.int 0, .int 0, .int 0, .int 0, .int 0, .int 0, .null, .null, .null, .null, .null, .null, .null, .null]) C (ci := 1) rfl cl_X1 tyX1_ok (by decide) wB_kX6_7 wB_nX1 wB_iX1 (by decide) (by decide) dX6_init_27 ?_
  show q_B l D K 30 [(0, .ref a)] [.ref (sz + 18), .ref a] ([(a, .inr (6, [.ref sz, .ref (sz + 9), .null, .int 0, .null, .null, .null, .null, .null]))] ++ q_kC cy sz (sz + 1) ++ q_kC cy (sz + 9) (sz + 10) ++ [(sz + 18, .inr (1, [.int 0, .int 0, .int 0, .int 0, .int 0, .int 0, .null, .null, .null, .null, .null, .null, .null, .null]))]) (sz + 19) 19 318
  refine q_Bdup C rfl dX6_init_30 ?_
  refine q_Bcall (np := 0) (mc := 19) (ms := 318) (n := sz + 19) (pre := [(a, .inr (6, [.ref sz, .ref (sz + 9), .null, .int 0, .null, .null, .null, .null, .null]))] ++ q_kC cy sz (sz + 1) ++ q_kC cy (sz + 9) (sz + 10)) (a := sz + 18) (As := []) (rest := [.ref (sz + 18), .ref a]) (maxL := 2) C (c_X1_init l) rfl wB_cX1 wB_iX1 mlX6_9 wB_mX1 rfl (by decide +kernel) rfl ⟨by decide, by decide⟩ (Nat.le_of_ble_eq_true rfl) (by decide) (by decide) (q_kC_ad cy _ _) dX6_init_31 ?_
  show q_B l D K 34 [(0, .ref a)] [.ref (sz + 18), .ref a] ([(a, .inr (6, [.ref sz, .ref (sz + 9), .null, .int 0, .null, .null, .null, .null, .null]))] ++ q_kC cy sz (sz + 1) ++ q_kC cy (sz + 9) (sz + 10) ++ q_kC cy (sz + 18) (sz + 19)) (sz + 27) 27 456
  refine q_BputF (ws' := [(a, .inr (6, [.ref sz, .ref (sz + 9), .ref (sz + 18), .int 0, .null, .null, .null, .null, .null]))] ++ q_kC cy sz (sz + 1) ++ q_kC cy (sz + 9) (sz + 10) ++ q_kC cy (sz + 18) (sz + 19)) C hI flX6_19 0 rfl (fun _ _ _ h => by cases h; exact ⟨rfl, rfl, rfl⟩) rfl rfl (Nat.le_of_ble_eq_true rfl) rfl dX6_init_34 ?_
  refine q_Baload_n C dX6_init_37 rfl rfl ?_
  refine q_Bnew (fs := [.null, .int 0, .int 0]) C (ci := 2) rfl cl_X2 tyX2_ok (by decide) wB_kX6_22 wB_nX2 wB_iX2 (by decide) (by decide) dX6_init_38 ?_
  show q_B l D K 41 [(0, .ref a)] [.ref (sz + 27), .ref a] ([(a, .inr (6, [.ref sz, .ref (sz + 9), .ref (sz + 18), .int 0, .null, .null, .null, .null, .null]))] ++ q_kC cy sz (sz + 1) ++ q_kC cy (sz + 9) (sz + 10) ++ q_kC cy (sz + 18) (sz + 19) ++ [(sz + 27, .inr (2, [.null, .int 0, .int 0]))]) (sz + 28) 28 459
  refine q_Bdup C rfl dX6_init_41 ?_
  refine q_Bcall (np := 0) (mc := 28) (ms := 459) (n := sz + 28) (pre := [(a, .inr (6, [.ref sz, .ref (sz + 9), .ref (sz + 18), .int 0, .null, .null, .null, .null, .null]))] ++ q_kC cy sz (sz + 1) ++ q_kC cy (sz + 9) (sz + 10) ++ q_kC cy (sz + 18) (sz + 19)) (a := sz + 27) (As := []) (rest := [.ref (sz + 27), .ref a]) (maxL := 2) C (c_X2_init l) rfl wB_cX2 wB_iX2 mlX6_24 wB_mX2 rfl (by decide +kernel) rfl ⟨by decide, by decide⟩ (Nat.le_of_ble_eq_true rfl) (by decide) (by decide) (q_kH_ad cy _ _) dX6_init_42 ?_
  show q_B l D K 45 [(0, .ref a)] [.ref (sz + 27), .ref a] ([(a, .inr (6, [.ref sz, .ref (sz + 9), .ref (sz + 18), .int 0, .null, .null, .null, .null, .null]))] ++ q_kC cy sz (sz + 1) ++ q_kC cy (sz + 9) (sz + 10) ++ q_kC cy (sz + 18) (sz + 19) ++ q_kH cy (sz + 27) (sz + 28)) (sz + 101) 101 1683
  refine q_BputF (ws' := [(a, .inr (6, [.ref sz, .ref (sz + 9), .ref (sz + 18), .int 0, .ref (sz + 27), .null, .null, .null, .null]))] ++ q_kC cy sz (sz + 1) ++ q_kC cy (sz + 9) (sz + 10) ++ q_kC cy (sz + 18) (sz + 19) ++ q_kH cy (sz + 27) (sz + 28)) C hI flX6_25 0 rfl (fun _ _ _ h => by cases h; exact ⟨rfl, rfl, rfl⟩) rfl rfl (Nat.le_of_ble_eq_true rfl) rfl dX6_init_45 ?_
  refine q_Baload_n C dX6_init_48 rfl rfl ?_
  refine q_Bnew (fs := [.null, .int 0, .int 0]) C (ci := 5) rfl cl_X5 tyX5_ok (by decide) wB_kX6_29 wB_nX5 wB_iX5 (by decide) (by decide) dX6_init_49 ?_
  show q_B l D K 52 [(0, .ref a)] [.ref (sz + 101), .ref a] ([(a, .inr (6, [.ref sz, .ref (sz + 9), .ref (sz + 18), .int 0, .ref (sz + 27), .null, .null, .null, .null]))] ++ q_kC cy sz (sz + 1) ++ q_kC cy (sz + 9) (sz + 10) ++ q_kC cy (sz + 18) (sz + 19) ++ q_kH cy (sz + 27) (sz + 28) ++ [(sz + 101, .inr (5, [.null, .int 0, .int 0]))]) (sz + 102) 102 1686
  refine q_Bdup C rfl dX6_init_52 ?_
  refine q_Baload_n C dX6_init_53 rfl rfl ?_
  refine q_Bget C flX6_10 0 rfl rfl dX6_init_54 ?_
  refine q_Bcall (np := 1) (mc := 102) (ms := 1686) (n := sz + 102) (pre := [(a, .inr (6, [.ref sz, .ref (sz + 9), .ref (sz + 18), .int 0, .ref (sz + 27), .null, .null, .null, .null]))] ++ q_kC cy sz (sz + 1) ++ q_kC cy (sz + 9) (sz + 10) ++ q_kC cy (sz + 18) (sz + 19) ++ q_kH cy (sz + 27) (sz + 28)) (a := sz + 101) (As := [.ref sz]) (rest := [.ref (sz + 101), .ref a]) (maxL := 2) C (c_X5_init l sz) rfl wB_cX5 wB_iX5 mlX6_31 wB_mX5 rfl (by decide +kernel) rfl ⟨by decide, by decide⟩ (Nat.le_of_ble_eq_true rfl) (by decide) (by decide) (q_kR_ad sz cy _ _) dX6_init_57 ?_
  show q_B l D K 60 [(0, .ref a)] [.ref (sz + 101), .ref a] ([(a, .inr (6, [.ref sz, .ref (sz + 9), .ref (sz + 18), .int 0, .ref (sz + 27), .null, .null, .null, .null]))] ++ q_kC cy sz (sz + 1) ++ q_kC cy (sz + 9) (sz + 10) ++ q_kC cy (sz + 18) (sz + 19) ++ q_kH cy (sz + 27) (sz + 28) ++ q_kR sz cy (sz + 101) (sz + 102)) (sz + 102) 102 1686
  refine q_BputF (ws' := [(a, .inr (6, [.ref sz, .ref (sz + 9), .ref (sz + 18), .int 0, .ref (sz + 27), .ref (sz + 101), .null, .null, .null]))] ++ q_kC cy sz (sz + 1) ++ q_kC cy (sz + 9) (sz + 10) ++ q_kC cy (sz + 18) (sz + 19) ++ q_kH cy (sz + 27) (sz + 28) ++ q_kR sz cy (sz + 101) (sz + 102)) C hI flX6_34 0 rfl (fun _ _ _ h => by cases h; exact ⟨rfl, rfl, rfl⟩) rfl rfl (Nat.le_of_ble_eq_true rfl) rfl dX6_init_60 ?_
  refine q_Baload_n C dX6_init_63 rfl rfl ?_
  refine q_Bnew (fs := [.null, .int 0, .int 0, .int 0, .int 0, .int 0, .null, .null, .null, .null]) C (ci := 4) rfl cl_X4 tyX4_ok (by decide) wB_kX6_38 wB_nX4 wB_iX4 (by decide) (by decide) dX6_init_64 ?_
  show q_B l D K 67 [(0, .ref a)] [.ref (sz + 102), .ref a] ([(a, .inr (6, [.ref sz, .ref (sz + 9), .ref (sz + 18), .int 0, .ref (sz + 27), .ref (sz + 101), .null, .null, .null]))] ++ q_kC cy sz (sz + 1) ++ q_kC cy (sz + 9) (sz + 10) ++ q_kC cy (sz + 18) (sz + 19) ++ q_kH cy (sz + 27) (sz + 28) ++ q_kR sz cy (sz + 101) (sz + 102) ++ [(sz + 102, .inr (4, [.null, .int 0, .int 0, .int 0, .int 0, .int 0, .null, .null, .null, .null]))]) (sz + 103) 103 1696
  refine q_Bdup C rfl dX6_init_67 ?_
  refine q_Bcall (np := 0) (mc := 103) (ms := 1696) (n := sz + 103) (pre := [(a, .inr (6, [.ref sz, .ref (sz + 9), .ref (sz + 18), .int 0, .ref (sz + 27), .ref (sz + 101), .null, .null, .null]))] ++ q_kC cy sz (sz + 1) ++ q_kC cy (sz + 9) (sz + 10) ++ q_kC cy (sz + 18) (sz + 19) ++ q_kH cy (sz + 27) (sz + 28) ++ q_kR sz cy (sz + 101) (sz + 102)) (a := sz + 102) (As := []) (rest := [.ref (sz + 102), .ref a]) (maxL := 1) C (c_X4_init l) rfl wB_cX4 wB_iX4 mlX6_40 wB_mX4 rfl (by decide +kernel) rfl ⟨by decide, by decide⟩ (Nat.le_of_ble_eq_true rfl) (by decide) (by decide) (q_kO_ad cy _ _) dX6_init_68 ?_
  show q_B l D K 71 [(0, .ref a)] [.ref (sz + 102), .ref a] ([(a, .inr (6, [.ref sz, .ref (sz + 9), .ref (sz + 18), .int 0, .ref (sz + 27), .ref (sz + 101), .null, .null, .null]))] ++ q_kC cy sz (sz + 1) ++ q_kC cy (sz + 9) (sz + 10) ++ q_kC cy (sz + 18) (sz + 19) ++ q_kH cy (sz + 27) (sz + 28) ++ q_kR sz cy (sz + 101) (sz + 102) ++ q_kO cy (sz + 102) (sz + 103)) (sz + 108) 108 1876
  refine q_BputF (ws' := [(a, .inr (6, [.ref sz, .ref (sz + 9), .ref (sz + 18), .int 0, .ref (sz + 27), .ref (sz + 101), .ref (sz + 102), .null, .null]))] ++ q_kC cy sz (sz + 1) ++ q_kC cy (sz + 9) (sz + 10) ++ q_kC cy (sz + 18) (sz + 19) ++ q_kH cy (sz + 27) (sz + 28) ++ q_kR sz cy (sz + 101) (sz + 102) ++ q_kO cy (sz + 102) (sz + 103)) C hI flX6_41 0 rfl (fun _ _ _ h => by cases h; exact ⟨rfl, rfl, rfl⟩) rfl rfl (Nat.le_of_ble_eq_true rfl) rfl dX6_init_71 ?_
  refine q_Baload_n C dX6_init_74 rfl rfl ?_
  refine q_Bnew (fs := [.null, .null]) C (ci := 0) rfl cl_X0 tyX0_ok (by decide) wB_kX6_45 wB_nX0 wB_iX0 (by decide) (by decide) dX6_init_75 ?_
  show q_B l D K 78 [(0, .ref a)] [.ref (sz + 108), .ref a] ([(a, .inr (6, [.ref sz, .ref (sz + 9), .ref (sz + 18), .int 0, .ref (sz + 27), .ref (sz + 101), .ref (sz + 102), .null, .null]))] ++ q_kC cy sz (sz + 1) ++ q_kC cy (sz + 9) (sz + 10) ++ q_kC cy (sz + 18) (sz + 19) ++ q_kH cy (sz + 27) (sz + 28) ++ q_kR sz cy (sz + 101) (sz + 102) ++ q_kO cy (sz + 102) (sz + 103) ++ [(sz + 108, .inr (0, [.null, .null]))]) (sz + 109) 109 1878
  refine q_Bdup C rfl dX6_init_78 ?_
  refine q_Baload_n C dX6_init_79 rfl rfl ?_
  refine q_Bget C flX6_10 0 rfl rfl dX6_init_80 ?_
  refine q_Baload_n C dX6_init_83 rfl rfl ?_
  refine q_Bget C flX6_34 0 rfl rfl dX6_init_84 ?_
  refine q_Bcall (np := 2) (mc := 109) (ms := 1878) (n := sz + 109) (pre := [(a, .inr (6, [.ref sz, .ref (sz + 9), .ref (sz + 18), .int 0, .ref (sz + 27), .ref (sz + 101), .ref (sz + 102), .null, .null]))] ++ q_kC cy sz (sz + 1) ++ q_kC cy (sz + 9) (sz + 10) ++ q_kC cy (sz + 18) (sz + 19) ++ q_kH cy (sz + 27) (sz + 28) ++ q_kR sz cy (sz + 101) (sz + 102) ++ q_kO cy (sz + 102) (sz + 103)) (a := sz + 108) (As := [.ref sz, .ref (sz + 101)]) (rest := [.ref (sz + 108), .ref a]) (maxL := 3) C (c_X0_init l sz (sz + 101)) rfl wB_cX0 wB_iX0 mlX6_47 wB_mX0 rfl (by decide +kernel) rfl ⟨by decide, by decide⟩ (Nat.le_of_ble_eq_true rfl) (by decide) (by decide) (q_kK_ad sz (sz + 101) cy _ _) dX6_init_87 ?_
  show q_B l D K 90 [(0, .ref a)] [.ref (sz + 108), .ref a] ([(a, .inr (6, [.ref sz, .ref (sz + 9), .ref (sz + 18), .int 0, .ref (sz + 27), .ref (sz + 101), .ref (sz + 102), .null, .null]))] ++ q_kC cy sz (sz + 1) ++ q_kC cy (sz + 9) (sz + 10) ++ q_kC cy (sz + 18) (sz + 19) ++ q_kH cy (sz + 27) (sz + 28) ++ q_kR sz cy (sz + 101) (sz + 102) ++ q_kO cy (sz + 102) (sz + 103) ++ q_kK sz (sz + 101) cy (sz + 108) (sz + 109)) (sz + 109) 109 1878
  refine q_BputF (ws' := [(a, .inr (6, [.ref sz, .ref (sz + 9), .ref (sz + 18), .int 0, .ref (sz + 27), .ref (sz + 101), .ref (sz + 102), .ref (sz + 108), .null]))] ++ q_kC cy sz (sz + 1) ++ q_kC cy (sz + 9) (sz + 10) ++ q_kC cy (sz + 18) (sz + 19) ++ q_kH cy (sz + 27) (sz + 28) ++ q_kR sz cy (sz + 101) (sz + 102) ++ q_kO cy (sz + 102) (sz + 103) ++ q_kK sz (sz + 101) cy (sz + 108) (sz + 109)) C hI flX6_50 0 rfl (fun _ _ _ h => by cases h; exact ⟨rfl, rfl, rfl⟩) rfl rfl (Nat.le_of_ble_eq_true rfl) rfl dX6_init_90 ?_
  refine q_Baload_n C dX6_init_93 rfl rfl ?_
  refine q_Bnew (fs := [.null, .int 0]) C (ci := 3) rfl cl_X3 tyX3_ok (by decide) wB_kX6_54 wB_nX3 wB_iX3 (by decide) (by decide) dX6_init_94 ?_
  show q_B l D K 97 [(0, .ref a)] [.ref (sz + 109), .ref a] ([(a, .inr (6, [.ref sz, .ref (sz + 9), .ref (sz + 18), .int 0, .ref (sz + 27), .ref (sz + 101), .ref (sz + 102), .ref (sz + 108), .null]))] ++ q_kC cy sz (sz + 1) ++ q_kC cy (sz + 9) (sz + 10) ++ q_kC cy (sz + 18) (sz + 19) ++ q_kH cy (sz + 27) (sz + 28) ++ q_kR sz cy (sz + 101) (sz + 102) ++ q_kO cy (sz + 102) (sz + 103) ++ q_kK sz (sz + 101) cy (sz + 108) (sz + 109) ++ [(sz + 109, .inr (3, [.null, .int 0]))]) (sz + 110) 110 1880
  refine q_Bdup C rfl dX6_init_97 ?_
  refine q_Bcall (np := 0) (mc := 110) (ms := 1880) (n := sz + 110) (pre := [(a, .inr (6, [.ref sz, .ref (sz + 9), .ref (sz + 18), .int 0, .ref (sz + 27), .ref (sz + 101), .ref (sz + 102), .ref (sz + 108), .null]))] ++ q_kC cy sz (sz + 1) ++ q_kC cy (sz + 9) (sz + 10) ++ q_kC cy (sz + 18) (sz + 19) ++ q_kH cy (sz + 27) (sz + 28) ++ q_kR sz cy (sz + 101) (sz + 102) ++ q_kO cy (sz + 102) (sz + 103) ++ q_kK sz (sz + 101) cy (sz + 108) (sz + 109)) (a := sz + 109) (As := []) (rest := [.ref (sz + 109), .ref a]) (maxL := 1) C (c_X3_init l) rfl wB_cX3 wB_iX3 mlX6_56 wB_mX3 rfl (by decide +kernel) rfl ⟨by decide, by decide⟩ (Nat.le_of_ble_eq_true rfl) (by decide) (by decide) (q_kL_ad cy _ _) dX6_init_98 ?_
  show q_B l D K 101 [(0, .ref a)] [.ref (sz + 109), .ref a] ([(a, .inr (6, [.ref sz, .ref (sz + 9), .ref (sz + 18), .int 0, .ref (sz + 27), .ref (sz + 101), .ref (sz + 102), .ref (sz + 108), .null]))] ++ q_kC cy sz (sz + 1) ++ q_kC cy (sz + 9) (sz + 10) ++ q_kC cy (sz + 18) (sz + 19) ++ q_kH cy (sz + 27) (sz + 28) ++ q_kR sz cy (sz + 101) (sz + 102) ++ q_kO cy (sz + 102) (sz + 103) ++ q_kK sz (sz + 101) cy (sz + 108) (sz + 109) ++ q_kL cy (sz + 109) (sz + 110)) (sz + 111) 111 1919
  refine q_BputF (ws' := [(a, .inr (6, [.ref sz, .ref (sz + 9), .ref (sz + 18), .int 0, .ref (sz + 27), .ref (sz + 101), .ref (sz + 102), .ref (sz + 108), .ref (sz + 109)]))] ++ q_kC cy sz (sz + 1) ++ q_kC cy (sz + 9) (sz + 10) ++ q_kC cy (sz + 18) (sz + 19) ++ q_kH cy (sz + 27) (sz + 28) ++ q_kR sz cy (sz + 101) (sz + 102) ++ q_kO cy (sz + 102) (sz + 103) ++ q_kK sz (sz + 101) cy (sz + 108) (sz + 109) ++ q_kL cy (sz + 109) (sz + 110)) C hI flX6_57 0 rfl (fun _ _ _ h => by cases h; exact ⟨rfl, rfl, rfl⟩) rfl rfl (Nat.le_of_ble_eq_true rfl) rfl dX6_init_101 ?_
  exact hret _ _ _ _ dX6_init_104 rfl rfl
