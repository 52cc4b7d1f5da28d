
def pBk (S : q_St) (N m : Nat) : Int32 := if m < N then S 4 m else -13
theorem k_bk (l : Launch) (hst : l.stackTraces = false) (S : q_St) (N : Nat) (hN : S 1 1 = nI N) (hN8 : N ≤ 8) (m : Nat) (hm : m < 100) : q_Fy l yL_book kL_book 9 6 [.ref 0, .int (nI m)] S (pBk S N m) S := by
  unfold pBk
  by_cases c : m < N
  · rw [if_pos c]; exact k_book l hst S N hN hN8 m c
  · rw [if_neg c]; exact k_bookN l hst S N hN hN8 m (by omega) (by omega)
def uS1 (S : q_St) (M : Nat) : Nat → Int64
  | 0 => if S 1 5 = 0 then 7 else 5
  | w + 1 => 31 * uS1 S M w + (uC_nA S M w).toInt64
def uS3 (S : q_St) (m : Nat) (h : Int64) : Nat → Int64
  | 0 => h
  | g + 1 => 41 * uS3 S m h g + 100 * (pAn S m g).toInt64 + (S 5 (m * 6 + g)).toInt64
def uS2 (S : q_St) (M N : Nat) : Nat → Int64
  | 0 => uS1 S M 11
  | m + 1 => uS3 S m (37 * uS2 S M N m + (S 2 m).toInt64 + 3 * (pBk S N m).toInt64) 6
def uS4 (S : q_St) (M N : Nat) : Nat → Int64
  | 0 => uS2 S M N M
  | g + 1 => 43 * uS4 S M N g + (S 7 g).toInt64 + 1000 * (if S 9 g = 0 then (0 : Int32) else 1).toInt64 + 3000 * (S 8 g).toInt64
def uSum (S : q_St) (M N : Nat) : Int64 := uS4 S M N 6
theorem cl250 : Cond.constantLong RL 250 5 ∈ q_WS := q_in 1287 (by decide +kernel) rfl
theorem cl252 : Cond.constantLong RL 252 7 ∈ q_WS := q_in 1288 (by decide +kernel) rfl
theorem cl254 : Cond.constantLong RL 254 31 ∈ q_WS := q_in 1289 (by decide +kernel) rfl
theorem cl256 : Cond.constantLong RL 256 37 ∈ q_WS := q_in 1290 (by decide +kernel) rfl
theorem cl258 : Cond.constantLong RL 258 3 ∈ q_WS := q_in 1291 (by decide +kernel) rfl
theorem cl260 : Cond.constantLong RL 260 41 ∈ q_WS := q_in 1292 (by decide +kernel) rfl
theorem cl262 : Cond.constantLong RL 262 100 ∈ q_WS := q_in 1293 (by decide +kernel) rfl
theorem cl264 : Cond.constantLong RL 264 43 ∈ q_WS := q_in 1294 (by decide +kernel) rfl
theorem cl266 : Cond.constantLong RL 266 1000 ∈ q_WS := q_in 1295 (by decide +kernel) rfl
theorem cl268 : Cond.constantLong RL 268 3000 ∈ q_WS := q_in 1296 (by decide +kernel) rfl
set_option maxHeartbeats 2000000 in
theorem ll_sum (l : Launch) (hst : l.stackTraces = false) (S : q_St) (d M N : Nat) (hI : pI d M N S) : q_Fyl l yL_sum kL_sum 10 1200 [.ref 0] S (uSum S M N) S := by
  refine q_Fyl_of (maxL := 5) rfl (by decide +kernel) (fun ad => Nat.le_of_ble_eq_true rfl) ?_
  intro K C hret
  have C : q_Cy K cL_sum RL 10 5 1200 [] q_Tr := C
  show q_Y l K 0 [] q_Tr 0 [(0, .ref (q_ad K 0))] [] S
  have hM8 := hI.M8
  have hN8 := hI.N8
  refine y_aload_n C dL_sum_0 rfl rfl ?_
  refine y_ci (rest := []) C (c_X6_isAwake l S hI.bool) myX6_isAwake mlL_141 rfl rfl rfl ⟨by decide, by decide⟩ (by omega) (Nat.le_of_ble_eq_true rfl) dL_sum_1 ?_
  have j_16 : q_Y l K 0 [] q_Tr 16 [(0, .ref (q_ad K 0))] [.long (uS1 S M 0)] S := by
    refine y_lstore_n (lv' := [(1, .long (uS1 S M 0)), (0, .ref (q_ad K 0))]) C dL_sum_16 rfl (by decide) rfl ?_
    refine y_iconst (v := 0) C dL_sum_17 (by decide) ?_
    refine y_istore_n (lv' := [(3, .int 0), (1, .long (uS1 S M 0)), (0, .ref (q_ad K 0))]) C dL_sum_18 rfl (by decide) rfl ?_
    have loop_19 : ∀ (n_19 i_19 u_19 : Nat), i_19 + n_19 = 11 → u_19 + n_19 * 6 ≤ 0 + 11 * 6 → q_Y l K u_19 [] q_Tr 19 [(0, .ref (q_ad K 0)), (1, .long (uS1 S M i_19)), (3, .int (nI i_19))] [] S := by
      intro n_19
      induction n_19 with
      | zero =>
        intro i_19 u_19 hi_19 hu_19
        have e_19 : i_19 = 11 := by omega
        refine y_iload_n C dL_sum_19 rfl rfl ?_
        refine y_bipush (v := 11) C dL_sum_20 (by decide) ?_
        refine y_icmp_geN (a := i_19) (b := 11) (tgt := 44) C dL_sum_22 (by decide) rfl rfl (by omega) (by omega) (fun c_22 => ?_) (fun c_22 => absurd c_22 (by omega))
        have e9i_19 : i_19 = 11 := by omega
        subst e9i_19
        refine y_iconst (v := 0) C dL_sum_44 (by decide) ?_
        refine y_istore_n (lv' := [(3, .int 0), (0, .ref (q_ad K 0)), (1, .long (uS1 S M 11))]) C dL_sum_45 rfl (by decide) rfl ?_
        have loop_46 : ∀ (n_46 i_46 u_46 : Nat), i_46 + n_46 = M → u_46 + n_46 * 100 ≤ u_19 + M * 100 → q_Y l K u_46 [] q_Tr 46 [(0, .ref (q_ad K 0)), (1, .long (uS2 S M N i_46)), (3, .int (nI i_46))] [] S := by
          intro n_46
          induction n_46 with
          | zero =>
            intro i_46 u_46 hi_46 hu_46
            have e_46 : i_46 = M := by omega
            refine y_iload_n C dL_sum_46 rfl rfl ?_
            refine y_aload_n C dL_sum_47 rfl rfl ?_
            refine y_iconst (v := 0) C dL_sum_48 (by decide) ?_
            refine y_cx (rest := [.int (nI i_46)]) C (k_account l hst S M hI.hM 0 (by decide)) myX6_account mlL_157 rfl rfl rfl ⟨by decide, by decide⟩ (by omega) (Nat.le_of_ble_eq_true rfl) dL_sum_49 ?_
            refine y_icmp_geN (a := i_46) (b := M) (tgt := 130) C dL_sum_52 (by decide) rfl rfl (by omega) (by omega) (fun c_52 => ?_) (fun c_52 => absurd c_52 (by omega))
            have e9i_46 : M = i_46 := by omega
            subst e9i_46
            refine y_iconst (v := 0) C dL_sum_130 (by decide) ?_
            refine y_istore_n (lv' := [(3, .int 0), (0, .ref (q_ad K 0)), (1, .long (uS2 S M N M))]) C dL_sum_131 rfl (by decide) rfl ?_
            have loop_132 : ∀ (n_132 i_132 u_132 : Nat), i_132 + n_132 = 6 → u_132 + n_132 * 18 ≤ u_46 + 6 + 6 * 18 → q_Y l K u_132 [] q_Tr 132 [(0, .ref (q_ad K 0)), (1, .long (uS4 S M N i_132)), (3, .int (nI i_132))] [] S := by
              intro n_132
              induction n_132 with
              | zero =>
                intro i_132 u_132 hi_132 hu_132
                have e_132 : i_132 = 6 := by omega
                refine y_iload_n C dL_sum_132 rfl rfl ?_
                refine y_bipush (v := 6) C dL_sum_133 (by decide) ?_
                refine y_icmp_geN (a := i_132) (b := 6) (tgt := 182) C dL_sum_135 (by decide) rfl rfl (by omega) (by omega) (fun c_135 => ?_) (fun c_135 => absurd c_135 (by omega))
                have e9i_132 : i_132 = 6 := by omega
                subst e9i_132
                refine y_lload_n C dL_sum_182 rfl rfl ?_
                exact hret _ _ _ _ _ _ _ (by omega) dL_sum_183 rfl rfl
              | succ n_132 ih_132 =>
                intro i_132 u_132 hi_132 hu_132
                refine y_iload_n C dL_sum_132 rfl rfl ?_
                refine y_bipush (v := 6) C dL_sum_133 (by decide) ?_
                refine y_icmp_geN (a := i_132) (b := 6) (tgt := 182) C dL_sum_135 (by decide) rfl rfl (by omega) (by omega) (fun c_135 => absurd c_135 (by omega)) (fun c_135 => ?_)
                refine y_ldc2 (v := 43) C cl264 dL_sum_138 ?_
                refine y_lload_n C dL_sum_141 rfl rfl ?_
                refine y_lmul C dL_sum_142 ?_
                refine y_aload_n C dL_sum_143 rfl rfl ?_
                refine y_iload_n C dL_sum_144 rfl rfl ?_
                refine y_iconst (v := 0) C dL_sum_145 (by decide) ?_
                refine y_sw (rest := [.long (43 * (uS4 S M N i_132))]) C (k_guildOf l hst S M hI.hM i_132 0 (by omega) (by decide)) mwL_guildOf mlL_149 rfl rfl rfl ⟨by decide, by decide⟩ (by omega) (Nat.le_of_ble_eq_true rfl) dL_sum_146 ?_
                refine y_i2l C dL_sum_149 ?_
                refine y_ladd C dL_sum_150 ?_
                refine y_ldc2 (v := 1000) C cl266 dL_sum_151 ?_
                refine y_aload_n C dL_sum_154 rfl rfl ?_
                refine y_iload_n C dL_sum_155 rfl rfl ?_
                refine y_iconst (v := 1) C dL_sum_156 (by decide) ?_
                refine y_sw (rest := [.long 1000, .long ((43 * (uS4 S M N i_132)) + ((S 7 i_132).toInt64))]) C (k_guildOf l hst S M hI.hM i_132 1 (by omega) (by decide)) mwL_guildOf mlL_149 rfl rfl rfl ⟨by decide, by decide⟩ (by omega) (Nat.le_of_ble_eq_true rfl) dL_sum_157 ?_
                refine y_i2l C dL_sum_160 ?_
                refine y_lmul C dL_sum_161 ?_
                refine y_ladd C dL_sum_162 ?_
                refine y_ldc2 (v := 3000) C cl268 dL_sum_163 ?_
                refine y_aload_n C dL_sum_166 rfl rfl ?_
                refine y_iload_n C dL_sum_167 rfl rfl ?_
                refine y_iconst (v := 3) C dL_sum_168 (by decide) ?_
                refine y_sw (rest := [.long 3000, .long (((43 * (uS4 S M N i_132)) + ((S 7 i_132).toInt64)) + (1000 * ((if S 9 i_132 = 0 then (0 : Int32) else 1).toInt64)))]) C (k_guildOf l hst S M hI.hM i_132 3 (by omega) (by decide)) mwL_guildOf mlL_149 rfl rfl rfl ⟨by decide, by decide⟩ (by omega) (Nat.le_of_ble_eq_true rfl) dL_sum_169 ?_
                refine y_i2l C dL_sum_172 ?_
                refine y_lmul C dL_sum_173 ?_
                refine y_ladd C dL_sum_174 ?_
                refine y_lstore_n (lv' := [(1, .long ((((43 * (uS4 S M N i_132)) + ((S 7 i_132).toInt64)) + (1000 * ((if S 9 i_132 = 0 then (0 : Int32) else 1).toInt64))) + (3000 * ((S 8 i_132).toInt64)))), (0, .ref (q_ad K 0)), (3, .int (nI i_132))]) C dL_sum_175 rfl (by decide) rfl ?_
                refine y_iinc (v := nI (i_132 + 1)) (lv' := [(3, .int (nI (i_132 + 1))), (1, .long ((((43 * (uS4 S M N i_132)) + ((S 7 i_132).toInt64)) + (1000 * ((if S 9 i_132 = 0 then (0 : Int32) else 1).toInt64))) + (3000 * ((S 8 i_132).toInt64)))), (0, .ref (q_ad K 0))]) C dL_sum_176 rfl (nI_add _ _) (by decide) rfl ?_
                refine y_goto (tgt := 132) C dL_sum_179 (by decide) ?_
                exact y_to (ih_132 (i_132 + 1) _ (by omega) (by omega)) ⟨rfl, rfl, rfl, trivial⟩ rfl
            exact y_to (loop_132 (6 - 0) 0 _ (by omega) (by omega)) ⟨rfl, rfl, rfl, trivial⟩ rfl
          | succ n_46 ih_46 =>
            intro i_46 u_46 hi_46 hu_46
            refine y_iload_n C dL_sum_46 rfl rfl ?_
            refine y_aload_n C dL_sum_47 rfl rfl ?_
            refine y_iconst (v := 0) C dL_sum_48 (by decide) ?_
            refine y_cx (rest := [.int (nI i_46)]) C (k_account l hst S M hI.hM 0 (by decide)) myX6_account mlL_157 rfl rfl rfl ⟨by decide, by decide⟩ (by omega) (Nat.le_of_ble_eq_true rfl) dL_sum_49 ?_
            refine y_icmp_geN (a := i_46) (b := M) (tgt := 130) C dL_sum_52 (by decide) rfl rfl (by omega) (by omega) (fun c_52 => absurd c_52 (by omega)) (fun c_52 => ?_)
            refine y_ldc2 (v := 37) C cl256 dL_sum_55 ?_
            refine y_lload_n C dL_sum_58 rfl rfl ?_
            refine y_lmul C dL_sum_59 ?_
            refine y_aload_n C dL_sum_60 rfl rfl ?_
            refine y_iload_n C dL_sum_61 rfl rfl ?_
            refine y_iconst (v := 0) C dL_sum_62 (by decide) ?_
            refine y_sw (rest := [.long (37 * (uS2 S M N i_46))]) C (k_of l hst S M hI.hM i_46 0 (by omega) (by decide)) mwL_of mlL_187 rfl rfl rfl ⟨by decide, by decide⟩ (by omega) (Nat.le_of_ble_eq_true rfl) dL_sum_63 ?_
            refine y_i2l C dL_sum_66 ?_
            refine y_ladd C dL_sum_67 ?_
            refine y_ldc2 (v := 3) C cl258 dL_sum_68 ?_
            refine y_aload_n C dL_sum_71 rfl rfl ?_
            refine y_iload_n C dL_sum_72 rfl rfl ?_
            refine y_sw (rest := [.long 3, .long ((37 * (uS2 S M N i_46)) + ((S 2 i_46).toInt64))]) C (k_bk l hst S N hI.hN hI.N8 i_46 (by omega)) mwL_book mlL_216 rfl rfl rfl ⟨by decide, by decide⟩ (by omega) (Nat.le_of_ble_eq_true rfl) dL_sum_73 ?_
            refine y_i2l C dL_sum_76 ?_
            refine y_lmul C dL_sum_77 ?_
            refine y_ladd C dL_sum_78 ?_
            refine y_lstore_n (lv' := [(1, .long (((37 * (uS2 S M N i_46)) + ((S 2 i_46).toInt64)) + (3 * ((pBk S N i_46).toInt64)))), (0, .ref (q_ad K 0)), (3, .int (nI i_46))]) C dL_sum_79 rfl (by decide) rfl ?_
            refine y_iconst (v := 0) C dL_sum_80 (by decide) ?_
            refine y_istore (lv' := [(4, .int 0), (1, .long (((37 * (uS2 S M N i_46)) + ((S 2 i_46).toInt64)) + (3 * ((pBk S N i_46).toInt64)))), (0, .ref (q_ad K 0)), (3, .int (nI i_46))]) C dL_sum_81 (by decide) rfl ?_
            have loop_83 : ∀ (n_83 i_83 u_83 : Nat), i_83 + n_83 = 6 → u_83 + n_83 * 12 ≤ u_46 + 6 + 6 + 6 + 6 * 12 → q_Y l K u_83 [] q_Tr 83 [(0, .ref (q_ad K 0)), (1, .long (uS3 S i_46 (37 * uS2 S M N i_46 + (S 2 i_46).toInt64 + 3 * (pBk S N i_46).toInt64) i_83)), (3, .int (nI i_46)), (4, .int (nI i_83))] [] S := by
              intro n_83
              induction n_83 with
              | zero =>
                intro i_83 u_83 hi_83 hu_83
                have e_83 : i_83 = 6 := by omega
                refine y_iload C dL_sum_83 rfl ?_
                refine y_bipush (v := 6) C dL_sum_85 (by decide) ?_
                refine y_icmp_geN (a := i_83) (b := 6) (tgt := 124) C dL_sum_87 (by decide) rfl rfl (by omega) (by omega) (fun c_87 => ?_) (fun c_87 => absurd c_87 (by omega))
                have e9i_83 : i_83 = 6 := by omega
                subst e9i_83
                refine y_iinc (v := nI (i_46 + 1)) (lv' := [(3, .int (nI (i_46 + 1))), (0, .ref (q_ad K 0)), (1, .long (uS3 S i_46 (37 * uS2 S M N i_46 + (S 2 i_46).toInt64 + 3 * (pBk S N i_46).toInt64) 6)), (4, .int (nI 6))]) C dL_sum_124 rfl (nI_add _ _) (by decide) rfl ?_
                refine y_goto (tgt := 46) C dL_sum_127 (by decide) ?_
                exact y_to (ih_46 (i_46 + 1) _ (by omega) (by omega)) ⟨rfl, rfl, rfl, trivial⟩ rfl
              | succ n_83 ih_83 =>
                intro i_83 u_83 hi_83 hu_83
                refine y_iload C dL_sum_83 rfl ?_
                refine y_bipush (v := 6) C dL_sum_85 (by decide) ?_
                refine y_icmp_geN (a := i_83) (b := 6) (tgt := 124) C dL_sum_87 (by decide) rfl rfl (by omega) (by omega) (fun c_87 => absurd c_87 (by omega)) (fun c_87 => ?_)
                refine y_ldc2 (v := 41) C cl260 dL_sum_90 ?_
                refine y_lload_n C dL_sum_93 rfl rfl ?_
                refine y_lmul C dL_sum_94 ?_
                refine y_ldc2 (v := 100) C cl262 dL_sum_95 ?_
                refine y_aload_n C dL_sum_98 rfl rfl ?_
                refine y_iload_n C dL_sum_99 rfl rfl ?_
                refine y_iload C dL_sum_100 rfl ?_
                refine y_sw (rest := [.long 100, .long (41 * (uS3 S i_46 (37 * uS2 S M N i_46 + (S 2 i_46).toInt64 + 3 * (pBk S N i_46).toInt64) i_83))]) C (k_answer l hst S M hI.hM i_46 i_83 (by omega) (by omega)) mwL_answer mlL_160 rfl rfl rfl ⟨by decide, by decide⟩ (by omega) (Nat.le_of_ble_eq_true rfl) dL_sum_102 ?_
                refine y_i2l C dL_sum_105 ?_
                refine y_lmul C dL_sum_106 ?_
                refine y_ladd C dL_sum_107 ?_
                refine y_aload_n C dL_sum_108 rfl rfl ?_
                refine y_iload_n C dL_sum_109 rfl rfl ?_
                refine y_iload C dL_sum_110 rfl ?_
                refine y_sw (rest := [.long ((41 * (uS3 S i_46 (37 * uS2 S M N i_46 + (S 2 i_46).toInt64 + 3 * (pBk S N i_46).toInt64) i_83)) + (100 * ((pAn S i_46 i_83).toInt64)))]) C (k_amount l hst S M hI.hM i_46 i_83 (by omega) (by omega)) mwL_amount mlL_182 rfl rfl rfl ⟨by decide, by decide⟩ (by omega) (Nat.le_of_ble_eq_true rfl) dL_sum_112 ?_
                refine y_i2l C dL_sum_115 ?_
                refine y_ladd C dL_sum_116 ?_
                refine y_lstore_n (lv' := [(1, .long (((41 * (uS3 S i_46 (37 * uS2 S M N i_46 + (S 2 i_46).toInt64 + 3 * (pBk S N i_46).toInt64) i_83)) + (100 * ((pAn S i_46 i_83).toInt64))) + ((S 5 (i_46 * 6 + i_83)).toInt64))), (0, .ref (q_ad K 0)), (3, .int (nI i_46)), (4, .int (nI i_83))]) C dL_sum_117 rfl (by decide) rfl ?_
                refine y_iinc (v := nI (i_83 + 1)) (lv' := [(4, .int (nI (i_83 + 1))), (1, .long (((41 * (uS3 S i_46 (37 * uS2 S M N i_46 + (S 2 i_46).toInt64 + 3 * (pBk S N i_46).toInt64) i_83)) + (100 * ((pAn S i_46 i_83).toInt64))) + ((S 5 (i_46 * 6 + i_83)).toInt64))), (0, .ref (q_ad K 0)), (3, .int (nI i_46))]) C dL_sum_118 rfl (nI_add _ _) (by decide) rfl ?_
                refine y_goto (tgt := 83) C dL_sum_121 (by decide) ?_
                exact y_to (ih_83 (i_83 + 1) _ (by omega) (by omega)) ⟨rfl, rfl, rfl, rfl, trivial⟩ rfl
            exact y_to (loop_83 (6 - 0) 0 _ (by omega) (by omega)) ⟨rfl, rfl, rfl, rfl, trivial⟩ rfl
        exact y_to (loop_46 (M - 0) 0 _ (by omega) (by omega)) ⟨rfl, rfl, rfl, trivial⟩ rfl
      | succ n_19 ih_19 =>
        intro i_19 u_19 hi_19 hu_19
        refine y_iload_n C dL_sum_19 rfl rfl ?_
        refine y_bipush (v := 11) C dL_sum_20 (by decide) ?_
        refine y_icmp_geN (a := i_19) (b := 11) (tgt := 44) C dL_sum_22 (by decide) rfl rfl (by omega) (by omega) (fun c_22 => absurd c_22 (by omega)) (fun c_22 => ?_)
        refine y_ldc2 (v := 31) C cl254 dL_sum_25 ?_
        refine y_lload_n C dL_sum_28 rfl rfl ?_
        refine y_lmul C dL_sum_29 ?_
        refine y_aload_n C dL_sum_30 rfl rfl ?_
        refine y_iload_n C dL_sum_31 rfl rfl ?_
        refine y_cx (rest := [.long (31 * (uS1 S M i_19))]) C (k_account l hst S M hI.hM i_19 (by omega)) myX6_account mlL_157 rfl rfl rfl ⟨by decide, by decide⟩ (by omega) (Nat.le_of_ble_eq_true rfl) dL_sum_32 ?_
        refine y_i2l C dL_sum_35 ?_
        refine y_ladd C dL_sum_36 ?_
        refine y_lstore_n (lv' := [(1, .long ((31 * (uS1 S M i_19)) + ((uC_nA S M i_19).toInt64))), (0, .ref (q_ad K 0)), (3, .int (nI i_19))]) C dL_sum_37 rfl (by decide) rfl ?_
        refine y_iinc (v := nI (i_19 + 1)) (lv' := [(3, .int (nI (i_19 + 1))), (1, .long ((31 * (uS1 S M i_19)) + ((uC_nA S M i_19).toInt64))), (0, .ref (q_ad K 0))]) C dL_sum_38 rfl (nI_add _ _) (by decide) rfl ?_
        refine y_goto (tgt := 19) C dL_sum_41 (by decide) ?_
        exact y_to (ih_19 (i_19 + 1) _ (by omega) (by omega)) ⟨rfl, rfl, rfl, trivial⟩ rfl
    exact y_to (loop_19 (11 - 0) 0 _ (by omega) (by omega)) ⟨rfl, rfl, rfl, trivial⟩ rfl
  refine y_if_eq (tgt := 13) C dL_sum_4 (by decide)  (fun c_4 => ?_) (fun c_4 => ?_)
  · refine y_ldc2 (v := uS1 S M 0) C (by rw [show uS1 S M 0 = 7 from if_pos c_4]; exact cl252) dL_sum_13 ?_
    exact j_16
  · refine y_ldc2 (v := uS1 S M 0) C (by rw [show uS1 S M 0 = 5 from if_neg c_4]; exact cl250) dL_sum_7 ?_
    refine y_goto (tgt := 16) C dL_sum_10 (by decide) ?_
    exact j_16
