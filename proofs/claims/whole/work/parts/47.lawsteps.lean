
/-! the law's commands -/
def q_LC (l : Launch) (K : q_K) (b n : Nat) (xs : Nat → Int32) : Prop := (∀ (L : q_L) (a : Nat), a ≤ 3072 → q_Cx (q_KL K L a) cL_law RL 20 10) ∧ (∀ (L : q_L) (a : Nat), q_KX (q_KL K L a)) ∧ ∀ (L : q_L) (a : Nat), q_KS (q_KL K L a) b n xs
theorem q_Vsub {l : Launch} {K : q_K} {pc : Nat} {lv lv' : List (Nat × Value)} {st : List Value} {S : q_St} (k : q_V l K pc lv' st S) (h : ∀ q ∈ lv', q ∈ lv) : q_V l K pc lv st S := by
  obtain ⟨p, e, R, s, m, args, below, meth, c, cells, slots, Q, D, cy, ad, A, nL, L⟩ := K
  intro H locs ls hP hS hl
  refine k H locs ls hP hS (q_lv_sub hl (fun q hq => ?_))
  obtain ⟨x, hx, rfl⟩ := List.mem_map.mp hq
  exact List.mem_map.mpr ⟨x, h x hx, rfl⟩
def uB (x : Int32) : Int32 := if x = 0 then 0 else 1
def uCh (x : Int32) : Int32 := (x.toUInt32 % 65536).toInt32
/-- what the class answered or threw, and what the reference did -/
def uW_ok (tags : List String) (o : Int32 ⊕ String) (v th : Int32) : Prop := match o with
  | .inl w => th = 0 ∧ w = v
  | .inr E => th = uWc tags E ∧ uWc tags E ≠ 0
def uWf_ok (tags : List String) (o : UInt32 ⊕ String) (v : UInt32) (th : Int32) : Prop := match o with
  | .inl w => th = 0 ∧ w = v
  | .inr E => th = uWc tags E ∧ uWc tags E ≠ 0
abbrev q_lvL (i : Nat) : List (Nat × Value) := [(5, .int (nI i)), (4, .ref 121), (3, .ref 120), (2, .ref 112), (1, .ref 0), (0, .ref 300)]
theorem mwL_matter : q_mw yL_matter kL_matter cL_matter 3 [(0, 8, 11, 13)] 2 := ⟨rfl, by decide +kernel, by decide +kernel, by decide +kernel, q_in 427 (by decide +kernel) rfl, q_in 88 (by decide +kernel) rfl, q_in 428 (by decide +kernel) rfl⟩
theorem mwL_set : q_mw yL_set kL_set cL_set 6 [(0, 12, 15, 19), (0, 12, 19, 21), (0, 12, 23, 13)] 5 := ⟨rfl, by decide +kernel, by decide +kernel, by decide +kernel, q_in 531 (by decide +kernel) rfl, q_in 88 (by decide +kernel) rfl, q_in 532 (by decide +kernel) rfl⟩
theorem mwL_matterOf : q_mw yL_matterOf kL_matterOf cL_matterOf 5 [(0, 10, 13, 19), (0, 10, 17, 21)] 4 := ⟨rfl, by decide +kernel, by decide +kernel, by decide +kernel, q_in 610 (by decide +kernel) rfl, q_in 88 (by decide +kernel) rfl, q_in 611 (by decide +kernel) rfl⟩
theorem mwL_answer : q_mw yL_answer kL_answer cL_answer 5 [(0, 10, 13, 19), (0, 10, 17, 30)] 4 := ⟨rfl, by decide +kernel, by decide +kernel, by decide +kernel, q_in 630 (by decide +kernel) rfl, q_in 88 (by decide +kernel) rfl, q_in 631 (by decide +kernel) rfl⟩
theorem mwL_amount : q_mw yL_amount kL_amount cL_amount 5 [(0, 10, 13, 19), (0, 10, 17, 30)] 4 := ⟨rfl, by decide +kernel, by decide +kernel, by decide +kernel, q_in 679 (by decide +kernel) rfl, q_in 88 (by decide +kernel) rfl, q_in 680 (by decide +kernel) rfl⟩
theorem mwL_ask : q_mw yL_ask kL_ask cL_ask 5 [(0, 10, 13, 19), (0, 10, 17, 30), (0, 10, 21, 13)] 4 := ⟨rfl, by decide +kernel, by decide +kernel, by decide +kernel, q_in 687 (by decide +kernel) rfl, q_in 88 (by decide +kernel) rfl, q_in 688 (by decide +kernel) rfl⟩
theorem mwL_decide : q_mw yL_decide kL_decide cL_decide 4 [(0, 9, 12, 19), (0, 9, 15, 13)] 3 := ⟨rfl, by decide +kernel, by decide +kernel, by decide +kernel, q_in 728 (by decide +kernel) rfl, q_in 88 (by decide +kernel) rfl, q_in 729 (by decide +kernel) rfl⟩
theorem mwL_tell : q_mw yL_tell kL_tell cL_tell 5 [(0, 10, 13, 19), (0, 10, 17, 30), (0, 10, 21, 13)] 4 := ⟨rfl, by decide +kernel, by decide +kernel, by decide +kernel, q_in 761 (by decide +kernel) rfl, q_in 88 (by decide +kernel) rfl, q_in 762 (by decide +kernel) rfl⟩
theorem mwL_faint : q_mw yL_faint kL_faint cL_faint 3 [(0, 8, 11, 13)] 2 := ⟨rfl, by decide +kernel, by decide +kernel, by decide +kernel, q_in 780 (by decide +kernel) rfl, q_in 88 (by decide +kernel) rfl, q_in 781 (by decide +kernel) rfl⟩
theorem mwL_wake : q_mw yL_wake kL_wake cL_wake 3 [(0, 8, 11, 13)] 2 := ⟨rfl, by decide +kernel, by decide +kernel, by decide +kernel, q_in 796 (by decide +kernel) rfl, q_in 88 (by decide +kernel) rfl, q_in 797 (by decide +kernel) rfl⟩
theorem mwL_book : q_mw yL_book kL_book cL_book 4 [(0, 9, 12, 19)] 3 := ⟨rfl, by decide +kernel, by decide +kernel, by decide +kernel, q_in 811 (by decide +kernel) rfl, q_in 88 (by decide +kernel) rfl, q_in 812 (by decide +kernel) rfl⟩
theorem mwL_wouldSeal : q_mw yL_wouldSeal kL_wouldSeal cL_wouldSeal 4 [(0, 16, 19, 19), (0, 16, 22, 58)] 3 := ⟨rfl, by decide +kernel, by decide +kernel, by decide +kernel, q_in 819 (by decide +kernel) rfl, q_in 88 (by decide +kernel) rfl, q_in 820 (by decide +kernel) rfl⟩
theorem mwL_sleep : q_mw yL_sleep kL_sleep cL_sleep 4 [(0, 9, 12, 30), (0, 9, 15, 13)] 3 := ⟨rfl, by decide +kernel, by decide +kernel, by decide +kernel, q_in 852 (by decide +kernel) rfl, q_in 88 (by decide +kernel) rfl, q_in 853 (by decide +kernel) rfl⟩
theorem mwL_rouse : q_mw yL_rouse kL_rouse cL_rouse 4 [(0, 9, 12, 30), (0, 9, 15, 13)] 3 := ⟨rfl, by decide +kernel, by decide +kernel, by decide +kernel, q_in 871 (by decide +kernel) rfl, q_in 88 (by decide +kernel) rfl, q_in 872 (by decide +kernel) rfl⟩
theorem mwL_inquire : q_mw yL_inquire kL_inquire cL_inquire 6 [(0, 12, 15, 19), (0, 12, 19, 30), (0, 12, 23, 13)] 5 := ⟨rfl, by decide +kernel, by decide +kernel, by decide +kernel, q_in 882 (by decide +kernel) rfl, q_in 88 (by decide +kernel) rfl, q_in 883 (by decide +kernel) rfl⟩
theorem mwL_guildOf : q_mw yL_guildOf kL_guildOf cL_guildOf 5 [(0, 10, 13, 30), (0, 10, 17, 21)] 4 := ⟨rfl, by decide +kernel, by decide +kernel, by decide +kernel, q_in 897 (by decide +kernel) rfl, q_in 88 (by decide +kernel) rfl, q_in 898 (by decide +kernel) rfl⟩
theorem mwL_canLearn : q_mw yL_canLearn kL_canLearn cL_canLearn 5 [(0, 17, 20, 30)] 4 := ⟨rfl, by decide +kernel, by decide +kernel, by decide +kernel, q_in 908 (by decide +kernel) rfl, q_in 88 (by decide +kernel) rfl, q_in 909 (by decide +kernel) rfl⟩
theorem mwL_pass : q_mw yL_pass kL_pass cL_pass 4 [(0, 9, 12, 21)] 3 := ⟨rfl, by decide +kernel, by decide +kernel, by decide +kernel, q_in 917 (by decide +kernel) rfl, q_in 88 (by decide +kernel) rfl, q_in 918 (by decide +kernel) rfl⟩
theorem mwL_ranked : q_mw yL_ranked kL_ranked cL_ranked 4 [(0, 9, 12, 30)] 3 := ⟨rfl, by decide +kernel, by decide +kernel, by decide +kernel, q_in 928 (by decide +kernel) rfl, q_in 88 (by decide +kernel) rfl, q_in 929 (by decide +kernel) rfl⟩
theorem mwL_line : q_mw yL_line kL_line cL_line 4 [(0, 9, 12, 19)] 3 := ⟨rfl, by decide +kernel, by decide +kernel, by decide +kernel, q_in 944 (by decide +kernel) rfl, q_in 88 (by decide +kernel) rfl, q_in 945 (by decide +kernel) rfl⟩
theorem mwL_character : q_mw yL_character kL_character cL_character 4 [(0, 9, 12, 30)] 3 := ⟨rfl, by decide +kernel, by decide +kernel, by decide +kernel, q_in 981 (by decide +kernel) rfl, q_in 88 (by decide +kernel) rfl, q_in 982 (by decide +kernel) rfl⟩
theorem mwL_append : q_mw yL_append kL_append cL_append 4 [(0, 9, 12, 58)] 3 := ⟨rfl, by decide +kernel, by decide +kernel, by decide +kernel, q_in 989 (by decide +kernel) rfl, q_in 88 (by decide +kernel) rfl, q_in 990 (by decide +kernel) rfl⟩
theorem mwL_run : q_mw yL_run kL_run cL_run 3 [(0, 8, 11, 21), (0, 8, 14, 13)] 2 := ⟨rfl, by decide +kernel, by decide +kernel, by decide +kernel, q_in 1001 (by decide +kernel) rfl, q_in 88 (by decide +kernel) rfl, q_in 1002 (by decide +kernel) rfl⟩
theorem mwL_refusal : q_mw yL_refusal kL_refusal cL_refusal 4 [(0, 9, 12, 19)] 3 := ⟨rfl, by decide +kernel, by decide +kernel, by decide +kernel, q_in 1186 (by decide +kernel) rfl, q_in 88 (by decide +kernel) rfl, q_in 1187 (by decide +kernel) rfl⟩
theorem mwL_account : q_mw yL_account kL_account cL_account 4 [(0, 9, 12, 21)] 3 := ⟨rfl, by decide +kernel, by decide +kernel, by decide +kernel, q_in 1194 (by decide +kernel) rfl, q_in 88 (by decide +kernel) rfl, q_in 1195 (by decide +kernel) rfl⟩
theorem mwL_sealedShare : q_mw yL_sealedShare kL_sealedShare cL_sealedShare 3 [(0, 8, 11, 107)] 2 := ⟨rfl, by decide +kernel, by decide +kernel, by decide +kernel, q_in 1214 (by decide +kernel) rfl, q_in 88 (by decide +kernel) rfl, q_in 1215 (by decide +kernel) rfl⟩
theorem mwL_undo : q_mw yL_undo kL_undo cL_undo 3 [(0, 8, 11, 58)] 2 := ⟨rfl, by decide +kernel, by decide +kernel, by decide +kernel, q_in 1239 (by decide +kernel) rfl, q_in 88 (by decide +kernel) rfl, q_in 1240 (by decide +kernel) rfl⟩
theorem mwL_restore : q_mw yL_restore kL_restore cL_restore 3 [(0, 8, 11, 58)] 2 := ⟨rfl, by decide +kernel, by decide +kernel, by decide +kernel, q_in 1251 (by decide +kernel) rfl, q_in 88 (by decide +kernel) rfl, q_in 1252 (by decide +kernel) rfl⟩
theorem law_matter (l : Launch) (K : q_K) (b n : Nat) (xs : Nat → Int32) (hC : q_LC l K b n xs) (L : q_L) (a i : Nat) (S S1 S2 : q_St) (ha : a + 6 ≤ 3072) (hi : i + 3 < n) (hn : n < 2 ^ 31) (o1 : Int32 ⊕ String) (v : Int32) (hw : q_Fw l yL_matter kL_matter [.ref 0, .ref 120] S (uW [xEUn] (o1, S1))) (hm : q_Fi l yX7_matter kX7_matter 4 [.ref 112] S1 v S2) (ht : uW_ok [xEUn] o1 v (S2 112 6)) (kk : ∀ L9 : q_L, q_V l (q_KL K L9 (a + 6)) 2016 (q_lvL i) [] S2) : q_V l (q_KL K L a) 196 (q_lvL i) [] S := by
  have C := hC.1 L a (by omega)
  rcases o1 with w | E
  · refine q_aload_n C dL_law_196 rfl rfl ?_
    refine q_aload_n C dL_law_197 rfl rfl ?_
    refine q_lwi2 (hC.2.1 _ _) C (hC.1 _ _ (by omega)) hw mwL_matter mlL_119 ⟨by decide, by decide⟩ (Nat.le_of_ble_eq_true rfl) dL_law_198 ?_
    show q_V l (q_KL K ((fun L9 : q_L => (vp_updL L9.1 0 w.toInt64, L9.2)) L) (a + 6)) 201 [(5, .int (nI i)), (4, .ref 121), (3, .ref 120), (2, .ref 112), (1, .ref 0), (0, .ref 300)] [.int 0] S1
    have C := hC.1 ((fun L9 : q_L => (vp_updL L9.1 0 w.toInt64, L9.2)) L) (a + 6) (by omega)
    refine q_istore (lv' := [(6, .int 0), (5, .int (nI i)), (4, .ref 121), (3, .ref 120), (2, .ref 112), (1, .ref 0), (0, .ref 300)]) C dL_law_201 (by decide) rfl ?_
    refine q_aload_n C dL_law_203 rfl rfl ?_
    refine q_ci0 C hm myX7_matter mlL_124 q_s112 ⟨by decide, by decide⟩ (Nat.le_of_ble_eq_true rfl) dL_law_204 ?_
    refine q_istore (lv' := [(7, .int v), (6, .int 0), (5, .int (nI i)), (4, .ref 121), (3, .ref 120), (2, .ref 112), (1, .ref 0), (0, .ref 300)]) C dL_law_207 (by decide) rfl ?_
    refine q_aload_n C dL_law_209 rfl rfl ?_
    refine q_ci0 C (q_Fi.cv (v' := 0) ht.1 (c_X7_thrown l S2)) myX7_thrown mlL_125 q_s112 ⟨by decide, by decide⟩ (Nat.le_of_ble_eq_true rfl) dL_law_210 ?_
    refine q_iload C dL_law_213 rfl ?_
    refine q_icmp_eq (tgt := 220) C dL_law_215 (by decide) (fun _ => ?_) (fun h9 => absurd rfl h9)
    refine q_iload C dL_law_220 rfl ?_
    refine q_if_ne (tgt := 237) C dL_law_222 (by decide) (fun h9 => absurd h9 (by decide)) (fun _ => ?_)
    refine q_aload_n C dL_law_225 rfl rfl ?_
    refine q_iconst (v := 0) C dL_law_226 (by decide) ?_
    refine q_lald C dL_law_227 ?_
    refine q_iload C dL_law_228 rfl ?_
    refine q_i2l C dL_law_230 ?_
    refine q_lcmpE C (by rw [show v = w from ht.2.symm]; rfl) dL_law_231 ?_
    refine q_if_eq (tgt := 237) C dL_law_232 (by decide) (fun _ => ?_) (fun h9 => absurd h9 (by decide))
    refine q_goto (tgt := 2016) C dL_law_237 (by decide) ?_
    exact q_Vsub (kk _) (fun q hq => by simp only [List.mem_cons, List.not_mem_nil, or_false] at hq ⊢; rcases hq with h | h | h | h | h | h <;> simp [h])
  · refine q_aload_n C dL_law_196 rfl rfl ?_
    refine q_aload_n C dL_law_197 rfl rfl ?_
    refine q_lwi2 (hC.2.1 _ _) C (hC.1 _ _ (by omega)) hw mwL_matter mlL_119 ⟨by decide, by decide⟩ (Nat.le_of_ble_eq_true rfl) dL_law_198 ?_
    show q_V l (q_KL K ((fun L9 : q_L => L9) L) (a + 6)) 201 [(5, .int (nI i)), (4, .ref 121), (3, .ref 120), (2, .ref 112), (1, .ref 0), (0, .ref 300)] [.int (uWc [xEUn] E)] S1
    have C := hC.1 ((fun L9 : q_L => L9) L) (a + 6) (by omega)
    refine q_istore (lv' := [(6, .int (uWc [xEUn] E)), (5, .int (nI i)), (4, .ref 121), (3, .ref 120), (2, .ref 112), (1, .ref 0), (0, .ref 300)]) C dL_law_201 (by decide) rfl ?_
    refine q_aload_n C dL_law_203 rfl rfl ?_
    refine q_ci0 C hm myX7_matter mlL_124 q_s112 ⟨by decide, by decide⟩ (Nat.le_of_ble_eq_true rfl) dL_law_204 ?_
    refine q_istore (lv' := [(7, .int v), (6, .int (uWc [xEUn] E)), (5, .int (nI i)), (4, .ref 121), (3, .ref 120), (2, .ref 112), (1, .ref 0), (0, .ref 300)]) C dL_law_207 (by decide) rfl ?_
    refine q_aload_n C dL_law_209 rfl rfl ?_
    refine q_ci0 C (q_Fi.cv (v' := (uWc [xEUn] E)) ht.1 (c_X7_thrown l S2)) myX7_thrown mlL_125 q_s112 ⟨by decide, by decide⟩ (Nat.le_of_ble_eq_true rfl) dL_law_210 ?_
    refine q_iload C dL_law_213 rfl ?_
    refine q_icmp_eq (tgt := 220) C dL_law_215 (by decide) (fun _ => ?_) (fun h9 => absurd rfl h9)
    refine q_iload C dL_law_220 rfl ?_
    refine q_if_ne (tgt := 237) C dL_law_222 (by decide) (fun _ => ?_) (fun h9 => absurd h9 ht.2)
    refine q_goto (tgt := 2016) C dL_law_237 (by decide) ?_
    exact q_Vsub (kk _) (fun q hq => by simp only [List.mem_cons, List.not_mem_nil, or_false] at hq ⊢; rcases hq with h | h | h | h | h | h <;> simp [h])
theorem law_set (l : Launch) (K : q_K) (b n : Nat) (xs : Nat → Int32) (hC : q_LC l K b n xs) (L : q_L) (a i : Nat) (S S1 S2 : q_St) (ha : a + 6 ≤ 3072) (hi : i + 3 < n) (hn : n < 2 ^ 31) (o1 : Int32 ⊕ String) (v : Int32) (hw : q_Fw l yL_set kL_set [.ref 0, .int (xs (i + 1)), .int (xs (i + 2)), .int (xs (i + 3)), .ref 120] S (uW [xENs, xEIa, xEUn] (o1, S1))) (hm : q_Fi l yX7_set kX7_set 5 [.ref 112, .int (xs (i + 1)), .int (xs (i + 2)), .int (xs (i + 3))] S1 v S2) (ht : uW_ok [xENs, xEIa, xEUn] o1 v (S2 112 6)) (kk : ∀ L9 : q_L, q_V l (q_KL K L9 (a + 6)) 2016 (q_lvL i) [] S2) : q_V l (q_KL K L a) 240 (q_lvL i) [] S := by
  have C := hC.1 L a (by omega)
  rcases o1 with w | E
  · refine q_aload_n C dL_law_240 rfl rfl ?_
    refine q_aload_n C dL_law_241 rfl rfl ?_
    refine q_iload C dL_law_242 rfl ?_
    refine q_iconst (v := 1) C dL_law_244 (by decide) ?_
    refine q_iaddN (a := i) (b := 1) C dL_law_245 rfl rfl ?_
    refine q_sld (j := i + 1) C (hC.2.2 _ _) rfl (by omega) hn dL_law_246 ?_
    refine q_aload_n C dL_law_247 rfl rfl ?_
    refine q_iload C dL_law_248 rfl ?_
    refine q_iconst (v := 2) C dL_law_250 (by decide) ?_
    refine q_iaddN (a := i) (b := 2) C dL_law_251 rfl rfl ?_
    refine q_sld (j := i + 2) C (hC.2.2 _ _) rfl (by omega) hn dL_law_252 ?_
    refine q_aload_n C dL_law_253 rfl rfl ?_
    refine q_iload C dL_law_254 rfl ?_
    refine q_iconst (v := 3) C dL_law_256 (by decide) ?_
    refine q_iaddN (a := i) (b := 3) C dL_law_257 rfl rfl ?_
    refine q_sld (j := i + 3) C (hC.2.2 _ _) rfl (by omega) hn dL_law_258 ?_
    refine q_aload_n C dL_law_259 rfl rfl ?_
    refine q_lwi5 (hC.2.1 _ _) C (hC.1 _ _ (by omega)) hw mwL_set mlL_128 ⟨by decide, by decide⟩ (Nat.le_of_ble_eq_true rfl) dL_law_260 ?_
    show q_V l (q_KL K ((fun L9 : q_L => (vp_updL L9.1 0 w.toInt64, L9.2)) L) (a + 6)) 263 [(5, .int (nI i)), (4, .ref 121), (3, .ref 120), (2, .ref 112), (1, .ref 0), (0, .ref 300)] [.int 0] S1
    have C := hC.1 ((fun L9 : q_L => (vp_updL L9.1 0 w.toInt64, L9.2)) L) (a + 6) (by omega)
    refine q_istore (lv' := [(6, .int 0), (5, .int (nI i)), (4, .ref 121), (3, .ref 120), (2, .ref 112), (1, .ref 0), (0, .ref 300)]) C dL_law_263 (by decide) rfl ?_
    refine q_aload_n C dL_law_265 rfl rfl ?_
    refine q_aload_n C dL_law_266 rfl rfl ?_
    refine q_iload C dL_law_267 rfl ?_
    refine q_iconst (v := 1) C dL_law_269 (by decide) ?_
    refine q_iaddN (a := i) (b := 1) C dL_law_270 rfl rfl ?_
    refine q_sld (j := i + 1) C (hC.2.2 _ _) rfl (by omega) hn dL_law_271 ?_
    refine q_aload_n C dL_law_272 rfl rfl ?_
    refine q_iload C dL_law_273 rfl ?_
    refine q_iconst (v := 2) C dL_law_275 (by decide) ?_
    refine q_iaddN (a := i) (b := 2) C dL_law_276 rfl rfl ?_
    refine q_sld (j := i + 2) C (hC.2.2 _ _) rfl (by omega) hn dL_law_277 ?_
    refine q_aload_n C dL_law_278 rfl rfl ?_
    refine q_iload C dL_law_279 rfl ?_
    refine q_iconst (v := 3) C dL_law_281 (by decide) ?_
    refine q_iaddN (a := i) (b := 3) C dL_law_282 rfl rfl ?_
    refine q_sld (j := i + 3) C (hC.2.2 _ _) rfl (by omega) hn dL_law_283 ?_
    refine q_ci3 C hm myX7_set mlL_131 q_s112 ⟨by decide, by decide⟩ (Nat.le_of_ble_eq_true rfl) dL_law_284 ?_
    refine q_istore (lv' := [(7, .int v), (6, .int 0), (5, .int (nI i)), (4, .ref 121), (3, .ref 120), (2, .ref 112), (1, .ref 0), (0, .ref 300)]) C dL_law_287 (by decide) rfl ?_
    refine q_aload_n C dL_law_289 rfl rfl ?_
    refine q_ci0 C (q_Fi.cv (v' := 0) ht.1 (c_X7_thrown l S2)) myX7_thrown mlL_125 q_s112 ⟨by decide, by decide⟩ (Nat.le_of_ble_eq_true rfl) dL_law_290 ?_
    refine q_iload C dL_law_293 rfl ?_
    refine q_icmp_eq (tgt := 300) C dL_law_295 (by decide) (fun _ => ?_) (fun h9 => absurd rfl h9)
    refine q_iload C dL_law_300 rfl ?_
    refine q_if_ne (tgt := 317) C dL_law_302 (by decide) (fun h9 => absurd h9 (by decide)) (fun _ => ?_)
    refine q_aload_n C dL_law_305 rfl rfl ?_
    refine q_iconst (v := 0) C dL_law_306 (by decide) ?_
    refine q_lald C dL_law_307 ?_
    refine q_iload C dL_law_308 rfl ?_
    refine q_i2l C dL_law_310 ?_
    refine q_lcmpE C (by rw [show v = w from ht.2.symm]; rfl) dL_law_311 ?_
    refine q_if_eq (tgt := 317) C dL_law_312 (by decide) (fun _ => ?_) (fun h9 => absurd h9 (by decide))
    refine q_goto (tgt := 2016) C dL_law_317 (by decide) ?_
    exact q_Vsub (kk _) (fun q hq => by simp only [List.mem_cons, List.not_mem_nil, or_false] at hq ⊢; rcases hq with h | h | h | h | h | h <;> simp [h])
  · refine q_aload_n C dL_law_240 rfl rfl ?_
    refine q_aload_n C dL_law_241 rfl rfl ?_
    refine q_iload C dL_law_242 rfl ?_
    refine q_iconst (v := 1) C dL_law_244 (by decide) ?_
    refine q_iaddN (a := i) (b := 1) C dL_law_245 rfl rfl ?_
    refine q_sld (j := i + 1) C (hC.2.2 _ _) rfl (by omega) hn dL_law_246 ?_
    refine q_aload_n C dL_law_247 rfl rfl ?_
    refine q_iload C dL_law_248 rfl ?_
    refine q_iconst (v := 2) C dL_law_250 (by decide) ?_
    refine q_iaddN (a := i) (b := 2) C dL_law_251 rfl rfl ?_
    refine q_sld (j := i + 2) C (hC.2.2 _ _) rfl (by omega) hn dL_law_252 ?_
    refine q_aload_n C dL_law_253 rfl rfl ?_
    refine q_iload C dL_law_254 rfl ?_
    refine q_iconst (v := 3) C dL_law_256 (by decide) ?_
    refine q_iaddN (a := i) (b := 3) C dL_law_257 rfl rfl ?_
    refine q_sld (j := i + 3) C (hC.2.2 _ _) rfl (by omega) hn dL_law_258 ?_
    refine q_aload_n C dL_law_259 rfl rfl ?_
    refine q_lwi5 (hC.2.1 _ _) C (hC.1 _ _ (by omega)) hw mwL_set mlL_128 ⟨by decide, by decide⟩ (Nat.le_of_ble_eq_true rfl) dL_law_260 ?_
    show q_V l (q_KL K ((fun L9 : q_L => L9) L) (a + 6)) 263 [(5, .int (nI i)), (4, .ref 121), (3, .ref 120), (2, .ref 112), (1, .ref 0), (0, .ref 300)] [.int (uWc [xENs, xEIa, xEUn] E)] S1
    have C := hC.1 ((fun L9 : q_L => L9) L) (a + 6) (by omega)
    refine q_istore (lv' := [(6, .int (uWc [xENs, xEIa, xEUn] E)), (5, .int (nI i)), (4, .ref 121), (3, .ref 120), (2, .ref 112), (1, .ref 0), (0, .ref 300)]) C dL_law_263 (by decide) rfl ?_
    refine q_aload_n C dL_law_265 rfl rfl ?_
    refine q_aload_n C dL_law_266 rfl rfl ?_
    refine q_iload C dL_law_267 rfl ?_
    refine q_iconst (v := 1) C dL_law_269 (by decide) ?_
    refine q_iaddN (a := i) (b := 1) C dL_law_270 rfl rfl ?_
    refine q_sld (j := i + 1) C (hC.2.2 _ _) rfl (by omega) hn dL_law_271 ?_
    refine q_aload_n C dL_law_272 rfl rfl ?_
    refine q_iload C dL_law_273 rfl ?_
    refine q_iconst (v := 2) C dL_law_275 (by decide) ?_
    refine q_iaddN (a := i) (b := 2) C dL_law_276 rfl rfl ?_
    refine q_sld (j := i + 2) C (hC.2.2 _ _) rfl (by omega) hn dL_law_277 ?_
    refine q_aload_n C dL_law_278 rfl rfl ?_
    refine q_iload C dL_law_279 rfl ?_
    refine q_iconst (v := 3) C dL_law_281 (by decide) ?_
    refine q_iaddN (a := i) (b := 3) C dL_law_282 rfl rfl ?_
    refine q_sld (j := i + 3) C (hC.2.2 _ _) rfl (by omega) hn dL_law_283 ?_
    refine q_ci3 C hm myX7_set mlL_131 q_s112 ⟨by decide, by decide⟩ (Nat.le_of_ble_eq_true rfl) dL_law_284 ?_
    refine q_istore (lv' := [(7, .int v), (6, .int (uWc [xENs, xEIa, xEUn] E)), (5, .int (nI i)), (4, .ref 121), (3, .ref 120), (2, .ref 112), (1, .ref 0), (0, .ref 300)]) C dL_law_287 (by decide) rfl ?_
    refine q_aload_n C dL_law_289 rfl rfl ?_
    refine q_ci0 C (q_Fi.cv (v' := (uWc [xENs, xEIa, xEUn] E)) ht.1 (c_X7_thrown l S2)) myX7_thrown mlL_125 q_s112 ⟨by decide, by decide⟩ (Nat.le_of_ble_eq_true rfl) dL_law_290 ?_
    refine q_iload C dL_law_293 rfl ?_
    refine q_icmp_eq (tgt := 300) C dL_law_295 (by decide) (fun _ => ?_) (fun h9 => absurd rfl h9)
    refine q_iload C dL_law_300 rfl ?_
    refine q_if_ne (tgt := 317) C dL_law_302 (by decide) (fun _ => ?_) (fun h9 => absurd h9 ht.2)
    refine q_goto (tgt := 2016) C dL_law_317 (by decide) ?_
    exact q_Vsub (kk _) (fun q hq => by simp only [List.mem_cons, List.not_mem_nil, or_false] at hq ⊢; rcases hq with h | h | h | h | h | h <;> simp [h])
theorem law_matterOf (l : Launch) (K : q_K) (b n : Nat) (xs : Nat → Int32) (hC : q_LC l K b n xs) (L : q_L) (a i : Nat) (S S1 S2 : q_St) (ha : a + 6 ≤ 3072) (hi : i + 3 < n) (hn : n < 2 ^ 31) (o1 : Int32 ⊕ String) (v : Int32) (hw : q_Fw l yL_matterOf kL_matterOf [.ref 0, .int (xs (i + 1)), .int (xs (i + 2)), .ref 120] S (uW [xENs, xEIa] (o1, S1))) (hm : q_Fi l yX7_matterOf kX7_matterOf 4 [.ref 112, .int (xs (i + 1)), .int (xs (i + 2))] S1 v S2) (ht : uW_ok [xENs, xEIa] o1 v (S2 112 6)) (kk : ∀ L9 : q_L, q_V l (q_KL K L9 (a + 6)) 2016 (q_lvL i) [] S2) : q_V l (q_KL K L a) 320 (q_lvL i) [] S := by
  have C := hC.1 L a (by omega)
  rcases o1 with w | E
  · refine q_aload_n C dL_law_320 rfl rfl ?_
    refine q_aload_n C dL_law_321 rfl rfl ?_
    refine q_iload C dL_law_322 rfl ?_
    refine q_iconst (v := 1) C dL_law_324 (by decide) ?_
    refine q_iaddN (a := i) (b := 1) C dL_law_325 rfl rfl ?_
    refine q_sld (j := i + 1) C (hC.2.2 _ _) rfl (by omega) hn dL_law_326 ?_
    refine q_aload_n C dL_law_327 rfl rfl ?_
    refine q_iload C dL_law_328 rfl ?_
    refine q_iconst (v := 2) C dL_law_330 (by decide) ?_
    refine q_iaddN (a := i) (b := 2) C dL_law_331 rfl rfl ?_
    refine q_sld (j := i + 2) C (hC.2.2 _ _) rfl (by omega) hn dL_law_332 ?_
    refine q_aload_n C dL_law_333 rfl rfl ?_
    refine q_lwi4 (hC.2.1 _ _) C (hC.1 _ _ (by omega)) hw mwL_matterOf mlL_132 ⟨by decide, by decide⟩ (Nat.le_of_ble_eq_true rfl) dL_law_334 ?_
    show q_V l (q_KL K ((fun L9 : q_L => (vp_updL L9.1 0 w.toInt64, L9.2)) L) (a + 6)) 337 [(5, .int (nI i)), (4, .ref 121), (3, .ref 120), (2, .ref 112), (1, .ref 0), (0, .ref 300)] [.int 0] S1
    have C := hC.1 ((fun L9 : q_L => (vp_updL L9.1 0 w.toInt64, L9.2)) L) (a + 6) (by omega)
    refine q_istore (lv' := [(6, .int 0), (5, .int (nI i)), (4, .ref 121), (3, .ref 120), (2, .ref 112), (1, .ref 0), (0, .ref 300)]) C dL_law_337 (by decide) rfl ?_
    refine q_aload_n C dL_law_339 rfl rfl ?_
    refine q_aload_n C dL_law_340 rfl rfl ?_
    refine q_iload C dL_law_341 rfl ?_
    refine q_iconst (v := 1) C dL_law_343 (by decide) ?_
    refine q_iaddN (a := i) (b := 1) C dL_law_344 rfl rfl ?_
    refine q_sld (j := i + 1) C (hC.2.2 _ _) rfl (by omega) hn dL_law_345 ?_
    refine q_aload_n C dL_law_346 rfl rfl ?_
    refine q_iload C dL_law_347 rfl ?_
    refine q_iconst (v := 2) C dL_law_349 (by decide) ?_
    refine q_iaddN (a := i) (b := 2) C dL_law_350 rfl rfl ?_
    refine q_sld (j := i + 2) C (hC.2.2 _ _) rfl (by omega) hn dL_law_351 ?_
    refine q_ci2 C hm myX7_matterOf mlL_135 q_s112 ⟨by decide, by decide⟩ (Nat.le_of_ble_eq_true rfl) dL_law_352 ?_
    refine q_istore (lv' := [(7, .int v), (6, .int 0), (5, .int (nI i)), (4, .ref 121), (3, .ref 120), (2, .ref 112), (1, .ref 0), (0, .ref 300)]) C dL_law_355 (by decide) rfl ?_
    refine q_aload_n C dL_law_357 rfl rfl ?_
    refine q_ci0 C (q_Fi.cv (v' := 0) ht.1 (c_X7_thrown l S2)) myX7_thrown mlL_125 q_s112 ⟨by decide, by decide⟩ (Nat.le_of_ble_eq_true rfl) dL_law_358 ?_
    refine q_iload C dL_law_361 rfl ?_
    refine q_icmp_eq (tgt := 368) C dL_law_363 (by decide) (fun _ => ?_) (fun h9 => absurd rfl h9)
    refine q_iload C dL_law_368 rfl ?_
    refine q_if_ne (tgt := 385) C dL_law_370 (by decide) (fun h9 => absurd h9 (by decide)) (fun _ => ?_)
    refine q_aload_n C dL_law_373 rfl rfl ?_
    refine q_iconst (v := 0) C dL_law_374 (by decide) ?_
    refine q_lald C dL_law_375 ?_
    refine q_iload C dL_law_376 rfl ?_
    refine q_i2l C dL_law_378 ?_
    refine q_lcmpE C (by rw [show v = w from ht.2.symm]; rfl) dL_law_379 ?_
    refine q_if_eq (tgt := 385) C dL_law_380 (by decide) (fun _ => ?_) (fun h9 => absurd h9 (by decide))
    refine q_goto (tgt := 2016) C dL_law_385 (by decide) ?_
    exact q_Vsub (kk _) (fun q hq => by simp only [List.mem_cons, List.not_mem_nil, or_false] at hq ⊢; rcases hq with h | h | h | h | h | h <;> simp [h])
  · refine q_aload_n C dL_law_320 rfl rfl ?_
    refine q_aload_n C dL_law_321 rfl rfl ?_
    refine q_iload C dL_law_322 rfl ?_
    refine q_iconst (v := 1) C dL_law_324 (by decide) ?_
    refine q_iaddN (a := i) (b := 1) C dL_law_325 rfl rfl ?_
    refine q_sld (j := i + 1) C (hC.2.2 _ _) rfl (by omega) hn dL_law_326 ?_
    refine q_aload_n C dL_law_327 rfl rfl ?_
    refine q_iload C dL_law_328 rfl ?_
    refine q_iconst (v := 2) C dL_law_330 (by decide) ?_
    refine q_iaddN (a := i) (b := 2) C dL_law_331 rfl rfl ?_
    refine q_sld (j := i + 2) C (hC.2.2 _ _) rfl (by omega) hn dL_law_332 ?_
    refine q_aload_n C dL_law_333 rfl rfl ?_
    refine q_lwi4 (hC.2.1 _ _) C (hC.1 _ _ (by omega)) hw mwL_matterOf mlL_132 ⟨by decide, by decide⟩ (Nat.le_of_ble_eq_true rfl) dL_law_334 ?_
    show q_V l (q_KL K ((fun L9 : q_L => L9) L) (a + 6)) 337 [(5, .int (nI i)), (4, .ref 121), (3, .ref 120), (2, .ref 112), (1, .ref 0), (0, .ref 300)] [.int (uWc [xENs, xEIa] E)] S1
    have C := hC.1 ((fun L9 : q_L => L9) L) (a + 6) (by omega)
    refine q_istore (lv' := [(6, .int (uWc [xENs, xEIa] E)), (5, .int (nI i)), (4, .ref 121), (3, .ref 120), (2, .ref 112), (1, .ref 0), (0, .ref 300)]) C dL_law_337 (by decide) rfl ?_
    refine q_aload_n C dL_law_339 rfl rfl ?_
    refine q_aload_n C dL_law_340 rfl rfl ?_
    refine q_iload C dL_law_341 rfl ?_
    refine q_iconst (v := 1) C dL_law_343 (by decide) ?_
    refine q_iaddN (a := i) (b := 1) C dL_law_344 rfl rfl ?_
    refine q_sld (j := i + 1) C (hC.2.2 _ _) rfl (by omega) hn dL_law_345 ?_
    refine q_aload_n C dL_law_346 rfl rfl ?_
    refine q_iload C dL_law_347 rfl ?_
    refine q_iconst (v := 2) C dL_law_349 (by decide) ?_
    refine q_iaddN (a := i) (b := 2) C dL_law_350 rfl rfl ?_
    refine q_sld (j := i + 2) C (hC.2.2 _ _) rfl (by omega) hn dL_law_351 ?_
    refine q_ci2 C hm myX7_matterOf mlL_135 q_s112 ⟨by decide, by decide⟩ (Nat.le_of_ble_eq_true rfl) dL_law_352 ?_
    refine q_istore (lv' := [(7, .int v), (6, .int (uWc [xENs, xEIa] E)), (5, .int (nI i)), (4, .ref 121), (3, .ref 120), (2, .ref 112), (1, .ref 0), (0, .ref 300)]) C dL_law_355 (by decide) rfl ?_
    refine q_aload_n C dL_law_357 rfl rfl ?_
    refine q_ci0 C (q_Fi.cv (v' := (uWc [xENs, xEIa] E)) ht.1 (c_X7_thrown l S2)) myX7_thrown mlL_125 q_s112 ⟨by decide, by decide⟩ (Nat.le_of_ble_eq_true rfl) dL_law_358 ?_
    refine q_iload C dL_law_361 rfl ?_
    refine q_icmp_eq (tgt := 368) C dL_law_363 (by decide) (fun _ => ?_) (fun h9 => absurd rfl h9)
    refine q_iload C dL_law_368 rfl ?_
    refine q_if_ne (tgt := 385) C dL_law_370 (by decide) (fun _ => ?_) (fun h9 => absurd h9 ht.2)
    refine q_goto (tgt := 2016) C dL_law_385 (by decide) ?_
    exact q_Vsub (kk _) (fun q hq => by simp only [List.mem_cons, List.not_mem_nil, or_false] at hq ⊢; rcases hq with h | h | h | h | h | h <;> simp [h])
theorem law_answer (l : Launch) (K : q_K) (b n : Nat) (xs : Nat → Int32) (hC : q_LC l K b n xs) (L : q_L) (a i : Nat) (S S1 S2 : q_St) (ha : a + 6 ≤ 3072) (hi : i + 3 < n) (hn : n < 2 ^ 31) (o1 : Int32 ⊕ String) (v : Int32) (hw : q_Fw l yL_answer kL_answer [.ref 0, .int (xs (i + 1)), .int (xs (i + 2)), .ref 120] S (uW [xENs, xEIo] (o1, S1))) (hm : q_Fi l yX7_answer kX7_answer 3 [.ref 112, .int (xs (i + 1)), .int (xs (i + 2))] S1 v S2) (ht : uW_ok [xENs, xEIo] o1 v (S2 112 6)) (kk : ∀ L9 : q_L, q_V l (q_KL K L9 (a + 6)) 2016 (q_lvL i) [] S2) : q_V l (q_KL K L a) 388 (q_lvL i) [] S := by
  have C := hC.1 L a (by omega)
  rcases o1 with w | E
  · refine q_aload_n C dL_law_388 rfl rfl ?_
    refine q_aload_n C dL_law_389 rfl rfl ?_
    refine q_iload C dL_law_390 rfl ?_
    refine q_iconst (v := 1) C dL_law_392 (by decide) ?_
    refine q_iaddN (a := i) (b := 1) C dL_law_393 rfl rfl ?_
    refine q_sld (j := i + 1) C (hC.2.2 _ _) rfl (by omega) hn dL_law_394 ?_
    refine q_aload_n C dL_law_395 rfl rfl ?_
    refine q_iload C dL_law_396 rfl ?_
    refine q_iconst (v := 2) C dL_law_398 (by decide) ?_
    refine q_iaddN (a := i) (b := 2) C dL_law_399 rfl rfl ?_
    refine q_sld (j := i + 2) C (hC.2.2 _ _) rfl (by omega) hn dL_law_400 ?_
    refine q_aload_n C dL_law_401 rfl rfl ?_
    refine q_lwi4 (hC.2.1 _ _) C (hC.1 _ _ (by omega)) hw mwL_answer mlL_136 ⟨by decide, by decide⟩ (Nat.le_of_ble_eq_true rfl) dL_law_402 ?_
    show q_V l (q_KL K ((fun L9 : q_L => (vp_updL L9.1 0 w.toInt64, L9.2)) L) (a + 6)) 405 [(5, .int (nI i)), (4, .ref 121), (3, .ref 120), (2, .ref 112), (1, .ref 0), (0, .ref 300)] [.int 0] S1
    have C := hC.1 ((fun L9 : q_L => (vp_updL L9.1 0 w.toInt64, L9.2)) L) (a + 6) (by omega)
    refine q_istore (lv' := [(6, .int 0), (5, .int (nI i)), (4, .ref 121), (3, .ref 120), (2, .ref 112), (1, .ref 0), (0, .ref 300)]) C dL_law_405 (by decide) rfl ?_
    refine q_aload_n C dL_law_407 rfl rfl ?_
    refine q_aload_n C dL_law_408 rfl rfl ?_
    refine q_iload C dL_law_409 rfl ?_
    refine q_iconst (v := 1) C dL_law_411 (by decide) ?_
    refine q_iaddN (a := i) (b := 1) C dL_law_412 rfl rfl ?_
    refine q_sld (j := i + 1) C (hC.2.2 _ _) rfl (by omega) hn dL_law_413 ?_
    refine q_aload_n C dL_law_414 rfl rfl ?_
    refine q_iload C dL_law_415 rfl ?_
    refine q_iconst (v := 2) C dL_law_417 (by decide) ?_
    refine q_iaddN (a := i) (b := 2) C dL_law_418 rfl rfl ?_
    refine q_sld (j := i + 2) C (hC.2.2 _ _) rfl (by omega) hn dL_law_419 ?_
    refine q_ci2 C hm myX7_answer mlL_138 q_s112 ⟨by decide, by decide⟩ (Nat.le_of_ble_eq_true rfl) dL_law_420 ?_
    refine q_istore (lv' := [(7, .int v), (6, .int 0), (5, .int (nI i)), (4, .ref 121), (3, .ref 120), (2, .ref 112), (1, .ref 0), (0, .ref 300)]) C dL_law_423 (by decide) rfl ?_
    refine q_aload_n C dL_law_425 rfl rfl ?_
    refine q_ci0 C (q_Fi.cv (v' := 0) ht.1 (c_X7_thrown l S2)) myX7_thrown mlL_125 q_s112 ⟨by decide, by decide⟩ (Nat.le_of_ble_eq_true rfl) dL_law_426 ?_
    refine q_iload C dL_law_429 rfl ?_
    refine q_icmp_eq (tgt := 436) C dL_law_431 (by decide) (fun _ => ?_) (fun h9 => absurd rfl h9)
    refine q_iload C dL_law_436 rfl ?_
    refine q_if_ne (tgt := 453) C dL_law_438 (by decide) (fun h9 => absurd h9 (by decide)) (fun _ => ?_)
    refine q_aload_n C dL_law_441 rfl rfl ?_
    refine q_iconst (v := 0) C dL_law_442 (by decide) ?_
    refine q_lald C dL_law_443 ?_
    refine q_iload C dL_law_444 rfl ?_
    refine q_i2l C dL_law_446 ?_
    refine q_lcmpE C (by rw [show v = w from ht.2.symm]; rfl) dL_law_447 ?_
    refine q_if_eq (tgt := 453) C dL_law_448 (by decide) (fun _ => ?_) (fun h9 => absurd h9 (by decide))
    refine q_goto (tgt := 2016) C dL_law_453 (by decide) ?_
    exact q_Vsub (kk _) (fun q hq => by simp only [List.mem_cons, List.not_mem_nil, or_false] at hq ⊢; rcases hq with h | h | h | h | h | h <;> simp [h])
  · refine q_aload_n C dL_law_388 rfl rfl ?_
    refine q_aload_n C dL_law_389 rfl rfl ?_
    refine q_iload C dL_law_390 rfl ?_
    refine q_iconst (v := 1) C dL_law_392 (by decide) ?_
    refine q_iaddN (a := i) (b := 1) C dL_law_393 rfl rfl ?_
    refine q_sld (j := i + 1) C (hC.2.2 _ _) rfl (by omega) hn dL_law_394 ?_
    refine q_aload_n C dL_law_395 rfl rfl ?_
    refine q_iload C dL_law_396 rfl ?_
    refine q_iconst (v := 2) C dL_law_398 (by decide) ?_
    refine q_iaddN (a := i) (b := 2) C dL_law_399 rfl rfl ?_
    refine q_sld (j := i + 2) C (hC.2.2 _ _) rfl (by omega) hn dL_law_400 ?_
    refine q_aload_n C dL_law_401 rfl rfl ?_
    refine q_lwi4 (hC.2.1 _ _) C (hC.1 _ _ (by omega)) hw mwL_answer mlL_136 ⟨by decide, by decide⟩ (Nat.le_of_ble_eq_true rfl) dL_law_402 ?_
    show q_V l (q_KL K ((fun L9 : q_L => L9) L) (a + 6)) 405 [(5, .int (nI i)), (4, .ref 121), (3, .ref 120), (2, .ref 112), (1, .ref 0), (0, .ref 300)] [.int (uWc [xENs, xEIo] E)] S1
    have C := hC.1 ((fun L9 : q_L => L9) L) (a + 6) (by omega)
    refine q_istore (lv' := [(6, .int (uWc [xENs, xEIo] E)), (5, .int (nI i)), (4, .ref 121), (3, .ref 120), (2, .ref 112), (1, .ref 0), (0, .ref 300)]) C dL_law_405 (by decide) rfl ?_
    refine q_aload_n C dL_law_407 rfl rfl ?_
    refine q_aload_n C dL_law_408 rfl rfl ?_
    refine q_iload C dL_law_409 rfl ?_
    refine q_iconst (v := 1) C dL_law_411 (by decide) ?_
    refine q_iaddN (a := i) (b := 1) C dL_law_412 rfl rfl ?_
    refine q_sld (j := i + 1) C (hC.2.2 _ _) rfl (by omega) hn dL_law_413 ?_
    refine q_aload_n C dL_law_414 rfl rfl ?_
    refine q_iload C dL_law_415 rfl ?_
    refine q_iconst (v := 2) C dL_law_417 (by decide) ?_
    refine q_iaddN (a := i) (b := 2) C dL_law_418 rfl rfl ?_
    refine q_sld (j := i + 2) C (hC.2.2 _ _) rfl (by omega) hn dL_law_419 ?_
    refine q_ci2 C hm myX7_answer mlL_138 q_s112 ⟨by decide, by decide⟩ (Nat.le_of_ble_eq_true rfl) dL_law_420 ?_
    refine q_istore (lv' := [(7, .int v), (6, .int (uWc [xENs, xEIo] E)), (5, .int (nI i)), (4, .ref 121), (3, .ref 120), (2, .ref 112), (1, .ref 0), (0, .ref 300)]) C dL_law_423 (by decide) rfl ?_
    refine q_aload_n C dL_law_425 rfl rfl ?_
    refine q_ci0 C (q_Fi.cv (v' := (uWc [xENs, xEIo] E)) ht.1 (c_X7_thrown l S2)) myX7_thrown mlL_125 q_s112 ⟨by decide, by decide⟩ (Nat.le_of_ble_eq_true rfl) dL_law_426 ?_
    refine q_iload C dL_law_429 rfl ?_
    refine q_icmp_eq (tgt := 436) C dL_law_431 (by decide) (fun _ => ?_) (fun h9 => absurd rfl h9)
    refine q_iload C dL_law_436 rfl ?_
    refine q_if_ne (tgt := 453) C dL_law_438 (by decide) (fun _ => ?_) (fun h9 => absurd h9 ht.2)
    refine q_goto (tgt := 2016) C dL_law_453 (by decide) ?_
    exact q_Vsub (kk _) (fun q hq => by simp only [List.mem_cons, List.not_mem_nil, or_false] at hq ⊢; rcases hq with h | h | h | h | h | h <;> simp [h])
theorem law_amount (l : Launch) (K : q_K) (b n : Nat) (xs : Nat → Int32) (hC : q_LC l K b n xs) (L : q_L) (a i : Nat) (S S1 S2 : q_St) (ha : a + 6 ≤ 3072) (hi : i + 3 < n) (hn : n < 2 ^ 31) (o1 : Int32 ⊕ String) (v : Int32) (hw : q_Fw l yL_amount kL_amount [.ref 0, .int (xs (i + 1)), .int (xs (i + 2)), .ref 120] S (uW [xENs, xEIo] (o1, S1))) (hm : q_Fi l yX7_amount kX7_amount 3 [.ref 112, .int (xs (i + 1)), .int (xs (i + 2))] S1 v S2) (ht : uW_ok [xENs, xEIo] o1 v (S2 112 6)) (kk : ∀ L9 : q_L, q_V l (q_KL K L9 (a + 6)) 2016 (q_lvL i) [] S2) : q_V l (q_KL K L a) 456 (q_lvL i) [] S := by
  have C := hC.1 L a (by omega)
  rcases o1 with w | E
  · refine q_aload_n C dL_law_456 rfl rfl ?_
    refine q_aload_n C dL_law_457 rfl rfl ?_
    refine q_iload C dL_law_458 rfl ?_
    refine q_iconst (v := 1) C dL_law_460 (by decide) ?_
    refine q_iaddN (a := i) (b := 1) C dL_law_461 rfl rfl ?_
    refine q_sld (j := i + 1) C (hC.2.2 _ _) rfl (by omega) hn dL_law_462 ?_
    refine q_aload_n C dL_law_463 rfl rfl ?_
    refine q_iload C dL_law_464 rfl ?_
    refine q_iconst (v := 2) C dL_law_466 (by decide) ?_
    refine q_iaddN (a := i) (b := 2) C dL_law_467 rfl rfl ?_
    refine q_sld (j := i + 2) C (hC.2.2 _ _) rfl (by omega) hn dL_law_468 ?_
    refine q_aload_n C dL_law_469 rfl rfl ?_
    refine q_lwi4 (hC.2.1 _ _) C (hC.1 _ _ (by omega)) hw mwL_amount mlL_139 ⟨by decide, by decide⟩ (Nat.le_of_ble_eq_true rfl) dL_law_470 ?_
    show q_V l (q_KL K ((fun L9 : q_L => (vp_updL L9.1 0 w.toInt64, L9.2)) L) (a + 6)) 473 [(5, .int (nI i)), (4, .ref 121), (3, .ref 120), (2, .ref 112), (1, .ref 0), (0, .ref 300)] [.int 0] S1
    have C := hC.1 ((fun L9 : q_L => (vp_updL L9.1 0 w.toInt64, L9.2)) L) (a + 6) (by omega)
    refine q_istore (lv' := [(6, .int 0), (5, .int (nI i)), (4, .ref 121), (3, .ref 120), (2, .ref 112), (1, .ref 0), (0, .ref 300)]) C dL_law_473 (by decide) rfl ?_
    refine q_aload_n C dL_law_475 rfl rfl ?_
    refine q_aload_n C dL_law_476 rfl rfl ?_
    refine q_iload C dL_law_477 rfl ?_
    refine q_iconst (v := 1) C dL_law_479 (by decide) ?_
    refine q_iaddN (a := i) (b := 1) C dL_law_480 rfl rfl ?_
    refine q_sld (j := i + 1) C (hC.2.2 _ _) rfl (by omega) hn dL_law_481 ?_
    refine q_aload_n C dL_law_482 rfl rfl ?_
    refine q_iload C dL_law_483 rfl ?_
    refine q_iconst (v := 2) C dL_law_485 (by decide) ?_
    refine q_iaddN (a := i) (b := 2) C dL_law_486 rfl rfl ?_
    refine q_sld (j := i + 2) C (hC.2.2 _ _) rfl (by omega) hn dL_law_487 ?_
    refine q_ci2 C hm myX7_amount mlL_141 q_s112 ⟨by decide, by decide⟩ (Nat.le_of_ble_eq_true rfl) dL_law_488 ?_
    refine q_istore (lv' := [(7, .int v), (6, .int 0), (5, .int (nI i)), (4, .ref 121), (3, .ref 120), (2, .ref 112), (1, .ref 0), (0, .ref 300)]) C dL_law_491 (by decide) rfl ?_
    refine q_aload_n C dL_law_493 rfl rfl ?_
    refine q_ci0 C (q_Fi.cv (v' := 0) ht.1 (c_X7_thrown l S2)) myX7_thrown mlL_125 q_s112 ⟨by decide, by decide⟩ (Nat.le_of_ble_eq_true rfl) dL_law_494 ?_
    refine q_iload C dL_law_497 rfl ?_
    refine q_icmp_eq (tgt := 504) C dL_law_499 (by decide) (fun _ => ?_) (fun h9 => absurd rfl h9)
    refine q_iload C dL_law_504 rfl ?_
    refine q_if_ne (tgt := 521) C dL_law_506 (by decide) (fun h9 => absurd h9 (by decide)) (fun _ => ?_)
    refine q_aload_n C dL_law_509 rfl rfl ?_
    refine q_iconst (v := 0) C dL_law_510 (by decide) ?_
    refine q_lald C dL_law_511 ?_
    refine q_iload C dL_law_512 rfl ?_
    refine q_i2l C dL_law_514 ?_
    refine q_lcmpE C (by rw [show v = w from ht.2.symm]; rfl) dL_law_515 ?_
    refine q_if_eq (tgt := 521) C dL_law_516 (by decide) (fun _ => ?_) (fun h9 => absurd h9 (by decide))
    refine q_goto (tgt := 2016) C dL_law_521 (by decide) ?_
    exact q_Vsub (kk _) (fun q hq => by simp only [List.mem_cons, List.not_mem_nil, or_false] at hq ⊢; rcases hq with h | h | h | h | h | h <;> simp [h])
  · refine q_aload_n C dL_law_456 rfl rfl ?_
    refine q_aload_n C dL_law_457 rfl rfl ?_
    refine q_iload C dL_law_458 rfl ?_
    refine q_iconst (v := 1) C dL_law_460 (by decide) ?_
    refine q_iaddN (a := i) (b := 1) C dL_law_461 rfl rfl ?_
    refine q_sld (j := i + 1) C (hC.2.2 _ _) rfl (by omega) hn dL_law_462 ?_
    refine q_aload_n C dL_law_463 rfl rfl ?_
    refine q_iload C dL_law_464 rfl ?_
    refine q_iconst (v := 2) C dL_law_466 (by decide) ?_
    refine q_iaddN (a := i) (b := 2) C dL_law_467 rfl rfl ?_
    refine q_sld (j := i + 2) C (hC.2.2 _ _) rfl (by omega) hn dL_law_468 ?_
    refine q_aload_n C dL_law_469 rfl rfl ?_
    refine q_lwi4 (hC.2.1 _ _) C (hC.1 _ _ (by omega)) hw mwL_amount mlL_139 ⟨by decide, by decide⟩ (Nat.le_of_ble_eq_true rfl) dL_law_470 ?_
    show q_V l (q_KL K ((fun L9 : q_L => L9) L) (a + 6)) 473 [(5, .int (nI i)), (4, .ref 121), (3, .ref 120), (2, .ref 112), (1, .ref 0), (0, .ref 300)] [.int (uWc [xENs, xEIo] E)] S1
    have C := hC.1 ((fun L9 : q_L => L9) L) (a + 6) (by omega)
    refine q_istore (lv' := [(6, .int (uWc [xENs, xEIo] E)), (5, .int (nI i)), (4, .ref 121), (3, .ref 120), (2, .ref 112), (1, .ref 0), (0, .ref 300)]) C dL_law_473 (by decide) rfl ?_
    refine q_aload_n C dL_law_475 rfl rfl ?_
    refine q_aload_n C dL_law_476 rfl rfl ?_
    refine q_iload C dL_law_477 rfl ?_
    refine q_iconst (v := 1) C dL_law_479 (by decide) ?_
    refine q_iaddN (a := i) (b := 1) C dL_law_480 rfl rfl ?_
    refine q_sld (j := i + 1) C (hC.2.2 _ _) rfl (by omega) hn dL_law_481 ?_
    refine q_aload_n C dL_law_482 rfl rfl ?_
    refine q_iload C dL_law_483 rfl ?_
    refine q_iconst (v := 2) C dL_law_485 (by decide) ?_
    refine q_iaddN (a := i) (b := 2) C dL_law_486 rfl rfl ?_
    refine q_sld (j := i + 2) C (hC.2.2 _ _) rfl (by omega) hn dL_law_487 ?_
    refine q_ci2 C hm myX7_amount mlL_141 q_s112 ⟨by decide, by decide⟩ (Nat.le_of_ble_eq_true rfl) dL_law_488 ?_
    refine q_istore (lv' := [(7, .int v), (6, .int (uWc [xENs, xEIo] E)), (5, .int (nI i)), (4, .ref 121), (3, .ref 120), (2, .ref 112), (1, .ref 0), (0, .ref 300)]) C dL_law_491 (by decide) rfl ?_
    refine q_aload_n C dL_law_493 rfl rfl ?_
    refine q_ci0 C (q_Fi.cv (v' := (uWc [xENs, xEIo] E)) ht.1 (c_X7_thrown l S2)) myX7_thrown mlL_125 q_s112 ⟨by decide, by decide⟩ (Nat.le_of_ble_eq_true rfl) dL_law_494 ?_
    refine q_iload C dL_law_497 rfl ?_
    refine q_icmp_eq (tgt := 504) C dL_law_499 (by decide) (fun _ => ?_) (fun h9 => absurd rfl h9)
    refine q_iload C dL_law_504 rfl ?_
    refine q_if_ne (tgt := 521) C dL_law_506 (by decide) (fun _ => ?_) (fun h9 => absurd h9 ht.2)
    refine q_goto (tgt := 2016) C dL_law_521 (by decide) ?_
    exact q_Vsub (kk _) (fun q hq => by simp only [List.mem_cons, List.not_mem_nil, or_false] at hq ⊢; rcases hq with h | h | h | h | h | h <;> simp [h])
theorem law_ask (l : Launch) (K : q_K) (b n : Nat) (xs : Nat → Int32) (hC : q_LC l K b n xs) (L : q_L) (a i : Nat) (S S1 S2 : q_St) (ha : a + 6 ≤ 3072) (hi : i + 3 < n) (hn : n < 2 ^ 31) (o1 : Int32 ⊕ String) (v : Int32) (hw : q_Fw l yL_ask kL_ask [.ref 0, .int (xs (i + 1)), .int (xs (i + 2)), .ref 120] S (uW [xENs, xEIo, xEUn] (o1, S1))) (hm : q_Fi l yX7_ask kX7_ask 6 [.ref 112, .int (xs (i + 1)), .int (xs (i + 2))] S1 v S2) (ht : uW_ok [xENs, xEIo, xEUn] o1 v (S2 112 6)) (kk : ∀ L9 : q_L, q_V l (q_KL K L9 (a + 6)) 2016 (q_lvL i) [] S2) : q_V l (q_KL K L a) 524 (q_lvL i) [] S := by
  have C := hC.1 L a (by omega)
  rcases o1 with w | E
  · refine q_aload_n C dL_law_524 rfl rfl ?_
    refine q_aload_n C dL_law_525 rfl rfl ?_
    refine q_iload C dL_law_526 rfl ?_
    refine q_iconst (v := 1) C dL_law_528 (by decide) ?_
    refine q_iaddN (a := i) (b := 1) C dL_law_529 rfl rfl ?_
    refine q_sld (j := i + 1) C (hC.2.2 _ _) rfl (by omega) hn dL_law_530 ?_
    refine q_aload_n C dL_law_531 rfl rfl ?_
    refine q_iload C dL_law_532 rfl ?_
    refine q_iconst (v := 2) C dL_law_534 (by decide) ?_
    refine q_iaddN (a := i) (b := 2) C dL_law_535 rfl rfl ?_
    refine q_sld (j := i + 2) C (hC.2.2 _ _) rfl (by omega) hn dL_law_536 ?_
    refine q_aload_n C dL_law_537 rfl rfl ?_
    refine q_lwi4 (hC.2.1 _ _) C (hC.1 _ _ (by omega)) hw mwL_ask mlL_142 ⟨by decide, by decide⟩ (Nat.le_of_ble_eq_true rfl) dL_law_538 ?_
    show q_V l (q_KL K ((fun L9 : q_L => (vp_updL L9.1 0 w.toInt64, L9.2)) L) (a + 6)) 541 [(5, .int (nI i)), (4, .ref 121), (3, .ref 120), (2, .ref 112), (1, .ref 0), (0, .ref 300)] [.int 0] S1
    have C := hC.1 ((fun L9 : q_L => (vp_updL L9.1 0 w.toInt64, L9.2)) L) (a + 6) (by omega)
    refine q_istore (lv' := [(6, .int 0), (5, .int (nI i)), (4, .ref 121), (3, .ref 120), (2, .ref 112), (1, .ref 0), (0, .ref 300)]) C dL_law_541 (by decide) rfl ?_
    refine q_aload_n C dL_law_543 rfl rfl ?_
    refine q_aload_n C dL_law_544 rfl rfl ?_
    refine q_iload C dL_law_545 rfl ?_
    refine q_iconst (v := 1) C dL_law_547 (by decide) ?_
    refine q_iaddN (a := i) (b := 1) C dL_law_548 rfl rfl ?_
    refine q_sld (j := i + 1) C (hC.2.2 _ _) rfl (by omega) hn dL_law_549 ?_
    refine q_aload_n C dL_law_550 rfl rfl ?_
    refine q_iload C dL_law_551 rfl ?_
    refine q_iconst (v := 2) C dL_law_553 (by decide) ?_
    refine q_iaddN (a := i) (b := 2) C dL_law_554 rfl rfl ?_
    refine q_sld (j := i + 2) C (hC.2.2 _ _) rfl (by omega) hn dL_law_555 ?_
    refine q_ci2 C hm myX7_ask mlL_144 q_s112 ⟨by decide, by decide⟩ (Nat.le_of_ble_eq_true rfl) dL_law_556 ?_
    refine q_istore (lv' := [(7, .int v), (6, .int 0), (5, .int (nI i)), (4, .ref 121), (3, .ref 120), (2, .ref 112), (1, .ref 0), (0, .ref 300)]) C dL_law_559 (by decide) rfl ?_
    refine q_aload_n C dL_law_561 rfl rfl ?_
    refine q_ci0 C (q_Fi.cv (v' := 0) ht.1 (c_X7_thrown l S2)) myX7_thrown mlL_125 q_s112 ⟨by decide, by decide⟩ (Nat.le_of_ble_eq_true rfl) dL_law_562 ?_
    refine q_iload C dL_law_565 rfl ?_
    refine q_icmp_eq (tgt := 572) C dL_law_567 (by decide) (fun _ => ?_) (fun h9 => absurd rfl h9)
    refine q_iload C dL_law_572 rfl ?_
    refine q_if_ne (tgt := 589) C dL_law_574 (by decide) (fun h9 => absurd h9 (by decide)) (fun _ => ?_)
    refine q_aload_n C dL_law_577 rfl rfl ?_
    refine q_iconst (v := 0) C dL_law_578 (by decide) ?_
    refine q_lald C dL_law_579 ?_
    refine q_iload C dL_law_580 rfl ?_
    refine q_i2l C dL_law_582 ?_
    refine q_lcmpE C (by rw [show v = w from ht.2.symm]; rfl) dL_law_583 ?_
    refine q_if_eq (tgt := 589) C dL_law_584 (by decide) (fun _ => ?_) (fun h9 => absurd h9 (by decide))
    refine q_goto (tgt := 2016) C dL_law_589 (by decide) ?_
    exact q_Vsub (kk _) (fun q hq => by simp only [List.mem_cons, List.not_mem_nil, or_false] at hq ⊢; rcases hq with h | h | h | h | h | h <;> simp [h])
  · refine q_aload_n C dL_law_524 rfl rfl ?_
    refine q_aload_n C dL_law_525 rfl rfl ?_
    refine q_iload C dL_law_526 rfl ?_
    refine q_iconst (v := 1) C dL_law_528 (by decide) ?_
    refine q_iaddN (a := i) (b := 1) C dL_law_529 rfl rfl ?_
    refine q_sld (j := i + 1) C (hC.2.2 _ _) rfl (by omega) hn dL_law_530 ?_
    refine q_aload_n C dL_law_531 rfl rfl ?_
    refine q_iload C dL_law_532 rfl ?_
    refine q_iconst (v := 2) C dL_law_534 (by decide) ?_
    refine q_iaddN (a := i) (b := 2) C dL_law_535 rfl rfl ?_
    refine q_sld (j := i + 2) C (hC.2.2 _ _) rfl (by omega) hn dL_law_536 ?_
    refine q_aload_n C dL_law_537 rfl rfl ?_
    refine q_lwi4 (hC.2.1 _ _) C (hC.1 _ _ (by omega)) hw mwL_ask mlL_142 ⟨by decide, by decide⟩ (Nat.le_of_ble_eq_true rfl) dL_law_538 ?_
    show q_V l (q_KL K ((fun L9 : q_L => L9) L) (a + 6)) 541 [(5, .int (nI i)), (4, .ref 121), (3, .ref 120), (2, .ref 112), (1, .ref 0), (0, .ref 300)] [.int (uWc [xENs, xEIo, xEUn] E)] S1
    have C := hC.1 ((fun L9 : q_L => L9) L) (a + 6) (by omega)
    refine q_istore (lv' := [(6, .int (uWc [xENs, xEIo, xEUn] E)), (5, .int (nI i)), (4, .ref 121), (3, .ref 120), (2, .ref 112), (1, .ref 0), (0, .ref 300)]) C dL_law_541 (by decide) rfl ?_
    refine q_aload_n C dL_law_543 rfl rfl ?_
    refine q_aload_n C dL_law_544 rfl rfl ?_
    refine q_iload C dL_law_545 rfl ?_
    refine q_iconst (v := 1) C dL_law_547 (by decide) ?_
    refine q_iaddN (a := i) (b := 1) C dL_law_548 rfl rfl ?_
    refine q_sld (j := i + 1) C (hC.2.2 _ _) rfl (by omega) hn dL_law_549 ?_
    refine q_aload_n C dL_law_550 rfl rfl ?_
    refine q_iload C dL_law_551 rfl ?_
    refine q_iconst (v := 2) C dL_law_553 (by decide) ?_
    refine q_iaddN (a := i) (b := 2) C dL_law_554 rfl rfl ?_
    refine q_sld (j := i + 2) C (hC.2.2 _ _) rfl (by omega) hn dL_law_555 ?_
    refine q_ci2 C hm myX7_ask mlL_144 q_s112 ⟨by decide, by decide⟩ (Nat.le_of_ble_eq_true rfl) dL_law_556 ?_
    refine q_istore (lv' := [(7, .int v), (6, .int (uWc [xENs, xEIo, xEUn] E)), (5, .int (nI i)), (4, .ref 121), (3, .ref 120), (2, .ref 112), (1, .ref 0), (0, .ref 300)]) C dL_law_559 (by decide) rfl ?_
    refine q_aload_n C dL_law_561 rfl rfl ?_
    refine q_ci0 C (q_Fi.cv (v' := (uWc [xENs, xEIo, xEUn] E)) ht.1 (c_X7_thrown l S2)) myX7_thrown mlL_125 q_s112 ⟨by decide, by decide⟩ (Nat.le_of_ble_eq_true rfl) dL_law_562 ?_
    refine q_iload C dL_law_565 rfl ?_
    refine q_icmp_eq (tgt := 572) C dL_law_567 (by decide) (fun _ => ?_) (fun h9 => absurd rfl h9)
    refine q_iload C dL_law_572 rfl ?_
    refine q_if_ne (tgt := 589) C dL_law_574 (by decide) (fun _ => ?_) (fun h9 => absurd h9 ht.2)
    refine q_goto (tgt := 2016) C dL_law_589 (by decide) ?_
    exact q_Vsub (kk _) (fun q hq => by simp only [List.mem_cons, List.not_mem_nil, or_false] at hq ⊢; rcases hq with h | h | h | h | h | h <;> simp [h])
theorem law_decide (l : Launch) (K : q_K) (b n : Nat) (xs : Nat → Int32) (hC : q_LC l K b n xs) (L : q_L) (a i : Nat) (S S1 S2 : q_St) (ha : a + 6 ≤ 3072) (hi : i + 3 < n) (hn : n < 2 ^ 31) (o1 : Int32 ⊕ String) (v : Int32) (hw : q_Fw l yL_decide kL_decide [.ref 0, .int (xs (i + 1)), .ref 120] S (uW [xENs, xEUn] (o1, S1))) (hm : q_Fi l yX7_decide kX7_decide 5 [.ref 112, .int (xs (i + 1))] S1 v S2) (ht : uW_ok [xENs, xEUn] o1 v (S2 112 6)) (kk : ∀ L9 : q_L, q_V l (q_KL K L9 (a + 6)) 2016 (q_lvL i) [] S2) : q_V l (q_KL K L a) 592 (q_lvL i) [] S := by
  have C := hC.1 L a (by omega)
  rcases o1 with w | E
  · refine q_aload_n C dL_law_592 rfl rfl ?_
    refine q_aload_n C dL_law_593 rfl rfl ?_
    refine q_iload C dL_law_594 rfl ?_
    refine q_iconst (v := 1) C dL_law_596 (by decide) ?_
    refine q_iaddN (a := i) (b := 1) C dL_law_597 rfl rfl ?_
    refine q_sld (j := i + 1) C (hC.2.2 _ _) rfl (by omega) hn dL_law_598 ?_
    refine q_aload_n C dL_law_599 rfl rfl ?_
    refine q_lwi3 (hC.2.1 _ _) C (hC.1 _ _ (by omega)) hw mwL_decide mlL_145 ⟨by decide, by decide⟩ (Nat.le_of_ble_eq_true rfl) dL_law_600 ?_
    show q_V l (q_KL K ((fun L9 : q_L => (vp_updL L9.1 0 w.toInt64, L9.2)) L) (a + 6)) 603 [(5, .int (nI i)), (4, .ref 121), (3, .ref 120), (2, .ref 112), (1, .ref 0), (0, .ref 300)] [.int 0] S1
    have C := hC.1 ((fun L9 : q_L => (vp_updL L9.1 0 w.toInt64, L9.2)) L) (a + 6) (by omega)
    refine q_istore (lv' := [(6, .int 0), (5, .int (nI i)), (4, .ref 121), (3, .ref 120), (2, .ref 112), (1, .ref 0), (0, .ref 300)]) C dL_law_603 (by decide) rfl ?_
    refine q_aload_n C dL_law_605 rfl rfl ?_
    refine q_aload_n C dL_law_606 rfl rfl ?_
    refine q_iload C dL_law_607 rfl ?_
    refine q_iconst (v := 1) C dL_law_609 (by decide) ?_
    refine q_iaddN (a := i) (b := 1) C dL_law_610 rfl rfl ?_
    refine q_sld (j := i + 1) C (hC.2.2 _ _) rfl (by omega) hn dL_law_611 ?_
    refine q_ci1 C hm myX7_decide mlL_148 q_s112 ⟨by decide, by decide⟩ (Nat.le_of_ble_eq_true rfl) dL_law_612 ?_
    refine q_istore (lv' := [(7, .int v), (6, .int 0), (5, .int (nI i)), (4, .ref 121), (3, .ref 120), (2, .ref 112), (1, .ref 0), (0, .ref 300)]) C dL_law_615 (by decide) rfl ?_
    refine q_aload_n C dL_law_617 rfl rfl ?_
    refine q_ci0 C (q_Fi.cv (v' := 0) ht.1 (c_X7_thrown l S2)) myX7_thrown mlL_125 q_s112 ⟨by decide, by decide⟩ (Nat.le_of_ble_eq_true rfl) dL_law_618 ?_
    refine q_iload C dL_law_621 rfl ?_
    refine q_icmp_eq (tgt := 628) C dL_law_623 (by decide) (fun _ => ?_) (fun h9 => absurd rfl h9)
    refine q_iload C dL_law_628 rfl ?_
    refine q_if_ne (tgt := 645) C dL_law_630 (by decide) (fun h9 => absurd h9 (by decide)) (fun _ => ?_)
    refine q_aload_n C dL_law_633 rfl rfl ?_
    refine q_iconst (v := 0) C dL_law_634 (by decide) ?_
    refine q_lald C dL_law_635 ?_
    refine q_iload C dL_law_636 rfl ?_
    refine q_i2l C dL_law_638 ?_
    refine q_lcmpE C (by rw [show v = w from ht.2.symm]; rfl) dL_law_639 ?_
    refine q_if_eq (tgt := 645) C dL_law_640 (by decide) (fun _ => ?_) (fun h9 => absurd h9 (by decide))
    refine q_goto (tgt := 2016) C dL_law_645 (by decide) ?_
    exact q_Vsub (kk _) (fun q hq => by simp only [List.mem_cons, List.not_mem_nil, or_false] at hq ⊢; rcases hq with h | h | h | h | h | h <;> simp [h])
  · refine q_aload_n C dL_law_592 rfl rfl ?_
    refine q_aload_n C dL_law_593 rfl rfl ?_
    refine q_iload C dL_law_594 rfl ?_
    refine q_iconst (v := 1) C dL_law_596 (by decide) ?_
    refine q_iaddN (a := i) (b := 1) C dL_law_597 rfl rfl ?_
    refine q_sld (j := i + 1) C (hC.2.2 _ _) rfl (by omega) hn dL_law_598 ?_
    refine q_aload_n C dL_law_599 rfl rfl ?_
    refine q_lwi3 (hC.2.1 _ _) C (hC.1 _ _ (by omega)) hw mwL_decide mlL_145 ⟨by decide, by decide⟩ (Nat.le_of_ble_eq_true rfl) dL_law_600 ?_
    show q_V l (q_KL K ((fun L9 : q_L => L9) L) (a + 6)) 603 [(5, .int (nI i)), (4, .ref 121), (3, .ref 120), (2, .ref 112), (1, .ref 0), (0, .ref 300)] [.int (uWc [xENs, xEUn] E)] S1
    have C := hC.1 ((fun L9 : q_L => L9) L) (a + 6) (by omega)
    refine q_istore (lv' := [(6, .int (uWc [xENs, xEUn] E)), (5, .int (nI i)), (4, .ref 121), (3, .ref 120), (2, .ref 112), (1, .ref 0), (0, .ref 300)]) C dL_law_603 (by decide) rfl ?_
    refine q_aload_n C dL_law_605 rfl rfl ?_
    refine q_aload_n C dL_law_606 rfl rfl ?_
    refine q_iload C dL_law_607 rfl ?_
    refine q_iconst (v := 1) C dL_law_609 (by decide) ?_
    refine q_iaddN (a := i) (b := 1) C dL_law_610 rfl rfl ?_
    refine q_sld (j := i + 1) C (hC.2.2 _ _) rfl (by omega) hn dL_law_611 ?_
    refine q_ci1 C hm myX7_decide mlL_148 q_s112 ⟨by decide, by decide⟩ (Nat.le_of_ble_eq_true rfl) dL_law_612 ?_
    refine q_istore (lv' := [(7, .int v), (6, .int (uWc [xENs, xEUn] E)), (5, .int (nI i)), (4, .ref 121), (3, .ref 120), (2, .ref 112), (1, .ref 0), (0, .ref 300)]) C dL_law_615 (by decide) rfl ?_
    refine q_aload_n C dL_law_617 rfl rfl ?_
    refine q_ci0 C (q_Fi.cv (v' := (uWc [xENs, xEUn] E)) ht.1 (c_X7_thrown l S2)) myX7_thrown mlL_125 q_s112 ⟨by decide, by decide⟩ (Nat.le_of_ble_eq_true rfl) dL_law_618 ?_
    refine q_iload C dL_law_621 rfl ?_
    refine q_icmp_eq (tgt := 628) C dL_law_623 (by decide) (fun _ => ?_) (fun h9 => absurd rfl h9)
    refine q_iload C dL_law_628 rfl ?_
    refine q_if_ne (tgt := 645) C dL_law_630 (by decide) (fun _ => ?_) (fun h9 => absurd h9 ht.2)
    refine q_goto (tgt := 2016) C dL_law_645 (by decide) ?_
    exact q_Vsub (kk _) (fun q hq => by simp only [List.mem_cons, List.not_mem_nil, or_false] at hq ⊢; rcases hq with h | h | h | h | h | h <;> simp [h])
theorem law_tell (l : Launch) (K : q_K) (b n : Nat) (xs : Nat → Int32) (hC : q_LC l K b n xs) (L : q_L) (a i : Nat) (S S1 S2 : q_St) (ha : a + 6 ≤ 3072) (hi : i + 3 < n) (hn : n < 2 ^ 31) (o1 : Int32 ⊕ String) (v : Int32) (hw : q_Fw l yL_tell kL_tell [.ref 0, .int (xs (i + 1)), .int (xs (i + 2)), .ref 120] S (uW [xENs, xEIo, xEUn] (o1, S1))) (hm : q_Fi l yX7_tell kX7_tell 5 [.ref 112, .int (xs (i + 1)), .int (xs (i + 2))] S1 v S2) (ht : uW_ok [xENs, xEIo, xEUn] o1 v (S2 112 6)) (kk : ∀ L9 : q_L, q_V l (q_KL K L9 (a + 6)) 2016 (q_lvL i) [] S2) : q_V l (q_KL K L a) 648 (q_lvL i) [] S := by
  have C := hC.1 L a (by omega)
  rcases o1 with w | E
  · refine q_aload_n C dL_law_648 rfl rfl ?_
    refine q_aload_n C dL_law_649 rfl rfl ?_
    refine q_iload C dL_law_650 rfl ?_
    refine q_iconst (v := 1) C dL_law_652 (by decide) ?_
    refine q_iaddN (a := i) (b := 1) C dL_law_653 rfl rfl ?_
    refine q_sld (j := i + 1) C (hC.2.2 _ _) rfl (by omega) hn dL_law_654 ?_
    refine q_aload_n C dL_law_655 rfl rfl ?_
    refine q_iload C dL_law_656 rfl ?_
    refine q_iconst (v := 2) C dL_law_658 (by decide) ?_
    refine q_iaddN (a := i) (b := 2) C dL_law_659 rfl rfl ?_
    refine q_sld (j := i + 2) C (hC.2.2 _ _) rfl (by omega) hn dL_law_660 ?_
    refine q_aload_n C dL_law_661 rfl rfl ?_
    refine q_lwi4 (hC.2.1 _ _) C (hC.1 _ _ (by omega)) hw mwL_tell mlL_149 ⟨by decide, by decide⟩ (Nat.le_of_ble_eq_true rfl) dL_law_662 ?_
    show q_V l (q_KL K ((fun L9 : q_L => (vp_updL L9.1 0 w.toInt64, L9.2)) L) (a + 6)) 665 [(5, .int (nI i)), (4, .ref 121), (3, .ref 120), (2, .ref 112), (1, .ref 0), (0, .ref 300)] [.int 0] S1
    have C := hC.1 ((fun L9 : q_L => (vp_updL L9.1 0 w.toInt64, L9.2)) L) (a + 6) (by omega)
    refine q_istore (lv' := [(6, .int 0), (5, .int (nI i)), (4, .ref 121), (3, .ref 120), (2, .ref 112), (1, .ref 0), (0, .ref 300)]) C dL_law_665 (by decide) rfl ?_
    refine q_aload_n C dL_law_667 rfl rfl ?_
    refine q_aload_n C dL_law_668 rfl rfl ?_
    refine q_iload C dL_law_669 rfl ?_
    refine q_iconst (v := 1) C dL_law_671 (by decide) ?_
    refine q_iaddN (a := i) (b := 1) C dL_law_672 rfl rfl ?_
    refine q_sld (j := i + 1) C (hC.2.2 _ _) rfl (by omega) hn dL_law_673 ?_
    refine q_aload_n C dL_law_674 rfl rfl ?_
    refine q_iload C dL_law_675 rfl ?_
    refine q_iconst (v := 2) C dL_law_677 (by decide) ?_
    refine q_iaddN (a := i) (b := 2) C dL_law_678 rfl rfl ?_
    refine q_sld (j := i + 2) C (hC.2.2 _ _) rfl (by omega) hn dL_law_679 ?_
    refine q_ci2 C hm myX7_tell mlL_151 q_s112 ⟨by decide, by decide⟩ (Nat.le_of_ble_eq_true rfl) dL_law_680 ?_
    refine q_istore (lv' := [(7, .int v), (6, .int 0), (5, .int (nI i)), (4, .ref 121), (3, .ref 120), (2, .ref 112), (1, .ref 0), (0, .ref 300)]) C dL_law_683 (by decide) rfl ?_
    refine q_aload_n C dL_law_685 rfl rfl ?_
    refine q_ci0 C (q_Fi.cv (v' := 0) ht.1 (c_X7_thrown l S2)) myX7_thrown mlL_125 q_s112 ⟨by decide, by decide⟩ (Nat.le_of_ble_eq_true rfl) dL_law_686 ?_
    refine q_iload C dL_law_689 rfl ?_
    refine q_icmp_eq (tgt := 696) C dL_law_691 (by decide) (fun _ => ?_) (fun h9 => absurd rfl h9)
    refine q_iload C dL_law_696 rfl ?_
    refine q_if_ne (tgt := 713) C dL_law_698 (by decide) (fun h9 => absurd h9 (by decide)) (fun _ => ?_)
    refine q_aload_n C dL_law_701 rfl rfl ?_
    refine q_iconst (v := 0) C dL_law_702 (by decide) ?_
    refine q_lald C dL_law_703 ?_
    refine q_iload C dL_law_704 rfl ?_
    refine q_i2l C dL_law_706 ?_
    refine q_lcmpE C (by rw [show v = w from ht.2.symm]; rfl) dL_law_707 ?_
    refine q_if_eq (tgt := 713) C dL_law_708 (by decide) (fun _ => ?_) (fun h9 => absurd h9 (by decide))
    refine q_goto (tgt := 2016) C dL_law_713 (by decide) ?_
    exact q_Vsub (kk _) (fun q hq => by simp only [List.mem_cons, List.not_mem_nil, or_false] at hq ⊢; rcases hq with h | h | h | h | h | h <;> simp [h])
  · refine q_aload_n C dL_law_648 rfl rfl ?_
    refine q_aload_n C dL_law_649 rfl rfl ?_
    refine q_iload C dL_law_650 rfl ?_
    refine q_iconst (v := 1) C dL_law_652 (by decide) ?_
    refine q_iaddN (a := i) (b := 1) C dL_law_653 rfl rfl ?_
    refine q_sld (j := i + 1) C (hC.2.2 _ _) rfl (by omega) hn dL_law_654 ?_
    refine q_aload_n C dL_law_655 rfl rfl ?_
    refine q_iload C dL_law_656 rfl ?_
    refine q_iconst (v := 2) C dL_law_658 (by decide) ?_
    refine q_iaddN (a := i) (b := 2) C dL_law_659 rfl rfl ?_
    refine q_sld (j := i + 2) C (hC.2.2 _ _) rfl (by omega) hn dL_law_660 ?_
    refine q_aload_n C dL_law_661 rfl rfl ?_
    refine q_lwi4 (hC.2.1 _ _) C (hC.1 _ _ (by omega)) hw mwL_tell mlL_149 ⟨by decide, by decide⟩ (Nat.le_of_ble_eq_true rfl) dL_law_662 ?_
    show q_V l (q_KL K ((fun L9 : q_L => L9) L) (a + 6)) 665 [(5, .int (nI i)), (4, .ref 121), (3, .ref 120), (2, .ref 112), (1, .ref 0), (0, .ref 300)] [.int (uWc [xENs, xEIo, xEUn] E)] S1
    have C := hC.1 ((fun L9 : q_L => L9) L) (a + 6) (by omega)
    refine q_istore (lv' := [(6, .int (uWc [xENs, xEIo, xEUn] E)), (5, .int (nI i)), (4, .ref 121), (3, .ref 120), (2, .ref 112), (1, .ref 0), (0, .ref 300)]) C dL_law_665 (by decide) rfl ?_
    refine q_aload_n C dL_law_667 rfl rfl ?_
    refine q_aload_n C dL_law_668 rfl rfl ?_
    refine q_iload C dL_law_669 rfl ?_
    refine q_iconst (v := 1) C dL_law_671 (by decide) ?_
    refine q_iaddN (a := i) (b := 1) C dL_law_672 rfl rfl ?_
    refine q_sld (j := i + 1) C (hC.2.2 _ _) rfl (by omega) hn dL_law_673 ?_
    refine q_aload_n C dL_law_674 rfl rfl ?_
    refine q_iload C dL_law_675 rfl ?_
    refine q_iconst (v := 2) C dL_law_677 (by decide) ?_
    refine q_iaddN (a := i) (b := 2) C dL_law_678 rfl rfl ?_
    refine q_sld (j := i + 2) C (hC.2.2 _ _) rfl (by omega) hn dL_law_679 ?_
    refine q_ci2 C hm myX7_tell mlL_151 q_s112 ⟨by decide, by decide⟩ (Nat.le_of_ble_eq_true rfl) dL_law_680 ?_
    refine q_istore (lv' := [(7, .int v), (6, .int (uWc [xENs, xEIo, xEUn] E)), (5, .int (nI i)), (4, .ref 121), (3, .ref 120), (2, .ref 112), (1, .ref 0), (0, .ref 300)]) C dL_law_683 (by decide) rfl ?_
    refine q_aload_n C dL_law_685 rfl rfl ?_
    refine q_ci0 C (q_Fi.cv (v' := (uWc [xENs, xEIo, xEUn] E)) ht.1 (c_X7_thrown l S2)) myX7_thrown mlL_125 q_s112 ⟨by decide, by decide⟩ (Nat.le_of_ble_eq_true rfl) dL_law_686 ?_
    refine q_iload C dL_law_689 rfl ?_
    refine q_icmp_eq (tgt := 696) C dL_law_691 (by decide) (fun _ => ?_) (fun h9 => absurd rfl h9)
    refine q_iload C dL_law_696 rfl ?_
    refine q_if_ne (tgt := 713) C dL_law_698 (by decide) (fun _ => ?_) (fun h9 => absurd h9 ht.2)
    refine q_goto (tgt := 2016) C dL_law_713 (by decide) ?_
    exact q_Vsub (kk _) (fun q hq => by simp only [List.mem_cons, List.not_mem_nil, or_false] at hq ⊢; rcases hq with h | h | h | h | h | h <;> simp [h])
theorem law_faint (l : Launch) (K : q_K) (b n : Nat) (xs : Nat → Int32) (hC : q_LC l K b n xs) (L : q_L) (a i : Nat) (S S1 S2 : q_St) (ha : a + 6 ≤ 3072) (hi : i + 3 < n) (hn : n < 2 ^ 31) (o1 : Int32 ⊕ String) (v : Int32) (hw : q_Fw l yL_faint kL_faint [.ref 0, .ref 120] S (uW [xEUn] (o1, S1))) (hm : q_Fi l yX7_faint kX7_faint 4 [.ref 112] S1 v S2) (ht : uW_ok [xEUn] o1 v (S2 112 6)) (kk : ∀ L9 : q_L, q_V l (q_KL K L9 (a + 6)) 2016 (q_lvL i) [] S2) : q_V l (q_KL K L a) 716 (q_lvL i) [] S := by
  have C := hC.1 L a (by omega)
  rcases o1 with w | E
  · refine q_aload_n C dL_law_716 rfl rfl ?_
    refine q_aload_n C dL_law_717 rfl rfl ?_
    refine q_lwi2 (hC.2.1 _ _) C (hC.1 _ _ (by omega)) hw mwL_faint mlL_152 ⟨by decide, by decide⟩ (Nat.le_of_ble_eq_true rfl) dL_law_718 ?_
    show q_V l (q_KL K ((fun L9 : q_L => (vp_updL L9.1 0 w.toInt64, L9.2)) L) (a + 6)) 721 [(5, .int (nI i)), (4, .ref 121), (3, .ref 120), (2, .ref 112), (1, .ref 0), (0, .ref 300)] [.int 0] S1
    have C := hC.1 ((fun L9 : q_L => (vp_updL L9.1 0 w.toInt64, L9.2)) L) (a + 6) (by omega)
    refine q_istore (lv' := [(6, .int 0), (5, .int (nI i)), (4, .ref 121), (3, .ref 120), (2, .ref 112), (1, .ref 0), (0, .ref 300)]) C dL_law_721 (by decide) rfl ?_
    refine q_aload_n C dL_law_723 rfl rfl ?_
    refine q_ci0 C hm myX7_faint mlL_154 q_s112 ⟨by decide, by decide⟩ (Nat.le_of_ble_eq_true rfl) dL_law_724 ?_
    refine q_istore (lv' := [(7, .int v), (6, .int 0), (5, .int (nI i)), (4, .ref 121), (3, .ref 120), (2, .ref 112), (1, .ref 0), (0, .ref 300)]) C dL_law_727 (by decide) rfl ?_
    refine q_aload_n C dL_law_729 rfl rfl ?_
    refine q_ci0 C (q_Fi.cv (v' := 0) ht.1 (c_X7_thrown l S2)) myX7_thrown mlL_125 q_s112 ⟨by decide, by decide⟩ (Nat.le_of_ble_eq_true rfl) dL_law_730 ?_
    refine q_iload C dL_law_733 rfl ?_
    refine q_icmp_eq (tgt := 740) C dL_law_735 (by decide) (fun _ => ?_) (fun h9 => absurd rfl h9)
    refine q_iload C dL_law_740 rfl ?_
    refine q_if_ne (tgt := 757) C dL_law_742 (by decide) (fun h9 => absurd h9 (by decide)) (fun _ => ?_)
    refine q_aload_n C dL_law_745 rfl rfl ?_
    refine q_iconst (v := 0) C dL_law_746 (by decide) ?_
    refine q_lald C dL_law_747 ?_
    refine q_iload C dL_law_748 rfl ?_
    refine q_i2l C dL_law_750 ?_
    refine q_lcmpE C (by rw [show v = w from ht.2.symm]; rfl) dL_law_751 ?_
    refine q_if_eq (tgt := 757) C dL_law_752 (by decide) (fun _ => ?_) (fun h9 => absurd h9 (by decide))
    refine q_goto (tgt := 2016) C dL_law_757 (by decide) ?_
    exact q_Vsub (kk _) (fun q hq => by simp only [List.mem_cons, List.not_mem_nil, or_false] at hq ⊢; rcases hq with h | h | h | h | h | h <;> simp [h])
  · refine q_aload_n C dL_law_716 rfl rfl ?_
    refine q_aload_n C dL_law_717 rfl rfl ?_
    refine q_lwi2 (hC.2.1 _ _) C (hC.1 _ _ (by omega)) hw mwL_faint mlL_152 ⟨by decide, by decide⟩ (Nat.le_of_ble_eq_true rfl) dL_law_718 ?_
    show q_V l (q_KL K ((fun L9 : q_L => L9) L) (a + 6)) 721 [(5, .int (nI i)), (4, .ref 121), (3, .ref 120), (2, .ref 112), (1, .ref 0), (0, .ref 300)] [.int (uWc [xEUn] E)] S1
    have C := hC.1 ((fun L9 : q_L => L9) L) (a + 6) (by omega)
    refine q_istore (lv' := [(6, .int (uWc [xEUn] E)), (5, .int (nI i)), (4, .ref 121), (3, .ref 120), (2, .ref 112), (1, .ref 0), (0, .ref 300)]) C dL_law_721 (by decide) rfl ?_
    refine q_aload_n C dL_law_723 rfl rfl ?_
    refine q_ci0 C hm myX7_faint mlL_154 q_s112 ⟨by decide, by decide⟩ (Nat.le_of_ble_eq_true rfl) dL_law_724 ?_
    refine q_istore (lv' := [(7, .int v), (6, .int (uWc [xEUn] E)), (5, .int (nI i)), (4, .ref 121), (3, .ref 120), (2, .ref 112), (1, .ref 0), (0, .ref 300)]) C dL_law_727 (by decide) rfl ?_
    refine q_aload_n C dL_law_729 rfl rfl ?_
    refine q_ci0 C (q_Fi.cv (v' := (uWc [xEUn] E)) ht.1 (c_X7_thrown l S2)) myX7_thrown mlL_125 q_s112 ⟨by decide, by decide⟩ (Nat.le_of_ble_eq_true rfl) dL_law_730 ?_
    refine q_iload C dL_law_733 rfl ?_
    refine q_icmp_eq (tgt := 740) C dL_law_735 (by decide) (fun _ => ?_) (fun h9 => absurd rfl h9)
    refine q_iload C dL_law_740 rfl ?_
    refine q_if_ne (tgt := 757) C dL_law_742 (by decide) (fun _ => ?_) (fun h9 => absurd h9 ht.2)
    refine q_goto (tgt := 2016) C dL_law_757 (by decide) ?_
    exact q_Vsub (kk _) (fun q hq => by simp only [List.mem_cons, List.not_mem_nil, or_false] at hq ⊢; rcases hq with h | h | h | h | h | h <;> simp [h])
theorem law_wake (l : Launch) (K : q_K) (b n : Nat) (xs : Nat → Int32) (hC : q_LC l K b n xs) (L : q_L) (a i : Nat) (S S1 S2 : q_St) (ha : a + 6 ≤ 3072) (hi : i + 3 < n) (hn : n < 2 ^ 31) (o1 : Int32 ⊕ String) (v : Int32) (hw : q_Fw l yL_wake kL_wake [.ref 0, .ref 120] S (uW [xEUn] (o1, S1))) (hm : q_Fi l yX7_wake kX7_wake 5 [.ref 112] S1 v S2) (ht : uW_ok [xEUn] o1 v (S2 112 6)) (kk : ∀ L9 : q_L, q_V l (q_KL K L9 (a + 6)) 2016 (q_lvL i) [] S2) : q_V l (q_KL K L a) 760 (q_lvL i) [] S := by
  have C := hC.1 L a (by omega)
  rcases o1 with w | E
  · refine q_aload_n C dL_law_760 rfl rfl ?_
    refine q_aload_n C dL_law_761 rfl rfl ?_
    refine q_lwi2 (hC.2.1 _ _) C (hC.1 _ _ (by omega)) hw mwL_wake mlL_155 ⟨by decide, by decide⟩ (Nat.le_of_ble_eq_true rfl) dL_law_762 ?_
    show q_V l (q_KL K ((fun L9 : q_L => (vp_updL L9.1 0 w.toInt64, L9.2)) L) (a + 6)) 765 [(5, .int (nI i)), (4, .ref 121), (3, .ref 120), (2, .ref 112), (1, .ref 0), (0, .ref 300)] [.int 0] S1
    have C := hC.1 ((fun L9 : q_L => (vp_updL L9.1 0 w.toInt64, L9.2)) L) (a + 6) (by omega)
    refine q_istore (lv' := [(6, .int 0), (5, .int (nI i)), (4, .ref 121), (3, .ref 120), (2, .ref 112), (1, .ref 0), (0, .ref 300)]) C dL_law_765 (by decide) rfl ?_
    refine q_aload_n C dL_law_767 rfl rfl ?_
    refine q_ci0 C hm myX7_wake mlL_157 q_s112 ⟨by decide, by decide⟩ (Nat.le_of_ble_eq_true rfl) dL_law_768 ?_
    refine q_istore (lv' := [(7, .int v), (6, .int 0), (5, .int (nI i)), (4, .ref 121), (3, .ref 120), (2, .ref 112), (1, .ref 0), (0, .ref 300)]) C dL_law_771 (by decide) rfl ?_
    refine q_aload_n C dL_law_773 rfl rfl ?_
    refine q_ci0 C (q_Fi.cv (v' := 0) ht.1 (c_X7_thrown l S2)) myX7_thrown mlL_125 q_s112 ⟨by decide, by decide⟩ (Nat.le_of_ble_eq_true rfl) dL_law_774 ?_
    refine q_iload C dL_law_777 rfl ?_
    refine q_icmp_eq (tgt := 784) C dL_law_779 (by decide) (fun _ => ?_) (fun h9 => absurd rfl h9)
    refine q_iload C dL_law_784 rfl ?_
    refine q_if_ne (tgt := 801) C dL_law_786 (by decide) (fun h9 => absurd h9 (by decide)) (fun _ => ?_)
    refine q_aload_n C dL_law_789 rfl rfl ?_
    refine q_iconst (v := 0) C dL_law_790 (by decide) ?_
    refine q_lald C dL_law_791 ?_
    refine q_iload C dL_law_792 rfl ?_
    refine q_i2l C dL_law_794 ?_
    refine q_lcmpE C (by rw [show v = w from ht.2.symm]; rfl) dL_law_795 ?_
    refine q_if_eq (tgt := 801) C dL_law_796 (by decide) (fun _ => ?_) (fun h9 => absurd h9 (by decide))
    refine q_goto (tgt := 2016) C dL_law_801 (by decide) ?_
    exact q_Vsub (kk _) (fun q hq => by simp only [List.mem_cons, List.not_mem_nil, or_false] at hq ⊢; rcases hq with h | h | h | h | h | h <;> simp [h])
  · refine q_aload_n C dL_law_760 rfl rfl ?_
    refine q_aload_n C dL_law_761 rfl rfl ?_
    refine q_lwi2 (hC.2.1 _ _) C (hC.1 _ _ (by omega)) hw mwL_wake mlL_155 ⟨by decide, by decide⟩ (Nat.le_of_ble_eq_true rfl) dL_law_762 ?_
    show q_V l (q_KL K ((fun L9 : q_L => L9) L) (a + 6)) 765 [(5, .int (nI i)), (4, .ref 121), (3, .ref 120), (2, .ref 112), (1, .ref 0), (0, .ref 300)] [.int (uWc [xEUn] E)] S1
    have C := hC.1 ((fun L9 : q_L => L9) L) (a + 6) (by omega)
    refine q_istore (lv' := [(6, .int (uWc [xEUn] E)), (5, .int (nI i)), (4, .ref 121), (3, .ref 120), (2, .ref 112), (1, .ref 0), (0, .ref 300)]) C dL_law_765 (by decide) rfl ?_
    refine q_aload_n C dL_law_767 rfl rfl ?_
    refine q_ci0 C hm myX7_wake mlL_157 q_s112 ⟨by decide, by decide⟩ (Nat.le_of_ble_eq_true rfl) dL_law_768 ?_
    refine q_istore (lv' := [(7, .int v), (6, .int (uWc [xEUn] E)), (5, .int (nI i)), (4, .ref 121), (3, .ref 120), (2, .ref 112), (1, .ref 0), (0, .ref 300)]) C dL_law_771 (by decide) rfl ?_
    refine q_aload_n C dL_law_773 rfl rfl ?_
    refine q_ci0 C (q_Fi.cv (v' := (uWc [xEUn] E)) ht.1 (c_X7_thrown l S2)) myX7_thrown mlL_125 q_s112 ⟨by decide, by decide⟩ (Nat.le_of_ble_eq_true rfl) dL_law_774 ?_
    refine q_iload C dL_law_777 rfl ?_
    refine q_icmp_eq (tgt := 784) C dL_law_779 (by decide) (fun _ => ?_) (fun h9 => absurd rfl h9)
    refine q_iload C dL_law_784 rfl ?_
    refine q_if_ne (tgt := 801) C dL_law_786 (by decide) (fun _ => ?_) (fun h9 => absurd h9 ht.2)
    refine q_goto (tgt := 2016) C dL_law_801 (by decide) ?_
    exact q_Vsub (kk _) (fun q hq => by simp only [List.mem_cons, List.not_mem_nil, or_false] at hq ⊢; rcases hq with h | h | h | h | h | h <;> simp [h])
theorem law_isAwake (l : Launch) (K : q_K) (b n : Nat) (xs : Nat → Int32) (hC : q_LC l K b n xs) (L : q_L) (a i : Nat) (S S1 S2 : q_St) (ha : a + 6 ≤ 3072) (hi : i + 3 < n) (hn : n < 2 ^ 31) (v : Int32) (hc : q_Fi l yX6_isAwake kX6_isAwake 1 [.ref 0] S v S1) (hm : q_Fi l yX7_isAwake kX7_isAwake 1 [.ref 112] S1 v S2) (kk : ∀ L9 : q_L, q_V l (q_KL K L9 (a + 6)) 2016 (q_lvL i) [] S2) : q_V l (q_KL K L a) 804 (q_lvL i) [] S := by
  refine q_KLw (Nat.le_add_right a 6) ?_
  have C := hC.1 L (a + 6) (by omega)
  refine q_aload_n C dL_law_804 rfl rfl ?_
  refine q_ci0 C hc myX6_isAwake mlL_158 q_s0 ⟨by decide, by decide⟩ (Nat.le_of_ble_eq_true rfl) dL_law_805 ?_
  refine q_aload_n C dL_law_808 rfl rfl ?_
  refine q_ci0 C hm myX7_isAwake mlL_162 q_s112 ⟨by decide, by decide⟩ (Nat.le_of_ble_eq_true rfl) dL_law_809 ?_
  refine q_icmp_eq (tgt := 2016) C dL_law_812 (by decide) (fun _ => ?_) (fun h9 => absurd rfl h9)
  exact q_Vsub (kk _) (fun q hq => by simp only [List.mem_cons, List.not_mem_nil, or_false] at hq ⊢; rcases hq with h | h | h | h | h | h <;> simp [h])
theorem law_book (l : Launch) (K : q_K) (b n : Nat) (xs : Nat → Int32) (hC : q_LC l K b n xs) (L : q_L) (a i : Nat) (S S1 S2 : q_St) (ha : a + 6 ≤ 3072) (hi : i + 3 < n) (hn : n < 2 ^ 31) (o1 : Int32 ⊕ String) (v : Int32) (hw : q_Fw l yL_book kL_book [.ref 0, .int (xs (i + 1)), .ref 120] S (uW [xENs] (o1, S1))) (hm : q_Fi l yX7_book kX7_book 2 [.ref 112, .int (xs (i + 1))] S1 v S2) (ht : uW_ok [xENs] o1 v (S2 112 6)) (kk : ∀ L9 : q_L, q_V l (q_KL K L9 (a + 6)) 2016 (q_lvL i) [] S2) : q_V l (q_KL K L a) 817 (q_lvL i) [] S := by
  have C := hC.1 L a (by omega)
  rcases o1 with w | E
  · refine q_aload_n C dL_law_817 rfl rfl ?_
    refine q_aload_n C dL_law_818 rfl rfl ?_
    refine q_iload C dL_law_819 rfl ?_
    refine q_iconst (v := 1) C dL_law_821 (by decide) ?_
    refine q_iaddN (a := i) (b := 1) C dL_law_822 rfl rfl ?_
    refine q_sld (j := i + 1) C (hC.2.2 _ _) rfl (by omega) hn dL_law_823 ?_
    refine q_aload_n C dL_law_824 rfl rfl ?_
    refine q_lwi3 (hC.2.1 _ _) C (hC.1 _ _ (by omega)) hw mwL_book mlL_163 ⟨by decide, by decide⟩ (Nat.le_of_ble_eq_true rfl) dL_law_825 ?_
    show q_V l (q_KL K ((fun L9 : q_L => (vp_updL L9.1 0 w.toInt64, L9.2)) L) (a + 6)) 828 [(5, .int (nI i)), (4, .ref 121), (3, .ref 120), (2, .ref 112), (1, .ref 0), (0, .ref 300)] [.int 0] S1
    have C := hC.1 ((fun L9 : q_L => (vp_updL L9.1 0 w.toInt64, L9.2)) L) (a + 6) (by omega)
    refine q_istore (lv' := [(6, .int 0), (5, .int (nI i)), (4, .ref 121), (3, .ref 120), (2, .ref 112), (1, .ref 0), (0, .ref 300)]) C dL_law_828 (by decide) rfl ?_
    refine q_aload_n C dL_law_830 rfl rfl ?_
    refine q_aload_n C dL_law_831 rfl rfl ?_
    refine q_iload C dL_law_832 rfl ?_
    refine q_iconst (v := 1) C dL_law_834 (by decide) ?_
    refine q_iaddN (a := i) (b := 1) C dL_law_835 rfl rfl ?_
    refine q_sld (j := i + 1) C (hC.2.2 _ _) rfl (by omega) hn dL_law_836 ?_
    refine q_ci1 C hm myX7_book mlL_165 q_s112 ⟨by decide, by decide⟩ (Nat.le_of_ble_eq_true rfl) dL_law_837 ?_
    refine q_istore (lv' := [(7, .int v), (6, .int 0), (5, .int (nI i)), (4, .ref 121), (3, .ref 120), (2, .ref 112), (1, .ref 0), (0, .ref 300)]) C dL_law_840 (by decide) rfl ?_
    refine q_aload_n C dL_law_842 rfl rfl ?_
    refine q_ci0 C (q_Fi.cv (v' := 0) ht.1 (c_X7_thrown l S2)) myX7_thrown mlL_125 q_s112 ⟨by decide, by decide⟩ (Nat.le_of_ble_eq_true rfl) dL_law_843 ?_
    refine q_iload C dL_law_846 rfl ?_
    refine q_icmp_eq (tgt := 853) C dL_law_848 (by decide) (fun _ => ?_) (fun h9 => absurd rfl h9)
    refine q_iload C dL_law_853 rfl ?_
    refine q_if_ne (tgt := 870) C dL_law_855 (by decide) (fun h9 => absurd h9 (by decide)) (fun _ => ?_)
    refine q_aload_n C dL_law_858 rfl rfl ?_
    refine q_iconst (v := 0) C dL_law_859 (by decide) ?_
    refine q_lald C dL_law_860 ?_
    refine q_iload C dL_law_861 rfl ?_
    refine q_i2l C dL_law_863 ?_
    refine q_lcmpE C (by rw [show v = w from ht.2.symm]; rfl) dL_law_864 ?_
    refine q_if_eq (tgt := 870) C dL_law_865 (by decide) (fun _ => ?_) (fun h9 => absurd h9 (by decide))
    refine q_goto (tgt := 2016) C dL_law_870 (by decide) ?_
    exact q_Vsub (kk _) (fun q hq => by simp only [List.mem_cons, List.not_mem_nil, or_false] at hq ⊢; rcases hq with h | h | h | h | h | h <;> simp [h])
  · refine q_aload_n C dL_law_817 rfl rfl ?_
    refine q_aload_n C dL_law_818 rfl rfl ?_
    refine q_iload C dL_law_819 rfl ?_
    refine q_iconst (v := 1) C dL_law_821 (by decide) ?_
    refine q_iaddN (a := i) (b := 1) C dL_law_822 rfl rfl ?_
    refine q_sld (j := i + 1) C (hC.2.2 _ _) rfl (by omega) hn dL_law_823 ?_
    refine q_aload_n C dL_law_824 rfl rfl ?_
    refine q_lwi3 (hC.2.1 _ _) C (hC.1 _ _ (by omega)) hw mwL_book mlL_163 ⟨by decide, by decide⟩ (Nat.le_of_ble_eq_true rfl) dL_law_825 ?_
    show q_V l (q_KL K ((fun L9 : q_L => L9) L) (a + 6)) 828 [(5, .int (nI i)), (4, .ref 121), (3, .ref 120), (2, .ref 112), (1, .ref 0), (0, .ref 300)] [.int (uWc [xENs] E)] S1
    have C := hC.1 ((fun L9 : q_L => L9) L) (a + 6) (by omega)
    refine q_istore (lv' := [(6, .int (uWc [xENs] E)), (5, .int (nI i)), (4, .ref 121), (3, .ref 120), (2, .ref 112), (1, .ref 0), (0, .ref 300)]) C dL_law_828 (by decide) rfl ?_
    refine q_aload_n C dL_law_830 rfl rfl ?_
    refine q_aload_n C dL_law_831 rfl rfl ?_
    refine q_iload C dL_law_832 rfl ?_
    refine q_iconst (v := 1) C dL_law_834 (by decide) ?_
    refine q_iaddN (a := i) (b := 1) C dL_law_835 rfl rfl ?_
    refine q_sld (j := i + 1) C (hC.2.2 _ _) rfl (by omega) hn dL_law_836 ?_
    refine q_ci1 C hm myX7_book mlL_165 q_s112 ⟨by decide, by decide⟩ (Nat.le_of_ble_eq_true rfl) dL_law_837 ?_
    refine q_istore (lv' := [(7, .int v), (6, .int (uWc [xENs] E)), (5, .int (nI i)), (4, .ref 121), (3, .ref 120), (2, .ref 112), (1, .ref 0), (0, .ref 300)]) C dL_law_840 (by decide) rfl ?_
    refine q_aload_n C dL_law_842 rfl rfl ?_
    refine q_ci0 C (q_Fi.cv (v' := (uWc [xENs] E)) ht.1 (c_X7_thrown l S2)) myX7_thrown mlL_125 q_s112 ⟨by decide, by decide⟩ (Nat.le_of_ble_eq_true rfl) dL_law_843 ?_
    refine q_iload C dL_law_846 rfl ?_
    refine q_icmp_eq (tgt := 853) C dL_law_848 (by decide) (fun _ => ?_) (fun h9 => absurd rfl h9)
    refine q_iload C dL_law_853 rfl ?_
    refine q_if_ne (tgt := 870) C dL_law_855 (by decide) (fun _ => ?_) (fun h9 => absurd h9 ht.2)
    refine q_goto (tgt := 2016) C dL_law_870 (by decide) ?_
    exact q_Vsub (kk _) (fun q hq => by simp only [List.mem_cons, List.not_mem_nil, or_false] at hq ⊢; rcases hq with h | h | h | h | h | h <;> simp [h])
theorem law_wouldSeal (l : Launch) (K : q_K) (b n : Nat) (xs : Nat → Int32) (hC : q_LC l K b n xs) (L : q_L) (a i : Nat) (S S1 S2 : q_St) (ha : a + 6 ≤ 3072) (hi : i + 3 < n) (hn : n < 2 ^ 31) (o1 : Int32 ⊕ String) (v : Int32) (hw : q_Fw l yL_wouldSeal kL_wouldSeal [.ref 0, .int (xs (i + 1)), .ref 120] S (uW [xENs, xEIs] (o1, S1))) (hm : q_Fi l yX7_wouldSeal kX7_wouldSeal 5 [.ref 112, .int (xs (i + 1))] S1 v S2) (ht : uW_ok [xENs, xEIs] o1 v (S2 112 6)) (hv : v = 0 ∨ v = 1) (kk : ∀ L9 : q_L, q_V l (q_KL K L9 (a + 6)) 2016 (q_lvL i) [] S2) : q_V l (q_KL K L a) 873 (q_lvL i) [] S := by
  have C := hC.1 L a (by omega)
  rcases o1 with w | E
  · rcases hv with rfl | rfl
    · refine q_aload_n C dL_law_873 rfl rfl ?_
      refine q_aload_n C dL_law_874 rfl rfl ?_
      refine q_iload C dL_law_875 rfl ?_
      refine q_iconst (v := 1) C dL_law_877 (by decide) ?_
      refine q_iaddN (a := i) (b := 1) C dL_law_878 rfl rfl ?_
      refine q_sld (j := i + 1) C (hC.2.2 _ _) rfl (by omega) hn dL_law_879 ?_
      refine q_aload_n C dL_law_880 rfl rfl ?_
      refine q_lwi3 (hC.2.1 _ _) C (hC.1 _ _ (by omega)) hw mwL_wouldSeal mlL_166 ⟨by decide, by decide⟩ (Nat.le_of_ble_eq_true rfl) dL_law_881 ?_
      show q_V l (q_KL K ((fun L9 : q_L => (vp_updL L9.1 0 w.toInt64, L9.2)) L) (a + 6)) 884 [(5, .int (nI i)), (4, .ref 121), (3, .ref 120), (2, .ref 112), (1, .ref 0), (0, .ref 300)] [.int 0] S1
      have C := hC.1 ((fun L9 : q_L => (vp_updL L9.1 0 w.toInt64, L9.2)) L) (a + 6) (by omega)
      refine q_istore (lv' := [(6, .int 0), (5, .int (nI i)), (4, .ref 121), (3, .ref 120), (2, .ref 112), (1, .ref 0), (0, .ref 300)]) C dL_law_884 (by decide) rfl ?_
      refine q_aload_n C dL_law_886 rfl rfl ?_
      refine q_aload_n C dL_law_887 rfl rfl ?_
      refine q_iload C dL_law_888 rfl ?_
      refine q_iconst (v := 1) C dL_law_890 (by decide) ?_
      refine q_iaddN (a := i) (b := 1) C dL_law_891 rfl rfl ?_
      refine q_sld (j := i + 1) C (hC.2.2 _ _) rfl (by omega) hn dL_law_892 ?_
      refine q_ci1 C hm myX7_wouldSeal mlL_168 q_s112 ⟨by decide, by decide⟩ (Nat.le_of_ble_eq_true rfl) dL_law_893 ?_
      refine q_istore (lv' := [(7, .int 0), (6, .int 0), (5, .int (nI i)), (4, .ref 121), (3, .ref 120), (2, .ref 112), (1, .ref 0), (0, .ref 300)]) C dL_law_896 (by decide) rfl ?_
      refine q_aload_n C dL_law_898 rfl rfl ?_
      refine q_ci0 C (q_Fi.cv (v' := 0) ht.1 (c_X7_thrown l S2)) myX7_thrown mlL_125 q_s112 ⟨by decide, by decide⟩ (Nat.le_of_ble_eq_true rfl) dL_law_899 ?_
      refine q_iload C dL_law_902 rfl ?_
      refine q_icmp_eq (tgt := 909) C dL_law_904 (by decide) (fun _ => ?_) (fun h9 => absurd rfl h9)
      refine q_iload C dL_law_909 rfl ?_
      refine q_if_ne (tgt := 933) C dL_law_911 (by decide) (fun h9 => absurd h9 (by decide)) (fun _ => ?_)
      refine q_aload_n C dL_law_914 rfl rfl ?_
      refine q_iconst (v := 0) C dL_law_915 (by decide) ?_
      refine q_lald C dL_law_916 ?_
      refine q_iload C dL_law_917 rfl ?_
      refine q_if_eq (tgt := 926) C dL_law_919 (by decide) (fun _ => ?_) (fun h9 => absurd h9 (by decide))
      refine q_lconst (v := 0) C dL_law_926 rfl ?_
      refine q_lcmpE C (by rw [show w = 0 from ht.2]; rfl) dL_law_927 ?_
      refine q_if_eq (tgt := 933) C dL_law_928 (by decide) (fun _ => ?_) (fun h9 => absurd h9 (by decide))
      refine q_goto (tgt := 2016) C dL_law_933 (by decide) ?_
      exact q_Vsub (kk _) (fun q hq => by simp only [List.mem_cons, List.not_mem_nil, or_false] at hq ⊢; rcases hq with h | h | h | h | h | h <;> simp [h])
    · refine q_aload_n C dL_law_873 rfl rfl ?_
      refine q_aload_n C dL_law_874 rfl rfl ?_
      refine q_iload C dL_law_875 rfl ?_
      refine q_iconst (v := 1) C dL_law_877 (by decide) ?_
      refine q_iaddN (a := i) (b := 1) C dL_law_878 rfl rfl ?_
      refine q_sld (j := i + 1) C (hC.2.2 _ _) rfl (by omega) hn dL_law_879 ?_
      refine q_aload_n C dL_law_880 rfl rfl ?_
      refine q_lwi3 (hC.2.1 _ _) C (hC.1 _ _ (by omega)) hw mwL_wouldSeal mlL_166 ⟨by decide, by decide⟩ (Nat.le_of_ble_eq_true rfl) dL_law_881 ?_
      show q_V l (q_KL K ((fun L9 : q_L => (vp_updL L9.1 0 w.toInt64, L9.2)) L) (a + 6)) 884 [(5, .int (nI i)), (4, .ref 121), (3, .ref 120), (2, .ref 112), (1, .ref 0), (0, .ref 300)] [.int 0] S1
      have C := hC.1 ((fun L9 : q_L => (vp_updL L9.1 0 w.toInt64, L9.2)) L) (a + 6) (by omega)
      refine q_istore (lv' := [(6, .int 0), (5, .int (nI i)), (4, .ref 121), (3, .ref 120), (2, .ref 112), (1, .ref 0), (0, .ref 300)]) C dL_law_884 (by decide) rfl ?_
      refine q_aload_n C dL_law_886 rfl rfl ?_
      refine q_aload_n C dL_law_887 rfl rfl ?_
      refine q_iload C dL_law_888 rfl ?_
      refine q_iconst (v := 1) C dL_law_890 (by decide) ?_
      refine q_iaddN (a := i) (b := 1) C dL_law_891 rfl rfl ?_
      refine q_sld (j := i + 1) C (hC.2.2 _ _) rfl (by omega) hn dL_law_892 ?_
      refine q_ci1 C hm myX7_wouldSeal mlL_168 q_s112 ⟨by decide, by decide⟩ (Nat.le_of_ble_eq_true rfl) dL_law_893 ?_
      refine q_istore (lv' := [(7, .int 1), (6, .int 0), (5, .int (nI i)), (4, .ref 121), (3, .ref 120), (2, .ref 112), (1, .ref 0), (0, .ref 300)]) C dL_law_896 (by decide) rfl ?_
      refine q_aload_n C dL_law_898 rfl rfl ?_
      refine q_ci0 C (q_Fi.cv (v' := 0) ht.1 (c_X7_thrown l S2)) myX7_thrown mlL_125 q_s112 ⟨by decide, by decide⟩ (Nat.le_of_ble_eq_true rfl) dL_law_899 ?_
      refine q_iload C dL_law_902 rfl ?_
      refine q_icmp_eq (tgt := 909) C dL_law_904 (by decide) (fun _ => ?_) (fun h9 => absurd rfl h9)
      refine q_iload C dL_law_909 rfl ?_
      refine q_if_ne (tgt := 933) C dL_law_911 (by decide) (fun h9 => absurd h9 (by decide)) (fun _ => ?_)
      refine q_aload_n C dL_law_914 rfl rfl ?_
      refine q_iconst (v := 0) C dL_law_915 (by decide) ?_
      refine q_lald C dL_law_916 ?_
      refine q_iload C dL_law_917 rfl ?_
      refine q_if_eq (tgt := 926) C dL_law_919 (by decide) (fun h9 => absurd h9 (by decide)) (fun _ => ?_)
      refine q_lconst (v := 1) C dL_law_922 rfl ?_
      refine q_goto (tgt := 927) C dL_law_923 (by decide) ?_
      refine q_lcmpE C (by rw [show w = 1 from ht.2]; rfl) dL_law_927 ?_
      refine q_if_eq (tgt := 933) C dL_law_928 (by decide) (fun _ => ?_) (fun h9 => absurd h9 (by decide))
      refine q_goto (tgt := 2016) C dL_law_933 (by decide) ?_
      exact q_Vsub (kk _) (fun q hq => by simp only [List.mem_cons, List.not_mem_nil, or_false] at hq ⊢; rcases hq with h | h | h | h | h | h <;> simp [h])
  · refine q_aload_n C dL_law_873 rfl rfl ?_
    refine q_aload_n C dL_law_874 rfl rfl ?_
    refine q_iload C dL_law_875 rfl ?_
    refine q_iconst (v := 1) C dL_law_877 (by decide) ?_
    refine q_iaddN (a := i) (b := 1) C dL_law_878 rfl rfl ?_
    refine q_sld (j := i + 1) C (hC.2.2 _ _) rfl (by omega) hn dL_law_879 ?_
    refine q_aload_n C dL_law_880 rfl rfl ?_
    refine q_lwi3 (hC.2.1 _ _) C (hC.1 _ _ (by omega)) hw mwL_wouldSeal mlL_166 ⟨by decide, by decide⟩ (Nat.le_of_ble_eq_true rfl) dL_law_881 ?_
    show q_V l (q_KL K ((fun L9 : q_L => L9) L) (a + 6)) 884 [(5, .int (nI i)), (4, .ref 121), (3, .ref 120), (2, .ref 112), (1, .ref 0), (0, .ref 300)] [.int (uWc [xENs, xEIs] E)] S1
    have C := hC.1 ((fun L9 : q_L => L9) L) (a + 6) (by omega)
    refine q_istore (lv' := [(6, .int (uWc [xENs, xEIs] E)), (5, .int (nI i)), (4, .ref 121), (3, .ref 120), (2, .ref 112), (1, .ref 0), (0, .ref 300)]) C dL_law_884 (by decide) rfl ?_
    refine q_aload_n C dL_law_886 rfl rfl ?_
    refine q_aload_n C dL_law_887 rfl rfl ?_
    refine q_iload C dL_law_888 rfl ?_
    refine q_iconst (v := 1) C dL_law_890 (by decide) ?_
    refine q_iaddN (a := i) (b := 1) C dL_law_891 rfl rfl ?_
    refine q_sld (j := i + 1) C (hC.2.2 _ _) rfl (by omega) hn dL_law_892 ?_
    refine q_ci1 C hm myX7_wouldSeal mlL_168 q_s112 ⟨by decide, by decide⟩ (Nat.le_of_ble_eq_true rfl) dL_law_893 ?_
    refine q_istore (lv' := [(7, .int v), (6, .int (uWc [xENs, xEIs] E)), (5, .int (nI i)), (4, .ref 121), (3, .ref 120), (2, .ref 112), (1, .ref 0), (0, .ref 300)]) C dL_law_896 (by decide) rfl ?_
    refine q_aload_n C dL_law_898 rfl rfl ?_
    refine q_ci0 C (q_Fi.cv (v' := (uWc [xENs, xEIs] E)) ht.1 (c_X7_thrown l S2)) myX7_thrown mlL_125 q_s112 ⟨by decide, by decide⟩ (Nat.le_of_ble_eq_true rfl) dL_law_899 ?_
    refine q_iload C dL_law_902 rfl ?_
    refine q_icmp_eq (tgt := 909) C dL_law_904 (by decide) (fun _ => ?_) (fun h9 => absurd rfl h9)
    refine q_iload C dL_law_909 rfl ?_
    refine q_if_ne (tgt := 933) C dL_law_911 (by decide) (fun _ => ?_) (fun h9 => absurd h9 ht.2)
    refine q_goto (tgt := 2016) C dL_law_933 (by decide) ?_
    exact q_Vsub (kk _) (fun q hq => by simp only [List.mem_cons, List.not_mem_nil, or_false] at hq ⊢; rcases hq with h | h | h | h | h | h <;> simp [h])
theorem law_sleep (l : Launch) (K : q_K) (b n : Nat) (xs : Nat → Int32) (hC : q_LC l K b n xs) (L : q_L) (a i : Nat) (S S1 S2 : q_St) (ha : a + 6 ≤ 3072) (hi : i + 3 < n) (hn : n < 2 ^ 31) (o1 : Int32 ⊕ String) (v : Int32) (hw : q_Fw l yL_sleep kL_sleep [.ref 0, .int (xs (i + 1)), .ref 120] S (uW [xEIo, xEUn] (o1, S1))) (hm : q_Fi l yX7_sleep kX7_sleep 4 [.ref 112, .int (xs (i + 1))] S1 v S2) (ht : uW_ok [xEIo, xEUn] o1 v (S2 112 6)) (kk : ∀ L9 : q_L, q_V l (q_KL K L9 (a + 6)) 2016 (q_lvL i) [] S2) : q_V l (q_KL K L a) 936 (q_lvL i) [] S := by
  have C := hC.1 L a (by omega)
  rcases o1 with w | E
  · refine q_aload_n C dL_law_936 rfl rfl ?_
    refine q_aload_n C dL_law_937 rfl rfl ?_
    refine q_iload C dL_law_938 rfl ?_
    refine q_iconst (v := 1) C dL_law_940 (by decide) ?_
    refine q_iaddN (a := i) (b := 1) C dL_law_941 rfl rfl ?_
    refine q_sld (j := i + 1) C (hC.2.2 _ _) rfl (by omega) hn dL_law_942 ?_
    refine q_aload_n C dL_law_943 rfl rfl ?_
    refine q_lwi3 (hC.2.1 _ _) C (hC.1 _ _ (by omega)) hw mwL_sleep mlL_169 ⟨by decide, by decide⟩ (Nat.le_of_ble_eq_true rfl) dL_law_944 ?_
    show q_V l (q_KL K ((fun L9 : q_L => (vp_updL L9.1 0 w.toInt64, L9.2)) L) (a + 6)) 947 [(5, .int (nI i)), (4, .ref 121), (3, .ref 120), (2, .ref 112), (1, .ref 0), (0, .ref 300)] [.int 0] S1
    have C := hC.1 ((fun L9 : q_L => (vp_updL L9.1 0 w.toInt64, L9.2)) L) (a + 6) (by omega)
    refine q_istore (lv' := [(6, .int 0), (5, .int (nI i)), (4, .ref 121), (3, .ref 120), (2, .ref 112), (1, .ref 0), (0, .ref 300)]) C dL_law_947 (by decide) rfl ?_
    refine q_aload_n C dL_law_949 rfl rfl ?_
    refine q_aload_n C dL_law_950 rfl rfl ?_
    refine q_iload C dL_law_951 rfl ?_
    refine q_iconst (v := 1) C dL_law_953 (by decide) ?_
    refine q_iaddN (a := i) (b := 1) C dL_law_954 rfl rfl ?_
    refine q_sld (j := i + 1) C (hC.2.2 _ _) rfl (by omega) hn dL_law_955 ?_
    refine q_ci1 C hm myX7_sleep mlL_171 q_s112 ⟨by decide, by decide⟩ (Nat.le_of_ble_eq_true rfl) dL_law_956 ?_
    refine q_istore (lv' := [(7, .int v), (6, .int 0), (5, .int (nI i)), (4, .ref 121), (3, .ref 120), (2, .ref 112), (1, .ref 0), (0, .ref 300)]) C dL_law_959 (by decide) rfl ?_
    refine q_aload_n C dL_law_961 rfl rfl ?_
    refine q_ci0 C (q_Fi.cv (v' := 0) ht.1 (c_X7_thrown l S2)) myX7_thrown mlL_125 q_s112 ⟨by decide, by decide⟩ (Nat.le_of_ble_eq_true rfl) dL_law_962 ?_
    refine q_iload C dL_law_965 rfl ?_
    refine q_icmp_eq (tgt := 972) C dL_law_967 (by decide) (fun _ => ?_) (fun h9 => absurd rfl h9)
    refine q_iload C dL_law_972 rfl ?_
    refine q_if_ne (tgt := 989) C dL_law_974 (by decide) (fun h9 => absurd h9 (by decide)) (fun _ => ?_)
    refine q_aload_n C dL_law_977 rfl rfl ?_
    refine q_iconst (v := 0) C dL_law_978 (by decide) ?_
    refine q_lald C dL_law_979 ?_
    refine q_iload C dL_law_980 rfl ?_
    refine q_i2l C dL_law_982 ?_
    refine q_lcmpE C (by rw [show v = w from ht.2.symm]; rfl) dL_law_983 ?_
    refine q_if_eq (tgt := 989) C dL_law_984 (by decide) (fun _ => ?_) (fun h9 => absurd h9 (by decide))
    refine q_goto (tgt := 2016) C dL_law_989 (by decide) ?_
    exact q_Vsub (kk _) (fun q hq => by simp only [List.mem_cons, List.not_mem_nil, or_false] at hq ⊢; rcases hq with h | h | h | h | h | h <;> simp [h])
  · refine q_aload_n C dL_law_936 rfl rfl ?_
    refine q_aload_n C dL_law_937 rfl rfl ?_
    refine q_iload C dL_law_938 rfl ?_
    refine q_iconst (v := 1) C dL_law_940 (by decide) ?_
    refine q_iaddN (a := i) (b := 1) C dL_law_941 rfl rfl ?_
    refine q_sld (j := i + 1) C (hC.2.2 _ _) rfl (by omega) hn dL_law_942 ?_
    refine q_aload_n C dL_law_943 rfl rfl ?_
    refine q_lwi3 (hC.2.1 _ _) C (hC.1 _ _ (by omega)) hw mwL_sleep mlL_169 ⟨by decide, by decide⟩ (Nat.le_of_ble_eq_true rfl) dL_law_944 ?_
    show q_V l (q_KL K ((fun L9 : q_L => L9) L) (a + 6)) 947 [(5, .int (nI i)), (4, .ref 121), (3, .ref 120), (2, .ref 112), (1, .ref 0), (0, .ref 300)] [.int (uWc [xEIo, xEUn] E)] S1
    have C := hC.1 ((fun L9 : q_L => L9) L) (a + 6) (by omega)
    refine q_istore (lv' := [(6, .int (uWc [xEIo, xEUn] E)), (5, .int (nI i)), (4, .ref 121), (3, .ref 120), (2, .ref 112), (1, .ref 0), (0, .ref 300)]) C dL_law_947 (by decide) rfl ?_
    refine q_aload_n C dL_law_949 rfl rfl ?_
    refine q_aload_n C dL_law_950 rfl rfl ?_
    refine q_iload C dL_law_951 rfl ?_
    refine q_iconst (v := 1) C dL_law_953 (by decide) ?_
    refine q_iaddN (a := i) (b := 1) C dL_law_954 rfl rfl ?_
    refine q_sld (j := i + 1) C (hC.2.2 _ _) rfl (by omega) hn dL_law_955 ?_
    refine q_ci1 C hm myX7_sleep mlL_171 q_s112 ⟨by decide, by decide⟩ (Nat.le_of_ble_eq_true rfl) dL_law_956 ?_
    refine q_istore (lv' := [(7, .int v), (6, .int (uWc [xEIo, xEUn] E)), (5, .int (nI i)), (4, .ref 121), (3, .ref 120), (2, .ref 112), (1, .ref 0), (0, .ref 300)]) C dL_law_959 (by decide) rfl ?_
    refine q_aload_n C dL_law_961 rfl rfl ?_
    refine q_ci0 C (q_Fi.cv (v' := (uWc [xEIo, xEUn] E)) ht.1 (c_X7_thrown l S2)) myX7_thrown mlL_125 q_s112 ⟨by decide, by decide⟩ (Nat.le_of_ble_eq_true rfl) dL_law_962 ?_
    refine q_iload C dL_law_965 rfl ?_
    refine q_icmp_eq (tgt := 972) C dL_law_967 (by decide) (fun _ => ?_) (fun h9 => absurd rfl h9)
    refine q_iload C dL_law_972 rfl ?_
    refine q_if_ne (tgt := 989) C dL_law_974 (by decide) (fun _ => ?_) (fun h9 => absurd h9 ht.2)
    refine q_goto (tgt := 2016) C dL_law_989 (by decide) ?_
    exact q_Vsub (kk _) (fun q hq => by simp only [List.mem_cons, List.not_mem_nil, or_false] at hq ⊢; rcases hq with h | h | h | h | h | h <;> simp [h])
theorem law_rouse (l : Launch) (K : q_K) (b n : Nat) (xs : Nat → Int32) (hC : q_LC l K b n xs) (L : q_L) (a i : Nat) (S S1 S2 : q_St) (ha : a + 6 ≤ 3072) (hi : i + 3 < n) (hn : n < 2 ^ 31) (o1 : Int32 ⊕ String) (v : Int32) (hw : q_Fw l yL_rouse kL_rouse [.ref 0, .int (xs (i + 1)), .ref 120] S (uW [xEIo, xEUn] (o1, S1))) (hm : q_Fi l yX7_rouse kX7_rouse 4 [.ref 112, .int (xs (i + 1))] S1 v S2) (ht : uW_ok [xEIo, xEUn] o1 v (S2 112 6)) (kk : ∀ L9 : q_L, q_V l (q_KL K L9 (a + 6)) 2016 (q_lvL i) [] S2) : q_V l (q_KL K L a) 992 (q_lvL i) [] S := by
  have C := hC.1 L a (by omega)
  rcases o1 with w | E
  · refine q_aload_n C dL_law_992 rfl rfl ?_
    refine q_aload_n C dL_law_993 rfl rfl ?_
    refine q_iload C dL_law_994 rfl ?_
    refine q_iconst (v := 1) C dL_law_996 (by decide) ?_
    refine q_iaddN (a := i) (b := 1) C dL_law_997 rfl rfl ?_
    refine q_sld (j := i + 1) C (hC.2.2 _ _) rfl (by omega) hn dL_law_998 ?_
    refine q_aload_n C dL_law_999 rfl rfl ?_
    refine q_lwi3 (hC.2.1 _ _) C (hC.1 _ _ (by omega)) hw mwL_rouse mlL_172 ⟨by decide, by decide⟩ (Nat.le_of_ble_eq_true rfl) dL_law_1000 ?_
    show q_V l (q_KL K ((fun L9 : q_L => (vp_updL L9.1 0 w.toInt64, L9.2)) L) (a + 6)) 1003 [(5, .int (nI i)), (4, .ref 121), (3, .ref 120), (2, .ref 112), (1, .ref 0), (0, .ref 300)] [.int 0] S1
    have C := hC.1 ((fun L9 : q_L => (vp_updL L9.1 0 w.toInt64, L9.2)) L) (a + 6) (by omega)
    refine q_istore (lv' := [(6, .int 0), (5, .int (nI i)), (4, .ref 121), (3, .ref 120), (2, .ref 112), (1, .ref 0), (0, .ref 300)]) C dL_law_1003 (by decide) rfl ?_
    refine q_aload_n C dL_law_1005 rfl rfl ?_
    refine q_aload_n C dL_law_1006 rfl rfl ?_
    refine q_iload C dL_law_1007 rfl ?_
    refine q_iconst (v := 1) C dL_law_1009 (by decide) ?_
    refine q_iaddN (a := i) (b := 1) C dL_law_1010 rfl rfl ?_
    refine q_sld (j := i + 1) C (hC.2.2 _ _) rfl (by omega) hn dL_law_1011 ?_
    refine q_ci1 C hm myX7_rouse mlL_174 q_s112 ⟨by decide, by decide⟩ (Nat.le_of_ble_eq_true rfl) dL_law_1012 ?_
    refine q_istore (lv' := [(7, .int v), (6, .int 0), (5, .int (nI i)), (4, .ref 121), (3, .ref 120), (2, .ref 112), (1, .ref 0), (0, .ref 300)]) C dL_law_1015 (by decide) rfl ?_
    refine q_aload_n C dL_law_1017 rfl rfl ?_
    refine q_ci0 C (q_Fi.cv (v' := 0) ht.1 (c_X7_thrown l S2)) myX7_thrown mlL_125 q_s112 ⟨by decide, by decide⟩ (Nat.le_of_ble_eq_true rfl) dL_law_1018 ?_
    refine q_iload C dL_law_1021 rfl ?_
    refine q_icmp_eq (tgt := 1028) C dL_law_1023 (by decide) (fun _ => ?_) (fun h9 => absurd rfl h9)
    refine q_iload C dL_law_1028 rfl ?_
    refine q_if_ne (tgt := 1045) C dL_law_1030 (by decide) (fun h9 => absurd h9 (by decide)) (fun _ => ?_)
    refine q_aload_n C dL_law_1033 rfl rfl ?_
    refine q_iconst (v := 0) C dL_law_1034 (by decide) ?_
    refine q_lald C dL_law_1035 ?_
    refine q_iload C dL_law_1036 rfl ?_
    refine q_i2l C dL_law_1038 ?_
    refine q_lcmpE C (by rw [show v = w from ht.2.symm]; rfl) dL_law_1039 ?_
    refine q_if_eq (tgt := 1045) C dL_law_1040 (by decide) (fun _ => ?_) (fun h9 => absurd h9 (by decide))
    refine q_goto (tgt := 2016) C dL_law_1045 (by decide) ?_
    exact q_Vsub (kk _) (fun q hq => by simp only [List.mem_cons, List.not_mem_nil, or_false] at hq ⊢; rcases hq with h | h | h | h | h | h <;> simp [h])
  · refine q_aload_n C dL_law_992 rfl rfl ?_
    refine q_aload_n C dL_law_993 rfl rfl ?_
    refine q_iload C dL_law_994 rfl ?_
    refine q_iconst (v := 1) C dL_law_996 (by decide) ?_
    refine q_iaddN (a := i) (b := 1) C dL_law_997 rfl rfl ?_
    refine q_sld (j := i + 1) C (hC.2.2 _ _) rfl (by omega) hn dL_law_998 ?_
    refine q_aload_n C dL_law_999 rfl rfl ?_
    refine q_lwi3 (hC.2.1 _ _) C (hC.1 _ _ (by omega)) hw mwL_rouse mlL_172 ⟨by decide, by decide⟩ (Nat.le_of_ble_eq_true rfl) dL_law_1000 ?_
    show q_V l (q_KL K ((fun L9 : q_L => L9) L) (a + 6)) 1003 [(5, .int (nI i)), (4, .ref 121), (3, .ref 120), (2, .ref 112), (1, .ref 0), (0, .ref 300)] [.int (uWc [xEIo, xEUn] E)] S1
    have C := hC.1 ((fun L9 : q_L => L9) L) (a + 6) (by omega)
    refine q_istore (lv' := [(6, .int (uWc [xEIo, xEUn] E)), (5, .int (nI i)), (4, .ref 121), (3, .ref 120), (2, .ref 112), (1, .ref 0), (0, .ref 300)]) C dL_law_1003 (by decide) rfl ?_
    refine q_aload_n C dL_law_1005 rfl rfl ?_
    refine q_aload_n C dL_law_1006 rfl rfl ?_
    refine q_iload C dL_law_1007 rfl ?_
    refine q_iconst (v := 1) C dL_law_1009 (by decide) ?_
    refine q_iaddN (a := i) (b := 1) C dL_law_1010 rfl rfl ?_
    refine q_sld (j := i + 1) C (hC.2.2 _ _) rfl (by omega) hn dL_law_1011 ?_
    refine q_ci1 C hm myX7_rouse mlL_174 q_s112 ⟨by decide, by decide⟩ (Nat.le_of_ble_eq_true rfl) dL_law_1012 ?_
    refine q_istore (lv' := [(7, .int v), (6, .int (uWc [xEIo, xEUn] E)), (5, .int (nI i)), (4, .ref 121), (3, .ref 120), (2, .ref 112), (1, .ref 0), (0, .ref 300)]) C dL_law_1015 (by decide) rfl ?_
    refine q_aload_n C dL_law_1017 rfl rfl ?_
    refine q_ci0 C (q_Fi.cv (v' := (uWc [xEIo, xEUn] E)) ht.1 (c_X7_thrown l S2)) myX7_thrown mlL_125 q_s112 ⟨by decide, by decide⟩ (Nat.le_of_ble_eq_true rfl) dL_law_1018 ?_
    refine q_iload C dL_law_1021 rfl ?_
    refine q_icmp_eq (tgt := 1028) C dL_law_1023 (by decide) (fun _ => ?_) (fun h9 => absurd rfl h9)
    refine q_iload C dL_law_1028 rfl ?_
    refine q_if_ne (tgt := 1045) C dL_law_1030 (by decide) (fun _ => ?_) (fun h9 => absurd h9 ht.2)
    refine q_goto (tgt := 2016) C dL_law_1045 (by decide) ?_
    exact q_Vsub (kk _) (fun q hq => by simp only [List.mem_cons, List.not_mem_nil, or_false] at hq ⊢; rcases hq with h | h | h | h | h | h <;> simp [h])
theorem law_inquire (l : Launch) (K : q_K) (b n : Nat) (xs : Nat → Int32) (hC : q_LC l K b n xs) (L : q_L) (a i : Nat) (S S1 S2 : q_St) (ha : a + 6 ≤ 3072) (hi : i + 3 < n) (hn : n < 2 ^ 31) (o1 : Int32 ⊕ String) (v : Int32) (hw : q_Fw l yL_inquire kL_inquire [.ref 0, .int (xs (i + 1)), .int (xs (i + 2)), .int (xs (i + 3)), .ref 120] S (uW [xENs, xEIo, xEUn] (o1, S1))) (hm : q_Fi l yX7_inquire kX7_inquire 5 [.ref 112, .int (xs (i + 1)), .int (xs (i + 2)), .int (xs (i + 3))] S1 v S2) (ht : uW_ok [xENs, xEIo, xEUn] o1 v (S2 112 6)) (kk : ∀ L9 : q_L, q_V l (q_KL K L9 (a + 6)) 2016 (q_lvL i) [] S2) : q_V l (q_KL K L a) 1048 (q_lvL i) [] S := by
  have C := hC.1 L a (by omega)
  rcases o1 with w | E
  · refine q_aload_n C dL_law_1048 rfl rfl ?_
    refine q_aload_n C dL_law_1049 rfl rfl ?_
    refine q_iload C dL_law_1050 rfl ?_
    refine q_iconst (v := 1) C dL_law_1052 (by decide) ?_
    refine q_iaddN (a := i) (b := 1) C dL_law_1053 rfl rfl ?_
    refine q_sld (j := i + 1) C (hC.2.2 _ _) rfl (by omega) hn dL_law_1054 ?_
    refine q_aload_n C dL_law_1055 rfl rfl ?_
    refine q_iload C dL_law_1056 rfl ?_
    refine q_iconst (v := 2) C dL_law_1058 (by decide) ?_
    refine q_iaddN (a := i) (b := 2) C dL_law_1059 rfl rfl ?_
    refine q_sld (j := i + 2) C (hC.2.2 _ _) rfl (by omega) hn dL_law_1060 ?_
    refine q_aload_n C dL_law_1061 rfl rfl ?_
    refine q_iload C dL_law_1062 rfl ?_
    refine q_iconst (v := 3) C dL_law_1064 (by decide) ?_
    refine q_iaddN (a := i) (b := 3) C dL_law_1065 rfl rfl ?_
    refine q_sld (j := i + 3) C (hC.2.2 _ _) rfl (by omega) hn dL_law_1066 ?_
    refine q_aload_n C dL_law_1067 rfl rfl ?_
    refine q_lwi5 (hC.2.1 _ _) C (hC.1 _ _ (by omega)) hw mwL_inquire mlL_175 ⟨by decide, by decide⟩ (Nat.le_of_ble_eq_true rfl) dL_law_1068 ?_
    show q_V l (q_KL K ((fun L9 : q_L => (vp_updL L9.1 0 w.toInt64, L9.2)) L) (a + 6)) 1071 [(5, .int (nI i)), (4, .ref 121), (3, .ref 120), (2, .ref 112), (1, .ref 0), (0, .ref 300)] [.int 0] S1
    have C := hC.1 ((fun L9 : q_L => (vp_updL L9.1 0 w.toInt64, L9.2)) L) (a + 6) (by omega)
    refine q_istore (lv' := [(6, .int 0), (5, .int (nI i)), (4, .ref 121), (3, .ref 120), (2, .ref 112), (1, .ref 0), (0, .ref 300)]) C dL_law_1071 (by decide) rfl ?_
    refine q_aload_n C dL_law_1073 rfl rfl ?_
    refine q_aload_n C dL_law_1074 rfl rfl ?_
    refine q_iload C dL_law_1075 rfl ?_
    refine q_iconst (v := 1) C dL_law_1077 (by decide) ?_
    refine q_iaddN (a := i) (b := 1) C dL_law_1078 rfl rfl ?_
    refine q_sld (j := i + 1) C (hC.2.2 _ _) rfl (by omega) hn dL_law_1079 ?_
    refine q_aload_n C dL_law_1080 rfl rfl ?_
    refine q_iload C dL_law_1081 rfl ?_
    refine q_iconst (v := 2) C dL_law_1083 (by decide) ?_
    refine q_iaddN (a := i) (b := 2) C dL_law_1084 rfl rfl ?_
    refine q_sld (j := i + 2) C (hC.2.2 _ _) rfl (by omega) hn dL_law_1085 ?_
    refine q_aload_n C dL_law_1086 rfl rfl ?_
    refine q_iload C dL_law_1087 rfl ?_
    refine q_iconst (v := 3) C dL_law_1089 (by decide) ?_
    refine q_iaddN (a := i) (b := 3) C dL_law_1090 rfl rfl ?_
    refine q_sld (j := i + 3) C (hC.2.2 _ _) rfl (by omega) hn dL_law_1091 ?_
    refine q_ci3 C hm myX7_inquire mlL_177 q_s112 ⟨by decide, by decide⟩ (Nat.le_of_ble_eq_true rfl) dL_law_1092 ?_
    refine q_istore (lv' := [(7, .int v), (6, .int 0), (5, .int (nI i)), (4, .ref 121), (3, .ref 120), (2, .ref 112), (1, .ref 0), (0, .ref 300)]) C dL_law_1095 (by decide) rfl ?_
    refine q_aload_n C dL_law_1097 rfl rfl ?_
    refine q_ci0 C (q_Fi.cv (v' := 0) ht.1 (c_X7_thrown l S2)) myX7_thrown mlL_125 q_s112 ⟨by decide, by decide⟩ (Nat.le_of_ble_eq_true rfl) dL_law_1098 ?_
    refine q_iload C dL_law_1101 rfl ?_
    refine q_icmp_eq (tgt := 1108) C dL_law_1103 (by decide) (fun _ => ?_) (fun h9 => absurd rfl h9)
    refine q_iload C dL_law_1108 rfl ?_
    refine q_if_ne (tgt := 1125) C dL_law_1110 (by decide) (fun h9 => absurd h9 (by decide)) (fun _ => ?_)
    refine q_aload_n C dL_law_1113 rfl rfl ?_
    refine q_iconst (v := 0) C dL_law_1114 (by decide) ?_
    refine q_lald C dL_law_1115 ?_
    refine q_iload C dL_law_1116 rfl ?_
    refine q_i2l C dL_law_1118 ?_
    refine q_lcmpE C (by rw [show v = w from ht.2.symm]; rfl) dL_law_1119 ?_
    refine q_if_eq (tgt := 1125) C dL_law_1120 (by decide) (fun _ => ?_) (fun h9 => absurd h9 (by decide))
    refine q_goto (tgt := 2016) C dL_law_1125 (by decide) ?_
    exact q_Vsub (kk _) (fun q hq => by simp only [List.mem_cons, List.not_mem_nil, or_false] at hq ⊢; rcases hq with h | h | h | h | h | h <;> simp [h])
  · refine q_aload_n C dL_law_1048 rfl rfl ?_
    refine q_aload_n C dL_law_1049 rfl rfl ?_
    refine q_iload C dL_law_1050 rfl ?_
    refine q_iconst (v := 1) C dL_law_1052 (by decide) ?_
    refine q_iaddN (a := i) (b := 1) C dL_law_1053 rfl rfl ?_
    refine q_sld (j := i + 1) C (hC.2.2 _ _) rfl (by omega) hn dL_law_1054 ?_
    refine q_aload_n C dL_law_1055 rfl rfl ?_
    refine q_iload C dL_law_1056 rfl ?_
    refine q_iconst (v := 2) C dL_law_1058 (by decide) ?_
    refine q_iaddN (a := i) (b := 2) C dL_law_1059 rfl rfl ?_
    refine q_sld (j := i + 2) C (hC.2.2 _ _) rfl (by omega) hn dL_law_1060 ?_
    refine q_aload_n C dL_law_1061 rfl rfl ?_
    refine q_iload C dL_law_1062 rfl ?_
    refine q_iconst (v := 3) C dL_law_1064 (by decide) ?_
    refine q_iaddN (a := i) (b := 3) C dL_law_1065 rfl rfl ?_
    refine q_sld (j := i + 3) C (hC.2.2 _ _) rfl (by omega) hn dL_law_1066 ?_
    refine q_aload_n C dL_law_1067 rfl rfl ?_
    refine q_lwi5 (hC.2.1 _ _) C (hC.1 _ _ (by omega)) hw mwL_inquire mlL_175 ⟨by decide, by decide⟩ (Nat.le_of_ble_eq_true rfl) dL_law_1068 ?_
    show q_V l (q_KL K ((fun L9 : q_L => L9) L) (a + 6)) 1071 [(5, .int (nI i)), (4, .ref 121), (3, .ref 120), (2, .ref 112), (1, .ref 0), (0, .ref 300)] [.int (uWc [xENs, xEIo, xEUn] E)] S1
    have C := hC.1 ((fun L9 : q_L => L9) L) (a + 6) (by omega)
    refine q_istore (lv' := [(6, .int (uWc [xENs, xEIo, xEUn] E)), (5, .int (nI i)), (4, .ref 121), (3, .ref 120), (2, .ref 112), (1, .ref 0), (0, .ref 300)]) C dL_law_1071 (by decide) rfl ?_
    refine q_aload_n C dL_law_1073 rfl rfl ?_
    refine q_aload_n C dL_law_1074 rfl rfl ?_
    refine q_iload C dL_law_1075 rfl ?_
    refine q_iconst (v := 1) C dL_law_1077 (by decide) ?_
    refine q_iaddN (a := i) (b := 1) C dL_law_1078 rfl rfl ?_
    refine q_sld (j := i + 1) C (hC.2.2 _ _) rfl (by omega) hn dL_law_1079 ?_
    refine q_aload_n C dL_law_1080 rfl rfl ?_
    refine q_iload C dL_law_1081 rfl ?_
    refine q_iconst (v := 2) C dL_law_1083 (by decide) ?_
    refine q_iaddN (a := i) (b := 2) C dL_law_1084 rfl rfl ?_
    refine q_sld (j := i + 2) C (hC.2.2 _ _) rfl (by omega) hn dL_law_1085 ?_
    refine q_aload_n C dL_law_1086 rfl rfl ?_
    refine q_iload C dL_law_1087 rfl ?_
    refine q_iconst (v := 3) C dL_law_1089 (by decide) ?_
    refine q_iaddN (a := i) (b := 3) C dL_law_1090 rfl rfl ?_
    refine q_sld (j := i + 3) C (hC.2.2 _ _) rfl (by omega) hn dL_law_1091 ?_
    refine q_ci3 C hm myX7_inquire mlL_177 q_s112 ⟨by decide, by decide⟩ (Nat.le_of_ble_eq_true rfl) dL_law_1092 ?_
    refine q_istore (lv' := [(7, .int v), (6, .int (uWc [xENs, xEIo, xEUn] E)), (5, .int (nI i)), (4, .ref 121), (3, .ref 120), (2, .ref 112), (1, .ref 0), (0, .ref 300)]) C dL_law_1095 (by decide) rfl ?_
    refine q_aload_n C dL_law_1097 rfl rfl ?_
    refine q_ci0 C (q_Fi.cv (v' := (uWc [xENs, xEIo, xEUn] E)) ht.1 (c_X7_thrown l S2)) myX7_thrown mlL_125 q_s112 ⟨by decide, by decide⟩ (Nat.le_of_ble_eq_true rfl) dL_law_1098 ?_
    refine q_iload C dL_law_1101 rfl ?_
    refine q_icmp_eq (tgt := 1108) C dL_law_1103 (by decide) (fun _ => ?_) (fun h9 => absurd rfl h9)
    refine q_iload C dL_law_1108 rfl ?_
    refine q_if_ne (tgt := 1125) C dL_law_1110 (by decide) (fun _ => ?_) (fun h9 => absurd h9 ht.2)
    refine q_goto (tgt := 2016) C dL_law_1125 (by decide) ?_
    exact q_Vsub (kk _) (fun q hq => by simp only [List.mem_cons, List.not_mem_nil, or_false] at hq ⊢; rcases hq with h | h | h | h | h | h <;> simp [h])
theorem law_guildOf (l : Launch) (K : q_K) (b n : Nat) (xs : Nat → Int32) (hC : q_LC l K b n xs) (L : q_L) (a i : Nat) (S S1 S2 : q_St) (ha : a + 6 ≤ 3072) (hi : i + 3 < n) (hn : n < 2 ^ 31) (o1 : Int32 ⊕ String) (v : Int32) (hw : q_Fw l yL_guildOf kL_guildOf [.ref 0, .int (xs (i + 1)), .int (xs (i + 2)), .ref 120] S (uW [xEIo, xEIa] (o1, S1))) (hm : q_Fi l yX7_guildOf kX7_guildOf 4 [.ref 112, .int (xs (i + 1)), .int (xs (i + 2))] S1 v S2) (ht : uW_ok [xEIo, xEIa] o1 v (S2 112 6)) (kk : ∀ L9 : q_L, q_V l (q_KL K L9 (a + 6)) 2016 (q_lvL i) [] S2) : q_V l (q_KL K L a) 1128 (q_lvL i) [] S := by
  have C := hC.1 L a (by omega)
  rcases o1 with w | E
  · refine q_aload_n C dL_law_1128 rfl rfl ?_
    refine q_aload_n C dL_law_1129 rfl rfl ?_
    refine q_iload C dL_law_1130 rfl ?_
    refine q_iconst (v := 1) C dL_law_1132 (by decide) ?_
    refine q_iaddN (a := i) (b := 1) C dL_law_1133 rfl rfl ?_
    refine q_sld (j := i + 1) C (hC.2.2 _ _) rfl (by omega) hn dL_law_1134 ?_
    refine q_aload_n C dL_law_1135 rfl rfl ?_
    refine q_iload C dL_law_1136 rfl ?_
    refine q_iconst (v := 2) C dL_law_1138 (by decide) ?_
    refine q_iaddN (a := i) (b := 2) C dL_law_1139 rfl rfl ?_
    refine q_sld (j := i + 2) C (hC.2.2 _ _) rfl (by omega) hn dL_law_1140 ?_
    refine q_aload_n C dL_law_1141 rfl rfl ?_
    refine q_lwi4 (hC.2.1 _ _) C (hC.1 _ _ (by omega)) hw mwL_guildOf mlL_178 ⟨by decide, by decide⟩ (Nat.le_of_ble_eq_true rfl) dL_law_1142 ?_
    show q_V l (q_KL K ((fun L9 : q_L => (vp_updL L9.1 0 w.toInt64, L9.2)) L) (a + 6)) 1145 [(5, .int (nI i)), (4, .ref 121), (3, .ref 120), (2, .ref 112), (1, .ref 0), (0, .ref 300)] [.int 0] S1
    have C := hC.1 ((fun L9 : q_L => (vp_updL L9.1 0 w.toInt64, L9.2)) L) (a + 6) (by omega)
    refine q_istore (lv' := [(6, .int 0), (5, .int (nI i)), (4, .ref 121), (3, .ref 120), (2, .ref 112), (1, .ref 0), (0, .ref 300)]) C dL_law_1145 (by decide) rfl ?_
    refine q_aload_n C dL_law_1147 rfl rfl ?_
    refine q_aload_n C dL_law_1148 rfl rfl ?_
    refine q_iload C dL_law_1149 rfl ?_
    refine q_iconst (v := 1) C dL_law_1151 (by decide) ?_
    refine q_iaddN (a := i) (b := 1) C dL_law_1152 rfl rfl ?_
    refine q_sld (j := i + 1) C (hC.2.2 _ _) rfl (by omega) hn dL_law_1153 ?_
    refine q_aload_n C dL_law_1154 rfl rfl ?_
    refine q_iload C dL_law_1155 rfl ?_
    refine q_iconst (v := 2) C dL_law_1157 (by decide) ?_
    refine q_iaddN (a := i) (b := 2) C dL_law_1158 rfl rfl ?_
    refine q_sld (j := i + 2) C (hC.2.2 _ _) rfl (by omega) hn dL_law_1159 ?_
    refine q_ci2 C hm myX7_guildOf mlL_180 q_s112 ⟨by decide, by decide⟩ (Nat.le_of_ble_eq_true rfl) dL_law_1160 ?_
    refine q_istore (lv' := [(7, .int v), (6, .int 0), (5, .int (nI i)), (4, .ref 121), (3, .ref 120), (2, .ref 112), (1, .ref 0), (0, .ref 300)]) C dL_law_1163 (by decide) rfl ?_
    refine q_aload_n C dL_law_1165 rfl rfl ?_
    refine q_ci0 C (q_Fi.cv (v' := 0) ht.1 (c_X7_thrown l S2)) myX7_thrown mlL_125 q_s112 ⟨by decide, by decide⟩ (Nat.le_of_ble_eq_true rfl) dL_law_1166 ?_
    refine q_iload C dL_law_1169 rfl ?_
    refine q_icmp_eq (tgt := 1176) C dL_law_1171 (by decide) (fun _ => ?_) (fun h9 => absurd rfl h9)
    refine q_iload C dL_law_1176 rfl ?_
    refine q_if_ne (tgt := 1193) C dL_law_1178 (by decide) (fun h9 => absurd h9 (by decide)) (fun _ => ?_)
    refine q_aload_n C dL_law_1181 rfl rfl ?_
    refine q_iconst (v := 0) C dL_law_1182 (by decide) ?_
    refine q_lald C dL_law_1183 ?_
    refine q_iload C dL_law_1184 rfl ?_
    refine q_i2l C dL_law_1186 ?_
    refine q_lcmpE C (by rw [show v = w from ht.2.symm]; rfl) dL_law_1187 ?_
    refine q_if_eq (tgt := 1193) C dL_law_1188 (by decide) (fun _ => ?_) (fun h9 => absurd h9 (by decide))
    refine q_goto (tgt := 2016) C dL_law_1193 (by decide) ?_
    exact q_Vsub (kk _) (fun q hq => by simp only [List.mem_cons, List.not_mem_nil, or_false] at hq ⊢; rcases hq with h | h | h | h | h | h <;> simp [h])
  · refine q_aload_n C dL_law_1128 rfl rfl ?_
    refine q_aload_n C dL_law_1129 rfl rfl ?_
    refine q_iload C dL_law_1130 rfl ?_
    refine q_iconst (v := 1) C dL_law_1132 (by decide) ?_
    refine q_iaddN (a := i) (b := 1) C dL_law_1133 rfl rfl ?_
    refine q_sld (j := i + 1) C (hC.2.2 _ _) rfl (by omega) hn dL_law_1134 ?_
    refine q_aload_n C dL_law_1135 rfl rfl ?_
    refine q_iload C dL_law_1136 rfl ?_
    refine q_iconst (v := 2) C dL_law_1138 (by decide) ?_
    refine q_iaddN (a := i) (b := 2) C dL_law_1139 rfl rfl ?_
    refine q_sld (j := i + 2) C (hC.2.2 _ _) rfl (by omega) hn dL_law_1140 ?_
    refine q_aload_n C dL_law_1141 rfl rfl ?_
    refine q_lwi4 (hC.2.1 _ _) C (hC.1 _ _ (by omega)) hw mwL_guildOf mlL_178 ⟨by decide, by decide⟩ (Nat.le_of_ble_eq_true rfl) dL_law_1142 ?_
    show q_V l (q_KL K ((fun L9 : q_L => L9) L) (a + 6)) 1145 [(5, .int (nI i)), (4, .ref 121), (3, .ref 120), (2, .ref 112), (1, .ref 0), (0, .ref 300)] [.int (uWc [xEIo, xEIa] E)] S1
    have C := hC.1 ((fun L9 : q_L => L9) L) (a + 6) (by omega)
    refine q_istore (lv' := [(6, .int (uWc [xEIo, xEIa] E)), (5, .int (nI i)), (4, .ref 121), (3, .ref 120), (2, .ref 112), (1, .ref 0), (0, .ref 300)]) C dL_law_1145 (by decide) rfl ?_
    refine q_aload_n C dL_law_1147 rfl rfl ?_
    refine q_aload_n C dL_law_1148 rfl rfl ?_
    refine q_iload C dL_law_1149 rfl ?_
    refine q_iconst (v := 1) C dL_law_1151 (by decide) ?_
    refine q_iaddN (a := i) (b := 1) C dL_law_1152 rfl rfl ?_
    refine q_sld (j := i + 1) C (hC.2.2 _ _) rfl (by omega) hn dL_law_1153 ?_
    refine q_aload_n C dL_law_1154 rfl rfl ?_
    refine q_iload C dL_law_1155 rfl ?_
    refine q_iconst (v := 2) C dL_law_1157 (by decide) ?_
    refine q_iaddN (a := i) (b := 2) C dL_law_1158 rfl rfl ?_
    refine q_sld (j := i + 2) C (hC.2.2 _ _) rfl (by omega) hn dL_law_1159 ?_
    refine q_ci2 C hm myX7_guildOf mlL_180 q_s112 ⟨by decide, by decide⟩ (Nat.le_of_ble_eq_true rfl) dL_law_1160 ?_
    refine q_istore (lv' := [(7, .int v), (6, .int (uWc [xEIo, xEIa] E)), (5, .int (nI i)), (4, .ref 121), (3, .ref 120), (2, .ref 112), (1, .ref 0), (0, .ref 300)]) C dL_law_1163 (by decide) rfl ?_
    refine q_aload_n C dL_law_1165 rfl rfl ?_
    refine q_ci0 C (q_Fi.cv (v' := (uWc [xEIo, xEIa] E)) ht.1 (c_X7_thrown l S2)) myX7_thrown mlL_125 q_s112 ⟨by decide, by decide⟩ (Nat.le_of_ble_eq_true rfl) dL_law_1166 ?_
    refine q_iload C dL_law_1169 rfl ?_
    refine q_icmp_eq (tgt := 1176) C dL_law_1171 (by decide) (fun _ => ?_) (fun h9 => absurd rfl h9)
    refine q_iload C dL_law_1176 rfl ?_
    refine q_if_ne (tgt := 1193) C dL_law_1178 (by decide) (fun _ => ?_) (fun h9 => absurd h9 ht.2)
    refine q_goto (tgt := 2016) C dL_law_1193 (by decide) ?_
    exact q_Vsub (kk _) (fun q hq => by simp only [List.mem_cons, List.not_mem_nil, or_false] at hq ⊢; rcases hq with h | h | h | h | h | h <;> simp [h])
theorem law_canLearn (l : Launch) (K : q_K) (b n : Nat) (xs : Nat → Int32) (hC : q_LC l K b n xs) (L : q_L) (a i : Nat) (S S1 S2 : q_St) (ha : a + 6 ≤ 3072) (hi : i + 3 < n) (hn : n < 2 ^ 31) (o1 : Int32 ⊕ String) (v : Int32) (hw : q_Fw l yL_canLearn kL_canLearn [.ref 0, .int (xs (i + 1)), .int (uB (xs (i + 2))), .ref 120] S (uW [xEIo] (o1, S1))) (hm : q_Fi l yX7_canLearn kX7_canLearn 4 [.ref 112, .int (xs (i + 1)), .int (uB (xs (i + 2)))] S1 v S2) (ht : uW_ok [xEIo] o1 v (S2 112 6)) (hv : v = 0 ∨ v = 1) (kk : ∀ L9 : q_L, q_V l (q_KL K L9 (a + 6)) 2016 (q_lvL i) [] S2) : q_V l (q_KL K L a) 1196 (q_lvL i) [] S := by
  by_cases hz : xs (i + 2) = 0
  · rw [show uB (xs (i + 2)) = 0 from if_pos hz] at hw hm
    have C := hC.1 L a (by omega)
    rcases o1 with w | E
    · rcases hv with rfl | rfl
      · refine q_aload_n C dL_law_1196 rfl rfl ?_
        refine q_aload_n C dL_law_1197 rfl rfl ?_
        refine q_iload C dL_law_1198 rfl ?_
        refine q_iconst (v := 1) C dL_law_1200 (by decide) ?_
        refine q_iaddN (a := i) (b := 1) C dL_law_1201 rfl rfl ?_
        refine q_sld (j := i + 1) C (hC.2.2 _ _) rfl (by omega) hn dL_law_1202 ?_
        refine q_aload_n C dL_law_1203 rfl rfl ?_
        refine q_iload C dL_law_1204 rfl ?_
        refine q_iconst (v := 2) C dL_law_1206 (by decide) ?_
        refine q_iaddN (a := i) (b := 2) C dL_law_1207 rfl rfl ?_
        refine q_sld (j := i + 2) C (hC.2.2 _ _) rfl (by omega) hn dL_law_1208 ?_
        refine q_if_eq (tgt := 1216) C dL_law_1209 (by decide) (fun _ => ?_) (fun h9 => absurd hz h9)
        refine q_iconst (v := 0) C dL_law_1216 (by decide) ?_
        refine q_aload_n C dL_law_1217 rfl rfl ?_
        refine q_lwi4 (hC.2.1 _ _) C (hC.1 _ _ (by omega)) hw mwL_canLearn mlL_181 ⟨by decide, by decide⟩ (Nat.le_of_ble_eq_true rfl) dL_law_1218 ?_
        show q_V l (q_KL K ((fun L9 : q_L => (vp_updL L9.1 0 w.toInt64, L9.2)) L) (a + 6)) 1221 [(5, .int (nI i)), (4, .ref 121), (3, .ref 120), (2, .ref 112), (1, .ref 0), (0, .ref 300)] [.int 0] S1
        have C := hC.1 ((fun L9 : q_L => (vp_updL L9.1 0 w.toInt64, L9.2)) L) (a + 6) (by omega)
        refine q_istore (lv' := [(6, .int 0), (5, .int (nI i)), (4, .ref 121), (3, .ref 120), (2, .ref 112), (1, .ref 0), (0, .ref 300)]) C dL_law_1221 (by decide) rfl ?_
        refine q_aload_n C dL_law_1223 rfl rfl ?_
        refine q_aload_n C dL_law_1224 rfl rfl ?_
        refine q_iload C dL_law_1225 rfl ?_
        refine q_iconst (v := 1) C dL_law_1227 (by decide) ?_
        refine q_iaddN (a := i) (b := 1) C dL_law_1228 rfl rfl ?_
        refine q_sld (j := i + 1) C (hC.2.2 _ _) rfl (by omega) hn dL_law_1229 ?_
        refine q_aload_n C dL_law_1230 rfl rfl ?_
        refine q_iload C dL_law_1231 rfl ?_
        refine q_iconst (v := 2) C dL_law_1233 (by decide) ?_
        refine q_iaddN (a := i) (b := 2) C dL_law_1234 rfl rfl ?_
        refine q_sld (j := i + 2) C (hC.2.2 _ _) rfl (by omega) hn dL_law_1235 ?_
        refine q_if_eq (tgt := 1243) C dL_law_1236 (by decide) (fun _ => ?_) (fun h9 => absurd hz h9)
        refine q_iconst (v := 0) C dL_law_1243 (by decide) ?_
        refine q_ci2 C hm myX7_canLearn mlL_184 q_s112 ⟨by decide, by decide⟩ (Nat.le_of_ble_eq_true rfl) dL_law_1244 ?_
        refine q_istore (lv' := [(7, .int 0), (6, .int 0), (5, .int (nI i)), (4, .ref 121), (3, .ref 120), (2, .ref 112), (1, .ref 0), (0, .ref 300)]) C dL_law_1247 (by decide) rfl ?_
        refine q_aload_n C dL_law_1249 rfl rfl ?_
        refine q_ci0 C (q_Fi.cv (v' := 0) ht.1 (c_X7_thrown l S2)) myX7_thrown mlL_125 q_s112 ⟨by decide, by decide⟩ (Nat.le_of_ble_eq_true rfl) dL_law_1250 ?_
        refine q_iload C dL_law_1253 rfl ?_
        refine q_icmp_eq (tgt := 1260) C dL_law_1255 (by decide) (fun _ => ?_) (fun h9 => absurd rfl h9)
        refine q_iload C dL_law_1260 rfl ?_
        refine q_if_ne (tgt := 1284) C dL_law_1262 (by decide) (fun h9 => absurd h9 (by decide)) (fun _ => ?_)
        refine q_aload_n C dL_law_1265 rfl rfl ?_
        refine q_iconst (v := 0) C dL_law_1266 (by decide) ?_
        refine q_lald C dL_law_1267 ?_
        refine q_iload C dL_law_1268 rfl ?_
        refine q_if_eq (tgt := 1277) C dL_law_1270 (by decide) (fun _ => ?_) (fun h9 => absurd h9 (by decide))
        refine q_lconst (v := 0) C dL_law_1277 rfl ?_
        refine q_lcmpE C (by rw [show w = 0 from ht.2]; rfl) dL_law_1278 ?_
        refine q_if_eq (tgt := 1284) C dL_law_1279 (by decide) (fun _ => ?_) (fun h9 => absurd h9 (by decide))
        refine q_goto (tgt := 2016) C dL_law_1284 (by decide) ?_
        exact q_Vsub (kk _) (fun q hq => by simp only [List.mem_cons, List.not_mem_nil, or_false] at hq ⊢; rcases hq with h | h | h | h | h | h <;> simp [h])
      · refine q_aload_n C dL_law_1196 rfl rfl ?_
        refine q_aload_n C dL_law_1197 rfl rfl ?_
        refine q_iload C dL_law_1198 rfl ?_
        refine q_iconst (v := 1) C dL_law_1200 (by decide) ?_
        refine q_iaddN (a := i) (b := 1) C dL_law_1201 rfl rfl ?_
        refine q_sld (j := i + 1) C (hC.2.2 _ _) rfl (by omega) hn dL_law_1202 ?_
        refine q_aload_n C dL_law_1203 rfl rfl ?_
        refine q_iload C dL_law_1204 rfl ?_
        refine q_iconst (v := 2) C dL_law_1206 (by decide) ?_
        refine q_iaddN (a := i) (b := 2) C dL_law_1207 rfl rfl ?_
        refine q_sld (j := i + 2) C (hC.2.2 _ _) rfl (by omega) hn dL_law_1208 ?_
        refine q_if_eq (tgt := 1216) C dL_law_1209 (by decide) (fun _ => ?_) (fun h9 => absurd hz h9)
        refine q_iconst (v := 0) C dL_law_1216 (by decide) ?_
        refine q_aload_n C dL_law_1217 rfl rfl ?_
        refine q_lwi4 (hC.2.1 _ _) C (hC.1 _ _ (by omega)) hw mwL_canLearn mlL_181 ⟨by decide, by decide⟩ (Nat.le_of_ble_eq_true rfl) dL_law_1218 ?_
        show q_V l (q_KL K ((fun L9 : q_L => (vp_updL L9.1 0 w.toInt64, L9.2)) L) (a + 6)) 1221 [(5, .int (nI i)), (4, .ref 121), (3, .ref 120), (2, .ref 112), (1, .ref 0), (0, .ref 300)] [.int 0] S1
        have C := hC.1 ((fun L9 : q_L => (vp_updL L9.1 0 w.toInt64, L9.2)) L) (a + 6) (by omega)
        refine q_istore (lv' := [(6, .int 0), (5, .int (nI i)), (4, .ref 121), (3, .ref 120), (2, .ref 112), (1, .ref 0), (0, .ref 300)]) C dL_law_1221 (by decide) rfl ?_
        refine q_aload_n C dL_law_1223 rfl rfl ?_
        refine q_aload_n C dL_law_1224 rfl rfl ?_
        refine q_iload C dL_law_1225 rfl ?_
        refine q_iconst (v := 1) C dL_law_1227 (by decide) ?_
        refine q_iaddN (a := i) (b := 1) C dL_law_1228 rfl rfl ?_
        refine q_sld (j := i + 1) C (hC.2.2 _ _) rfl (by omega) hn dL_law_1229 ?_
        refine q_aload_n C dL_law_1230 rfl rfl ?_
        refine q_iload C dL_law_1231 rfl ?_
        refine q_iconst (v := 2) C dL_law_1233 (by decide) ?_
        refine q_iaddN (a := i) (b := 2) C dL_law_1234 rfl rfl ?_
        refine q_sld (j := i + 2) C (hC.2.2 _ _) rfl (by omega) hn dL_law_1235 ?_
        refine q_if_eq (tgt := 1243) C dL_law_1236 (by decide) (fun _ => ?_) (fun h9 => absurd hz h9)
        refine q_iconst (v := 0) C dL_law_1243 (by decide) ?_
        refine q_ci2 C hm myX7_canLearn mlL_184 q_s112 ⟨by decide, by decide⟩ (Nat.le_of_ble_eq_true rfl) dL_law_1244 ?_
        refine q_istore (lv' := [(7, .int 1), (6, .int 0), (5, .int (nI i)), (4, .ref 121), (3, .ref 120), (2, .ref 112), (1, .ref 0), (0, .ref 300)]) C dL_law_1247 (by decide) rfl ?_
        refine q_aload_n C dL_law_1249 rfl rfl ?_
        refine q_ci0 C (q_Fi.cv (v' := 0) ht.1 (c_X7_thrown l S2)) myX7_thrown mlL_125 q_s112 ⟨by decide, by decide⟩ (Nat.le_of_ble_eq_true rfl) dL_law_1250 ?_
        refine q_iload C dL_law_1253 rfl ?_
        refine q_icmp_eq (tgt := 1260) C dL_law_1255 (by decide) (fun _ => ?_) (fun h9 => absurd rfl h9)
        refine q_iload C dL_law_1260 rfl ?_
        refine q_if_ne (tgt := 1284) C dL_law_1262 (by decide) (fun h9 => absurd h9 (by decide)) (fun _ => ?_)
        refine q_aload_n C dL_law_1265 rfl rfl ?_
        refine q_iconst (v := 0) C dL_law_1266 (by decide) ?_
        refine q_lald C dL_law_1267 ?_
        refine q_iload C dL_law_1268 rfl ?_
        refine q_if_eq (tgt := 1277) C dL_law_1270 (by decide) (fun h9 => absurd h9 (by decide)) (fun _ => ?_)
        refine q_lconst (v := 1) C dL_law_1273 rfl ?_
        refine q_goto (tgt := 1278) C dL_law_1274 (by decide) ?_
        refine q_lcmpE C (by rw [show w = 1 from ht.2]; rfl) dL_law_1278 ?_
        refine q_if_eq (tgt := 1284) C dL_law_1279 (by decide) (fun _ => ?_) (fun h9 => absurd h9 (by decide))
        refine q_goto (tgt := 2016) C dL_law_1284 (by decide) ?_
        exact q_Vsub (kk _) (fun q hq => by simp only [List.mem_cons, List.not_mem_nil, or_false] at hq ⊢; rcases hq with h | h | h | h | h | h <;> simp [h])
    · refine q_aload_n C dL_law_1196 rfl rfl ?_
      refine q_aload_n C dL_law_1197 rfl rfl ?_
      refine q_iload C dL_law_1198 rfl ?_
      refine q_iconst (v := 1) C dL_law_1200 (by decide) ?_
      refine q_iaddN (a := i) (b := 1) C dL_law_1201 rfl rfl ?_
      refine q_sld (j := i + 1) C (hC.2.2 _ _) rfl (by omega) hn dL_law_1202 ?_
      refine q_aload_n C dL_law_1203 rfl rfl ?_
      refine q_iload C dL_law_1204 rfl ?_
      refine q_iconst (v := 2) C dL_law_1206 (by decide) ?_
      refine q_iaddN (a := i) (b := 2) C dL_law_1207 rfl rfl ?_
      refine q_sld (j := i + 2) C (hC.2.2 _ _) rfl (by omega) hn dL_law_1208 ?_
      refine q_if_eq (tgt := 1216) C dL_law_1209 (by decide) (fun _ => ?_) (fun h9 => absurd hz h9)
      refine q_iconst (v := 0) C dL_law_1216 (by decide) ?_
      refine q_aload_n C dL_law_1217 rfl rfl ?_
      refine q_lwi4 (hC.2.1 _ _) C (hC.1 _ _ (by omega)) hw mwL_canLearn mlL_181 ⟨by decide, by decide⟩ (Nat.le_of_ble_eq_true rfl) dL_law_1218 ?_
      show q_V l (q_KL K ((fun L9 : q_L => L9) L) (a + 6)) 1221 [(5, .int (nI i)), (4, .ref 121), (3, .ref 120), (2, .ref 112), (1, .ref 0), (0, .ref 300)] [.int (uWc [xEIo] E)] S1
      have C := hC.1 ((fun L9 : q_L => L9) L) (a + 6) (by omega)
      refine q_istore (lv' := [(6, .int (uWc [xEIo] E)), (5, .int (nI i)), (4, .ref 121), (3, .ref 120), (2, .ref 112), (1, .ref 0), (0, .ref 300)]) C dL_law_1221 (by decide) rfl ?_
      refine q_aload_n C dL_law_1223 rfl rfl ?_
      refine q_aload_n C dL_law_1224 rfl rfl ?_
      refine q_iload C dL_law_1225 rfl ?_
      refine q_iconst (v := 1) C dL_law_1227 (by decide) ?_
      refine q_iaddN (a := i) (b := 1) C dL_law_1228 rfl rfl ?_
      refine q_sld (j := i + 1) C (hC.2.2 _ _) rfl (by omega) hn dL_law_1229 ?_
      refine q_aload_n C dL_law_1230 rfl rfl ?_
      refine q_iload C dL_law_1231 rfl ?_
      refine q_iconst (v := 2) C dL_law_1233 (by decide) ?_
      refine q_iaddN (a := i) (b := 2) C dL_law_1234 rfl rfl ?_
      refine q_sld (j := i + 2) C (hC.2.2 _ _) rfl (by omega) hn dL_law_1235 ?_
      refine q_if_eq (tgt := 1243) C dL_law_1236 (by decide) (fun _ => ?_) (fun h9 => absurd hz h9)
      refine q_iconst (v := 0) C dL_law_1243 (by decide) ?_
      refine q_ci2 C hm myX7_canLearn mlL_184 q_s112 ⟨by decide, by decide⟩ (Nat.le_of_ble_eq_true rfl) dL_law_1244 ?_
      refine q_istore (lv' := [(7, .int v), (6, .int (uWc [xEIo] E)), (5, .int (nI i)), (4, .ref 121), (3, .ref 120), (2, .ref 112), (1, .ref 0), (0, .ref 300)]) C dL_law_1247 (by decide) rfl ?_
      refine q_aload_n C dL_law_1249 rfl rfl ?_
      refine q_ci0 C (q_Fi.cv (v' := (uWc [xEIo] E)) ht.1 (c_X7_thrown l S2)) myX7_thrown mlL_125 q_s112 ⟨by decide, by decide⟩ (Nat.le_of_ble_eq_true rfl) dL_law_1250 ?_
      refine q_iload C dL_law_1253 rfl ?_
      refine q_icmp_eq (tgt := 1260) C dL_law_1255 (by decide) (fun _ => ?_) (fun h9 => absurd rfl h9)
      refine q_iload C dL_law_1260 rfl ?_
      refine q_if_ne (tgt := 1284) C dL_law_1262 (by decide) (fun _ => ?_) (fun h9 => absurd h9 ht.2)
      refine q_goto (tgt := 2016) C dL_law_1284 (by decide) ?_
      exact q_Vsub (kk _) (fun q hq => by simp only [List.mem_cons, List.not_mem_nil, or_false] at hq ⊢; rcases hq with h | h | h | h | h | h <;> simp [h])
  · rw [show uB (xs (i + 2)) = 1 from if_neg hz] at hw hm
    have C := hC.1 L a (by omega)
    rcases o1 with w | E
    · rcases hv with rfl | rfl
      · refine q_aload_n C dL_law_1196 rfl rfl ?_
        refine q_aload_n C dL_law_1197 rfl rfl ?_
        refine q_iload C dL_law_1198 rfl ?_
        refine q_iconst (v := 1) C dL_law_1200 (by decide) ?_
        refine q_iaddN (a := i) (b := 1) C dL_law_1201 rfl rfl ?_
        refine q_sld (j := i + 1) C (hC.2.2 _ _) rfl (by omega) hn dL_law_1202 ?_
        refine q_aload_n C dL_law_1203 rfl rfl ?_
        refine q_iload C dL_law_1204 rfl ?_
        refine q_iconst (v := 2) C dL_law_1206 (by decide) ?_
        refine q_iaddN (a := i) (b := 2) C dL_law_1207 rfl rfl ?_
        refine q_sld (j := i + 2) C (hC.2.2 _ _) rfl (by omega) hn dL_law_1208 ?_
        refine q_if_eq (tgt := 1216) C dL_law_1209 (by decide) (fun h9 => absurd h9 hz) (fun _ => ?_)
        refine q_iconst (v := 1) C dL_law_1212 (by decide) ?_
        refine q_goto (tgt := 1217) C dL_law_1213 (by decide) ?_
        refine q_aload_n C dL_law_1217 rfl rfl ?_
        refine q_lwi4 (hC.2.1 _ _) C (hC.1 _ _ (by omega)) hw mwL_canLearn mlL_181 ⟨by decide, by decide⟩ (Nat.le_of_ble_eq_true rfl) dL_law_1218 ?_
        show q_V l (q_KL K ((fun L9 : q_L => (vp_updL L9.1 0 w.toInt64, L9.2)) L) (a + 6)) 1221 [(5, .int (nI i)), (4, .ref 121), (3, .ref 120), (2, .ref 112), (1, .ref 0), (0, .ref 300)] [.int 0] S1
        have C := hC.1 ((fun L9 : q_L => (vp_updL L9.1 0 w.toInt64, L9.2)) L) (a + 6) (by omega)
        refine q_istore (lv' := [(6, .int 0), (5, .int (nI i)), (4, .ref 121), (3, .ref 120), (2, .ref 112), (1, .ref 0), (0, .ref 300)]) C dL_law_1221 (by decide) rfl ?_
        refine q_aload_n C dL_law_1223 rfl rfl ?_
        refine q_aload_n C dL_law_1224 rfl rfl ?_
        refine q_iload C dL_law_1225 rfl ?_
        refine q_iconst (v := 1) C dL_law_1227 (by decide) ?_
        refine q_iaddN (a := i) (b := 1) C dL_law_1228 rfl rfl ?_
        refine q_sld (j := i + 1) C (hC.2.2 _ _) rfl (by omega) hn dL_law_1229 ?_
        refine q_aload_n C dL_law_1230 rfl rfl ?_
        refine q_iload C dL_law_1231 rfl ?_
        refine q_iconst (v := 2) C dL_law_1233 (by decide) ?_
        refine q_iaddN (a := i) (b := 2) C dL_law_1234 rfl rfl ?_
        refine q_sld (j := i + 2) C (hC.2.2 _ _) rfl (by omega) hn dL_law_1235 ?_
        refine q_if_eq (tgt := 1243) C dL_law_1236 (by decide) (fun h9 => absurd h9 hz) (fun _ => ?_)
        refine q_iconst (v := 1) C dL_law_1239 (by decide) ?_
        refine q_goto (tgt := 1244) C dL_law_1240 (by decide) ?_
        refine q_ci2 C hm myX7_canLearn mlL_184 q_s112 ⟨by decide, by decide⟩ (Nat.le_of_ble_eq_true rfl) dL_law_1244 ?_
        refine q_istore (lv' := [(7, .int 0), (6, .int 0), (5, .int (nI i)), (4, .ref 121), (3, .ref 120), (2, .ref 112), (1, .ref 0), (0, .ref 300)]) C dL_law_1247 (by decide) rfl ?_
        refine q_aload_n C dL_law_1249 rfl rfl ?_
        refine q_ci0 C (q_Fi.cv (v' := 0) ht.1 (c_X7_thrown l S2)) myX7_thrown mlL_125 q_s112 ⟨by decide, by decide⟩ (Nat.le_of_ble_eq_true rfl) dL_law_1250 ?_
        refine q_iload C dL_law_1253 rfl ?_
        refine q_icmp_eq (tgt := 1260) C dL_law_1255 (by decide) (fun _ => ?_) (fun h9 => absurd rfl h9)
        refine q_iload C dL_law_1260 rfl ?_
        refine q_if_ne (tgt := 1284) C dL_law_1262 (by decide) (fun h9 => absurd h9 (by decide)) (fun _ => ?_)
        refine q_aload_n C dL_law_1265 rfl rfl ?_
        refine q_iconst (v := 0) C dL_law_1266 (by decide) ?_
        refine q_lald C dL_law_1267 ?_
        refine q_iload C dL_law_1268 rfl ?_
        refine q_if_eq (tgt := 1277) C dL_law_1270 (by decide) (fun _ => ?_) (fun h9 => absurd h9 (by decide))
        refine q_lconst (v := 0) C dL_law_1277 rfl ?_
        refine q_lcmpE C (by rw [show w = 0 from ht.2]; rfl) dL_law_1278 ?_
        refine q_if_eq (tgt := 1284) C dL_law_1279 (by decide) (fun _ => ?_) (fun h9 => absurd h9 (by decide))
        refine q_goto (tgt := 2016) C dL_law_1284 (by decide) ?_
        exact q_Vsub (kk _) (fun q hq => by simp only [List.mem_cons, List.not_mem_nil, or_false] at hq ⊢; rcases hq with h | h | h | h | h | h <;> simp [h])
      · refine q_aload_n C dL_law_1196 rfl rfl ?_
        refine q_aload_n C dL_law_1197 rfl rfl ?_
        refine q_iload C dL_law_1198 rfl ?_
        refine q_iconst (v := 1) C dL_law_1200 (by decide) ?_
        refine q_iaddN (a := i) (b := 1) C dL_law_1201 rfl rfl ?_
        refine q_sld (j := i + 1) C (hC.2.2 _ _) rfl (by omega) hn dL_law_1202 ?_
        refine q_aload_n C dL_law_1203 rfl rfl ?_
        refine q_iload C dL_law_1204 rfl ?_
        refine q_iconst (v := 2) C dL_law_1206 (by decide) ?_
        refine q_iaddN (a := i) (b := 2) C dL_law_1207 rfl rfl ?_
        refine q_sld (j := i + 2) C (hC.2.2 _ _) rfl (by omega) hn dL_law_1208 ?_
        refine q_if_eq (tgt := 1216) C dL_law_1209 (by decide) (fun h9 => absurd h9 hz) (fun _ => ?_)
        refine q_iconst (v := 1) C dL_law_1212 (by decide) ?_
        refine q_goto (tgt := 1217) C dL_law_1213 (by decide) ?_
        refine q_aload_n C dL_law_1217 rfl rfl ?_
        refine q_lwi4 (hC.2.1 _ _) C (hC.1 _ _ (by omega)) hw mwL_canLearn mlL_181 ⟨by decide, by decide⟩ (Nat.le_of_ble_eq_true rfl) dL_law_1218 ?_
        show q_V l (q_KL K ((fun L9 : q_L => (vp_updL L9.1 0 w.toInt64, L9.2)) L) (a + 6)) 1221 [(5, .int (nI i)), (4, .ref 121), (3, .ref 120), (2, .ref 112), (1, .ref 0), (0, .ref 300)] [.int 0] S1
        have C := hC.1 ((fun L9 : q_L => (vp_updL L9.1 0 w.toInt64, L9.2)) L) (a + 6) (by omega)
        refine q_istore (lv' := [(6, .int 0), (5, .int (nI i)), (4, .ref 121), (3, .ref 120), (2, .ref 112), (1, .ref 0), (0, .ref 300)]) C dL_law_1221 (by decide) rfl ?_
        refine q_aload_n C dL_law_1223 rfl rfl ?_
        refine q_aload_n C dL_law_1224 rfl rfl ?_
        refine q_iload C dL_law_1225 rfl ?_
        refine q_iconst (v := 1) C dL_law_1227 (by decide) ?_
        refine q_iaddN (a := i) (b := 1) C dL_law_1228 rfl rfl ?_
        refine q_sld (j := i + 1) C (hC.2.2 _ _) rfl (by omega) hn dL_law_1229 ?_
        refine q_aload_n C dL_law_1230 rfl rfl ?_
        refine q_iload C dL_law_1231 rfl ?_
        refine q_iconst (v := 2) C dL_law_1233 (by decide) ?_
        refine q_iaddN (a := i) (b := 2) C dL_law_1234 rfl rfl ?_
        refine q_sld (j := i + 2) C (hC.2.2 _ _) rfl (by omega) hn dL_law_1235 ?_
        refine q_if_eq (tgt := 1243) C dL_law_1236 (by decide) (fun h9 => absurd h9 hz) (fun _ => ?_)
        refine q_iconst (v := 1) C dL_law_1239 (by decide) ?_
        refine q_goto (tgt := 1244) C dL_law_1240 (by decide) ?_
        refine q_ci2 C hm myX7_canLearn mlL_184 q_s112 ⟨by decide, by decide⟩ (Nat.le_of_ble_eq_true rfl) dL_law_1244 ?_
        refine q_istore (lv' := [(7, .int 1), (6, .int 0), (5, .int (nI i)), (4, .ref 121), (3, .ref 120), (2, .ref 112), (1, .ref 0), (0, .ref 300)]) C dL_law_1247 (by decide) rfl ?_
        refine q_aload_n C dL_law_1249 rfl rfl ?_
        refine q_ci0 C (q_Fi.cv (v' := 0) ht.1 (c_X7_thrown l S2)) myX7_thrown mlL_125 q_s112 ⟨by decide, by decide⟩ (Nat.le_of_ble_eq_true rfl) dL_law_1250 ?_
        refine q_iload C dL_law_1253 rfl ?_
        refine q_icmp_eq (tgt := 1260) C dL_law_1255 (by decide) (fun _ => ?_) (fun h9 => absurd rfl h9)
        refine q_iload C dL_law_1260 rfl ?_
        refine q_if_ne (tgt := 1284) C dL_law_1262 (by decide) (fun h9 => absurd h9 (by decide)) (fun _ => ?_)
        refine q_aload_n C dL_law_1265 rfl rfl ?_
        refine q_iconst (v := 0) C dL_law_1266 (by decide) ?_
        refine q_lald C dL_law_1267 ?_
        refine q_iload C dL_law_1268 rfl ?_
        refine q_if_eq (tgt := 1277) C dL_law_1270 (by decide) (fun h9 => absurd h9 (by decide)) (fun _ => ?_)
        refine q_lconst (v := 1) C dL_law_1273 rfl ?_
        refine q_goto (tgt := 1278) C dL_law_1274 (by decide) ?_
        refine q_lcmpE C (by rw [show w = 1 from ht.2]; rfl) dL_law_1278 ?_
        refine q_if_eq (tgt := 1284) C dL_law_1279 (by decide) (fun _ => ?_) (fun h9 => absurd h9 (by decide))
        refine q_goto (tgt := 2016) C dL_law_1284 (by decide) ?_
        exact q_Vsub (kk _) (fun q hq => by simp only [List.mem_cons, List.not_mem_nil, or_false] at hq ⊢; rcases hq with h | h | h | h | h | h <;> simp [h])
    · refine q_aload_n C dL_law_1196 rfl rfl ?_
      refine q_aload_n C dL_law_1197 rfl rfl ?_
      refine q_iload C dL_law_1198 rfl ?_
      refine q_iconst (v := 1) C dL_law_1200 (by decide) ?_
      refine q_iaddN (a := i) (b := 1) C dL_law_1201 rfl rfl ?_
      refine q_sld (j := i + 1) C (hC.2.2 _ _) rfl (by omega) hn dL_law_1202 ?_
      refine q_aload_n C dL_law_1203 rfl rfl ?_
      refine q_iload C dL_law_1204 rfl ?_
      refine q_iconst (v := 2) C dL_law_1206 (by decide) ?_
      refine q_iaddN (a := i) (b := 2) C dL_law_1207 rfl rfl ?_
      refine q_sld (j := i + 2) C (hC.2.2 _ _) rfl (by omega) hn dL_law_1208 ?_
      refine q_if_eq (tgt := 1216) C dL_law_1209 (by decide) (fun h9 => absurd h9 hz) (fun _ => ?_)
      refine q_iconst (v := 1) C dL_law_1212 (by decide) ?_
      refine q_goto (tgt := 1217) C dL_law_1213 (by decide) ?_
      refine q_aload_n C dL_law_1217 rfl rfl ?_
      refine q_lwi4 (hC.2.1 _ _) C (hC.1 _ _ (by omega)) hw mwL_canLearn mlL_181 ⟨by decide, by decide⟩ (Nat.le_of_ble_eq_true rfl) dL_law_1218 ?_
      show q_V l (q_KL K ((fun L9 : q_L => L9) L) (a + 6)) 1221 [(5, .int (nI i)), (4, .ref 121), (3, .ref 120), (2, .ref 112), (1, .ref 0), (0, .ref 300)] [.int (uWc [xEIo] E)] S1
      have C := hC.1 ((fun L9 : q_L => L9) L) (a + 6) (by omega)
      refine q_istore (lv' := [(6, .int (uWc [xEIo] E)), (5, .int (nI i)), (4, .ref 121), (3, .ref 120), (2, .ref 112), (1, .ref 0), (0, .ref 300)]) C dL_law_1221 (by decide) rfl ?_
      refine q_aload_n C dL_law_1223 rfl rfl ?_
      refine q_aload_n C dL_law_1224 rfl rfl ?_
      refine q_iload C dL_law_1225 rfl ?_
      refine q_iconst (v := 1) C dL_law_1227 (by decide) ?_
      refine q_iaddN (a := i) (b := 1) C dL_law_1228 rfl rfl ?_
      refine q_sld (j := i + 1) C (hC.2.2 _ _) rfl (by omega) hn dL_law_1229 ?_
      refine q_aload_n C dL_law_1230 rfl rfl ?_
      refine q_iload C dL_law_1231 rfl ?_
      refine q_iconst (v := 2) C dL_law_1233 (by decide) ?_
      refine q_iaddN (a := i) (b := 2) C dL_law_1234 rfl rfl ?_
      refine q_sld (j := i + 2) C (hC.2.2 _ _) rfl (by omega) hn dL_law_1235 ?_
      refine q_if_eq (tgt := 1243) C dL_law_1236 (by decide) (fun h9 => absurd h9 hz) (fun _ => ?_)
      refine q_iconst (v := 1) C dL_law_1239 (by decide) ?_
      refine q_goto (tgt := 1244) C dL_law_1240 (by decide) ?_
      refine q_ci2 C hm myX7_canLearn mlL_184 q_s112 ⟨by decide, by decide⟩ (Nat.le_of_ble_eq_true rfl) dL_law_1244 ?_
      refine q_istore (lv' := [(7, .int v), (6, .int (uWc [xEIo] E)), (5, .int (nI i)), (4, .ref 121), (3, .ref 120), (2, .ref 112), (1, .ref 0), (0, .ref 300)]) C dL_law_1247 (by decide) rfl ?_
      refine q_aload_n C dL_law_1249 rfl rfl ?_
      refine q_ci0 C (q_Fi.cv (v' := (uWc [xEIo] E)) ht.1 (c_X7_thrown l S2)) myX7_thrown mlL_125 q_s112 ⟨by decide, by decide⟩ (Nat.le_of_ble_eq_true rfl) dL_law_1250 ?_
      refine q_iload C dL_law_1253 rfl ?_
      refine q_icmp_eq (tgt := 1260) C dL_law_1255 (by decide) (fun _ => ?_) (fun h9 => absurd rfl h9)
      refine q_iload C dL_law_1260 rfl ?_
      refine q_if_ne (tgt := 1284) C dL_law_1262 (by decide) (fun _ => ?_) (fun h9 => absurd h9 ht.2)
      refine q_goto (tgt := 2016) C dL_law_1284 (by decide) ?_
      exact q_Vsub (kk _) (fun q hq => by simp only [List.mem_cons, List.not_mem_nil, or_false] at hq ⊢; rcases hq with h | h | h | h | h | h <;> simp [h])
theorem law_pass (l : Launch) (K : q_K) (b n : Nat) (xs : Nat → Int32) (hC : q_LC l K b n xs) (L : q_L) (a i : Nat) (S S1 S2 : q_St) (ha : a + 6 ≤ 3072) (hi : i + 3 < n) (hn : n < 2 ^ 31) (o1 : Int32 ⊕ String) (v : Int32) (hw : q_Fw l yL_pass kL_pass [.ref 0, .int (xs (i + 1)), .ref 120] S (uW [xEIa] (o1, S1))) (hm : q_Fi l yX7_pass kX7_pass 5 [.ref 112, .int (xs (i + 1))] S1 v S2) (ht : uW_ok [xEIa] o1 v (S2 112 6)) (kk : ∀ L9 : q_L, q_V l (q_KL K L9 (a + 6)) 2016 (q_lvL i) [] S2) : q_V l (q_KL K L a) 1287 (q_lvL i) [] S := by
  have C := hC.1 L a (by omega)
  rcases o1 with w | E
  · refine q_aload_n C dL_law_1287 rfl rfl ?_
    refine q_aload_n C dL_law_1288 rfl rfl ?_
    refine q_iload C dL_law_1289 rfl ?_
    refine q_iconst (v := 1) C dL_law_1291 (by decide) ?_
    refine q_iaddN (a := i) (b := 1) C dL_law_1292 rfl rfl ?_
    refine q_sld (j := i + 1) C (hC.2.2 _ _) rfl (by omega) hn dL_law_1293 ?_
    refine q_aload_n C dL_law_1294 rfl rfl ?_
    refine q_lwi3 (hC.2.1 _ _) C (hC.1 _ _ (by omega)) hw mwL_pass mlL_185 ⟨by decide, by decide⟩ (Nat.le_of_ble_eq_true rfl) dL_law_1295 ?_
    show q_V l (q_KL K ((fun L9 : q_L => (vp_updL L9.1 0 w.toInt64, L9.2)) L) (a + 6)) 1298 [(5, .int (nI i)), (4, .ref 121), (3, .ref 120), (2, .ref 112), (1, .ref 0), (0, .ref 300)] [.int 0] S1
    have C := hC.1 ((fun L9 : q_L => (vp_updL L9.1 0 w.toInt64, L9.2)) L) (a + 6) (by omega)
    refine q_istore (lv' := [(6, .int 0), (5, .int (nI i)), (4, .ref 121), (3, .ref 120), (2, .ref 112), (1, .ref 0), (0, .ref 300)]) C dL_law_1298 (by decide) rfl ?_
    refine q_aload_n C dL_law_1300 rfl rfl ?_
    refine q_aload_n C dL_law_1301 rfl rfl ?_
    refine q_iload C dL_law_1302 rfl ?_
    refine q_iconst (v := 1) C dL_law_1304 (by decide) ?_
    refine q_iaddN (a := i) (b := 1) C dL_law_1305 rfl rfl ?_
    refine q_sld (j := i + 1) C (hC.2.2 _ _) rfl (by omega) hn dL_law_1306 ?_
    refine q_ci1 C hm myX7_pass mlL_187 q_s112 ⟨by decide, by decide⟩ (Nat.le_of_ble_eq_true rfl) dL_law_1307 ?_
    refine q_istore (lv' := [(7, .int v), (6, .int 0), (5, .int (nI i)), (4, .ref 121), (3, .ref 120), (2, .ref 112), (1, .ref 0), (0, .ref 300)]) C dL_law_1310 (by decide) rfl ?_
    refine q_aload_n C dL_law_1312 rfl rfl ?_
    refine q_ci0 C (q_Fi.cv (v' := 0) ht.1 (c_X7_thrown l S2)) myX7_thrown mlL_125 q_s112 ⟨by decide, by decide⟩ (Nat.le_of_ble_eq_true rfl) dL_law_1313 ?_
    refine q_iload C dL_law_1316 rfl ?_
    refine q_icmp_eq (tgt := 1323) C dL_law_1318 (by decide) (fun _ => ?_) (fun h9 => absurd rfl h9)
    refine q_iload C dL_law_1323 rfl ?_
    refine q_if_ne (tgt := 1340) C dL_law_1325 (by decide) (fun h9 => absurd h9 (by decide)) (fun _ => ?_)
    refine q_aload_n C dL_law_1328 rfl rfl ?_
    refine q_iconst (v := 0) C dL_law_1329 (by decide) ?_
    refine q_lald C dL_law_1330 ?_
    refine q_iload C dL_law_1331 rfl ?_
    refine q_i2l C dL_law_1333 ?_
    refine q_lcmpE C (by rw [show v = w from ht.2.symm]; rfl) dL_law_1334 ?_
    refine q_if_eq (tgt := 1340) C dL_law_1335 (by decide) (fun _ => ?_) (fun h9 => absurd h9 (by decide))
    refine q_goto (tgt := 2016) C dL_law_1340 (by decide) ?_
    exact q_Vsub (kk _) (fun q hq => by simp only [List.mem_cons, List.not_mem_nil, or_false] at hq ⊢; rcases hq with h | h | h | h | h | h <;> simp [h])
  · refine q_aload_n C dL_law_1287 rfl rfl ?_
    refine q_aload_n C dL_law_1288 rfl rfl ?_
    refine q_iload C dL_law_1289 rfl ?_
    refine q_iconst (v := 1) C dL_law_1291 (by decide) ?_
    refine q_iaddN (a := i) (b := 1) C dL_law_1292 rfl rfl ?_
    refine q_sld (j := i + 1) C (hC.2.2 _ _) rfl (by omega) hn dL_law_1293 ?_
    refine q_aload_n C dL_law_1294 rfl rfl ?_
    refine q_lwi3 (hC.2.1 _ _) C (hC.1 _ _ (by omega)) hw mwL_pass mlL_185 ⟨by decide, by decide⟩ (Nat.le_of_ble_eq_true rfl) dL_law_1295 ?_
    show q_V l (q_KL K ((fun L9 : q_L => L9) L) (a + 6)) 1298 [(5, .int (nI i)), (4, .ref 121), (3, .ref 120), (2, .ref 112), (1, .ref 0), (0, .ref 300)] [.int (uWc [xEIa] E)] S1
    have C := hC.1 ((fun L9 : q_L => L9) L) (a + 6) (by omega)
    refine q_istore (lv' := [(6, .int (uWc [xEIa] E)), (5, .int (nI i)), (4, .ref 121), (3, .ref 120), (2, .ref 112), (1, .ref 0), (0, .ref 300)]) C dL_law_1298 (by decide) rfl ?_
    refine q_aload_n C dL_law_1300 rfl rfl ?_
    refine q_aload_n C dL_law_1301 rfl rfl ?_
    refine q_iload C dL_law_1302 rfl ?_
    refine q_iconst (v := 1) C dL_law_1304 (by decide) ?_
    refine q_iaddN (a := i) (b := 1) C dL_law_1305 rfl rfl ?_
    refine q_sld (j := i + 1) C (hC.2.2 _ _) rfl (by omega) hn dL_law_1306 ?_
    refine q_ci1 C hm myX7_pass mlL_187 q_s112 ⟨by decide, by decide⟩ (Nat.le_of_ble_eq_true rfl) dL_law_1307 ?_
    refine q_istore (lv' := [(7, .int v), (6, .int (uWc [xEIa] E)), (5, .int (nI i)), (4, .ref 121), (3, .ref 120), (2, .ref 112), (1, .ref 0), (0, .ref 300)]) C dL_law_1310 (by decide) rfl ?_
    refine q_aload_n C dL_law_1312 rfl rfl ?_
    refine q_ci0 C (q_Fi.cv (v' := (uWc [xEIa] E)) ht.1 (c_X7_thrown l S2)) myX7_thrown mlL_125 q_s112 ⟨by decide, by decide⟩ (Nat.le_of_ble_eq_true rfl) dL_law_1313 ?_
    refine q_iload C dL_law_1316 rfl ?_
    refine q_icmp_eq (tgt := 1323) C dL_law_1318 (by decide) (fun _ => ?_) (fun h9 => absurd rfl h9)
    refine q_iload C dL_law_1323 rfl ?_
    refine q_if_ne (tgt := 1340) C dL_law_1325 (by decide) (fun _ => ?_) (fun h9 => absurd h9 ht.2)
    refine q_goto (tgt := 2016) C dL_law_1340 (by decide) ?_
    exact q_Vsub (kk _) (fun q hq => by simp only [List.mem_cons, List.not_mem_nil, or_false] at hq ⊢; rcases hq with h | h | h | h | h | h <;> simp [h])
theorem law_ranked (l : Launch) (K : q_K) (b n : Nat) (xs : Nat → Int32) (hC : q_LC l K b n xs) (L : q_L) (a i : Nat) (S S1 S2 : q_St) (ha : a + 6 ≤ 3072) (hi : i + 3 < n) (hn : n < 2 ^ 31) (o1 : Int32 ⊕ String) (v : Int32) (hw : q_Fw l yL_ranked kL_ranked [.ref 0, .int (xs (i + 1)), .ref 120] S (uW [xEIo] (o1, S1))) (hm : q_Fi l yX7_ranked kX7_ranked 2 [.ref 112, .int (xs (i + 1))] S1 v S2) (ht : uW_ok [xEIo] o1 v (S2 112 6)) (kk : ∀ L9 : q_L, q_V l (q_KL K L9 (a + 6)) 2016 (q_lvL i) [] S2) : q_V l (q_KL K L a) 1343 (q_lvL i) [] S := by
  have C := hC.1 L a (by omega)
  rcases o1 with w | E
  · refine q_aload_n C dL_law_1343 rfl rfl ?_
    refine q_aload_n C dL_law_1344 rfl rfl ?_
    refine q_iload C dL_law_1345 rfl ?_
    refine q_iconst (v := 1) C dL_law_1347 (by decide) ?_
    refine q_iaddN (a := i) (b := 1) C dL_law_1348 rfl rfl ?_
    refine q_sld (j := i + 1) C (hC.2.2 _ _) rfl (by omega) hn dL_law_1349 ?_
    refine q_aload_n C dL_law_1350 rfl rfl ?_
    refine q_lwi3 (hC.2.1 _ _) C (hC.1 _ _ (by omega)) hw mwL_ranked mlL_188 ⟨by decide, by decide⟩ (Nat.le_of_ble_eq_true rfl) dL_law_1351 ?_
    show q_V l (q_KL K ((fun L9 : q_L => (vp_updL L9.1 0 w.toInt64, L9.2)) L) (a + 6)) 1354 [(5, .int (nI i)), (4, .ref 121), (3, .ref 120), (2, .ref 112), (1, .ref 0), (0, .ref 300)] [.int 0] S1
    have C := hC.1 ((fun L9 : q_L => (vp_updL L9.1 0 w.toInt64, L9.2)) L) (a + 6) (by omega)
    refine q_istore (lv' := [(6, .int 0), (5, .int (nI i)), (4, .ref 121), (3, .ref 120), (2, .ref 112), (1, .ref 0), (0, .ref 300)]) C dL_law_1354 (by decide) rfl ?_
    refine q_aload_n C dL_law_1356 rfl rfl ?_
    refine q_aload_n C dL_law_1357 rfl rfl ?_
    refine q_iload C dL_law_1358 rfl ?_
    refine q_iconst (v := 1) C dL_law_1360 (by decide) ?_
    refine q_iaddN (a := i) (b := 1) C dL_law_1361 rfl rfl ?_
    refine q_sld (j := i + 1) C (hC.2.2 _ _) rfl (by omega) hn dL_law_1362 ?_
    refine q_ci1 C hm myX7_ranked mlL_190 q_s112 ⟨by decide, by decide⟩ (Nat.le_of_ble_eq_true rfl) dL_law_1363 ?_
    refine q_istore (lv' := [(7, .int v), (6, .int 0), (5, .int (nI i)), (4, .ref 121), (3, .ref 120), (2, .ref 112), (1, .ref 0), (0, .ref 300)]) C dL_law_1366 (by decide) rfl ?_
    refine q_aload_n C dL_law_1368 rfl rfl ?_
    refine q_ci0 C (q_Fi.cv (v' := 0) ht.1 (c_X7_thrown l S2)) myX7_thrown mlL_125 q_s112 ⟨by decide, by decide⟩ (Nat.le_of_ble_eq_true rfl) dL_law_1369 ?_
    refine q_iload C dL_law_1372 rfl ?_
    refine q_icmp_eq (tgt := 1379) C dL_law_1374 (by decide) (fun _ => ?_) (fun h9 => absurd rfl h9)
    refine q_iload C dL_law_1379 rfl ?_
    refine q_if_ne (tgt := 1396) C dL_law_1381 (by decide) (fun h9 => absurd h9 (by decide)) (fun _ => ?_)
    refine q_aload_n C dL_law_1384 rfl rfl ?_
    refine q_iconst (v := 0) C dL_law_1385 (by decide) ?_
    refine q_lald C dL_law_1386 ?_
    refine q_iload C dL_law_1387 rfl ?_
    refine q_i2l C dL_law_1389 ?_
    refine q_lcmpE C (by rw [show v = w from ht.2.symm]; rfl) dL_law_1390 ?_
    refine q_if_eq (tgt := 1396) C dL_law_1391 (by decide) (fun _ => ?_) (fun h9 => absurd h9 (by decide))
    refine q_goto (tgt := 2016) C dL_law_1396 (by decide) ?_
    exact q_Vsub (kk _) (fun q hq => by simp only [List.mem_cons, List.not_mem_nil, or_false] at hq ⊢; rcases hq with h | h | h | h | h | h <;> simp [h])
  · refine q_aload_n C dL_law_1343 rfl rfl ?_
    refine q_aload_n C dL_law_1344 rfl rfl ?_
    refine q_iload C dL_law_1345 rfl ?_
    refine q_iconst (v := 1) C dL_law_1347 (by decide) ?_
    refine q_iaddN (a := i) (b := 1) C dL_law_1348 rfl rfl ?_
    refine q_sld (j := i + 1) C (hC.2.2 _ _) rfl (by omega) hn dL_law_1349 ?_
    refine q_aload_n C dL_law_1350 rfl rfl ?_
    refine q_lwi3 (hC.2.1 _ _) C (hC.1 _ _ (by omega)) hw mwL_ranked mlL_188 ⟨by decide, by decide⟩ (Nat.le_of_ble_eq_true rfl) dL_law_1351 ?_
    show q_V l (q_KL K ((fun L9 : q_L => L9) L) (a + 6)) 1354 [(5, .int (nI i)), (4, .ref 121), (3, .ref 120), (2, .ref 112), (1, .ref 0), (0, .ref 300)] [.int (uWc [xEIo] E)] S1
    have C := hC.1 ((fun L9 : q_L => L9) L) (a + 6) (by omega)
    refine q_istore (lv' := [(6, .int (uWc [xEIo] E)), (5, .int (nI i)), (4, .ref 121), (3, .ref 120), (2, .ref 112), (1, .ref 0), (0, .ref 300)]) C dL_law_1354 (by decide) rfl ?_
    refine q_aload_n C dL_law_1356 rfl rfl ?_
    refine q_aload_n C dL_law_1357 rfl rfl ?_
    refine q_iload C dL_law_1358 rfl ?_
    refine q_iconst (v := 1) C dL_law_1360 (by decide) ?_
    refine q_iaddN (a := i) (b := 1) C dL_law_1361 rfl rfl ?_
    refine q_sld (j := i + 1) C (hC.2.2 _ _) rfl (by omega) hn dL_law_1362 ?_
    refine q_ci1 C hm myX7_ranked mlL_190 q_s112 ⟨by decide, by decide⟩ (Nat.le_of_ble_eq_true rfl) dL_law_1363 ?_
    refine q_istore (lv' := [(7, .int v), (6, .int (uWc [xEIo] E)), (5, .int (nI i)), (4, .ref 121), (3, .ref 120), (2, .ref 112), (1, .ref 0), (0, .ref 300)]) C dL_law_1366 (by decide) rfl ?_
    refine q_aload_n C dL_law_1368 rfl rfl ?_
    refine q_ci0 C (q_Fi.cv (v' := (uWc [xEIo] E)) ht.1 (c_X7_thrown l S2)) myX7_thrown mlL_125 q_s112 ⟨by decide, by decide⟩ (Nat.le_of_ble_eq_true rfl) dL_law_1369 ?_
    refine q_iload C dL_law_1372 rfl ?_
    refine q_icmp_eq (tgt := 1379) C dL_law_1374 (by decide) (fun _ => ?_) (fun h9 => absurd rfl h9)
    refine q_iload C dL_law_1379 rfl ?_
    refine q_if_ne (tgt := 1396) C dL_law_1381 (by decide) (fun _ => ?_) (fun h9 => absurd h9 ht.2)
    refine q_goto (tgt := 2016) C dL_law_1396 (by decide) ?_
    exact q_Vsub (kk _) (fun q hq => by simp only [List.mem_cons, List.not_mem_nil, or_false] at hq ⊢; rcases hq with h | h | h | h | h | h <;> simp [h])
theorem law_coins (l : Launch) (K : q_K) (b n : Nat) (xs : Nat → Int32) (hC : q_LC l K b n xs) (L : q_L) (a i : Nat) (S S1 S2 : q_St) (ha : a + 6 ≤ 3072) (hi : i + 3 < n) (hn : n < 2 ^ 31) (v : Int32) (hc : q_Fi l yX6_coins kX6_coins 3 [.ref 0, .int (uB (xs (i + 1)))] S v S1) (hm : q_Fi l yX7_coins kX7_coins 2 [.ref 112, .int (uB (xs (i + 1)))] S1 v S2) (kk : ∀ L9 : q_L, q_V l (q_KL K L9 (a + 6)) 2016 (q_lvL i) [] S2) : q_V l (q_KL K L a) 1399 (q_lvL i) [] S := by
  refine q_KLw (Nat.le_add_right a 6) ?_
  by_cases hz : xs (i + 1) = 0
  · rw [show uB (xs (i + 1)) = 0 from if_pos hz] at hc hm
    have C := hC.1 L (a + 6) (by omega)
    refine q_aload_n C dL_law_1399 rfl rfl ?_
    refine q_aload_n C dL_law_1400 rfl rfl ?_
    refine q_iload C dL_law_1401 rfl ?_
    refine q_iconst (v := 1) C dL_law_1403 (by decide) ?_
    refine q_iaddN (a := i) (b := 1) C dL_law_1404 rfl rfl ?_
    refine q_sld (j := i + 1) C (hC.2.2 _ _) rfl (by omega) hn dL_law_1405 ?_
    refine q_if_eq (tgt := 1413) C dL_law_1406 (by decide) (fun _ => ?_) (fun h9 => absurd hz h9)
    refine q_iconst (v := 0) C dL_law_1413 (by decide) ?_
    refine q_ci1 C hc myX6_coins mlL_191 q_s0 ⟨by decide, by decide⟩ (Nat.le_of_ble_eq_true rfl) dL_law_1414 ?_
    refine q_aload_n C dL_law_1417 rfl rfl ?_
    refine q_aload_n C dL_law_1418 rfl rfl ?_
    refine q_iload C dL_law_1419 rfl ?_
    refine q_iconst (v := 1) C dL_law_1421 (by decide) ?_
    refine q_iaddN (a := i) (b := 1) C dL_law_1422 rfl rfl ?_
    refine q_sld (j := i + 1) C (hC.2.2 _ _) rfl (by omega) hn dL_law_1423 ?_
    refine q_if_eq (tgt := 1431) C dL_law_1424 (by decide) (fun _ => ?_) (fun h9 => absurd hz h9)
    refine q_iconst (v := 0) C dL_law_1431 (by decide) ?_
    refine q_ci1 C hm myX7_coins mlL_194 q_s112 ⟨by decide, by decide⟩ (Nat.le_of_ble_eq_true rfl) dL_law_1432 ?_
    refine q_icmp_eq (tgt := 2016) C dL_law_1435 (by decide) (fun _ => ?_) (fun h9 => absurd rfl h9)
    exact q_Vsub (kk _) (fun q hq => by simp only [List.mem_cons, List.not_mem_nil, or_false] at hq ⊢; rcases hq with h | h | h | h | h | h <;> simp [h])
  · rw [show uB (xs (i + 1)) = 1 from if_neg hz] at hc hm
    have C := hC.1 L (a + 6) (by omega)
    refine q_aload_n C dL_law_1399 rfl rfl ?_
    refine q_aload_n C dL_law_1400 rfl rfl ?_
    refine q_iload C dL_law_1401 rfl ?_
    refine q_iconst (v := 1) C dL_law_1403 (by decide) ?_
    refine q_iaddN (a := i) (b := 1) C dL_law_1404 rfl rfl ?_
    refine q_sld (j := i + 1) C (hC.2.2 _ _) rfl (by omega) hn dL_law_1405 ?_
    refine q_if_eq (tgt := 1413) C dL_law_1406 (by decide) (fun h9 => absurd h9 hz) (fun _ => ?_)
    refine q_iconst (v := 1) C dL_law_1409 (by decide) ?_
    refine q_goto (tgt := 1414) C dL_law_1410 (by decide) ?_
    refine q_ci1 C hc myX6_coins mlL_191 q_s0 ⟨by decide, by decide⟩ (Nat.le_of_ble_eq_true rfl) dL_law_1414 ?_
    refine q_aload_n C dL_law_1417 rfl rfl ?_
    refine q_aload_n C dL_law_1418 rfl rfl ?_
    refine q_iload C dL_law_1419 rfl ?_
    refine q_iconst (v := 1) C dL_law_1421 (by decide) ?_
    refine q_iaddN (a := i) (b := 1) C dL_law_1422 rfl rfl ?_
    refine q_sld (j := i + 1) C (hC.2.2 _ _) rfl (by omega) hn dL_law_1423 ?_
    refine q_if_eq (tgt := 1431) C dL_law_1424 (by decide) (fun h9 => absurd h9 hz) (fun _ => ?_)
    refine q_iconst (v := 1) C dL_law_1427 (by decide) ?_
    refine q_goto (tgt := 1432) C dL_law_1428 (by decide) ?_
    refine q_ci1 C hm myX7_coins mlL_194 q_s112 ⟨by decide, by decide⟩ (Nat.le_of_ble_eq_true rfl) dL_law_1432 ?_
    refine q_icmp_eq (tgt := 2016) C dL_law_1435 (by decide) (fun _ => ?_) (fun h9 => absurd rfl h9)
    exact q_Vsub (kk _) (fun q hq => by simp only [List.mem_cons, List.not_mem_nil, or_false] at hq ⊢; rcases hq with h | h | h | h | h | h <;> simp [h])
theorem law_line (l : Launch) (K : q_K) (b n : Nat) (xs : Nat → Int32) (hC : q_LC l K b n xs) (L : q_L) (a i : Nat) (S S1 S2 : q_St) (ha : a + 6 ≤ 3072) (hi : i + 3 < n) (hn : n < 2 ^ 31) (o1 : Int32 ⊕ String) (v : Int32) (hw : q_Fw l yL_line kL_line [.ref 0, .int (xs (i + 1)), .ref 120] S (uW [xENs] (o1, S1))) (hm : q_Fi l yX7_line kX7_line 5 [.ref 112, .int (xs (i + 1))] S1 v S2) (ht : uW_ok [xENs] o1 v (S2 112 6)) (kk : ∀ L9 : q_L, q_V l (q_KL K L9 (a + 6)) 2016 (q_lvL i) [] S2) : q_V l (q_KL K L a) 1440 (q_lvL i) [] S := by
  have C := hC.1 L a (by omega)
  rcases o1 with w | E
  · refine q_aload_n C dL_law_1440 rfl rfl ?_
    refine q_aload_n C dL_law_1441 rfl rfl ?_
    refine q_iload C dL_law_1442 rfl ?_
    refine q_iconst (v := 1) C dL_law_1444 (by decide) ?_
    refine q_iaddN (a := i) (b := 1) C dL_law_1445 rfl rfl ?_
    refine q_sld (j := i + 1) C (hC.2.2 _ _) rfl (by omega) hn dL_law_1446 ?_
    refine q_aload_n C dL_law_1447 rfl rfl ?_
    refine q_lwi3 (hC.2.1 _ _) C (hC.1 _ _ (by omega)) hw mwL_line mlL_195 ⟨by decide, by decide⟩ (Nat.le_of_ble_eq_true rfl) dL_law_1448 ?_
    show q_V l (q_KL K ((fun L9 : q_L => (vp_updL L9.1 0 w.toInt64, L9.2)) L) (a + 6)) 1451 [(5, .int (nI i)), (4, .ref 121), (3, .ref 120), (2, .ref 112), (1, .ref 0), (0, .ref 300)] [.int 0] S1
    have C := hC.1 ((fun L9 : q_L => (vp_updL L9.1 0 w.toInt64, L9.2)) L) (a + 6) (by omega)
    refine q_istore (lv' := [(6, .int 0), (5, .int (nI i)), (4, .ref 121), (3, .ref 120), (2, .ref 112), (1, .ref 0), (0, .ref 300)]) C dL_law_1451 (by decide) rfl ?_
    refine q_aload_n C dL_law_1453 rfl rfl ?_
    refine q_aload_n C dL_law_1454 rfl rfl ?_
    refine q_iload C dL_law_1455 rfl ?_
    refine q_iconst (v := 1) C dL_law_1457 (by decide) ?_
    refine q_iaddN (a := i) (b := 1) C dL_law_1458 rfl rfl ?_
    refine q_sld (j := i + 1) C (hC.2.2 _ _) rfl (by omega) hn dL_law_1459 ?_
    refine q_ci1 C hm myX7_line mlL_197 q_s112 ⟨by decide, by decide⟩ (Nat.le_of_ble_eq_true rfl) dL_law_1460 ?_
    refine q_istore (lv' := [(7, .int v), (6, .int 0), (5, .int (nI i)), (4, .ref 121), (3, .ref 120), (2, .ref 112), (1, .ref 0), (0, .ref 300)]) C dL_law_1463 (by decide) rfl ?_
    refine q_aload_n C dL_law_1465 rfl rfl ?_
    refine q_ci0 C (q_Fi.cv (v' := 0) ht.1 (c_X7_thrown l S2)) myX7_thrown mlL_125 q_s112 ⟨by decide, by decide⟩ (Nat.le_of_ble_eq_true rfl) dL_law_1466 ?_
    refine q_iload C dL_law_1469 rfl ?_
    refine q_icmp_eq (tgt := 1476) C dL_law_1471 (by decide) (fun _ => ?_) (fun h9 => absurd rfl h9)
    refine q_iload C dL_law_1476 rfl ?_
    refine q_if_ne (tgt := 1493) C dL_law_1478 (by decide) (fun h9 => absurd h9 (by decide)) (fun _ => ?_)
    refine q_aload_n C dL_law_1481 rfl rfl ?_
    refine q_iconst (v := 0) C dL_law_1482 (by decide) ?_
    refine q_lald C dL_law_1483 ?_
    refine q_iload C dL_law_1484 rfl ?_
    refine q_i2l C dL_law_1486 ?_
    refine q_lcmpE C (by rw [show v = w from ht.2.symm]; rfl) dL_law_1487 ?_
    refine q_if_eq (tgt := 1493) C dL_law_1488 (by decide) (fun _ => ?_) (fun h9 => absurd h9 (by decide))
    refine q_goto (tgt := 2016) C dL_law_1493 (by decide) ?_
    exact q_Vsub (kk _) (fun q hq => by simp only [List.mem_cons, List.not_mem_nil, or_false] at hq ⊢; rcases hq with h | h | h | h | h | h <;> simp [h])
  · refine q_aload_n C dL_law_1440 rfl rfl ?_
    refine q_aload_n C dL_law_1441 rfl rfl ?_
    refine q_iload C dL_law_1442 rfl ?_
    refine q_iconst (v := 1) C dL_law_1444 (by decide) ?_
    refine q_iaddN (a := i) (b := 1) C dL_law_1445 rfl rfl ?_
    refine q_sld (j := i + 1) C (hC.2.2 _ _) rfl (by omega) hn dL_law_1446 ?_
    refine q_aload_n C dL_law_1447 rfl rfl ?_
    refine q_lwi3 (hC.2.1 _ _) C (hC.1 _ _ (by omega)) hw mwL_line mlL_195 ⟨by decide, by decide⟩ (Nat.le_of_ble_eq_true rfl) dL_law_1448 ?_
    show q_V l (q_KL K ((fun L9 : q_L => L9) L) (a + 6)) 1451 [(5, .int (nI i)), (4, .ref 121), (3, .ref 120), (2, .ref 112), (1, .ref 0), (0, .ref 300)] [.int (uWc [xENs] E)] S1
    have C := hC.1 ((fun L9 : q_L => L9) L) (a + 6) (by omega)
    refine q_istore (lv' := [(6, .int (uWc [xENs] E)), (5, .int (nI i)), (4, .ref 121), (3, .ref 120), (2, .ref 112), (1, .ref 0), (0, .ref 300)]) C dL_law_1451 (by decide) rfl ?_
    refine q_aload_n C dL_law_1453 rfl rfl ?_
    refine q_aload_n C dL_law_1454 rfl rfl ?_
    refine q_iload C dL_law_1455 rfl ?_
    refine q_iconst (v := 1) C dL_law_1457 (by decide) ?_
    refine q_iaddN (a := i) (b := 1) C dL_law_1458 rfl rfl ?_
    refine q_sld (j := i + 1) C (hC.2.2 _ _) rfl (by omega) hn dL_law_1459 ?_
    refine q_ci1 C hm myX7_line mlL_197 q_s112 ⟨by decide, by decide⟩ (Nat.le_of_ble_eq_true rfl) dL_law_1460 ?_
    refine q_istore (lv' := [(7, .int v), (6, .int (uWc [xENs] E)), (5, .int (nI i)), (4, .ref 121), (3, .ref 120), (2, .ref 112), (1, .ref 0), (0, .ref 300)]) C dL_law_1463 (by decide) rfl ?_
    refine q_aload_n C dL_law_1465 rfl rfl ?_
    refine q_ci0 C (q_Fi.cv (v' := (uWc [xENs] E)) ht.1 (c_X7_thrown l S2)) myX7_thrown mlL_125 q_s112 ⟨by decide, by decide⟩ (Nat.le_of_ble_eq_true rfl) dL_law_1466 ?_
    refine q_iload C dL_law_1469 rfl ?_
    refine q_icmp_eq (tgt := 1476) C dL_law_1471 (by decide) (fun _ => ?_) (fun h9 => absurd rfl h9)
    refine q_iload C dL_law_1476 rfl ?_
    refine q_if_ne (tgt := 1493) C dL_law_1478 (by decide) (fun _ => ?_) (fun h9 => absurd h9 ht.2)
    refine q_goto (tgt := 2016) C dL_law_1493 (by decide) ?_
    exact q_Vsub (kk _) (fun q hq => by simp only [List.mem_cons, List.not_mem_nil, or_false] at hq ⊢; rcases hq with h | h | h | h | h | h <;> simp [h])
theorem law_character (l : Launch) (K : q_K) (b n : Nat) (xs : Nat → Int32) (hC : q_LC l K b n xs) (L : q_L) (a i : Nat) (S S1 S2 : q_St) (ha : a + 6 ≤ 3072) (hi : i + 3 < n) (hn : n < 2 ^ 31) (o1 : Int32 ⊕ String) (v : Int32) (hw : q_Fw l yL_character kL_character [.ref 0, .int (xs (i + 1)), .ref 120] S (uW [xEIo] (o1, S1))) (hm : q_Fi l yX7_character kX7_character 2 [.ref 112, .int (xs (i + 1))] S1 v S2) (ht : uW_ok [xEIo] o1 v (S2 112 6)) (kk : ∀ L9 : q_L, q_V l (q_KL K L9 (a + 6)) 2016 (q_lvL i) [] S2) : q_V l (q_KL K L a) 1496 (q_lvL i) [] S := by
  have C := hC.1 L a (by omega)
  rcases o1 with w | E
  · refine q_aload_n C dL_law_1496 rfl rfl ?_
    refine q_aload_n C dL_law_1497 rfl rfl ?_
    refine q_iload C dL_law_1498 rfl ?_
    refine q_iconst (v := 1) C dL_law_1500 (by decide) ?_
    refine q_iaddN (a := i) (b := 1) C dL_law_1501 rfl rfl ?_
    refine q_sld (j := i + 1) C (hC.2.2 _ _) rfl (by omega) hn dL_law_1502 ?_
    refine q_aload_n C dL_law_1503 rfl rfl ?_
    refine q_lwi3 (hC.2.1 _ _) C (hC.1 _ _ (by omega)) hw mwL_character mlL_198 ⟨by decide, by decide⟩ (Nat.le_of_ble_eq_true rfl) dL_law_1504 ?_
    show q_V l (q_KL K ((fun L9 : q_L => (vp_updL L9.1 0 w.toInt64, L9.2)) L) (a + 6)) 1507 [(5, .int (nI i)), (4, .ref 121), (3, .ref 120), (2, .ref 112), (1, .ref 0), (0, .ref 300)] [.int 0] S1
    have C := hC.1 ((fun L9 : q_L => (vp_updL L9.1 0 w.toInt64, L9.2)) L) (a + 6) (by omega)
    refine q_istore (lv' := [(6, .int 0), (5, .int (nI i)), (4, .ref 121), (3, .ref 120), (2, .ref 112), (1, .ref 0), (0, .ref 300)]) C dL_law_1507 (by decide) rfl ?_
    refine q_aload_n C dL_law_1509 rfl rfl ?_
    refine q_aload_n C dL_law_1510 rfl rfl ?_
    refine q_iload C dL_law_1511 rfl ?_
    refine q_iconst (v := 1) C dL_law_1513 (by decide) ?_
    refine q_iaddN (a := i) (b := 1) C dL_law_1514 rfl rfl ?_
    refine q_sld (j := i + 1) C (hC.2.2 _ _) rfl (by omega) hn dL_law_1515 ?_
    refine q_ci1 C hm myX7_character mlL_200 q_s112 ⟨by decide, by decide⟩ (Nat.le_of_ble_eq_true rfl) dL_law_1516 ?_
    refine q_istore (lv' := [(7, .int v), (6, .int 0), (5, .int (nI i)), (4, .ref 121), (3, .ref 120), (2, .ref 112), (1, .ref 0), (0, .ref 300)]) C dL_law_1519 (by decide) rfl ?_
    refine q_aload_n C dL_law_1521 rfl rfl ?_
    refine q_ci0 C (q_Fi.cv (v' := 0) ht.1 (c_X7_thrown l S2)) myX7_thrown mlL_125 q_s112 ⟨by decide, by decide⟩ (Nat.le_of_ble_eq_true rfl) dL_law_1522 ?_
    refine q_iload C dL_law_1525 rfl ?_
    refine q_icmp_eq (tgt := 1532) C dL_law_1527 (by decide) (fun _ => ?_) (fun h9 => absurd rfl h9)
    refine q_iload C dL_law_1532 rfl ?_
    refine q_if_ne (tgt := 1549) C dL_law_1534 (by decide) (fun h9 => absurd h9 (by decide)) (fun _ => ?_)
    refine q_aload_n C dL_law_1537 rfl rfl ?_
    refine q_iconst (v := 0) C dL_law_1538 (by decide) ?_
    refine q_lald C dL_law_1539 ?_
    refine q_iload C dL_law_1540 rfl ?_
    refine q_i2l C dL_law_1542 ?_
    refine q_lcmpE C (by rw [show v = w from ht.2.symm]; rfl) dL_law_1543 ?_
    refine q_if_eq (tgt := 1549) C dL_law_1544 (by decide) (fun _ => ?_) (fun h9 => absurd h9 (by decide))
    refine q_goto (tgt := 2016) C dL_law_1549 (by decide) ?_
    exact q_Vsub (kk _) (fun q hq => by simp only [List.mem_cons, List.not_mem_nil, or_false] at hq ⊢; rcases hq with h | h | h | h | h | h <;> simp [h])
  · refine q_aload_n C dL_law_1496 rfl rfl ?_
    refine q_aload_n C dL_law_1497 rfl rfl ?_
    refine q_iload C dL_law_1498 rfl ?_
    refine q_iconst (v := 1) C dL_law_1500 (by decide) ?_
    refine q_iaddN (a := i) (b := 1) C dL_law_1501 rfl rfl ?_
    refine q_sld (j := i + 1) C (hC.2.2 _ _) rfl (by omega) hn dL_law_1502 ?_
    refine q_aload_n C dL_law_1503 rfl rfl ?_
    refine q_lwi3 (hC.2.1 _ _) C (hC.1 _ _ (by omega)) hw mwL_character mlL_198 ⟨by decide, by decide⟩ (Nat.le_of_ble_eq_true rfl) dL_law_1504 ?_
    show q_V l (q_KL K ((fun L9 : q_L => L9) L) (a + 6)) 1507 [(5, .int (nI i)), (4, .ref 121), (3, .ref 120), (2, .ref 112), (1, .ref 0), (0, .ref 300)] [.int (uWc [xEIo] E)] S1
    have C := hC.1 ((fun L9 : q_L => L9) L) (a + 6) (by omega)
    refine q_istore (lv' := [(6, .int (uWc [xEIo] E)), (5, .int (nI i)), (4, .ref 121), (3, .ref 120), (2, .ref 112), (1, .ref 0), (0, .ref 300)]) C dL_law_1507 (by decide) rfl ?_
    refine q_aload_n C dL_law_1509 rfl rfl ?_
    refine q_aload_n C dL_law_1510 rfl rfl ?_
    refine q_iload C dL_law_1511 rfl ?_
    refine q_iconst (v := 1) C dL_law_1513 (by decide) ?_
    refine q_iaddN (a := i) (b := 1) C dL_law_1514 rfl rfl ?_
    refine q_sld (j := i + 1) C (hC.2.2 _ _) rfl (by omega) hn dL_law_1515 ?_
    refine q_ci1 C hm myX7_character mlL_200 q_s112 ⟨by decide, by decide⟩ (Nat.le_of_ble_eq_true rfl) dL_law_1516 ?_
    refine q_istore (lv' := [(7, .int v), (6, .int (uWc [xEIo] E)), (5, .int (nI i)), (4, .ref 121), (3, .ref 120), (2, .ref 112), (1, .ref 0), (0, .ref 300)]) C dL_law_1519 (by decide) rfl ?_
    refine q_aload_n C dL_law_1521 rfl rfl ?_
    refine q_ci0 C (q_Fi.cv (v' := (uWc [xEIo] E)) ht.1 (c_X7_thrown l S2)) myX7_thrown mlL_125 q_s112 ⟨by decide, by decide⟩ (Nat.le_of_ble_eq_true rfl) dL_law_1522 ?_
    refine q_iload C dL_law_1525 rfl ?_
    refine q_icmp_eq (tgt := 1532) C dL_law_1527 (by decide) (fun _ => ?_) (fun h9 => absurd rfl h9)
    refine q_iload C dL_law_1532 rfl ?_
    refine q_if_ne (tgt := 1549) C dL_law_1534 (by decide) (fun _ => ?_) (fun h9 => absurd h9 ht.2)
    refine q_goto (tgt := 2016) C dL_law_1549 (by decide) ?_
    exact q_Vsub (kk _) (fun q hq => by simp only [List.mem_cons, List.not_mem_nil, or_false] at hq ⊢; rcases hq with h | h | h | h | h | h <;> simp [h])
theorem law_append (l : Launch) (K : q_K) (b n : Nat) (xs : Nat → Int32) (hC : q_LC l K b n xs) (L : q_L) (a i : Nat) (S S1 S2 : q_St) (ha : a + 6 ≤ 3072) (hi : i + 3 < n) (hn : n < 2 ^ 31) (o1 : Int32 ⊕ String) (v : Int32) (hw : q_Fw l yL_append kL_append [.ref 0, .int (uCh (xs (i + 1))), .ref 120] S (uW [xEIs] (o1, S1))) (hm : q_Fi l yX7_append kX7_append 1 [.ref 112, .int (uCh (xs (i + 1)))] S1 v S2) (ht : uW_ok [xEIs] o1 v (S2 112 6)) (kk : ∀ L9 : q_L, q_V l (q_KL K L9 (a + 6)) 2016 (q_lvL i) [] S2) : q_V l (q_KL K L a) 1552 (q_lvL i) [] S := by
  have C := hC.1 L a (by omega)
  rcases o1 with w | E
  · refine q_aload_n C dL_law_1552 rfl rfl ?_
    refine q_aload_n C dL_law_1553 rfl rfl ?_
    refine q_iload C dL_law_1554 rfl ?_
    refine q_iconst (v := 1) C dL_law_1556 (by decide) ?_
    refine q_iaddN (a := i) (b := 1) C dL_law_1557 rfl rfl ?_
    refine q_sld (j := i + 1) C (hC.2.2 _ _) rfl (by omega) hn dL_law_1558 ?_
    refine q_i2c (v := uCh (xs (i + 1))) C rfl dL_law_1559 ?_
    refine q_aload_n C dL_law_1560 rfl rfl ?_
    refine q_lwi3 (hC.2.1 _ _) C (hC.1 _ _ (by omega)) hw mwL_append mlL_201 ⟨by decide, by decide⟩ (Nat.le_of_ble_eq_true rfl) dL_law_1561 ?_
    show q_V l (q_KL K ((fun L9 : q_L => (vp_updL L9.1 0 w.toInt64, L9.2)) L) (a + 6)) 1564 [(5, .int (nI i)), (4, .ref 121), (3, .ref 120), (2, .ref 112), (1, .ref 0), (0, .ref 300)] [.int 0] S1
    have C := hC.1 ((fun L9 : q_L => (vp_updL L9.1 0 w.toInt64, L9.2)) L) (a + 6) (by omega)
    refine q_istore (lv' := [(6, .int 0), (5, .int (nI i)), (4, .ref 121), (3, .ref 120), (2, .ref 112), (1, .ref 0), (0, .ref 300)]) C dL_law_1564 (by decide) rfl ?_
    refine q_aload_n C dL_law_1566 rfl rfl ?_
    refine q_aload_n C dL_law_1567 rfl rfl ?_
    refine q_iload C dL_law_1568 rfl ?_
    refine q_iconst (v := 1) C dL_law_1570 (by decide) ?_
    refine q_iaddN (a := i) (b := 1) C dL_law_1571 rfl rfl ?_
    refine q_sld (j := i + 1) C (hC.2.2 _ _) rfl (by omega) hn dL_law_1572 ?_
    refine q_i2c (v := uCh (xs (i + 1))) C rfl dL_law_1573 ?_
    refine q_ci1 C hm myX7_append mlL_204 q_s112 ⟨by decide, by decide⟩ (Nat.le_of_ble_eq_true rfl) dL_law_1574 ?_
    refine q_istore (lv' := [(7, .int v), (6, .int 0), (5, .int (nI i)), (4, .ref 121), (3, .ref 120), (2, .ref 112), (1, .ref 0), (0, .ref 300)]) C dL_law_1577 (by decide) rfl ?_
    refine q_aload_n C dL_law_1579 rfl rfl ?_
    refine q_ci0 C (q_Fi.cv (v' := 0) ht.1 (c_X7_thrown l S2)) myX7_thrown mlL_125 q_s112 ⟨by decide, by decide⟩ (Nat.le_of_ble_eq_true rfl) dL_law_1580 ?_
    refine q_iload C dL_law_1583 rfl ?_
    refine q_icmp_eq (tgt := 1590) C dL_law_1585 (by decide) (fun _ => ?_) (fun h9 => absurd rfl h9)
    refine q_iload C dL_law_1590 rfl ?_
    refine q_if_ne (tgt := 1607) C dL_law_1592 (by decide) (fun h9 => absurd h9 (by decide)) (fun _ => ?_)
    refine q_aload_n C dL_law_1595 rfl rfl ?_
    refine q_iconst (v := 0) C dL_law_1596 (by decide) ?_
    refine q_lald C dL_law_1597 ?_
    refine q_iload C dL_law_1598 rfl ?_
    refine q_i2l C dL_law_1600 ?_
    refine q_lcmpE C (by rw [show v = w from ht.2.symm]; rfl) dL_law_1601 ?_
    refine q_if_eq (tgt := 1607) C dL_law_1602 (by decide) (fun _ => ?_) (fun h9 => absurd h9 (by decide))
    refine q_goto (tgt := 2016) C dL_law_1607 (by decide) ?_
    exact q_Vsub (kk _) (fun q hq => by simp only [List.mem_cons, List.not_mem_nil, or_false] at hq ⊢; rcases hq with h | h | h | h | h | h <;> simp [h])
  · refine q_aload_n C dL_law_1552 rfl rfl ?_
    refine q_aload_n C dL_law_1553 rfl rfl ?_
    refine q_iload C dL_law_1554 rfl ?_
    refine q_iconst (v := 1) C dL_law_1556 (by decide) ?_
    refine q_iaddN (a := i) (b := 1) C dL_law_1557 rfl rfl ?_
    refine q_sld (j := i + 1) C (hC.2.2 _ _) rfl (by omega) hn dL_law_1558 ?_
    refine q_i2c (v := uCh (xs (i + 1))) C rfl dL_law_1559 ?_
    refine q_aload_n C dL_law_1560 rfl rfl ?_
    refine q_lwi3 (hC.2.1 _ _) C (hC.1 _ _ (by omega)) hw mwL_append mlL_201 ⟨by decide, by decide⟩ (Nat.le_of_ble_eq_true rfl) dL_law_1561 ?_
    show q_V l (q_KL K ((fun L9 : q_L => L9) L) (a + 6)) 1564 [(5, .int (nI i)), (4, .ref 121), (3, .ref 120), (2, .ref 112), (1, .ref 0), (0, .ref 300)] [.int (uWc [xEIs] E)] S1
    have C := hC.1 ((fun L9 : q_L => L9) L) (a + 6) (by omega)
    refine q_istore (lv' := [(6, .int (uWc [xEIs] E)), (5, .int (nI i)), (4, .ref 121), (3, .ref 120), (2, .ref 112), (1, .ref 0), (0, .ref 300)]) C dL_law_1564 (by decide) rfl ?_
    refine q_aload_n C dL_law_1566 rfl rfl ?_
    refine q_aload_n C dL_law_1567 rfl rfl ?_
    refine q_iload C dL_law_1568 rfl ?_
    refine q_iconst (v := 1) C dL_law_1570 (by decide) ?_
    refine q_iaddN (a := i) (b := 1) C dL_law_1571 rfl rfl ?_
    refine q_sld (j := i + 1) C (hC.2.2 _ _) rfl (by omega) hn dL_law_1572 ?_
    refine q_i2c (v := uCh (xs (i + 1))) C rfl dL_law_1573 ?_
    refine q_ci1 C hm myX7_append mlL_204 q_s112 ⟨by decide, by decide⟩ (Nat.le_of_ble_eq_true rfl) dL_law_1574 ?_
    refine q_istore (lv' := [(7, .int v), (6, .int (uWc [xEIs] E)), (5, .int (nI i)), (4, .ref 121), (3, .ref 120), (2, .ref 112), (1, .ref 0), (0, .ref 300)]) C dL_law_1577 (by decide) rfl ?_
    refine q_aload_n C dL_law_1579 rfl rfl ?_
    refine q_ci0 C (q_Fi.cv (v' := (uWc [xEIs] E)) ht.1 (c_X7_thrown l S2)) myX7_thrown mlL_125 q_s112 ⟨by decide, by decide⟩ (Nat.le_of_ble_eq_true rfl) dL_law_1580 ?_
    refine q_iload C dL_law_1583 rfl ?_
    refine q_icmp_eq (tgt := 1590) C dL_law_1585 (by decide) (fun _ => ?_) (fun h9 => absurd rfl h9)
    refine q_iload C dL_law_1590 rfl ?_
    refine q_if_ne (tgt := 1607) C dL_law_1592 (by decide) (fun _ => ?_) (fun h9 => absurd h9 ht.2)
    refine q_goto (tgt := 2016) C dL_law_1607 (by decide) ?_
    exact q_Vsub (kk _) (fun q hq => by simp only [List.mem_cons, List.not_mem_nil, or_false] at hq ⊢; rcases hq with h | h | h | h | h | h <;> simp [h])
theorem law_run (l : Launch) (K : q_K) (b n : Nat) (xs : Nat → Int32) (hC : q_LC l K b n xs) (L : q_L) (a i : Nat) (S S1 S2 : q_St) (ha : a + 6 ≤ 3072) (hi : i + 3 < n) (hn : n < 2 ^ 31) (o1 : Int32 ⊕ String) (v : Int32) (hw : q_Fw l yL_run kL_run [.ref 0, .ref 120] S (uW [xEIa, xEUn] (o1, S1))) (hm : q_Fi l yX7_run kX7_run 7 [.ref 112] S1 v S2) (ht : uW_ok [xEIa, xEUn] o1 v (S2 112 6)) (kk : ∀ L9 : q_L, q_V l (q_KL K L9 (a + 6)) 2016 (q_lvL i) [] S2) : q_V l (q_KL K L a) 1610 (q_lvL i) [] S := by
  have C := hC.1 L a (by omega)
  rcases o1 with w | E
  · refine q_aload_n C dL_law_1610 rfl rfl ?_
    refine q_aload_n C dL_law_1611 rfl rfl ?_
    refine q_lwi2 (hC.2.1 _ _) C (hC.1 _ _ (by omega)) hw mwL_run mlL_205 ⟨by decide, by decide⟩ (Nat.le_of_ble_eq_true rfl) dL_law_1612 ?_
    show q_V l (q_KL K ((fun L9 : q_L => (vp_updL L9.1 0 w.toInt64, L9.2)) L) (a + 6)) 1615 [(5, .int (nI i)), (4, .ref 121), (3, .ref 120), (2, .ref 112), (1, .ref 0), (0, .ref 300)] [.int 0] S1
    have C := hC.1 ((fun L9 : q_L => (vp_updL L9.1 0 w.toInt64, L9.2)) L) (a + 6) (by omega)
    refine q_istore (lv' := [(6, .int 0), (5, .int (nI i)), (4, .ref 121), (3, .ref 120), (2, .ref 112), (1, .ref 0), (0, .ref 300)]) C dL_law_1615 (by decide) rfl ?_
    refine q_aload_n C dL_law_1617 rfl rfl ?_
    refine q_ci0 C hm myX7_run mlL_207 q_s112 ⟨by decide, by decide⟩ (Nat.le_of_ble_eq_true rfl) dL_law_1618 ?_
    refine q_istore (lv' := [(7, .int v), (6, .int 0), (5, .int (nI i)), (4, .ref 121), (3, .ref 120), (2, .ref 112), (1, .ref 0), (0, .ref 300)]) C dL_law_1621 (by decide) rfl ?_
    refine q_aload_n C dL_law_1623 rfl rfl ?_
    refine q_ci0 C (q_Fi.cv (v' := 0) ht.1 (c_X7_thrown l S2)) myX7_thrown mlL_125 q_s112 ⟨by decide, by decide⟩ (Nat.le_of_ble_eq_true rfl) dL_law_1624 ?_
    refine q_iload C dL_law_1627 rfl ?_
    refine q_icmp_eq (tgt := 1634) C dL_law_1629 (by decide) (fun _ => ?_) (fun h9 => absurd rfl h9)
    refine q_iload C dL_law_1634 rfl ?_
    refine q_if_ne (tgt := 1651) C dL_law_1636 (by decide) (fun h9 => absurd h9 (by decide)) (fun _ => ?_)
    refine q_aload_n C dL_law_1639 rfl rfl ?_
    refine q_iconst (v := 0) C dL_law_1640 (by decide) ?_
    refine q_lald C dL_law_1641 ?_
    refine q_iload C dL_law_1642 rfl ?_
    refine q_i2l C dL_law_1644 ?_
    refine q_lcmpE C (by rw [show v = w from ht.2.symm]; rfl) dL_law_1645 ?_
    refine q_if_eq (tgt := 1651) C dL_law_1646 (by decide) (fun _ => ?_) (fun h9 => absurd h9 (by decide))
    refine q_goto (tgt := 2016) C dL_law_1651 (by decide) ?_
    exact q_Vsub (kk _) (fun q hq => by simp only [List.mem_cons, List.not_mem_nil, or_false] at hq ⊢; rcases hq with h | h | h | h | h | h <;> simp [h])
  · refine q_aload_n C dL_law_1610 rfl rfl ?_
    refine q_aload_n C dL_law_1611 rfl rfl ?_
    refine q_lwi2 (hC.2.1 _ _) C (hC.1 _ _ (by omega)) hw mwL_run mlL_205 ⟨by decide, by decide⟩ (Nat.le_of_ble_eq_true rfl) dL_law_1612 ?_
    show q_V l (q_KL K ((fun L9 : q_L => L9) L) (a + 6)) 1615 [(5, .int (nI i)), (4, .ref 121), (3, .ref 120), (2, .ref 112), (1, .ref 0), (0, .ref 300)] [.int (uWc [xEIa, xEUn] E)] S1
    have C := hC.1 ((fun L9 : q_L => L9) L) (a + 6) (by omega)
    refine q_istore (lv' := [(6, .int (uWc [xEIa, xEUn] E)), (5, .int (nI i)), (4, .ref 121), (3, .ref 120), (2, .ref 112), (1, .ref 0), (0, .ref 300)]) C dL_law_1615 (by decide) rfl ?_
    refine q_aload_n C dL_law_1617 rfl rfl ?_
    refine q_ci0 C hm myX7_run mlL_207 q_s112 ⟨by decide, by decide⟩ (Nat.le_of_ble_eq_true rfl) dL_law_1618 ?_
    refine q_istore (lv' := [(7, .int v), (6, .int (uWc [xEIa, xEUn] E)), (5, .int (nI i)), (4, .ref 121), (3, .ref 120), (2, .ref 112), (1, .ref 0), (0, .ref 300)]) C dL_law_1621 (by decide) rfl ?_
    refine q_aload_n C dL_law_1623 rfl rfl ?_
    refine q_ci0 C (q_Fi.cv (v' := (uWc [xEIa, xEUn] E)) ht.1 (c_X7_thrown l S2)) myX7_thrown mlL_125 q_s112 ⟨by decide, by decide⟩ (Nat.le_of_ble_eq_true rfl) dL_law_1624 ?_
    refine q_iload C dL_law_1627 rfl ?_
    refine q_icmp_eq (tgt := 1634) C dL_law_1629 (by decide) (fun _ => ?_) (fun h9 => absurd rfl h9)
    refine q_iload C dL_law_1634 rfl ?_
    refine q_if_ne (tgt := 1651) C dL_law_1636 (by decide) (fun _ => ?_) (fun h9 => absurd h9 ht.2)
    refine q_goto (tgt := 2016) C dL_law_1651 (by decide) ?_
    exact q_Vsub (kk _) (fun q hq => by simp only [List.mem_cons, List.not_mem_nil, or_false] at hq ⊢; rcases hq with h | h | h | h | h | h <;> simp [h])
theorem law_errorPosition (l : Launch) (K : q_K) (b n : Nat) (xs : Nat → Int32) (hC : q_LC l K b n xs) (L : q_L) (a i : Nat) (S S1 S2 : q_St) (ha : a + 6 ≤ 3072) (hi : i + 3 < n) (hn : n < 2 ^ 31) (v : Int32) (hc : q_Fi l yX6_errorPosition kX6_errorPosition 1 [.ref 0] S v S1) (hm : q_Fi l yX7_errorPosition kX7_errorPosition 1 [.ref 112] S1 v S2) (kk : ∀ L9 : q_L, q_V l (q_KL K L9 (a + 6)) 2016 (q_lvL i) [] S2) : q_V l (q_KL K L a) 1654 (q_lvL i) [] S := by
  refine q_KLw (Nat.le_add_right a 6) ?_
  have C := hC.1 L (a + 6) (by omega)
  refine q_aload_n C dL_law_1654 rfl rfl ?_
  refine q_ci0 C hc myX6_errorPosition mlL_208 q_s0 ⟨by decide, by decide⟩ (Nat.le_of_ble_eq_true rfl) dL_law_1655 ?_
  refine q_aload_n C dL_law_1658 rfl rfl ?_
  refine q_ci0 C hm myX7_errorPosition mlL_211 q_s112 ⟨by decide, by decide⟩ (Nat.le_of_ble_eq_true rfl) dL_law_1659 ?_
  refine q_icmp_eq (tgt := 2016) C dL_law_1662 (by decide) (fun _ => ?_) (fun h9 => absurd rfl h9)
  exact q_Vsub (kk _) (fun q hq => by simp only [List.mem_cons, List.not_mem_nil, or_false] at hq ⊢; rcases hq with h | h | h | h | h | h <;> simp [h])
theorem law_refusal (l : Launch) (K : q_K) (b n : Nat) (xs : Nat → Int32) (hC : q_LC l K b n xs) (L : q_L) (a i : Nat) (S S1 S2 : q_St) (ha : a + 6 ≤ 3072) (hi : i + 3 < n) (hn : n < 2 ^ 31) (o1 : Int32 ⊕ String) (v : Int32) (hw : q_Fw l yL_refusal kL_refusal [.ref 0, .int (uB (xs (i + 1))), .ref 120] S (uW [xENs] (o1, S1))) (hm : q_Fi l yX7_refusal kX7_refusal 1 [.ref 112, .int (uB (xs (i + 1)))] S1 v S2) (ht : uW_ok [xENs] o1 v (S2 112 6)) (kk : ∀ L9 : q_L, q_V l (q_KL K L9 (a + 6)) 2016 (q_lvL i) [] S2) : q_V l (q_KL K L a) 1667 (q_lvL i) [] S := by
  by_cases hz : xs (i + 1) = 0
  · rw [show uB (xs (i + 1)) = 0 from if_pos hz] at hw hm
    have C := hC.1 L a (by omega)
    rcases o1 with w | E
    · refine q_aload_n C dL_law_1667 rfl rfl ?_
      refine q_aload_n C dL_law_1668 rfl rfl ?_
      refine q_iload C dL_law_1669 rfl ?_
      refine q_iconst (v := 1) C dL_law_1671 (by decide) ?_
      refine q_iaddN (a := i) (b := 1) C dL_law_1672 rfl rfl ?_
      refine q_sld (j := i + 1) C (hC.2.2 _ _) rfl (by omega) hn dL_law_1673 ?_
      refine q_if_eq (tgt := 1681) C dL_law_1674 (by decide) (fun _ => ?_) (fun h9 => absurd hz h9)
      refine q_iconst (v := 0) C dL_law_1681 (by decide) ?_
      refine q_aload_n C dL_law_1682 rfl rfl ?_
      refine q_lwi3 (hC.2.1 _ _) C (hC.1 _ _ (by omega)) hw mwL_refusal mlL_212 ⟨by decide, by decide⟩ (Nat.le_of_ble_eq_true rfl) dL_law_1683 ?_
      show q_V l (q_KL K ((fun L9 : q_L => (vp_updL L9.1 0 w.toInt64, L9.2)) L) (a + 6)) 1686 [(5, .int (nI i)), (4, .ref 121), (3, .ref 120), (2, .ref 112), (1, .ref 0), (0, .ref 300)] [.int 0] S1
      have C := hC.1 ((fun L9 : q_L => (vp_updL L9.1 0 w.toInt64, L9.2)) L) (a + 6) (by omega)
      refine q_istore (lv' := [(6, .int 0), (5, .int (nI i)), (4, .ref 121), (3, .ref 120), (2, .ref 112), (1, .ref 0), (0, .ref 300)]) C dL_law_1686 (by decide) rfl ?_
      refine q_aload_n C dL_law_1688 rfl rfl ?_
      refine q_aload_n C dL_law_1689 rfl rfl ?_
      refine q_iload C dL_law_1690 rfl ?_
      refine q_iconst (v := 1) C dL_law_1692 (by decide) ?_
      refine q_iaddN (a := i) (b := 1) C dL_law_1693 rfl rfl ?_
      refine q_sld (j := i + 1) C (hC.2.2 _ _) rfl (by omega) hn dL_law_1694 ?_
      refine q_if_eq (tgt := 1702) C dL_law_1695 (by decide) (fun _ => ?_) (fun h9 => absurd hz h9)
      refine q_iconst (v := 0) C dL_law_1702 (by decide) ?_
      refine q_ci1 C hm myX7_refusal mlL_215 q_s112 ⟨by decide, by decide⟩ (Nat.le_of_ble_eq_true rfl) dL_law_1703 ?_
      refine q_istore (lv' := [(7, .int v), (6, .int 0), (5, .int (nI i)), (4, .ref 121), (3, .ref 120), (2, .ref 112), (1, .ref 0), (0, .ref 300)]) C dL_law_1706 (by decide) rfl ?_
      refine q_aload_n C dL_law_1708 rfl rfl ?_
      refine q_ci0 C (q_Fi.cv (v' := 0) ht.1 (c_X7_thrown l S2)) myX7_thrown mlL_125 q_s112 ⟨by decide, by decide⟩ (Nat.le_of_ble_eq_true rfl) dL_law_1709 ?_
      refine q_iload C dL_law_1712 rfl ?_
      refine q_icmp_eq (tgt := 1719) C dL_law_1714 (by decide) (fun _ => ?_) (fun h9 => absurd rfl h9)
      refine q_iload C dL_law_1719 rfl ?_
      refine q_if_ne (tgt := 1736) C dL_law_1721 (by decide) (fun h9 => absurd h9 (by decide)) (fun _ => ?_)
      refine q_aload_n C dL_law_1724 rfl rfl ?_
      refine q_iconst (v := 0) C dL_law_1725 (by decide) ?_
      refine q_lald C dL_law_1726 ?_
      refine q_iload C dL_law_1727 rfl ?_
      refine q_i2l C dL_law_1729 ?_
      refine q_lcmpE C (by rw [show v = w from ht.2.symm]; rfl) dL_law_1730 ?_
      refine q_if_eq (tgt := 1736) C dL_law_1731 (by decide) (fun _ => ?_) (fun h9 => absurd h9 (by decide))
      refine q_goto (tgt := 2016) C dL_law_1736 (by decide) ?_
      exact q_Vsub (kk _) (fun q hq => by simp only [List.mem_cons, List.not_mem_nil, or_false] at hq ⊢; rcases hq with h | h | h | h | h | h <;> simp [h])
    · refine q_aload_n C dL_law_1667 rfl rfl ?_
      refine q_aload_n C dL_law_1668 rfl rfl ?_
      refine q_iload C dL_law_1669 rfl ?_
      refine q_iconst (v := 1) C dL_law_1671 (by decide) ?_
      refine q_iaddN (a := i) (b := 1) C dL_law_1672 rfl rfl ?_
      refine q_sld (j := i + 1) C (hC.2.2 _ _) rfl (by omega) hn dL_law_1673 ?_
      refine q_if_eq (tgt := 1681) C dL_law_1674 (by decide) (fun _ => ?_) (fun h9 => absurd hz h9)
      refine q_iconst (v := 0) C dL_law_1681 (by decide) ?_
      refine q_aload_n C dL_law_1682 rfl rfl ?_
      refine q_lwi3 (hC.2.1 _ _) C (hC.1 _ _ (by omega)) hw mwL_refusal mlL_212 ⟨by decide, by decide⟩ (Nat.le_of_ble_eq_true rfl) dL_law_1683 ?_
      show q_V l (q_KL K ((fun L9 : q_L => L9) L) (a + 6)) 1686 [(5, .int (nI i)), (4, .ref 121), (3, .ref 120), (2, .ref 112), (1, .ref 0), (0, .ref 300)] [.int (uWc [xENs] E)] S1
      have C := hC.1 ((fun L9 : q_L => L9) L) (a + 6) (by omega)
      refine q_istore (lv' := [(6, .int (uWc [xENs] E)), (5, .int (nI i)), (4, .ref 121), (3, .ref 120), (2, .ref 112), (1, .ref 0), (0, .ref 300)]) C dL_law_1686 (by decide) rfl ?_
      refine q_aload_n C dL_law_1688 rfl rfl ?_
      refine q_aload_n C dL_law_1689 rfl rfl ?_
      refine q_iload C dL_law_1690 rfl ?_
      refine q_iconst (v := 1) C dL_law_1692 (by decide) ?_
      refine q_iaddN (a := i) (b := 1) C dL_law_1693 rfl rfl ?_
      refine q_sld (j := i + 1) C (hC.2.2 _ _) rfl (by omega) hn dL_law_1694 ?_
      refine q_if_eq (tgt := 1702) C dL_law_1695 (by decide) (fun _ => ?_) (fun h9 => absurd hz h9)
      refine q_iconst (v := 0) C dL_law_1702 (by decide) ?_
      refine q_ci1 C hm myX7_refusal mlL_215 q_s112 ⟨by decide, by decide⟩ (Nat.le_of_ble_eq_true rfl) dL_law_1703 ?_
      refine q_istore (lv' := [(7, .int v), (6, .int (uWc [xENs] E)), (5, .int (nI i)), (4, .ref 121), (3, .ref 120), (2, .ref 112), (1, .ref 0), (0, .ref 300)]) C dL_law_1706 (by decide) rfl ?_
      refine q_aload_n C dL_law_1708 rfl rfl ?_
      refine q_ci0 C (q_Fi.cv (v' := (uWc [xENs] E)) ht.1 (c_X7_thrown l S2)) myX7_thrown mlL_125 q_s112 ⟨by decide, by decide⟩ (Nat.le_of_ble_eq_true rfl) dL_law_1709 ?_
      refine q_iload C dL_law_1712 rfl ?_
      refine q_icmp_eq (tgt := 1719) C dL_law_1714 (by decide) (fun _ => ?_) (fun h9 => absurd rfl h9)
      refine q_iload C dL_law_1719 rfl ?_
      refine q_if_ne (tgt := 1736) C dL_law_1721 (by decide) (fun _ => ?_) (fun h9 => absurd h9 ht.2)
      refine q_goto (tgt := 2016) C dL_law_1736 (by decide) ?_
      exact q_Vsub (kk _) (fun q hq => by simp only [List.mem_cons, List.not_mem_nil, or_false] at hq ⊢; rcases hq with h | h | h | h | h | h <;> simp [h])
  · rw [show uB (xs (i + 1)) = 1 from if_neg hz] at hw hm
    have C := hC.1 L a (by omega)
    rcases o1 with w | E
    · refine q_aload_n C dL_law_1667 rfl rfl ?_
      refine q_aload_n C dL_law_1668 rfl rfl ?_
      refine q_iload C dL_law_1669 rfl ?_
      refine q_iconst (v := 1) C dL_law_1671 (by decide) ?_
      refine q_iaddN (a := i) (b := 1) C dL_law_1672 rfl rfl ?_
      refine q_sld (j := i + 1) C (hC.2.2 _ _) rfl (by omega) hn dL_law_1673 ?_
      refine q_if_eq (tgt := 1681) C dL_law_1674 (by decide) (fun h9 => absurd h9 hz) (fun _ => ?_)
      refine q_iconst (v := 1) C dL_law_1677 (by decide) ?_
      refine q_goto (tgt := 1682) C dL_law_1678 (by decide) ?_
      refine q_aload_n C dL_law_1682 rfl rfl ?_
      refine q_lwi3 (hC.2.1 _ _) C (hC.1 _ _ (by omega)) hw mwL_refusal mlL_212 ⟨by decide, by decide⟩ (Nat.le_of_ble_eq_true rfl) dL_law_1683 ?_
      show q_V l (q_KL K ((fun L9 : q_L => (vp_updL L9.1 0 w.toInt64, L9.2)) L) (a + 6)) 1686 [(5, .int (nI i)), (4, .ref 121), (3, .ref 120), (2, .ref 112), (1, .ref 0), (0, .ref 300)] [.int 0] S1
      have C := hC.1 ((fun L9 : q_L => (vp_updL L9.1 0 w.toInt64, L9.2)) L) (a + 6) (by omega)
      refine q_istore (lv' := [(6, .int 0), (5, .int (nI i)), (4, .ref 121), (3, .ref 120), (2, .ref 112), (1, .ref 0), (0, .ref 300)]) C dL_law_1686 (by decide) rfl ?_
      refine q_aload_n C dL_law_1688 rfl rfl ?_
      refine q_aload_n C dL_law_1689 rfl rfl ?_
      refine q_iload C dL_law_1690 rfl ?_
      refine q_iconst (v := 1) C dL_law_1692 (by decide) ?_
      refine q_iaddN (a := i) (b := 1) C dL_law_1693 rfl rfl ?_
      refine q_sld (j := i + 1) C (hC.2.2 _ _) rfl (by omega) hn dL_law_1694 ?_
      refine q_if_eq (tgt := 1702) C dL_law_1695 (by decide) (fun h9 => absurd h9 hz) (fun _ => ?_)
      refine q_iconst (v := 1) C dL_law_1698 (by decide) ?_
      refine q_goto (tgt := 1703) C dL_law_1699 (by decide) ?_
      refine q_ci1 C hm myX7_refusal mlL_215 q_s112 ⟨by decide, by decide⟩ (Nat.le_of_ble_eq_true rfl) dL_law_1703 ?_
      refine q_istore (lv' := [(7, .int v), (6, .int 0), (5, .int (nI i)), (4, .ref 121), (3, .ref 120), (2, .ref 112), (1, .ref 0), (0, .ref 300)]) C dL_law_1706 (by decide) rfl ?_
      refine q_aload_n C dL_law_1708 rfl rfl ?_
      refine q_ci0 C (q_Fi.cv (v' := 0) ht.1 (c_X7_thrown l S2)) myX7_thrown mlL_125 q_s112 ⟨by decide, by decide⟩ (Nat.le_of_ble_eq_true rfl) dL_law_1709 ?_
      refine q_iload C dL_law_1712 rfl ?_
      refine q_icmp_eq (tgt := 1719) C dL_law_1714 (by decide) (fun _ => ?_) (fun h9 => absurd rfl h9)
      refine q_iload C dL_law_1719 rfl ?_
      refine q_if_ne (tgt := 1736) C dL_law_1721 (by decide) (fun h9 => absurd h9 (by decide)) (fun _ => ?_)
      refine q_aload_n C dL_law_1724 rfl rfl ?_
      refine q_iconst (v := 0) C dL_law_1725 (by decide) ?_
      refine q_lald C dL_law_1726 ?_
      refine q_iload C dL_law_1727 rfl ?_
      refine q_i2l C dL_law_1729 ?_
      refine q_lcmpE C (by rw [show v = w from ht.2.symm]; rfl) dL_law_1730 ?_
      refine q_if_eq (tgt := 1736) C dL_law_1731 (by decide) (fun _ => ?_) (fun h9 => absurd h9 (by decide))
      refine q_goto (tgt := 2016) C dL_law_1736 (by decide) ?_
      exact q_Vsub (kk _) (fun q hq => by simp only [List.mem_cons, List.not_mem_nil, or_false] at hq ⊢; rcases hq with h | h | h | h | h | h <;> simp [h])
    · refine q_aload_n C dL_law_1667 rfl rfl ?_
      refine q_aload_n C dL_law_1668 rfl rfl ?_
      refine q_iload C dL_law_1669 rfl ?_
      refine q_iconst (v := 1) C dL_law_1671 (by decide) ?_
      refine q_iaddN (a := i) (b := 1) C dL_law_1672 rfl rfl ?_
      refine q_sld (j := i + 1) C (hC.2.2 _ _) rfl (by omega) hn dL_law_1673 ?_
      refine q_if_eq (tgt := 1681) C dL_law_1674 (by decide) (fun h9 => absurd h9 hz) (fun _ => ?_)
      refine q_iconst (v := 1) C dL_law_1677 (by decide) ?_
      refine q_goto (tgt := 1682) C dL_law_1678 (by decide) ?_
      refine q_aload_n C dL_law_1682 rfl rfl ?_
      refine q_lwi3 (hC.2.1 _ _) C (hC.1 _ _ (by omega)) hw mwL_refusal mlL_212 ⟨by decide, by decide⟩ (Nat.le_of_ble_eq_true rfl) dL_law_1683 ?_
      show q_V l (q_KL K ((fun L9 : q_L => L9) L) (a + 6)) 1686 [(5, .int (nI i)), (4, .ref 121), (3, .ref 120), (2, .ref 112), (1, .ref 0), (0, .ref 300)] [.int (uWc [xENs] E)] S1
      have C := hC.1 ((fun L9 : q_L => L9) L) (a + 6) (by omega)
      refine q_istore (lv' := [(6, .int (uWc [xENs] E)), (5, .int (nI i)), (4, .ref 121), (3, .ref 120), (2, .ref 112), (1, .ref 0), (0, .ref 300)]) C dL_law_1686 (by decide) rfl ?_
      refine q_aload_n C dL_law_1688 rfl rfl ?_
      refine q_aload_n C dL_law_1689 rfl rfl ?_
      refine q_iload C dL_law_1690 rfl ?_
      refine q_iconst (v := 1) C dL_law_1692 (by decide) ?_
      refine q_iaddN (a := i) (b := 1) C dL_law_1693 rfl rfl ?_
      refine q_sld (j := i + 1) C (hC.2.2 _ _) rfl (by omega) hn dL_law_1694 ?_
      refine q_if_eq (tgt := 1702) C dL_law_1695 (by decide) (fun h9 => absurd h9 hz) (fun _ => ?_)
      refine q_iconst (v := 1) C dL_law_1698 (by decide) ?_
      refine q_goto (tgt := 1703) C dL_law_1699 (by decide) ?_
      refine q_ci1 C hm myX7_refusal mlL_215 q_s112 ⟨by decide, by decide⟩ (Nat.le_of_ble_eq_true rfl) dL_law_1703 ?_
      refine q_istore (lv' := [(7, .int v), (6, .int (uWc [xENs] E)), (5, .int (nI i)), (4, .ref 121), (3, .ref 120), (2, .ref 112), (1, .ref 0), (0, .ref 300)]) C dL_law_1706 (by decide) rfl ?_
      refine q_aload_n C dL_law_1708 rfl rfl ?_
      refine q_ci0 C (q_Fi.cv (v' := (uWc [xENs] E)) ht.1 (c_X7_thrown l S2)) myX7_thrown mlL_125 q_s112 ⟨by decide, by decide⟩ (Nat.le_of_ble_eq_true rfl) dL_law_1709 ?_
      refine q_iload C dL_law_1712 rfl ?_
      refine q_icmp_eq (tgt := 1719) C dL_law_1714 (by decide) (fun _ => ?_) (fun h9 => absurd rfl h9)
      refine q_iload C dL_law_1719 rfl ?_
      refine q_if_ne (tgt := 1736) C dL_law_1721 (by decide) (fun _ => ?_) (fun h9 => absurd h9 ht.2)
      refine q_goto (tgt := 2016) C dL_law_1736 (by decide) ?_
      exact q_Vsub (kk _) (fun q hq => by simp only [List.mem_cons, List.not_mem_nil, or_false] at hq ⊢; rcases hq with h | h | h | h | h | h <;> simp [h])
theorem law_account (l : Launch) (K : q_K) (b n : Nat) (xs : Nat → Int32) (hC : q_LC l K b n xs) (L : q_L) (a i : Nat) (S S1 S2 : q_St) (ha : a + 6 ≤ 3072) (hi : i + 3 < n) (hn : n < 2 ^ 31) (o1 : Int32 ⊕ String) (v : Int32) (hw : q_Fw l yL_account kL_account [.ref 0, .int (xs (i + 1)), .ref 120] S (uW [xEIa] (o1, S1))) (hm : q_Fi l yX7_account kX7_account 5 [.ref 112, .int (xs (i + 1))] S1 v S2) (ht : uW_ok [xEIa] o1 v (S2 112 6)) (kk : ∀ L9 : q_L, q_V l (q_KL K L9 (a + 6)) 2016 (q_lvL i) [] S2) : q_V l (q_KL K L a) 1739 (q_lvL i) [] S := by
  have C := hC.1 L a (by omega)
  rcases o1 with w | E
  · refine q_aload_n C dL_law_1739 rfl rfl ?_
    refine q_aload_n C dL_law_1740 rfl rfl ?_
    refine q_iload C dL_law_1741 rfl ?_
    refine q_iconst (v := 1) C dL_law_1743 (by decide) ?_
    refine q_iaddN (a := i) (b := 1) C dL_law_1744 rfl rfl ?_
    refine q_sld (j := i + 1) C (hC.2.2 _ _) rfl (by omega) hn dL_law_1745 ?_
    refine q_aload_n C dL_law_1746 rfl rfl ?_
    refine q_lwi3 (hC.2.1 _ _) C (hC.1 _ _ (by omega)) hw mwL_account mlL_216 ⟨by decide, by decide⟩ (Nat.le_of_ble_eq_true rfl) dL_law_1747 ?_
    show q_V l (q_KL K ((fun L9 : q_L => (vp_updL L9.1 0 w.toInt64, L9.2)) L) (a + 6)) 1750 [(5, .int (nI i)), (4, .ref 121), (3, .ref 120), (2, .ref 112), (1, .ref 0), (0, .ref 300)] [.int 0] S1
    have C := hC.1 ((fun L9 : q_L => (vp_updL L9.1 0 w.toInt64, L9.2)) L) (a + 6) (by omega)
    refine q_istore (lv' := [(6, .int 0), (5, .int (nI i)), (4, .ref 121), (3, .ref 120), (2, .ref 112), (1, .ref 0), (0, .ref 300)]) C dL_law_1750 (by decide) rfl ?_
    refine q_aload_n C dL_law_1752 rfl rfl ?_
    refine q_aload_n C dL_law_1753 rfl rfl ?_
    refine q_iload C dL_law_1754 rfl ?_
    refine q_iconst (v := 1) C dL_law_1756 (by decide) ?_
    refine q_iaddN (a := i) (b := 1) C dL_law_1757 rfl rfl ?_
    refine q_sld (j := i + 1) C (hC.2.2 _ _) rfl (by omega) hn dL_law_1758 ?_
    refine q_ci1 C hm myX7_account mlL_218 q_s112 ⟨by decide, by decide⟩ (Nat.le_of_ble_eq_true rfl) dL_law_1759 ?_
    refine q_istore (lv' := [(7, .int v), (6, .int 0), (5, .int (nI i)), (4, .ref 121), (3, .ref 120), (2, .ref 112), (1, .ref 0), (0, .ref 300)]) C dL_law_1762 (by decide) rfl ?_
    refine q_aload_n C dL_law_1764 rfl rfl ?_
    refine q_ci0 C (q_Fi.cv (v' := 0) ht.1 (c_X7_thrown l S2)) myX7_thrown mlL_125 q_s112 ⟨by decide, by decide⟩ (Nat.le_of_ble_eq_true rfl) dL_law_1765 ?_
    refine q_iload C dL_law_1768 rfl ?_
    refine q_icmp_eq (tgt := 1775) C dL_law_1770 (by decide) (fun _ => ?_) (fun h9 => absurd rfl h9)
    refine q_iload C dL_law_1775 rfl ?_
    refine q_if_ne (tgt := 1792) C dL_law_1777 (by decide) (fun h9 => absurd h9 (by decide)) (fun _ => ?_)
    refine q_aload_n C dL_law_1780 rfl rfl ?_
    refine q_iconst (v := 0) C dL_law_1781 (by decide) ?_
    refine q_lald C dL_law_1782 ?_
    refine q_iload C dL_law_1783 rfl ?_
    refine q_i2l C dL_law_1785 ?_
    refine q_lcmpE C (by rw [show v = w from ht.2.symm]; rfl) dL_law_1786 ?_
    refine q_if_eq (tgt := 1792) C dL_law_1787 (by decide) (fun _ => ?_) (fun h9 => absurd h9 (by decide))
    refine q_goto (tgt := 2016) C dL_law_1792 (by decide) ?_
    exact q_Vsub (kk _) (fun q hq => by simp only [List.mem_cons, List.not_mem_nil, or_false] at hq ⊢; rcases hq with h | h | h | h | h | h <;> simp [h])
  · refine q_aload_n C dL_law_1739 rfl rfl ?_
    refine q_aload_n C dL_law_1740 rfl rfl ?_
    refine q_iload C dL_law_1741 rfl ?_
    refine q_iconst (v := 1) C dL_law_1743 (by decide) ?_
    refine q_iaddN (a := i) (b := 1) C dL_law_1744 rfl rfl ?_
    refine q_sld (j := i + 1) C (hC.2.2 _ _) rfl (by omega) hn dL_law_1745 ?_
    refine q_aload_n C dL_law_1746 rfl rfl ?_
    refine q_lwi3 (hC.2.1 _ _) C (hC.1 _ _ (by omega)) hw mwL_account mlL_216 ⟨by decide, by decide⟩ (Nat.le_of_ble_eq_true rfl) dL_law_1747 ?_
    show q_V l (q_KL K ((fun L9 : q_L => L9) L) (a + 6)) 1750 [(5, .int (nI i)), (4, .ref 121), (3, .ref 120), (2, .ref 112), (1, .ref 0), (0, .ref 300)] [.int (uWc [xEIa] E)] S1
    have C := hC.1 ((fun L9 : q_L => L9) L) (a + 6) (by omega)
    refine q_istore (lv' := [(6, .int (uWc [xEIa] E)), (5, .int (nI i)), (4, .ref 121), (3, .ref 120), (2, .ref 112), (1, .ref 0), (0, .ref 300)]) C dL_law_1750 (by decide) rfl ?_
    refine q_aload_n C dL_law_1752 rfl rfl ?_
    refine q_aload_n C dL_law_1753 rfl rfl ?_
    refine q_iload C dL_law_1754 rfl ?_
    refine q_iconst (v := 1) C dL_law_1756 (by decide) ?_
    refine q_iaddN (a := i) (b := 1) C dL_law_1757 rfl rfl ?_
    refine q_sld (j := i + 1) C (hC.2.2 _ _) rfl (by omega) hn dL_law_1758 ?_
    refine q_ci1 C hm myX7_account mlL_218 q_s112 ⟨by decide, by decide⟩ (Nat.le_of_ble_eq_true rfl) dL_law_1759 ?_
    refine q_istore (lv' := [(7, .int v), (6, .int (uWc [xEIa] E)), (5, .int (nI i)), (4, .ref 121), (3, .ref 120), (2, .ref 112), (1, .ref 0), (0, .ref 300)]) C dL_law_1762 (by decide) rfl ?_
    refine q_aload_n C dL_law_1764 rfl rfl ?_
    refine q_ci0 C (q_Fi.cv (v' := (uWc [xEIa] E)) ht.1 (c_X7_thrown l S2)) myX7_thrown mlL_125 q_s112 ⟨by decide, by decide⟩ (Nat.le_of_ble_eq_true rfl) dL_law_1765 ?_
    refine q_iload C dL_law_1768 rfl ?_
    refine q_icmp_eq (tgt := 1775) C dL_law_1770 (by decide) (fun _ => ?_) (fun h9 => absurd rfl h9)
    refine q_iload C dL_law_1775 rfl ?_
    refine q_if_ne (tgt := 1792) C dL_law_1777 (by decide) (fun _ => ?_) (fun h9 => absurd h9 ht.2)
    refine q_goto (tgt := 2016) C dL_law_1792 (by decide) ?_
    exact q_Vsub (kk _) (fun q hq => by simp only [List.mem_cons, List.not_mem_nil, or_false] at hq ⊢; rcases hq with h | h | h | h | h | h <;> simp [h])
theorem law_isWell (l : Launch) (K : q_K) (b n : Nat) (xs : Nat → Int32) (hC : q_LC l K b n xs) (L : q_L) (a i : Nat) (S S1 S2 : q_St) (ha : a + 6 ≤ 3072) (hi : i + 3 < n) (hn : n < 2 ^ 31) (v : Int32) (hc : q_Fi l yX6_isWell kX6_isWell 5 [.ref 0] S v S1) (hm : q_Fi l yX7_isWell kX7_isWell 5 [.ref 112] S1 v S2) (kk : ∀ L9 : q_L, q_V l (q_KL K L9 (a + 6)) 2016 (q_lvL i) [] S2) : q_V l (q_KL K L a) 1795 (q_lvL i) [] S := by
  refine q_KLw (Nat.le_add_right a 6) ?_
  have C := hC.1 L (a + 6) (by omega)
  refine q_aload_n C dL_law_1795 rfl rfl ?_
  refine q_ci0 C hc myX6_isWell mlL_219 q_s0 ⟨by decide, by decide⟩ (Nat.le_of_ble_eq_true rfl) dL_law_1796 ?_
  refine q_aload_n C dL_law_1799 rfl rfl ?_
  refine q_ci0 C hm myX7_isWell mlL_222 q_s112 ⟨by decide, by decide⟩ (Nat.le_of_ble_eq_true rfl) dL_law_1800 ?_
  refine q_icmp_eq (tgt := 2016) C dL_law_1803 (by decide) (fun _ => ?_) (fun h9 => absurd rfl h9)
  exact q_Vsub (kk _) (fun q hq => by simp only [List.mem_cons, List.not_mem_nil, or_false] at hq ⊢; rcases hq with h | h | h | h | h | h <;> simp [h])
theorem law_meanDoubt (l : Launch) (K : q_K) (b n : Nat) (xs : Nat → Int32) (hC : q_LC l K b n xs) (L : q_L) (a i : Nat) (S S1 S2 : q_St) (ha : a + 6 ≤ 3072) (hi : i + 3 < n) (hn : n < 2 ^ 31) (v : UInt64) (hc : q_Fd l yX6_meanDoubt kX6_meanDoubt 2 [.ref 0] S v S1) (hm : q_Fd l yX7_meanDoubt kX7_meanDoubt 2 [.ref 112] S1 v S2) (hv : FP.Core.dIsNaN v = false) (kk : ∀ L9 : q_L, q_V l (q_KL K L9 (a + 6)) 2016 (q_lvL i) [] S2) : q_V l (q_KL K L a) 1808 (q_lvL i) [] S := by
  refine q_KLw (Nat.le_add_right a 6) ?_
  have C := hC.1 L (a + 6) (by omega)
  refine q_aload_n C dL_law_1808 rfl rfl ?_
  refine q_cd0 C hc myX6_meanDoubt mlL_223 q_s0 ⟨by decide, by decide⟩ (Nat.le_of_ble_eq_true rfl) dL_law_1809 ?_
  refine q_dstore (lv' := [(6, .double v), (5, .int (nI i)), (4, .ref 121), (3, .ref 120), (2, .ref 112), (1, .ref 0), (0, .ref 300)]) C dL_law_1812 (by decide) rfl ?_
  refine q_aload_n C dL_law_1814 rfl rfl ?_
  refine q_cd0 C hm myX7_meanDoubt mlL_227 q_s112 ⟨by decide, by decide⟩ (Nat.le_of_ble_eq_true rfl) dL_law_1815 ?_
  refine q_dstore (lv' := [(8, .double v), (6, .double v), (5, .int (nI i)), (4, .ref 121), (3, .ref 120), (2, .ref 112), (1, .ref 0), (0, .ref 300)]) C dL_law_1818 (by decide) rfl ?_
  refine q_dload C dL_law_1820 rfl ?_
  refine q_dload C dL_law_1822 rfl ?_
  refine q_dcmpE C rfl hv dL_law_1824 ?_
  refine q_if_eq (tgt := 1846) C dL_law_1825 (by decide) (fun _ => ?_) (fun h9 => absurd h9 (by decide))
  refine q_goto (tgt := 2016) C dL_law_1846 (by decide) ?_
  exact q_Vsub (kk _) (fun q hq => by simp only [List.mem_cons, List.not_mem_nil, or_false] at hq ⊢; rcases hq with h | h | h | h | h | h <;> simp [h])
theorem law_sealedShare (l : Launch) (K : q_K) (b n : Nat) (xs : Nat → Int32) (hC : q_LC l K b n xs) (L : q_L) (a i : Nat) (S S1 S2 : q_St) (ha : a + 6 ≤ 3072) (hi : i + 3 < n) (hn : n < 2 ^ 31) (o1 : UInt32 ⊕ String) (v : UInt32) (hw : q_Fw l yL_sealedShare kL_sealedShare [.ref 0, .ref 121] S (uWf [xEAr] (o1, S1))) (hm : q_Ff l yX7_sealedShare kX7_sealedShare 3 [.ref 112] S1 v S2) (ht : uWf_ok [xEAr] o1 v (S2 112 6)) (hf2 : S2 112 6 = 0 → vf_n64 (FP.f2d v) ∧ FP.Core.dIsNaN (FP.f2d v) = false) (kk : ∀ L9 : q_L, q_V l (q_KL K L9 (a + 6)) 2016 (q_lvL i) [] S2) : q_V l (q_KL K L a) 1849 (q_lvL i) [] S := by
  have C := hC.1 L a (by omega)
  rcases o1 with w | E
  · obtain ⟨hf2, hf3⟩ := hf2 ht.1
    have hf2 : True = True → vf_n64 (FP.f2d v) := fun _ => hf2
    refine q_aload_n C dL_law_1849 rfl rfl ?_
    refine q_aload C dL_law_1850 rfl ?_
    refine q_lwi2 (hC.2.1 _ _) C (hC.1 _ _ (by omega)) hw mwL_sealedShare mlL_228 ⟨by decide, by decide⟩ (Nat.le_of_ble_eq_true rfl) dL_law_1852 ?_
    show q_V l (q_KL K ((fun L9 : q_L => (L9.1, vf_upd L9.2 0 (FP.f2d w))) L) (a + 6)) 1855 [(5, .int (nI i)), (4, .ref 121), (3, .ref 120), (2, .ref 112), (1, .ref 0), (0, .ref 300)] [.int 0] S1
    have C := hC.1 ((fun L9 : q_L => (L9.1, vf_upd L9.2 0 (FP.f2d w))) L) (a + 6) (by omega)
    refine q_istore (lv' := [(6, .int 0), (5, .int (nI i)), (4, .ref 121), (3, .ref 120), (2, .ref 112), (1, .ref 0), (0, .ref 300)]) C dL_law_1855 (by decide) rfl ?_
    refine q_aload_n C dL_law_1857 rfl rfl ?_
    refine q_cf0 C hm myX7_sealedShare mlL_231 q_s112 ⟨by decide, by decide⟩ (Nat.le_of_ble_eq_true rfl) dL_law_1858 ?_
    refine q_fstore (lv' := [(7, .float v), (6, .int 0), (5, .int (nI i)), (4, .ref 121), (3, .ref 120), (2, .ref 112), (1, .ref 0), (0, .ref 300)]) C dL_law_1861 (by decide) rfl ?_
    refine q_aload_n C dL_law_1863 rfl rfl ?_
    refine q_ci0 C (q_Fi.cv (v' := 0) ht.1 (c_X7_thrown l S2)) myX7_thrown mlL_125 q_s112 ⟨by decide, by decide⟩ (Nat.le_of_ble_eq_true rfl) dL_law_1864 ?_
    refine q_iload C dL_law_1867 rfl ?_
    refine q_icmp_eq (tgt := 1874) C dL_law_1869 (by decide) (fun _ => ?_) (fun h9 => absurd rfl h9)
    refine q_iload C dL_law_1874 rfl ?_
    refine q_if_ne (tgt := 1912) C dL_law_1876 (by decide) (fun h9 => absurd h9 (by decide)) (fun _ => ?_)
    refine q_aload C dL_law_1879 rfl ?_
    refine q_iconst (v := 0) C dL_law_1881 (by decide) ?_
    refine q_dald C dL_law_1882 ?_
    refine q_fload C dL_law_1883 rfl ?_
    refine q_f2d C (hf2 rfl) dL_law_1885 ?_
    refine q_dcmpE C (by rw [show v = w from ht.2.symm]; rfl) (by show FP.Core.dIsNaN (FP.f2d w) = false; rw [show w = v from ht.2]; exact hf3) dL_law_1886 ?_
    refine q_if_eq (tgt := 1912) C dL_law_1887 (by decide) (fun _ => ?_) (fun h9 => absurd h9 (by decide))
    refine q_goto (tgt := 2016) C dL_law_1912 (by decide) ?_
    exact q_Vsub (kk _) (fun q hq => by simp only [List.mem_cons, List.not_mem_nil, or_false] at hq ⊢; rcases hq with h | h | h | h | h | h <;> simp [h])
  · refine q_aload_n C dL_law_1849 rfl rfl ?_
    refine q_aload C dL_law_1850 rfl ?_
    refine q_lwi2 (hC.2.1 _ _) C (hC.1 _ _ (by omega)) hw mwL_sealedShare mlL_228 ⟨by decide, by decide⟩ (Nat.le_of_ble_eq_true rfl) dL_law_1852 ?_
    show q_V l (q_KL K ((fun L9 : q_L => L9) L) (a + 6)) 1855 [(5, .int (nI i)), (4, .ref 121), (3, .ref 120), (2, .ref 112), (1, .ref 0), (0, .ref 300)] [.int (uWc [xEAr] E)] S1
    have C := hC.1 ((fun L9 : q_L => L9) L) (a + 6) (by omega)
    refine q_istore (lv' := [(6, .int (uWc [xEAr] E)), (5, .int (nI i)), (4, .ref 121), (3, .ref 120), (2, .ref 112), (1, .ref 0), (0, .ref 300)]) C dL_law_1855 (by decide) rfl ?_
    refine q_aload_n C dL_law_1857 rfl rfl ?_
    refine q_cf0 C hm myX7_sealedShare mlL_231 q_s112 ⟨by decide, by decide⟩ (Nat.le_of_ble_eq_true rfl) dL_law_1858 ?_
    refine q_fstore (lv' := [(7, .float v), (6, .int (uWc [xEAr] E)), (5, .int (nI i)), (4, .ref 121), (3, .ref 120), (2, .ref 112), (1, .ref 0), (0, .ref 300)]) C dL_law_1861 (by decide) rfl ?_
    refine q_aload_n C dL_law_1863 rfl rfl ?_
    refine q_ci0 C (q_Fi.cv (v' := (uWc [xEAr] E)) ht.1 (c_X7_thrown l S2)) myX7_thrown mlL_125 q_s112 ⟨by decide, by decide⟩ (Nat.le_of_ble_eq_true rfl) dL_law_1864 ?_
    refine q_iload C dL_law_1867 rfl ?_
    refine q_icmp_eq (tgt := 1874) C dL_law_1869 (by decide) (fun _ => ?_) (fun h9 => absurd rfl h9)
    refine q_iload C dL_law_1874 rfl ?_
    refine q_if_ne (tgt := 1912) C dL_law_1876 (by decide) (fun _ => ?_) (fun h9 => absurd h9 ht.2)
    refine q_goto (tgt := 2016) C dL_law_1912 (by decide) ?_
    exact q_Vsub (kk _) (fun q hq => by simp only [List.mem_cons, List.not_mem_nil, or_false] at hq ⊢; rcases hq with h | h | h | h | h | h <;> simp [h])
theorem law_undo (l : Launch) (K : q_K) (b n : Nat) (xs : Nat → Int32) (hC : q_LC l K b n xs) (L : q_L) (a i : Nat) (S S1 S2 : q_St) (ha : a + 6 ≤ 3072) (hi : i + 3 < n) (hn : n < 2 ^ 31) (o1 : Int32 ⊕ String) (v : Int32) (hw : q_Fw l yL_undo kL_undo [.ref 0, .ref 120] S (uW [xEIs] (o1, S1))) (hm : q_Fi l yX7_undo kX7_undo 1 [.ref 112] S1 v S2) (ht : uW_ok [xEIs] o1 v (S2 112 6)) (kk : ∀ L9 : q_L, q_V l (q_KL K L9 (a + 6)) 2016 (q_lvL i) [] S2) : q_V l (q_KL K L a) 1915 (q_lvL i) [] S := by
  have C := hC.1 L a (by omega)
  rcases o1 with w | E
  · refine q_aload_n C dL_law_1915 rfl rfl ?_
    refine q_aload_n C dL_law_1916 rfl rfl ?_
    refine q_lwi2 (hC.2.1 _ _) C (hC.1 _ _ (by omega)) hw mwL_undo mlL_232 ⟨by decide, by decide⟩ (Nat.le_of_ble_eq_true rfl) dL_law_1917 ?_
    show q_V l (q_KL K ((fun L9 : q_L => (vp_updL L9.1 0 w.toInt64, L9.2)) L) (a + 6)) 1920 [(5, .int (nI i)), (4, .ref 121), (3, .ref 120), (2, .ref 112), (1, .ref 0), (0, .ref 300)] [.int 0] S1
    have C := hC.1 ((fun L9 : q_L => (vp_updL L9.1 0 w.toInt64, L9.2)) L) (a + 6) (by omega)
    refine q_istore (lv' := [(6, .int 0), (5, .int (nI i)), (4, .ref 121), (3, .ref 120), (2, .ref 112), (1, .ref 0), (0, .ref 300)]) C dL_law_1920 (by decide) rfl ?_
    refine q_aload_n C dL_law_1922 rfl rfl ?_
    refine q_ci0 C hm myX7_undo mlL_234 q_s112 ⟨by decide, by decide⟩ (Nat.le_of_ble_eq_true rfl) dL_law_1923 ?_
    refine q_istore (lv' := [(7, .int v), (6, .int 0), (5, .int (nI i)), (4, .ref 121), (3, .ref 120), (2, .ref 112), (1, .ref 0), (0, .ref 300)]) C dL_law_1926 (by decide) rfl ?_
    refine q_aload_n C dL_law_1928 rfl rfl ?_
    refine q_ci0 C (q_Fi.cv (v' := 0) ht.1 (c_X7_thrown l S2)) myX7_thrown mlL_125 q_s112 ⟨by decide, by decide⟩ (Nat.le_of_ble_eq_true rfl) dL_law_1929 ?_
    refine q_iload C dL_law_1932 rfl ?_
    refine q_icmp_eq (tgt := 1939) C dL_law_1934 (by decide) (fun _ => ?_) (fun h9 => absurd rfl h9)
    refine q_iload C dL_law_1939 rfl ?_
    refine q_if_ne (tgt := 1956) C dL_law_1941 (by decide) (fun h9 => absurd h9 (by decide)) (fun _ => ?_)
    refine q_aload_n C dL_law_1944 rfl rfl ?_
    refine q_iconst (v := 0) C dL_law_1945 (by decide) ?_
    refine q_lald C dL_law_1946 ?_
    refine q_iload C dL_law_1947 rfl ?_
    refine q_i2l C dL_law_1949 ?_
    refine q_lcmpE C (by rw [show v = w from ht.2.symm]; rfl) dL_law_1950 ?_
    refine q_if_eq (tgt := 1956) C dL_law_1951 (by decide) (fun _ => ?_) (fun h9 => absurd h9 (by decide))
    refine q_goto (tgt := 2016) C dL_law_1956 (by decide) ?_
    exact q_Vsub (kk _) (fun q hq => by simp only [List.mem_cons, List.not_mem_nil, or_false] at hq ⊢; rcases hq with h | h | h | h | h | h <;> simp [h])
  · refine q_aload_n C dL_law_1915 rfl rfl ?_
    refine q_aload_n C dL_law_1916 rfl rfl ?_
    refine q_lwi2 (hC.2.1 _ _) C (hC.1 _ _ (by omega)) hw mwL_undo mlL_232 ⟨by decide, by decide⟩ (Nat.le_of_ble_eq_true rfl) dL_law_1917 ?_
    show q_V l (q_KL K ((fun L9 : q_L => L9) L) (a + 6)) 1920 [(5, .int (nI i)), (4, .ref 121), (3, .ref 120), (2, .ref 112), (1, .ref 0), (0, .ref 300)] [.int (uWc [xEIs] E)] S1
    have C := hC.1 ((fun L9 : q_L => L9) L) (a + 6) (by omega)
    refine q_istore (lv' := [(6, .int (uWc [xEIs] E)), (5, .int (nI i)), (4, .ref 121), (3, .ref 120), (2, .ref 112), (1, .ref 0), (0, .ref 300)]) C dL_law_1920 (by decide) rfl ?_
    refine q_aload_n C dL_law_1922 rfl rfl ?_
    refine q_ci0 C hm myX7_undo mlL_234 q_s112 ⟨by decide, by decide⟩ (Nat.le_of_ble_eq_true rfl) dL_law_1923 ?_
    refine q_istore (lv' := [(7, .int v), (6, .int (uWc [xEIs] E)), (5, .int (nI i)), (4, .ref 121), (3, .ref 120), (2, .ref 112), (1, .ref 0), (0, .ref 300)]) C dL_law_1926 (by decide) rfl ?_
    refine q_aload_n C dL_law_1928 rfl rfl ?_
    refine q_ci0 C (q_Fi.cv (v' := (uWc [xEIs] E)) ht.1 (c_X7_thrown l S2)) myX7_thrown mlL_125 q_s112 ⟨by decide, by decide⟩ (Nat.le_of_ble_eq_true rfl) dL_law_1929 ?_
    refine q_iload C dL_law_1932 rfl ?_
    refine q_icmp_eq (tgt := 1939) C dL_law_1934 (by decide) (fun _ => ?_) (fun h9 => absurd rfl h9)
    refine q_iload C dL_law_1939 rfl ?_
    refine q_if_ne (tgt := 1956) C dL_law_1941 (by decide) (fun _ => ?_) (fun h9 => absurd h9 ht.2)
    refine q_goto (tgt := 2016) C dL_law_1956 (by decide) ?_
    exact q_Vsub (kk _) (fun q hq => by simp only [List.mem_cons, List.not_mem_nil, or_false] at hq ⊢; rcases hq with h | h | h | h | h | h <;> simp [h])
theorem law_save (l : Launch) (K : q_K) (b n : Nat) (xs : Nat → Int32) (hC : q_LC l K b n xs) (L : q_L) (a i : Nat) (S S1 S2 : q_St) (ha : a + 6 ≤ 3072) (hi : i + 3 < n) (hn : n < 2 ^ 31) (v : Int32) (hc : q_Fi l yX6_save kX6_save 2 [.ref 0] S v S1) (hm : q_Fi l yX7_save kX7_save 1 [.ref 112] S1 v S2) (kk : ∀ L9 : q_L, q_V l (q_KL K L9 (a + 6)) 2016 (q_lvL i) [] S2) : q_V l (q_KL K L a) 1959 (q_lvL i) [] S := by
  refine q_KLw (Nat.le_add_right a 6) ?_
  have C := hC.1 L (a + 6) (by omega)
  refine q_aload_n C dL_law_1959 rfl rfl ?_
  refine q_ci0 C hc myX6_save mlL_235 q_s0 ⟨by decide, by decide⟩ (Nat.le_of_ble_eq_true rfl) dL_law_1960 ?_
  refine q_aload_n C dL_law_1963 rfl rfl ?_
  refine q_ci0 C hm myX7_save mlL_238 q_s112 ⟨by decide, by decide⟩ (Nat.le_of_ble_eq_true rfl) dL_law_1964 ?_
  refine q_icmp_eq (tgt := 2016) C dL_law_1967 (by decide) (fun _ => ?_) (fun h9 => absurd rfl h9)
  exact q_Vsub (kk _) (fun q hq => by simp only [List.mem_cons, List.not_mem_nil, or_false] at hq ⊢; rcases hq with h | h | h | h | h | h <;> simp [h])
theorem law_restore (l : Launch) (K : q_K) (b n : Nat) (xs : Nat → Int32) (hC : q_LC l K b n xs) (L : q_L) (a i : Nat) (S S1 S2 : q_St) (ha : a + 6 ≤ 3072) (hi : i + 3 < n) (hn : n < 2 ^ 31) (o1 : Int32 ⊕ String) (v : Int32) (hw : q_Fw l yL_restore kL_restore [.ref 0, .ref 120] S (uW [xEIs] (o1, S1))) (hm : q_Fi l yX7_restore kX7_restore 1 [.ref 112] S1 v S2) (ht : uW_ok [xEIs] o1 v (S2 112 6)) (kk : ∀ L9 : q_L, q_V l (q_KL K L9 (a + 6)) 2016 (q_lvL i) [] S2) : q_V l (q_KL K L a) 1972 (q_lvL i) [] S := by
  have C := hC.1 L a (by omega)
  rcases o1 with w | E
  · refine q_aload_n C dL_law_1972 rfl rfl ?_
    refine q_aload_n C dL_law_1973 rfl rfl ?_
    refine q_lwi2 (hC.2.1 _ _) C (hC.1 _ _ (by omega)) hw mwL_restore mlL_239 ⟨by decide, by decide⟩ (Nat.le_of_ble_eq_true rfl) dL_law_1974 ?_
    show q_V l (q_KL K ((fun L9 : q_L => (vp_updL L9.1 0 w.toInt64, L9.2)) L) (a + 6)) 1977 [(5, .int (nI i)), (4, .ref 121), (3, .ref 120), (2, .ref 112), (1, .ref 0), (0, .ref 300)] [.int 0] S1
    have C := hC.1 ((fun L9 : q_L => (vp_updL L9.1 0 w.toInt64, L9.2)) L) (a + 6) (by omega)
    refine q_istore (lv' := [(6, .int 0), (5, .int (nI i)), (4, .ref 121), (3, .ref 120), (2, .ref 112), (1, .ref 0), (0, .ref 300)]) C dL_law_1977 (by decide) rfl ?_
    refine q_aload_n C dL_law_1979 rfl rfl ?_
    refine q_ci0 C hm myX7_restore mlL_241 q_s112 ⟨by decide, by decide⟩ (Nat.le_of_ble_eq_true rfl) dL_law_1980 ?_
    refine q_istore (lv' := [(7, .int v), (6, .int 0), (5, .int (nI i)), (4, .ref 121), (3, .ref 120), (2, .ref 112), (1, .ref 0), (0, .ref 300)]) C dL_law_1983 (by decide) rfl ?_
    refine q_aload_n C dL_law_1985 rfl rfl ?_
    refine q_ci0 C (q_Fi.cv (v' := 0) ht.1 (c_X7_thrown l S2)) myX7_thrown mlL_125 q_s112 ⟨by decide, by decide⟩ (Nat.le_of_ble_eq_true rfl) dL_law_1986 ?_
    refine q_iload C dL_law_1989 rfl ?_
    refine q_icmp_eq (tgt := 1996) C dL_law_1991 (by decide) (fun _ => ?_) (fun h9 => absurd rfl h9)
    refine q_iload C dL_law_1996 rfl ?_
    refine q_if_ne (tgt := 2013) C dL_law_1998 (by decide) (fun h9 => absurd h9 (by decide)) (fun _ => ?_)
    refine q_aload_n C dL_law_2001 rfl rfl ?_
    refine q_iconst (v := 0) C dL_law_2002 (by decide) ?_
    refine q_lald C dL_law_2003 ?_
    refine q_iload C dL_law_2004 rfl ?_
    refine q_i2l C dL_law_2006 ?_
    refine q_lcmpE C (by rw [show v = w from ht.2.symm]; rfl) dL_law_2007 ?_
    refine q_if_eq (tgt := 2013) C dL_law_2008 (by decide) (fun _ => ?_) (fun h9 => absurd h9 (by decide))
    refine q_goto (tgt := 2016) C dL_law_2013 (by decide) ?_
    exact q_Vsub (kk _) (fun q hq => by simp only [List.mem_cons, List.not_mem_nil, or_false] at hq ⊢; rcases hq with h | h | h | h | h | h <;> simp [h])
  · refine q_aload_n C dL_law_1972 rfl rfl ?_
    refine q_aload_n C dL_law_1973 rfl rfl ?_
    refine q_lwi2 (hC.2.1 _ _) C (hC.1 _ _ (by omega)) hw mwL_restore mlL_239 ⟨by decide, by decide⟩ (Nat.le_of_ble_eq_true rfl) dL_law_1974 ?_
    show q_V l (q_KL K ((fun L9 : q_L => L9) L) (a + 6)) 1977 [(5, .int (nI i)), (4, .ref 121), (3, .ref 120), (2, .ref 112), (1, .ref 0), (0, .ref 300)] [.int (uWc [xEIs] E)] S1
    have C := hC.1 ((fun L9 : q_L => L9) L) (a + 6) (by omega)
    refine q_istore (lv' := [(6, .int (uWc [xEIs] E)), (5, .int (nI i)), (4, .ref 121), (3, .ref 120), (2, .ref 112), (1, .ref 0), (0, .ref 300)]) C dL_law_1977 (by decide) rfl ?_
    refine q_aload_n C dL_law_1979 rfl rfl ?_
    refine q_ci0 C hm myX7_restore mlL_241 q_s112 ⟨by decide, by decide⟩ (Nat.le_of_ble_eq_true rfl) dL_law_1980 ?_
    refine q_istore (lv' := [(7, .int v), (6, .int (uWc [xEIs] E)), (5, .int (nI i)), (4, .ref 121), (3, .ref 120), (2, .ref 112), (1, .ref 0), (0, .ref 300)]) C dL_law_1983 (by decide) rfl ?_
    refine q_aload_n C dL_law_1985 rfl rfl ?_
    refine q_ci0 C (q_Fi.cv (v' := (uWc [xEIs] E)) ht.1 (c_X7_thrown l S2)) myX7_thrown mlL_125 q_s112 ⟨by decide, by decide⟩ (Nat.le_of_ble_eq_true rfl) dL_law_1986 ?_
    refine q_iload C dL_law_1989 rfl ?_
    refine q_icmp_eq (tgt := 1996) C dL_law_1991 (by decide) (fun _ => ?_) (fun h9 => absurd rfl h9)
    refine q_iload C dL_law_1996 rfl ?_
    refine q_if_ne (tgt := 2013) C dL_law_1998 (by decide) (fun _ => ?_) (fun h9 => absurd h9 ht.2)
    refine q_goto (tgt := 2016) C dL_law_2013 (by decide) ?_
    exact q_Vsub (kk _) (fun q hq => by simp only [List.mem_cons, List.not_mem_nil, or_false] at hq ⊢; rcases hq with h | h | h | h | h | h <;> simp [h])
