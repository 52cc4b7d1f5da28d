set_option maxHeartbeats 2000000 in
theorem c_X7_readOrder (l : Launch) (S : q_St) (t : Nat → Int32) (n : Nat) (ht : S 118 = t) (hn : S 112 13 = nI n) (hn60 : n ≤ 60) (hch : ∀ j, j < 60 → ∃ q, q < 65536 ∧ t j = nI q) (cnt : Nat) (hcnt : S 112 18 = nI cnt) (s : Bool × Nat) (hs : s.2 ≤ n) (hcs : cnt ≤ s.2) (hs1 : s.1 = false) : q_Fv l yX7_readOrder kX7_readOrder 6 [.ref 112] (uQ_at S s) (uQ_at (uQ_ordS t n S cnt s) (uP_s5 t n s)) := by
  refine q_Fv_of (maxL := 8) rfl (by decide +kernel) (fun ad => Nat.le_of_ble_eq_true rfl) ?_
  intro K C hret
  have C : q_Cx K cX7_readOrder RX7 6 8 := C
  show q_V l K 0 [(0, .ref 112)] [] (uQ_at S s)
  refine q_aload_n C dX7_readOrder_0 rfl rfl ?_
  refine q_getI (x := 0) C flX7_190 q_s112 rfl dX7_readOrder_1 (congrArg uO_b hs1) ?_
  refine q_if_eq (tgt := 8) C dX7_readOrder_4 (by decide) (fun _ => ?_) (fun h9 => absurd h9 (by decide))
  refine q_aload_n C dX7_readOrder_8 rfl rfl ?_
  refine q_getI (x := nI s.2) C flX7_193 q_s112 rfl dX7_readOrder_9 (uQ_at_14 S s) ?_
  refine q_aload_n C dX7_readOrder_12 rfl rfl ?_
  refine q_getI (x := nI n) C flX7_187 q_s112 rfl dX7_readOrder_13 ((uQ_at_k S s 13 (by decide) (by decide)).trans hn) ?_
  refine q_icmp_geN (a := s.2) (b := n) (tgt := 31) C dX7_readOrder_16 (by decide) rfl rfl (by omega) (by omega) (fun c_16 => ?_) (fun c_16 => ?_)
  · refine q_iconst (v := 0) C dX7_readOrder_31 (by decide) ?_
    have hnx : uP_nx t n s.2 = 0 := (by rw [uP_nx, if_neg (Nat.not_lt.mpr c_16)])
    refine q_istore_n (lv' := [(1, .int 0), (0, .ref 112)]) C dX7_readOrder_32 rfl (by decide) rfl ?_
    refine q_iload_n C dX7_readOrder_33 rfl rfl ?_
    refine q_bipush (v := 110) C dX7_readOrder_34 (by decide) ?_
    refine q_icmp_eq (tgt := 99) C dX7_readOrder_36 (by decide) (fun h9 => absurd h9 (by decide)) (fun _ => ?_)
    refine q_iload_n C dX7_readOrder_39 rfl rfl ?_
    refine q_bipush (v := 97) C dX7_readOrder_40 (by decide) ?_
    refine q_icmp_eq (tgt := 99) C dX7_readOrder_42 (by decide) (fun h9 => absurd h9 (by decide)) (fun _ => ?_)
    refine q_iload_n C dX7_readOrder_45 rfl rfl ?_
    refine q_bipush (v := 113) C dX7_readOrder_46 (by decide) ?_
    refine q_icmp_eq (tgt := 99) C dX7_readOrder_48 (by decide) (fun h9 => absurd h9 (by decide)) (fun _ => ?_)
    refine q_iload_n C dX7_readOrder_51 rfl rfl ?_
    refine q_bipush (v := 100) C dX7_readOrder_52 (by decide) ?_
    refine q_icmp_eq (tgt := 99) C dX7_readOrder_54 (by decide) (fun h9 => absurd h9 (by decide)) (fun _ => ?_)
    refine q_iload_n C dX7_readOrder_57 rfl rfl ?_
    refine q_bipush (v := 116) C dX7_readOrder_58 (by decide) ?_
    refine q_icmp_eq (tgt := 99) C dX7_readOrder_60 (by decide) (fun h9 => absurd h9 (by decide)) (fun _ => ?_)
    refine q_iload_n C dX7_readOrder_63 rfl rfl ?_
    refine q_bipush (v := 102) C dX7_readOrder_64 (by decide) ?_
    refine q_icmp_eq (tgt := 99) C dX7_readOrder_66 (by decide) (fun h9 => absurd h9 (by decide)) (fun _ => ?_)
    refine q_iload_n C dX7_readOrder_69 rfl rfl ?_
    refine q_bipush (v := 119) C dX7_readOrder_70 (by decide) ?_
    refine q_icmp_eq (tgt := 99) C dX7_readOrder_72 (by decide) (fun h9 => absurd h9 (by decide)) (fun _ => ?_)
    refine q_iload_n C dX7_readOrder_75 rfl rfl ?_
    refine q_bipush (v := 115) C dX7_readOrder_76 (by decide) ?_
    refine q_icmp_eq (tgt := 99) C dX7_readOrder_78 (by decide) (fun h9 => absurd h9 (by decide)) (fun _ => ?_)
    refine q_iload_n C dX7_readOrder_81 rfl rfl ?_
    refine q_bipush (v := 114) C dX7_readOrder_82 (by decide) ?_
    refine q_icmp_eq (tgt := 99) C dX7_readOrder_84 (by decide) (fun h9 => absurd h9 (by decide)) (fun _ => ?_)
    refine q_iload_n C dX7_readOrder_87 rfl rfl ?_
    refine q_bipush (v := 105) C dX7_readOrder_88 (by decide) ?_
    refine q_icmp_eq (tgt := 99) C dX7_readOrder_90 (by decide) (fun h9 => absurd h9 (by decide)) (fun _ => ?_)
    refine q_iload_n C dX7_readOrder_93 rfl rfl ?_
    refine q_bipush (v := 104) C dX7_readOrder_94 (by decide) ?_
    refine q_icmp_ne (tgt := 103) C dX7_readOrder_96 (by decide) (fun _ => ?_) (fun h9 => absurd h9 (by decide))
    refine q_iconst (v := 0) C dX7_readOrder_103 (by decide) ?_
    refine q_istore_n (lv' := [(2, .int 0), (1, .int 0), (0, .ref 112)]) C dX7_readOrder_104 rfl (by decide) rfl ?_
    refine q_iload_n C dX7_readOrder_105 rfl rfl ?_
    refine q_if_ne (tgt := 115) C dX7_readOrder_106 (by decide) (fun h9 => absurd h9 (by decide)) (fun _ => ?_)
    refine q_aload_n C dX7_readOrder_109 rfl rfl ?_
    refine q_iconst (v := 1) C dX7_readOrder_110 (by decide) ?_
    refine q_put (ty9 := .boolean) C flX7_190 q_s112 rfl (fun _ _ _ h => by cases h; exact ⟨rfl, by decide +kernel⟩) rfl rfl dX7_readOrder_111 ?_
    exact hret _ _ _ dX7_readOrder_114 (by have hL : uP_isL (uP_nx t n s.2) = false := (by rw [hnx]; decide); rw [uQ_ordS, if_neg (by rw [hL]; decide), uP_s5_st (by rw [uQ_lt_f hL]), uQ_lt_f hL]; exact uQ_at_w1 S s true)
  · refine q_aload_n C dX7_readOrder_19 rfl rfl ?_
    refine q_getR C flX7_26 q_s112 rfl dX7_readOrder_20 ?_
    refine q_aload_n C dX7_readOrder_23 rfl rfl ?_
    refine q_getI (x := nI s.2) C flX7_193 q_s112 rfl dX7_readOrder_24 (uQ_at_14 S s) ?_
    refine q_caldN (i := s.2) (x := t s.2) C rfl q_s118 (by omega) (by decide) dX7_readOrder_27 (by rw [← ht]; rfl) ?_
    refine q_goto (tgt := 32) C dX7_readOrder_28 (by decide) ?_
    have hnx : uP_nx t n s.2 = t s.2 := (by rw [uP_nx, if_pos c_16])
    refine q_istore_n (lv' := [(1, .int (t s.2)), (0, .ref 112)]) C dX7_readOrder_32 rfl (by decide) rfl ?_
    refine q_iload_n C dX7_readOrder_33 rfl rfl ?_
    refine q_bipush (v := 110) C dX7_readOrder_34 (by decide) ?_
    refine q_icmp_eq (tgt := 99) C dX7_readOrder_36 (by decide)  (fun c_36 => ?_) (fun c_36 => ?_)
    · refine q_V_to (lv' := [(1, .int 110), (0, .ref 112)]) ?_ ⟨q_iv c_36, rfl, trivial⟩ rfl
      have hk : uP_nx t n s.2 = 110 := hnx.trans c_36
      refine q_iconst (v := 1) C dX7_readOrder_99 (by decide) ?_
      refine q_goto (tgt := 104) C dX7_readOrder_100 (by decide) ?_
      refine q_istore_n (lv' := [(2, .int 1), (1, .int 110), (0, .ref 112)]) C dX7_readOrder_104 rfl (by decide) rfl ?_
      refine q_iload_n C dX7_readOrder_105 rfl rfl ?_
      refine q_if_ne (tgt := 115) C dX7_readOrder_106 (by decide) (fun _ => ?_) (fun h9 => absurd h9 (by decide))
      refine q_aload_n C dX7_readOrder_115 rfl rfl ?_
      refine q_dup C rfl dX7_readOrder_116 ?_
      refine q_getI (x := nI s.2) C flX7_193 q_s112 rfl dX7_readOrder_117 (uQ_at_14 S s) ?_
      refine q_iconst (v := 1) C dX7_readOrder_120 (by decide) ?_
      refine q_iaddN (a := s.2) (b := 1) C dX7_readOrder_121 rfl rfl ?_
      refine q_put (ty9 := .int) C flX7_193 q_s112 rfl (fun _ _ _ h => by cases h; exact ⟨rfl, by decide +kernel⟩) rfl rfl dX7_readOrder_122 ?_
      refine q_iconst (v := 4) C dX7_readOrder_125 (by decide) ?_
      refine q_aload_n C dX7_readOrder_126 rfl rfl ?_
      refine q_getI (x := nI cnt) C flX7_207 q_s112 rfl dX7_readOrder_127 ((uQ_at_k S s 18 (by decide) (by decide)).trans hcnt) ?_
      refine q_imulN (a := 4) (b := cnt) C dX7_readOrder_130 rfl rfl ?_
      refine q_istore_n (lv' := [(3, .int (nI (4 * cnt))), (2, .int 1), (1, .int 110), (0, .ref 112)]) C dX7_readOrder_131 rfl (by decide) rfl ?_
      refine q_aload_n C dX7_readOrder_132 rfl rfl ?_
      refine q_getR C flX7_33 q_s112 rfl dX7_readOrder_133 ?_
      refine q_iload_n C dX7_readOrder_136 rfl rfl ?_
      refine q_iload_n C dX7_readOrder_137 rfl rfl ?_
      refine q_iastN (i := 4 * cnt) C rfl q_s119 (by omega) (by decide) dX7_readOrder_138 ?_
      refine q_aload_n C dX7_readOrder_139 rfl rfl ?_
      refine q_dup C rfl dX7_readOrder_140 ?_
      refine q_getI (x := nI cnt) C flX7_207 q_s112 rfl dX7_readOrder_141 ((uQ_at_k S s 18 (by decide) (by decide)).trans hcnt) ?_
      refine q_iconst (v := 1) C dX7_readOrder_144 (by decide) ?_
      refine q_iaddN (a := cnt) (b := 1) C dX7_readOrder_145 rfl rfl ?_
      refine q_put (ty9 := .int) C flX7_207 q_s112 rfl (fun _ _ _ h => by cases h; exact ⟨rfl, by decide +kernel⟩) rfl rfl dX7_readOrder_146 ?_
      refine q_st (show _ = uQ_at (uQ_r S cnt 110) (uP_lt t n s) from ?_) ?_
      · rw [uQ_lt_t hs1 (by rw [hk]; decide), uQ_at_w2, hs1, uQ_at_119, uQ_at_18]; rfl
      refine q_iload_n C dX7_readOrder_149 rfl rfl ?_
      refine q_tabin (off := 320) (tgt := 470) C dX7_readOrder_150 (by decide) (by decide) (by decide) (by decide) ?_
      exact hret _ _ _ dX7_readOrder_470 (by rw [(show uP_s5 t n s = (uP_lt t n s) by simp [uP_s5, uP_ls, uP_s4, uP_s3, uP_s2, uQ_s4, uO_hasM, uO_hasG, hk]), (show uQ_ordS t n S cnt s = (uQ_r S cnt 110) by simp [uQ_ordS, uQ_a1, uQ_a2, uQ_s4, hk, (by decide : uP_isL 110 = true)])])
    · refine q_iload_n C dX7_readOrder_39 rfl rfl ?_
      refine q_bipush (v := 97) C dX7_readOrder_40 (by decide) ?_
      refine q_icmp_eq (tgt := 99) C dX7_readOrder_42 (by decide)  (fun c_42 => ?_) (fun c_42 => ?_)
      · refine q_V_to (lv' := [(1, .int 97), (0, .ref 112)]) ?_ ⟨q_iv c_42, rfl, trivial⟩ rfl
        have hk : uP_nx t n s.2 = 97 := hnx.trans c_42
        refine q_iconst (v := 1) C dX7_readOrder_99 (by decide) ?_
        refine q_goto (tgt := 104) C dX7_readOrder_100 (by decide) ?_
        refine q_istore_n (lv' := [(2, .int 1), (1, .int 97), (0, .ref 112)]) C dX7_readOrder_104 rfl (by decide) rfl ?_
        refine q_iload_n C dX7_readOrder_105 rfl rfl ?_
        refine q_if_ne (tgt := 115) C dX7_readOrder_106 (by decide) (fun _ => ?_) (fun h9 => absurd h9 (by decide))
        refine q_aload_n C dX7_readOrder_115 rfl rfl ?_
        refine q_dup C rfl dX7_readOrder_116 ?_
        refine q_getI (x := nI s.2) C flX7_193 q_s112 rfl dX7_readOrder_117 (uQ_at_14 S s) ?_
        refine q_iconst (v := 1) C dX7_readOrder_120 (by decide) ?_
        refine q_iaddN (a := s.2) (b := 1) C dX7_readOrder_121 rfl rfl ?_
        refine q_put (ty9 := .int) C flX7_193 q_s112 rfl (fun _ _ _ h => by cases h; exact ⟨rfl, by decide +kernel⟩) rfl rfl dX7_readOrder_122 ?_
        refine q_iconst (v := 4) C dX7_readOrder_125 (by decide) ?_
        refine q_aload_n C dX7_readOrder_126 rfl rfl ?_
        refine q_getI (x := nI cnt) C flX7_207 q_s112 rfl dX7_readOrder_127 ((uQ_at_k S s 18 (by decide) (by decide)).trans hcnt) ?_
        refine q_imulN (a := 4) (b := cnt) C dX7_readOrder_130 rfl rfl ?_
        refine q_istore_n (lv' := [(3, .int (nI (4 * cnt))), (2, .int 1), (1, .int 97), (0, .ref 112)]) C dX7_readOrder_131 rfl (by decide) rfl ?_
        refine q_aload_n C dX7_readOrder_132 rfl rfl ?_
        refine q_getR C flX7_33 q_s112 rfl dX7_readOrder_133 ?_
        refine q_iload_n C dX7_readOrder_136 rfl rfl ?_
        refine q_iload_n C dX7_readOrder_137 rfl rfl ?_
        refine q_iastN (i := 4 * cnt) C rfl q_s119 (by omega) (by decide) dX7_readOrder_138 ?_
        refine q_aload_n C dX7_readOrder_139 rfl rfl ?_
        refine q_dup C rfl dX7_readOrder_140 ?_
        refine q_getI (x := nI cnt) C flX7_207 q_s112 rfl dX7_readOrder_141 ((uQ_at_k S s 18 (by decide) (by decide)).trans hcnt) ?_
        refine q_iconst (v := 1) C dX7_readOrder_144 (by decide) ?_
        refine q_iaddN (a := cnt) (b := 1) C dX7_readOrder_145 rfl rfl ?_
        refine q_put (ty9 := .int) C flX7_207 q_s112 rfl (fun _ _ _ h => by cases h; exact ⟨rfl, by decide +kernel⟩) rfl rfl dX7_readOrder_146 ?_
        refine q_st (show _ = uQ_at (uQ_r S cnt 97) (uP_lt t n s) from ?_) ?_
        · rw [uQ_lt_t hs1 (by rw [hk]; decide), uQ_at_w2, hs1, uQ_at_119, uQ_at_18]; rfl
        refine q_iload_n C dX7_readOrder_149 rfl rfl ?_
        refine q_tabin (off := 94) (tgt := 244) C dX7_readOrder_150 (by decide) (by decide) (by decide) (by decide) ?_
        refine q_aload_n C dX7_readOrder_244 rfl rfl ?_
        refine q_getR C flX7_33 q_s112 rfl dX7_readOrder_245 ?_
        refine q_iload_n C dX7_readOrder_248 rfl rfl ?_
        refine q_iconst (v := 1) C dX7_readOrder_249 (by decide) ?_
        refine q_iaddN (a := 4 * cnt) (b := 1) C dX7_readOrder_250 rfl rfl ?_
        refine q_aload_n C dX7_readOrder_251 rfl rfl ?_
        refine q_ci0 C (c_X7_digit l (uQ_r S cnt 97) t n ht hn hn60 hch (uP_lt t n s) (uP_lt_le _ _ hs)) myX7_digit mlX7_204 q_s112 ⟨by decide, by decide⟩ (Nat.le_of_ble_eq_true rfl) dX7_readOrder_252 ?_
        refine q_iastN (i := 4 * cnt + 1) C rfl q_s119 (by omega) (by decide) dX7_readOrder_255 ?_
        refine q_st (uQ_at_119 (uQ_r S cnt 97) (uP_dg t n (uP_lt t n s)) _ _) ?_
        refine q_aload_n C dX7_readOrder_256 rfl rfl ?_
        refine q_getR C flX7_33 q_s112 rfl dX7_readOrder_257 ?_
        refine q_iload_n C dX7_readOrder_260 rfl rfl ?_
        refine q_iconst (v := 2) C dX7_readOrder_261 (by decide) ?_
        refine q_iaddN (a := 4 * cnt) (b := 2) C dX7_readOrder_262 rfl rfl ?_
        refine q_aload_n C dX7_readOrder_263 rfl rfl ?_
        refine q_bipush (v := 46) C dX7_readOrder_264 (by decide) ?_
        refine q_ci1 C (c_X7_behind l (q_p (uQ_r S cnt 97) 119 (4 * cnt + 1) (uQ_dv t n (uP_lt t n s))) t n ht hn hn60 hch (uP_dg t n (uP_lt t n s)) (uP_dg_le _ _ (uP_lt_le _ _ hs)) 46 (by decide)) myX7_behind mlX7_210 q_s112 ⟨by decide, by decide⟩ (Nat.le_of_ble_eq_true rfl) dX7_readOrder_266 ?_
        refine q_iastN (i := 4 * cnt + 2) C rfl q_s119 (by omega) (by decide) dX7_readOrder_269 ?_
        refine q_st (uQ_at_119 (q_p (uQ_r S cnt 97) 119 (4 * cnt + 1) (uQ_dv t n (uP_lt t n s))) (uP_dg t n (uP_sg t n 46 (uP_dg t n (uP_lt t n s)))) _ _) ?_
        refine q_aload_n C dX7_readOrder_270 rfl rfl ?_
        rcases q_bc ((uP_dg t n (uP_sg t n 46 (uP_dg t n (uP_lt t n s))))).1 with hb_271 | hb_271
        · refine q_getI (x := 0) C flX7_190 q_s112 rfl dX7_readOrder_271 (congrArg uO_b hb_271) ?_
          refine q_if_eq (tgt := 281) C dX7_readOrder_274 (by decide) (fun _ => ?_) (fun h9 => absurd h9 (by decide))
          refine q_aload_n C dX7_readOrder_281 rfl rfl ?_
          refine q_bipush (v := 61) C dX7_readOrder_282 (by decide) ?_
          refine q_bipush (v := 61) C dX7_readOrder_284 (by decide) ?_
          refine q_ci2 C (q_Fi.cs rfl (congrArg (uQ_at (q_p (q_p (uQ_r S cnt 97) 119 (4 * cnt + 1) (uQ_dv t n (uP_lt t n s))) 119 (4 * cnt + 2) (uQ_dv t n (uP_sg t n 46 (uP_dg t n (uP_lt t n s)))))) (uQ_sg_c t n (by decide) (uP_dg t n (uP_sg t n 46 (uP_dg t n (uP_lt t n s)))))) (c_X7_sign l (q_p (q_p (uQ_r S cnt 97) 119 (4 * cnt + 1) (uQ_dv t n (uP_lt t n s))) 119 (4 * cnt + 2) (uQ_dv t n (uP_sg t n 46 (uP_dg t n (uP_lt t n s))))) t n ht hn hn60 hch (uP_dg t n (uP_sg t n 46 (uP_dg t n (uP_lt t n s)))) (uP_dg_le _ _ (uP_sg_le _ _ (by first | assumption | decide) (uP_dg_le _ _ (uP_lt_le _ _ hs)))) 61 61)) myX7_sign mlX7_200 q_s112 ⟨by decide, by decide⟩ (Nat.le_of_ble_eq_true rfl) dX7_readOrder_286 ?_
          refine q_istore (lv' := [(4, .int (uQ_v t n 61 61 (uP_dg t n (uP_sg t n 46 (uP_dg t n (uP_lt t n s)))))), (3, .int (nI (4 * cnt))), (2, .int 1), (1, .int 97), (0, .ref 112)]) C dX7_readOrder_289 (by decide) rfl ?_
          refine q_aload_n C dX7_readOrder_291 rfl rfl ?_
          refine q_bipush (v := 45) C dX7_readOrder_292 (by decide) ?_
          refine q_bipush (v := 45) C dX7_readOrder_294 (by decide) ?_
          by_cases h_296 : uQ_here t n 45 45 (uP_sg t n 61 (uP_dg t n (uP_sg t n 46 (uP_dg t n (uP_lt t n s)))))
          · refine q_ci2 C (q_Fi.cv (if_pos h_296) (c_X7_isHere l (q_p (q_p (uQ_r S cnt 97) 119 (4 * cnt + 1) (uQ_dv t n (uP_lt t n s))) 119 (4 * cnt + 2) (uQ_dv t n (uP_sg t n 46 (uP_dg t n (uP_lt t n s))))) t n ht hn hn60 hch (uP_sg t n 61 (uP_dg t n (uP_sg t n 46 (uP_dg t n (uP_lt t n s))))) (uP_sg_le _ _ (by first | assumption | decide) (uP_dg_le _ _ (uP_sg_le _ _ (by first | assumption | decide) (uP_dg_le _ _ (uP_lt_le _ _ hs))))) 45 45)) myX7_isHere mlX7_196 q_s112 ⟨by decide, by decide⟩ (Nat.le_of_ble_eq_true rfl) dX7_readOrder_296 ?_
            refine q_istore (lv' := [(5, .int 1), (4, .int (uQ_v t n 61 61 (uP_dg t n (uP_sg t n 46 (uP_dg t n (uP_lt t n s)))))), (3, .int (nI (4 * cnt))), (2, .int 1), (1, .int 97), (0, .ref 112)]) C dX7_readOrder_299 (by decide) rfl ?_
            refine q_aload_n C dX7_readOrder_301 rfl rfl ?_
            rcases q_bc ((uP_sg t n 61 (uP_dg t n (uP_sg t n 46 (uP_dg t n (uP_lt t n s)))))).1 with hb_302 | hb_302
            · refine q_getI (x := 0) C flX7_190 q_s112 rfl dX7_readOrder_302 (congrArg uO_b hb_302) ?_
              refine q_if_eq (tgt := 312) C dX7_readOrder_305 (by decide) (fun _ => ?_) (fun h9 => absurd h9 (by decide))
              refine q_iload C dX7_readOrder_312 rfl ?_
              refine q_if_eq (tgt := 328) C dX7_readOrder_314 (by decide) (fun h9 => absurd h9 (by decide)) (fun _ => ?_)
              refine q_aload_n C dX7_readOrder_317 rfl rfl ?_
              refine q_bipush (v := 45) C dX7_readOrder_318 (by decide) ?_
              refine q_bipush (v := 45) C dX7_readOrder_320 (by decide) ?_
              refine q_ci2 C (q_Fi.cs rfl (congrArg (uQ_at (q_p (q_p (uQ_r S cnt 97) 119 (4 * cnt + 1) (uQ_dv t n (uP_lt t n s))) 119 (4 * cnt + 2) (uQ_dv t n (uP_sg t n 46 (uP_dg t n (uP_lt t n s)))))) (uQ_sg_c t n (by decide) (uP_sg t n 61 (uP_dg t n (uP_sg t n 46 (uP_dg t n (uP_lt t n s))))))) (c_X7_sign l (q_p (q_p (uQ_r S cnt 97) 119 (4 * cnt + 1) (uQ_dv t n (uP_lt t n s))) 119 (4 * cnt + 2) (uQ_dv t n (uP_sg t n 46 (uP_dg t n (uP_lt t n s))))) t n ht hn hn60 hch (uP_sg t n 61 (uP_dg t n (uP_sg t n 46 (uP_dg t n (uP_lt t n s))))) (uP_sg_le _ _ (by first | assumption | decide) (uP_dg_le _ _ (uP_sg_le _ _ (by first | assumption | decide) (uP_dg_le _ _ (uP_lt_le _ _ hs))))) 45 45)) myX7_sign mlX7_200 q_s112 ⟨by decide, by decide⟩ (Nat.le_of_ble_eq_true rfl) dX7_readOrder_322 ?_
              refine q_goto (tgt := 336) C dX7_readOrder_325 (by decide) ?_
              refine q_st (congrArg (uQ_at (q_p (q_p (uQ_r S cnt 97) 119 (4 * cnt + 1) (uQ_dv t n (uP_lt t n s))) 119 (4 * cnt + 2) (uQ_dv t n (uP_sg t n 46 (uP_dg t n (uP_lt t n s)))))) ((uQ_pm_eq hb_302).trans (if_pos h_296)).symm) ?_
              refine q_istore (lv' := [(6, .int (uQ_v t n 45 45 (uP_sg t n 61 (uP_dg t n (uP_sg t n 46 (uP_dg t n (uP_lt t n s))))))), (5, .int 1), (4, .int (uQ_v t n 61 61 (uP_dg t n (uP_sg t n 46 (uP_dg t n (uP_lt t n s)))))), (3, .int (nI (4 * cnt))), (2, .int 1), (1, .int 97), (0, .ref 112)]) C dX7_readOrder_336 (by decide) rfl ?_
              refine q_aload_n C dX7_readOrder_338 rfl rfl ?_
              refine q_ci0 C (c_X7_number l (q_p (q_p (uQ_r S cnt 97) 119 (4 * cnt + 1) (uQ_dv t n (uP_lt t n s))) 119 (4 * cnt + 2) (uQ_dv t n (uP_sg t n 46 (uP_dg t n (uP_lt t n s))))) t n ht hn hn60 hch (uP_pm t n (uP_sg t n 61 (uP_dg t n (uP_sg t n 46 (uP_dg t n (uP_lt t n s)))))) (uP_pm_le _ _ (uP_sg_le _ _ (by first | assumption | decide) (uP_dg_le _ _ (uP_sg_le _ _ (by first | assumption | decide) (uP_dg_le _ _ (uP_lt_le _ _ hs))))))) myX7_number mlX7_214 q_s112 ⟨by decide, by decide⟩ (Nat.le_of_ble_eq_true rfl) dX7_readOrder_339 ?_
              refine q_istore (lv' := [(7, .int (uQ_nv t n (uP_pm t n (uP_sg t n 61 (uP_dg t n (uP_sg t n 46 (uP_dg t n (uP_lt t n s)))))))), (6, .int (uQ_v t n 45 45 (uP_sg t n 61 (uP_dg t n (uP_sg t n 46 (uP_dg t n (uP_lt t n s))))))), (5, .int 1), (4, .int (uQ_v t n 61 61 (uP_dg t n (uP_sg t n 46 (uP_dg t n (uP_lt t n s)))))), (3, .int (nI (4 * cnt))), (2, .int 1), (1, .int 97), (0, .ref 112)]) C dX7_readOrder_342 (by decide) rfl ?_
              refine q_aload_n C dX7_readOrder_344 rfl rfl ?_
              refine q_getR C flX7_33 q_s112 rfl dX7_readOrder_345 ?_
              refine q_iload_n C dX7_readOrder_348 rfl rfl ?_
              refine q_iconst (v := 3) C dX7_readOrder_349 (by decide) ?_
              refine q_iaddN (a := 4 * cnt) (b := 3) C dX7_readOrder_350 rfl rfl ?_
              refine q_iload C dX7_readOrder_351 rfl ?_
              refine q_if_eq (tgt := 362) C dX7_readOrder_353 (by decide) (fun h9 => absurd h9 (by decide)) (fun _ => ?_)
              refine q_iload C dX7_readOrder_356 rfl ?_
              refine q_ineg C dX7_readOrder_358 ?_
              refine q_goto (tgt := 364) C dX7_readOrder_359 (by decide) ?_
              refine q_iastN (i := 4 * cnt + 3) C rfl q_s119 (by omega) (by decide) dX7_readOrder_364 ?_
              refine q_st (uQ_at_119 (q_p (q_p (uQ_r S cnt 97) 119 (4 * cnt + 1) (uQ_dv t n (uP_lt t n s))) 119 (4 * cnt + 2) (uQ_dv t n (uP_sg t n 46 (uP_dg t n (uP_lt t n s))))) (uP_nm t n (uP_pm t n (uP_sg t n 61 (uP_dg t n (uP_sg t n 46 (uP_dg t n (uP_lt t n s))))))) _ _) ?_
              refine q_goto (tgt := 470) C dX7_readOrder_365 (by decide) ?_
              exact hret _ _ _ dX7_readOrder_470 (by rw [(show uP_s5 t n s = (uP_nm t n (uP_pm t n (uP_sg t n 61 (uP_dg t n (uP_sg t n 46 (uP_dg t n (uP_lt t n s))))))) by simp [uP_s5, uP_ls, uP_s4, uP_s3, uP_s2, uQ_s4, uO_hasM, uO_hasG, hk]), (show uQ_ordS t n S cnt s = (q_p (q_p (q_p (uQ_r S cnt 97) 119 (4 * cnt + 1) (uQ_dv t n (uP_lt t n s))) 119 (4 * cnt + 2) (uQ_dv t n (uP_sg t n 46 (uP_dg t n (uP_lt t n s))))) 119 (4 * cnt + 3) (-(uQ_nv t n (uP_pm t n (uP_sg t n 61 (uP_dg t n (uP_sg t n 46 (uP_dg t n (uP_lt t n s))))))))) by simp [uQ_ordS, uQ_a1, uQ_a2, uQ_s4, hk, (by decide : uP_isL 97 = true), uQ_am_t h_296])])
            · refine q_getI (x := 1) C flX7_190 q_s112 rfl dX7_readOrder_302 (congrArg uO_b hb_302) ?_
              refine q_if_eq (tgt := 312) C dX7_readOrder_305 (by decide) (fun h9 => absurd h9 (by decide)) (fun _ => ?_)
              refine q_iconst (v := 0) C dX7_readOrder_308 (by decide) ?_
              refine q_goto (tgt := 336) C dX7_readOrder_309 (by decide) ?_
              refine q_st (congrArg (uQ_at (q_p (q_p (uQ_r S cnt 97) 119 (4 * cnt + 1) (uQ_dv t n (uP_lt t n s))) 119 (4 * cnt + 2) (uQ_dv t n (uP_sg t n 46 (uP_dg t n (uP_lt t n s)))))) (uP_pm_st (t := t) (n := n) hb_302).symm) ?_
              refine q_istore (lv' := [(6, .int 0), (5, .int 1), (4, .int (uQ_v t n 61 61 (uP_dg t n (uP_sg t n 46 (uP_dg t n (uP_lt t n s)))))), (3, .int (nI (4 * cnt))), (2, .int 1), (1, .int 97), (0, .ref 112)]) C dX7_readOrder_336 (by decide) rfl ?_
              refine q_aload_n C dX7_readOrder_338 rfl rfl ?_
              refine q_ci0 C (c_X7_number l (q_p (q_p (uQ_r S cnt 97) 119 (4 * cnt + 1) (uQ_dv t n (uP_lt t n s))) 119 (4 * cnt + 2) (uQ_dv t n (uP_sg t n 46 (uP_dg t n (uP_lt t n s))))) t n ht hn hn60 hch (uP_pm t n (uP_sg t n 61 (uP_dg t n (uP_sg t n 46 (uP_dg t n (uP_lt t n s)))))) (uP_pm_le _ _ (uP_sg_le _ _ (by first | assumption | decide) (uP_dg_le _ _ (uP_sg_le _ _ (by first | assumption | decide) (uP_dg_le _ _ (uP_lt_le _ _ hs))))))) myX7_number mlX7_214 q_s112 ⟨by decide, by decide⟩ (Nat.le_of_ble_eq_true rfl) dX7_readOrder_339 ?_
              refine q_istore (lv' := [(7, .int (uQ_nv t n (uP_pm t n (uP_sg t n 61 (uP_dg t n (uP_sg t n 46 (uP_dg t n (uP_lt t n s)))))))), (6, .int 0), (5, .int 1), (4, .int (uQ_v t n 61 61 (uP_dg t n (uP_sg t n 46 (uP_dg t n (uP_lt t n s)))))), (3, .int (nI (4 * cnt))), (2, .int 1), (1, .int 97), (0, .ref 112)]) C dX7_readOrder_342 (by decide) rfl ?_
              refine q_aload_n C dX7_readOrder_344 rfl rfl ?_
              refine q_getR C flX7_33 q_s112 rfl dX7_readOrder_345 ?_
              refine q_iload_n C dX7_readOrder_348 rfl rfl ?_
              refine q_iconst (v := 3) C dX7_readOrder_349 (by decide) ?_
              refine q_iaddN (a := 4 * cnt) (b := 3) C dX7_readOrder_350 rfl rfl ?_
              refine q_iload C dX7_readOrder_351 rfl ?_
              refine q_if_eq (tgt := 362) C dX7_readOrder_353 (by decide) (fun h9 => absurd h9 (by decide)) (fun _ => ?_)
              refine q_iload C dX7_readOrder_356 rfl ?_
              refine q_ineg C dX7_readOrder_358 ?_
              refine q_goto (tgt := 364) C dX7_readOrder_359 (by decide) ?_
              refine q_iastN (i := 4 * cnt + 3) C rfl q_s119 (by omega) (by decide) dX7_readOrder_364 ?_
              refine q_st (uQ_at_119 (q_p (q_p (uQ_r S cnt 97) 119 (4 * cnt + 1) (uQ_dv t n (uP_lt t n s))) 119 (4 * cnt + 2) (uQ_dv t n (uP_sg t n 46 (uP_dg t n (uP_lt t n s))))) (uP_nm t n (uP_pm t n (uP_sg t n 61 (uP_dg t n (uP_sg t n 46 (uP_dg t n (uP_lt t n s))))))) _ _) ?_
              refine q_goto (tgt := 470) C dX7_readOrder_365 (by decide) ?_
              exact hret _ _ _ dX7_readOrder_470 (by rw [(show uP_s5 t n s = (uP_nm t n (uP_pm t n (uP_sg t n 61 (uP_dg t n (uP_sg t n 46 (uP_dg t n (uP_lt t n s))))))) by simp [uP_s5, uP_ls, uP_s4, uP_s3, uP_s2, uQ_s4, uO_hasM, uO_hasG, hk]), (show uQ_ordS t n S cnt s = (q_p (q_p (q_p (uQ_r S cnt 97) 119 (4 * cnt + 1) (uQ_dv t n (uP_lt t n s))) 119 (4 * cnt + 2) (uQ_dv t n (uP_sg t n 46 (uP_dg t n (uP_lt t n s))))) 119 (4 * cnt + 3) (-(uQ_nv t n (uP_pm t n (uP_sg t n 61 (uP_dg t n (uP_sg t n 46 (uP_dg t n (uP_lt t n s))))))))) by simp [uQ_ordS, uQ_a1, uQ_a2, uQ_s4, hk, (by decide : uP_isL 97 = true), uQ_am_t h_296])])
          · refine q_ci2 C (q_Fi.cv (if_neg h_296) (c_X7_isHere l (q_p (q_p (uQ_r S cnt 97) 119 (4 * cnt + 1) (uQ_dv t n (uP_lt t n s))) 119 (4 * cnt + 2) (uQ_dv t n (uP_sg t n 46 (uP_dg t n (uP_lt t n s))))) t n ht hn hn60 hch (uP_sg t n 61 (uP_dg t n (uP_sg t n 46 (uP_dg t n (uP_lt t n s))))) (uP_sg_le _ _ (by first | assumption | decide) (uP_dg_le _ _ (uP_sg_le _ _ (by first | assumption | decide) (uP_dg_le _ _ (uP_lt_le _ _ hs))))) 45 45)) myX7_isHere mlX7_196 q_s112 ⟨by decide, by decide⟩ (Nat.le_of_ble_eq_true rfl) dX7_readOrder_296 ?_
            refine q_istore (lv' := [(5, .int 0), (4, .int (uQ_v t n 61 61 (uP_dg t n (uP_sg t n 46 (uP_dg t n (uP_lt t n s)))))), (3, .int (nI (4 * cnt))), (2, .int 1), (1, .int 97), (0, .ref 112)]) C dX7_readOrder_299 (by decide) rfl ?_
            refine q_aload_n C dX7_readOrder_301 rfl rfl ?_
            rcases q_bc ((uP_sg t n 61 (uP_dg t n (uP_sg t n 46 (uP_dg t n (uP_lt t n s)))))).1 with hb_302 | hb_302
            · refine q_getI (x := 0) C flX7_190 q_s112 rfl dX7_readOrder_302 (congrArg uO_b hb_302) ?_
              refine q_if_eq (tgt := 312) C dX7_readOrder_305 (by decide) (fun _ => ?_) (fun h9 => absurd h9 (by decide))
              refine q_iload C dX7_readOrder_312 rfl ?_
              refine q_if_eq (tgt := 328) C dX7_readOrder_314 (by decide) (fun _ => ?_) (fun h9 => absurd h9 (by decide))
              refine q_aload_n C dX7_readOrder_328 rfl rfl ?_
              refine q_bipush (v := 43) C dX7_readOrder_329 (by decide) ?_
              refine q_bipush (v := 43) C dX7_readOrder_331 (by decide) ?_
              refine q_ci2 C (q_Fi.cs rfl (congrArg (uQ_at (q_p (q_p (uQ_r S cnt 97) 119 (4 * cnt + 1) (uQ_dv t n (uP_lt t n s))) 119 (4 * cnt + 2) (uQ_dv t n (uP_sg t n 46 (uP_dg t n (uP_lt t n s)))))) (uQ_sg_c t n (by decide) (uP_sg t n 61 (uP_dg t n (uP_sg t n 46 (uP_dg t n (uP_lt t n s))))))) (c_X7_sign l (q_p (q_p (uQ_r S cnt 97) 119 (4 * cnt + 1) (uQ_dv t n (uP_lt t n s))) 119 (4 * cnt + 2) (uQ_dv t n (uP_sg t n 46 (uP_dg t n (uP_lt t n s))))) t n ht hn hn60 hch (uP_sg t n 61 (uP_dg t n (uP_sg t n 46 (uP_dg t n (uP_lt t n s))))) (uP_sg_le _ _ (by first | assumption | decide) (uP_dg_le _ _ (uP_sg_le _ _ (by first | assumption | decide) (uP_dg_le _ _ (uP_lt_le _ _ hs))))) 43 43)) myX7_sign mlX7_200 q_s112 ⟨by decide, by decide⟩ (Nat.le_of_ble_eq_true rfl) dX7_readOrder_333 ?_
              refine q_st (congrArg (uQ_at (q_p (q_p (uQ_r S cnt 97) 119 (4 * cnt + 1) (uQ_dv t n (uP_lt t n s))) 119 (4 * cnt + 2) (uQ_dv t n (uP_sg t n 46 (uP_dg t n (uP_lt t n s)))))) ((uQ_pm_eq hb_302).trans (if_neg h_296)).symm) ?_
              refine q_istore (lv' := [(6, .int (uQ_v t n 43 43 (uP_sg t n 61 (uP_dg t n (uP_sg t n 46 (uP_dg t n (uP_lt t n s))))))), (5, .int 0), (4, .int (uQ_v t n 61 61 (uP_dg t n (uP_sg t n 46 (uP_dg t n (uP_lt t n s)))))), (3, .int (nI (4 * cnt))), (2, .int 1), (1, .int 97), (0, .ref 112)]) C dX7_readOrder_336 (by decide) rfl ?_
              refine q_aload_n C dX7_readOrder_338 rfl rfl ?_
              refine q_ci0 C (c_X7_number l (q_p (q_p (uQ_r S cnt 97) 119 (4 * cnt + 1) (uQ_dv t n (uP_lt t n s))) 119 (4 * cnt + 2) (uQ_dv t n (uP_sg t n 46 (uP_dg t n (uP_lt t n s))))) t n ht hn hn60 hch (uP_pm t n (uP_sg t n 61 (uP_dg t n (uP_sg t n 46 (uP_dg t n (uP_lt t n s)))))) (uP_pm_le _ _ (uP_sg_le _ _ (by first | assumption | decide) (uP_dg_le _ _ (uP_sg_le _ _ (by first | assumption | decide) (uP_dg_le _ _ (uP_lt_le _ _ hs))))))) myX7_number mlX7_214 q_s112 ⟨by decide, by decide⟩ (Nat.le_of_ble_eq_true rfl) dX7_readOrder_339 ?_
              refine q_istore (lv' := [(7, .int (uQ_nv t n (uP_pm t n (uP_sg t n 61 (uP_dg t n (uP_sg t n 46 (uP_dg t n (uP_lt t n s)))))))), (6, .int (uQ_v t n 43 43 (uP_sg t n 61 (uP_dg t n (uP_sg t n 46 (uP_dg t n (uP_lt t n s))))))), (5, .int 0), (4, .int (uQ_v t n 61 61 (uP_dg t n (uP_sg t n 46 (uP_dg t n (uP_lt t n s)))))), (3, .int (nI (4 * cnt))), (2, .int 1), (1, .int 97), (0, .ref 112)]) C dX7_readOrder_342 (by decide) rfl ?_
              refine q_aload_n C dX7_readOrder_344 rfl rfl ?_
              refine q_getR C flX7_33 q_s112 rfl dX7_readOrder_345 ?_
              refine q_iload_n C dX7_readOrder_348 rfl rfl ?_
              refine q_iconst (v := 3) C dX7_readOrder_349 (by decide) ?_
              refine q_iaddN (a := 4 * cnt) (b := 3) C dX7_readOrder_350 rfl rfl ?_
              refine q_iload C dX7_readOrder_351 rfl ?_
              refine q_if_eq (tgt := 362) C dX7_readOrder_353 (by decide) (fun _ => ?_) (fun h9 => absurd h9 (by decide))
              refine q_iload C dX7_readOrder_362 rfl ?_
              refine q_iastN (i := 4 * cnt + 3) C rfl q_s119 (by omega) (by decide) dX7_readOrder_364 ?_
              refine q_st (uQ_at_119 (q_p (q_p (uQ_r S cnt 97) 119 (4 * cnt + 1) (uQ_dv t n (uP_lt t n s))) 119 (4 * cnt + 2) (uQ_dv t n (uP_sg t n 46 (uP_dg t n (uP_lt t n s))))) (uP_nm t n (uP_pm t n (uP_sg t n 61 (uP_dg t n (uP_sg t n 46 (uP_dg t n (uP_lt t n s))))))) _ _) ?_
              refine q_goto (tgt := 470) C dX7_readOrder_365 (by decide) ?_
              exact hret _ _ _ dX7_readOrder_470 (by rw [(show uP_s5 t n s = (uP_nm t n (uP_pm t n (uP_sg t n 61 (uP_dg t n (uP_sg t n 46 (uP_dg t n (uP_lt t n s))))))) by simp [uP_s5, uP_ls, uP_s4, uP_s3, uP_s2, uQ_s4, uO_hasM, uO_hasG, hk]), (show uQ_ordS t n S cnt s = (q_p (q_p (q_p (uQ_r S cnt 97) 119 (4 * cnt + 1) (uQ_dv t n (uP_lt t n s))) 119 (4 * cnt + 2) (uQ_dv t n (uP_sg t n 46 (uP_dg t n (uP_lt t n s))))) 119 (4 * cnt + 3) (uQ_nv t n (uP_pm t n (uP_sg t n 61 (uP_dg t n (uP_sg t n 46 (uP_dg t n (uP_lt t n s)))))))) by simp [uQ_ordS, uQ_a1, uQ_a2, uQ_s4, hk, (by decide : uP_isL 97 = true), uQ_am_f h_296])])
            · refine q_getI (x := 1) C flX7_190 q_s112 rfl dX7_readOrder_302 (congrArg uO_b hb_302) ?_
              refine q_if_eq (tgt := 312) C dX7_readOrder_305 (by decide) (fun h9 => absurd h9 (by decide)) (fun _ => ?_)
              refine q_iconst (v := 0) C dX7_readOrder_308 (by decide) ?_
              refine q_goto (tgt := 336) C dX7_readOrder_309 (by decide) ?_
              refine q_st (congrArg (uQ_at (q_p (q_p (uQ_r S cnt 97) 119 (4 * cnt + 1) (uQ_dv t n (uP_lt t n s))) 119 (4 * cnt + 2) (uQ_dv t n (uP_sg t n 46 (uP_dg t n (uP_lt t n s)))))) (uP_pm_st (t := t) (n := n) hb_302).symm) ?_
              refine q_istore (lv' := [(6, .int 0), (5, .int 0), (4, .int (uQ_v t n 61 61 (uP_dg t n (uP_sg t n 46 (uP_dg t n (uP_lt t n s)))))), (3, .int (nI (4 * cnt))), (2, .int 1), (1, .int 97), (0, .ref 112)]) C dX7_readOrder_336 (by decide) rfl ?_
              refine q_aload_n C dX7_readOrder_338 rfl rfl ?_
              refine q_ci0 C (c_X7_number l (q_p (q_p (uQ_r S cnt 97) 119 (4 * cnt + 1) (uQ_dv t n (uP_lt t n s))) 119 (4 * cnt + 2) (uQ_dv t n (uP_sg t n 46 (uP_dg t n (uP_lt t n s))))) t n ht hn hn60 hch (uP_pm t n (uP_sg t n 61 (uP_dg t n (uP_sg t n 46 (uP_dg t n (uP_lt t n s)))))) (uP_pm_le _ _ (uP_sg_le _ _ (by first | assumption | decide) (uP_dg_le _ _ (uP_sg_le _ _ (by first | assumption | decide) (uP_dg_le _ _ (uP_lt_le _ _ hs))))))) myX7_number mlX7_214 q_s112 ⟨by decide, by decide⟩ (Nat.le_of_ble_eq_true rfl) dX7_readOrder_339 ?_
              refine q_istore (lv' := [(7, .int (uQ_nv t n (uP_pm t n (uP_sg t n 61 (uP_dg t n (uP_sg t n 46 (uP_dg t n (uP_lt t n s)))))))), (6, .int 0), (5, .int 0), (4, .int (uQ_v t n 61 61 (uP_dg t n (uP_sg t n 46 (uP_dg t n (uP_lt t n s)))))), (3, .int (nI (4 * cnt))), (2, .int 1), (1, .int 97), (0, .ref 112)]) C dX7_readOrder_342 (by decide) rfl ?_
              refine q_aload_n C dX7_readOrder_344 rfl rfl ?_
              refine q_getR C flX7_33 q_s112 rfl dX7_readOrder_345 ?_
              refine q_iload_n C dX7_readOrder_348 rfl rfl ?_
              refine q_iconst (v := 3) C dX7_readOrder_349 (by decide) ?_
              refine q_iaddN (a := 4 * cnt) (b := 3) C dX7_readOrder_350 rfl rfl ?_
              refine q_iload C dX7_readOrder_351 rfl ?_
              refine q_if_eq (tgt := 362) C dX7_readOrder_353 (by decide) (fun _ => ?_) (fun h9 => absurd h9 (by decide))
              refine q_iload C dX7_readOrder_362 rfl ?_
              refine q_iastN (i := 4 * cnt + 3) C rfl q_s119 (by omega) (by decide) dX7_readOrder_364 ?_
              refine q_st (uQ_at_119 (q_p (q_p (uQ_r S cnt 97) 119 (4 * cnt + 1) (uQ_dv t n (uP_lt t n s))) 119 (4 * cnt + 2) (uQ_dv t n (uP_sg t n 46 (uP_dg t n (uP_lt t n s))))) (uP_nm t n (uP_pm t n (uP_sg t n 61 (uP_dg t n (uP_sg t n 46 (uP_dg t n (uP_lt t n s))))))) _ _) ?_
              refine q_goto (tgt := 470) C dX7_readOrder_365 (by decide) ?_
              exact hret _ _ _ dX7_readOrder_470 (by rw [(show uP_s5 t n s = (uP_nm t n (uP_pm t n (uP_sg t n 61 (uP_dg t n (uP_sg t n 46 (uP_dg t n (uP_lt t n s))))))) by simp [uP_s5, uP_ls, uP_s4, uP_s3, uP_s2, uQ_s4, uO_hasM, uO_hasG, hk]), (show uQ_ordS t n S cnt s = (q_p (q_p (q_p (uQ_r S cnt 97) 119 (4 * cnt + 1) (uQ_dv t n (uP_lt t n s))) 119 (4 * cnt + 2) (uQ_dv t n (uP_sg t n 46 (uP_dg t n (uP_lt t n s))))) 119 (4 * cnt + 3) (uQ_nv t n (uP_pm t n (uP_sg t n 61 (uP_dg t n (uP_sg t n 46 (uP_dg t n (uP_lt t n s)))))))) by simp [uQ_ordS, uQ_a1, uQ_a2, uQ_s4, hk, (by decide : uP_isL 97 = true), uQ_am_f h_296])])
        · refine q_getI (x := 1) C flX7_190 q_s112 rfl dX7_readOrder_271 (congrArg uO_b hb_271) ?_
          refine q_if_eq (tgt := 281) C dX7_readOrder_274 (by decide) (fun h9 => absurd h9 (by decide)) (fun _ => ?_)
          refine q_iconst (v := 0) C dX7_readOrder_277 (by decide) ?_
          refine q_goto (tgt := 289) C dX7_readOrder_278 (by decide) ?_
          refine q_st (congrArg (uQ_at (q_p (q_p (uQ_r S cnt 97) 119 (4 * cnt + 1) (uQ_dv t n (uP_lt t n s))) 119 (4 * cnt + 2) (uQ_dv t n (uP_sg t n 46 (uP_dg t n (uP_lt t n s)))))) (uP_sg_st (t := t) (n := n) (c := 61) hb_271).symm) ?_
          refine q_istore (lv' := [(4, .int 0), (3, .int (nI (4 * cnt))), (2, .int 1), (1, .int 97), (0, .ref 112)]) C dX7_readOrder_289 (by decide) rfl ?_
          refine q_aload_n C dX7_readOrder_291 rfl rfl ?_
          refine q_bipush (v := 45) C dX7_readOrder_292 (by decide) ?_
          refine q_bipush (v := 45) C dX7_readOrder_294 (by decide) ?_
          by_cases h_296 : uQ_here t n 45 45 (uP_sg t n 61 (uP_dg t n (uP_sg t n 46 (uP_dg t n (uP_lt t n s)))))
          · refine q_ci2 C (q_Fi.cv (if_pos h_296) (c_X7_isHere l (q_p (q_p (uQ_r S cnt 97) 119 (4 * cnt + 1) (uQ_dv t n (uP_lt t n s))) 119 (4 * cnt + 2) (uQ_dv t n (uP_sg t n 46 (uP_dg t n (uP_lt t n s))))) t n ht hn hn60 hch (uP_sg t n 61 (uP_dg t n (uP_sg t n 46 (uP_dg t n (uP_lt t n s))))) (uP_sg_le _ _ (by first | assumption | decide) (uP_dg_le _ _ (uP_sg_le _ _ (by first | assumption | decide) (uP_dg_le _ _ (uP_lt_le _ _ hs))))) 45 45)) myX7_isHere mlX7_196 q_s112 ⟨by decide, by decide⟩ (Nat.le_of_ble_eq_true rfl) dX7_readOrder_296 ?_
            refine q_istore (lv' := [(5, .int 1), (4, .int 0), (3, .int (nI (4 * cnt))), (2, .int 1), (1, .int 97), (0, .ref 112)]) C dX7_readOrder_299 (by decide) rfl ?_
            refine q_aload_n C dX7_readOrder_301 rfl rfl ?_
            refine q_getI (x := 1) C flX7_190 q_s112 rfl dX7_readOrder_302 (congrArg uO_b (uP_sg_1 hb_271)) ?_
            refine q_if_eq (tgt := 312) C dX7_readOrder_305 (by decide) (fun h9 => absurd h9 (by decide)) (fun _ => ?_)
            refine q_iconst (v := 0) C dX7_readOrder_308 (by decide) ?_
            refine q_goto (tgt := 336) C dX7_readOrder_309 (by decide) ?_
            refine q_st (congrArg (uQ_at (q_p (q_p (uQ_r S cnt 97) 119 (4 * cnt + 1) (uQ_dv t n (uP_lt t n s))) 119 (4 * cnt + 2) (uQ_dv t n (uP_sg t n 46 (uP_dg t n (uP_lt t n s)))))) (uP_pm_st (t := t) (n := n) (uP_sg_1 hb_271)).symm) ?_
            refine q_istore (lv' := [(6, .int 0), (5, .int 1), (4, .int 0), (3, .int (nI (4 * cnt))), (2, .int 1), (1, .int 97), (0, .ref 112)]) C dX7_readOrder_336 (by decide) rfl ?_
            refine q_aload_n C dX7_readOrder_338 rfl rfl ?_
            refine q_ci0 C (c_X7_number l (q_p (q_p (uQ_r S cnt 97) 119 (4 * cnt + 1) (uQ_dv t n (uP_lt t n s))) 119 (4 * cnt + 2) (uQ_dv t n (uP_sg t n 46 (uP_dg t n (uP_lt t n s))))) t n ht hn hn60 hch (uP_pm t n (uP_sg t n 61 (uP_dg t n (uP_sg t n 46 (uP_dg t n (uP_lt t n s)))))) (uP_pm_le _ _ (uP_sg_le _ _ (by first | assumption | decide) (uP_dg_le _ _ (uP_sg_le _ _ (by first | assumption | decide) (uP_dg_le _ _ (uP_lt_le _ _ hs))))))) myX7_number mlX7_214 q_s112 ⟨by decide, by decide⟩ (Nat.le_of_ble_eq_true rfl) dX7_readOrder_339 ?_
            refine q_istore (lv' := [(7, .int (uQ_nv t n (uP_pm t n (uP_sg t n 61 (uP_dg t n (uP_sg t n 46 (uP_dg t n (uP_lt t n s)))))))), (6, .int 0), (5, .int 1), (4, .int 0), (3, .int (nI (4 * cnt))), (2, .int 1), (1, .int 97), (0, .ref 112)]) C dX7_readOrder_342 (by decide) rfl ?_
            refine q_aload_n C dX7_readOrder_344 rfl rfl ?_
            refine q_getR C flX7_33 q_s112 rfl dX7_readOrder_345 ?_
            refine q_iload_n C dX7_readOrder_348 rfl rfl ?_
            refine q_iconst (v := 3) C dX7_readOrder_349 (by decide) ?_
            refine q_iaddN (a := 4 * cnt) (b := 3) C dX7_readOrder_350 rfl rfl ?_
            refine q_iload C dX7_readOrder_351 rfl ?_
            refine q_if_eq (tgt := 362) C dX7_readOrder_353 (by decide) (fun h9 => absurd h9 (by decide)) (fun _ => ?_)
            refine q_iload C dX7_readOrder_356 rfl ?_
            refine q_ineg C dX7_readOrder_358 ?_
            refine q_goto (tgt := 364) C dX7_readOrder_359 (by decide) ?_
            refine q_iastN (i := 4 * cnt + 3) C rfl q_s119 (by omega) (by decide) dX7_readOrder_364 ?_
            refine q_st (uQ_at_119 (q_p (q_p (uQ_r S cnt 97) 119 (4 * cnt + 1) (uQ_dv t n (uP_lt t n s))) 119 (4 * cnt + 2) (uQ_dv t n (uP_sg t n 46 (uP_dg t n (uP_lt t n s))))) (uP_nm t n (uP_pm t n (uP_sg t n 61 (uP_dg t n (uP_sg t n 46 (uP_dg t n (uP_lt t n s))))))) _ _) ?_
            refine q_goto (tgt := 470) C dX7_readOrder_365 (by decide) ?_
            exact hret _ _ _ dX7_readOrder_470 (by rw [(show uP_s5 t n s = (uP_nm t n (uP_pm t n (uP_sg t n 61 (uP_dg t n (uP_sg t n 46 (uP_dg t n (uP_lt t n s))))))) by simp [uP_s5, uP_ls, uP_s4, uP_s3, uP_s2, uQ_s4, uO_hasM, uO_hasG, hk]), (show uQ_ordS t n S cnt s = (q_p (q_p (q_p (uQ_r S cnt 97) 119 (4 * cnt + 1) (uQ_dv t n (uP_lt t n s))) 119 (4 * cnt + 2) (uQ_dv t n (uP_sg t n 46 (uP_dg t n (uP_lt t n s))))) 119 (4 * cnt + 3) (-(uQ_nv t n (uP_pm t n (uP_sg t n 61 (uP_dg t n (uP_sg t n 46 (uP_dg t n (uP_lt t n s))))))))) by simp [uQ_ordS, uQ_a1, uQ_a2, uQ_s4, hk, (by decide : uP_isL 97 = true), uQ_am_t h_296])])
          · refine q_ci2 C (q_Fi.cv (if_neg h_296) (c_X7_isHere l (q_p (q_p (uQ_r S cnt 97) 119 (4 * cnt + 1) (uQ_dv t n (uP_lt t n s))) 119 (4 * cnt + 2) (uQ_dv t n (uP_sg t n 46 (uP_dg t n (uP_lt t n s))))) t n ht hn hn60 hch (uP_sg t n 61 (uP_dg t n (uP_sg t n 46 (uP_dg t n (uP_lt t n s))))) (uP_sg_le _ _ (by first | assumption | decide) (uP_dg_le _ _ (uP_sg_le _ _ (by first | assumption | decide) (uP_dg_le _ _ (uP_lt_le _ _ hs))))) 45 45)) myX7_isHere mlX7_196 q_s112 ⟨by decide, by decide⟩ (Nat.le_of_ble_eq_true rfl) dX7_readOrder_296 ?_
            refine q_istore (lv' := [(5, .int 0), (4, .int 0), (3, .int (nI (4 * cnt))), (2, .int 1), (1, .int 97), (0, .ref 112)]) C dX7_readOrder_299 (by decide) rfl ?_
            refine q_aload_n C dX7_readOrder_301 rfl rfl ?_
            refine q_getI (x := 1) C flX7_190 q_s112 rfl dX7_readOrder_302 (congrArg uO_b (uP_sg_1 hb_271)) ?_
            refine q_if_eq (tgt := 312) C dX7_readOrder_305 (by decide) (fun h9 => absurd h9 (by decide)) (fun _ => ?_)
            refine q_iconst (v := 0) C dX7_readOrder_308 (by decide) ?_
            refine q_goto (tgt := 336) C dX7_readOrder_309 (by decide) ?_
            refine q_st (congrArg (uQ_at (q_p (q_p (uQ_r S cnt 97) 119 (4 * cnt + 1) (uQ_dv t n (uP_lt t n s))) 119 (4 * cnt + 2) (uQ_dv t n (uP_sg t n 46 (uP_dg t n (uP_lt t n s)))))) (uP_pm_st (t := t) (n := n) (uP_sg_1 hb_271)).symm) ?_
            refine q_istore (lv' := [(6, .int 0), (5, .int 0), (4, .int 0), (3, .int (nI (4 * cnt))), (2, .int 1), (1, .int 97), (0, .ref 112)]) C dX7_readOrder_336 (by decide) rfl ?_
            refine q_aload_n C dX7_readOrder_338 rfl rfl ?_
            refine q_ci0 C (c_X7_number l (q_p (q_p (uQ_r S cnt 97) 119 (4 * cnt + 1) (uQ_dv t n (uP_lt t n s))) 119 (4 * cnt + 2) (uQ_dv t n (uP_sg t n 46 (uP_dg t n (uP_lt t n s))))) t n ht hn hn60 hch (uP_pm t n (uP_sg t n 61 (uP_dg t n (uP_sg t n 46 (uP_dg t n (uP_lt t n s)))))) (uP_pm_le _ _ (uP_sg_le _ _ (by first | assumption | decide) (uP_dg_le _ _ (uP_sg_le _ _ (by first | assumption | decide) (uP_dg_le _ _ (uP_lt_le _ _ hs))))))) myX7_number mlX7_214 q_s112 ⟨by decide, by decide⟩ (Nat.le_of_ble_eq_true rfl) dX7_readOrder_339 ?_
            refine q_istore (lv' := [(7, .int (uQ_nv t n (uP_pm t n (uP_sg t n 61 (uP_dg t n (uP_sg t n 46 (uP_dg t n (uP_lt t n s)))))))), (6, .int 0), (5, .int 0), (4, .int 0), (3, .int (nI (4 * cnt))), (2, .int 1), (1, .int 97), (0, .ref 112)]) C dX7_readOrder_342 (by decide) rfl ?_
            refine q_aload_n C dX7_readOrder_344 rfl rfl ?_
            refine q_getR C flX7_33 q_s112 rfl dX7_readOrder_345 ?_
            refine q_iload_n C dX7_readOrder_348 rfl rfl ?_
            refine q_iconst (v := 3) C dX7_readOrder_349 (by decide) ?_
            refine q_iaddN (a := 4 * cnt) (b := 3) C dX7_readOrder_350 rfl rfl ?_
            refine q_iload C dX7_readOrder_351 rfl ?_
            refine q_if_eq (tgt := 362) C dX7_readOrder_353 (by decide) (fun _ => ?_) (fun h9 => absurd h9 (by decide))
            refine q_iload C dX7_readOrder_362 rfl ?_
            refine q_iastN (i := 4 * cnt + 3) C rfl q_s119 (by omega) (by decide) dX7_readOrder_364 ?_
            refine q_st (uQ_at_119 (q_p (q_p (uQ_r S cnt 97) 119 (4 * cnt + 1) (uQ_dv t n (uP_lt t n s))) 119 (4 * cnt + 2) (uQ_dv t n (uP_sg t n 46 (uP_dg t n (uP_lt t n s))))) (uP_nm t n (uP_pm t n (uP_sg t n 61 (uP_dg t n (uP_sg t n 46 (uP_dg t n (uP_lt t n s))))))) _ _) ?_
            refine q_goto (tgt := 470) C dX7_readOrder_365 (by decide) ?_
            exact hret _ _ _ dX7_readOrder_470 (by rw [(show uP_s5 t n s = (uP_nm t n (uP_pm t n (uP_sg t n 61 (uP_dg t n (uP_sg t n 46 (uP_dg t n (uP_lt t n s))))))) by simp [uP_s5, uP_ls, uP_s4, uP_s3, uP_s2, uQ_s4, uO_hasM, uO_hasG, hk]), (show uQ_ordS t n S cnt s = (q_p (q_p (q_p (uQ_r S cnt 97) 119 (4 * cnt + 1) (uQ_dv t n (uP_lt t n s))) 119 (4 * cnt + 2) (uQ_dv t n (uP_sg t n 46 (uP_dg t n (uP_lt t n s))))) 119 (4 * cnt + 3) (uQ_nv t n (uP_pm t n (uP_sg t n 61 (uP_dg t n (uP_sg t n 46 (uP_dg t n (uP_lt t n s)))))))) by simp [uQ_ordS, uQ_a1, uQ_a2, uQ_s4, hk, (by decide : uP_isL 97 = true), uQ_am_f h_296])])
      · refine q_iload_n C dX7_readOrder_45 rfl rfl ?_
        refine q_bipush (v := 113) C dX7_readOrder_46 (by decide) ?_
        refine q_icmp_eq (tgt := 99) C dX7_readOrder_48 (by decide)  (fun c_48 => ?_) (fun c_48 => ?_)
        · refine q_V_to (lv' := [(1, .int 113), (0, .ref 112)]) ?_ ⟨q_iv c_48, rfl, trivial⟩ rfl
          have hk : uP_nx t n s.2 = 113 := hnx.trans c_48
          refine q_iconst (v := 1) C dX7_readOrder_99 (by decide) ?_
          refine q_goto (tgt := 104) C dX7_readOrder_100 (by decide) ?_
          refine q_istore_n (lv' := [(2, .int 1), (1, .int 113), (0, .ref 112)]) C dX7_readOrder_104 rfl (by decide) rfl ?_
          refine q_iload_n C dX7_readOrder_105 rfl rfl ?_
          refine q_if_ne (tgt := 115) C dX7_readOrder_106 (by decide) (fun _ => ?_) (fun h9 => absurd h9 (by decide))
          refine q_aload_n C dX7_readOrder_115 rfl rfl ?_
          refine q_dup C rfl dX7_readOrder_116 ?_
          refine q_getI (x := nI s.2) C flX7_193 q_s112 rfl dX7_readOrder_117 (uQ_at_14 S s) ?_
          refine q_iconst (v := 1) C dX7_readOrder_120 (by decide) ?_
          refine q_iaddN (a := s.2) (b := 1) C dX7_readOrder_121 rfl rfl ?_
          refine q_put (ty9 := .int) C flX7_193 q_s112 rfl (fun _ _ _ h => by cases h; exact ⟨rfl, by decide +kernel⟩) rfl rfl dX7_readOrder_122 ?_
          refine q_iconst (v := 4) C dX7_readOrder_125 (by decide) ?_
          refine q_aload_n C dX7_readOrder_126 rfl rfl ?_
          refine q_getI (x := nI cnt) C flX7_207 q_s112 rfl dX7_readOrder_127 ((uQ_at_k S s 18 (by decide) (by decide)).trans hcnt) ?_
          refine q_imulN (a := 4) (b := cnt) C dX7_readOrder_130 rfl rfl ?_
          refine q_istore_n (lv' := [(3, .int (nI (4 * cnt))), (2, .int 1), (1, .int 113), (0, .ref 112)]) C dX7_readOrder_131 rfl (by decide) rfl ?_
          refine q_aload_n C dX7_readOrder_132 rfl rfl ?_
          refine q_getR C flX7_33 q_s112 rfl dX7_readOrder_133 ?_
          refine q_iload_n C dX7_readOrder_136 rfl rfl ?_
          refine q_iload_n C dX7_readOrder_137 rfl rfl ?_
          refine q_iastN (i := 4 * cnt) C rfl q_s119 (by omega) (by decide) dX7_readOrder_138 ?_
          refine q_aload_n C dX7_readOrder_139 rfl rfl ?_
          refine q_dup C rfl dX7_readOrder_140 ?_
          refine q_getI (x := nI cnt) C flX7_207 q_s112 rfl dX7_readOrder_141 ((uQ_at_k S s 18 (by decide) (by decide)).trans hcnt) ?_
          refine q_iconst (v := 1) C dX7_readOrder_144 (by decide) ?_
          refine q_iaddN (a := cnt) (b := 1) C dX7_readOrder_145 rfl rfl ?_
          refine q_put (ty9 := .int) C flX7_207 q_s112 rfl (fun _ _ _ h => by cases h; exact ⟨rfl, by decide +kernel⟩) rfl rfl dX7_readOrder_146 ?_
          refine q_st (show _ = uQ_at (uQ_r S cnt 113) (uP_lt t n s) from ?_) ?_
          · rw [uQ_lt_t hs1 (by rw [hk]; decide), uQ_at_w2, hs1, uQ_at_119, uQ_at_18]; rfl
          refine q_iload_n C dX7_readOrder_149 rfl rfl ?_
          refine q_tabin (off := 218) (tgt := 368) C dX7_readOrder_150 (by decide) (by decide) (by decide) (by decide) ?_
          refine q_aload_n C dX7_readOrder_368 rfl rfl ?_
          refine q_getR C flX7_33 q_s112 rfl dX7_readOrder_369 ?_
          refine q_iload_n C dX7_readOrder_372 rfl rfl ?_
          refine q_iconst (v := 1) C dX7_readOrder_373 (by decide) ?_
          refine q_iaddN (a := 4 * cnt) (b := 1) C dX7_readOrder_374 rfl rfl ?_
          refine q_aload_n C dX7_readOrder_375 rfl rfl ?_
          refine q_ci0 C (c_X7_digit l (uQ_r S cnt 113) t n ht hn hn60 hch (uP_lt t n s) (uP_lt_le _ _ hs)) myX7_digit mlX7_204 q_s112 ⟨by decide, by decide⟩ (Nat.le_of_ble_eq_true rfl) dX7_readOrder_376 ?_
          refine q_iastN (i := 4 * cnt + 1) C rfl q_s119 (by omega) (by decide) dX7_readOrder_379 ?_
          refine q_st (uQ_at_119 (uQ_r S cnt 113) (uP_dg t n (uP_lt t n s)) _ _) ?_
          refine q_aload_n C dX7_readOrder_380 rfl rfl ?_
          refine q_getR C flX7_33 q_s112 rfl dX7_readOrder_381 ?_
          refine q_iload_n C dX7_readOrder_384 rfl rfl ?_
          refine q_iconst (v := 2) C dX7_readOrder_385 (by decide) ?_
          refine q_iaddN (a := 4 * cnt) (b := 2) C dX7_readOrder_386 rfl rfl ?_
          refine q_aload_n C dX7_readOrder_387 rfl rfl ?_
          refine q_bipush (v := 46) C dX7_readOrder_388 (by decide) ?_
          refine q_ci1 C (c_X7_behind l (q_p (uQ_r S cnt 113) 119 (4 * cnt + 1) (uQ_dv t n (uP_lt t n s))) t n ht hn hn60 hch (uP_dg t n (uP_lt t n s)) (uP_dg_le _ _ (uP_lt_le _ _ hs)) 46 (by decide)) myX7_behind mlX7_210 q_s112 ⟨by decide, by decide⟩ (Nat.le_of_ble_eq_true rfl) dX7_readOrder_390 ?_
          refine q_iastN (i := 4 * cnt + 2) C rfl q_s119 (by omega) (by decide) dX7_readOrder_393 ?_
          refine q_st (uQ_at_119 (q_p (uQ_r S cnt 113) 119 (4 * cnt + 1) (uQ_dv t n (uP_lt t n s))) (uP_dg t n (uP_sg t n 46 (uP_dg t n (uP_lt t n s)))) _ _) ?_
          refine q_goto (tgt := 470) C dX7_readOrder_394 (by decide) ?_
          exact hret _ _ _ dX7_readOrder_470 (by rw [(show uP_s5 t n s = (uP_dg t n (uP_sg t n 46 (uP_dg t n (uP_lt t n s)))) by simp [uP_s5, uP_ls, uP_s4, uP_s3, uP_s2, uQ_s4, uO_hasM, uO_hasG, hk]), (show uQ_ordS t n S cnt s = (q_p (q_p (uQ_r S cnt 113) 119 (4 * cnt + 1) (uQ_dv t n (uP_lt t n s))) 119 (4 * cnt + 2) (uQ_dv t n (uP_sg t n 46 (uP_dg t n (uP_lt t n s))))) by simp [uQ_ordS, uQ_a1, uQ_a2, uQ_s4, hk, (by decide : uP_isL 113 = true)])])
        · refine q_iload_n C dX7_readOrder_51 rfl rfl ?_
          refine q_bipush (v := 100) C dX7_readOrder_52 (by decide) ?_
          refine q_icmp_eq (tgt := 99) C dX7_readOrder_54 (by decide)  (fun c_54 => ?_) (fun c_54 => ?_)
          · refine q_V_to (lv' := [(1, .int 100), (0, .ref 112)]) ?_ ⟨q_iv c_54, rfl, trivial⟩ rfl
            have hk : uP_nx t n s.2 = 100 := hnx.trans c_54
            refine q_iconst (v := 1) C dX7_readOrder_99 (by decide) ?_
            refine q_goto (tgt := 104) C dX7_readOrder_100 (by decide) ?_
            refine q_istore_n (lv' := [(2, .int 1), (1, .int 100), (0, .ref 112)]) C dX7_readOrder_104 rfl (by decide) rfl ?_
            refine q_iload_n C dX7_readOrder_105 rfl rfl ?_
            refine q_if_ne (tgt := 115) C dX7_readOrder_106 (by decide) (fun _ => ?_) (fun h9 => absurd h9 (by decide))
            refine q_aload_n C dX7_readOrder_115 rfl rfl ?_
            refine q_dup C rfl dX7_readOrder_116 ?_
            refine q_getI (x := nI s.2) C flX7_193 q_s112 rfl dX7_readOrder_117 (uQ_at_14 S s) ?_
            refine q_iconst (v := 1) C dX7_readOrder_120 (by decide) ?_
            refine q_iaddN (a := s.2) (b := 1) C dX7_readOrder_121 rfl rfl ?_
            refine q_put (ty9 := .int) C flX7_193 q_s112 rfl (fun _ _ _ h => by cases h; exact ⟨rfl, by decide +kernel⟩) rfl rfl dX7_readOrder_122 ?_
            refine q_iconst (v := 4) C dX7_readOrder_125 (by decide) ?_
            refine q_aload_n C dX7_readOrder_126 rfl rfl ?_
            refine q_getI (x := nI cnt) C flX7_207 q_s112 rfl dX7_readOrder_127 ((uQ_at_k S s 18 (by decide) (by decide)).trans hcnt) ?_
            refine q_imulN (a := 4) (b := cnt) C dX7_readOrder_130 rfl rfl ?_
            refine q_istore_n (lv' := [(3, .int (nI (4 * cnt))), (2, .int 1), (1, .int 100), (0, .ref 112)]) C dX7_readOrder_131 rfl (by decide) rfl ?_
            refine q_aload_n C dX7_readOrder_132 rfl rfl ?_
            refine q_getR C flX7_33 q_s112 rfl dX7_readOrder_133 ?_
            refine q_iload_n C dX7_readOrder_136 rfl rfl ?_
            refine q_iload_n C dX7_readOrder_137 rfl rfl ?_
            refine q_iastN (i := 4 * cnt) C rfl q_s119 (by omega) (by decide) dX7_readOrder_138 ?_
            refine q_aload_n C dX7_readOrder_139 rfl rfl ?_
            refine q_dup C rfl dX7_readOrder_140 ?_
            refine q_getI (x := nI cnt) C flX7_207 q_s112 rfl dX7_readOrder_141 ((uQ_at_k S s 18 (by decide) (by decide)).trans hcnt) ?_
            refine q_iconst (v := 1) C dX7_readOrder_144 (by decide) ?_
            refine q_iaddN (a := cnt) (b := 1) C dX7_readOrder_145 rfl rfl ?_
            refine q_put (ty9 := .int) C flX7_207 q_s112 rfl (fun _ _ _ h => by cases h; exact ⟨rfl, by decide +kernel⟩) rfl rfl dX7_readOrder_146 ?_
            refine q_st (show _ = uQ_at (uQ_r S cnt 100) (uP_lt t n s) from ?_) ?_
            · rw [uQ_lt_t hs1 (by rw [hk]; decide), uQ_at_w2, hs1, uQ_at_119, uQ_at_18]; rfl
            refine q_iload_n C dX7_readOrder_149 rfl rfl ?_
            refine q_tabin (off := 290) (tgt := 440) C dX7_readOrder_150 (by decide) (by decide) (by decide) (by decide) ?_
            refine q_aload_n C dX7_readOrder_440 rfl rfl ?_
            refine q_getR C flX7_33 q_s112 rfl dX7_readOrder_441 ?_
            refine q_iload_n C dX7_readOrder_444 rfl rfl ?_
            refine q_iconst (v := 1) C dX7_readOrder_445 (by decide) ?_
            refine q_iaddN (a := 4 * cnt) (b := 1) C dX7_readOrder_446 rfl rfl ?_
            refine q_aload_n C dX7_readOrder_447 rfl rfl ?_
            refine q_ci0 C (c_X7_digit l (uQ_r S cnt 100) t n ht hn hn60 hch (uP_lt t n s) (uP_lt_le _ _ hs)) myX7_digit mlX7_204 q_s112 ⟨by decide, by decide⟩ (Nat.le_of_ble_eq_true rfl) dX7_readOrder_448 ?_
            refine q_iastN (i := 4 * cnt + 1) C rfl q_s119 (by omega) (by decide) dX7_readOrder_451 ?_
            refine q_st (uQ_at_119 (uQ_r S cnt 100) (uP_dg t n (uP_lt t n s)) _ _) ?_
            refine q_goto (tgt := 470) C dX7_readOrder_452 (by decide) ?_
            exact hret _ _ _ dX7_readOrder_470 (by rw [(show uP_s5 t n s = (uP_dg t n (uP_lt t n s)) by simp [uP_s5, uP_ls, uP_s4, uP_s3, uP_s2, uQ_s4, uO_hasM, uO_hasG, hk]), (show uQ_ordS t n S cnt s = (q_p (uQ_r S cnt 100) 119 (4 * cnt + 1) (uQ_dv t n (uP_lt t n s))) by simp [uQ_ordS, uQ_a1, uQ_a2, uQ_s4, hk, (by decide : uP_isL 100 = true)])])
          · refine q_iload_n C dX7_readOrder_57 rfl rfl ?_
            refine q_bipush (v := 116) C dX7_readOrder_58 (by decide) ?_
            refine q_icmp_eq (tgt := 99) C dX7_readOrder_60 (by decide)  (fun c_60 => ?_) (fun c_60 => ?_)
            · refine q_V_to (lv' := [(1, .int 116), (0, .ref 112)]) ?_ ⟨q_iv c_60, rfl, trivial⟩ rfl
              have hk : uP_nx t n s.2 = 116 := hnx.trans c_60
              refine q_iconst (v := 1) C dX7_readOrder_99 (by decide) ?_
              refine q_goto (tgt := 104) C dX7_readOrder_100 (by decide) ?_
              refine q_istore_n (lv' := [(2, .int 1), (1, .int 116), (0, .ref 112)]) C dX7_readOrder_104 rfl (by decide) rfl ?_
              refine q_iload_n C dX7_readOrder_105 rfl rfl ?_
              refine q_if_ne (tgt := 115) C dX7_readOrder_106 (by decide) (fun _ => ?_) (fun h9 => absurd h9 (by decide))
              refine q_aload_n C dX7_readOrder_115 rfl rfl ?_
              refine q_dup C rfl dX7_readOrder_116 ?_
              refine q_getI (x := nI s.2) C flX7_193 q_s112 rfl dX7_readOrder_117 (uQ_at_14 S s) ?_
              refine q_iconst (v := 1) C dX7_readOrder_120 (by decide) ?_
              refine q_iaddN (a := s.2) (b := 1) C dX7_readOrder_121 rfl rfl ?_
              refine q_put (ty9 := .int) C flX7_193 q_s112 rfl (fun _ _ _ h => by cases h; exact ⟨rfl, by decide +kernel⟩) rfl rfl dX7_readOrder_122 ?_
              refine q_iconst (v := 4) C dX7_readOrder_125 (by decide) ?_
              refine q_aload_n C dX7_readOrder_126 rfl rfl ?_
              refine q_getI (x := nI cnt) C flX7_207 q_s112 rfl dX7_readOrder_127 ((uQ_at_k S s 18 (by decide) (by decide)).trans hcnt) ?_
              refine q_imulN (a := 4) (b := cnt) C dX7_readOrder_130 rfl rfl ?_
              refine q_istore_n (lv' := [(3, .int (nI (4 * cnt))), (2, .int 1), (1, .int 116), (0, .ref 112)]) C dX7_readOrder_131 rfl (by decide) rfl ?_
              refine q_aload_n C dX7_readOrder_132 rfl rfl ?_
              refine q_getR C flX7_33 q_s112 rfl dX7_readOrder_133 ?_
              refine q_iload_n C dX7_readOrder_136 rfl rfl ?_
              refine q_iload_n C dX7_readOrder_137 rfl rfl ?_
              refine q_iastN (i := 4 * cnt) C rfl q_s119 (by omega) (by decide) dX7_readOrder_138 ?_
              refine q_aload_n C dX7_readOrder_139 rfl rfl ?_
              refine q_dup C rfl dX7_readOrder_140 ?_
              refine q_getI (x := nI cnt) C flX7_207 q_s112 rfl dX7_readOrder_141 ((uQ_at_k S s 18 (by decide) (by decide)).trans hcnt) ?_
              refine q_iconst (v := 1) C dX7_readOrder_144 (by decide) ?_
              refine q_iaddN (a := cnt) (b := 1) C dX7_readOrder_145 rfl rfl ?_
              refine q_put (ty9 := .int) C flX7_207 q_s112 rfl (fun _ _ _ h => by cases h; exact ⟨rfl, by decide +kernel⟩) rfl rfl dX7_readOrder_146 ?_
              refine q_st (show _ = uQ_at (uQ_r S cnt 116) (uP_lt t n s) from ?_) ?_
              · rw [uQ_lt_t hs1 (by rw [hk]; decide), uQ_at_w2, hs1, uQ_at_119, uQ_at_18]; rfl
              refine q_iload_n C dX7_readOrder_149 rfl rfl ?_
              refine q_tabin (off := 218) (tgt := 368) C dX7_readOrder_150 (by decide) (by decide) (by decide) (by decide) ?_
              refine q_aload_n C dX7_readOrder_368 rfl rfl ?_
              refine q_getR C flX7_33 q_s112 rfl dX7_readOrder_369 ?_
              refine q_iload_n C dX7_readOrder_372 rfl rfl ?_
              refine q_iconst (v := 1) C dX7_readOrder_373 (by decide) ?_
              refine q_iaddN (a := 4 * cnt) (b := 1) C dX7_readOrder_374 rfl rfl ?_
              refine q_aload_n C dX7_readOrder_375 rfl rfl ?_
              refine q_ci0 C (c_X7_digit l (uQ_r S cnt 116) t n ht hn hn60 hch (uP_lt t n s) (uP_lt_le _ _ hs)) myX7_digit mlX7_204 q_s112 ⟨by decide, by decide⟩ (Nat.le_of_ble_eq_true rfl) dX7_readOrder_376 ?_
              refine q_iastN (i := 4 * cnt + 1) C rfl q_s119 (by omega) (by decide) dX7_readOrder_379 ?_
              refine q_st (uQ_at_119 (uQ_r S cnt 116) (uP_dg t n (uP_lt t n s)) _ _) ?_
              refine q_aload_n C dX7_readOrder_380 rfl rfl ?_
              refine q_getR C flX7_33 q_s112 rfl dX7_readOrder_381 ?_
              refine q_iload_n C dX7_readOrder_384 rfl rfl ?_
              refine q_iconst (v := 2) C dX7_readOrder_385 (by decide) ?_
              refine q_iaddN (a := 4 * cnt) (b := 2) C dX7_readOrder_386 rfl rfl ?_
              refine q_aload_n C dX7_readOrder_387 rfl rfl ?_
              refine q_bipush (v := 46) C dX7_readOrder_388 (by decide) ?_
              refine q_ci1 C (c_X7_behind l (q_p (uQ_r S cnt 116) 119 (4 * cnt + 1) (uQ_dv t n (uP_lt t n s))) t n ht hn hn60 hch (uP_dg t n (uP_lt t n s)) (uP_dg_le _ _ (uP_lt_le _ _ hs)) 46 (by decide)) myX7_behind mlX7_210 q_s112 ⟨by decide, by decide⟩ (Nat.le_of_ble_eq_true rfl) dX7_readOrder_390 ?_
              refine q_iastN (i := 4 * cnt + 2) C rfl q_s119 (by omega) (by decide) dX7_readOrder_393 ?_
              refine q_st (uQ_at_119 (q_p (uQ_r S cnt 116) 119 (4 * cnt + 1) (uQ_dv t n (uP_lt t n s))) (uP_dg t n (uP_sg t n 46 (uP_dg t n (uP_lt t n s)))) _ _) ?_
              refine q_goto (tgt := 470) C dX7_readOrder_394 (by decide) ?_
              exact hret _ _ _ dX7_readOrder_470 (by rw [(show uP_s5 t n s = (uP_dg t n (uP_sg t n 46 (uP_dg t n (uP_lt t n s)))) by simp [uP_s5, uP_ls, uP_s4, uP_s3, uP_s2, uQ_s4, uO_hasM, uO_hasG, hk]), (show uQ_ordS t n S cnt s = (q_p (q_p (uQ_r S cnt 116) 119 (4 * cnt + 1) (uQ_dv t n (uP_lt t n s))) 119 (4 * cnt + 2) (uQ_dv t n (uP_sg t n 46 (uP_dg t n (uP_lt t n s))))) by simp [uQ_ordS, uQ_a1, uQ_a2, uQ_s4, hk, (by decide : uP_isL 116 = true)])])
            · refine q_iload_n C dX7_readOrder_63 rfl rfl ?_
              refine q_bipush (v := 102) C dX7_readOrder_64 (by decide) ?_
              refine q_icmp_eq (tgt := 99) C dX7_readOrder_66 (by decide)  (fun c_66 => ?_) (fun c_66 => ?_)
              · refine q_V_to (lv' := [(1, .int 102), (0, .ref 112)]) ?_ ⟨q_iv c_66, rfl, trivial⟩ rfl
                have hk : uP_nx t n s.2 = 102 := hnx.trans c_66
                refine q_iconst (v := 1) C dX7_readOrder_99 (by decide) ?_
                refine q_goto (tgt := 104) C dX7_readOrder_100 (by decide) ?_
                refine q_istore_n (lv' := [(2, .int 1), (1, .int 102), (0, .ref 112)]) C dX7_readOrder_104 rfl (by decide) rfl ?_
                refine q_iload_n C dX7_readOrder_105 rfl rfl ?_
                refine q_if_ne (tgt := 115) C dX7_readOrder_106 (by decide) (fun _ => ?_) (fun h9 => absurd h9 (by decide))
                refine q_aload_n C dX7_readOrder_115 rfl rfl ?_
                refine q_dup C rfl dX7_readOrder_116 ?_
                refine q_getI (x := nI s.2) C flX7_193 q_s112 rfl dX7_readOrder_117 (uQ_at_14 S s) ?_
                refine q_iconst (v := 1) C dX7_readOrder_120 (by decide) ?_
                refine q_iaddN (a := s.2) (b := 1) C dX7_readOrder_121 rfl rfl ?_
                refine q_put (ty9 := .int) C flX7_193 q_s112 rfl (fun _ _ _ h => by cases h; exact ⟨rfl, by decide +kernel⟩) rfl rfl dX7_readOrder_122 ?_
                refine q_iconst (v := 4) C dX7_readOrder_125 (by decide) ?_
                refine q_aload_n C dX7_readOrder_126 rfl rfl ?_
                refine q_getI (x := nI cnt) C flX7_207 q_s112 rfl dX7_readOrder_127 ((uQ_at_k S s 18 (by decide) (by decide)).trans hcnt) ?_
                refine q_imulN (a := 4) (b := cnt) C dX7_readOrder_130 rfl rfl ?_
                refine q_istore_n (lv' := [(3, .int (nI (4 * cnt))), (2, .int 1), (1, .int 102), (0, .ref 112)]) C dX7_readOrder_131 rfl (by decide) rfl ?_
                refine q_aload_n C dX7_readOrder_132 rfl rfl ?_
                refine q_getR C flX7_33 q_s112 rfl dX7_readOrder_133 ?_
                refine q_iload_n C dX7_readOrder_136 rfl rfl ?_
                refine q_iload_n C dX7_readOrder_137 rfl rfl ?_
                refine q_iastN (i := 4 * cnt) C rfl q_s119 (by omega) (by decide) dX7_readOrder_138 ?_
                refine q_aload_n C dX7_readOrder_139 rfl rfl ?_
                refine q_dup C rfl dX7_readOrder_140 ?_
                refine q_getI (x := nI cnt) C flX7_207 q_s112 rfl dX7_readOrder_141 ((uQ_at_k S s 18 (by decide) (by decide)).trans hcnt) ?_
                refine q_iconst (v := 1) C dX7_readOrder_144 (by decide) ?_
                refine q_iaddN (a := cnt) (b := 1) C dX7_readOrder_145 rfl rfl ?_
                refine q_put (ty9 := .int) C flX7_207 q_s112 rfl (fun _ _ _ h => by cases h; exact ⟨rfl, by decide +kernel⟩) rfl rfl dX7_readOrder_146 ?_
                refine q_st (show _ = uQ_at (uQ_r S cnt 102) (uP_lt t n s) from ?_) ?_
                · rw [uQ_lt_t hs1 (by rw [hk]; decide), uQ_at_w2, hs1, uQ_at_119, uQ_at_18]; rfl
                refine q_iload_n C dX7_readOrder_149 rfl rfl ?_
                refine q_tabin (off := 320) (tgt := 470) C dX7_readOrder_150 (by decide) (by decide) (by decide) (by decide) ?_
                exact hret _ _ _ dX7_readOrder_470 (by rw [(show uP_s5 t n s = (uP_lt t n s) by simp [uP_s5, uP_ls, uP_s4, uP_s3, uP_s2, uQ_s4, uO_hasM, uO_hasG, hk]), (show uQ_ordS t n S cnt s = (uQ_r S cnt 102) by simp [uQ_ordS, uQ_a1, uQ_a2, uQ_s4, hk, (by decide : uP_isL 102 = true)])])
              · refine q_iload_n C dX7_readOrder_69 rfl rfl ?_
                refine q_bipush (v := 119) C dX7_readOrder_70 (by decide) ?_
                refine q_icmp_eq (tgt := 99) C dX7_readOrder_72 (by decide)  (fun c_72 => ?_) (fun c_72 => ?_)
                · refine q_V_to (lv' := [(1, .int 119), (0, .ref 112)]) ?_ ⟨q_iv c_72, rfl, trivial⟩ rfl
                  have hk : uP_nx t n s.2 = 119 := hnx.trans c_72
                  refine q_iconst (v := 1) C dX7_readOrder_99 (by decide) ?_
                  refine q_goto (tgt := 104) C dX7_readOrder_100 (by decide) ?_
                  refine q_istore_n (lv' := [(2, .int 1), (1, .int 119), (0, .ref 112)]) C dX7_readOrder_104 rfl (by decide) rfl ?_
                  refine q_iload_n C dX7_readOrder_105 rfl rfl ?_
                  refine q_if_ne (tgt := 115) C dX7_readOrder_106 (by decide) (fun _ => ?_) (fun h9 => absurd h9 (by decide))
                  refine q_aload_n C dX7_readOrder_115 rfl rfl ?_
                  refine q_dup C rfl dX7_readOrder_116 ?_
                  refine q_getI (x := nI s.2) C flX7_193 q_s112 rfl dX7_readOrder_117 (uQ_at_14 S s) ?_
                  refine q_iconst (v := 1) C dX7_readOrder_120 (by decide) ?_
                  refine q_iaddN (a := s.2) (b := 1) C dX7_readOrder_121 rfl rfl ?_
                  refine q_put (ty9 := .int) C flX7_193 q_s112 rfl (fun _ _ _ h => by cases h; exact ⟨rfl, by decide +kernel⟩) rfl rfl dX7_readOrder_122 ?_
                  refine q_iconst (v := 4) C dX7_readOrder_125 (by decide) ?_
                  refine q_aload_n C dX7_readOrder_126 rfl rfl ?_
                  refine q_getI (x := nI cnt) C flX7_207 q_s112 rfl dX7_readOrder_127 ((uQ_at_k S s 18 (by decide) (by decide)).trans hcnt) ?_
                  refine q_imulN (a := 4) (b := cnt) C dX7_readOrder_130 rfl rfl ?_
                  refine q_istore_n (lv' := [(3, .int (nI (4 * cnt))), (2, .int 1), (1, .int 119), (0, .ref 112)]) C dX7_readOrder_131 rfl (by decide) rfl ?_
                  refine q_aload_n C dX7_readOrder_132 rfl rfl ?_
                  refine q_getR C flX7_33 q_s112 rfl dX7_readOrder_133 ?_
                  refine q_iload_n C dX7_readOrder_136 rfl rfl ?_
                  refine q_iload_n C dX7_readOrder_137 rfl rfl ?_
                  refine q_iastN (i := 4 * cnt) C rfl q_s119 (by omega) (by decide) dX7_readOrder_138 ?_
                  refine q_aload_n C dX7_readOrder_139 rfl rfl ?_
                  refine q_dup C rfl dX7_readOrder_140 ?_
                  refine q_getI (x := nI cnt) C flX7_207 q_s112 rfl dX7_readOrder_141 ((uQ_at_k S s 18 (by decide) (by decide)).trans hcnt) ?_
                  refine q_iconst (v := 1) C dX7_readOrder_144 (by decide) ?_
                  refine q_iaddN (a := cnt) (b := 1) C dX7_readOrder_145 rfl rfl ?_
                  refine q_put (ty9 := .int) C flX7_207 q_s112 rfl (fun _ _ _ h => by cases h; exact ⟨rfl, by decide +kernel⟩) rfl rfl dX7_readOrder_146 ?_
                  refine q_st (show _ = uQ_at (uQ_r S cnt 119) (uP_lt t n s) from ?_) ?_
                  · rw [uQ_lt_t hs1 (by rw [hk]; decide), uQ_at_w2, hs1, uQ_at_119, uQ_at_18]; rfl
                  refine q_iload_n C dX7_readOrder_149 rfl rfl ?_
                  refine q_tabout (tgt := 470) C dX7_readOrder_150 (by decide) (by decide) ?_
                  exact hret _ _ _ dX7_readOrder_470 (by rw [(show uP_s5 t n s = (uP_lt t n s) by simp [uP_s5, uP_ls, uP_s4, uP_s3, uP_s2, uQ_s4, uO_hasM, uO_hasG, hk]), (show uQ_ordS t n S cnt s = (uQ_r S cnt 119) by simp [uQ_ordS, uQ_a1, uQ_a2, uQ_s4, hk, (by decide : uP_isL 119 = true)])])
                · refine q_iload_n C dX7_readOrder_75 rfl rfl ?_
                  refine q_bipush (v := 115) C dX7_readOrder_76 (by decide) ?_
                  refine q_icmp_eq (tgt := 99) C dX7_readOrder_78 (by decide)  (fun c_78 => ?_) (fun c_78 => ?_)
                  · refine q_V_to (lv' := [(1, .int 115), (0, .ref 112)]) ?_ ⟨q_iv c_78, rfl, trivial⟩ rfl
                    have hk : uP_nx t n s.2 = 115 := hnx.trans c_78
                    refine q_iconst (v := 1) C dX7_readOrder_99 (by decide) ?_
                    refine q_goto (tgt := 104) C dX7_readOrder_100 (by decide) ?_
                    refine q_istore_n (lv' := [(2, .int 1), (1, .int 115), (0, .ref 112)]) C dX7_readOrder_104 rfl (by decide) rfl ?_
                    refine q_iload_n C dX7_readOrder_105 rfl rfl ?_
                    refine q_if_ne (tgt := 115) C dX7_readOrder_106 (by decide) (fun _ => ?_) (fun h9 => absurd h9 (by decide))
                    refine q_aload_n C dX7_readOrder_115 rfl rfl ?_
                    refine q_dup C rfl dX7_readOrder_116 ?_
                    refine q_getI (x := nI s.2) C flX7_193 q_s112 rfl dX7_readOrder_117 (uQ_at_14 S s) ?_
                    refine q_iconst (v := 1) C dX7_readOrder_120 (by decide) ?_
                    refine q_iaddN (a := s.2) (b := 1) C dX7_readOrder_121 rfl rfl ?_
                    refine q_put (ty9 := .int) C flX7_193 q_s112 rfl (fun _ _ _ h => by cases h; exact ⟨rfl, by decide +kernel⟩) rfl rfl dX7_readOrder_122 ?_
                    refine q_iconst (v := 4) C dX7_readOrder_125 (by decide) ?_
                    refine q_aload_n C dX7_readOrder_126 rfl rfl ?_
                    refine q_getI (x := nI cnt) C flX7_207 q_s112 rfl dX7_readOrder_127 ((uQ_at_k S s 18 (by decide) (by decide)).trans hcnt) ?_
                    refine q_imulN (a := 4) (b := cnt) C dX7_readOrder_130 rfl rfl ?_
                    refine q_istore_n (lv' := [(3, .int (nI (4 * cnt))), (2, .int 1), (1, .int 115), (0, .ref 112)]) C dX7_readOrder_131 rfl (by decide) rfl ?_
                    refine q_aload_n C dX7_readOrder_132 rfl rfl ?_
                    refine q_getR C flX7_33 q_s112 rfl dX7_readOrder_133 ?_
                    refine q_iload_n C dX7_readOrder_136 rfl rfl ?_
                    refine q_iload_n C dX7_readOrder_137 rfl rfl ?_
                    refine q_iastN (i := 4 * cnt) C rfl q_s119 (by omega) (by decide) dX7_readOrder_138 ?_
                    refine q_aload_n C dX7_readOrder_139 rfl rfl ?_
                    refine q_dup C rfl dX7_readOrder_140 ?_
                    refine q_getI (x := nI cnt) C flX7_207 q_s112 rfl dX7_readOrder_141 ((uQ_at_k S s 18 (by decide) (by decide)).trans hcnt) ?_
                    refine q_iconst (v := 1) C dX7_readOrder_144 (by decide) ?_
                    refine q_iaddN (a := cnt) (b := 1) C dX7_readOrder_145 rfl rfl ?_
                    refine q_put (ty9 := .int) C flX7_207 q_s112 rfl (fun _ _ _ h => by cases h; exact ⟨rfl, by decide +kernel⟩) rfl rfl dX7_readOrder_146 ?_
                    refine q_st (show _ = uQ_at (uQ_r S cnt 115) (uP_lt t n s) from ?_) ?_
                    · rw [uQ_lt_t hs1 (by rw [hk]; decide), uQ_at_w2, hs1, uQ_at_119, uQ_at_18]; rfl
                    refine q_iload_n C dX7_readOrder_149 rfl rfl ?_
                    refine q_tabin (off := 290) (tgt := 440) C dX7_readOrder_150 (by decide) (by decide) (by decide) (by decide) ?_
                    refine q_aload_n C dX7_readOrder_440 rfl rfl ?_
                    refine q_getR C flX7_33 q_s112 rfl dX7_readOrder_441 ?_
                    refine q_iload_n C dX7_readOrder_444 rfl rfl ?_
                    refine q_iconst (v := 1) C dX7_readOrder_445 (by decide) ?_
                    refine q_iaddN (a := 4 * cnt) (b := 1) C dX7_readOrder_446 rfl rfl ?_
                    refine q_aload_n C dX7_readOrder_447 rfl rfl ?_
                    refine q_ci0 C (c_X7_digit l (uQ_r S cnt 115) t n ht hn hn60 hch (uP_lt t n s) (uP_lt_le _ _ hs)) myX7_digit mlX7_204 q_s112 ⟨by decide, by decide⟩ (Nat.le_of_ble_eq_true rfl) dX7_readOrder_448 ?_
                    refine q_iastN (i := 4 * cnt + 1) C rfl q_s119 (by omega) (by decide) dX7_readOrder_451 ?_
                    refine q_st (uQ_at_119 (uQ_r S cnt 115) (uP_dg t n (uP_lt t n s)) _ _) ?_
                    refine q_goto (tgt := 470) C dX7_readOrder_452 (by decide) ?_
                    exact hret _ _ _ dX7_readOrder_470 (by rw [(show uP_s5 t n s = (uP_dg t n (uP_lt t n s)) by simp [uP_s5, uP_ls, uP_s4, uP_s3, uP_s2, uQ_s4, uO_hasM, uO_hasG, hk]), (show uQ_ordS t n S cnt s = (q_p (uQ_r S cnt 115) 119 (4 * cnt + 1) (uQ_dv t n (uP_lt t n s))) by simp [uQ_ordS, uQ_a1, uQ_a2, uQ_s4, hk, (by decide : uP_isL 115 = true)])])
                  · refine q_iload_n C dX7_readOrder_81 rfl rfl ?_
                    refine q_bipush (v := 114) C dX7_readOrder_82 (by decide) ?_
                    refine q_icmp_eq (tgt := 99) C dX7_readOrder_84 (by decide)  (fun c_84 => ?_) (fun c_84 => ?_)
                    · refine q_V_to (lv' := [(1, .int 114), (0, .ref 112)]) ?_ ⟨q_iv c_84, rfl, trivial⟩ rfl
                      have hk : uP_nx t n s.2 = 114 := hnx.trans c_84
                      refine q_iconst (v := 1) C dX7_readOrder_99 (by decide) ?_
                      refine q_goto (tgt := 104) C dX7_readOrder_100 (by decide) ?_
                      refine q_istore_n (lv' := [(2, .int 1), (1, .int 114), (0, .ref 112)]) C dX7_readOrder_104 rfl (by decide) rfl ?_
                      refine q_iload_n C dX7_readOrder_105 rfl rfl ?_
                      refine q_if_ne (tgt := 115) C dX7_readOrder_106 (by decide) (fun _ => ?_) (fun h9 => absurd h9 (by decide))
                      refine q_aload_n C dX7_readOrder_115 rfl rfl ?_
                      refine q_dup C rfl dX7_readOrder_116 ?_
                      refine q_getI (x := nI s.2) C flX7_193 q_s112 rfl dX7_readOrder_117 (uQ_at_14 S s) ?_
                      refine q_iconst (v := 1) C dX7_readOrder_120 (by decide) ?_
                      refine q_iaddN (a := s.2) (b := 1) C dX7_readOrder_121 rfl rfl ?_
                      refine q_put (ty9 := .int) C flX7_193 q_s112 rfl (fun _ _ _ h => by cases h; exact ⟨rfl, by decide +kernel⟩) rfl rfl dX7_readOrder_122 ?_
                      refine q_iconst (v := 4) C dX7_readOrder_125 (by decide) ?_
                      refine q_aload_n C dX7_readOrder_126 rfl rfl ?_
                      refine q_getI (x := nI cnt) C flX7_207 q_s112 rfl dX7_readOrder_127 ((uQ_at_k S s 18 (by decide) (by decide)).trans hcnt) ?_
                      refine q_imulN (a := 4) (b := cnt) C dX7_readOrder_130 rfl rfl ?_
                      refine q_istore_n (lv' := [(3, .int (nI (4 * cnt))), (2, .int 1), (1, .int 114), (0, .ref 112)]) C dX7_readOrder_131 rfl (by decide) rfl ?_
                      refine q_aload_n C dX7_readOrder_132 rfl rfl ?_
                      refine q_getR C flX7_33 q_s112 rfl dX7_readOrder_133 ?_
                      refine q_iload_n C dX7_readOrder_136 rfl rfl ?_
                      refine q_iload_n C dX7_readOrder_137 rfl rfl ?_
                      refine q_iastN (i := 4 * cnt) C rfl q_s119 (by omega) (by decide) dX7_readOrder_138 ?_
                      refine q_aload_n C dX7_readOrder_139 rfl rfl ?_
                      refine q_dup C rfl dX7_readOrder_140 ?_
                      refine q_getI (x := nI cnt) C flX7_207 q_s112 rfl dX7_readOrder_141 ((uQ_at_k S s 18 (by decide) (by decide)).trans hcnt) ?_
                      refine q_iconst (v := 1) C dX7_readOrder_144 (by decide) ?_
                      refine q_iaddN (a := cnt) (b := 1) C dX7_readOrder_145 rfl rfl ?_
                      refine q_put (ty9 := .int) C flX7_207 q_s112 rfl (fun _ _ _ h => by cases h; exact ⟨rfl, by decide +kernel⟩) rfl rfl dX7_readOrder_146 ?_
                      refine q_st (show _ = uQ_at (uQ_r S cnt 114) (uP_lt t n s) from ?_) ?_
                      · rw [uQ_lt_t hs1 (by rw [hk]; decide), uQ_at_w2, hs1, uQ_at_119, uQ_at_18]; rfl
                      refine q_iload_n C dX7_readOrder_149 rfl rfl ?_
                      refine q_tabin (off := 290) (tgt := 440) C dX7_readOrder_150 (by decide) (by decide) (by decide) (by decide) ?_
                      refine q_aload_n C dX7_readOrder_440 rfl rfl ?_
                      refine q_getR C flX7_33 q_s112 rfl dX7_readOrder_441 ?_
                      refine q_iload_n C dX7_readOrder_444 rfl rfl ?_
                      refine q_iconst (v := 1) C dX7_readOrder_445 (by decide) ?_
                      refine q_iaddN (a := 4 * cnt) (b := 1) C dX7_readOrder_446 rfl rfl ?_
                      refine q_aload_n C dX7_readOrder_447 rfl rfl ?_
                      refine q_ci0 C (c_X7_digit l (uQ_r S cnt 114) t n ht hn hn60 hch (uP_lt t n s) (uP_lt_le _ _ hs)) myX7_digit mlX7_204 q_s112 ⟨by decide, by decide⟩ (Nat.le_of_ble_eq_true rfl) dX7_readOrder_448 ?_
                      refine q_iastN (i := 4 * cnt + 1) C rfl q_s119 (by omega) (by decide) dX7_readOrder_451 ?_
                      refine q_st (uQ_at_119 (uQ_r S cnt 114) (uP_dg t n (uP_lt t n s)) _ _) ?_
                      refine q_goto (tgt := 470) C dX7_readOrder_452 (by decide) ?_
                      exact hret _ _ _ dX7_readOrder_470 (by rw [(show uP_s5 t n s = (uP_dg t n (uP_lt t n s)) by simp [uP_s5, uP_ls, uP_s4, uP_s3, uP_s2, uQ_s4, uO_hasM, uO_hasG, hk]), (show uQ_ordS t n S cnt s = (q_p (uQ_r S cnt 114) 119 (4 * cnt + 1) (uQ_dv t n (uP_lt t n s))) by simp [uQ_ordS, uQ_a1, uQ_a2, uQ_s4, hk, (by decide : uP_isL 114 = true)])])
                    · refine q_iload_n C dX7_readOrder_87 rfl rfl ?_
                      refine q_bipush (v := 105) C dX7_readOrder_88 (by decide) ?_
                      refine q_icmp_eq (tgt := 99) C dX7_readOrder_90 (by decide)  (fun c_90 => ?_) (fun c_90 => ?_)
                      · refine q_V_to (lv' := [(1, .int 105), (0, .ref 112)]) ?_ ⟨q_iv c_90, rfl, trivial⟩ rfl
                        have hk : uP_nx t n s.2 = 105 := hnx.trans c_90
                        refine q_iconst (v := 1) C dX7_readOrder_99 (by decide) ?_
                        refine q_goto (tgt := 104) C dX7_readOrder_100 (by decide) ?_
                        refine q_istore_n (lv' := [(2, .int 1), (1, .int 105), (0, .ref 112)]) C dX7_readOrder_104 rfl (by decide) rfl ?_
                        refine q_iload_n C dX7_readOrder_105 rfl rfl ?_
                        refine q_if_ne (tgt := 115) C dX7_readOrder_106 (by decide) (fun _ => ?_) (fun h9 => absurd h9 (by decide))
                        refine q_aload_n C dX7_readOrder_115 rfl rfl ?_
                        refine q_dup C rfl dX7_readOrder_116 ?_
                        refine q_getI (x := nI s.2) C flX7_193 q_s112 rfl dX7_readOrder_117 (uQ_at_14 S s) ?_
                        refine q_iconst (v := 1) C dX7_readOrder_120 (by decide) ?_
                        refine q_iaddN (a := s.2) (b := 1) C dX7_readOrder_121 rfl rfl ?_
                        refine q_put (ty9 := .int) C flX7_193 q_s112 rfl (fun _ _ _ h => by cases h; exact ⟨rfl, by decide +kernel⟩) rfl rfl dX7_readOrder_122 ?_
                        refine q_iconst (v := 4) C dX7_readOrder_125 (by decide) ?_
                        refine q_aload_n C dX7_readOrder_126 rfl rfl ?_
                        refine q_getI (x := nI cnt) C flX7_207 q_s112 rfl dX7_readOrder_127 ((uQ_at_k S s 18 (by decide) (by decide)).trans hcnt) ?_
                        refine q_imulN (a := 4) (b := cnt) C dX7_readOrder_130 rfl rfl ?_
                        refine q_istore_n (lv' := [(3, .int (nI (4 * cnt))), (2, .int 1), (1, .int 105), (0, .ref 112)]) C dX7_readOrder_131 rfl (by decide) rfl ?_
                        refine q_aload_n C dX7_readOrder_132 rfl rfl ?_
                        refine q_getR C flX7_33 q_s112 rfl dX7_readOrder_133 ?_
                        refine q_iload_n C dX7_readOrder_136 rfl rfl ?_
                        refine q_iload_n C dX7_readOrder_137 rfl rfl ?_
                        refine q_iastN (i := 4 * cnt) C rfl q_s119 (by omega) (by decide) dX7_readOrder_138 ?_
                        refine q_aload_n C dX7_readOrder_139 rfl rfl ?_
                        refine q_dup C rfl dX7_readOrder_140 ?_
                        refine q_getI (x := nI cnt) C flX7_207 q_s112 rfl dX7_readOrder_141 ((uQ_at_k S s 18 (by decide) (by decide)).trans hcnt) ?_
                        refine q_iconst (v := 1) C dX7_readOrder_144 (by decide) ?_
                        refine q_iaddN (a := cnt) (b := 1) C dX7_readOrder_145 rfl rfl ?_
                        refine q_put (ty9 := .int) C flX7_207 q_s112 rfl (fun _ _ _ h => by cases h; exact ⟨rfl, by decide +kernel⟩) rfl rfl dX7_readOrder_146 ?_
                        refine q_st (show _ = uQ_at (uQ_r S cnt 105) (uP_lt t n s) from ?_) ?_
                        · rw [uQ_lt_t hs1 (by rw [hk]; decide), uQ_at_w2, hs1, uQ_at_119, uQ_at_18]; rfl
                        refine q_iload_n C dX7_readOrder_149 rfl rfl ?_
                        refine q_tabin (off := 247) (tgt := 397) C dX7_readOrder_150 (by decide) (by decide) (by decide) (by decide) ?_
                        refine q_aload_n C dX7_readOrder_397 rfl rfl ?_
                        refine q_getR C flX7_33 q_s112 rfl dX7_readOrder_398 ?_
                        refine q_iload_n C dX7_readOrder_401 rfl rfl ?_
                        refine q_iconst (v := 1) C dX7_readOrder_402 (by decide) ?_
                        refine q_iaddN (a := 4 * cnt) (b := 1) C dX7_readOrder_403 rfl rfl ?_
                        refine q_aload_n C dX7_readOrder_404 rfl rfl ?_
                        refine q_ci0 C (c_X7_digit l (uQ_r S cnt 105) t n ht hn hn60 hch (uP_lt t n s) (uP_lt_le _ _ hs)) myX7_digit mlX7_204 q_s112 ⟨by decide, by decide⟩ (Nat.le_of_ble_eq_true rfl) dX7_readOrder_405 ?_
                        refine q_iastN (i := 4 * cnt + 1) C rfl q_s119 (by omega) (by decide) dX7_readOrder_408 ?_
                        refine q_aload_n C dX7_readOrder_409 rfl rfl ?_
                        refine q_st (uQ_at_119 (uQ_r S cnt 105) (uP_dg t n (uP_lt t n s)) _ _) ?_
                        refine q_getR C flX7_33 q_s112 rfl dX7_readOrder_410 ?_
                        refine q_iload_n C dX7_readOrder_413 rfl rfl ?_
                        refine q_iconst (v := 2) C dX7_readOrder_414 (by decide) ?_
                        refine q_iaddN (a := 4 * cnt) (b := 2) C dX7_readOrder_415 rfl rfl ?_
                        refine q_aload_n C dX7_readOrder_416 rfl rfl ?_
                        refine q_bipush (v := 46) C dX7_readOrder_417 (by decide) ?_
                        refine q_ci1 C (c_X7_behind l (q_p (uQ_r S cnt 105) 119 (4 * cnt + 1) (uQ_dv t n (uP_lt t n s))) t n ht hn hn60 hch (uP_dg t n (uP_lt t n s)) (uP_dg_le _ _ (uP_lt_le _ _ hs)) 46 (by decide)) myX7_behind mlX7_210 q_s112 ⟨by decide, by decide⟩ (Nat.le_of_ble_eq_true rfl) dX7_readOrder_419 ?_
                        refine q_iastN (i := 4 * cnt + 2) C rfl q_s119 (by omega) (by decide) dX7_readOrder_422 ?_
                        refine q_st (uQ_at_119 (q_p (uQ_r S cnt 105) 119 (4 * cnt + 1) (uQ_dv t n (uP_lt t n s))) (uP_dg t n (uP_sg t n 46 (uP_dg t n (uP_lt t n s)))) _ _) ?_
                        refine q_aload_n C dX7_readOrder_423 rfl rfl ?_
                        refine q_getR C flX7_33 q_s112 rfl dX7_readOrder_424 ?_
                        refine q_iload_n C dX7_readOrder_427 rfl rfl ?_
                        refine q_iconst (v := 3) C dX7_readOrder_428 (by decide) ?_
                        refine q_iaddN (a := 4 * cnt) (b := 3) C dX7_readOrder_429 rfl rfl ?_
                        refine q_aload_n C dX7_readOrder_430 rfl rfl ?_
                        refine q_bipush (v := 60) C dX7_readOrder_431 (by decide) ?_
                        refine q_ci1 C (c_X7_behind l (q_p (q_p (uQ_r S cnt 105) 119 (4 * cnt + 1) (uQ_dv t n (uP_lt t n s))) 119 (4 * cnt + 2) (uQ_dv t n (uP_sg t n 46 (uP_dg t n (uP_lt t n s))))) t n ht hn hn60 hch (uP_dg t n (uP_sg t n 46 (uP_dg t n (uP_lt t n s)))) (uP_dg_le _ _ (uP_sg_le _ _ (by first | assumption | decide) (uP_dg_le _ _ (uP_lt_le _ _ hs)))) 60 (by decide)) myX7_behind mlX7_210 q_s112 ⟨by decide, by decide⟩ (Nat.le_of_ble_eq_true rfl) dX7_readOrder_433 ?_
                        refine q_iastN (i := 4 * cnt + 3) C rfl q_s119 (by omega) (by decide) dX7_readOrder_436 ?_
                        refine q_st (uQ_at_119 (q_p (q_p (uQ_r S cnt 105) 119 (4 * cnt + 1) (uQ_dv t n (uP_lt t n s))) 119 (4 * cnt + 2) (uQ_dv t n (uP_sg t n 46 (uP_dg t n (uP_lt t n s))))) (uP_dg t n (uP_sg t n 60 (uP_dg t n (uP_sg t n 46 (uP_dg t n (uP_lt t n s)))))) _ _) ?_
                        refine q_goto (tgt := 470) C dX7_readOrder_437 (by decide) ?_
                        exact hret _ _ _ dX7_readOrder_470 (by rw [(show uP_s5 t n s = (uP_dg t n (uP_sg t n 60 (uP_dg t n (uP_sg t n 46 (uP_dg t n (uP_lt t n s)))))) by simp [uP_s5, uP_ls, uP_s4, uP_s3, uP_s2, uQ_s4, uO_hasM, uO_hasG, hk]), (show uQ_ordS t n S cnt s = (q_p (q_p (q_p (uQ_r S cnt 105) 119 (4 * cnt + 1) (uQ_dv t n (uP_lt t n s))) 119 (4 * cnt + 2) (uQ_dv t n (uP_sg t n 46 (uP_dg t n (uP_lt t n s))))) 119 (4 * cnt + 3) (uQ_dv t n (uP_sg t n 60 (uP_dg t n (uP_sg t n 46 (uP_dg t n (uP_lt t n s))))))) by simp [uQ_ordS, uQ_a1, uQ_a2, uQ_s4, hk, (by decide : uP_isL 105 = true)])])
                      · refine q_iload_n C dX7_readOrder_93 rfl rfl ?_
                        refine q_bipush (v := 104) C dX7_readOrder_94 (by decide) ?_
                        refine q_icmp_ne (tgt := 103) C dX7_readOrder_96 (by decide)  (fun c_96 => ?_) (fun c_96 => ?_)
                        · refine q_iconst (v := 0) C dX7_readOrder_103 (by decide) ?_
                          refine q_istore_n (lv' := [(2, .int 0), (1, .int (t s.2)), (0, .ref 112)]) C dX7_readOrder_104 rfl (by decide) rfl ?_
                          refine q_iload_n C dX7_readOrder_105 rfl rfl ?_
                          refine q_if_ne (tgt := 115) C dX7_readOrder_106 (by decide) (fun h9 => absurd h9 (by decide)) (fun _ => ?_)
                          refine q_aload_n C dX7_readOrder_109 rfl rfl ?_
                          refine q_iconst (v := 1) C dX7_readOrder_110 (by decide) ?_
                          refine q_put (ty9 := .boolean) C flX7_190 q_s112 rfl (fun _ _ _ h => by cases h; exact ⟨rfl, by decide +kernel⟩) rfl rfl dX7_readOrder_111 ?_
                          exact hret _ _ _ dX7_readOrder_114 (by have hL : uP_isL (uP_nx t n s.2) = false := (uP_isL_no (by rw [hnx]; simp only [c_36, c_42, c_48, c_54, c_60, c_66, c_72, c_78, c_84, c_90, c_96, or_self, not_false_eq_true])); rw [uQ_ordS, if_neg (by rw [hL]; decide), uP_s5_st (by rw [uQ_lt_f hL]), uQ_lt_f hL]; exact uQ_at_w1 S s true)
                        · refine q_V_to (lv' := [(1, .int 104), (0, .ref 112)]) ?_ ⟨q_iv c_96, rfl, trivial⟩ rfl
                          have hk : uP_nx t n s.2 = 104 := hnx.trans c_96
                          refine q_iconst (v := 1) C dX7_readOrder_99 (by decide) ?_
                          refine q_goto (tgt := 104) C dX7_readOrder_100 (by decide) ?_
                          refine q_istore_n (lv' := [(2, .int 1), (1, .int 104), (0, .ref 112)]) C dX7_readOrder_104 rfl (by decide) rfl ?_
                          refine q_iload_n C dX7_readOrder_105 rfl rfl ?_
                          refine q_if_ne (tgt := 115) C dX7_readOrder_106 (by decide) (fun _ => ?_) (fun h9 => absurd h9 (by decide))
                          refine q_aload_n C dX7_readOrder_115 rfl rfl ?_
                          refine q_dup C rfl dX7_readOrder_116 ?_
                          refine q_getI (x := nI s.2) C flX7_193 q_s112 rfl dX7_readOrder_117 (uQ_at_14 S s) ?_
                          refine q_iconst (v := 1) C dX7_readOrder_120 (by decide) ?_
                          refine q_iaddN (a := s.2) (b := 1) C dX7_readOrder_121 rfl rfl ?_
                          refine q_put (ty9 := .int) C flX7_193 q_s112 rfl (fun _ _ _ h => by cases h; exact ⟨rfl, by decide +kernel⟩) rfl rfl dX7_readOrder_122 ?_
                          refine q_iconst (v := 4) C dX7_readOrder_125 (by decide) ?_
                          refine q_aload_n C dX7_readOrder_126 rfl rfl ?_
                          refine q_getI (x := nI cnt) C flX7_207 q_s112 rfl dX7_readOrder_127 ((uQ_at_k S s 18 (by decide) (by decide)).trans hcnt) ?_
                          refine q_imulN (a := 4) (b := cnt) C dX7_readOrder_130 rfl rfl ?_
                          refine q_istore_n (lv' := [(3, .int (nI (4 * cnt))), (2, .int 1), (1, .int 104), (0, .ref 112)]) C dX7_readOrder_131 rfl (by decide) rfl ?_
                          refine q_aload_n C dX7_readOrder_132 rfl rfl ?_
                          refine q_getR C flX7_33 q_s112 rfl dX7_readOrder_133 ?_
                          refine q_iload_n C dX7_readOrder_136 rfl rfl ?_
                          refine q_iload_n C dX7_readOrder_137 rfl rfl ?_
                          refine q_iastN (i := 4 * cnt) C rfl q_s119 (by omega) (by decide) dX7_readOrder_138 ?_
                          refine q_aload_n C dX7_readOrder_139 rfl rfl ?_
                          refine q_dup C rfl dX7_readOrder_140 ?_
                          refine q_getI (x := nI cnt) C flX7_207 q_s112 rfl dX7_readOrder_141 ((uQ_at_k S s 18 (by decide) (by decide)).trans hcnt) ?_
                          refine q_iconst (v := 1) C dX7_readOrder_144 (by decide) ?_
                          refine q_iaddN (a := cnt) (b := 1) C dX7_readOrder_145 rfl rfl ?_
                          refine q_put (ty9 := .int) C flX7_207 q_s112 rfl (fun _ _ _ h => by cases h; exact ⟨rfl, by decide +kernel⟩) rfl rfl dX7_readOrder_146 ?_
                          refine q_st (show _ = uQ_at (uQ_r S cnt 104) (uP_lt t n s) from ?_) ?_
                          · rw [uQ_lt_t hs1 (by rw [hk]; decide), uQ_at_w2, hs1, uQ_at_119, uQ_at_18]; rfl
                          refine q_iload_n C dX7_readOrder_149 rfl rfl ?_
                          refine q_tabin (off := 305) (tgt := 455) C dX7_readOrder_150 (by decide) (by decide) (by decide) (by decide) ?_
                          refine q_aload_n C dX7_readOrder_455 rfl rfl ?_
                          refine q_getR C flX7_33 q_s112 rfl dX7_readOrder_456 ?_
                          refine q_iload_n C dX7_readOrder_459 rfl rfl ?_
                          refine q_iconst (v := 1) C dX7_readOrder_460 (by decide) ?_
                          refine q_iaddN (a := 4 * cnt) (b := 1) C dX7_readOrder_461 rfl rfl ?_
                          refine q_aload_n C dX7_readOrder_462 rfl rfl ?_
                          refine q_ci0 C (c_X7_number l (uQ_r S cnt 104) t n ht hn hn60 hch (uP_lt t n s) (uP_lt_le _ _ hs)) myX7_number mlX7_214 q_s112 ⟨by decide, by decide⟩ (Nat.le_of_ble_eq_true rfl) dX7_readOrder_463 ?_
                          refine q_iastN (i := 4 * cnt + 1) C rfl q_s119 (by omega) (by decide) dX7_readOrder_466 ?_
                          refine q_st (uQ_at_119 (uQ_r S cnt 104) (uP_nm t n (uP_lt t n s)) _ _) ?_
                          refine q_goto (tgt := 470) C dX7_readOrder_467 (by decide) ?_
                          exact hret _ _ _ dX7_readOrder_470 (by rw [(show uP_s5 t n s = (uP_nm t n (uP_lt t n s)) by simp [uP_s5, uP_ls, uP_s4, uP_s3, uP_s2, uQ_s4, uO_hasM, uO_hasG, hk]), (show uQ_ordS t n S cnt s = (q_p (uQ_r S cnt 104) 119 (4 * cnt + 1) (uQ_nv t n (uP_lt t n s))) by simp [uQ_ordS, uQ_a1, uQ_a2, uQ_s4, hk, (by decide : uP_isL 104 = true)])])
