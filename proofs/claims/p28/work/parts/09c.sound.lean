def soP (cs : zCs) (ad : Nat → Nat → Nat) (ha : Nat) (S : Nat → Int32) (F : Nat → Nat → Int32) : va_W → Prop := fun wo => ∃ HA : Nat → Int32, wo = (dmW cs ad S F ++ [(ha, .inl (cs.1, 16, .inl HA))]) ∧ ∀ k, 9 ≤ k → k < 16 → HA k ≤ S k
theorem so_u {S HB : Nat → Int32} {w : Nat} (h : ∀ k, 9 ≤ k → k < 16 → HB k ≤ S k) : ∀ k, 9 ≤ k → k < 16 → upd HB w (S w) k ≤ S k := fun k a b => by
  by_cases e : k = w
  · rw [e, upd_s]; exact p_le.mpr (Int.le_refl _)
  · rw [upd_o _ _ e]; exact h k a b

set_option maxHeartbeats 4000000 in
set_option maxRecDepth 100000 in
theorem c_L_isSound (l : Launch) (D : va_G) (cs : zCs) (ad : Nat → Nat → Nat) (ha : Nat) (S : Nat → Int32) (F : Nat → Nat → Int32) (HA : Nat → Int32) (N : Int) (hN : 0 ≤ N ∧ N ≤ 50000) (hi : inv N (S, F)) (hlt : S 2 < S 3) (hh : ∀ k, 9 ≤ k → k < 16 → HA k ≤ S k) : zMe l D cs yL_isSound cL_isSound 7 (some FieldType.boolean) 8 125 0 0 [.ref (ad 3 0), .ref ha] (((camW ad) ++ (macW cs (ad 0) S F)) ++ [(ha, .inl (cs.1, 16, .inl HA))]) (some (.int 1)) (soP cs ad ha S F) := by
  refine zMe.of (own := RL) (by decide) (Nat.le_of_ble_eq_true rfl) rfl ?_
  intro pq eq s mq below meth cq A ls hx hb hr hml hown hts hlk hnm hE hK hA hP hD hS hl
  have hl : lv_has ls 7 [(0, .ref (ad 3 0)), (1, .ref ha)] := hl
  refine lv_iconst (v := 0) hx hb dL_isSound_0 (by decide) ?_
  refine lv_istore_n (lv' := [(2, .int 0), (0, .ref (ad 3 0)), (1, .ref ha)]) hx hb dL_isSound_1 rfl hl (by decide) rfl (fun ls hl => ?_)
  refine lv_iconst (v := 0) hx hb dL_isSound_2 (by decide) ?_
  refine lv_istore_n (lv' := [(3, .int 0), (2, .int 0), (0, .ref (ad 3 0)), (1, .ref ha)]) hx hb dL_isSound_3 rfl hl (by decide) rfl (fun ls hl => ?_)
  refine lv_iconst (v := 0) hx hb dL_isSound_4 (by decide) ?_
  refine lv_istore (lv' := [(4, .int 0), (3, .int 0), (2, .int 0), (0, .ref (ad 3 0)), (1, .ref ha)]) hx hb dL_isSound_5 hl (by decide) rfl (fun ls hl => ?_)
  refine lv_aload_n hx hb dL_isSound_7 rfl (lv_at hl 3 rfl) ?_
  refine lv_bipush (v := 12) hx hb dL_isSound_8 (by decide) ?_
  refine z_lawV ⟨hx, hb, hml, hown, hts⟩ zY_X7_value w_im_yX7_value w_se_yX7_value w_ml_L_31 [.int 12] [] (c_X7_value_ok l D cs ad S F 12 (by decide)) hE hK hA hP hD hS (z_la (z_lc _) (z_lm _ _ _ _ _ _)) 7 rfl rfl rfl rfl hl.1 (Nat.le_of_ble_eq_true rfl) ⟨Nat.le_of_ble_eq_true rfl, Nat.le_of_ble_eq_true rfl⟩ ⟨Nat.le_of_ble_eq_true rfl, Nat.le_of_ble_eq_true rfl⟩ dL_isSound_10 (fun H locs hP hD hS => ?_)
  refine z_top (y := S 12) (zv_l S 12 (by omega)) ?_
  refine lv_aload_n hx hb dL_isSound_13 rfl (lv_at hl 3 rfl) ?_
  refine lv_iconst (v := 5) hx hb dL_isSound_14 (by decide) ?_
  refine z_lawV ⟨hx, hb, hml, hown, hts⟩ zY_X7_value w_im_yX7_value w_se_yX7_value w_ml_L_31 [.int 5] [.int (S 12)] (c_X7_value_ok l D cs ad S F 5 (by decide)) hE hK hA hP hD hS (z_la (z_lc _) (z_lm _ _ _ _ _ _)) 7 rfl rfl rfl rfl hl.1 (Nat.le_of_ble_eq_true rfl) ⟨Nat.le_of_ble_eq_true rfl, Nat.le_of_ble_eq_true rfl⟩ ⟨Nat.le_of_ble_eq_true rfl, Nat.le_of_ble_eq_true rfl⟩ dL_isSound_15 (fun H locs hP hD hS => ?_)
  refine z_top (y := S 5) (zv_l S 5 (by omega)) ?_
  refine lv_aload_n hx hb dL_isSound_18 rfl (lv_at hl 3 rfl) ?_
  refine lv_bipush (v := 13) hx hb dL_isSound_19 (by decide) ?_
  refine z_lawV ⟨hx, hb, hml, hown, hts⟩ zY_X7_value w_im_yX7_value w_se_yX7_value w_ml_L_31 [.int 13] [.int (S 5), .int (S 12)] (c_X7_value_ok l D cs ad S F 13 (by decide)) hE hK hA hP hD hS (z_la (z_lc _) (z_lm _ _ _ _ _ _)) 7 rfl rfl rfl rfl hl.1 (Nat.le_of_ble_eq_true rfl) ⟨Nat.le_of_ble_eq_true rfl, Nat.le_of_ble_eq_true rfl⟩ ⟨Nat.le_of_ble_eq_true rfl, Nat.le_of_ble_eq_true rfl⟩ dL_isSound_21 (fun H locs hP hD hS => ?_)
  refine z_top (y := S 13) (zv_l S 13 (by omega)) ?_
  refine lv_iadd hx hb dL_isSound_24 ?_
  refine lv_aload_n hx hb dL_isSound_25 rfl (lv_at hl 3 rfl) ?_
  refine lv_bipush (v := 14) hx hb dL_isSound_26 (by decide) ?_
  refine z_lawV ⟨hx, hb, hml, hown, hts⟩ zY_X7_value w_im_yX7_value w_se_yX7_value w_ml_L_31 [.int 14] [.int ((S 5) + (S 13)), .int (S 12)] (c_X7_value_ok l D cs ad S F 14 (by decide)) hE hK hA hP hD hS (z_la (z_lc _) (z_lm _ _ _ _ _ _)) 7 rfl rfl rfl rfl hl.1 (Nat.le_of_ble_eq_true rfl) ⟨Nat.le_of_ble_eq_true rfl, Nat.le_of_ble_eq_true rfl⟩ ⟨Nat.le_of_ble_eq_true rfl, Nat.le_of_ble_eq_true rfl⟩ dL_isSound_28 (fun H locs hP hD hS => ?_)
  refine z_top (y := S 14) (zv_l S 14 (by omega)) ?_
  refine lv_iadd hx hb dL_isSound_31 ?_
  refine lv_aload_n hx hb dL_isSound_32 rfl (lv_at hl 3 rfl) ?_
  refine lv_bipush (v := 15) hx hb dL_isSound_33 (by decide) ?_
  refine z_lawV ⟨hx, hb, hml, hown, hts⟩ zY_X7_value w_im_yX7_value w_se_yX7_value w_ml_L_31 [.int 15] [.int (((S 5) + (S 13)) + (S 14)), .int (S 12)] (c_X7_value_ok l D cs ad S F 15 (by decide)) hE hK hA hP hD hS (z_la (z_lc _) (z_lm _ _ _ _ _ _)) 7 rfl rfl rfl rfl hl.1 (Nat.le_of_ble_eq_true rfl) ⟨Nat.le_of_ble_eq_true rfl, Nat.le_of_ble_eq_true rfl⟩ ⟨Nat.le_of_ble_eq_true rfl, Nat.le_of_ble_eq_true rfl⟩ dL_isSound_35 (fun H locs hP hD hS => ?_)
  refine z_top (y := S 15) (zv_l S 15 (by omega)) ?_
  refine lv_iadd hx hb dL_isSound_38 ?_
  refine lv_icmp_ne (tgt := 73) hx hb dL_isSound_39 (by decide) (fun c_1 => ?_) (fun c_1 => ?_)
  · skip
    exact absurd (f_sum hi (by omega)) c_1
  · skip
    refine lv_aload_n hx hb dL_isSound_42 rfl (lv_at hl 3 rfl) ?_
    refine lv_iconst (v := 5) hx hb dL_isSound_43 (by decide) ?_
    refine z_lawV ⟨hx, hb, hml, hown, hts⟩ zY_X7_value w_im_yX7_value w_se_yX7_value w_ml_L_31 [.int 5] [] (c_X7_value_ok l D cs ad S F 5 (by decide)) hE hK hA hP hD hS (z_la (z_lc _) (z_lm _ _ _ _ _ _)) 7 rfl rfl rfl rfl hl.1 (Nat.le_of_ble_eq_true rfl) ⟨Nat.le_of_ble_eq_true rfl, Nat.le_of_ble_eq_true rfl⟩ ⟨Nat.le_of_ble_eq_true rfl, Nat.le_of_ble_eq_true rfl⟩ dL_isSound_44 (fun H locs hP hD hS => ?_)
    refine z_top (y := S 5) (zv_l S 5 (by omega)) ?_
    refine lv_aload_n hx hb dL_isSound_47 rfl (lv_at hl 3 rfl) ?_
    refine lv_bipush (v := 6) hx hb dL_isSound_48 (by decide) ?_
    refine z_lawV ⟨hx, hb, hml, hown, hts⟩ zY_X7_value w_im_yX7_value w_se_yX7_value w_ml_L_31 [.int 6] [.int (S 5)] (c_X7_value_ok l D cs ad S F 6 (by decide)) hE hK hA hP hD hS (z_la (z_lc _) (z_lm _ _ _ _ _ _)) 7 rfl rfl rfl rfl hl.1 (Nat.le_of_ble_eq_true rfl) ⟨Nat.le_of_ble_eq_true rfl, Nat.le_of_ble_eq_true rfl⟩ ⟨Nat.le_of_ble_eq_true rfl, Nat.le_of_ble_eq_true rfl⟩ dL_isSound_50 (fun H locs hP hD hS => ?_)
    refine z_top (y := S 6) (zv_l S 6 (by omega)) ?_
    refine lv_icmp_gt (tgt := 73) hx hb dL_isSound_53 (by decide) (fun c_2 => ?_) (fun c_2 => ?_)
    · skip
      exact absurd c_2 (Int32.not_lt.mpr (f_cap hi))
    · skip
      refine lv_aload_n hx hb dL_isSound_56 rfl (lv_at hl 3 rfl) ?_
      refine lv_iconst (v := 2) hx hb dL_isSound_57 (by decide) ?_
      refine z_lawV ⟨hx, hb, hml, hown, hts⟩ zY_X7_value w_im_yX7_value w_se_yX7_value w_ml_L_31 [.int 2] [] (c_X7_value_ok l D cs ad S F 2 (by decide)) hE hK hA hP hD hS (z_la (z_lc _) (z_lm _ _ _ _ _ _)) 7 rfl rfl rfl rfl hl.1 (Nat.le_of_ble_eq_true rfl) ⟨Nat.le_of_ble_eq_true rfl, Nat.le_of_ble_eq_true rfl⟩ ⟨Nat.le_of_ble_eq_true rfl, Nat.le_of_ble_eq_true rfl⟩ dL_isSound_58 (fun H locs hP hD hS => ?_)
      refine z_top (y := S 2) (zv_l S 2 (by omega)) ?_
      refine lv_aload_n hx hb dL_isSound_61 rfl (lv_at hl 3 rfl) ?_
      refine lv_iconst (v := 3) hx hb dL_isSound_62 (by decide) ?_
      refine z_lawV ⟨hx, hb, hml, hown, hts⟩ zY_X7_value w_im_yX7_value w_se_yX7_value w_ml_L_31 [.int 3] [.int (S 2)] (c_X7_value_ok l D cs ad S F 3 (by decide)) hE hK hA hP hD hS (z_la (z_lc _) (z_lm _ _ _ _ _ _)) 7 rfl rfl rfl rfl hl.1 (Nat.le_of_ble_eq_true rfl) ⟨Nat.le_of_ble_eq_true rfl, Nat.le_of_ble_eq_true rfl⟩ ⟨Nat.le_of_ble_eq_true rfl, Nat.le_of_ble_eq_true rfl⟩ dL_isSound_63 (fun H locs hP hD hS => ?_)
      refine z_top (y := S 3) (zv_l S 3 (by omega)) ?_
      refine lv_icmp_ge (tgt := 73) hx hb dL_isSound_66 (by decide) (fun c_3 => ?_) (fun c_3 => ?_)
      · skip
        exact absurd c_3 (Int32.not_le.mpr hlt)
      · skip
        refine lv_iconst (v := 1) hx hb dL_isSound_69 (by decide) ?_
        refine lv_goto (tgt := 74) hx hb dL_isSound_70 (by decide) ?_
        refine lv_istore (lv' := [(5, .int 1), (4, .int 0), (3, .int 0), (2, .int 0), (0, .ref (ad 3 0)), (1, .ref ha)]) hx hb dL_isSound_74 hl (by decide) rfl (fun ls hl => ?_)
        refine lv_iconst (v := 0) hx hb dL_isSound_76 (by decide) ?_
        refine lv_istore (lv' := [(6, .int 0), (5, .int 1), (4, .int 0), (3, .int 0), (2, .int 0), (0, .ref (ad 3 0)), (1, .ref ha)]) hx hb dL_isSound_77 hl (by decide) rfl (fun ls hl => ?_)
        have lp79 : ∀ (k : Nat) (c : Nat), (c ≤ 5) → (5 + 1 ≤ c + k) → ∀ (H : Heap) (locs : List Loc) (ls : Array Slot), va_P D vwCl (((camW ad) ++ (macW cs (ad 0) S F)) ++ [(ha, .inl (cs.1, 16, .inl HA))]) H → va_D A (((camW ad) ++ (macW cs (ad 0) S F)) ++ [(ha, .inl (cs.1, 16, .inl HA))]) → va_S A s.heap H locs → lv_has ls 7 [(0, .ref (ad 3 0)), (1, .ref ha), (2, .int (sm (F 5) c)), (3, .int (sm (F 6) c)), (4, .int 0), (5, .int 1), (6, .int (nI c))] → W pq l eq ({ frames := 8, cells := 0, slots := 0, locals := 125 } : Room) s mq ([.ref (ad 3 0), .ref ha] : List Value).toArray below meth cq H locs 0 0 (MQ below (zQe D cs (some (.int 1)) (soP cs ad ha S F) A) ([.ref (ad 3 0), .ref ha] : List Value).toArray s 0 0 A) (F0 mq 79 ls []) := by
          intro k
          induction k with
          | zero =>
            intro c hc1 hc2 H locs ls hP hD hS hl
            omega
          | succ k ih =>
            intro c hc1 hc2 H locs ls hP hD hS hl
            refine lv_iload hx hb dL_isSound_79 (lv_at hl 6 rfl) ?_
            refine lv_iconst (v := 5) hx hb dL_isSound_81 (by decide) ?_
            refine lv_icmp_ge (tgt := 177) hx hb dL_isSound_82 (by decide) (fun c_4 => ?_) (fun c_4 => ?_)
            · skip
              have ec := z_leK (n := 5) rfl (by omega) hc1 c_4
              subst ec
              refine lv_iconst (v := 0) hx hb dL_isSound_177 (by decide) ?_
              refine lv_istore (lv' := [(6, .int 0), (0, .ref (ad 3 0)), (1, .ref ha), (2, .int (sm (F 5) 5)), (3, .int (sm (F 6) 5)), (4, .int 0), (5, .int 1)]) hx hb dL_isSound_178 hl (by decide) rfl (fun ls hl => ?_)
              have lp180 : ∀ (k2 : Nat) (m : Nat), (m ≤ 8) → (8 + 1 ≤ m + k2) → ∀ (H : Heap) (locs : List Loc) (ls : Array Slot), va_P D vwCl (((camW ad) ++ (macW cs (ad 0) S F)) ++ [(ha, .inl (cs.1, 16, .inl HA))]) H → va_D A (((camW ad) ++ (macW cs (ad 0) S F)) ++ [(ha, .inl (cs.1, 16, .inl HA))]) → va_S A s.heap H locs → lv_has ls 7 [(0, .ref (ad 3 0)), (1, .ref ha), (2, .int (sm (F 5) 5)), (3, .int (sm (F 6) 5)), (4, .int (sm (F 11) m)), (5, .int 1), (6, .int (nI m))] → W pq l eq ({ frames := 8, cells := 0, slots := 0, locals := 125 } : Room) s mq ([.ref (ad 3 0), .ref ha] : List Value).toArray below meth cq H locs 0 0 (MQ below (zQe D cs (some (.int 1)) (soP cs ad ha S F) A) ([.ref (ad 3 0), .ref ha] : List Value).toArray s 0 0 A) (F0 mq 180 ls []) := by
                intro k2
                induction k2 with
                | zero =>
                  intro m hm1 hm2 H locs ls hP hD hS hl
                  omega
                | succ k2 ih2 =>
                  intro m hm1 hm2 H locs ls hP hD hS hl
                  refine lv_iload hx hb dL_isSound_180 (lv_at hl 6 rfl) ?_
                  refine lv_bipush (v := 8) hx hb dL_isSound_182 (by decide) ?_
                  refine lv_icmp_ge (tgt := 204) hx hb dL_isSound_184 (by decide) (fun c_5 => ?_) (fun c_5 => ?_)
                  · skip
                    have em := z_leK (n := 8) rfl (by omega) hm1 c_5
                    subst em
                    refine lv_iload hx hb dL_isSound_204 (lv_at hl 5 rfl) ?_
                    refine lv_if_eq (tgt := 244) hx hb dL_isSound_206 (by decide) (fun c_6 => ?_) (fun c_6 => ?_)
                    · skip
                      exact absurd c_6 (by decide)
                    · skip
                      refine lv_iload_n hx hb dL_isSound_209 rfl (lv_at hl 2 rfl) ?_
                      refine lv_aload_n hx hb dL_isSound_210 rfl (lv_at hl 0 rfl) ?_
                      refine lv_bipush (v := 14) hx hb dL_isSound_211 (by decide) ?_
                      refine z_lawV ⟨hx, hb, hml, hown, hts⟩ zY_X7_value w_im_yX7_value w_se_yX7_value w_ml_L_31 [.int 14] [.int (sm (F 5) 5)] (c_X7_value_ok l D cs ad S F 14 (by decide)) hE hK hA hP hD hS (z_la (z_lc _) (z_lm _ _ _ _ _ _)) 7 rfl rfl rfl rfl hl.1 (Nat.le_of_ble_eq_true rfl) ⟨Nat.le_of_ble_eq_true rfl, Nat.le_of_ble_eq_true rfl⟩ ⟨Nat.le_of_ble_eq_true rfl, Nat.le_of_ble_eq_true rfl⟩ dL_isSound_213 (fun H locs hP hD hS => ?_)
                      refine z_top (y := S 14) (zv_l S 14 (by omega)) ?_
                      refine lv_icmp_ne (tgt := 244) hx hb dL_isSound_216 (by decide) (fun c_7 => ?_) (fun c_7 => ?_)
                      · skip
                        exact absurd (f_14 hi).symm c_7
                      · skip
                        refine lv_iload_n hx hb dL_isSound_219 rfl (lv_at hl 3 rfl) ?_
                        refine lv_aload_n hx hb dL_isSound_220 rfl (lv_at hl 0 rfl) ?_
                        refine lv_bipush (v := 15) hx hb dL_isSound_221 (by decide) ?_
                        refine z_lawV ⟨hx, hb, hml, hown, hts⟩ zY_X7_value w_im_yX7_value w_se_yX7_value w_ml_L_31 [.int 15] [.int (sm (F 6) 5)] (c_X7_value_ok l D cs ad S F 15 (by decide)) hE hK hA hP hD hS (z_la (z_lc _) (z_lm _ _ _ _ _ _)) 7 rfl rfl rfl rfl hl.1 (Nat.le_of_ble_eq_true rfl) ⟨Nat.le_of_ble_eq_true rfl, Nat.le_of_ble_eq_true rfl⟩ ⟨Nat.le_of_ble_eq_true rfl, Nat.le_of_ble_eq_true rfl⟩ dL_isSound_223 (fun H locs hP hD hS => ?_)
                        refine z_top (y := S 15) (zv_l S 15 (by omega)) ?_
                        refine lv_icmp_ne (tgt := 244) hx hb dL_isSound_226 (by decide) (fun c_8 => ?_) (fun c_8 => ?_)
                        · skip
                          exact absurd (f_15 hi).symm c_8
                        · skip
                          refine lv_iload hx hb dL_isSound_229 (lv_at hl 4 rfl) ?_
                          refine lv_aload_n hx hb dL_isSound_231 rfl (lv_at hl 0 rfl) ?_
                          refine lv_bipush (v := 11) hx hb dL_isSound_232 (by decide) ?_
                          refine z_lawV ⟨hx, hb, hml, hown, hts⟩ zY_X7_value w_im_yX7_value w_se_yX7_value w_ml_L_31 [.int 11] [.int (sm (F 11) 8)] (c_X7_value_ok l D cs ad S F 11 (by decide)) hE hK hA hP hD hS (z_la (z_lc _) (z_lm _ _ _ _ _ _)) 7 rfl rfl rfl rfl hl.1 (Nat.le_of_ble_eq_true rfl) ⟨Nat.le_of_ble_eq_true rfl, Nat.le_of_ble_eq_true rfl⟩ ⟨Nat.le_of_ble_eq_true rfl, Nat.le_of_ble_eq_true rfl⟩ dL_isSound_234 (fun H locs hP hD hS => ?_)
                          refine z_top (y := S 11) (zv_l S 11 (by omega)) ?_
                          refine lv_icmp_ne (tgt := 244) hx hb dL_isSound_237 (by decide) (fun c_9 => ?_) (fun c_9 => ?_)
                          · skip
                            exact absurd (f_11 hi).symm c_9
                          · skip
                            refine lv_iconst (v := 1) hx hb dL_isSound_240 (by decide) ?_
                            refine lv_goto (tgt := 245) hx hb dL_isSound_241 (by decide) ?_
                            refine lv_istore (lv' := [(5, .int 1), (0, .ref (ad 3 0)), (1, .ref ha), (2, .int (sm (F 5) 5)), (3, .int (sm (F 6) 5)), (4, .int (sm (F 11) 8)), (6, .int (nI 8))]) hx hb dL_isSound_245 hl (by decide) rfl (fun ls hl => ?_)
                            refine lv_bipush (v := 9) hx hb dL_isSound_247 (by decide) ?_
                            refine lv_istore (lv' := [(6, .int 9), (5, .int 1), (0, .ref (ad 3 0)), (1, .ref ha), (2, .int (sm (F 5) 5)), (3, .int (sm (F 6) 5)), (4, .int (sm (F 11) 8))]) hx hb dL_isSound_249 hl (by decide) rfl (fun ls hl => ?_)
                            have lp251 : ∀ (k3 : Nat) (w : Nat) (HB : Nat → Int32), (w ≤ 16) → (16 + 1 ≤ w + k3) → (9 ≤ w) → (∀ k, 9 ≤ k → k < 16 → HB k ≤ S k) → ∀ (H : Heap) (locs : List Loc) (ls : Array Slot), va_P D vwCl (((camW ad) ++ (macW cs (ad 0) S F)) ++ [(ha, .inl (cs.1, 16, .inl HB))]) H → va_D A (((camW ad) ++ (macW cs (ad 0) S F)) ++ [(ha, .inl (cs.1, 16, .inl HB))]) → va_S A s.heap H locs → lv_has ls 7 [(0, .ref (ad 3 0)), (1, .ref ha), (5, .int 1), (6, .int (nI w))] → W pq l eq ({ frames := 8, cells := 0, slots := 0, locals := 125 } : Room) s mq ([.ref (ad 3 0), .ref ha] : List Value).toArray below meth cq H locs 0 0 (MQ below (zQe D cs (some (.int 1)) (soP cs ad ha S F) A) ([.ref (ad 3 0), .ref ha] : List Value).toArray s 0 0 A) (F0 mq 251 ls []) := by
                              intro k3
                              induction k3 with
                              | zero =>
                                intro w HB hw1 hw2 hw9 hHB H locs ls hP hD hS hl
                                omega
                              | succ k3 ih3 =>
                                intro w HB hw1 hw2 hw9 hHB H locs ls hP hD hS hl
                                refine lv_iload hx hb dL_isSound_251 (lv_at hl 3 rfl) ?_
                                refine lv_bipush (v := 16) hx hb dL_isSound_253 (by decide) ?_
                                refine lv_icmp_ge (tgt := 299) hx hb dL_isSound_255 (by decide) (fun c_10 => ?_) (fun c_10 => ?_)
                                · skip
                                  refine lv_iload hx hb dL_isSound_299 (lv_at hl 2 rfl) ?_
                                  exact z_zretE hx hb hr hlk hK hP hD hS dL_isSound_301 rfl rfl ⟨HB, rfl, hHB⟩
                                · skip
                                  have gw : w < 16 := z_geK (n := 16) rfl (by omega) hw1 c_10
                                  refine lv_iload hx hb dL_isSound_258 (lv_at hl 2 rfl) ?_
                                  refine lv_if_eq (tgt := 280) hx hb dL_isSound_260 (by decide) (fun c_11 => ?_) (fun c_11 => ?_)
                                  · skip
                                    exact absurd c_11 (by decide)
                                  · skip
                                    refine lv_aload_n hx hb dL_isSound_263 rfl (lv_at hl 0 rfl) ?_
                                    refine lv_iload hx hb dL_isSound_264 (lv_at hl 3 rfl) ?_
                                    refine z_lawV ⟨hx, hb, hml, hown, hts⟩ zY_X7_value w_im_yX7_value w_se_yX7_value w_ml_L_31 [.int (nI w)] [] (c_X7_value_ok l D cs ad S F (nI w) (g_16 gw)) hE hK hA hP hD hS (z_la (z_lc _) (z_lm _ _ _ _ _ _)) 7 rfl rfl rfl rfl hl.1 (Nat.le_of_ble_eq_true rfl) ⟨Nat.le_of_ble_eq_true rfl, Nat.le_of_ble_eq_true rfl⟩ ⟨Nat.le_of_ble_eq_true rfl, Nat.le_of_ble_eq_true rfl⟩ dL_isSound_266 (fun H locs hP hD hS => ?_)
                                    refine z_top (y := S w) (zv_l S w (by omega)) ?_
                                    refine lv_aload_n hx hb dL_isSound_269 rfl (lv_at hl 1 rfl) ?_
                                    refine lv_iload hx hb dL_isSound_270 (lv_at hl 3 rfl) ?_
                                    refine z_iald (k := w) hx hb hK hP 18 rfl (by omega) (by first | decide | omega) dL_isSound_272 ?_
                                    refine lv_icmp_lt (tgt := 280) hx hb dL_isSound_273 (by decide) (fun c_12 => ?_) (fun c_12 => ?_)
                                    · skip
                                      exact absurd c_12 (Int32.not_lt.mpr (hHB w hw9 gw))
                                    · skip
                                      refine lv_iconst (v := 1) hx hb dL_isSound_276 (by decide) ?_
                                      refine lv_goto (tgt := 281) hx hb dL_isSound_277 (by decide) ?_
                                      refine lv_istore (lv' := [(5, .int 1), (0, .ref (ad 3 0)), (1, .ref ha), (6, .int (nI w))]) hx hb dL_isSound_281 hl (by decide) rfl (fun ls hl => ?_)
                                      refine lv_aload_n hx hb dL_isSound_283 rfl (lv_at hl 2 rfl) ?_
                                      refine lv_iload hx hb dL_isSound_284 (lv_at hl 3 rfl) ?_
                                      refine lv_aload_n hx hb dL_isSound_286 rfl (lv_at hl 1 rfl) ?_
                                      refine lv_iload hx hb dL_isSound_287 (lv_at hl 3 rfl) ?_
                                      refine z_lawV ⟨hx, hb, hml, hown, hts⟩ zY_X7_value w_im_yX7_value w_se_yX7_value w_ml_L_31 [.int (nI w)] [.int (nI w), .ref ha] (c_X7_value_ok l D cs ad S F (nI w) (g_16 gw)) hE hK hA hP hD hS (z_la (z_lc _) (z_lm _ _ _ _ _ _)) 7 rfl rfl rfl rfl hl.1 (Nat.le_of_ble_eq_true rfl) ⟨Nat.le_of_ble_eq_true rfl, Nat.le_of_ble_eq_true rfl⟩ ⟨Nat.le_of_ble_eq_true rfl, Nat.le_of_ble_eq_true rfl⟩ dL_isSound_289 (fun H locs hP hD hS => ?_)
                                      refine z_top (y := S w) (zv_l S w (by omega)) ?_
                                      refine z_iast (k := w) hx hb hK hP hD hS 18 rfl (by omega) (by first | decide | omega) dL_isSound_292 (fun H locs hP hD hS => ?_)
                                      have hP : va_P D vwCl (((camW ad) ++ (macW cs (ad 0) S F)) ++ [(ha, .inl (cs.1, 16, .inl (upd HB w (S w))))]) H := hP
                                      have hD : va_D A (((camW ad) ++ (macW cs (ad 0) S F)) ++ [(ha, .inl (cs.1, 16, .inl (upd HB w (S w))))]) := hD
                                      refine lv_iinc (v := nI (w + 1)) (lv' := [(6, .int (nI (w + 1))), (5, .int 1), (0, .ref (ad 3 0)), (1, .ref ha)]) hx hb dL_isSound_293 hl (k := 3) rfl (show nI w + Int32.ofInt 1 = nI (w + 1) from nI_add w 1) (by decide) rfl (fun ls hl => ?_)
                                      refine lv_goto (tgt := 251) hx hb dL_isSound_296 (by decide) ?_
                                      exact ih3 (w + 1) (upd HB w (S w)) (by omega) (by omega) (by omega) (so_u hHB) _ _ _ hP hD hS (lv_sub hl [2, 3, 1, 0] rfl)
                            exact lp251 (16 + 1) 9 HA (by omega) (by omega) (by omega) hh _ _ _ hP hD hS (lv_sub hl [2, 3, 1, 0] rfl)
                  · skip
                    have gm : m < 8 := z_geK (n := 8) rfl (by omega) hm1 c_5
                    refine lv_iload hx hb dL_isSound_187 (lv_at hl 4 rfl) ?_
                    refine lv_aload_n hx hb dL_isSound_189 rfl (lv_at hl 0 rfl) ?_
                    refine lv_iload hx hb dL_isSound_190 (lv_at hl 6 rfl) ?_
                    refine z_lawV ⟨hx, hb, hml, hown, hts⟩ zY_X7_skips w_im_yX7_skips w_se_yX7_skips w_ml_L_58 [.int (nI m)] [.int (sm (F 11) m)] (c_X7_skips_ok l D cs ad S F (nI m) (g_st (f_0 hi) gm)) hE hK hA hP hD hS (z_la (z_lc _) (z_lm _ _ _ _ _ _)) 7 rfl rfl rfl rfl hl.1 (Nat.le_of_ble_eq_true rfl) ⟨Nat.le_of_ble_eq_true rfl, Nat.le_of_ble_eq_true rfl⟩ ⟨Nat.le_of_ble_eq_true rfl, Nat.le_of_ble_eq_true rfl⟩ dL_isSound_192 (fun H locs hP hD hS => ?_)
                    refine z_top (y := F 11 m) (sk_e F gm) ?_
                    refine lv_iadd hx hb dL_isSound_195 ?_
                    refine z_top (y := sm (F 11) (m + 1)) rfl ?_
                    refine lv_istore (lv' := [(4, .int (sm (F 11) (m + 1))), (0, .ref (ad 3 0)), (1, .ref ha), (2, .int (sm (F 5) 5)), (3, .int (sm (F 6) 5)), (5, .int 1), (6, .int (nI m))]) hx hb dL_isSound_196 hl (by decide) rfl (fun ls hl => ?_)
                    refine lv_iinc (v := nI (m + 1)) (lv' := [(6, .int (nI (m + 1))), (4, .int (sm (F 11) (m + 1))), (0, .ref (ad 3 0)), (1, .ref ha), (2, .int (sm (F 5) 5)), (3, .int (sm (F 6) 5)), (5, .int 1)]) hx hb dL_isSound_198 hl (k := 6) rfl (show nI m + Int32.ofInt 1 = nI (m + 1) from nI_add m 1) (by decide) rfl (fun ls hl => ?_)
                    refine lv_goto (tgt := 180) hx hb dL_isSound_201 (by decide) ?_
                    exact ih2 (m + 1) (by omega) (by omega) _ _ _ hP hD hS (lv_sub hl [2, 3, 4, 5, 1, 6, 0] rfl)
              exact lp180 (8 + 1) 0 (by omega) (by omega) _ _ _ hP hD hS (lv_sub hl [1, 2, 3, 4, 5, 6, 0] rfl)
            · skip
              have gc : c < 5 := z_geK (n := 5) rfl (by omega) hc1 c_4
              refine lv_iload_n hx hb dL_isSound_85 rfl (lv_at hl 2 rfl) ?_
              refine lv_aload_n hx hb dL_isSound_86 rfl (lv_at hl 0 rfl) ?_
              refine lv_iload hx hb dL_isSound_87 (lv_at hl 6 rfl) ?_
              refine lv_bipush (v := 6) hx hb dL_isSound_89 (by decide) ?_
              refine z_lawV ⟨hx, hb, hml, hown, hts⟩ zY_X7_cylinder w_im_yX7_cylinder w_se_yX7_cylinder w_ml_L_52 [.int (nI c), .int 6] [.int (sm (F 5) c)] (c_X7_cylinder_ok l D cs ad S F (nI c) 6 (g_5 gc) (by decide)) hE hK hA hP hD hS (z_la (z_lc _) (z_lm _ _ _ _ _ _)) 7 rfl rfl rfl rfl hl.1 (Nat.le_of_ble_eq_true rfl) ⟨Nat.le_of_ble_eq_true rfl, Nat.le_of_ble_eq_true rfl⟩ ⟨Nat.le_of_ble_eq_true rfl, Nat.le_of_ble_eq_true rfl⟩ dL_isSound_91 (fun H locs hP hD hS => ?_)
              refine z_top (y := F 5 c) (congrFun (congrArg (cylN S F) (nN_nI (k := c) (by omega))) 6) ?_
              refine lv_iadd hx hb dL_isSound_94 ?_
              refine z_top (y := sm (F 5) (c + 1)) rfl ?_
              refine lv_istore_n (lv' := [(2, .int (sm (F 5) (c + 1))), (0, .ref (ad 3 0)), (1, .ref ha), (3, .int (sm (F 6) c)), (4, .int 0), (5, .int 1), (6, .int (nI c))]) hx hb dL_isSound_95 rfl hl (by decide) rfl (fun ls hl => ?_)
              refine lv_iload_n hx hb dL_isSound_96 rfl (lv_at hl 3 rfl) ?_
              refine lv_aload_n hx hb dL_isSound_97 rfl (lv_at hl 1 rfl) ?_
              refine lv_iload hx hb dL_isSound_98 (lv_at hl 6 rfl) ?_
              refine lv_bipush (v := 7) hx hb dL_isSound_100 (by decide) ?_
              refine z_lawV ⟨hx, hb, hml, hown, hts⟩ zY_X7_cylinder w_im_yX7_cylinder w_se_yX7_cylinder w_ml_L_52 [.int (nI c), .int 7] [.int (sm (F 6) c)] (c_X7_cylinder_ok l D cs ad S F (nI c) 7 (g_5 gc) (by decide)) hE hK hA hP hD hS (z_la (z_lc _) (z_lm _ _ _ _ _ _)) 7 rfl rfl rfl rfl hl.1 (Nat.le_of_ble_eq_true rfl) ⟨Nat.le_of_ble_eq_true rfl, Nat.le_of_ble_eq_true rfl⟩ ⟨Nat.le_of_ble_eq_true rfl, Nat.le_of_ble_eq_true rfl⟩ dL_isSound_102 (fun H locs hP hD hS => ?_)
              refine z_top (y := F 6 c) (congrFun (congrArg (cylN S F) (nN_nI (k := c) (by omega))) 7) ?_
              refine lv_iadd hx hb dL_isSound_105 ?_
              refine z_top (y := sm (F 6) (c + 1)) rfl ?_
              refine lv_istore_n (lv' := [(3, .int (sm (F 6) (c + 1))), (2, .int (sm (F 5) (c + 1))), (0, .ref (ad 3 0)), (1, .ref ha), (4, .int 0), (5, .int 1), (6, .int (nI c))]) hx hb dL_isSound_106 rfl hl (by decide) rfl (fun ls hl => ?_)
              refine lv_iload hx hb dL_isSound_107 (lv_at hl 5 rfl) ?_
              refine lv_if_eq (tgt := 168) hx hb dL_isSound_109 (by decide) (fun c_13 => ?_) (fun c_13 => ?_)
              · skip
                exact absurd c_13 (by decide)
              · skip
                refine lv_aload_n hx hb dL_isSound_112 rfl (lv_at hl 2 rfl) ?_
                refine lv_iload hx hb dL_isSound_113 (lv_at hl 6 rfl) ?_
                refine lv_iconst (v := 0) hx hb dL_isSound_115 (by decide) ?_
                refine z_lawV ⟨hx, hb, hml, hown, hts⟩ zY_X7_cylinder w_im_yX7_cylinder w_se_yX7_cylinder w_ml_L_52 [.int (nI c), .int 0] [] (c_X7_cylinder_ok l D cs ad S F (nI c) 0 (g_5 gc) (by decide)) hE hK hA hP hD hS (z_la (z_lc _) (z_lm _ _ _ _ _ _)) 7 rfl rfl rfl rfl hl.1 (Nat.le_of_ble_eq_true rfl) ⟨Nat.le_of_ble_eq_true rfl, Nat.le_of_ble_eq_true rfl⟩ ⟨Nat.le_of_ble_eq_true rfl, Nat.le_of_ble_eq_true rfl⟩ dL_isSound_116 (fun H locs hP hD hS => ?_)
                refine z_top (y := F 1 c) (congrFun (congrArg (cylN S F) (nN_nI (k := c) (by omega))) 0) ?_
                refine lv_if_lt (tgt := 168) hx hb dL_isSound_119 (by decide) (fun c_14 => ?_) (fun c_14 => ?_)
                · skip
                  exact absurd c_14 (Int32.not_lt.mpr (f_out hi gc).1)
                · skip
                  refine lv_aload_n hx hb dL_isSound_122 rfl (lv_at hl 2 rfl) ?_
                  refine lv_iload hx hb dL_isSound_123 (lv_at hl 6 rfl) ?_
                  refine lv_iconst (v := 0) hx hb dL_isSound_125 (by decide) ?_
                  refine z_lawV ⟨hx, hb, hml, hown, hts⟩ zY_X7_cylinder w_im_yX7_cylinder w_se_yX7_cylinder w_ml_L_52 [.int (nI c), .int 0] [] (c_X7_cylinder_ok l D cs ad S F (nI c) 0 (g_5 gc) (by decide)) hE hK hA hP hD hS (z_la (z_lc _) (z_lm _ _ _ _ _ _)) 7 rfl rfl rfl rfl hl.1 (Nat.le_of_ble_eq_true rfl) ⟨Nat.le_of_ble_eq_true rfl, Nat.le_of_ble_eq_true rfl⟩ ⟨Nat.le_of_ble_eq_true rfl, Nat.le_of_ble_eq_true rfl⟩ dL_isSound_126 (fun H locs hP hD hS => ?_)
                  refine z_top (y := F 1 c) (congrFun (congrArg (cylN S F) (nN_nI (k := c) (by omega))) 0) ?_
                  refine lv_bipush (v := 100) hx hb dL_isSound_129 (by decide) ?_
                  refine lv_icmp_gt (tgt := 168) hx hb dL_isSound_131 (by decide) (fun c_15 => ?_) (fun c_15 => ?_)
                  · skip
                    exact absurd c_15 (Int32.not_lt.mpr (f_out hi gc).2)
                  · skip
                    refine lv_aload_n hx hb dL_isSound_134 rfl (lv_at hl 2 rfl) ?_
                    refine lv_iload hx hb dL_isSound_135 (lv_at hl 6 rfl) ?_
                    refine lv_iconst (v := 5) hx hb dL_isSound_137 (by decide) ?_
                    refine z_lawV ⟨hx, hb, hml, hown, hts⟩ zY_X7_cylinder w_im_yX7_cylinder w_se_yX7_cylinder w_ml_L_52 [.int (nI c), .int 5] [] (c_X7_cylinder_ok l D cs ad S F (nI c) 5 (g_5 gc) (by decide)) hE hK hA hP hD hS (z_la (z_lc _) (z_lm _ _ _ _ _ _)) 7 rfl rfl rfl rfl hl.1 (Nat.le_of_ble_eq_true rfl) ⟨Nat.le_of_ble_eq_true rfl, Nat.le_of_ble_eq_true rfl⟩ ⟨Nat.le_of_ble_eq_true rfl, Nat.le_of_ble_eq_true rfl⟩ dL_isSound_138 (fun H locs hP hD hS => ?_)
                    refine z_top (y := rbg S F c) (congrFun (congrArg (cylN S F) (nN_nI (k := c) (by omega))) 5) ?_
                    refine lv_if_lt (tgt := 168) hx hb dL_isSound_141 (by decide) (fun c_16 => ?_) (fun c_16 => ?_)
                    · skip
                      exact absurd c_16 (Int32.not_lt.mpr (f_room hi gc).1)
                    · skip
                      refine lv_aload_n hx hb dL_isSound_144 rfl (lv_at hl 2 rfl) ?_
                      refine lv_iload hx hb dL_isSound_145 (lv_at hl 6 rfl) ?_
                      refine lv_iconst (v := 5) hx hb dL_isSound_147 (by decide) ?_
                      refine z_lawV ⟨hx, hb, hml, hown, hts⟩ zY_X7_cylinder w_im_yX7_cylinder w_se_yX7_cylinder w_ml_L_52 [.int (nI c), .int 5] [] (c_X7_cylinder_ok l D cs ad S F (nI c) 5 (g_5 gc) (by decide)) hE hK hA hP hD hS (z_la (z_lc _) (z_lm _ _ _ _ _ _)) 7 rfl rfl rfl rfl hl.1 (Nat.le_of_ble_eq_true rfl) ⟨Nat.le_of_ble_eq_true rfl, Nat.le_of_ble_eq_true rfl⟩ ⟨Nat.le_of_ble_eq_true rfl, Nat.le_of_ble_eq_true rfl⟩ dL_isSound_148 (fun H locs hP hD hS => ?_)
                      refine z_top (y := rbg S F c) (congrFun (congrArg (cylN S F) (nN_nI (k := c) (by omega))) 5) ?_
                      refine lv_bipush (v := 100) hx hb dL_isSound_151 (by decide) ?_
                      refine lv_aload_n hx hb dL_isSound_153 rfl (lv_at hl 2 rfl) ?_
                      refine lv_iload hx hb dL_isSound_154 (lv_at hl 6 rfl) ?_
                      refine lv_iconst (v := 0) hx hb dL_isSound_156 (by decide) ?_
                      refine z_lawV ⟨hx, hb, hml, hown, hts⟩ zY_X7_cylinder w_im_yX7_cylinder w_se_yX7_cylinder w_ml_L_52 [.int (nI c), .int 0] [.int 100, .int (rbg S F c)] (c_X7_cylinder_ok l D cs ad S F (nI c) 0 (g_5 gc) (by decide)) hE hK hA hP hD hS (z_la (z_lc _) (z_lm _ _ _ _ _ _)) 7 rfl rfl rfl rfl hl.1 (Nat.le_of_ble_eq_true rfl) ⟨Nat.le_of_ble_eq_true rfl, Nat.le_of_ble_eq_true rfl⟩ ⟨Nat.le_of_ble_eq_true rfl, Nat.le_of_ble_eq_true rfl⟩ dL_isSound_157 (fun H locs hP hD hS => ?_)
                      refine z_top (y := F 1 c) (congrFun (congrArg (cylN S F) (nN_nI (k := c) (by omega))) 0) ?_
                      refine lv_isub hx hb dL_isSound_160 ?_
                      refine lv_icmp_gt (tgt := 168) hx hb dL_isSound_161 (by decide) (fun c_17 => ?_) (fun c_17 => ?_)
                      · skip
                        exact absurd c_17 (Int32.not_lt.mpr (f_room hi gc).2)
                      · skip
                        refine lv_iconst (v := 1) hx hb dL_isSound_164 (by decide) ?_
                        refine lv_goto (tgt := 169) hx hb dL_isSound_165 (by decide) ?_
                        refine lv_istore (lv' := [(5, .int 1), (3, .int (sm (F 6) (c + 1))), (2, .int (sm (F 5) (c + 1))), (0, .ref (ad 3 0)), (1, .ref ha), (4, .int 0), (6, .int (nI c))]) hx hb dL_isSound_169 hl (by decide) rfl (fun ls hl => ?_)
                        refine lv_iinc (v := nI (c + 1)) (lv' := [(6, .int (nI (c + 1))), (5, .int 1), (3, .int (sm (F 6) (c + 1))), (2, .int (sm (F 5) (c + 1))), (0, .ref (ad 3 0)), (1, .ref ha), (4, .int 0)]) hx hb dL_isSound_171 hl (k := 6) rfl (show nI c + Int32.ofInt 1 = nI (c + 1) from nI_add c 1) (by decide) rfl (fun ls hl => ?_)
                        refine lv_goto (tgt := 79) hx hb dL_isSound_174 (by decide) ?_
                        exact ih (c + 1) (by omega) (by omega) _ _ _ hP hD hS (lv_sub hl [4, 5, 3, 2, 6, 1, 0] rfl)
        exact lp79 (5 + 1) 0 (by omega) (by omega) _ _ _ hP hD hS (lv_sub hl [5, 6, 4, 3, 2, 1, 0] rfl)
