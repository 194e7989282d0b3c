def alP (cs : zCs) (ad bd : Nat → Nat → Nat) (S : Nat → Int32) (F : Nat → Nat → Int32) (V : Nat → Int32) (G : Nat → Nat → Int32) : va_W → Prop := fun wo => ∃ (TS : Nat → Int32) (TF : Nat → Nat → Int32) (TV : Nat → Int32) (TG : Nat → Nat → Int32), wo = ((dmW cs ad S F ++ macW cs (ad 1) TS TF) ++ (dmW cs bd V G ++ macW cs (bd 1) TV TG))
theorem zq_a1 {A : Nat → Prop} {D : va_G} {cl : List vw_C} {H : Heap} {wDo wDp wTo wTp : va_W} (hP : va_P D cl ((wDo ++ wTo) ++ (wDp ++ wTp)) H) (hD : va_D A ((wDo ++ wTo) ++ (wDp ++ wTp))) : va_P D cl (wDo ++ (wTo ++ wDp ++ wTp)) H ∧ va_D A (wDo ++ (wTo ++ wDp ++ wTp)) := by
  refine z_perm (fun q h => ?_) (fun x => ?_) hP hD
  · simp only [List.mem_append] at h ⊢; simp only [or_assoc] at h ⊢; rcases h with h | h | h | h <;> simp only [h, true_or, or_true]
  · simp only [List.map_append, List.count_append]; omega

theorem zq_a2 {A : Nat → Prop} {D : va_G} {cl : List vw_C} {H : Heap} {wDo wDp wTo wTp : va_W} (hP : va_P D cl (wDo ++ (wTo ++ wDp ++ wTp)) H) (hD : va_D A (wDo ++ (wTo ++ wDp ++ wTp))) : va_P D cl (wDp ++ (wDo ++ wTo ++ wTp)) H ∧ va_D A (wDp ++ (wDo ++ wTo ++ wTp)) := by
  refine z_perm (fun q h => ?_) (fun x => ?_) hP hD
  · simp only [List.mem_append] at h ⊢; simp only [or_assoc] at h ⊢; rcases h with h | h | h | h <;> simp only [h, true_or, or_true]
  · simp only [List.map_append, List.count_append]; omega

theorem zq_a3 {A : Nat → Prop} {D : va_G} {cl : List vw_C} {H : Heap} {wDo wDp wTo wTp : va_W} (hP : va_P D cl (wDp ++ (wDo ++ wTo ++ wTp)) H) (hD : va_D A (wDp ++ (wDo ++ wTo ++ wTp))) : va_P D cl (wDo ++ (wTo ++ wDp ++ wTp)) H ∧ va_D A (wDo ++ (wTo ++ wDp ++ wTp)) := by
  refine z_perm (fun q h => ?_) (fun x => ?_) hP hD
  · simp only [List.mem_append] at h ⊢; simp only [or_assoc] at h ⊢; rcases h with h | h | h | h <;> simp only [h, true_or, or_true]
  · simp only [List.map_append, List.count_append]; omega

theorem zq_a4 {A : Nat → Prop} {D : va_G} {cl : List vw_C} {H : Heap} {wDo wDp wTo wTp : va_W} (hP : va_P D cl (wDp ++ (wDo ++ wTo ++ wTp)) H) (hD : va_D A (wDp ++ (wDo ++ wTo ++ wTp))) : va_P D cl ((wDo ++ wTo) ++ (wDp ++ wTp)) H ∧ va_D A ((wDo ++ wTo) ++ (wDp ++ wTp)) := by
  refine z_perm (fun q h => ?_) (fun x => ?_) hP hD
  · simp only [List.mem_append] at h ⊢; simp only [or_assoc] at h ⊢; rcases h with h | h | h | h <;> simp only [h, true_or, or_true]
  · simp only [List.map_append, List.count_append]; omega

theorem zq_a5 {A : Nat → Prop} {D : va_G} {cl : List vw_C} {H : Heap} {wDo wDp wTo wTp : va_W} (hP : va_P D cl ((wDo ++ wTo) ++ (wDp ++ wTp)) H) (hD : va_D A ((wDo ++ wTo) ++ (wDp ++ wTp))) : va_P D cl ((wDp ++ wTp) ++ (wDo ++ wTo)) H ∧ va_D A ((wDp ++ wTp) ++ (wDo ++ wTo)) := by
  refine z_perm (fun q h => ?_) (fun x => ?_) hP hD
  · simp only [List.mem_append] at h ⊢; simp only [or_assoc] at h ⊢; rcases h with h | h | h | h <;> simp only [h, true_or, or_true]
  · simp only [List.map_append, List.count_append]; omega

theorem zq_a6 {A : Nat → Prop} {D : va_G} {cl : List vw_C} {H : Heap} {wDo wDp wTo wTp : va_W} (hP : va_P D cl ((wDp ++ wTp) ++ (wDo ++ wTo)) H) (hD : va_D A ((wDp ++ wTp) ++ (wDo ++ wTo))) : va_P D cl ((wDo ++ wTo) ++ (wDp ++ wTp)) H ∧ va_D A ((wDo ++ wTo) ++ (wDp ++ wTp)) := by
  refine z_perm (fun q h => ?_) (fun x => ?_) hP hD
  · simp only [List.mem_append] at h ⊢; simp only [or_assoc] at h ⊢; rcases h with h | h | h | h <;> simp only [h, true_or, or_true]
  · simp only [List.map_append, List.count_append]; omega

set_option maxHeartbeats 4000000 in
set_option maxRecDepth 100000 in
theorem c_L_areAlike (l : Launch) (D : va_G) (cs : zCs) (ad bd : Nat → Nat → Nat) (S : Nat → Int32) (F : Nat → Nat → Int32) (V : Nat → Int32) (G : Nat → Nat → Int32) (TS : Nat → Int32) (TF : Nat → Nat → Int32) (TV : Nat → Int32) (TG : Nat → Nat → Int32) (b : Nat) (N : Int) (hb8 : 1 ≤ b ∧ b < 8) (hN : 0 ≤ N ∧ N ≤ 50000) (hd : dR b N S F V G) : zMe l D cs yL_areAlike cL_areAlike 6 (some FieldType.boolean) 8 177 0 0 [.ref (ad 3 0), .ref (bd 3 0), .int (nI b)] ((((camW ad) ++ (macW cs (ad 0) S F)) ++ (macW cs (ad 1) TS TF)) ++ (((camW bd) ++ (macW cs (bd 0) V G)) ++ (macW cs (bd 1) TV TG))) (some (.int 1)) (alP cs ad bd S F V G) := by
  obtain ⟨hb1, hb7⟩ := hb8
  obtain ⟨st, a1, a2, a3⟩ := hd.2.2.2.1.2
  have a2 : S 1 = nI st := a2
  have a3 : V 1 = nI ((st + b) % 8) := a3
  refine zMe.of (own := RL) (by decide) (Nat.le_of_ble_eq_true rfl) rfl ?_
  intro pq eq s mq below meth cq A ls hx hb hr hml hown hts hlk hnm hE hK hA hP hD hS hl
  have hl : lv_has ls 6 [(0, .ref (ad 3 0)), (1, .ref (bd 3 0)), (2, .int (nI b))] := hl
  refine lv_aload_n hx hb dL_areAlike_0 rfl (lv_at hl 0 rfl) ?_
  refine lv_iconst (v := 1) hx hb dL_areAlike_1 (by decide) ?_
  obtain ⟨hP, hD⟩ := zq_a1 hP hD
  refine z_lawV ⟨hx, hb, hml, hown, hts⟩ zY_X7_value w_im_yX7_value w_se_yX7_value w_ml_L_31 [.int 1] [] (c_X7_value_ok l D cs ad S F 1 (by decide)) hE hK hA hP hD hS (z_la (z_lc _) (z_lm _ _ _ _ _ _)) 7 rfl rfl rfl rfl hl.1 (Nat.le_of_ble_eq_true rfl) ⟨Nat.le_of_ble_eq_true rfl, Nat.le_of_ble_eq_true rfl⟩ ⟨Nat.le_of_ble_eq_true rfl, Nat.le_of_ble_eq_true rfl⟩ dL_areAlike_2 (fun H locs hP hD hS => ?_)
  refine z_top (y := nI st) ((zv_l S 1 (by omega)).trans a2) ?_
  refine lv_iload_n hx hb dL_areAlike_5 rfl (lv_at hl 2 rfl) ?_
  refine lv_iadd hx hb dL_areAlike_6 ?_
  refine z_top (y := nI (st + b)) (nI_add st b) ?_
  refine lv_bipush (v := 8) hx hb dL_areAlike_7 (by decide) ?_
  refine lv_irem hx hb dL_areAlike_9 (by decide) ?_
  refine z_top (y := nI ((st + b) % 8)) (up_rem (a := st + b) (m := 8) (by omega) (by omega) (by omega)) ?_
  refine lv_aload_n hx hb dL_areAlike_10 rfl (lv_at hl 1 rfl) ?_
  refine lv_iconst (v := 1) hx hb dL_areAlike_11 (by decide) ?_
  obtain ⟨hP, hD⟩ := zq_a2 hP hD
  refine z_lawV ⟨hx, hb, hml, hown, hts⟩ zY_X7_value w_im_yX7_value w_se_yX7_value w_ml_L_31 [.int 1] [.int (nI ((st + b) % 8))] (c_X7_value_ok l D cs bd V G 1 (by decide)) hE hK hA hP hD hS (z_la (z_lc _) (z_lm _ _ _ _ _ _)) 7 rfl rfl rfl rfl hl.1 (Nat.le_of_ble_eq_true rfl) ⟨Nat.le_of_ble_eq_true rfl, Nat.le_of_ble_eq_true rfl⟩ ⟨Nat.le_of_ble_eq_true rfl, Nat.le_of_ble_eq_true rfl⟩ dL_areAlike_12 (fun H locs hP hD hS => ?_)
  refine z_top (y := nI ((st + b) % 8)) ((zv_l V 1 (by omega)).trans a3) ?_
  refine lv_icmp_ne (tgt := 34) hx hb dL_areAlike_15 (by decide) (fun c_1 => ?_) (fun c_1 => ?_)
  · skip
    exact absurd rfl c_1
  · skip
    refine lv_aload_n hx hb dL_areAlike_18 rfl (lv_at hl 0 rfl) ?_
    obtain ⟨hP, hD⟩ := zq_a3 hP hD
    refine z_lawV ⟨hx, hb, hml, hown, hts⟩ zY_X7_useful w_im_yX7_useful w_se_yX7_useful w_ml_L_48 [] [] (c_X7_useful l D cs ad S F (f_hm hd.1) (f_hz hd.1)) hE hK hA hP hD hS (z_la (z_lc _) (z_lm _ _ _ _ _ _)) 7 rfl rfl rfl rfl hl.1 (Nat.le_of_ble_eq_true rfl) ⟨Nat.le_of_ble_eq_true rfl, Nat.le_of_ble_eq_true rfl⟩ ⟨Nat.le_of_ble_eq_true rfl, Nat.le_of_ble_eq_true rfl⟩ dL_areAlike_19 (fun H locs hP hD hS => ?_)
    refine lv_aload_n hx hb dL_areAlike_22 rfl (lv_at hl 1 rfl) ?_
    obtain ⟨hP, hD⟩ := zq_a2 hP hD
    refine z_lawV ⟨hx, hb, hml, hown, hts⟩ zY_X7_useful w_im_yX7_useful w_se_yX7_useful w_ml_L_48 [] [.double (FP.ddiv (FP.i2d (S 14)) (FP.i2d (S 12)))] (c_X7_useful l D cs bd V G (f_hm hd.2.1) (f_hz hd.2.1)) hE hK hA hP hD hS (z_la (z_lc _) (z_lm _ _ _ _ _ _)) 7 rfl rfl rfl rfl hl.1 (Nat.le_of_ble_eq_true rfl) ⟨Nat.le_of_ble_eq_true rfl, Nat.le_of_ble_eq_true rfl⟩ ⟨Nat.le_of_ble_eq_true rfl, Nat.le_of_ble_eq_true rfl⟩ dL_areAlike_23 (fun H locs hP hD hS => ?_)
    refine lv_dcmp hx hb dL_areAlike_26 ?_
    refine z_top (y := 0) (by rw [rS hd.2.2 14 (by omega) (by omega), rS hd.2.2 12 (by omega) (by omega)]; exact f_ds hd.1) ?_
    refine lv_if_ne (tgt := 34) hx hb dL_areAlike_27 (by decide) (fun c_2 => ?_) (fun c_2 => ?_)
    · skip
      exact absurd (by decide) c_2
    · skip
      refine lv_iconst (v := 1) hx hb dL_areAlike_30 (by decide) ?_
      refine lv_goto (tgt := 35) hx hb dL_areAlike_31 (by decide) ?_
      refine lv_istore_n (lv' := [(3, .int 1), (0, .ref (ad 3 0)), (1, .ref (bd 3 0)), (2, .int (nI b))]) hx hb dL_areAlike_35 rfl hl (by decide) rfl (fun ls hl => ?_)
      refine lv_iconst (v := 2) hx hb dL_areAlike_36 (by decide) ?_
      refine lv_istore (lv' := [(4, .int 2), (3, .int 1), (0, .ref (ad 3 0)), (1, .ref (bd 3 0)), (2, .int (nI b))]) hx hb dL_areAlike_37 hl (by decide) rfl (fun ls hl => ?_)
      obtain ⟨hP, hD⟩ := zq_a4 hP hD
      have lp39 : ∀ (k : Nat) (i : Nat), (i ≤ 16) → (16 + 1 ≤ i + k) → (2 ≤ i) → ∀ (H : Heap) (locs : List Loc) (ls : Array Slot), va_P D vwCl ((((camW ad) ++ (macW cs (ad 0) S F)) ++ (macW cs (ad 1) TS TF)) ++ (((camW bd) ++ (macW cs (bd 0) V G)) ++ (macW cs (bd 1) TV TG))) H → va_D A ((((camW ad) ++ (macW cs (ad 0) S F)) ++ (macW cs (ad 1) TS TF)) ++ (((camW bd) ++ (macW cs (bd 0) V G)) ++ (macW cs (bd 1) TV TG))) → va_S A s.heap H locs → lv_has ls 6 [(0, .ref (ad 3 0)), (1, .ref (bd 3 0)), (2, .int (nI b)), (3, .int 1), (4, .int (nI i))] → W pq l eq ({ frames := 8, cells := 0, slots := 0, locals := 177 } : Room) s mq ([.ref (ad 3 0), .ref (bd 3 0), .int (nI b)] : List Value).toArray below meth cq H locs 0 0 (MQ below (zQe D cs (some (.int 1)) (alP cs ad bd S F V G) A) ([.ref (ad 3 0), .ref (bd 3 0), .int (nI b)] : List Value).toArray s 0 0 A) (F0 mq 39 ls []) := by
        intro k
        induction k with
        | zero =>
          intro i hi1 hi2 hi0 H locs ls hP hD hS hl
          omega
        | succ k ih =>
          intro i hi1 hi2 hi0 H locs ls hP hD hS hl
          refine lv_iload hx hb dL_areAlike_39 (lv_at hl 4 rfl) ?_
          refine lv_bipush (v := 16) hx hb dL_areAlike_41 (by decide) ?_
          refine lv_icmp_ge (tgt := 84) hx hb dL_areAlike_43 (by decide) (fun c_3 => ?_) (fun c_3 => ?_)
          · skip
            refine lv_iconst (v := 0) hx hb dL_areAlike_84 (by decide) ?_
            refine lv_istore (lv' := [(4, .int 0), (0, .ref (ad 3 0)), (1, .ref (bd 3 0)), (2, .int (nI b)), (3, .int 1)]) hx hb dL_areAlike_85 hl (by decide) rfl (fun ls hl => ?_)
            have lp87 : ∀ (k2 : Nat) (c : Nat) (ts : Nat → Int32) (tf : Nat → Nat → Int32) (tv : Nat → Int32) (tg : Nat → Nat → Int32), (c ≤ 5) → (5 + 1 ≤ c + k2) → ∀ (H : Heap) (locs : List Loc) (ls : Array Slot), va_P D vwCl ((((camW ad) ++ (macW cs (ad 0) S F)) ++ (macW cs (ad 1) ts tf)) ++ (((camW bd) ++ (macW cs (bd 0) V G)) ++ (macW cs (bd 1) tv tg))) H → va_D A ((((camW ad) ++ (macW cs (ad 0) S F)) ++ (macW cs (ad 1) ts tf)) ++ (((camW bd) ++ (macW cs (bd 0) V G)) ++ (macW cs (bd 1) tv tg))) → va_S A s.heap H locs → lv_has ls 6 [(0, .ref (ad 3 0)), (1, .ref (bd 3 0)), (2, .int (nI b)), (3, .int 1), (4, .int (nI c))] → W pq l eq ({ frames := 8, cells := 0, slots := 0, locals := 177 } : Room) s mq ([.ref (ad 3 0), .ref (bd 3 0), .int (nI b)] : List Value).toArray below meth cq H locs 0 0 (MQ below (zQe D cs (some (.int 1)) (alP cs ad bd S F V G) A) ([.ref (ad 3 0), .ref (bd 3 0), .int (nI b)] : List Value).toArray s 0 0 A) (F0 mq 87 ls []) := by
              intro k2
              induction k2 with
              | zero =>
                intro c ts tf tv tg hc1 hc2 H locs ls hP hD hS hl
                omega
              | succ k2 ih2 =>
                intro c ts tf tv tg hc1 hc2 H locs ls hP hD hS hl
                refine lv_iload hx hb dL_areAlike_87 (lv_at hl 4 rfl) ?_
                refine lv_iconst (v := 5) hx hb dL_areAlike_89 (by decide) ?_
                refine lv_icmp_ge (tgt := 169) hx hb dL_areAlike_90 (by decide) (fun c_4 => ?_) (fun c_4 => ?_)
                · skip
                  refine lv_iconst (v := 0) hx hb dL_areAlike_169 (by decide) ?_
                  refine lv_istore (lv' := [(4, .int 0), (0, .ref (ad 3 0)), (1, .ref (bd 3 0)), (2, .int (nI b)), (3, .int 1)]) hx hb dL_areAlike_170 hl (by decide) rfl (fun ls hl => ?_)
                  have lp172 : ∀ (k4 : Nat) (m : Nat), (m ≤ 8) → (8 + 1 ≤ m + k4) → ∀ (H : Heap) (locs : List Loc) (ls : Array Slot), va_P D vwCl ((((camW ad) ++ (macW cs (ad 0) S F)) ++ (macW cs (ad 1) ts tf)) ++ (((camW bd) ++ (macW cs (bd 0) V G)) ++ (macW cs (bd 1) tv tg))) H → va_D A ((((camW ad) ++ (macW cs (ad 0) S F)) ++ (macW cs (ad 1) ts tf)) ++ (((camW bd) ++ (macW cs (bd 0) V G)) ++ (macW cs (bd 1) tv tg))) → va_S A s.heap H locs → lv_has ls 6 [(0, .ref (ad 3 0)), (1, .ref (bd 3 0)), (2, .int (nI b)), (3, .int 1), (4, .int (nI m))] → W pq l eq ({ frames := 8, cells := 0, slots := 0, locals := 177 } : Room) s mq ([.ref (ad 3 0), .ref (bd 3 0), .int (nI b)] : List Value).toArray below meth cq H locs 0 0 (MQ below (zQe D cs (some (.int 1)) (alP cs ad bd S F V G) A) ([.ref (ad 3 0), .ref (bd 3 0), .int (nI b)] : List Value).toArray s 0 0 A) (F0 mq 172 ls []) := by
                    intro k4
                    induction k4 with
                    | zero =>
                      intro m hm1 hm2 H locs ls hP hD hS hl
                      omega
                    | succ k4 ih4 =>
                      intro m hm1 hm2 H locs ls hP hD hS hl
                      refine lv_iload hx hb dL_areAlike_172 (lv_at hl 4 rfl) ?_
                      refine lv_bipush (v := 8) hx hb dL_areAlike_174 (by decide) ?_
                      refine lv_icmp_ge (tgt := 281) hx hb dL_areAlike_176 (by decide) (fun c_5 => ?_) (fun c_5 => ?_)
                      · skip
                        refine lv_iload_n hx hb dL_areAlike_281 rfl (lv_at hl 3 rfl) ?_
                        refine lv_if_eq (tgt := 304) hx hb dL_areAlike_282 (by decide) (fun c_6 => ?_) (fun c_6 => ?_)
                        · skip
                          exact absurd c_6 (by decide)
                        · skip
                          refine lv_aload_n hx hb dL_areAlike_285 rfl (lv_at hl 0 rfl) ?_
                          refine lv_bipush (v := 20) hx hb dL_areAlike_286 (by decide) ?_
                          refine z_lawV ⟨hx, hb, hml, hown, hts⟩ zY_X7_leastCompressor w_im_yX7_leastCompressor w_se_yX7_leastCompressor w_ml_L_68 [.int 20] [] (c_X7_leastCompressor_ok l D cs ad S F ts tf 20 (by decide)) hE hK hA hP hD hS (z_la (z_la (z_lc _) (z_lm _ _ _ _ _ _)) (z_lm _ _ _ _ _ _)) 7 rfl rfl rfl rfl hl.1 (Nat.le_of_ble_eq_true rfl) ⟨Nat.le_of_ble_eq_true rfl, Nat.le_of_ble_eq_true rfl⟩ ⟨Nat.le_of_ble_eq_true rfl, Nat.le_of_ble_eq_true rfl⟩ dL_areAlike_288 (fun H locs hP hD hS => ?_)
                          refine lv_aload_n hx hb dL_areAlike_291 rfl (lv_at hl 1 rfl) ?_
                          refine lv_bipush (v := 20) hx hb dL_areAlike_292 (by decide) ?_
                          obtain ⟨hP, hD⟩ := zq_a5 hP hD
                          refine z_lawV ⟨hx, hb, hml, hown, hts⟩ zY_X7_leastCompressor w_im_yX7_leastCompressor w_se_yX7_leastCompressor w_ml_L_68 [.int 20] [.int (lcR (nN 20) S F 51 0)] (c_X7_leastCompressor_ok l D cs bd V G tv tg 20 (by decide)) hE hK hA hP hD hS (z_la (z_la (z_lc _) (z_lm _ _ _ _ _ _)) (z_lm _ _ _ _ _ _)) 7 rfl rfl rfl rfl hl.1 (Nat.le_of_ble_eq_true rfl) ⟨Nat.le_of_ble_eq_true rfl, Nat.le_of_ble_eq_true rfl⟩ ⟨Nat.le_of_ble_eq_true rfl, Nat.le_of_ble_eq_true rfl⟩ dL_areAlike_294 (fun H locs hP hD hS => ?_)
                          refine lv_icmp_ne (tgt := 304) hx hb dL_areAlike_297 (by decide) (fun c_7 => ?_) (fun c_7 => ?_)
                          · skip
                            exact absurd (rot_lc hb7 hd.2.2 _ 51 0).symm c_7
                          · skip
                            refine lv_iconst (v := 1) hx hb dL_areAlike_300 (by decide) ?_
                            refine lv_goto (tgt := 305) hx hb dL_areAlike_301 (by decide) ?_
                            obtain ⟨hP, hD⟩ := zq_a6 hP hD
                            exact z_zretE hx hb hr hlk hK hP hD hS dL_areAlike_305 rfl rfl ⟨((lcP (nN 20) S F 51 0 (ts, tf)).1), ((lcP (nN 20) S F 51 0 (ts, tf)).2), ((lcP (nN 20) V G 51 0 (tv, tg)).1), ((lcP (nN 20) V G 51 0 (tv, tg)).2), rfl⟩
                      · skip
                        have gm : m < 8 := z_geK (n := 8) rfl (by omega) hm1 c_5
                        refine lv_iload_n hx hb dL_areAlike_179 rfl (lv_at hl 3 rfl) ?_
                        refine lv_if_eq (tgt := 273) hx hb dL_areAlike_180 (by decide) (fun c_8 => ?_) (fun c_8 => ?_)
                        · skip
                          exact absurd c_8 (by decide)
                        · skip
                          refine lv_aload_n hx hb dL_areAlike_183 rfl (lv_at hl 0 rfl) ?_
                          refine lv_iload hx hb dL_areAlike_184 (lv_at hl 4 rfl) ?_
                          obtain ⟨hP, hD⟩ := zq_a1 hP hD
                          refine z_lawV ⟨hx, hb, hml, hown, hts⟩ zY_X7_skips w_im_yX7_skips w_se_yX7_skips w_ml_L_58 [.int (nI m)] [] (c_X7_skips_ok l D cs ad S F (nI m) (g_st (f_0 hd.1) gm)) hE hK hA hP hD hS (z_la (z_lc _) (z_lm _ _ _ _ _ _)) 7 rfl rfl rfl rfl hl.1 (Nat.le_of_ble_eq_true rfl) ⟨Nat.le_of_ble_eq_true rfl, Nat.le_of_ble_eq_true rfl⟩ ⟨Nat.le_of_ble_eq_true rfl, Nat.le_of_ble_eq_true rfl⟩ dL_areAlike_186 (fun H locs hP hD hS => ?_)
                          refine lv_aload_n hx hb dL_areAlike_189 rfl (lv_at hl 1 rfl) ?_
                          refine lv_iload hx hb dL_areAlike_190 (lv_at hl 4 rfl) ?_
                          refine lv_iload_n hx hb dL_areAlike_192 rfl (lv_at hl 2 rfl) ?_
                          refine lv_iadd hx hb dL_areAlike_193 ?_
                          refine z_top (y := nI (m + b)) (nI_add m b) ?_
                          refine lv_bipush (v := 8) hx hb dL_areAlike_194 (by decide) ?_
                          refine lv_irem hx hb dL_areAlike_196 (by decide) ?_
                          refine z_top (y := nI ((m + b) % 8)) (up_rem (a := m + b) (m := 8) (by omega) (by omega) (by omega)) ?_
                          obtain ⟨hP, hD⟩ := zq_a2 hP hD
                          refine z_lawV ⟨hx, hb, hml, hown, hts⟩ zY_X7_skips w_im_yX7_skips w_se_yX7_skips w_ml_L_58 [.int (nI ((m + b) % 8))] [.int (chtSk F (nI m))] (c_X7_skips_ok l D cs bd V G (nI ((m + b) % 8)) (g_st (f_0 hd.2.1) (by omega))) hE hK hA hP hD hS (z_la (z_lc _) (z_lm _ _ _ _ _ _)) 7 rfl rfl rfl rfl hl.1 (Nat.le_of_ble_eq_true rfl) ⟨Nat.le_of_ble_eq_true rfl, Nat.le_of_ble_eq_true rfl⟩ ⟨Nat.le_of_ble_eq_true rfl, Nat.le_of_ble_eq_true rfl⟩ dL_areAlike_197 (fun H locs hP hD hS => ?_)
                          refine lv_icmp_ne (tgt := 273) hx hb dL_areAlike_200 (by decide) (fun c_9 => ?_) (fun c_9 => ?_)
                          · skip
                            exact absurd (rot_sk hd.2.2 gm).symm c_9
                          · skip
                            refine lv_aload_n hx hb dL_areAlike_203 rfl (lv_at hl 0 rfl) ?_
                            refine lv_iconst (v := 0) hx hb dL_areAlike_204 (by decide) ?_
                            refine lv_iload hx hb dL_areAlike_205 (lv_at hl 4 rfl) ?_
                            obtain ⟨hP, hD⟩ := zq_a3 hP hD
                            refine z_lawV ⟨hx, hb, hml, hown, hts⟩ zY_X7_chart w_im_yX7_chart w_se_yX7_chart w_ml_L_61 [.int 0, .int (nI m)] [] (c_X7_chart_ok l D cs ad S F 0 (nI m) (by decide) (g_st (f_0 hd.1) gm)) hE hK hA hP hD hS (z_la (z_lc _) (z_lm _ _ _ _ _ _)) 7 rfl rfl rfl rfl hl.1 (Nat.le_of_ble_eq_true rfl) ⟨Nat.le_of_ble_eq_true rfl, Nat.le_of_ble_eq_true rfl⟩ ⟨Nat.le_of_ble_eq_true rfl, Nat.le_of_ble_eq_true rfl⟩ dL_areAlike_207 (fun H locs hP hD hS => ?_)
                            refine lv_aload_n hx hb dL_areAlike_210 rfl (lv_at hl 1 rfl) ?_
                            refine lv_iconst (v := 0) hx hb dL_areAlike_211 (by decide) ?_
                            refine lv_iload hx hb dL_areAlike_212 (lv_at hl 4 rfl) ?_
                            refine lv_iload_n hx hb dL_areAlike_214 rfl (lv_at hl 2 rfl) ?_
                            refine lv_iadd hx hb dL_areAlike_215 ?_
                            refine z_top (y := nI (m + b)) (nI_add m b) ?_
                            refine lv_bipush (v := 8) hx hb dL_areAlike_216 (by decide) ?_
                            refine lv_irem hx hb dL_areAlike_218 (by decide) ?_
                            refine z_top (y := nI ((m + b) % 8)) (up_rem (a := m + b) (m := 8) (by omega) (by omega) (by omega)) ?_
                            obtain ⟨hP, hD⟩ := zq_a2 hP hD
                            refine z_lawV ⟨hx, hb, hml, hown, hts⟩ zY_X7_chart w_im_yX7_chart w_se_yX7_chart w_ml_L_61 [.int 0, .int (nI ((m + b) % 8))] [.int (chtAt F 0 (nI m))] (c_X7_chart_ok l D cs bd V G 0 (nI ((m + b) % 8)) (by decide) (g_st (f_0 hd.2.1) (by omega))) hE hK hA hP hD hS (z_la (z_lc _) (z_lm _ _ _ _ _ _)) 7 rfl rfl rfl rfl hl.1 (Nat.le_of_ble_eq_true rfl) ⟨Nat.le_of_ble_eq_true rfl, Nat.le_of_ble_eq_true rfl⟩ ⟨Nat.le_of_ble_eq_true rfl, Nat.le_of_ble_eq_true rfl⟩ dL_areAlike_219 (fun H locs hP hD hS => ?_)
                            refine lv_icmp_ne (tgt := 273) hx hb dL_areAlike_222 (by decide) (fun c_10 => ?_) (fun c_10 => ?_)
                            · skip
                              exact absurd (rot_cht (c := 0) hd.2.2 (by omega) gm).symm c_10
                            · skip
                              refine lv_aload_n hx hb dL_areAlike_225 rfl (lv_at hl 0 rfl) ?_
                              refine lv_iconst (v := 4) hx hb dL_areAlike_226 (by decide) ?_
                              refine lv_iload hx hb dL_areAlike_227 (lv_at hl 4 rfl) ?_
                              obtain ⟨hP, hD⟩ := zq_a3 hP hD
                              refine z_lawV ⟨hx, hb, hml, hown, hts⟩ zY_X7_chart w_im_yX7_chart w_se_yX7_chart w_ml_L_61 [.int 4, .int (nI m)] [] (c_X7_chart_ok l D cs ad S F 4 (nI m) (by decide) (g_st (f_0 hd.1) gm)) hE hK hA hP hD hS (z_la (z_lc _) (z_lm _ _ _ _ _ _)) 7 rfl rfl rfl rfl hl.1 (Nat.le_of_ble_eq_true rfl) ⟨Nat.le_of_ble_eq_true rfl, Nat.le_of_ble_eq_true rfl⟩ ⟨Nat.le_of_ble_eq_true rfl, Nat.le_of_ble_eq_true rfl⟩ dL_areAlike_229 (fun H locs hP hD hS => ?_)
                              refine lv_aload_n hx hb dL_areAlike_232 rfl (lv_at hl 1 rfl) ?_
                              refine lv_iconst (v := 4) hx hb dL_areAlike_233 (by decide) ?_
                              refine lv_iload hx hb dL_areAlike_234 (lv_at hl 4 rfl) ?_
                              refine lv_iload_n hx hb dL_areAlike_236 rfl (lv_at hl 2 rfl) ?_
                              refine lv_iadd hx hb dL_areAlike_237 ?_
                              refine z_top (y := nI (m + b)) (nI_add m b) ?_
                              refine lv_bipush (v := 8) hx hb dL_areAlike_238 (by decide) ?_
                              refine lv_irem hx hb dL_areAlike_240 (by decide) ?_
                              refine z_top (y := nI ((m + b) % 8)) (up_rem (a := m + b) (m := 8) (by omega) (by omega) (by omega)) ?_
                              obtain ⟨hP, hD⟩ := zq_a2 hP hD
                              refine z_lawV ⟨hx, hb, hml, hown, hts⟩ zY_X7_chart w_im_yX7_chart w_se_yX7_chart w_ml_L_61 [.int 4, .int (nI ((m + b) % 8))] [.int (chtAt F 4 (nI m))] (c_X7_chart_ok l D cs bd V G 4 (nI ((m + b) % 8)) (by decide) (g_st (f_0 hd.2.1) (by omega))) hE hK hA hP hD hS (z_la (z_lc _) (z_lm _ _ _ _ _ _)) 7 rfl rfl rfl rfl hl.1 (Nat.le_of_ble_eq_true rfl) ⟨Nat.le_of_ble_eq_true rfl, Nat.le_of_ble_eq_true rfl⟩ ⟨Nat.le_of_ble_eq_true rfl, Nat.le_of_ble_eq_true rfl⟩ dL_areAlike_241 (fun H locs hP hD hS => ?_)
                              refine lv_icmp_ne (tgt := 273) hx hb dL_areAlike_244 (by decide) (fun c_11 => ?_) (fun c_11 => ?_)
                              · skip
                                exact absurd (rot_cht (c := 4) hd.2.2 (by omega) gm).symm c_11
                              · skip
                                refine lv_aload_n hx hb dL_areAlike_247 rfl (lv_at hl 0 rfl) ?_
                                refine lv_iconst (v := 2) hx hb dL_areAlike_248 (by decide) ?_
                                refine lv_iload hx hb dL_areAlike_249 (lv_at hl 4 rfl) ?_
                                obtain ⟨hP, hD⟩ := zq_a3 hP hD
                                refine z_lawV ⟨hx, hb, hml, hown, hts⟩ zY_X7_cam w_im_yX7_cam w_se_yX7_cam w_ml_L_64 [.int 2, .int (nI m)] [] (c_X7_cam_ok l D cs ad S F 2 (nI m) (by decide) (g_st (f_0 hd.1) gm)) hE hK hA hP hD hS (z_la (z_lc _) (z_lm _ _ _ _ _ _)) 7 rfl rfl rfl rfl hl.1 (Nat.le_of_ble_eq_true rfl) ⟨Nat.le_of_ble_eq_true rfl, Nat.le_of_ble_eq_true rfl⟩ ⟨Nat.le_of_ble_eq_true rfl, Nat.le_of_ble_eq_true rfl⟩ dL_areAlike_251 (fun H locs hP hD hS => ?_)
                                refine lv_aload_n hx hb dL_areAlike_254 rfl (lv_at hl 1 rfl) ?_
                                refine lv_iconst (v := 2) hx hb dL_areAlike_255 (by decide) ?_
                                refine lv_iload hx hb dL_areAlike_256 (lv_at hl 4 rfl) ?_
                                refine lv_iload_n hx hb dL_areAlike_258 rfl (lv_at hl 2 rfl) ?_
                                refine lv_iadd hx hb dL_areAlike_259 ?_
                                refine z_top (y := nI (m + b)) (nI_add m b) ?_
                                refine lv_bipush (v := 8) hx hb dL_areAlike_260 (by decide) ?_
                                refine lv_irem hx hb dL_areAlike_262 (by decide) ?_
                                refine z_top (y := nI ((m + b) % 8)) (up_rem (a := m + b) (m := 8) (by omega) (by omega) (by omega)) ?_
                                obtain ⟨hP, hD⟩ := zq_a2 hP hD
                                refine z_lawV ⟨hx, hb, hml, hown, hts⟩ zY_X7_cam w_im_yX7_cam w_se_yX7_cam w_ml_L_64 [.int 2, .int (nI ((m + b) % 8))] [.int (bI (hasC F (nN 2) (nI m)))] (c_X7_cam_ok l D cs bd V G 2 (nI ((m + b) % 8)) (by decide) (g_st (f_0 hd.2.1) (by omega))) hE hK hA hP hD hS (z_la (z_lc _) (z_lm _ _ _ _ _ _)) 7 rfl rfl rfl rfl hl.1 (Nat.le_of_ble_eq_true rfl) ⟨Nat.le_of_ble_eq_true rfl, Nat.le_of_ble_eq_true rfl⟩ ⟨Nat.le_of_ble_eq_true rfl, Nat.le_of_ble_eq_true rfl⟩ dL_areAlike_263 (fun H locs hP hD hS => ?_)
                                refine lv_icmp_ne (tgt := 273) hx hb dL_areAlike_266 (by decide) (fun c_12 => ?_) (fun c_12 => ?_)
                                · skip
                                  exact absurd (rot_cam hb7 (c := nN 2) hd.2.2 (by decide) gm).symm c_12
                                · skip
                                  refine lv_iconst (v := 1) hx hb dL_areAlike_269 (by decide) ?_
                                  refine lv_goto (tgt := 274) hx hb dL_areAlike_270 (by decide) ?_
                                  refine lv_istore_n (lv' := [(3, .int 1), (0, .ref (ad 3 0)), (1, .ref (bd 3 0)), (2, .int (nI b)), (4, .int (nI m))]) hx hb dL_areAlike_274 rfl hl (by decide) rfl (fun ls hl => ?_)
                                  refine lv_iinc (v := nI (m + 1)) (lv' := [(4, .int (nI (m + 1))), (3, .int 1), (0, .ref (ad 3 0)), (1, .ref (bd 3 0)), (2, .int (nI b))]) hx hb dL_areAlike_275 hl (k := 4) rfl (show nI m + Int32.ofInt 1 = nI (m + 1) from nI_add m 1) (by decide) rfl (fun ls hl => ?_)
                                  refine lv_goto (tgt := 172) hx hb dL_areAlike_278 (by decide) ?_
                                  obtain ⟨hP, hD⟩ := zq_a4 hP hD
                                  exact ih4 (m + 1) (by omega) (by omega) _ _ _ hP hD hS (lv_sub hl [2, 3, 4, 1, 0] rfl)
                  exact lp172 (8 + 1) 0 (by omega) (by omega) _ _ _ hP hD hS (lv_sub hl [1, 2, 3, 4, 0] rfl)
                · skip
                  have gc : c < 5 := z_geK (n := 5) rfl (by omega) hc1 c_4
                  refine lv_iconst (v := 0) hx hb dL_areAlike_93 (by decide) ?_
                  refine lv_istore (lv' := [(5, .int 0), (0, .ref (ad 3 0)), (1, .ref (bd 3 0)), (2, .int (nI b)), (3, .int 1), (4, .int (nI c))]) hx hb dL_areAlike_94 hl (by decide) rfl (fun ls hl => ?_)
                  have lp96 : ∀ (k3 : Nat) (j : Nat), (j ≤ 8) → (8 + 1 ≤ j + k3) → ∀ (H : Heap) (locs : List Loc) (ls : Array Slot), va_P D vwCl ((((camW ad) ++ (macW cs (ad 0) S F)) ++ (macW cs (ad 1) ts tf)) ++ (((camW bd) ++ (macW cs (bd 0) V G)) ++ (macW cs (bd 1) tv tg))) H → va_D A ((((camW ad) ++ (macW cs (ad 0) S F)) ++ (macW cs (ad 1) ts tf)) ++ (((camW bd) ++ (macW cs (bd 0) V G)) ++ (macW cs (bd 1) tv tg))) → va_S A s.heap H locs → lv_has ls 6 [(0, .ref (ad 3 0)), (1, .ref (bd 3 0)), (2, .int (nI b)), (3, .int 1), (4, .int (nI c)), (5, .int (nI j))] → W pq l eq ({ frames := 8, cells := 0, slots := 0, locals := 177 } : Room) s mq ([.ref (ad 3 0), .ref (bd 3 0), .int (nI b)] : List Value).toArray below meth cq H locs 0 0 (MQ below (zQe D cs (some (.int 1)) (alP cs ad bd S F V G) A) ([.ref (ad 3 0), .ref (bd 3 0), .int (nI b)] : List Value).toArray s 0 0 A) (F0 mq 96 ls []) := by
                    intro k3
                    induction k3 with
                    | zero =>
                      intro j hj1 hj2 H locs ls hP hD hS hl
                      omega
                    | succ k3 ih3 =>
                      intro j hj1 hj2 H locs ls hP hD hS hl
                      refine lv_iload hx hb dL_areAlike_96 (lv_at hl 5 rfl) ?_
                      refine lv_bipush (v := 8) hx hb dL_areAlike_98 (by decide) ?_
                      refine lv_icmp_ge (tgt := 138) hx hb dL_areAlike_100 (by decide) (fun c_13 => ?_) (fun c_13 => ?_)
                      · skip
                        refine lv_iload_n hx hb dL_areAlike_138 rfl (lv_at hl 3 rfl) ?_
                        refine lv_if_eq (tgt := 161) hx hb dL_areAlike_139 (by decide) (fun c_14 => ?_) (fun c_14 => ?_)
                        · skip
                          exact absurd c_14 (by decide)
                        · skip
                          refine lv_aload_n hx hb dL_areAlike_142 rfl (lv_at hl 0 rfl) ?_
                          refine lv_iload hx hb dL_areAlike_143 (lv_at hl 4 rfl) ?_
                          refine z_lawV ⟨hx, hb, hml, hown, hts⟩ zY_X7_ticksToOut w_im_yX7_ticksToOut w_se_yX7_ticksToOut w_ml_L_55 [.int (nI c)] [] (c_X7_ticksToOut_ok l D cs ad S F ts tf (nI c) (g_5 gc)) hE hK hA hP hD hS (z_la (z_la (z_lc _) (z_lm _ _ _ _ _ _)) (z_lm _ _ _ _ _ _)) 7 rfl rfl rfl rfl hl.1 (Nat.le_of_ble_eq_true rfl) ⟨Nat.le_of_ble_eq_true rfl, Nat.le_of_ble_eq_true rfl⟩ ⟨Nat.le_of_ble_eq_true rfl, Nat.le_of_ble_eq_true rfl⟩ dL_areAlike_145 (fun H locs hP hD hS => ?_)
                          refine z_top (y := toR c 501 0 (S, F)) (by rw [nN_nI (by omega)]) ?_
                          refine lv_aload_n hx hb dL_areAlike_148 rfl (lv_at hl 1 rfl) ?_
                          refine lv_iload hx hb dL_areAlike_149 (lv_at hl 4 rfl) ?_
                          obtain ⟨hP, hD⟩ := zq_a5 hP hD
                          refine z_lawV ⟨hx, hb, hml, hown, hts⟩ zY_X7_ticksToOut w_im_yX7_ticksToOut w_se_yX7_ticksToOut w_ml_L_55 [.int (nI c)] [.int (toR c 501 0 (S, F))] (c_X7_ticksToOut_ok l D cs bd V G tv tg (nI c) (g_5 gc)) hE hK hA hP hD hS (z_la (z_la (z_lc _) (z_lm _ _ _ _ _ _)) (z_lm _ _ _ _ _ _)) 7 rfl rfl rfl rfl hl.1 (Nat.le_of_ble_eq_true rfl) ⟨Nat.le_of_ble_eq_true rfl, Nat.le_of_ble_eq_true rfl⟩ ⟨Nat.le_of_ble_eq_true rfl, Nat.le_of_ble_eq_true rfl⟩ dL_areAlike_151 (fun H locs hP hD hS => ?_)
                          refine z_top (y := toR c 501 0 (V, G)) (by rw [nN_nI (by omega)]) ?_
                          refine lv_icmp_ne (tgt := 161) hx hb dL_areAlike_154 (by decide) (fun c_15 => ?_) (fun c_15 => ?_)
                          · skip
                            exact absurd (rot_to hb7 501 0 _ _ hd.2.2).symm c_15
                          · skip
                            refine lv_iconst (v := 1) hx hb dL_areAlike_157 (by decide) ?_
                            refine lv_goto (tgt := 162) hx hb dL_areAlike_158 (by decide) ?_
                            refine lv_istore_n (lv' := [(3, .int 1), (0, .ref (ad 3 0)), (1, .ref (bd 3 0)), (2, .int (nI b)), (4, .int (nI c)), (5, .int (nI j))]) hx hb dL_areAlike_162 rfl hl (by decide) rfl (fun ls hl => ?_)
                            refine lv_iinc (v := nI (c + 1)) (lv' := [(4, .int (nI (c + 1))), (3, .int 1), (0, .ref (ad 3 0)), (1, .ref (bd 3 0)), (2, .int (nI b)), (5, .int (nI j))]) hx hb dL_areAlike_163 hl (k := 4) rfl (show nI c + Int32.ofInt 1 = nI (c + 1) from nI_add c 1) (by decide) rfl (fun ls hl => ?_)
                            refine lv_goto (tgt := 87) hx hb dL_areAlike_166 (by decide) ?_
                            obtain ⟨hP, hD⟩ := zq_a6 hP hD
                            exact ih2 (c + 1) ((toP (nN (nI c)) 501 (S, F)).1) ((toP (nN (nI c)) 501 (S, F)).2) ((toP (nN (nI c)) 501 (V, G)).1) ((toP (nN (nI c)) 501 (V, G)).2) (by omega) (by omega) _ _ _ hP hD hS (lv_sub hl [2, 3, 4, 1, 0] rfl)
                      · skip
                        have gj : j < 8 := z_geK (n := 8) rfl (by omega) hj1 c_13
                        refine lv_iload_n hx hb dL_areAlike_103 rfl (lv_at hl 3 rfl) ?_
                        refine lv_if_eq (tgt := 130) hx hb dL_areAlike_104 (by decide) (fun c_16 => ?_) (fun c_16 => ?_)
                        · skip
                          exact absurd c_16 (by decide)
                        · skip
                          refine lv_aload_n hx hb dL_areAlike_107 rfl (lv_at hl 0 rfl) ?_
                          refine lv_iload hx hb dL_areAlike_108 (lv_at hl 4 rfl) ?_
                          refine lv_iload hx hb dL_areAlike_110 (lv_at hl 5 rfl) ?_
                          obtain ⟨hP, hD⟩ := zq_a1 hP hD
                          refine z_lawV ⟨hx, hb, hml, hown, hts⟩ zY_X7_cylinder w_im_yX7_cylinder w_se_yX7_cylinder w_ml_L_52 [.int (nI c), .int (nI j)] [] (c_X7_cylinder_ok l D cs ad S F (nI c) (nI j) (g_5 gc) (g_8 gj)) hE hK hA hP hD hS (z_la (z_lc _) (z_lm _ _ _ _ _ _)) 7 rfl rfl rfl rfl hl.1 (Nat.le_of_ble_eq_true rfl) ⟨Nat.le_of_ble_eq_true rfl, Nat.le_of_ble_eq_true rfl⟩ ⟨Nat.le_of_ble_eq_true rfl, Nat.le_of_ble_eq_true rfl⟩ dL_areAlike_112 (fun H locs hP hD hS => ?_)
                          refine z_top (y := cylN S F c j) (by rw [nN_nI (by omega), nN_nI (by omega)]) ?_
                          refine lv_aload_n hx hb dL_areAlike_115 rfl (lv_at hl 1 rfl) ?_
                          refine lv_iload hx hb dL_areAlike_116 (lv_at hl 4 rfl) ?_
                          refine lv_iload hx hb dL_areAlike_118 (lv_at hl 5 rfl) ?_
                          obtain ⟨hP, hD⟩ := zq_a2 hP hD
                          refine z_lawV ⟨hx, hb, hml, hown, hts⟩ zY_X7_cylinder w_im_yX7_cylinder w_se_yX7_cylinder w_ml_L_52 [.int (nI c), .int (nI j)] [.int (cylN S F c j)] (c_X7_cylinder_ok l D cs bd V G (nI c) (nI j) (g_5 gc) (g_8 gj)) hE hK hA hP hD hS (z_la (z_lc _) (z_lm _ _ _ _ _ _)) 7 rfl rfl rfl rfl hl.1 (Nat.le_of_ble_eq_true rfl) ⟨Nat.le_of_ble_eq_true rfl, Nat.le_of_ble_eq_true rfl⟩ ⟨Nat.le_of_ble_eq_true rfl, Nat.le_of_ble_eq_true rfl⟩ dL_areAlike_120 (fun H locs hP hD hS => ?_)
                          refine z_top (y := cylN V G c j) (by rw [nN_nI (by omega), nN_nI (by omega)]) ?_
                          refine lv_icmp_ne (tgt := 130) hx hb dL_areAlike_123 (by decide) (fun c_17 => ?_) (fun c_17 => ?_)
                          · skip
                            exact absurd (rot_cyl hb7 hd.2.2 gc gj).symm c_17
                          · skip
                            refine lv_iconst (v := 1) hx hb dL_areAlike_126 (by decide) ?_
                            refine lv_goto (tgt := 131) hx hb dL_areAlike_127 (by decide) ?_
                            refine lv_istore_n (lv' := [(3, .int 1), (0, .ref (ad 3 0)), (1, .ref (bd 3 0)), (2, .int (nI b)), (4, .int (nI c)), (5, .int (nI j))]) hx hb dL_areAlike_131 rfl hl (by decide) rfl (fun ls hl => ?_)
                            refine lv_iinc (v := nI (j + 1)) (lv' := [(5, .int (nI (j + 1))), (3, .int 1), (0, .ref (ad 3 0)), (1, .ref (bd 3 0)), (2, .int (nI b)), (4, .int (nI c))]) hx hb dL_areAlike_132 hl (k := 5) rfl (show nI j + Int32.ofInt 1 = nI (j + 1) from nI_add j 1) (by decide) rfl (fun ls hl => ?_)
                            refine lv_goto (tgt := 96) hx hb dL_areAlike_135 (by decide) ?_
                            obtain ⟨hP, hD⟩ := zq_a4 hP hD
                            exact ih3 (j + 1) (by omega) (by omega) _ _ _ hP hD hS (lv_sub hl [2, 3, 4, 1, 5, 0] rfl)
                  exact lp96 (8 + 1) 0 (by omega) (by omega) _ _ _ hP hD hS (lv_sub hl [1, 2, 3, 4, 5, 0] rfl)
            exact lp87 (5 + 1) 0 TS TF TV TG (by omega) (by omega) _ _ _ hP hD hS (lv_sub hl [1, 2, 3, 4, 0] rfl)
          · skip
            have gi : i < 16 := z_geK (n := 16) rfl (by omega) hi1 c_3
            refine lv_iload_n hx hb dL_areAlike_46 rfl (lv_at hl 3 rfl) ?_
            refine lv_if_eq (tgt := 76) hx hb dL_areAlike_47 (by decide) (fun c_18 => ?_) (fun c_18 => ?_)
            · skip
              exact absurd c_18 (by decide)
            · skip
              refine lv_iload hx hb dL_areAlike_50 (lv_at hl 4 rfl) ?_
              refine lv_bipush (v := 10) hx hb dL_areAlike_52 (by decide) ?_
              refine lv_icmp_eq (tgt := 72) hx hb dL_areAlike_54 (by decide) (fun c_19 => ?_) (fun c_19 => ?_)
              · skip
                refine lv_iconst (v := 1) hx hb dL_areAlike_72 (by decide) ?_
                refine lv_goto (tgt := 77) hx hb dL_areAlike_73 (by decide) ?_
                refine lv_istore_n (lv' := [(3, .int 1), (0, .ref (ad 3 0)), (1, .ref (bd 3 0)), (2, .int (nI b)), (4, .int (nI i))]) hx hb dL_areAlike_77 rfl hl (by decide) rfl (fun ls hl => ?_)
                refine lv_iinc (v := nI (i + 1)) (lv' := [(4, .int (nI (i + 1))), (3, .int 1), (0, .ref (ad 3 0)), (1, .ref (bd 3 0)), (2, .int (nI b))]) hx hb dL_areAlike_78 hl (k := 4) rfl (show nI i + Int32.ofInt 1 = nI (i + 1) from nI_add i 1) (by decide) rfl (fun ls hl => ?_)
                refine lv_goto (tgt := 39) hx hb dL_areAlike_81 (by decide) ?_
                exact ih (i + 1) (by omega) (by omega) (by omega) _ _ _ hP hD hS (lv_sub hl [2, 3, 4, 1, 0] rfl)
              · skip
                refine lv_aload_n hx hb dL_areAlike_57 rfl (lv_at hl 0 rfl) ?_
                refine lv_iload hx hb dL_areAlike_58 (lv_at hl 4 rfl) ?_
                obtain ⟨hP, hD⟩ := zq_a1 hP hD
                refine z_lawV ⟨hx, hb, hml, hown, hts⟩ zY_X7_value w_im_yX7_value w_se_yX7_value w_ml_L_31 [.int (nI i)] [] (c_X7_value_ok l D cs ad S F (nI i) (g_16 gi)) hE hK hA hP hD hS (z_la (z_lc _) (z_lm _ _ _ _ _ _)) 7 rfl rfl rfl rfl hl.1 (Nat.le_of_ble_eq_true rfl) ⟨Nat.le_of_ble_eq_true rfl, Nat.le_of_ble_eq_true rfl⟩ ⟨Nat.le_of_ble_eq_true rfl, Nat.le_of_ble_eq_true rfl⟩ dL_areAlike_60 (fun H locs hP hD hS => ?_)
                refine z_top (y := S i) (zv_l S i (by omega)) ?_
                refine lv_aload_n hx hb dL_areAlike_63 rfl (lv_at hl 1 rfl) ?_
                refine lv_iload hx hb dL_areAlike_64 (lv_at hl 4 rfl) ?_
                obtain ⟨hP, hD⟩ := zq_a2 hP hD
                refine z_lawV ⟨hx, hb, hml, hown, hts⟩ zY_X7_value w_im_yX7_value w_se_yX7_value w_ml_L_31 [.int (nI i)] [.int (S i)] (c_X7_value_ok l D cs bd V G (nI i) (g_16 gi)) hE hK hA hP hD hS (z_la (z_lc _) (z_lm _ _ _ _ _ _)) 7 rfl rfl rfl rfl hl.1 (Nat.le_of_ble_eq_true rfl) ⟨Nat.le_of_ble_eq_true rfl, Nat.le_of_ble_eq_true rfl⟩ ⟨Nat.le_of_ble_eq_true rfl, Nat.le_of_ble_eq_true rfl⟩ dL_areAlike_66 (fun H locs hP hD hS => ?_)
                refine z_top (y := V i) (zv_l V i (by omega)) ?_
                refine lv_icmp_ne (tgt := 76) hx hb dL_areAlike_69 (by decide) (fun c_20 => ?_) (fun c_20 => ?_)
                · skip
                  exact absurd (rS hd.2.2 i (by omega) (fun h => c_19 (by rw [h]; rfl))).symm c_20
                · skip
                  refine lv_iconst (v := 1) hx hb dL_areAlike_72 (by decide) ?_
                  refine lv_goto (tgt := 77) hx hb dL_areAlike_73 (by decide) ?_
                  refine lv_istore_n (lv' := [(3, .int 1), (0, .ref (ad 3 0)), (1, .ref (bd 3 0)), (2, .int (nI b)), (4, .int (nI i))]) hx hb dL_areAlike_77 rfl hl (by decide) rfl (fun ls hl => ?_)
                  refine lv_iinc (v := nI (i + 1)) (lv' := [(4, .int (nI (i + 1))), (3, .int 1), (0, .ref (ad 3 0)), (1, .ref (bd 3 0)), (2, .int (nI b))]) hx hb dL_areAlike_78 hl (k := 4) rfl (show nI i + Int32.ofInt 1 = nI (i + 1) from nI_add i 1) (by decide) rfl (fun ls hl => ?_)
                  refine lv_goto (tgt := 39) hx hb dL_areAlike_81 (by decide) ?_
                  obtain ⟨hP, hD⟩ := zq_a4 hP hD
                  exact ih (i + 1) (by omega) (by omega) (by omega) _ _ _ hP hD hS (lv_sub hl [2, 3, 4, 1, 0] rfl)
      exact lp39 (16 + 1) 2 (by omega) (by omega) (by omega) _ _ _ hP hD hS (lv_sub hl [2, 3, 4, 1, 0] rfl)
