
set_option maxHeartbeats 4000000 in
set_option maxRecDepth 100000 in
theorem c_L_value_ok (l : Launch) (D : va_G) (cs : zCs) (hfl : l.stackTraces = false) (ad : Nat → Nat → Nat) (S : Nat → Int32) (F : Nat → Nat → Int32) (wh : Int32) (o : Nat) (OL : Nat → Int64) (hx0 : (exT (0 ≤ wh ∧ wh ≤ 16 - 1) zIA none) = none) : zMw l D cs yL_value cL_value 4 (some FieldType.int) [((0), (9), (12), (19))] 8 124 1 6 [.ref (ad 3 0), .int wh, .ref o] ((camW ad) ++ (macW cs (ad 0) S F) ++ [(o, .inl (cs.2.1, 1, .inr (.inl OL)))]) (some (.int 0)) ((camW ad) ++ (macW cs (ad 0) S F) ++ [(o, .inl (cs.2.1, 1, .inr (.inl (vp_updL OL 0 (S (nN wh)).toInt64))))]) := by
  refine zMw.of (own := RL) (by decide) (Nat.le_of_ble_eq_true rfl) rfl ?_
  intro pq eq s mq below meth cq A ls hx hb hr hml hown hts hlk htab hE hK hA hP hD hS hl
  have hl : lv_has ls 4 [(0, .ref (ad 3 0)), (1, .int wh), (2, .ref o)] := hl
  refine lv_aload_n hx hb dL_value_0 rfl (lv_at hl 2 rfl) ?_
  refine lv_iconst (v := 0) hx hb dL_value_1 (by decide) ?_
  refine lv_aload_n hx hb dL_value_2 rfl (lv_at hl 0 rfl) ?_
  refine lv_iload_n hx hb dL_value_3 rfl (lv_at hl 1 rfl) ?_
  refine z_callVx (wn := ((camW ad) ++ (macW cs (ad 0) S F) ++ [(o, .inl (cs.2.1, 1, .inr (.inl OL)))])) ⟨hx, hb, hml, hown, hts⟩ zY_X7_value w_im_yX7_value w_se_yX7_value w_ml_L_54 [.int wh] [.int 0, .ref o] (c_X7_value l D cs hfl ad S F wh) hE hK hA hP hD hS [0, 1, 2, 3, 4, 5, 6, 7, 8, 9, 10, 11, 12, 13, 14, 15, 16, 17] rfl rfl rfl rfl 7 rfl rfl rfl rfl hl.1 (Nat.le_of_ble_eq_true rfl) ⟨Nat.le_of_ble_eq_true rfl, Nat.le_of_ble_eq_true rfl⟩ ⟨Nat.le_of_ble_eq_true rfl, Nat.le_of_ble_eq_true rfl⟩ dL_value_4 (fun E ce q9 H locs hex hP hD hS hce hcv hcl => absurd (hx0.symm.trans hex) (fun h => nomatch h)) (fun hex H locs hP hD hS => ?_)
  have x_1 := exT_none hex
  refine lv_i2l (v := (S (nN wh)).toInt64) hx hb dL_value_7 rfl ?_
  refine va_last hx hb hK hP hD hS 18 1 rfl rfl (vp_in_nI (n := 0) (N := 1) (by decide) (by decide)) dL_value_8 (fun H locs hP hD hS => ?_)
  have hP : va_P D vwCl ((camW ad) ++ (macW cs (ad 0) S F) ++ [(o, .inl (cs.2.1, 1, .inr (.inl (vp_updL OL 0 ((S (nN wh)).toInt64)))))]) H := hP
  have hD : va_D A ((camW ad) ++ (macW cs (ad 0) S F) ++ [(o, .inl (cs.2.1, 1, .inr (.inl (vp_updL OL 0 ((S (nN wh)).toInt64)))))]) := hD
  refine lv_goto (tgt := 15) hx hb dL_value_9 (by decide) ?_
  refine lv_iconst (v := 0) hx hb dL_value_15 (by decide) ?_
  exact z_iretW hx hb hr hlk hK hP hD hS dL_value_16 (Nat.le_of_ble_eq_true rfl) (Nat.le_of_ble_eq_true rfl) rfl rfl

set_option maxHeartbeats 4000000 in
set_option maxRecDepth 100000 in
theorem c_L_value_e1 (l : Launch) (D : va_G) (cs : zCs) (hfl : l.stackTraces = false) (ad : Nat → Nat → Nat) (S : Nat → Int32) (F : Nat → Nat → Int32) (wh : Int32) (o : Nat) (OL : Nat → Int64) (hx0 : (exT (0 ≤ wh ∧ wh ≤ 16 - 1) zIA none) = some zIA) : zMw l D cs yL_value cL_value 4 (some FieldType.int) [((0), (9), (12), (19))] 8 124 1 6 [.ref (ad 3 0), .int wh, .ref o] ((camW ad) ++ (macW cs (ad 0) S F) ++ [(o, .inl (cs.2.1, 1, .inr (.inl OL)))]) (some (.int 1)) ((camW ad) ++ (macW cs (ad 0) S F) ++ [(o, .inl (cs.2.1, 1, .inr (.inl OL)))]) := by
  refine zMw.of (own := RL) (by decide) (Nat.le_of_ble_eq_true rfl) rfl ?_
  intro pq eq s mq below meth cq A ls hx hb hr hml hown hts hlk htab hE hK hA hP hD hS hl
  have hl : lv_has ls 4 [(0, .ref (ad 3 0)), (1, .int wh), (2, .ref o)] := hl
  refine lv_aload_n hx hb dL_value_0 rfl (lv_at hl 2 rfl) ?_
  refine lv_iconst (v := 0) hx hb dL_value_1 (by decide) ?_
  refine lv_aload_n hx hb dL_value_2 rfl (lv_at hl 0 rfl) ?_
  refine lv_iload_n hx hb dL_value_3 rfl (lv_at hl 1 rfl) ?_
  refine z_callVx (wn := ((camW ad) ++ (macW cs (ad 0) S F) ++ [(o, .inl (cs.2.1, 1, .inr (.inl OL)))])) ⟨hx, hb, hml, hown, hts⟩ zY_X7_value w_im_yX7_value w_se_yX7_value w_ml_L_54 [.int wh] [.int 0, .ref o] (c_X7_value l D cs hfl ad S F wh) hE hK hA hP hD hS [0, 1, 2, 3, 4, 5, 6, 7, 8, 9, 10, 11, 12, 13, 14, 15, 16, 17] rfl rfl rfl rfl 7 rfl rfl rfl rfl hl.1 (Nat.le_of_ble_eq_true rfl) ⟨Nat.le_of_ble_eq_true rfl, Nat.le_of_ble_eq_true rfl⟩ ⟨Nat.le_of_ble_eq_true rfl, Nat.le_of_ble_eq_true rfl⟩ dL_value_4 (fun E ce q9 H locs hex hP hD hS hce hcv hcl => ?_) (fun hex H locs hP hD hS => ?_)
  · skip
    obtain rfl : zIA = E := Option.some.inj (hx0.symm.trans hex)
    refine z_catch hown hts hE htab [] ⟨0, 9, 12, 19⟩ [] rfl (fun z hz => by cases hz) (by decide) (by decide) w_cl_L_19 (List.mem_of_getElem? (i := 1) rfl) hce hcv hcl ?_
    refine W.eq (g2 := F0 mq 12 ls [.ref q9]) rfl ?_
    refine lv_astore_n (lv' := [(3, .ref q9), (0, .ref (ad 3 0)), (1, .int wh), (2, .ref o)]) hx hb dL_value_12 rfl hl (by decide) rfl (fun ls hl => ?_)
    refine lv_iconst (v := 1) hx hb dL_value_13 (by decide) ?_
    exact z_iretW hx hb hr hlk hK hP hD hS dL_value_14 (Nat.le_of_ble_eq_true rfl) (Nat.le_of_ble_eq_true rfl) rfl rfl
  · exact absurd (hx0.symm.trans hex) (fun h => nomatch h)

set_option maxHeartbeats 4000000 in
set_option maxRecDepth 100000 in
theorem c_L_cam_ok (l : Launch) (D : va_G) (cs : zCs) (hfl : l.stackTraces = false) (ad : Nat → Nat → Nat) (S : Nat → Int32) (F : Nat → Nat → Int32) (tr st : Int32) (o : Nat) (OL : Nat → Int64) (hx0 : (exT (0 ≤ tr ∧ tr ≤ 4) zIO (exT (0 ≤ st ∧ st ≤ (S 0) - 1) zIO none)) = none) : zMw l D cs yL_cam cL_cam 5 (some FieldType.int) [((0), (17), (20), (13))] 8 125 2 12 [.ref (ad 3 0), .int tr, .int st, .ref o] ((camW ad) ++ (macW cs (ad 0) S F) ++ [(o, .inl (cs.2.1, 1, .inr (.inl OL)))]) (some (.int 0)) ((camW ad) ++ (macW cs (ad 0) S F) ++ [(o, .inl (cs.2.1, 1, .inr (.inl (vp_updL OL 0 (bI (hasC F (nN tr) st)).toInt64))))]) := by
  refine zMw.of (own := RL) (by decide) (Nat.le_of_ble_eq_true rfl) rfl ?_
  intro pq eq s mq below meth cq A ls hx hb hr hml hown hts hlk htab hE hK hA hP hD hS hl
  have hl : lv_has ls 5 [(0, .ref (ad 3 0)), (1, .int tr), (2, .int st), (3, .ref o)] := hl
  refine lv_aload_n hx hb dL_cam_0 rfl (lv_at hl 3 rfl) ?_
  refine lv_iconst (v := 0) hx hb dL_cam_1 (by decide) ?_
  refine lv_aload_n hx hb dL_cam_2 rfl (lv_at hl 0 rfl) ?_
  refine lv_iload_n hx hb dL_cam_3 rfl (lv_at hl 1 rfl) ?_
  refine lv_iload_n hx hb dL_cam_4 rfl (lv_at hl 2 rfl) ?_
  refine z_callVx (wn := ((camW ad) ++ (macW cs (ad 0) S F) ++ [(o, .inl (cs.2.1, 1, .inr (.inl OL)))])) ⟨hx, hb, hml, hown, hts⟩ zY_X7_cam w_im_yX7_cam w_se_yX7_cam w_ml_L_44 [.int tr, .int st] [.int 0, .ref o] (c_X7_cam l D cs hfl ad S F tr st) hE hK hA hP hD hS [0, 1, 2, 3, 4, 5, 6, 7, 8, 9, 10, 11, 12, 13, 14, 15, 16, 17] rfl rfl rfl rfl 7 rfl rfl rfl rfl hl.1 (Nat.le_of_ble_eq_true rfl) ⟨Nat.le_of_ble_eq_true rfl, Nat.le_of_ble_eq_true rfl⟩ ⟨Nat.le_of_ble_eq_true rfl, Nat.le_of_ble_eq_true rfl⟩ dL_cam_5 (fun E ce q9 H locs hex hP hD hS hce hcv hcl => absurd (hx0.symm.trans hex) (fun h => nomatch h)) (fun hex H locs hP hD hS => ?_)
  have x_1 := exT_none hex
  refine lv_if_eq (tgt := 15) hx hb dL_cam_8 (by decide) (fun c_2 => ?_) (fun c_2 => ?_)
  · skip
    have c_2 := bI_0.mp c_2
    refine lv_lconst (v := 0) hx hb dL_cam_15 (by decide) ?_
    refine z_topl (y := (bI (hasC F (nN tr) st)).toInt64) (by rw [bI_f c_2]; rfl) ?_
    refine va_last hx hb hK hP hD hS 18 1 rfl rfl (vp_in_nI (n := 0) (N := 1) (by decide) (by decide)) dL_cam_16 (fun H locs hP hD hS => ?_)
    have hP : va_P D vwCl ((camW ad) ++ (macW cs (ad 0) S F) ++ [(o, .inl (cs.2.1, 1, .inr (.inl (vp_updL OL 0 ((bI (hasC F (nN tr) st)).toInt64)))))]) H := hP
    have hD : va_D A ((camW ad) ++ (macW cs (ad 0) S F) ++ [(o, .inl (cs.2.1, 1, .inr (.inl (vp_updL OL 0 ((bI (hasC F (nN tr) st)).toInt64)))))]) := hD
    refine lv_goto (tgt := 24) hx hb dL_cam_17 (by decide) ?_
    refine lv_iconst (v := 0) hx hb dL_cam_24 (by decide) ?_
    exact z_iretW hx hb hr hlk hK hP hD hS dL_cam_25 (Nat.le_of_ble_eq_true rfl) (Nat.le_of_ble_eq_true rfl) rfl rfl
  · skip
    have c_2 := bI_n0 c_2
    refine lv_lconst (v := 1) hx hb dL_cam_11 (by decide) ?_
    refine lv_goto (tgt := 16) hx hb dL_cam_12 (by decide) ?_
    refine z_topl (y := (bI (hasC F (nN tr) st)).toInt64) (by rw [bI_t c_2]; rfl) ?_
    refine va_last hx hb hK hP hD hS 18 1 rfl rfl (vp_in_nI (n := 0) (N := 1) (by decide) (by decide)) dL_cam_16 (fun H locs hP hD hS => ?_)
    have hP : va_P D vwCl ((camW ad) ++ (macW cs (ad 0) S F) ++ [(o, .inl (cs.2.1, 1, .inr (.inl (vp_updL OL 0 ((bI (hasC F (nN tr) st)).toInt64)))))]) H := hP
    have hD : va_D A ((camW ad) ++ (macW cs (ad 0) S F) ++ [(o, .inl (cs.2.1, 1, .inr (.inl (vp_updL OL 0 ((bI (hasC F (nN tr) st)).toInt64)))))]) := hD
    refine lv_goto (tgt := 24) hx hb dL_cam_17 (by decide) ?_
    refine lv_iconst (v := 0) hx hb dL_cam_24 (by decide) ?_
    exact z_iretW hx hb hr hlk hK hP hD hS dL_cam_25 (Nat.le_of_ble_eq_true rfl) (Nat.le_of_ble_eq_true rfl) rfl rfl

set_option maxHeartbeats 4000000 in
set_option maxRecDepth 100000 in
theorem c_L_cam_e1 (l : Launch) (D : va_G) (cs : zCs) (hfl : l.stackTraces = false) (ad : Nat → Nat → Nat) (S : Nat → Int32) (F : Nat → Nat → Int32) (tr st : Int32) (o : Nat) (OL : Nat → Int64) (hx0 : (exT (0 ≤ tr ∧ tr ≤ 4) zIO (exT (0 ≤ st ∧ st ≤ (S 0) - 1) zIO none)) = some zIO) : zMw l D cs yL_cam cL_cam 5 (some FieldType.int) [((0), (17), (20), (13))] 8 125 2 12 [.ref (ad 3 0), .int tr, .int st, .ref o] ((camW ad) ++ (macW cs (ad 0) S F) ++ [(o, .inl (cs.2.1, 1, .inr (.inl OL)))]) (some (.int 1)) ((camW ad) ++ (macW cs (ad 0) S F) ++ [(o, .inl (cs.2.1, 1, .inr (.inl OL)))]) := by
  refine zMw.of (own := RL) (by decide) (Nat.le_of_ble_eq_true rfl) rfl ?_
  intro pq eq s mq below meth cq A ls hx hb hr hml hown hts hlk htab hE hK hA hP hD hS hl
  have hl : lv_has ls 5 [(0, .ref (ad 3 0)), (1, .int tr), (2, .int st), (3, .ref o)] := hl
  refine lv_aload_n hx hb dL_cam_0 rfl (lv_at hl 3 rfl) ?_
  refine lv_iconst (v := 0) hx hb dL_cam_1 (by decide) ?_
  refine lv_aload_n hx hb dL_cam_2 rfl (lv_at hl 0 rfl) ?_
  refine lv_iload_n hx hb dL_cam_3 rfl (lv_at hl 1 rfl) ?_
  refine lv_iload_n hx hb dL_cam_4 rfl (lv_at hl 2 rfl) ?_
  refine z_callVx (wn := ((camW ad) ++ (macW cs (ad 0) S F) ++ [(o, .inl (cs.2.1, 1, .inr (.inl OL)))])) ⟨hx, hb, hml, hown, hts⟩ zY_X7_cam w_im_yX7_cam w_se_yX7_cam w_ml_L_44 [.int tr, .int st] [.int 0, .ref o] (c_X7_cam l D cs hfl ad S F tr st) hE hK hA hP hD hS [0, 1, 2, 3, 4, 5, 6, 7, 8, 9, 10, 11, 12, 13, 14, 15, 16, 17] rfl rfl rfl rfl 7 rfl rfl rfl rfl hl.1 (Nat.le_of_ble_eq_true rfl) ⟨Nat.le_of_ble_eq_true rfl, Nat.le_of_ble_eq_true rfl⟩ ⟨Nat.le_of_ble_eq_true rfl, Nat.le_of_ble_eq_true rfl⟩ dL_cam_5 (fun E ce q9 H locs hex hP hD hS hce hcv hcl => ?_) (fun hex H locs hP hD hS => ?_)
  · skip
    obtain rfl : zIO = E := Option.some.inj (hx0.symm.trans hex)
    refine z_catch hown hts hE htab [] ⟨0, 17, 20, 13⟩ [] rfl (fun z hz => by cases hz) (by decide) (by decide) w_cl_L_13 (List.mem_of_getElem? (i := 0) rfl) hce hcv hcl ?_
    refine W.eq (g2 := F0 mq 20 ls [.ref q9]) rfl ?_
    refine lv_astore (lv' := [(4, .ref q9), (0, .ref (ad 3 0)), (1, .int tr), (2, .int st), (3, .ref o)]) hx hb dL_cam_20 hl (by decide) rfl (fun ls hl => ?_)
    refine lv_iconst (v := 1) hx hb dL_cam_22 (by decide) ?_
    exact z_iretW hx hb hr hlk hK hP hD hS dL_cam_23 (Nat.le_of_ble_eq_true rfl) (Nat.le_of_ble_eq_true rfl) rfl rfl
  · exact absurd (hx0.symm.trans hex) (fun h => nomatch h)
