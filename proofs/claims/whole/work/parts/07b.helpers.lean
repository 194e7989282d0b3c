set_option maxHeartbeats 4000000 in
set_option maxRecDepth 100000 in
theorem c_L_cam_ok (l : Launch) (D : va_G) (cs : zCs) (hfl : l.stackTraces = false) (ad : Nat → Nat → Nat) (S : Nat → Int32) (F : Nat → Nat → Int32) (tr st : Int32) (o : Nat) (OL : Nat → Int64) (hx0 : (exT (0 ≤ tr ∧ tr ≤ 4) zIO (exT (0 ≤ st ∧ st ≤ (S 0) - 1) zIO none)) = none) : zMw l D cs yL_cam cL_cam 5 (some FieldType.int) [((0), (17), (20), (13))] 8 125 2 12 [.ref (ad 3 0), .int tr, .int st, .ref o] ((camW ad) ++ (macW cs (ad 0) S F) ++ [(o, .inl (cs.2.1, 1, .inr (.inl OL)))]) (some (.int 0)) ((camW ad) ++ (macW cs (ad 0) S F) ++ [(o, .inl (cs.2.1, 1, .inr (.inl (vp_updL OL 0 (bI (hasC F (nN tr) st)).toInt64))))]) := by
  refine zMw.of (own := RL) (by decide) (Nat.le_of_ble_eq_true rfl) rfl ?_
  intro pq eq s mq below meth cq A ls hx hb hr hml hown hts hlk htab hE hK hA hP hD hS hl
  have hl : lv_has ls 5 [(0, .ref (ad 3 0)), (1, .int tr), (2, .int st), (3, .ref o)] := hl
  refine lv_aload_n hx hb dL_cam_0 rfl (lv_at hl 3 rfl) ?_
  refine lv_iconst (v := 0) hx hb dL_cam_1 (by decide) ?_
  refine lv_aload_n hx hb dL_cam_2 rfl (lv_at hl 0 rfl) ?_
  refine lv_iload_n hx hb dL_cam_3 rfl (lv_at hl 1 rfl) ?_
  refine lv_iload_n hx hb dL_cam_4 rfl (lv_at hl 2 rfl) ?_
  refine z_callVx (wn := ((camW ad) ++ (macW cs (ad 0) S F) ++ [(o, .inl (cs.2.1, 1, .inr (.inl OL)))])) ⟨hx, hb, hml, hown, hts⟩ zY_X7_cam w_im_yX7_cam w_se_yX7_cam w_ml_L_44 [.int tr, .int st] [.int 0, .ref o] (c_X7_cam l D cs hfl ad S F tr st) hE hK hA hP hD hS [0, 1, 2, 3, 4, 5, 6, 7, 8, 9, 10, 11, 12, 13, 14, 15, 16, 17] rfl rfl rfl rfl 7 rfl rfl rfl rfl hl.1 (Nat.le_of_ble_eq_true rfl) ⟨Nat.le_of_ble_eq_true rfl, Nat.le_of_ble_eq_true rfl⟩ ⟨Nat.le_of_ble_eq_true rfl, Nat.le_of_ble_eq_true rfl⟩ dL_cam_5 (fun E ce q9 H locs hex hP hD hS hce hcv hcl => absurd (hx0.symm.trans hex) (fun h => nomatch h)) (fun hex H locs hP hD hS => ?_)
  have x_1 := exT_none hex
  refine lv_if_eq (tgt := 15) hx hb dL_cam_8 (by decide) (fun c_2 => ?_) (fun c_2 => ?_)
  · skip
    have c_2 := bI_0.mp c_2
    refine lv_lconst (v := 0) hx hb dL_cam_15 (by decide) ?_
    refine z_topl (y := (bI (hasC F (nN tr) st)).toInt64) (by rw [bI_f c_2]; rfl) ?_
    refine va_last hx hb hK hP hD hS 18 1 rfl rfl (vp_in_nI (n := 0) (N := 1) (by decide) (by decide)) dL_cam_16 (fun H locs hP hD hS => ?_)
    have hP : va_P D vwCl ((camW ad) ++ (macW cs (ad 0) S F) ++ [(o, .inl (cs.2.1, 1, .inr (.inl (vp_updL OL 0 ((bI (hasC F (nN tr) st)).toInt64)))))]) H := hP
    have hD : va_D A ((camW ad) ++ (macW cs (ad 0) S F) ++ [(o, .inl (cs.2.1, 1, .inr (.inl (vp_updL OL 0 ((bI (hasC F (nN tr) st)).toInt64)))))]) := hD
    refine lv_goto (tgt := 24) hx hb dL_cam_17 (by decide) ?_
    refine lv_iconst (v := 0) hx hb dL_cam_24 (by decide) ?_
    exact z_iretW hx hb hr hlk hK hP hD hS dL_cam_25 (Nat.le_of_ble_eq_true rfl) (Nat.le_of_ble_eq_true rfl) rfl rfl
  · skip
    have c_2 := bI_n0 c_2
    refine lv_lconst (v := 1) hx hb dL_cam_11 (by decide) ?_
    refine lv_goto (tgt := 16) hx hb dL_cam_12 (by decide) ?_
    refine z_topl (y := (bI (hasC F (nN tr) st)).toInt64) (by rw [bI_t c_2]; rfl) ?_
    refine va_last hx hb hK hP hD hS 18 1 rfl rfl (vp_in_nI (n := 0) (N := 1) (by decide) (by decide)) dL_cam_16 (fun H locs hP hD hS => ?_)
    have hP : va_P D vwCl ((camW ad) ++ (macW cs (ad 0) S F) ++ [(o, .inl (cs.2.1, 1, .inr (.inl (vp_updL OL 0 ((bI (hasC F (nN tr) st)).toInt64)))))]) H := hP
    have hD : va_D A ((camW ad) ++ (macW cs (ad 0) S F) ++ [(o, .inl (cs.2.1, 1, .inr (.inl (vp_updL OL 0 ((bI (hasC F (nN tr) st)).toInt64)))))]) := hD
    refine lv_goto (tgt := 24) hx hb dL_cam_17 (by decide) ?_
    refine lv_iconst (v := 0) hx hb dL_cam_24 (by decide) ?_
    exact z_iretW hx hb hr hlk hK hP hD hS dL_cam_25 (Nat.le_of_ble_eq_true rfl) (Nat.le_of_ble_eq_true rfl) rfl rfl

set_option maxHeartbeats 4000000 in
set_option maxRecDepth 100000 in
theorem c_L_cam_e1 (l : Launch) (D : va_G) (cs : zCs) (hfl : l.stackTraces = false) (ad : Nat → Nat → Nat) (S : Nat → Int32) (F : Nat → Nat → Int32) (tr st : Int32) (o : Nat) (OL : Nat → Int64) (hx0 : (exT (0 ≤ tr ∧ tr ≤ 4) zIO (exT (0 ≤ st ∧ st ≤ (S 0) - 1) zIO none)) = some zIO) : zMw l D cs yL_cam cL_cam 5 (some FieldType.int) [((0), (17), (20), (13))] 8 125 2 12 [.ref (ad 3 0), .int tr, .int st, .ref o] ((camW ad) ++ (macW cs (ad 0) S F) ++ [(o, .inl (cs.2.1, 1, .inr (.inl OL)))]) (some (.int 1)) ((camW ad) ++ (macW cs (ad 0) S F) ++ [(o, .inl (cs.2.1, 1, .inr (.inl OL)))]) := by
  refine zMw.of (own := RL) (by decide) (Nat.le_of_ble_eq_true rfl) rfl ?_
  intro pq eq s mq below meth cq A ls hx hb hr hml hown hts hlk htab hE hK hA hP hD hS hl
  have hl : lv_has ls 5 [(0, .ref (ad 3 0)), (1, .int tr), (2, .int st), (3, .ref o)] := hl
  refine lv_aload_n hx hb dL_cam_0 rfl (lv_at hl 3 rfl) ?_
  refine lv_iconst (v := 0) hx hb dL_cam_1 (by decide) ?_
  refine lv_aload_n hx hb dL_cam_2 rfl (lv_at hl 0 rfl) ?_
  refine lv_iload_n hx hb dL_cam_3 rfl (lv_at hl 1 rfl) ?_
  refine lv_iload_n hx hb dL_cam_4 rfl (lv_at hl 2 rfl) ?_
  refine z_callVx (wn := ((camW ad) ++ (macW cs (ad 0) S F) ++ [(o, .inl (cs.2.1, 1, .inr (.inl OL)))])) ⟨hx, hb, hml, hown, hts⟩ zY_X7_cam w_im_yX7_cam w_se_yX7_cam w_ml_L_44 [.int tr, .int st] [.int 0, .ref o] (c_X7_cam l D cs hfl ad S F tr st) hE hK hA hP hD hS [0, 1, 2, 3, 4, 5, 6, 7, 8, 9, 10, 11, 12, 13, 14, 15, 16, 17] rfl rfl rfl rfl 7 rfl rfl rfl rfl hl.1 (Nat.le_of_ble_eq_true rfl) ⟨Nat.le_of_ble_eq_true rfl, Nat.le_of_ble_eq_true rfl⟩ ⟨Nat.le_of_ble_eq_true rfl, Nat.le_of_ble_eq_true rfl⟩ dL_cam_5 (fun E ce q9 H locs hex hP hD hS hce hcv hcl => ?_) (fun hex H locs hP hD hS => ?_)
  · skip
    obtain rfl : zIO = E := Option.some.inj (hx0.symm.trans hex)
    refine z_catch hown hts hE htab [] ⟨0, 17, 20, 13⟩ [] rfl (fun z hz => by cases hz) (by decide) (by decide) w_cl_L_13 (List.mem_of_getElem? (i := 0) rfl) hce hcv hcl ?_
    refine W.eq (g2 := F0 mq 20 ls [.ref q9]) rfl ?_
    refine lv_astore (lv' := [(4, .ref q9), (0, .ref (ad 3 0)), (1, .int tr), (2, .int st), (3, .ref o)]) hx hb dL_cam_20 hl (by decide) rfl (fun ls hl => ?_)
    refine lv_iconst (v := 1) hx hb dL_cam_22 (by decide) ?_
    exact z_iretW hx hb hr hlk hK hP hD hS dL_cam_23 (Nat.le_of_ble_eq_true rfl) (Nat.le_of_ble_eq_true rfl) rfl rfl
  · exact absurd (hx0.symm.trans hex) (fun h => nomatch h)

set_option maxHeartbeats 4000000 in
set_option maxRecDepth 100000 in
theorem c_L_cylinder_ok (l : Launch) (D : va_G) (cs : zCs) (hfl : l.stackTraces = false) (ad : Nat → Nat → Nat) (S : Nat → Int32) (F : Nat → Nat → Int32) (cy wh : Int32) (o : Nat) (OL : Nat → Int64) (hx0 : (exT (0 ≤ cy ∧ cy ≤ 4) zIO (exT (0 ≤ wh ∧ wh ≤ 8 - 1) zIA none)) = none) : zMw l D cs yL_cylinder cL_cylinder 5 (some FieldType.int) [((0), (10), (13), (13)), ((0), (10), (17), (19))] 8 125 2 12 [.ref (ad 3 0), .int cy, .int wh, .ref o] ((camW ad) ++ (macW cs (ad 0) S F) ++ [(o, .inl (cs.2.1, 1, .inr (.inl OL)))]) (some (.int 0)) ((camW ad) ++ (macW cs (ad 0) S F) ++ [(o, .inl (cs.2.1, 1, .inr (.inl (vp_updL OL 0 (cylN S F (nN cy) (nN wh)).toInt64))))]) := by
  refine zMw.of (own := RL) (by decide) (Nat.le_of_ble_eq_true rfl) rfl ?_
  intro pq eq s mq below meth cq A ls hx hb hr hml hown hts hlk htab hE hK hA hP hD hS hl
  have hl : lv_has ls 5 [(0, .ref (ad 3 0)), (1, .int cy), (2, .int wh), (3, .ref o)] := hl
  refine lv_aload_n hx hb dL_cylinder_0 rfl (lv_at hl 3 rfl) ?_
  refine lv_iconst (v := 0) hx hb dL_cylinder_1 (by decide) ?_
  refine lv_aload_n hx hb dL_cylinder_2 rfl (lv_at hl 0 rfl) ?_
  refine lv_iload_n hx hb dL_cylinder_3 rfl (lv_at hl 1 rfl) ?_
  refine lv_iload_n hx hb dL_cylinder_4 rfl (lv_at hl 2 rfl) ?_
  refine z_callVx (wn := ((camW ad) ++ (macW cs (ad 0) S F) ++ [(o, .inl (cs.2.1, 1, .inr (.inl OL)))])) ⟨hx, hb, hml, hown, hts⟩ zY_X7_cylinder w_im_yX7_cylinder w_se_yX7_cylinder w_ml_L_48 [.int cy, .int wh] [.int 0, .ref o] (c_X7_cylinder l D cs hfl ad S F cy wh) hE hK hA hP hD hS [0, 1, 2, 3, 4, 5, 6, 7, 8, 9, 10, 11, 12, 13, 14, 15, 16, 17] rfl rfl rfl rfl 7 rfl rfl rfl rfl hl.1 (Nat.le_of_ble_eq_true rfl) ⟨Nat.le_of_ble_eq_true rfl, Nat.le_of_ble_eq_true rfl⟩ ⟨Nat.le_of_ble_eq_true rfl, Nat.le_of_ble_eq_true rfl⟩ dL_cylinder_5 (fun E ce q9 H locs hex hP hD hS hce hcv hcl => absurd (hx0.symm.trans hex) (fun h => nomatch h)) (fun hex H locs hP hD hS => ?_)
  have x_1 := exT_none hex
  refine lv_i2l (v := (cylN S F (nN cy) (nN wh)).toInt64) hx hb dL_cylinder_8 rfl ?_
  refine va_last hx hb hK hP hD hS 18 1 rfl rfl (vp_in_nI (n := 0) (N := 1) (by decide) (by decide)) dL_cylinder_9 (fun H locs hP hD hS => ?_)
  have hP : va_P D vwCl ((camW ad) ++ (macW cs (ad 0) S F) ++ [(o, .inl (cs.2.1, 1, .inr (.inl (vp_updL OL 0 ((cylN S F (nN cy) (nN wh)).toInt64)))))]) H := hP
  have hD : va_D A ((camW ad) ++ (macW cs (ad 0) S F) ++ [(o, .inl (cs.2.1, 1, .inr (.inl (vp_updL OL 0 ((cylN S F (nN cy) (nN wh)).toInt64)))))]) := hD
  refine lv_goto (tgt := 21) hx hb dL_cylinder_10 (by decide) ?_
  refine lv_iconst (v := 0) hx hb dL_cylinder_21 (by decide) ?_
  exact z_iretW hx hb hr hlk hK hP hD hS dL_cylinder_22 (Nat.le_of_ble_eq_true rfl) (Nat.le_of_ble_eq_true rfl) rfl rfl

set_option maxHeartbeats 4000000 in
set_option maxRecDepth 100000 in
theorem c_L_cylinder_e1 (l : Launch) (D : va_G) (cs : zCs) (hfl : l.stackTraces = false) (ad : Nat → Nat → Nat) (S : Nat → Int32) (F : Nat → Nat → Int32) (cy wh : Int32) (o : Nat) (OL : Nat → Int64) (hx0 : (exT (0 ≤ cy ∧ cy ≤ 4) zIO (exT (0 ≤ wh ∧ wh ≤ 8 - 1) zIA none)) = some zIO) : zMw l D cs yL_cylinder cL_cylinder 5 (some FieldType.int) [((0), (10), (13), (13)), ((0), (10), (17), (19))] 8 125 2 12 [.ref (ad 3 0), .int cy, .int wh, .ref o] ((camW ad) ++ (macW cs (ad 0) S F) ++ [(o, .inl (cs.2.1, 1, .inr (.inl OL)))]) (some (.int 1)) ((camW ad) ++ (macW cs (ad 0) S F) ++ [(o, .inl (cs.2.1, 1, .inr (.inl OL)))]) := by
  refine zMw.of (own := RL) (by decide) (Nat.le_of_ble_eq_true rfl) rfl ?_
  intro pq eq s mq below meth cq A ls hx hb hr hml hown hts hlk htab hE hK hA hP hD hS hl
  have hl : lv_has ls 5 [(0, .ref (ad 3 0)), (1, .int cy), (2, .int wh), (3, .ref o)] := hl
  refine lv_aload_n hx hb dL_cylinder_0 rfl (lv_at hl 3 rfl) ?_
  refine lv_iconst (v := 0) hx hb dL_cylinder_1 (by decide) ?_
  refine lv_aload_n hx hb dL_cylinder_2 rfl (lv_at hl 0 rfl) ?_
  refine lv_iload_n hx hb dL_cylinder_3 rfl (lv_at hl 1 rfl) ?_
  refine lv_iload_n hx hb dL_cylinder_4 rfl (lv_at hl 2 rfl) ?_
  refine z_callVx (wn := ((camW ad) ++ (macW cs (ad 0) S F) ++ [(o, .inl (cs.2.1, 1, .inr (.inl OL)))])) ⟨hx, hb, hml, hown, hts⟩ zY_X7_cylinder w_im_yX7_cylinder w_se_yX7_cylinder w_ml_L_48 [.int cy, .int wh] [.int 0, .ref o] (c_X7_cylinder l D cs hfl ad S F cy wh) hE hK hA hP hD hS [0, 1, 2, 3, 4, 5, 6, 7, 8, 9, 10, 11, 12, 13, 14, 15, 16, 17] rfl rfl rfl rfl 7 rfl rfl rfl rfl hl.1 (Nat.le_of_ble_eq_true rfl) ⟨Nat.le_of_ble_eq_true rfl, Nat.le_of_ble_eq_true rfl⟩ ⟨Nat.le_of_ble_eq_true rfl, Nat.le_of_ble_eq_true rfl⟩ dL_cylinder_5 (fun E ce q9 H locs hex hP hD hS hce hcv hcl => ?_) (fun hex H locs hP hD hS => ?_)
  · skip
    obtain rfl : zIO = E := Option.some.inj (hx0.symm.trans hex)
    refine z_catch hown hts hE htab [] ⟨0, 10, 13, 13⟩ [⟨0, 10, 17, 19⟩] rfl (fun z hz => by cases hz) (by decide) (by decide) w_cl_L_13 (List.mem_of_getElem? (i := 0) rfl) hce hcv hcl ?_
    refine W.eq (g2 := F0 mq 13 ls [.ref q9]) rfl ?_
    refine lv_astore (lv' := [(4, .ref q9), (0, .ref (ad 3 0)), (1, .int cy), (2, .int wh), (3, .ref o)]) hx hb dL_cylinder_13 hl (by decide) rfl (fun ls hl => ?_)
    refine lv_iconst (v := 1) hx hb dL_cylinder_15 (by decide) ?_
    exact z_iretW hx hb hr hlk hK hP hD hS dL_cylinder_16 (Nat.le_of_ble_eq_true rfl) (Nat.le_of_ble_eq_true rfl) rfl rfl
  · exact absurd (hx0.symm.trans hex) (fun h => nomatch h)

set_option maxHeartbeats 4000000 in
set_option maxRecDepth 100000 in
theorem c_L_cylinder_e2 (l : Launch) (D : va_G) (cs : zCs) (hfl : l.stackTraces = false) (ad : Nat → Nat → Nat) (S : Nat → Int32) (F : Nat → Nat → Int32) (cy wh : Int32) (o : Nat) (OL : Nat → Int64) (hx0 : (exT (0 ≤ cy ∧ cy ≤ 4) zIO (exT (0 ≤ wh ∧ wh ≤ 8 - 1) zIA none)) = some zIA) : zMw l D cs yL_cylinder cL_cylinder 5 (some FieldType.int) [((0), (10), (13), (13)), ((0), (10), (17), (19))] 8 125 2 12 [.ref (ad 3 0), .int cy, .int wh, .ref o] ((camW ad) ++ (macW cs (ad 0) S F) ++ [(o, .inl (cs.2.1, 1, .inr (.inl OL)))]) (some (.int 2)) ((camW ad) ++ (macW cs (ad 0) S F) ++ [(o, .inl (cs.2.1, 1, .inr (.inl OL)))]) := by
  refine zMw.of (own := RL) (by decide) (Nat.le_of_ble_eq_true rfl) rfl ?_
  intro pq eq s mq below meth cq A ls hx hb hr hml hown hts hlk htab hE hK hA hP hD hS hl
  have hl : lv_has ls 5 [(0, .ref (ad 3 0)), (1, .int cy), (2, .int wh), (3, .ref o)] := hl
  refine lv_aload_n hx hb dL_cylinder_0 rfl (lv_at hl 3 rfl) ?_
  refine lv_iconst (v := 0) hx hb dL_cylinder_1 (by decide) ?_
  refine lv_aload_n hx hb dL_cylinder_2 rfl (lv_at hl 0 rfl) ?_
  refine lv_iload_n hx hb dL_cylinder_3 rfl (lv_at hl 1 rfl) ?_
  refine lv_iload_n hx hb dL_cylinder_4 rfl (lv_at hl 2 rfl) ?_
  refine z_callVx (wn := ((camW ad) ++ (macW cs (ad 0) S F) ++ [(o, .inl (cs.2.1, 1, .inr (.inl OL)))])) ⟨hx, hb, hml, hown, hts⟩ zY_X7_cylinder w_im_yX7_cylinder w_se_yX7_cylinder w_ml_L_48 [.int cy, .int wh] [.int 0, .ref o] (c_X7_cylinder l D cs hfl ad S F cy wh) hE hK hA hP hD hS [0, 1, 2, 3, 4, 5, 6, 7, 8, 9, 10, 11, 12, 13, 14, 15, 16, 17] rfl rfl rfl rfl 7 rfl rfl rfl rfl hl.1 (Nat.le_of_ble_eq_true rfl) ⟨Nat.le_of_ble_eq_true rfl, Nat.le_of_ble_eq_true rfl⟩ ⟨Nat.le_of_ble_eq_true rfl, Nat.le_of_ble_eq_true rfl⟩ dL_cylinder_5 (fun E ce q9 H locs hex hP hD hS hce hcv hcl => ?_) (fun hex H locs hP hD hS => ?_)
  · skip
    obtain rfl : zIA = E := Option.some.inj (hx0.symm.trans hex)
    refine z_catch hown hts hE htab [⟨0, 10, 13, 13⟩] ⟨0, 10, 17, 19⟩ [] rfl (fun z hz => by rcases List.mem_cons.mp hz with rfl | hz; exact ⟨by decide, zIO, w_cl_L_13, List.mem_of_getElem? (i := 0) rfl⟩; cases hz) (by decide) (by decide) w_cl_L_19 (List.mem_of_getElem? (i := 1) rfl) hce hcv hcl ?_
    refine W.eq (g2 := F0 mq 17 ls [.ref q9]) rfl ?_
    refine lv_astore (lv' := [(4, .ref q9), (0, .ref (ad 3 0)), (1, .int cy), (2, .int wh), (3, .ref o)]) hx hb dL_cylinder_17 hl (by decide) rfl (fun ls hl => ?_)
    refine lv_iconst (v := 2) hx hb dL_cylinder_19 (by decide) ?_
    exact z_iretW hx hb hr hlk hK hP hD hS dL_cylinder_20 (Nat.le_of_ble_eq_true rfl) (Nat.le_of_ble_eq_true rfl) rfl rfl
  · exact absurd (hx0.symm.trans hex) (fun h => nomatch h)

set_option maxHeartbeats 4000000 in
set_option maxRecDepth 100000 in
theorem c_L_guard_ok (l : Launch) (D : va_G) (cs : zCs) (hfl : l.stackTraces = false) (ad : Nat → Nat → Nat) (S : Nat → Int32) (F : Nat → Nat → Int32) (g wh : Int32) (gn : Nat) (o : Nat) (OL : Nat → Int64) (hS8 : S 8 = nI gn) (hg4 : gn ≤ 4) (hx0 : (exT (0 ≤ g ∧ g ≤ zmin (S 8) 4 - 1) zIO (exT (0 ≤ wh ∧ wh ≤ 4 - 1) zIA none)) = none) : zMw l D cs yL_guard cL_guard 5 (some FieldType.int) [((0), (10), (13), (13)), ((0), (10), (17), (19))] 8 125 2 12 [.ref (ad 3 0), .int g, .int wh, .ref o] ((camW ad) ++ (macW cs (ad 0) S F) ++ [(o, .inl (cs.2.1, 1, .inr (.inl OL)))]) (some (.int 0)) ((camW ad) ++ (macW cs (ad 0) S F) ++ [(o, .inl (cs.2.1, 1, .inr (.inl (vp_updL OL 0 (grdN F (nN g) (nN wh)).toInt64))))]) := by
  refine zMw.of (own := RL) (by decide) (Nat.le_of_ble_eq_true rfl) rfl ?_
  intro pq eq s mq below meth cq A ls hx hb hr hml hown hts hlk htab hE hK hA hP hD hS hl
  have hl : lv_has ls 5 [(0, .ref (ad 3 0)), (1, .int g), (2, .int wh), (3, .ref o)] := hl
  refine lv_aload_n hx hb dL_guard_0 rfl (lv_at hl 3 rfl) ?_
  refine lv_iconst (v := 0) hx hb dL_guard_1 (by decide) ?_
  refine lv_aload_n hx hb dL_guard_2 rfl (lv_at hl 0 rfl) ?_
  refine lv_iload_n hx hb dL_guard_3 rfl (lv_at hl 1 rfl) ?_
  refine lv_iload_n hx hb dL_guard_4 rfl (lv_at hl 2 rfl) ?_
  refine z_callVx (wn := ((camW ad) ++ (macW cs (ad 0) S F) ++ [(o, .inl (cs.2.1, 1, .inr (.inl OL)))])) ⟨hx, hb, hml, hown, hts⟩ zY_X7_guard w_im_yX7_guard w_se_yX7_guard w_ml_L_51 [.int g, .int wh] [.int 0, .ref o] (c_X7_guard l D cs hfl ad S F g wh gn hS8 hg4) hE hK hA hP hD hS [0, 1, 2, 3, 4, 5, 6, 7, 8, 9, 10, 11, 12, 13, 14, 15, 16, 17] rfl rfl rfl rfl 7 rfl rfl rfl rfl hl.1 (Nat.le_of_ble_eq_true rfl) ⟨Nat.le_of_ble_eq_true rfl, Nat.le_of_ble_eq_true rfl⟩ ⟨Nat.le_of_ble_eq_true rfl, Nat.le_of_ble_eq_true rfl⟩ dL_guard_5 (fun E ce q9 H locs hex hP hD hS hce hcv hcl => absurd (hx0.symm.trans hex) (fun h => nomatch h)) (fun hex H locs hP hD hS => ?_)
  have x_1 := exT_none hex
  refine lv_i2l (v := (grdN F (nN g) (nN wh)).toInt64) hx hb dL_guard_8 rfl ?_
  refine va_last hx hb hK hP hD hS 18 1 rfl rfl (vp_in_nI (n := 0) (N := 1) (by decide) (by decide)) dL_guard_9 (fun H locs hP hD hS => ?_)
  have hP : va_P D vwCl ((camW ad) ++ (macW cs (ad 0) S F) ++ [(o, .inl (cs.2.1, 1, .inr (.inl (vp_updL OL 0 ((grdN F (nN g) (nN wh)).toInt64)))))]) H := hP
  have hD : va_D A ((camW ad) ++ (macW cs (ad 0) S F) ++ [(o, .inl (cs.2.1, 1, .inr (.inl (vp_updL OL 0 ((grdN F (nN g) (nN wh)).toInt64)))))]) := hD
  refine lv_goto (tgt := 21) hx hb dL_guard_10 (by decide) ?_
  refine lv_iconst (v := 0) hx hb dL_guard_21 (by decide) ?_
  exact z_iretW hx hb hr hlk hK hP hD hS dL_guard_22 (Nat.le_of_ble_eq_true rfl) (Nat.le_of_ble_eq_true rfl) rfl rfl

set_option maxHeartbeats 4000000 in
set_option maxRecDepth 100000 in
theorem c_L_guard_e1 (l : Launch) (D : va_G) (cs : zCs) (hfl : l.stackTraces = false) (ad : Nat → Nat → Nat) (S : Nat → Int32) (F : Nat → Nat → Int32) (g wh : Int32) (gn : Nat) (o : Nat) (OL : Nat → Int64) (hS8 : S 8 = nI gn) (hg4 : gn ≤ 4) (hx0 : (exT (0 ≤ g ∧ g ≤ zmin (S 8) 4 - 1) zIO (exT (0 ≤ wh ∧ wh ≤ 4 - 1) zIA none)) = some zIO) : zMw l D cs yL_guard cL_guard 5 (some FieldType.int) [((0), (10), (13), (13)), ((0), (10), (17), (19))] 8 125 2 12 [.ref (ad 3 0), .int g, .int wh, .ref o] ((camW ad) ++ (macW cs (ad 0) S F) ++ [(o, .inl (cs.2.1, 1, .inr (.inl OL)))]) (some (.int 1)) ((camW ad) ++ (macW cs (ad 0) S F) ++ [(o, .inl (cs.2.1, 1, .inr (.inl OL)))]) := by
  refine zMw.of (own := RL) (by decide) (Nat.le_of_ble_eq_true rfl) rfl ?_
  intro pq eq s mq below meth cq A ls hx hb hr hml hown hts hlk htab hE hK hA hP hD hS hl
  have hl : lv_has ls 5 [(0, .ref (ad 3 0)), (1, .int g), (2, .int wh), (3, .ref o)] := hl
  refine lv_aload_n hx hb dL_guard_0 rfl (lv_at hl 3 rfl) ?_
  refine lv_iconst (v := 0) hx hb dL_guard_1 (by decide) ?_
  refine lv_aload_n hx hb dL_guard_2 rfl (lv_at hl 0 rfl) ?_
  refine lv_iload_n hx hb dL_guard_3 rfl (lv_at hl 1 rfl) ?_
  refine lv_iload_n hx hb dL_guard_4 rfl (lv_at hl 2 rfl) ?_
  refine z_callVx (wn := ((camW ad) ++ (macW cs (ad 0) S F) ++ [(o, .inl (cs.2.1, 1, .inr (.inl OL)))])) ⟨hx, hb, hml, hown, hts⟩ zY_X7_guard w_im_yX7_guard w_se_yX7_guard w_ml_L_51 [.int g, .int wh] [.int 0, .ref o] (c_X7_guard l D cs hfl ad S F g wh gn hS8 hg4) hE hK hA hP hD hS [0, 1, 2, 3, 4, 5, 6, 7, 8, 9, 10, 11, 12, 13, 14, 15, 16, 17] rfl rfl rfl rfl 7 rfl rfl rfl rfl hl.1 (Nat.le_of_ble_eq_true rfl) ⟨Nat.le_of_ble_eq_true rfl, Nat.le_of_ble_eq_true rfl⟩ ⟨Nat.le_of_ble_eq_true rfl, Nat.le_of_ble_eq_true rfl⟩ dL_guard_5 (fun E ce q9 H locs hex hP hD hS hce hcv hcl => ?_) (fun hex H locs hP hD hS => ?_)
  · skip
    obtain rfl : zIO = E := Option.some.inj (hx0.symm.trans hex)
    refine z_catch hown hts hE htab [] ⟨0, 10, 13, 13⟩ [⟨0, 10, 17, 19⟩] rfl (fun z hz => by cases hz) (by decide) (by decide) w_cl_L_13 (List.mem_of_getElem? (i := 0) rfl) hce hcv hcl ?_
    refine W.eq (g2 := F0 mq 13 ls [.ref q9]) rfl ?_
    refine lv_astore (lv' := [(4, .ref q9), (0, .ref (ad 3 0)), (1, .int g), (2, .int wh), (3, .ref o)]) hx hb dL_guard_13 hl (by decide) rfl (fun ls hl => ?_)
    refine lv_iconst (v := 1) hx hb dL_guard_15 (by decide) ?_
    exact z_iretW hx hb hr hlk hK hP hD hS dL_guard_16 (Nat.le_of_ble_eq_true rfl) (Nat.le_of_ble_eq_true rfl) rfl rfl
  · exact absurd (hx0.symm.trans hex) (fun h => nomatch h)

set_option maxHeartbeats 4000000 in
set_option maxRecDepth 100000 in
theorem c_L_guard_e2 (l : Launch) (D : va_G) (cs : zCs) (hfl : l.stackTraces = false) (ad : Nat → Nat → Nat) (S : Nat → Int32) (F : Nat → Nat → Int32) (g wh : Int32) (gn : Nat) (o : Nat) (OL : Nat → Int64) (hS8 : S 8 = nI gn) (hg4 : gn ≤ 4) (hx0 : (exT (0 ≤ g ∧ g ≤ zmin (S 8) 4 - 1) zIO (exT (0 ≤ wh ∧ wh ≤ 4 - 1) zIA none)) = some zIA) : zMw l D cs yL_guard cL_guard 5 (some FieldType.int) [((0), (10), (13), (13)), ((0), (10), (17), (19))] 8 125 2 12 [.ref (ad 3 0), .int g, .int wh, .ref o] ((camW ad) ++ (macW cs (ad 0) S F) ++ [(o, .inl (cs.2.1, 1, .inr (.inl OL)))]) (some (.int 2)) ((camW ad) ++ (macW cs (ad 0) S F) ++ [(o, .inl (cs.2.1, 1, .inr (.inl OL)))]) := by
  refine zMw.of (own := RL) (by decide) (Nat.le_of_ble_eq_true rfl) rfl ?_
  intro pq eq s mq below meth cq A ls hx hb hr hml hown hts hlk htab hE hK hA hP hD hS hl
  have hl : lv_has ls 5 [(0, .ref (ad 3 0)), (1, .int g), (2, .int wh), (3, .ref o)] := hl
  refine lv_aload_n hx hb dL_guard_0 rfl (lv_at hl 3 rfl) ?_
  refine lv_iconst (v := 0) hx hb dL_guard_1 (by decide) ?_
  refine lv_aload_n hx hb dL_guard_2 rfl (lv_at hl 0 rfl) ?_
  refine lv_iload_n hx hb dL_guard_3 rfl (lv_at hl 1 rfl) ?_
  refine lv_iload_n hx hb dL_guard_4 rfl (lv_at hl 2 rfl) ?_
  refine z_callVx (wn := ((camW ad) ++ (macW cs (ad 0) S F) ++ [(o, .inl (cs.2.1, 1, .inr (.inl OL)))])) ⟨hx, hb, hml, hown, hts⟩ zY_X7_guard w_im_yX7_guard w_se_yX7_guard w_ml_L_51 [.int g, .int wh] [.int 0, .ref o] (c_X7_guard l D cs hfl ad S F g wh gn hS8 hg4) hE hK hA hP hD hS [0, 1, 2, 3, 4, 5, 6, 7, 8, 9, 10, 11, 12, 13, 14, 15, 16, 17] rfl rfl rfl rfl 7 rfl rfl rfl rfl hl.1 (Nat.le_of_ble_eq_true rfl) ⟨Nat.le_of_ble_eq_true rfl, Nat.le_of_ble_eq_true rfl⟩ ⟨Nat.le_of_ble_eq_true rfl, Nat.le_of_ble_eq_true rfl⟩ dL_guard_5 (fun E ce q9 H locs hex hP hD hS hce hcv hcl => ?_) (fun hex H locs hP hD hS => ?_)
  · skip
    obtain rfl : zIA = E := Option.some.inj (hx0.symm.trans hex)
    refine z_catch hown hts hE htab [⟨0, 10, 13, 13⟩] ⟨0, 10, 17, 19⟩ [] rfl (fun z hz => by rcases List.mem_cons.mp hz with rfl | hz; exact ⟨by decide, zIO, w_cl_L_13, List.mem_of_getElem? (i := 0) rfl⟩; cases hz) (by decide) (by decide) w_cl_L_19 (List.mem_of_getElem? (i := 1) rfl) hce hcv hcl ?_
    refine W.eq (g2 := F0 mq 17 ls [.ref q9]) rfl ?_
    refine lv_astore (lv' := [(4, .ref q9), (0, .ref (ad 3 0)), (1, .int g), (2, .int wh), (3, .ref o)]) hx hb dL_guard_17 hl (by decide) rfl (fun ls hl => ?_)
    refine lv_iconst (v := 2) hx hb dL_guard_19 (by decide) ?_
    exact z_iretW hx hb hr hlk hK hP hD hS dL_guard_20 (Nat.le_of_ble_eq_true rfl) (Nat.le_of_ble_eq_true rfl) rfl rfl
  · exact absurd (hx0.symm.trans hex) (fun h => nomatch h)

set_option maxHeartbeats 4000000 in
set_option maxRecDepth 100000 in
theorem c_L_value_ok (l : Launch) (D : va_G) (cs : zCs) (hfl : l.stackTraces = false) (ad : Nat → Nat → Nat) (S : Nat → Int32) (F : Nat → Nat → Int32) (wh : Int32) (o : Nat) (OL : Nat → Int64) (hx0 : (exT (0 ≤ wh ∧ wh ≤ 16 - 1) zIA none) = none) : zMw l D cs yL_value cL_value 4 (some FieldType.int) [((0), (9), (12), (19))] 8 124 1 6 [.ref (ad 3 0), .int wh, .ref o] ((camW ad) ++ (macW cs (ad 0) S F) ++ [(o, .inl (cs.2.1, 1, .inr (.inl OL)))]) (some (.int 0)) ((camW ad) ++ (macW cs (ad 0) S F) ++ [(o, .inl (cs.2.1, 1, .inr (.inl (vp_updL OL 0 (S (nN wh)).toInt64))))]) := by
  refine zMw.of (own := RL) (by decide) (Nat.le_of_ble_eq_true rfl) rfl ?_
  intro pq eq s mq below meth cq A ls hx hb hr hml hown hts hlk htab hE hK hA hP hD hS hl
  have hl : lv_has ls 4 [(0, .ref (ad 3 0)), (1, .int wh), (2, .ref o)] := hl
  refine lv_aload_n hx hb dL_value_0 rfl (lv_at hl 2 rfl) ?_
  refine lv_iconst (v := 0) hx hb dL_value_1 (by decide) ?_
  refine lv_aload_n hx hb dL_value_2 rfl (lv_at hl 0 rfl) ?_
  refine lv_iload_n hx hb dL_value_3 rfl (lv_at hl 1 rfl) ?_
  refine z_callVx (wn := ((camW ad) ++ (macW cs (ad 0) S F) ++ [(o, .inl (cs.2.1, 1, .inr (.inl OL)))])) ⟨hx, hb, hml, hown, hts⟩ zY_X7_value w_im_yX7_value w_se_yX7_value w_ml_L_54 [.int wh] [.int 0, .ref o] (c_X7_value l D cs hfl ad S F wh) hE hK hA hP hD hS [0, 1, 2, 3, 4, 5, 6, 7, 8, 9, 10, 11, 12, 13, 14, 15, 16, 17] rfl rfl rfl rfl 7 rfl rfl rfl rfl hl.1 (Nat.le_of_ble_eq_true rfl) ⟨Nat.le_of_ble_eq_true rfl, Nat.le_of_ble_eq_true rfl⟩ ⟨Nat.le_of_ble_eq_true rfl, Nat.le_of_ble_eq_true rfl⟩ dL_value_4 (fun E ce q9 H locs hex hP hD hS hce hcv hcl => absurd (hx0.symm.trans hex) (fun h => nomatch h)) (fun hex H locs hP hD hS => ?_)
  have x_1 := exT_none hex
  refine lv_i2l (v := (S (nN wh)).toInt64) hx hb dL_value_7 rfl ?_
  refine va_last hx hb hK hP hD hS 18 1 rfl rfl (vp_in_nI (n := 0) (N := 1) (by decide) (by decide)) dL_value_8 (fun H locs hP hD hS => ?_)
  have hP : va_P D vwCl ((camW ad) ++ (macW cs (ad 0) S F) ++ [(o, .inl (cs.2.1, 1, .inr (.inl (vp_updL OL 0 ((S (nN wh)).toInt64)))))]) H := hP
  have hD : va_D A ((camW ad) ++ (macW cs (ad 0) S F) ++ [(o, .inl (cs.2.1, 1, .inr (.inl (vp_updL OL 0 ((S (nN wh)).toInt64)))))]) := hD
  refine lv_goto (tgt := 15) hx hb dL_value_9 (by decide) ?_
  refine lv_iconst (v := 0) hx hb dL_value_15 (by decide) ?_
  exact z_iretW hx hb hr hlk hK hP hD hS dL_value_16 (Nat.le_of_ble_eq_true rfl) (Nat.le_of_ble_eq_true rfl) rfl rfl

set_option maxHeartbeats 4000000 in
set_option maxRecDepth 100000 in
theorem c_L_value_e1 (l : Launch) (D : va_G) (cs : zCs) (hfl : l.stackTraces = false) (ad : Nat → Nat → Nat) (S : Nat → Int32) (F : Nat → Nat → Int32) (wh : Int32) (o : Nat) (OL : Nat → Int64) (hx0 : (exT (0 ≤ wh ∧ wh ≤ 16 - 1) zIA none) = some zIA) : zMw l D cs yL_value cL_value 4 (some FieldType.int) [((0), (9), (12), (19))] 8 124 1 6 [.ref (ad 3 0), .int wh, .ref o] ((camW ad) ++ (macW cs (ad 0) S F) ++ [(o, .inl (cs.2.1, 1, .inr (.inl OL)))]) (some (.int 1)) ((camW ad) ++ (macW cs (ad 0) S F) ++ [(o, .inl (cs.2.1, 1, .inr (.inl OL)))]) := by
  refine zMw.of (own := RL) (by decide) (Nat.le_of_ble_eq_true rfl) rfl ?_
  intro pq eq s mq below meth cq A ls hx hb hr hml hown hts hlk htab hE hK hA hP hD hS hl
  have hl : lv_has ls 4 [(0, .ref (ad 3 0)), (1, .int wh), (2, .ref o)] := hl
  refine lv_aload_n hx hb dL_value_0 rfl (lv_at hl 2 rfl) ?_
  refine lv_iconst (v := 0) hx hb dL_value_1 (by decide) ?_
  refine lv_aload_n hx hb dL_value_2 rfl (lv_at hl 0 rfl) ?_
  refine lv_iload_n hx hb dL_value_3 rfl (lv_at hl 1 rfl) ?_
  refine z_callVx (wn := ((camW ad) ++ (macW cs (ad 0) S F) ++ [(o, .inl (cs.2.1, 1, .inr (.inl OL)))])) ⟨hx, hb, hml, hown, hts⟩ zY_X7_value w_im_yX7_value w_se_yX7_value w_ml_L_54 [.int wh] [.int 0, .ref o] (c_X7_value l D cs hfl ad S F wh) hE hK hA hP hD hS [0, 1, 2, 3, 4, 5, 6, 7, 8, 9, 10, 11, 12, 13, 14, 15, 16, 17] rfl rfl rfl rfl 7 rfl rfl rfl rfl hl.1 (Nat.le_of_ble_eq_true rfl) ⟨Nat.le_of_ble_eq_true rfl, Nat.le_of_ble_eq_true rfl⟩ ⟨Nat.le_of_ble_eq_true rfl, Nat.le_of_ble_eq_true rfl⟩ dL_value_4 (fun E ce q9 H locs hex hP hD hS hce hcv hcl => ?_) (fun hex H locs hP hD hS => ?_)
  · skip
    obtain rfl : zIA = E := Option.some.inj (hx0.symm.trans hex)
    refine z_catch hown hts hE htab [] ⟨0, 9, 12, 19⟩ [] rfl (fun z hz => by cases hz) (by decide) (by decide) w_cl_L_19 (List.mem_of_getElem? (i := 1) rfl) hce hcv hcl ?_
    refine W.eq (g2 := F0 mq 12 ls [.ref q9]) rfl ?_
    refine lv_astore_n (lv' := [(3, .ref q9), (0, .ref (ad 3 0)), (1, .int wh), (2, .ref o)]) hx hb dL_value_12 rfl hl (by decide) rfl (fun ls hl => ?_)
    refine lv_iconst (v := 1) hx hb dL_value_13 (by decide) ?_
    exact z_iretW hx hb hr hlk hK hP hD hS dL_value_14 (Nat.le_of_ble_eq_true rfl) (Nat.le_of_ble_eq_true rfl) rfl rfl
  · exact absurd (hx0.symm.trans hex) (fun h => nomatch h)

set_option maxHeartbeats 4000000 in
set_option maxRecDepth 100000 in
theorem c_L_chart_ok (l : Launch) (D : va_G) (cs : zCs) (hfl : l.stackTraces = false) (ad : Nat → Nat → Nat) (S : Nat → Int32) (F : Nat → Nat → Int32) (cy st : Int32) (o : Nat) (OL : Nat → Int64) (hx0 : (exT (0 ≤ cy ∧ cy ≤ 4) zIO (exT (0 ≤ st ∧ st ≤ (S 0) - 1) zIO none)) = none) : zMw l D cs yL_chart cL_chart 5 (some FieldType.int) [((0), (10), (13), (13))] 8 125 2 12 [.ref (ad 3 0), .int cy, .int st, .ref o] ((camW ad) ++ (macW cs (ad 0) S F) ++ [(o, .inl (cs.2.1, 1, .inr (.inl OL)))]) (some (.int 0)) ((camW ad) ++ (macW cs (ad 0) S F) ++ [(o, .inl (cs.2.1, 1, .inr (.inl (vp_updL OL 0 (chtAt F cy st).toInt64))))]) := by
  refine zMw.of (own := RL) (by decide) (Nat.le_of_ble_eq_true rfl) rfl ?_
  intro pq eq s mq below meth cq A ls hx hb hr hml hown hts hlk htab hE hK hA hP hD hS hl
  have hl : lv_has ls 5 [(0, .ref (ad 3 0)), (1, .int cy), (2, .int st), (3, .ref o)] := hl
  refine lv_aload_n hx hb dL_chart_0 rfl (lv_at hl 3 rfl) ?_
  refine lv_iconst (v := 0) hx hb dL_chart_1 (by decide) ?_
  refine lv_aload_n hx hb dL_chart_2 rfl (lv_at hl 0 rfl) ?_
  refine lv_iload_n hx hb dL_chart_3 rfl (lv_at hl 1 rfl) ?_
  refine lv_iload_n hx hb dL_chart_4 rfl (lv_at hl 2 rfl) ?_
  refine z_callVx (wn := ((camW ad) ++ (macW cs (ad 0) S F) ++ [(o, .inl (cs.2.1, 1, .inr (.inl OL)))])) ⟨hx, hb, hml, hown, hts⟩ zY_X7_chart w_im_yX7_chart w_se_yX7_chart w_ml_L_57 [.int cy, .int st] [.int 0, .ref o] (c_X7_chart l D cs hfl ad S F cy st) hE hK hA hP hD hS [0, 1, 2, 3, 4, 5, 6, 7, 8, 9, 10, 11, 12, 13, 14, 15, 16, 17] rfl rfl rfl rfl 7 rfl rfl rfl rfl hl.1 (Nat.le_of_ble_eq_true rfl) ⟨Nat.le_of_ble_eq_true rfl, Nat.le_of_ble_eq_true rfl⟩ ⟨Nat.le_of_ble_eq_true rfl, Nat.le_of_ble_eq_true rfl⟩ dL_chart_5 (fun E ce q9 H locs hex hP hD hS hce hcv hcl => absurd (hx0.symm.trans hex) (fun h => nomatch h)) (fun hex H locs hP hD hS => ?_)
  have x_1 := exT_none hex
  refine lv_i2l (v := (chtAt F cy st).toInt64) hx hb dL_chart_8 rfl ?_
  refine va_last hx hb hK hP hD hS 18 1 rfl rfl (vp_in_nI (n := 0) (N := 1) (by decide) (by decide)) dL_chart_9 (fun H locs hP hD hS => ?_)
  have hP : va_P D vwCl ((camW ad) ++ (macW cs (ad 0) S F) ++ [(o, .inl (cs.2.1, 1, .inr (.inl (vp_updL OL 0 ((chtAt F cy st).toInt64)))))]) H := hP
  have hD : va_D A ((camW ad) ++ (macW cs (ad 0) S F) ++ [(o, .inl (cs.2.1, 1, .inr (.inl (vp_updL OL 0 ((chtAt F cy st).toInt64)))))]) := hD
  refine lv_goto (tgt := 17) hx hb dL_chart_10 (by decide) ?_
  refine lv_iconst (v := 0) hx hb dL_chart_17 (by decide) ?_
  exact z_iretW hx hb hr hlk hK hP hD hS dL_chart_18 (Nat.le_of_ble_eq_true rfl) (Nat.le_of_ble_eq_true rfl) rfl rfl

set_option maxHeartbeats 4000000 in
set_option maxRecDepth 100000 in
theorem c_L_chart_e1 (l : Launch) (D : va_G) (cs : zCs) (hfl : l.stackTraces = false) (ad : Nat → Nat → Nat) (S : Nat → Int32) (F : Nat → Nat → Int32) (cy st : Int32) (o : Nat) (OL : Nat → Int64) (hx0 : (exT (0 ≤ cy ∧ cy ≤ 4) zIO (exT (0 ≤ st ∧ st ≤ (S 0) - 1) zIO none)) = some zIO) : zMw l D cs yL_chart cL_chart 5 (some FieldType.int) [((0), (10), (13), (13))] 8 125 2 12 [.ref (ad 3 0), .int cy, .int st, .ref o] ((camW ad) ++ (macW cs (ad 0) S F) ++ [(o, .inl (cs.2.1, 1, .inr (.inl OL)))]) (some (.int 1)) ((camW ad) ++ (macW cs (ad 0) S F) ++ [(o, .inl (cs.2.1, 1, .inr (.inl OL)))]) := by
  refine zMw.of (own := RL) (by decide) (Nat.le_of_ble_eq_true rfl) rfl ?_
  intro pq eq s mq below meth cq A ls hx hb hr hml hown hts hlk htab hE hK hA hP hD hS hl
  have hl : lv_has ls 5 [(0, .ref (ad 3 0)), (1, .int cy), (2, .int st), (3, .ref o)] := hl
  refine lv_aload_n hx hb dL_chart_0 rfl (lv_at hl 3 rfl) ?_
  refine lv_iconst (v := 0) hx hb dL_chart_1 (by decide) ?_
  refine lv_aload_n hx hb dL_chart_2 rfl (lv_at hl 0 rfl) ?_
  refine lv_iload_n hx hb dL_chart_3 rfl (lv_at hl 1 rfl) ?_
  refine lv_iload_n hx hb dL_chart_4 rfl (lv_at hl 2 rfl) ?_
  refine z_callVx (wn := ((camW ad) ++ (macW cs (ad 0) S F) ++ [(o, .inl (cs.2.1, 1, .inr (.inl OL)))])) ⟨hx, hb, hml, hown, hts⟩ zY_X7_chart w_im_yX7_chart w_se_yX7_chart w_ml_L_57 [.int cy, .int st] [.int 0, .ref o] (c_X7_chart l D cs hfl ad S F cy st) hE hK hA hP hD hS [0, 1, 2, 3, 4, 5, 6, 7, 8, 9, 10, 11, 12, 13, 14, 15, 16, 17] rfl rfl rfl rfl 7 rfl rfl rfl rfl hl.1 (Nat.le_of_ble_eq_true rfl) ⟨Nat.le_of_ble_eq_true rfl, Nat.le_of_ble_eq_true rfl⟩ ⟨Nat.le_of_ble_eq_true rfl, Nat.le_of_ble_eq_true rfl⟩ dL_chart_5 (fun E ce q9 H locs hex hP hD hS hce hcv hcl => ?_) (fun hex H locs hP hD hS => ?_)
  · skip
    obtain rfl : zIO = E := Option.some.inj (hx0.symm.trans hex)
    refine z_catch hown hts hE htab [] ⟨0, 10, 13, 13⟩ [] rfl (fun z hz => by cases hz) (by decide) (by decide) w_cl_L_13 (List.mem_of_getElem? (i := 0) rfl) hce hcv hcl ?_
    refine W.eq (g2 := F0 mq 13 ls [.ref q9]) rfl ?_
    refine lv_astore (lv' := [(4, .ref q9), (0, .ref (ad 3 0)), (1, .int cy), (2, .int st), (3, .ref o)]) hx hb dL_chart_13 hl (by decide) rfl (fun ls hl => ?_)
    refine lv_iconst (v := 1) hx hb dL_chart_15 (by decide) ?_
    exact z_iretW hx hb hr hlk hK hP hD hS dL_chart_16 (Nat.le_of_ble_eq_true rfl) (Nat.le_of_ble_eq_true rfl) rfl rfl
  · exact absurd (hx0.symm.trans hex) (fun h => nomatch h)

set_option maxHeartbeats 4000000 in
set_option maxRecDepth 100000 in
theorem c_L_skips_ok (l : Launch) (D : va_G) (cs : zCs) (hfl : l.stackTraces = false) (ad : Nat → Nat → Nat) (S : Nat → Int32) (F : Nat → Nat → Int32) (st : Int32) (o : Nat) (OL : Nat → Int64) (hx0 : (exT (0 ≤ st ∧ st ≤ (S 0) - 1) zIO none) = none) : zMw l D cs yL_skips cL_skips 4 (some FieldType.int) [((0), (9), (12), (13))] 8 124 1 6 [.ref (ad 3 0), .int st, .ref o] ((camW ad) ++ (macW cs (ad 0) S F) ++ [(o, .inl (cs.2.1, 1, .inr (.inl OL)))]) (some (.int 0)) ((camW ad) ++ (macW cs (ad 0) S F) ++ [(o, .inl (cs.2.1, 1, .inr (.inl (vp_updL OL 0 (chtSk F st).toInt64))))]) := by
  refine zMw.of (own := RL) (by decide) (Nat.le_of_ble_eq_true rfl) rfl ?_
  intro pq eq s mq below meth cq A ls hx hb hr hml hown hts hlk htab hE hK hA hP hD hS hl
  have hl : lv_has ls 4 [(0, .ref (ad 3 0)), (1, .int st), (2, .ref o)] := hl
  refine lv_aload_n hx hb dL_skips_0 rfl (lv_at hl 2 rfl) ?_
  refine lv_iconst (v := 0) hx hb dL_skips_1 (by decide) ?_
  refine lv_aload_n hx hb dL_skips_2 rfl (lv_at hl 0 rfl) ?_
  refine lv_iload_n hx hb dL_skips_3 rfl (lv_at hl 1 rfl) ?_
  refine z_callVx (wn := ((camW ad) ++ (macW cs (ad 0) S F) ++ [(o, .inl (cs.2.1, 1, .inr (.inl OL)))])) ⟨hx, hb, hml, hown, hts⟩ zY_X7_skips w_im_yX7_skips w_se_yX7_skips w_ml_L_60 [.int st] [.int 0, .ref o] (c_X7_skips l D cs hfl ad S F st) hE hK hA hP hD hS [0, 1, 2, 3, 4, 5, 6, 7, 8, 9, 10, 11, 12, 13, 14, 15, 16, 17] rfl rfl rfl rfl 7 rfl rfl rfl rfl hl.1 (Nat.le_of_ble_eq_true rfl) ⟨Nat.le_of_ble_eq_true rfl, Nat.le_of_ble_eq_true rfl⟩ ⟨Nat.le_of_ble_eq_true rfl, Nat.le_of_ble_eq_true rfl⟩ dL_skips_4 (fun E ce q9 H locs hex hP hD hS hce hcv hcl => absurd (hx0.symm.trans hex) (fun h => nomatch h)) (fun hex H locs hP hD hS => ?_)
  have x_1 := exT_none hex
  refine lv_i2l (v := (chtSk F st).toInt64) hx hb dL_skips_7 rfl ?_
  refine va_last hx hb hK hP hD hS 18 1 rfl rfl (vp_in_nI (n := 0) (N := 1) (by decide) (by decide)) dL_skips_8 (fun H locs hP hD hS => ?_)
  have hP : va_P D vwCl ((camW ad) ++ (macW cs (ad 0) S F) ++ [(o, .inl (cs.2.1, 1, .inr (.inl (vp_updL OL 0 ((chtSk F st).toInt64)))))]) H := hP
  have hD : va_D A ((camW ad) ++ (macW cs (ad 0) S F) ++ [(o, .inl (cs.2.1, 1, .inr (.inl (vp_updL OL 0 ((chtSk F st).toInt64)))))]) := hD
  refine lv_goto (tgt := 15) hx hb dL_skips_9 (by decide) ?_
  refine lv_iconst (v := 0) hx hb dL_skips_15 (by decide) ?_
  exact z_iretW hx hb hr hlk hK hP hD hS dL_skips_16 (Nat.le_of_ble_eq_true rfl) (Nat.le_of_ble_eq_true rfl) rfl rfl

set_option maxHeartbeats 4000000 in
set_option maxRecDepth 100000 in
theorem c_L_skips_e1 (l : Launch) (D : va_G) (cs : zCs) (hfl : l.stackTraces = false) (ad : Nat → Nat → Nat) (S : Nat → Int32) (F : Nat → Nat → Int32) (st : Int32) (o : Nat) (OL : Nat → Int64) (hx0 : (exT (0 ≤ st ∧ st ≤ (S 0) - 1) zIO none) = some zIO) : zMw l D cs yL_skips cL_skips 4 (some FieldType.int) [((0), (9), (12), (13))] 8 124 1 6 [.ref (ad 3 0), .int st, .ref o] ((camW ad) ++ (macW cs (ad 0) S F) ++ [(o, .inl (cs.2.1, 1, .inr (.inl OL)))]) (some (.int 1)) ((camW ad) ++ (macW cs (ad 0) S F) ++ [(o, .inl (cs.2.1, 1, .inr (.inl OL)))]) := by
  refine zMw.of (own := RL) (by decide) (Nat.le_of_ble_eq_true rfl) rfl ?_
  intro pq eq s mq below meth cq A ls hx hb hr hml hown hts hlk htab hE hK hA hP hD hS hl
  have hl : lv_has ls 4 [(0, .ref (ad 3 0)), (1, .int st), (2, .ref o)] := hl
  refine lv_aload_n hx hb dL_skips_0 rfl (lv_at hl 2 rfl) ?_
  refine lv_iconst (v := 0) hx hb dL_skips_1 (by decide) ?_
  refine lv_aload_n hx hb dL_skips_2 rfl (lv_at hl 0 rfl) ?_
  refine lv_iload_n hx hb dL_skips_3 rfl (lv_at hl 1 rfl) ?_
  refine z_callVx (wn := ((camW ad) ++ (macW cs (ad 0) S F) ++ [(o, .inl (cs.2.1, 1, .inr (.inl OL)))])) ⟨hx, hb, hml, hown, hts⟩ zY_X7_skips w_im_yX7_skips w_se_yX7_skips w_ml_L_60 [.int st] [.int 0, .ref o] (c_X7_skips l D cs hfl ad S F st) hE hK hA hP hD hS [0, 1, 2, 3, 4, 5, 6, 7, 8, 9, 10, 11, 12, 13, 14, 15, 16, 17] rfl rfl rfl rfl 7 rfl rfl rfl rfl hl.1 (Nat.le_of_ble_eq_true rfl) ⟨Nat.le_of_ble_eq_true rfl, Nat.le_of_ble_eq_true rfl⟩ ⟨Nat.le_of_ble_eq_true rfl, Nat.le_of_ble_eq_true rfl⟩ dL_skips_4 (fun E ce q9 H locs hex hP hD hS hce hcv hcl => ?_) (fun hex H locs hP hD hS => ?_)
  · skip
    obtain rfl : zIO = E := Option.some.inj (hx0.symm.trans hex)
    refine z_catch hown hts hE htab [] ⟨0, 9, 12, 13⟩ [] rfl (fun z hz => by cases hz) (by decide) (by decide) w_cl_L_13 (List.mem_of_getElem? (i := 0) rfl) hce hcv hcl ?_
    refine W.eq (g2 := F0 mq 12 ls [.ref q9]) rfl ?_
    refine lv_astore_n (lv' := [(3, .ref q9), (0, .ref (ad 3 0)), (1, .int st), (2, .ref o)]) hx hb dL_skips_12 rfl hl (by decide) rfl (fun ls hl => ?_)
    refine lv_iconst (v := 1) hx hb dL_skips_13 (by decide) ?_
    exact z_iretW hx hb hr hlk hK hP hD hS dL_skips_14 (Nat.le_of_ble_eq_true rfl) (Nat.le_of_ble_eq_true rfl) rfl rfl
  · exact absurd (hx0.symm.trans hex) (fun h => nomatch h)

set_option maxHeartbeats 4000000 in
set_option maxRecDepth 100000 in
theorem c_L_ticksToOut_ok (l : Launch) (D : va_G) (cs : zCs) (hfl : l.stackTraces = false) (ad : Nat → Nat → Nat) (S : Nat → Int32) (F : Nat → Nat → Int32) (TS : Nat → Int32) (TF : Nat → Nat → Int32) (cy : Int32) (o : Nat) (OL : Nat → Int64) (hx0 : (exT (0 ≤ cy ∧ cy ≤ 4) zIO none) = none) : zMw l D cs yL_ticksToOut cL_ticksToOut 4 (some FieldType.int) [((0), (9), (12), (13))] 8 154 1 6 [.ref (ad 3 0), .int cy, .ref o] ((camW ad) ++ (macW cs (ad 0) S F) ++ (macW cs (ad 1) TS TF) ++ [(o, .inl (cs.2.1, 1, .inr (.inl OL)))]) (some (.int 0)) ((camW ad) ++ (macW cs (ad 0) S F) ++ (macW cs (ad 1) ((toP (nN cy) 501 (S, F)).1) ((toP (nN cy) 501 (S, F)).2)) ++ [(o, .inl (cs.2.1, 1, .inr (.inl (vp_updL OL 0 (toR (nN cy) 501 0 (S, F)).toInt64))))]) := by
  refine zMw.of (own := RL) (by decide) (Nat.le_of_ble_eq_true rfl) rfl ?_
  intro pq eq s mq below meth cq A ls hx hb hr hml hown hts hlk htab hE hK hA hP hD hS hl
  have hl : lv_has ls 4 [(0, .ref (ad 3 0)), (1, .int cy), (2, .ref o)] := hl
  refine lv_aload_n hx hb dL_ticksToOut_0 rfl (lv_at hl 2 rfl) ?_
  refine lv_iconst (v := 0) hx hb dL_ticksToOut_1 (by decide) ?_
  refine lv_aload_n hx hb dL_ticksToOut_2 rfl (lv_at hl 0 rfl) ?_
  refine lv_iload_n hx hb dL_ticksToOut_3 rfl (lv_at hl 1 rfl) ?_
  refine z_callVx (wn := ((camW ad) ++ (macW cs (ad 0) S F) ++ (macW cs (ad 1) ((toP (nN cy) 501 (S, F)).1) ((toP (nN cy) 501 (S, F)).2)) ++ [(o, .inl (cs.2.1, 1, .inr (.inl OL)))])) ⟨hx, hb, hml, hown, hts⟩ zY_X7_ticksToOut w_im_yX7_ticksToOut w_se_yX7_ticksToOut w_ml_L_63 [.int cy] [.int 0, .ref o] (c_X7_ticksToOut l D cs hfl ad S F TS TF cy) hE hK hA hP hD hS [0, 1, 2, 3, 4, 5, 6, 7, 8, 9, 10, 11, 12, 13, 14, 15, 16, 17, 18, 19, 20, 21, 22, 23, 24, 25, 26, 27, 28, 29, 30, 31, 32, 33, 34] rfl rfl rfl rfl 7 rfl rfl rfl rfl hl.1 (Nat.le_of_ble_eq_true rfl) ⟨Nat.le_of_ble_eq_true rfl, Nat.le_of_ble_eq_true rfl⟩ ⟨Nat.le_of_ble_eq_true rfl, Nat.le_of_ble_eq_true rfl⟩ dL_ticksToOut_4 (fun E ce q9 H locs hex hP hD hS hce hcv hcl => absurd (hx0.symm.trans hex) (fun h => nomatch h)) (fun hex H locs hP hD hS => ?_)
  have x_1 := exT_none hex
  refine lv_i2l (v := (toR (nN cy) 501 0 (S, F)).toInt64) hx hb dL_ticksToOut_7 rfl ?_
  refine va_last hx hb hK hP hD hS 35 1 rfl rfl (vp_in_nI (n := 0) (N := 1) (by decide) (by decide)) dL_ticksToOut_8 (fun H locs hP hD hS => ?_)
  have hP : va_P D vwCl ((camW ad) ++ (macW cs (ad 0) S F) ++ (macW cs (ad 1) ((toP (nN cy) 501 (S, F)).1) ((toP (nN cy) 501 (S, F)).2)) ++ [(o, .inl (cs.2.1, 1, .inr (.inl (vp_updL OL 0 ((toR (nN cy) 501 0 (S, F)).toInt64)))))]) H := hP
  have hD : va_D A ((camW ad) ++ (macW cs (ad 0) S F) ++ (macW cs (ad 1) ((toP (nN cy) 501 (S, F)).1) ((toP (nN cy) 501 (S, F)).2)) ++ [(o, .inl (cs.2.1, 1, .inr (.inl (vp_updL OL 0 ((toR (nN cy) 501 0 (S, F)).toInt64)))))]) := hD
  refine lv_goto (tgt := 15) hx hb dL_ticksToOut_9 (by decide) ?_
  refine lv_iconst (v := 0) hx hb dL_ticksToOut_15 (by decide) ?_
  exact z_iretW hx hb hr hlk hK hP hD hS dL_ticksToOut_16 (Nat.le_of_ble_eq_true rfl) (Nat.le_of_ble_eq_true rfl) rfl rfl

set_option maxHeartbeats 4000000 in
set_option maxRecDepth 100000 in
theorem c_L_ticksToOut_e1 (l : Launch) (D : va_G) (cs : zCs) (hfl : l.stackTraces = false) (ad : Nat → Nat → Nat) (S : Nat → Int32) (F : Nat → Nat → Int32) (TS : Nat → Int32) (TF : Nat → Nat → Int32) (cy : Int32) (o : Nat) (OL : Nat → Int64) (hx0 : (exT (0 ≤ cy ∧ cy ≤ 4) zIO none) = some zIO) : zMw l D cs yL_ticksToOut cL_ticksToOut 4 (some FieldType.int) [((0), (9), (12), (13))] 8 154 1 6 [.ref (ad 3 0), .int cy, .ref o] ((camW ad) ++ (macW cs (ad 0) S F) ++ (macW cs (ad 1) TS TF) ++ [(o, .inl (cs.2.1, 1, .inr (.inl OL)))]) (some (.int 1)) ((camW ad) ++ (macW cs (ad 0) S F) ++ (macW cs (ad 1) TS TF) ++ [(o, .inl (cs.2.1, 1, .inr (.inl OL)))]) := by
  refine zMw.of (own := RL) (by decide) (Nat.le_of_ble_eq_true rfl) rfl ?_
  intro pq eq s mq below meth cq A ls hx hb hr hml hown hts hlk htab hE hK hA hP hD hS hl
  have hl : lv_has ls 4 [(0, .ref (ad 3 0)), (1, .int cy), (2, .ref o)] := hl
  refine lv_aload_n hx hb dL_ticksToOut_0 rfl (lv_at hl 2 rfl) ?_
  refine lv_iconst (v := 0) hx hb dL_ticksToOut_1 (by decide) ?_
  refine lv_aload_n hx hb dL_ticksToOut_2 rfl (lv_at hl 0 rfl) ?_
  refine lv_iload_n hx hb dL_ticksToOut_3 rfl (lv_at hl 1 rfl) ?_
  refine z_callVx (wn := ((camW ad) ++ (macW cs (ad 0) S F) ++ (macW cs (ad 1) ((toP (nN cy) 501 (S, F)).1) ((toP (nN cy) 501 (S, F)).2)) ++ [(o, .inl (cs.2.1, 1, .inr (.inl OL)))])) ⟨hx, hb, hml, hown, hts⟩ zY_X7_ticksToOut w_im_yX7_ticksToOut w_se_yX7_ticksToOut w_ml_L_63 [.int cy] [.int 0, .ref o] (c_X7_ticksToOut l D cs hfl ad S F TS TF cy) hE hK hA hP hD hS [0, 1, 2, 3, 4, 5, 6, 7, 8, 9, 10, 11, 12, 13, 14, 15, 16, 17, 18, 19, 20, 21, 22, 23, 24, 25, 26, 27, 28, 29, 30, 31, 32, 33, 34] rfl rfl rfl rfl 7 rfl rfl rfl rfl hl.1 (Nat.le_of_ble_eq_true rfl) ⟨Nat.le_of_ble_eq_true rfl, Nat.le_of_ble_eq_true rfl⟩ ⟨Nat.le_of_ble_eq_true rfl, Nat.le_of_ble_eq_true rfl⟩ dL_ticksToOut_4 (fun E ce q9 H locs hex hP hD hS hce hcv hcl => ?_) (fun hex H locs hP hD hS => ?_)
  · skip
    obtain rfl : zIO = E := Option.some.inj (hx0.symm.trans hex)
    refine z_catch hown hts hE htab [] ⟨0, 9, 12, 13⟩ [] rfl (fun z hz => by cases hz) (by decide) (by decide) w_cl_L_13 (List.mem_of_getElem? (i := 0) rfl) hce hcv hcl ?_
    refine W.eq (g2 := F0 mq 12 ls [.ref q9]) rfl ?_
    refine lv_astore_n (lv' := [(3, .ref q9), (0, .ref (ad 3 0)), (1, .int cy), (2, .ref o)]) hx hb dL_ticksToOut_12 rfl hl (by decide) rfl (fun ls hl => ?_)
    refine lv_iconst (v := 1) hx hb dL_ticksToOut_13 (by decide) ?_
    exact z_iretW hx hb hr hlk hK hP hD hS dL_ticksToOut_14 (Nat.le_of_ble_eq_true rfl) (Nat.le_of_ble_eq_true rfl) rfl rfl
  · exact absurd (hx0.symm.trans hex) (fun h => nomatch h)

set_option maxHeartbeats 4000000 in
set_option maxRecDepth 100000 in
theorem c_L_leastCompressor_ok (l : Launch) (D : va_G) (cs : zCs) (hfl : l.stackTraces = false) (ad : Nat → Nat → Nat) (S : Nat → Int32) (F : Nat → Nat → Int32) (TS : Nat → Int32) (TF : Nat → Nat → Int32) (tk : Int32) (o : Nat) (OL : Nat → Int64) (hx0 : (exT (1 ≤ tk ∧ tk ≤ 300) zIA none) = none) : zMw l D cs yL_leastCompressor cL_leastCompressor 4 (some FieldType.int) [((0), (9), (12), (19))] 7 177 1 6 [.ref (ad 3 0), .int tk, .ref o] ((camW ad) ++ (macW cs (ad 0) S F) ++ (macW cs (ad 1) TS TF) ++ [(o, .inl (cs.2.1, 1, .inr (.inl OL)))]) (some (.int 0)) ((camW ad) ++ (macW cs (ad 0) S F) ++ (macW cs (ad 1) ((lcP (nN tk) S F 51 0 (TS, TF)).1) ((lcP (nN tk) S F 51 0 (TS, TF)).2)) ++ [(o, .inl (cs.2.1, 1, .inr (.inl (vp_updL OL 0 (lcR (nN tk) S F 51 0).toInt64))))]) := by
  refine zMw.of (own := RL) (by decide) (Nat.le_of_ble_eq_true rfl) rfl ?_
  intro pq eq s mq below meth cq A ls hx hb hr hml hown hts hlk htab hE hK hA hP hD hS hl
  have hl : lv_has ls 4 [(0, .ref (ad 3 0)), (1, .int tk), (2, .ref o)] := hl
  refine lv_aload_n hx hb dL_leastCompressor_0 rfl (lv_at hl 2 rfl) ?_
  refine lv_iconst (v := 0) hx hb dL_leastCompressor_1 (by decide) ?_
  refine lv_aload_n hx hb dL_leastCompressor_2 rfl (lv_at hl 0 rfl) ?_
  refine lv_iload_n hx hb dL_leastCompressor_3 rfl (lv_at hl 1 rfl) ?_
  refine z_callVx (wn := ((camW ad) ++ (macW cs (ad 0) S F) ++ (macW cs (ad 1) ((lcP (nN tk) S F 51 0 (TS, TF)).1) ((lcP (nN tk) S F 51 0 (TS, TF)).2)) ++ [(o, .inl (cs.2.1, 1, .inr (.inl OL)))])) ⟨hx, hb, hml, hown, hts⟩ zY_X7_leastCompressor w_im_yX7_leastCompressor w_se_yX7_leastCompressor w_ml_L_66 [.int tk] [.int 0, .ref o] (c_X7_leastCompressor l D cs hfl ad S F TS TF tk) hE hK hA hP hD hS [0, 1, 2, 3, 4, 5, 6, 7, 8, 9, 10, 11, 12, 13, 14, 15, 16, 17, 18, 19, 20, 21, 22, 23, 24, 25, 26, 27, 28, 29, 30, 31, 32, 33, 34] rfl rfl rfl rfl 7 rfl rfl rfl rfl hl.1 (Nat.le_of_ble_eq_true rfl) ⟨Nat.le_of_ble_eq_true rfl, Nat.le_of_ble_eq_true rfl⟩ ⟨Nat.le_of_ble_eq_true rfl, Nat.le_of_ble_eq_true rfl⟩ dL_leastCompressor_4 (fun E ce q9 H locs hex hP hD hS hce hcv hcl => absurd (hx0.symm.trans hex) (fun h => nomatch h)) (fun hex H locs hP hD hS => ?_)
  have x_1 := exT_none hex
  refine lv_i2l (v := (lcR (nN tk) S F 51 0).toInt64) hx hb dL_leastCompressor_7 rfl ?_
  refine va_last hx hb hK hP hD hS 35 1 rfl rfl (vp_in_nI (n := 0) (N := 1) (by decide) (by decide)) dL_leastCompressor_8 (fun H locs hP hD hS => ?_)
  have hP : va_P D vwCl ((camW ad) ++ (macW cs (ad 0) S F) ++ (macW cs (ad 1) ((lcP (nN tk) S F 51 0 (TS, TF)).1) ((lcP (nN tk) S F 51 0 (TS, TF)).2)) ++ [(o, .inl (cs.2.1, 1, .inr (.inl (vp_updL OL 0 ((lcR (nN tk) S F 51 0).toInt64)))))]) H := hP
  have hD : va_D A ((camW ad) ++ (macW cs (ad 0) S F) ++ (macW cs (ad 1) ((lcP (nN tk) S F 51 0 (TS, TF)).1) ((lcP (nN tk) S F 51 0 (TS, TF)).2)) ++ [(o, .inl (cs.2.1, 1, .inr (.inl (vp_updL OL 0 ((lcR (nN tk) S F 51 0).toInt64)))))]) := hD
  refine lv_goto (tgt := 15) hx hb dL_leastCompressor_9 (by decide) ?_
  refine lv_iconst (v := 0) hx hb dL_leastCompressor_15 (by decide) ?_
  exact z_iretW hx hb hr hlk hK hP hD hS dL_leastCompressor_16 (Nat.le_of_ble_eq_true rfl) (Nat.le_of_ble_eq_true rfl) rfl rfl

set_option maxHeartbeats 4000000 in
set_option maxRecDepth 100000 in
theorem c_L_leastCompressor_e1 (l : Launch) (D : va_G) (cs : zCs) (hfl : l.stackTraces = false) (ad : Nat → Nat → Nat) (S : Nat → Int32) (F : Nat → Nat → Int32) (TS : Nat → Int32) (TF : Nat → Nat → Int32) (tk : Int32) (o : Nat) (OL : Nat → Int64) (hx0 : (exT (1 ≤ tk ∧ tk ≤ 300) zIA none) = some zIA) : zMw l D cs yL_leastCompressor cL_leastCompressor 4 (some FieldType.int) [((0), (9), (12), (19))] 7 177 1 6 [.ref (ad 3 0), .int tk, .ref o] ((camW ad) ++ (macW cs (ad 0) S F) ++ (macW cs (ad 1) TS TF) ++ [(o, .inl (cs.2.1, 1, .inr (.inl OL)))]) (some (.int 1)) ((camW ad) ++ (macW cs (ad 0) S F) ++ (macW cs (ad 1) TS TF) ++ [(o, .inl (cs.2.1, 1, .inr (.inl OL)))]) := by
  refine zMw.of (own := RL) (by decide) (Nat.le_of_ble_eq_true rfl) rfl ?_
  intro pq eq s mq below meth cq A ls hx hb hr hml hown hts hlk htab hE hK hA hP hD hS hl
  have hl : lv_has ls 4 [(0, .ref (ad 3 0)), (1, .int tk), (2, .ref o)] := hl
  refine lv_aload_n hx hb dL_leastCompressor_0 rfl (lv_at hl 2 rfl) ?_
  refine lv_iconst (v := 0) hx hb dL_leastCompressor_1 (by decide) ?_
  refine lv_aload_n hx hb dL_leastCompressor_2 rfl (lv_at hl 0 rfl) ?_
  refine lv_iload_n hx hb dL_leastCompressor_3 rfl (lv_at hl 1 rfl) ?_
  refine z_callVx (wn := ((camW ad) ++ (macW cs (ad 0) S F) ++ (macW cs (ad 1) ((lcP (nN tk) S F 51 0 (TS, TF)).1) ((lcP (nN tk) S F 51 0 (TS, TF)).2)) ++ [(o, .inl (cs.2.1, 1, .inr (.inl OL)))])) ⟨hx, hb, hml, hown, hts⟩ zY_X7_leastCompressor w_im_yX7_leastCompressor w_se_yX7_leastCompressor w_ml_L_66 [.int tk] [.int 0, .ref o] (c_X7_leastCompressor l D cs hfl ad S F TS TF tk) hE hK hA hP hD hS [0, 1, 2, 3, 4, 5, 6, 7, 8, 9, 10, 11, 12, 13, 14, 15, 16, 17, 18, 19, 20, 21, 22, 23, 24, 25, 26, 27, 28, 29, 30, 31, 32, 33, 34] rfl rfl rfl rfl 7 rfl rfl rfl rfl hl.1 (Nat.le_of_ble_eq_true rfl) ⟨Nat.le_of_ble_eq_true rfl, Nat.le_of_ble_eq_true rfl⟩ ⟨Nat.le_of_ble_eq_true rfl, Nat.le_of_ble_eq_true rfl⟩ dL_leastCompressor_4 (fun E ce q9 H locs hex hP hD hS hce hcv hcl => ?_) (fun hex H locs hP hD hS => ?_)
  · skip
    obtain rfl : zIA = E := Option.some.inj (hx0.symm.trans hex)
    refine z_catch hown hts hE htab [] ⟨0, 9, 12, 19⟩ [] rfl (fun z hz => by cases hz) (by decide) (by decide) w_cl_L_19 (List.mem_of_getElem? (i := 1) rfl) hce hcv hcl ?_
    refine W.eq (g2 := F0 mq 12 ls [.ref q9]) rfl ?_
    refine lv_astore_n (lv' := [(3, .ref q9), (0, .ref (ad 3 0)), (1, .int tk), (2, .ref o)]) hx hb dL_leastCompressor_12 rfl hl (by decide) rfl (fun ls hl => ?_)
    refine lv_iconst (v := 1) hx hb dL_leastCompressor_13 (by decide) ?_
    exact z_iretW hx hb hr hlk hK hP hD hS dL_leastCompressor_14 (Nat.le_of_ble_eq_true rfl) (Nat.le_of_ble_eq_true rfl) rfl rfl
  · exact absurd (hx0.symm.trans hex) (fun h => nomatch h)

set_option maxHeartbeats 4000000 in
set_option maxRecDepth 100000 in
theorem c_L_append_ok (l : Launch) (D : va_G) (cs : zCs) (hfl : l.stackTraces = false) (ad : Nat → Nat → Nat) (X : Nat → Int32) (B : Nat → Nat → Int32) (L : Nat) (v : Int32) (o : Nat) (OL : Nat → Int64) (hX0 : X 0 = nI L) (hL : L ≤ 100) (hx0 : (exT (0 ≤ v ∧ v ≤ 127) zIA (exT (nI L < 100) zIS none)) = none) : zMw l D cs yL_append cL_append 4 (some FieldType.int) [((0), (9), (12), (19)), ((0), (9), (15), (32))] 7 103 1 6 [.ref (ad 3 0), .int v, .ref o] ((camW ad) ++ (txtW cs (ad 5) X B) ++ [(o, .inl (cs.2.1, 1, .inr (.inl OL)))]) (some (.int 0)) ((camW ad) ++ (txtW cs (ad 5) (upd X 0 (nI (L + 1))) (zU B 0 (upd (B 0) L v))) ++ [(o, .inl (cs.2.1, 1, .inr (.inl (vp_updL OL 0 (nI (L + 1)).toInt64))))]) := by
  refine zMw.of (own := RL) (by decide) (Nat.le_of_ble_eq_true rfl) rfl ?_
  intro pq eq s mq below meth cq A ls hx hb hr hml hown hts hlk htab hE hK hA hP hD hS hl
  have hl : lv_has ls 4 [(0, .ref (ad 3 0)), (1, .int v), (2, .ref o)] := hl
  refine lv_aload_n hx hb dL_append_0 rfl (lv_at hl 2 rfl) ?_
  refine lv_iconst (v := 0) hx hb dL_append_1 (by decide) ?_
  refine lv_aload_n hx hb dL_append_2 rfl (lv_at hl 0 rfl) ?_
  refine lv_iload_n hx hb dL_append_3 rfl (lv_at hl 1 rfl) ?_
  refine z_callVx (wn := ((camW ad) ++ (txtW cs (ad 5) (upd X 0 (nI (L + 1))) (zU B 0 (upd (B 0) L v))) ++ [(o, .inl (cs.2.1, 1, .inr (.inl OL)))])) ⟨hx, hb, hml, hown, hts⟩ zY_X7_append w_im_yX7_append w_se_yX7_append w_ml_L_69 [.int v] [.int 0, .ref o] (c_X7_append l D cs hfl ad X B L v hX0 hL) hE hK hA hP hD hS [0, 1, 2, 3] rfl rfl rfl rfl 7 rfl rfl rfl rfl hl.1 (Nat.le_of_ble_eq_true rfl) ⟨Nat.le_of_ble_eq_true rfl, Nat.le_of_ble_eq_true rfl⟩ ⟨Nat.le_of_ble_eq_true rfl, Nat.le_of_ble_eq_true rfl⟩ dL_append_4 (fun E ce q9 H locs hex hP hD hS hce hcv hcl => absurd (hx0.symm.trans hex) (fun h => nomatch h)) (fun hex H locs hP hD hS => ?_)
  have x_1 := exT_none hex
  refine lv_i2l (v := (nI (L + 1)).toInt64) hx hb dL_append_7 rfl ?_
  refine va_last hx hb hK hP hD hS 4 1 rfl rfl (vp_in_nI (n := 0) (N := 1) (by decide) (by decide)) dL_append_8 (fun H locs hP hD hS => ?_)
  have hP : va_P D vwCl ((camW ad) ++ (txtW cs (ad 5) (upd X 0 (nI (L + 1))) (zU B 0 (upd (B 0) L v))) ++ [(o, .inl (cs.2.1, 1, .inr (.inl (vp_updL OL 0 ((nI (L + 1)).toInt64)))))]) H := hP
  have hD : va_D A ((camW ad) ++ (txtW cs (ad 5) (upd X 0 (nI (L + 1))) (zU B 0 (upd (B 0) L v))) ++ [(o, .inl (cs.2.1, 1, .inr (.inl (vp_updL OL 0 ((nI (L + 1)).toInt64)))))]) := hD
  refine lv_goto (tgt := 18) hx hb dL_append_9 (by decide) ?_
  refine lv_iconst (v := 0) hx hb dL_append_18 (by decide) ?_
  exact z_iretW hx hb hr hlk hK hP hD hS dL_append_19 (Nat.le_of_ble_eq_true rfl) (Nat.le_of_ble_eq_true rfl) rfl rfl

set_option maxHeartbeats 4000000 in
set_option maxRecDepth 100000 in
theorem c_L_append_e1 (l : Launch) (D : va_G) (cs : zCs) (hfl : l.stackTraces = false) (ad : Nat → Nat → Nat) (X : Nat → Int32) (B : Nat → Nat → Int32) (L : Nat) (v : Int32) (o : Nat) (OL : Nat → Int64) (hX0 : X 0 = nI L) (hL : L ≤ 100) (hx0 : (exT (0 ≤ v ∧ v ≤ 127) zIA (exT (nI L < 100) zIS none)) = some zIA) : zMw l D cs yL_append cL_append 4 (some FieldType.int) [((0), (9), (12), (19)), ((0), (9), (15), (32))] 7 103 1 6 [.ref (ad 3 0), .int v, .ref o] ((camW ad) ++ (txtW cs (ad 5) X B) ++ [(o, .inl (cs.2.1, 1, .inr (.inl OL)))]) (some (.int 1)) ((camW ad) ++ (txtW cs (ad 5) X B) ++ [(o, .inl (cs.2.1, 1, .inr (.inl OL)))]) := by
  refine zMw.of (own := RL) (by decide) (Nat.le_of_ble_eq_true rfl) rfl ?_
  intro pq eq s mq below meth cq A ls hx hb hr hml hown hts hlk htab hE hK hA hP hD hS hl
  have hl : lv_has ls 4 [(0, .ref (ad 3 0)), (1, .int v), (2, .ref o)] := hl
  refine lv_aload_n hx hb dL_append_0 rfl (lv_at hl 2 rfl) ?_
  refine lv_iconst (v := 0) hx hb dL_append_1 (by decide) ?_
  refine lv_aload_n hx hb dL_append_2 rfl (lv_at hl 0 rfl) ?_
  refine lv_iload_n hx hb dL_append_3 rfl (lv_at hl 1 rfl) ?_
  refine z_callVx (wn := ((camW ad) ++ (txtW cs (ad 5) (upd X 0 (nI (L + 1))) (zU B 0 (upd (B 0) L v))) ++ [(o, .inl (cs.2.1, 1, .inr (.inl OL)))])) ⟨hx, hb, hml, hown, hts⟩ zY_X7_append w_im_yX7_append w_se_yX7_append w_ml_L_69 [.int v] [.int 0, .ref o] (c_X7_append l D cs hfl ad X B L v hX0 hL) hE hK hA hP hD hS [0, 1, 2, 3] rfl rfl rfl rfl 7 rfl rfl rfl rfl hl.1 (Nat.le_of_ble_eq_true rfl) ⟨Nat.le_of_ble_eq_true rfl, Nat.le_of_ble_eq_true rfl⟩ ⟨Nat.le_of_ble_eq_true rfl, Nat.le_of_ble_eq_true rfl⟩ dL_append_4 (fun E ce q9 H locs hex hP hD hS hce hcv hcl => ?_) (fun hex H locs hP hD hS => ?_)
  · skip
    obtain rfl : zIA = E := Option.some.inj (hx0.symm.trans hex)
    refine z_catch hown hts hE htab [] ⟨0, 9, 12, 19⟩ [⟨0, 9, 15, 32⟩] rfl (fun z hz => by cases hz) (by decide) (by decide) w_cl_L_19 (List.mem_of_getElem? (i := 1) rfl) hce hcv hcl ?_
    refine W.eq (g2 := F0 mq 12 ls [.ref q9]) rfl ?_
    refine lv_astore_n (lv' := [(3, .ref q9), (0, .ref (ad 3 0)), (1, .int v), (2, .ref o)]) hx hb dL_append_12 rfl hl (by decide) rfl (fun ls hl => ?_)
    refine lv_iconst (v := 1) hx hb dL_append_13 (by decide) ?_
    exact z_iretW hx hb hr hlk hK hP hD hS dL_append_14 (Nat.le_of_ble_eq_true rfl) (Nat.le_of_ble_eq_true rfl) rfl rfl
  · exact absurd (hx0.symm.trans hex) (fun h => nomatch h)

set_option maxHeartbeats 4000000 in
set_option maxRecDepth 100000 in
theorem c_L_append_e2 (l : Launch) (D : va_G) (cs : zCs) (hfl : l.stackTraces = false) (ad : Nat → Nat → Nat) (X : Nat → Int32) (B : Nat → Nat → Int32) (L : Nat) (v : Int32) (o : Nat) (OL : Nat → Int64) (hX0 : X 0 = nI L) (hL : L ≤ 100) (hx0 : (exT (0 ≤ v ∧ v ≤ 127) zIA (exT (nI L < 100) zIS none)) = some zIS) : zMw l D cs yL_append cL_append 4 (some FieldType.int) [((0), (9), (12), (19)), ((0), (9), (15), (32))] 7 103 1 6 [.ref (ad 3 0), .int v, .ref o] ((camW ad) ++ (txtW cs (ad 5) X B) ++ [(o, .inl (cs.2.1, 1, .inr (.inl OL)))]) (some (.int 2)) ((camW ad) ++ (txtW cs (ad 5) X B) ++ [(o, .inl (cs.2.1, 1, .inr (.inl OL)))]) := by
  refine zMw.of (own := RL) (by decide) (Nat.le_of_ble_eq_true rfl) rfl ?_
  intro pq eq s mq below meth cq A ls hx hb hr hml hown hts hlk htab hE hK hA hP hD hS hl
  have hl : lv_has ls 4 [(0, .ref (ad 3 0)), (1, .int v), (2, .ref o)] := hl
  refine lv_aload_n hx hb dL_append_0 rfl (lv_at hl 2 rfl) ?_
  refine lv_iconst (v := 0) hx hb dL_append_1 (by decide) ?_
  refine lv_aload_n hx hb dL_append_2 rfl (lv_at hl 0 rfl) ?_
  refine lv_iload_n hx hb dL_append_3 rfl (lv_at hl 1 rfl) ?_
  refine z_callVx (wn := ((camW ad) ++ (txtW cs (ad 5) (upd X 0 (nI (L + 1))) (zU B 0 (upd (B 0) L v))) ++ [(o, .inl (cs.2.1, 1, .inr (.inl OL)))])) ⟨hx, hb, hml, hown, hts⟩ zY_X7_append w_im_yX7_append w_se_yX7_append w_ml_L_69 [.int v] [.int 0, .ref o] (c_X7_append l D cs hfl ad X B L v hX0 hL) hE hK hA hP hD hS [0, 1, 2, 3] rfl rfl rfl rfl 7 rfl rfl rfl rfl hl.1 (Nat.le_of_ble_eq_true rfl) ⟨Nat.le_of_ble_eq_true rfl, Nat.le_of_ble_eq_true rfl⟩ ⟨Nat.le_of_ble_eq_true rfl, Nat.le_of_ble_eq_true rfl⟩ dL_append_4 (fun E ce q9 H locs hex hP hD hS hce hcv hcl => ?_) (fun hex H locs hP hD hS => ?_)
  · skip
    obtain rfl : zIS = E := Option.some.inj (hx0.symm.trans hex)
    refine z_catch hown hts hE htab [⟨0, 9, 12, 19⟩] ⟨0, 9, 15, 32⟩ [] rfl (fun z hz => by rcases List.mem_cons.mp hz with rfl | hz; exact ⟨by decide, zIA, w_cl_L_19, List.mem_of_getElem? (i := 3) rfl⟩; cases hz) (by decide) (by decide) w_cl_L_32 (List.mem_of_getElem? (i := 2) rfl) hce hcv hcl ?_
    refine W.eq (g2 := F0 mq 15 ls [.ref q9]) rfl ?_
    refine lv_astore_n (lv' := [(3, .ref q9), (0, .ref (ad 3 0)), (1, .int v), (2, .ref o)]) hx hb dL_append_15 rfl hl (by decide) rfl (fun ls hl => ?_)
    refine lv_iconst (v := 2) hx hb dL_append_16 (by decide) ?_
    exact z_iretW hx hb hr hlk hK hP hD hS dL_append_17 (Nat.le_of_ble_eq_true rfl) (Nat.le_of_ble_eq_true rfl) rfl rfl
  · exact absurd (hx0.symm.trans hex) (fun h => nomatch h)
