
set_option maxHeartbeats 4000000 in
set_option maxRecDepth 100000 in
theorem c_L_setCam_ok (l : Launch) (D : va_G) (cs : zCs) (hfl : l.stackTraces = false) (ad : Nat → Nat → Nat) (S : Nat → Int32) (F : Nat → Nat → Int32) (kd : Nat → Nat → Nat) (HS : Nat → Int32) (KS : Nat → Nat → Int32) (KF : Nat → Nat → Nat → Int32) (p n : Nat) (tr st th : Int32) (o : Nat) (OL : Nat → Int64) (hp : HS 0 = nI p) (hp4 : p < 4) (hn : HS 1 = nI n) (hn4 : n ≤ 4) (hx0 : (exT (0 ≤ tr ∧ tr ≤ 4) zIO (exT (0 ≤ st ∧ st ≤ (S 0) - 1) zIO none)) = none) : zMw l D cs yL_setCam cL_setCam 6 (some FieldType.int) [((0), (12), (15), (13))] 8 177 2 12 [.ref (ad 3 0), .int tr, .int st, .int th, .ref o] ((camW ad) ++ (macW cs (ad 0) S F) ++ (hisW cs (ad 4) kd HS) ++ (macW cs (kd 0) (KS 0) (KF 0)) ++ (macW cs (kd 1) (KS 1) (KF 1)) ++ (macW cs (kd 2) (KS 2) (KF 2)) ++ (macW cs (kd 3) (KS 3) (KF 3)) ++ [(o, .inl (cs.2.1, 1, .inr (.inl OL)))]) (some (.int 0)) ((camW ad) ++ (macW cs (ad 0) S (zU F 0 (upd (F 0) (nN tr) (camPut ((F 0) (nN tr)) st th)))) ++ (hisW cs (ad 4) kd (upd (upd HS 0 (nI (hNx p))) 1 (nI (min (n + 1) 4)))) ++ (macW cs (kd 0) (kup KS (hNx p) S 0) (kup KF (hNx p) F 0)) ++ (macW cs (kd 1) (kup KS (hNx p) S 1) (kup KF (hNx p) F 1)) ++ (macW cs (kd 2) (kup KS (hNx p) S 2) (kup KF (hNx p) F 2)) ++ (macW cs (kd 3) (kup KS (hNx p) S 3) (kup KF (hNx p) F 3)) ++ [(o, .inl (cs.2.1, 1, .inr (.inl (vp_updL OL 0 (jbc (camPut ((F 0) (nN tr)) st th)).toInt64))))]) := by
  refine zMw.of (own := RL) (by decide) (Nat.le_of_ble_eq_true rfl) rfl ?_
  intro pq eq s mq below meth cq A ls hx hb hr hml hown hts hlk htab hE hK hA hP hD hS hl
  have hl : lv_has ls 6 [(0, .ref (ad 3 0)), (1, .int tr), (2, .int st), (3, .int th), (4, .ref o)] := hl
  refine lv_aload hx hb dL_setCam_0 (lv_at hl 4 rfl) ?_
  refine lv_iconst (v := 0) hx hb dL_setCam_2 (by decide) ?_
  refine lv_aload_n hx hb dL_setCam_3 rfl (lv_at hl 0 rfl) ?_
  refine lv_iload_n hx hb dL_setCam_4 rfl (lv_at hl 1 rfl) ?_
  refine lv_iload_n hx hb dL_setCam_5 rfl (lv_at hl 2 rfl) ?_
  refine lv_iload_n hx hb dL_setCam_6 rfl (lv_at hl 3 rfl) ?_
  refine z_callVx (wn := ((camW ad) ++ (macW cs (ad 0) S (zU F 0 (upd (F 0) (nN tr) (camPut ((F 0) (nN tr)) st th)))) ++ (hisW cs (ad 4) kd (upd (upd HS 0 (nI (hNx p))) 1 (nI (min (n + 1) 4)))) ++ (macW cs (kd 0) (kup KS (hNx p) S 0) (kup KF (hNx p) F 0)) ++ (macW cs (kd 1) (kup KS (hNx p) S 1) (kup KF (hNx p) F 1)) ++ (macW cs (kd 2) (kup KS (hNx p) S 2) (kup KF (hNx p) F 2)) ++ (macW cs (kd 3) (kup KS (hNx p) S 3) (kup KF (hNx p) F 3)) ++ [(o, .inl (cs.2.1, 1, .inr (.inl OL)))])) ⟨hx, hb, hml, hown, hts⟩ zY_X7_setCam w_im_yX7_setCam w_se_yX7_setCam w_ml_L_7 [.int tr, .int st, .int th] [.int 0, .ref o] (c_X7_setCam l D cs hfl ad S F kd HS KS KF p n tr st th hp hp4 hn hn4) hE hK hA hP hD hS [0, 1, 2, 3, 4, 5, 6, 7, 8, 9, 10, 11, 12, 13, 14, 15, 16, 17, 18, 19, 20, 21, 22, 23, 24, 25, 26, 27, 28, 29, 30, 31, 32, 33, 34, 35, 36, 37, 38, 39, 40, 41, 42, 43, 44, 45, 46, 47, 48, 49, 50, 51, 52, 53, 54, 55, 56, 57, 58, 59, 60, 61, 62, 63, 64, 65, 66, 67, 68, 69, 70, 71, 72, 73, 74, 75, 76, 77, 78, 79, 80, 81, 82, 83, 84, 85, 86, 87] rfl rfl rfl rfl 7 rfl rfl rfl rfl hl.1 (Nat.le_of_ble_eq_true rfl) ⟨Nat.le_of_ble_eq_true rfl, Nat.le_of_ble_eq_true rfl⟩ ⟨Nat.le_of_ble_eq_true rfl, Nat.le_of_ble_eq_true rfl⟩ dL_setCam_7 (fun E ce q9 H locs hex hP hD hS hce hcv hcl => absurd (hx0.symm.trans hex) (fun h => nomatch h)) (fun hex H locs hP hD hS => ?_)
  have x_1 := exT_none hex
  refine lv_i2l (v := (jbc (camPut ((F 0) (nN tr)) st th)).toInt64) hx hb dL_setCam_10 rfl ?_
  refine va_last hx hb hK hP hD hS 88 1 rfl rfl (vp_in_nI (n := 0) (N := 1) (by decide) (by decide)) dL_setCam_11 (fun H locs hP hD hS => ?_)
  have hP : va_P D vwCl ((camW ad) ++ (macW cs (ad 0) S (zU F 0 (upd (F 0) (nN tr) (camPut ((F 0) (nN tr)) st th)))) ++ (hisW cs (ad 4) kd (upd (upd HS 0 (nI (hNx p))) 1 (nI (min (n + 1) 4)))) ++ (macW cs (kd 0) (kup KS (hNx p) S 0) (kup KF (hNx p) F 0)) ++ (macW cs (kd 1) (kup KS (hNx p) S 1) (kup KF (hNx p) F 1)) ++ (macW cs (kd 2) (kup KS (hNx p) S 2) (kup KF (hNx p) F 2)) ++ (macW cs (kd 3) (kup KS (hNx p) S 3) (kup KF (hNx p) F 3)) ++ [(o, .inl (cs.2.1, 1, .inr (.inl (vp_updL OL 0 ((jbc (camPut ((F 0) (nN tr)) st th)).toInt64)))))]) H := hP
  have hD : va_D A ((camW ad) ++ (macW cs (ad 0) S (zU F 0 (upd (F 0) (nN tr) (camPut ((F 0) (nN tr)) st th)))) ++ (hisW cs (ad 4) kd (upd (upd HS 0 (nI (hNx p))) 1 (nI (min (n + 1) 4)))) ++ (macW cs (kd 0) (kup KS (hNx p) S 0) (kup KF (hNx p) F 0)) ++ (macW cs (kd 1) (kup KS (hNx p) S 1) (kup KF (hNx p) F 1)) ++ (macW cs (kd 2) (kup KS (hNx p) S 2) (kup KF (hNx p) F 2)) ++ (macW cs (kd 3) (kup KS (hNx p) S 3) (kup KF (hNx p) F 3)) ++ [(o, .inl (cs.2.1, 1, .inr (.inl (vp_updL OL 0 ((jbc (camPut ((F 0) (nN tr)) st th)).toInt64)))))]) := hD
  refine lv_goto (tgt := 19) hx hb dL_setCam_12 (by decide) ?_
  refine lv_iconst (v := 0) hx hb dL_setCam_19 (by decide) ?_
  exact z_iretW hx hb hr hlk hK hP hD hS dL_setCam_20 (Nat.le_of_ble_eq_true rfl) (Nat.le_of_ble_eq_true rfl) rfl rfl

set_option maxHeartbeats 4000000 in
set_option maxRecDepth 100000 in
theorem c_L_setCam_e1 (l : Launch) (D : va_G) (cs : zCs) (hfl : l.stackTraces = false) (ad : Nat → Nat → Nat) (S : Nat → Int32) (F : Nat → Nat → Int32) (kd : Nat → Nat → Nat) (HS : Nat → Int32) (KS : Nat → Nat → Int32) (KF : Nat → Nat → Nat → Int32) (p n : Nat) (tr st th : Int32) (o : Nat) (OL : Nat → Int64) (hp : HS 0 = nI p) (hp4 : p < 4) (hn : HS 1 = nI n) (hn4 : n ≤ 4) (hx0 : (exT (0 ≤ tr ∧ tr ≤ 4) zIO (exT (0 ≤ st ∧ st ≤ (S 0) - 1) zIO none)) = some zIO) : zMw l D cs yL_setCam cL_setCam 6 (some FieldType.int) [((0), (12), (15), (13))] 8 177 2 12 [.ref (ad 3 0), .int tr, .int st, .int th, .ref o] ((camW ad) ++ (macW cs (ad 0) S F) ++ (hisW cs (ad 4) kd HS) ++ (macW cs (kd 0) (KS 0) (KF 0)) ++ (macW cs (kd 1) (KS 1) (KF 1)) ++ (macW cs (kd 2) (KS 2) (KF 2)) ++ (macW cs (kd 3) (KS 3) (KF 3)) ++ [(o, .inl (cs.2.1, 1, .inr (.inl OL)))]) (some (.int 1)) ((camW ad) ++ (macW cs (ad 0) S F) ++ (hisW cs (ad 4) kd HS) ++ (macW cs (kd 0) (KS 0) (KF 0)) ++ (macW cs (kd 1) (KS 1) (KF 1)) ++ (macW cs (kd 2) (KS 2) (KF 2)) ++ (macW cs (kd 3) (KS 3) (KF 3)) ++ [(o, .inl (cs.2.1, 1, .inr (.inl OL)))]) := by
  refine zMw.of (own := RL) (by decide) (Nat.le_of_ble_eq_true rfl) rfl ?_
  intro pq eq s mq below meth cq A ls hx hb hr hml hown hts hlk htab hE hK hA hP hD hS hl
  have hl : lv_has ls 6 [(0, .ref (ad 3 0)), (1, .int tr), (2, .int st), (3, .int th), (4, .ref o)] := hl
  refine lv_aload hx hb dL_setCam_0 (lv_at hl 4 rfl) ?_
  refine lv_iconst (v := 0) hx hb dL_setCam_2 (by decide) ?_
  refine lv_aload_n hx hb dL_setCam_3 rfl (lv_at hl 0 rfl) ?_
  refine lv_iload_n hx hb dL_setCam_4 rfl (lv_at hl 1 rfl) ?_
  refine lv_iload_n hx hb dL_setCam_5 rfl (lv_at hl 2 rfl) ?_
  refine lv_iload_n hx hb dL_setCam_6 rfl (lv_at hl 3 rfl) ?_
  refine z_callVx (wn := ((camW ad) ++ (macW cs (ad 0) S (zU F 0 (upd (F 0) (nN tr) (camPut ((F 0) (nN tr)) st th)))) ++ (hisW cs (ad 4) kd (upd (upd HS 0 (nI (hNx p))) 1 (nI (min (n + 1) 4)))) ++ (macW cs (kd 0) (kup KS (hNx p) S 0) (kup KF (hNx p) F 0)) ++ (macW cs (kd 1) (kup KS (hNx p) S 1) (kup KF (hNx p) F 1)) ++ (macW cs (kd 2) (kup KS (hNx p) S 2) (kup KF (hNx p) F 2)) ++ (macW cs (kd 3) (kup KS (hNx p) S 3) (kup KF (hNx p) F 3)) ++ [(o, .inl (cs.2.1, 1, .inr (.inl OL)))])) ⟨hx, hb, hml, hown, hts⟩ zY_X7_setCam w_im_yX7_setCam w_se_yX7_setCam w_ml_L_7 [.int tr, .int st, .int th] [.int 0, .ref o] (c_X7_setCam l D cs hfl ad S F kd HS KS KF p n tr st th hp hp4 hn hn4) hE hK hA hP hD hS [0, 1, 2, 3, 4, 5, 6, 7, 8, 9, 10, 11, 12, 13, 14, 15, 16, 17, 18, 19, 20, 21, 22, 23, 24, 25, 26, 27, 28, 29, 30, 31, 32, 33, 34, 35, 36, 37, 38, 39, 40, 41, 42, 43, 44, 45, 46, 47, 48, 49, 50, 51, 52, 53, 54, 55, 56, 57, 58, 59, 60, 61, 62, 63, 64, 65, 66, 67, 68, 69, 70, 71, 72, 73, 74, 75, 76, 77, 78, 79, 80, 81, 82, 83, 84, 85, 86, 87] rfl rfl rfl rfl 7 rfl rfl rfl rfl hl.1 (Nat.le_of_ble_eq_true rfl) ⟨Nat.le_of_ble_eq_true rfl, Nat.le_of_ble_eq_true rfl⟩ ⟨Nat.le_of_ble_eq_true rfl, Nat.le_of_ble_eq_true rfl⟩ dL_setCam_7 (fun E ce q9 H locs hex hP hD hS hce hcv hcl => ?_) (fun hex H locs hP hD hS => ?_)
  · skip
    obtain rfl : zIO = E := Option.some.inj (hx0.symm.trans hex)
    refine z_catch hown hts hE htab [] ⟨0, 12, 15, 13⟩ [] rfl (fun z hz => by cases hz) (by decide) (by decide) w_cl_L_13 (List.mem_of_getElem? (i := 0) rfl) hce hcv hcl ?_
    refine W.eq (g2 := F0 mq 15 ls [.ref q9]) rfl ?_
    refine lv_astore (lv' := [(5, .ref q9), (0, .ref (ad 3 0)), (1, .int tr), (2, .int st), (3, .int th), (4, .ref o)]) hx hb dL_setCam_15 hl (by decide) rfl (fun ls hl => ?_)
    refine lv_iconst (v := 1) hx hb dL_setCam_17 (by decide) ?_
    exact z_iretW hx hb hr hlk hK hP hD hS dL_setCam_18 (Nat.le_of_ble_eq_true rfl) (Nat.le_of_ble_eq_true rfl) rfl rfl
  · exact absurd (hx0.symm.trans hex) (fun h => nomatch h)

set_option maxHeartbeats 4000000 in
set_option maxRecDepth 100000 in
theorem c_L_setPawl_ok (l : Launch) (D : va_G) (cs : zCs) (hfl : l.stackTraces = false) (ad : Nat → Nat → Nat) (S : Nat → Int32) (F : Nat → Nat → Int32) (kd : Nat → Nat → Nat) (HS : Nat → Int32) (KS : Nat → Nat → Int32) (KF : Nat → Nat → Nat → Int32) (p n : Nat) (dw le : Int32) (o : Nat) (OL : Nat → Int64) (hp : HS 0 = nI p) (hp4 : p < 4) (hn : HS 1 = nI n) (hn4 : n ≤ 4) (hx0 : (exT ((1 ≤ dw ∧ dw ≤ 20) ∧ (0 ≤ le ∧ le ≤ 5000)) zIA none) = none) : zMw l D cs yL_setPawl cL_setPawl 5 (some FieldType.int) [((0), (10), (13), (19))] 7 177 1 6 [.ref (ad 3 0), .int dw, .int le, .ref o] ((camW ad) ++ (macW cs (ad 0) S F) ++ (hisW cs (ad 4) kd HS) ++ (macW cs (kd 0) (KS 0) (KF 0)) ++ (macW cs (kd 1) (KS 1) (KF 1)) ++ (macW cs (kd 2) (KS 2) (KF 2)) ++ (macW cs (kd 3) (KS 3) (KF 3)) ++ [(o, .inl (cs.2.1, 1, .inr (.inl OL)))]) (some (.int 0)) ((camW ad) ++ (macW cs (ad 0) (upd (upd S 3 dw) 4 le) F) ++ (hisW cs (ad 4) kd (upd (upd HS 0 (nI (hNx p))) 1 (nI (min (n + 1) 4)))) ++ (macW cs (kd 0) (kup KS (hNx p) S 0) (kup KF (hNx p) F 0)) ++ (macW cs (kd 1) (kup KS (hNx p) S 1) (kup KF (hNx p) F 1)) ++ (macW cs (kd 2) (kup KS (hNx p) S 2) (kup KF (hNx p) F 2)) ++ (macW cs (kd 3) (kup KS (hNx p) S 3) (kup KF (hNx p) F 3)) ++ [(o, .inl (cs.2.1, 1, .inr (.inl (vp_updL OL 0 (S 3).toInt64))))]) := by
  refine zMw.of (own := RL) (by decide) (Nat.le_of_ble_eq_true rfl) rfl ?_
  intro pq eq s mq below meth cq A ls hx hb hr hml hown hts hlk htab hE hK hA hP hD hS hl
  have hl : lv_has ls 5 [(0, .ref (ad 3 0)), (1, .int dw), (2, .int le), (3, .ref o)] := hl
  refine lv_aload_n hx hb dL_setPawl_0 rfl (lv_at hl 3 rfl) ?_
  refine lv_iconst (v := 0) hx hb dL_setPawl_1 (by decide) ?_
  refine lv_aload_n hx hb dL_setPawl_2 rfl (lv_at hl 0 rfl) ?_
  refine lv_iload_n hx hb dL_setPawl_3 rfl (lv_at hl 1 rfl) ?_
  refine lv_iload_n hx hb dL_setPawl_4 rfl (lv_at hl 2 rfl) ?_
  refine z_callVx (wn := ((camW ad) ++ (macW cs (ad 0) (upd (upd S 3 dw) 4 le) F) ++ (hisW cs (ad 4) kd (upd (upd HS 0 (nI (hNx p))) 1 (nI (min (n + 1) 4)))) ++ (macW cs (kd 0) (kup KS (hNx p) S 0) (kup KF (hNx p) F 0)) ++ (macW cs (kd 1) (kup KS (hNx p) S 1) (kup KF (hNx p) F 1)) ++ (macW cs (kd 2) (kup KS (hNx p) S 2) (kup KF (hNx p) F 2)) ++ (macW cs (kd 3) (kup KS (hNx p) S 3) (kup KF (hNx p) F 3)) ++ [(o, .inl (cs.2.1, 1, .inr (.inl OL)))])) ⟨hx, hb, hml, hown, hts⟩ zY_X7_setPawl w_im_yX7_setPawl w_se_yX7_setPawl w_ml_L_15 [.int dw, .int le] [.int 0, .ref o] (c_X7_setPawl l D cs hfl ad S F kd HS KS KF p n dw le hp hp4 hn hn4) hE hK hA hP hD hS [0, 1, 2, 3, 4, 5, 6, 7, 8, 9, 10, 11, 12, 13, 14, 15, 16, 17, 18, 19, 20, 21, 22, 23, 24, 25, 26, 27, 28, 29, 30, 31, 32, 33, 34, 35, 36, 37, 38, 39, 40, 41, 42, 43, 44, 45, 46, 47, 48, 49, 50, 51, 52, 53, 54, 55, 56, 57, 58, 59, 60, 61, 62, 63, 64, 65, 66, 67, 68, 69, 70, 71, 72, 73, 74, 75, 76, 77, 78, 79, 80, 81, 82, 83, 84, 85, 86, 87] rfl rfl rfl rfl 7 rfl rfl rfl rfl hl.1 (Nat.le_of_ble_eq_true rfl) ⟨Nat.le_of_ble_eq_true rfl, Nat.le_of_ble_eq_true rfl⟩ ⟨Nat.le_of_ble_eq_true rfl, Nat.le_of_ble_eq_true rfl⟩ dL_setPawl_5 (fun E ce q9 H locs hex hP hD hS hce hcv hcl => absurd (hx0.symm.trans hex) (fun h => nomatch h)) (fun hex H locs hP hD hS => ?_)
  have x_1 := exT_none hex
  refine lv_i2l (v := (S 3).toInt64) hx hb dL_setPawl_8 rfl ?_
  refine va_last hx hb hK hP hD hS 88 1 rfl rfl (vp_in_nI (n := 0) (N := 1) (by decide) (by decide)) dL_setPawl_9 (fun H locs hP hD hS => ?_)
  have hP : va_P D vwCl ((camW ad) ++ (macW cs (ad 0) (upd (upd S 3 dw) 4 le) F) ++ (hisW cs (ad 4) kd (upd (upd HS 0 (nI (hNx p))) 1 (nI (min (n + 1) 4)))) ++ (macW cs (kd 0) (kup KS (hNx p) S 0) (kup KF (hNx p) F 0)) ++ (macW cs (kd 1) (kup KS (hNx p) S 1) (kup KF (hNx p) F 1)) ++ (macW cs (kd 2) (kup KS (hNx p) S 2) (kup KF (hNx p) F 2)) ++ (macW cs (kd 3) (kup KS (hNx p) S 3) (kup KF (hNx p) F 3)) ++ [(o, .inl (cs.2.1, 1, .inr (.inl (vp_updL OL 0 ((S 3).toInt64)))))]) H := hP
  have hD : va_D A ((camW ad) ++ (macW cs (ad 0) (upd (upd S 3 dw) 4 le) F) ++ (hisW cs (ad 4) kd (upd (upd HS 0 (nI (hNx p))) 1 (nI (min (n + 1) 4)))) ++ (macW cs (kd 0) (kup KS (hNx p) S 0) (kup KF (hNx p) F 0)) ++ (macW cs (kd 1) (kup KS (hNx p) S 1) (kup KF (hNx p) F 1)) ++ (macW cs (kd 2) (kup KS (hNx p) S 2) (kup KF (hNx p) F 2)) ++ (macW cs (kd 3) (kup KS (hNx p) S 3) (kup KF (hNx p) F 3)) ++ [(o, .inl (cs.2.1, 1, .inr (.inl (vp_updL OL 0 ((S 3).toInt64)))))]) := hD
  refine lv_goto (tgt := 17) hx hb dL_setPawl_10 (by decide) ?_
  refine lv_iconst (v := 0) hx hb dL_setPawl_17 (by decide) ?_
  exact z_iretW hx hb hr hlk hK hP hD hS dL_setPawl_18 (Nat.le_of_ble_eq_true rfl) (Nat.le_of_ble_eq_true rfl) rfl rfl

set_option maxHeartbeats 4000000 in
set_option maxRecDepth 100000 in
theorem c_L_setPawl_e1 (l : Launch) (D : va_G) (cs : zCs) (hfl : l.stackTraces = false) (ad : Nat → Nat → Nat) (S : Nat → Int32) (F : Nat → Nat → Int32) (kd : Nat → Nat → Nat) (HS : Nat → Int32) (KS : Nat → Nat → Int32) (KF : Nat → Nat → Nat → Int32) (p n : Nat) (dw le : Int32) (o : Nat) (OL : Nat → Int64) (hp : HS 0 = nI p) (hp4 : p < 4) (hn : HS 1 = nI n) (hn4 : n ≤ 4) (hx0 : (exT ((1 ≤ dw ∧ dw ≤ 20) ∧ (0 ≤ le ∧ le ≤ 5000)) zIA none) = some zIA) : zMw l D cs yL_setPawl cL_setPawl 5 (some FieldType.int) [((0), (10), (13), (19))] 7 177 1 6 [.ref (ad 3 0), .int dw, .int le, .ref o] ((camW ad) ++ (macW cs (ad 0) S F) ++ (hisW cs (ad 4) kd HS) ++ (macW cs (kd 0) (KS 0) (KF 0)) ++ (macW cs (kd 1) (KS 1) (KF 1)) ++ (macW cs (kd 2) (KS 2) (KF 2)) ++ (macW cs (kd 3) (KS 3) (KF 3)) ++ [(o, .inl (cs.2.1, 1, .inr (.inl OL)))]) (some (.int 1)) ((camW ad) ++ (macW cs (ad 0) S F) ++ (hisW cs (ad 4) kd HS) ++ (macW cs (kd 0) (KS 0) (KF 0)) ++ (macW cs (kd 1) (KS 1) (KF 1)) ++ (macW cs (kd 2) (KS 2) (KF 2)) ++ (macW cs (kd 3) (KS 3) (KF 3)) ++ [(o, .inl (cs.2.1, 1, .inr (.inl OL)))]) := by
  refine zMw.of (own := RL) (by decide) (Nat.le_of_ble_eq_true rfl) rfl ?_
  intro pq eq s mq below meth cq A ls hx hb hr hml hown hts hlk htab hE hK hA hP hD hS hl
  have hl : lv_has ls 5 [(0, .ref (ad 3 0)), (1, .int dw), (2, .int le), (3, .ref o)] := hl
  refine lv_aload_n hx hb dL_setPawl_0 rfl (lv_at hl 3 rfl) ?_
  refine lv_iconst (v := 0) hx hb dL_setPawl_1 (by decide) ?_
  refine lv_aload_n hx hb dL_setPawl_2 rfl (lv_at hl 0 rfl) ?_
  refine lv_iload_n hx hb dL_setPawl_3 rfl (lv_at hl 1 rfl) ?_
  refine lv_iload_n hx hb dL_setPawl_4 rfl (lv_at hl 2 rfl) ?_
  refine z_callVx (wn := ((camW ad) ++ (macW cs (ad 0) (upd (upd S 3 dw) 4 le) F) ++ (hisW cs (ad 4) kd (upd (upd HS 0 (nI (hNx p))) 1 (nI (min (n + 1) 4)))) ++ (macW cs (kd 0) (kup KS (hNx p) S 0) (kup KF (hNx p) F 0)) ++ (macW cs (kd 1) (kup KS (hNx p) S 1) (kup KF (hNx p) F 1)) ++ (macW cs (kd 2) (kup KS (hNx p) S 2) (kup KF (hNx p) F 2)) ++ (macW cs (kd 3) (kup KS (hNx p) S 3) (kup KF (hNx p) F 3)) ++ [(o, .inl (cs.2.1, 1, .inr (.inl OL)))])) ⟨hx, hb, hml, hown, hts⟩ zY_X7_setPawl w_im_yX7_setPawl w_se_yX7_setPawl w_ml_L_15 [.int dw, .int le] [.int 0, .ref o] (c_X7_setPawl l D cs hfl ad S F kd HS KS KF p n dw le hp hp4 hn hn4) hE hK hA hP hD hS [0, 1, 2, 3, 4, 5, 6, 7, 8, 9, 10, 11, 12, 13, 14, 15, 16, 17, 18, 19, 20, 21, 22, 23, 24, 25, 26, 27, 28, 29, 30, 31, 32, 33, 34, 35, 36, 37, 38, 39, 40, 41, 42, 43, 44, 45, 46, 47, 48, 49, 50, 51, 52, 53, 54, 55, 56, 57, 58, 59, 60, 61, 62, 63, 64, 65, 66, 67, 68, 69, 70, 71, 72, 73, 74, 75, 76, 77, 78, 79, 80, 81, 82, 83, 84, 85, 86, 87] rfl rfl rfl rfl 7 rfl rfl rfl rfl hl.1 (Nat.le_of_ble_eq_true rfl) ⟨Nat.le_of_ble_eq_true rfl, Nat.le_of_ble_eq_true rfl⟩ ⟨Nat.le_of_ble_eq_true rfl, Nat.le_of_ble_eq_true rfl⟩ dL_setPawl_5 (fun E ce q9 H locs hex hP hD hS hce hcv hcl => ?_) (fun hex H locs hP hD hS => ?_)
  · skip
    obtain rfl : zIA = E := Option.some.inj (hx0.symm.trans hex)
    refine z_catch hown hts hE htab [] ⟨0, 10, 13, 19⟩ [] rfl (fun z hz => by cases hz) (by decide) (by decide) w_cl_L_19 (List.mem_of_getElem? (i := 1) rfl) hce hcv hcl ?_
    refine W.eq (g2 := F0 mq 13 ls [.ref q9]) rfl ?_
    refine lv_astore (lv' := [(4, .ref q9), (0, .ref (ad 3 0)), (1, .int dw), (2, .int le), (3, .ref o)]) hx hb dL_setPawl_13 hl (by decide) rfl (fun ls hl => ?_)
    refine lv_iconst (v := 1) hx hb dL_setPawl_15 (by decide) ?_
    exact z_iretW hx hb hr hlk hK hP hD hS dL_setPawl_16 (Nat.le_of_ble_eq_true rfl) (Nat.le_of_ble_eq_true rfl) rfl rfl
  · exact absurd (hx0.symm.trans hex) (fun h => nomatch h)

set_option maxHeartbeats 4000000 in
set_option maxRecDepth 100000 in
theorem c_L_setCylinder_ok (l : Launch) (D : va_G) (cs : zCs) (hfl : l.stackTraces = false) (ad : Nat → Nat → Nat) (S : Nat → Int32) (F : Nat → Nat → Int32) (kd : Nat → Nat → Nat) (HS : Nat → Int32) (KS : Nat → Nat → Int32) (KF : Nat → Nat → Nat → Int32) (p n : Nat) (cy sz sp lk : Int32) (o : Nat) (OL : Nat → Int64) (hp : HS 0 = nI p) (hp4 : p < 4) (hn : HS 1 = nI n) (hn4 : n ≤ 4) (hx0 : (exT (0 ≤ cy ∧ cy ≤ 4) zIO (exT ((1 ≤ sz ∧ sz ≤ 9) ∧ (1 ≤ sp ∧ sp ≤ 50) ∧ (0 ≤ lk ∧ lk ≤ 20)) zIA none)) = none) : zMw l D cs yL_setCylinder cL_setCylinder 7 (some FieldType.int) [((0), (14), (17), (13)), ((0), (14), (21), (19))] 8 178 2 12 [.ref (ad 3 0), .int cy, .int sz, .int sp, .int lk, .ref o] ((camW ad) ++ (macW cs (ad 0) S F) ++ (hisW cs (ad 4) kd HS) ++ (macW cs (kd 0) (KS 0) (KF 0)) ++ (macW cs (kd 1) (KS 1) (KF 1)) ++ (macW cs (kd 2) (KS 2) (KF 2)) ++ (macW cs (kd 3) (KS 3) (KF 3)) ++ [(o, .inl (cs.2.1, 1, .inr (.inl OL)))]) (some (.int 0)) ((camW ad) ++ (macW cs (ad 0) S (zU (zU (zU F 2 (upd (F 2) (nN cy) sz)) 3 (upd (F 3) (nN cy) sp)) 4 (upd (F 4) (nN cy) lk))) ++ (hisW cs (ad 4) kd (upd (upd HS 0 (nI (hNx p))) 1 (nI (min (n + 1) 4)))) ++ (macW cs (kd 0) (kup KS (hNx p) S 0) (kup KF (hNx p) F 0)) ++ (macW cs (kd 1) (kup KS (hNx p) S 1) (kup KF (hNx p) F 1)) ++ (macW cs (kd 2) (kup KS (hNx p) S 2) (kup KF (hNx p) F 2)) ++ (macW cs (kd 3) (kup KS (hNx p) S 3) (kup KF (hNx p) F 3)) ++ [(o, .inl (cs.2.1, 1, .inr (.inl (vp_updL OL 0 ((F 1) (nN cy)).toInt64))))]) := by
  refine zMw.of (own := RL) (by decide) (Nat.le_of_ble_eq_true rfl) rfl ?_
  intro pq eq s mq below meth cq A ls hx hb hr hml hown hts hlk htab hE hK hA hP hD hS hl
  have hl : lv_has ls 7 [(0, .ref (ad 3 0)), (1, .int cy), (2, .int sz), (3, .int sp), (4, .int lk), (5, .ref o)] := hl
  refine lv_aload hx hb dL_setCylinder_0 (lv_at hl 5 rfl) ?_
  refine lv_iconst (v := 0) hx hb dL_setCylinder_2 (by decide) ?_
  refine lv_aload_n hx hb dL_setCylinder_3 rfl (lv_at hl 0 rfl) ?_
  refine lv_iload_n hx hb dL_setCylinder_4 rfl (lv_at hl 1 rfl) ?_
  refine lv_iload_n hx hb dL_setCylinder_5 rfl (lv_at hl 2 rfl) ?_
  refine lv_iload_n hx hb dL_setCylinder_6 rfl (lv_at hl 3 rfl) ?_
  refine lv_iload hx hb dL_setCylinder_7 (lv_at hl 4 rfl) ?_
  refine z_callVx (wn := ((camW ad) ++ (macW cs (ad 0) S (zU (zU (zU F 2 (upd (F 2) (nN cy) sz)) 3 (upd (F 3) (nN cy) sp)) 4 (upd (F 4) (nN cy) lk))) ++ (hisW cs (ad 4) kd (upd (upd HS 0 (nI (hNx p))) 1 (nI (min (n + 1) 4)))) ++ (macW cs (kd 0) (kup KS (hNx p) S 0) (kup KF (hNx p) F 0)) ++ (macW cs (kd 1) (kup KS (hNx p) S 1) (kup KF (hNx p) F 1)) ++ (macW cs (kd 2) (kup KS (hNx p) S 2) (kup KF (hNx p) F 2)) ++ (macW cs (kd 3) (kup KS (hNx p) S 3) (kup KF (hNx p) F 3)) ++ [(o, .inl (cs.2.1, 1, .inr (.inl OL)))])) ⟨hx, hb, hml, hown, hts⟩ zY_X7_setCylinder w_im_yX7_setCylinder w_se_yX7_setCylinder w_ml_L_21 [.int cy, .int sz, .int sp, .int lk] [.int 0, .ref o] (c_X7_setCylinder l D cs hfl ad S F kd HS KS KF p n cy sz sp lk hp hp4 hn hn4) hE hK hA hP hD hS [0, 1, 2, 3, 4, 5, 6, 7, 8, 9, 10, 11, 12, 13, 14, 15, 16, 17, 18, 19, 20, 21, 22, 23, 24, 25, 26, 27, 28, 29, 30, 31, 32, 33, 34, 35, 36, 37, 38, 39, 40, 41, 42, 43, 44, 45, 46, 47, 48, 49, 50, 51, 52, 53, 54, 55, 56, 57, 58, 59, 60, 61, 62, 63, 64, 65, 66, 67, 68, 69, 70, 71, 72, 73, 74, 75, 76, 77, 78, 79, 80, 81, 82, 83, 84, 85, 86, 87] rfl rfl rfl rfl 7 rfl rfl rfl rfl hl.1 (Nat.le_of_ble_eq_true rfl) ⟨Nat.le_of_ble_eq_true rfl, Nat.le_of_ble_eq_true rfl⟩ ⟨Nat.le_of_ble_eq_true rfl, Nat.le_of_ble_eq_true rfl⟩ dL_setCylinder_9 (fun E ce q9 H locs hex hP hD hS hce hcv hcl => absurd (hx0.symm.trans hex) (fun h => nomatch h)) (fun hex H locs hP hD hS => ?_)
  have x_1 := exT_none hex
  refine lv_i2l (v := ((F 1) (nN cy)).toInt64) hx hb dL_setCylinder_12 rfl ?_
  refine va_last hx hb hK hP hD hS 88 1 rfl rfl (vp_in_nI (n := 0) (N := 1) (by decide) (by decide)) dL_setCylinder_13 (fun H locs hP hD hS => ?_)
  have hP : va_P D vwCl ((camW ad) ++ (macW cs (ad 0) S (zU (zU (zU F 2 (upd (F 2) (nN cy) sz)) 3 (upd (F 3) (nN cy) sp)) 4 (upd (F 4) (nN cy) lk))) ++ (hisW cs (ad 4) kd (upd (upd HS 0 (nI (hNx p))) 1 (nI (min (n + 1) 4)))) ++ (macW cs (kd 0) (kup KS (hNx p) S 0) (kup KF (hNx p) F 0)) ++ (macW cs (kd 1) (kup KS (hNx p) S 1) (kup KF (hNx p) F 1)) ++ (macW cs (kd 2) (kup KS (hNx p) S 2) (kup KF (hNx p) F 2)) ++ (macW cs (kd 3) (kup KS (hNx p) S 3) (kup KF (hNx p) F 3)) ++ [(o, .inl (cs.2.1, 1, .inr (.inl (vp_updL OL 0 (((F 1) (nN cy)).toInt64)))))]) H := hP
  have hD : va_D A ((camW ad) ++ (macW cs (ad 0) S (zU (zU (zU F 2 (upd (F 2) (nN cy) sz)) 3 (upd (F 3) (nN cy) sp)) 4 (upd (F 4) (nN cy) lk))) ++ (hisW cs (ad 4) kd (upd (upd HS 0 (nI (hNx p))) 1 (nI (min (n + 1) 4)))) ++ (macW cs (kd 0) (kup KS (hNx p) S 0) (kup KF (hNx p) F 0)) ++ (macW cs (kd 1) (kup KS (hNx p) S 1) (kup KF (hNx p) F 1)) ++ (macW cs (kd 2) (kup KS (hNx p) S 2) (kup KF (hNx p) F 2)) ++ (macW cs (kd 3) (kup KS (hNx p) S 3) (kup KF (hNx p) F 3)) ++ [(o, .inl (cs.2.1, 1, .inr (.inl (vp_updL OL 0 (((F 1) (nN cy)).toInt64)))))]) := hD
  refine lv_goto (tgt := 25) hx hb dL_setCylinder_14 (by decide) ?_
  refine lv_iconst (v := 0) hx hb dL_setCylinder_25 (by decide) ?_
  exact z_iretW hx hb hr hlk hK hP hD hS dL_setCylinder_26 (Nat.le_of_ble_eq_true rfl) (Nat.le_of_ble_eq_true rfl) rfl rfl

set_option maxHeartbeats 4000000 in
set_option maxRecDepth 100000 in
theorem c_L_setCylinder_e1 (l : Launch) (D : va_G) (cs : zCs) (hfl : l.stackTraces = false) (ad : Nat → Nat → Nat) (S : Nat → Int32) (F : Nat → Nat → Int32) (kd : Nat → Nat → Nat) (HS : Nat → Int32) (KS : Nat → Nat → Int32) (KF : Nat → Nat → Nat → Int32) (p n : Nat) (cy sz sp lk : Int32) (o : Nat) (OL : Nat → Int64) (hp : HS 0 = nI p) (hp4 : p < 4) (hn : HS 1 = nI n) (hn4 : n ≤ 4) (hx0 : (exT (0 ≤ cy ∧ cy ≤ 4) zIO (exT ((1 ≤ sz ∧ sz ≤ 9) ∧ (1 ≤ sp ∧ sp ≤ 50) ∧ (0 ≤ lk ∧ lk ≤ 20)) zIA none)) = some zIO) : zMw l D cs yL_setCylinder cL_setCylinder 7 (some FieldType.int) [((0), (14), (17), (13)), ((0), (14), (21), (19))] 8 178 2 12 [.ref (ad 3 0), .int cy, .int sz, .int sp, .int lk, .ref o] ((camW ad) ++ (macW cs (ad 0) S F) ++ (hisW cs (ad 4) kd HS) ++ (macW cs (kd 0) (KS 0) (KF 0)) ++ (macW cs (kd 1) (KS 1) (KF 1)) ++ (macW cs (kd 2) (KS 2) (KF 2)) ++ (macW cs (kd 3) (KS 3) (KF 3)) ++ [(o, .inl (cs.2.1, 1, .inr (.inl OL)))]) (some (.int 1)) ((camW ad) ++ (macW cs (ad 0) S F) ++ (hisW cs (ad 4) kd HS) ++ (macW cs (kd 0) (KS 0) (KF 0)) ++ (macW cs (kd 1) (KS 1) (KF 1)) ++ (macW cs (kd 2) (KS 2) (KF 2)) ++ (macW cs (kd 3) (KS 3) (KF 3)) ++ [(o, .inl (cs.2.1, 1, .inr (.inl OL)))]) := by
  refine zMw.of (own := RL) (by decide) (Nat.le_of_ble_eq_true rfl) rfl ?_
  intro pq eq s mq below meth cq A ls hx hb hr hml hown hts hlk htab hE hK hA hP hD hS hl
  have hl : lv_has ls 7 [(0, .ref (ad 3 0)), (1, .int cy), (2, .int sz), (3, .int sp), (4, .int lk), (5, .ref o)] := hl
  refine lv_aload hx hb dL_setCylinder_0 (lv_at hl 5 rfl) ?_
  refine lv_iconst (v := 0) hx hb dL_setCylinder_2 (by decide) ?_
  refine lv_aload_n hx hb dL_setCylinder_3 rfl (lv_at hl 0 rfl) ?_
  refine lv_iload_n hx hb dL_setCylinder_4 rfl (lv_at hl 1 rfl) ?_
  refine lv_iload_n hx hb dL_setCylinder_5 rfl (lv_at hl 2 rfl) ?_
  refine lv_iload_n hx hb dL_setCylinder_6 rfl (lv_at hl 3 rfl) ?_
  refine lv_iload hx hb dL_setCylinder_7 (lv_at hl 4 rfl) ?_
  refine z_callVx (wn := ((camW ad) ++ (macW cs (ad 0) S (zU (zU (zU F 2 (upd (F 2) (nN cy) sz)) 3 (upd (F 3) (nN cy) sp)) 4 (upd (F 4) (nN cy) lk))) ++ (hisW cs (ad 4) kd (upd (upd HS 0 (nI (hNx p))) 1 (nI (min (n + 1) 4)))) ++ (macW cs (kd 0) (kup KS (hNx p) S 0) (kup KF (hNx p) F 0)) ++ (macW cs (kd 1) (kup KS (hNx p) S 1) (kup KF (hNx p) F 1)) ++ (macW cs (kd 2) (kup KS (hNx p) S 2) (kup KF (hNx p) F 2)) ++ (macW cs (kd 3) (kup KS (hNx p) S 3) (kup KF (hNx p) F 3)) ++ [(o, .inl (cs.2.1, 1, .inr (.inl OL)))])) ⟨hx, hb, hml, hown, hts⟩ zY_X7_setCylinder w_im_yX7_setCylinder w_se_yX7_setCylinder w_ml_L_21 [.int cy, .int sz, .int sp, .int lk] [.int 0, .ref o] (c_X7_setCylinder l D cs hfl ad S F kd HS KS KF p n cy sz sp lk hp hp4 hn hn4) hE hK hA hP hD hS [0, 1, 2, 3, 4, 5, 6, 7, 8, 9, 10, 11, 12, 13, 14, 15, 16, 17, 18, 19, 20, 21, 22, 23, 24, 25, 26, 27, 28, 29, 30, 31, 32, 33, 34, 35, 36, 37, 38, 39, 40, 41, 42, 43, 44, 45, 46, 47, 48, 49, 50, 51, 52, 53, 54, 55, 56, 57, 58, 59, 60, 61, 62, 63, 64, 65, 66, 67, 68, 69, 70, 71, 72, 73, 74, 75, 76, 77, 78, 79, 80, 81, 82, 83, 84, 85, 86, 87] rfl rfl rfl rfl 7 rfl rfl rfl rfl hl.1 (Nat.le_of_ble_eq_true rfl) ⟨Nat.le_of_ble_eq_true rfl, Nat.le_of_ble_eq_true rfl⟩ ⟨Nat.le_of_ble_eq_true rfl, Nat.le_of_ble_eq_true rfl⟩ dL_setCylinder_9 (fun E ce q9 H locs hex hP hD hS hce hcv hcl => ?_) (fun hex H locs hP hD hS => ?_)
  · skip
    obtain rfl : zIO = E := Option.some.inj (hx0.symm.trans hex)
    refine z_catch hown hts hE htab [] ⟨0, 14, 17, 13⟩ [⟨0, 14, 21, 19⟩] rfl (fun z hz => by cases hz) (by decide) (by decide) w_cl_L_13 (List.mem_of_getElem? (i := 0) rfl) hce hcv hcl ?_
    refine W.eq (g2 := F0 mq 17 ls [.ref q9]) rfl ?_
    refine lv_astore (lv' := [(6, .ref q9), (0, .ref (ad 3 0)), (1, .int cy), (2, .int sz), (3, .int sp), (4, .int lk), (5, .ref o)]) hx hb dL_setCylinder_17 hl (by decide) rfl (fun ls hl => ?_)
    refine lv_iconst (v := 1) hx hb dL_setCylinder_19 (by decide) ?_
    exact z_iretW hx hb hr hlk hK hP hD hS dL_setCylinder_20 (Nat.le_of_ble_eq_true rfl) (Nat.le_of_ble_eq_true rfl) rfl rfl
  · exact absurd (hx0.symm.trans hex) (fun h => nomatch h)

set_option maxHeartbeats 4000000 in
set_option maxRecDepth 100000 in
theorem c_L_setCylinder_e2 (l : Launch) (D : va_G) (cs : zCs) (hfl : l.stackTraces = false) (ad : Nat → Nat → Nat) (S : Nat → Int32) (F : Nat → Nat → Int32) (kd : Nat → Nat → Nat) (HS : Nat → Int32) (KS : Nat → Nat → Int32) (KF : Nat → Nat → Nat → Int32) (p n : Nat) (cy sz sp lk : Int32) (o : Nat) (OL : Nat → Int64) (hp : HS 0 = nI p) (hp4 : p < 4) (hn : HS 1 = nI n) (hn4 : n ≤ 4) (hx0 : (exT (0 ≤ cy ∧ cy ≤ 4) zIO (exT ((1 ≤ sz ∧ sz ≤ 9) ∧ (1 ≤ sp ∧ sp ≤ 50) ∧ (0 ≤ lk ∧ lk ≤ 20)) zIA none)) = some zIA) : zMw l D cs yL_setCylinder cL_setCylinder 7 (some FieldType.int) [((0), (14), (17), (13)), ((0), (14), (21), (19))] 8 178 2 12 [.ref (ad 3 0), .int cy, .int sz, .int sp, .int lk, .ref o] ((camW ad) ++ (macW cs (ad 0) S F) ++ (hisW cs (ad 4) kd HS) ++ (macW cs (kd 0) (KS 0) (KF 0)) ++ (macW cs (kd 1) (KS 1) (KF 1)) ++ (macW cs (kd 2) (KS 2) (KF 2)) ++ (macW cs (kd 3) (KS 3) (KF 3)) ++ [(o, .inl (cs.2.1, 1, .inr (.inl OL)))]) (some (.int 2)) ((camW ad) ++ (macW cs (ad 0) S F) ++ (hisW cs (ad 4) kd HS) ++ (macW cs (kd 0) (KS 0) (KF 0)) ++ (macW cs (kd 1) (KS 1) (KF 1)) ++ (macW cs (kd 2) (KS 2) (KF 2)) ++ (macW cs (kd 3) (KS 3) (KF 3)) ++ [(o, .inl (cs.2.1, 1, .inr (.inl OL)))]) := by
  refine zMw.of (own := RL) (by decide) (Nat.le_of_ble_eq_true rfl) rfl ?_
  intro pq eq s mq below meth cq A ls hx hb hr hml hown hts hlk htab hE hK hA hP hD hS hl
  have hl : lv_has ls 7 [(0, .ref (ad 3 0)), (1, .int cy), (2, .int sz), (3, .int sp), (4, .int lk), (5, .ref o)] := hl
  refine lv_aload hx hb dL_setCylinder_0 (lv_at hl 5 rfl) ?_
  refine lv_iconst (v := 0) hx hb dL_setCylinder_2 (by decide) ?_
  refine lv_aload_n hx hb dL_setCylinder_3 rfl (lv_at hl 0 rfl) ?_
  refine lv_iload_n hx hb dL_setCylinder_4 rfl (lv_at hl 1 rfl) ?_
  refine lv_iload_n hx hb dL_setCylinder_5 rfl (lv_at hl 2 rfl) ?_
  refine lv_iload_n hx hb dL_setCylinder_6 rfl (lv_at hl 3 rfl) ?_
  refine lv_iload hx hb dL_setCylinder_7 (lv_at hl 4 rfl) ?_
  refine z_callVx (wn := ((camW ad) ++ (macW cs (ad 0) S (zU (zU (zU F 2 (upd (F 2) (nN cy) sz)) 3 (upd (F 3) (nN cy) sp)) 4 (upd (F 4) (nN cy) lk))) ++ (hisW cs (ad 4) kd (upd (upd HS 0 (nI (hNx p))) 1 (nI (min (n + 1) 4)))) ++ (macW cs (kd 0) (kup KS (hNx p) S 0) (kup KF (hNx p) F 0)) ++ (macW cs (kd 1) (kup KS (hNx p) S 1) (kup KF (hNx p) F 1)) ++ (macW cs (kd 2) (kup KS (hNx p) S 2) (kup KF (hNx p) F 2)) ++ (macW cs (kd 3) (kup KS (hNx p) S 3) (kup KF (hNx p) F 3)) ++ [(o, .inl (cs.2.1, 1, .inr (.inl OL)))])) ⟨hx, hb, hml, hown, hts⟩ zY_X7_setCylinder w_im_yX7_setCylinder w_se_yX7_setCylinder w_ml_L_21 [.int cy, .int sz, .int sp, .int lk] [.int 0, .ref o] (c_X7_setCylinder l D cs hfl ad S F kd HS KS KF p n cy sz sp lk hp hp4 hn hn4) hE hK hA hP hD hS [0, 1, 2, 3, 4, 5, 6, 7, 8, 9, 10, 11, 12, 13, 14, 15, 16, 17, 18, 19, 20, 21, 22, 23, 24, 25, 26, 27, 28, 29, 30, 31, 32, 33, 34, 35, 36, 37, 38, 39, 40, 41, 42, 43, 44, 45, 46, 47, 48, 49, 50, 51, 52, 53, 54, 55, 56, 57, 58, 59, 60, 61, 62, 63, 64, 65, 66, 67, 68, 69, 70, 71, 72, 73, 74, 75, 76, 77, 78, 79, 80, 81, 82, 83, 84, 85, 86, 87] rfl rfl rfl rfl 7 rfl rfl rfl rfl hl.1 (Nat.le_of_ble_eq_true rfl) ⟨Nat.le_of_ble_eq_true rfl, Nat.le_of_ble_eq_true rfl⟩ ⟨Nat.le_of_ble_eq_true rfl, Nat.le_of_ble_eq_true rfl⟩ dL_setCylinder_9 (fun E ce q9 H locs hex hP hD hS hce hcv hcl => ?_) (fun hex H locs hP hD hS => ?_)
  · skip
    obtain rfl : zIA = E := Option.some.inj (hx0.symm.trans hex)
    refine z_catch hown hts hE htab [⟨0, 14, 17, 13⟩] ⟨0, 14, 21, 19⟩ [] rfl (fun z hz => by rcases List.mem_cons.mp hz with rfl | hz; exact ⟨by decide, zIO, w_cl_L_13, List.mem_of_getElem? (i := 0) rfl⟩; cases hz) (by decide) (by decide) w_cl_L_19 (List.mem_of_getElem? (i := 1) rfl) hce hcv hcl ?_
    refine W.eq (g2 := F0 mq 21 ls [.ref q9]) rfl ?_
    refine lv_astore (lv' := [(6, .ref q9), (0, .ref (ad 3 0)), (1, .int cy), (2, .int sz), (3, .int sp), (4, .int lk), (5, .ref o)]) hx hb dL_setCylinder_21 hl (by decide) rfl (fun ls hl => ?_)
    refine lv_iconst (v := 2) hx hb dL_setCylinder_23 (by decide) ?_
    exact z_iretW hx hb hr hlk hK hP hD hS dL_setCylinder_24 (Nat.le_of_ble_eq_true rfl) (Nat.le_of_ble_eq_true rfl) rfl rfl
  · exact absurd (hx0.symm.trans hex) (fun h => nomatch h)

set_option maxHeartbeats 4000000 in
set_option maxRecDepth 100000 in
theorem c_L_setAir_ok (l : Launch) (D : va_G) (cs : zCs) (hfl : l.stackTraces = false) (ad : Nat → Nat → Nat) (S : Nat → Int32) (F : Nat → Nat → Int32) (kd : Nat → Nat → Nat) (HS : Nat → Int32) (KS : Nat → Nat → Int32) (KF : Nat → Nat → Nat → Int32) (p n : Nat) (ca co : Int32) (o : Nat) (OL : Nat → Int64) (hp : HS 0 = nI p) (hp4 : p < 4) (hn : HS 1 = nI n) (hn4 : n ≤ 4) (hx0 : (exT ((100 ≤ ca ∧ ca ≤ 9999) ∧ (0 ≤ co ∧ co ≤ 500)) zIA none) = none) : zMw l D cs yL_setAir cL_setAir 5 (some FieldType.int) [((0), (10), (13), (19))] 7 176 1 6 [.ref (ad 3 0), .int ca, .int co, .ref o] ((camW ad) ++ (macW cs (ad 0) S F) ++ (hisW cs (ad 4) kd HS) ++ (macW cs (kd 0) (KS 0) (KF 0)) ++ (macW cs (kd 1) (KS 1) (KF 1)) ++ (macW cs (kd 2) (KS 2) (KF 2)) ++ (macW cs (kd 3) (KS 3) (KF 3)) ++ [(o, .inl (cs.2.1, 1, .inr (.inl OL)))]) (some (.int 0)) ((camW ad) ++ (macW cs (ad 0) (airOff (upd (upd S 6 ca) 7 co)) F) ++ (hisW cs (ad 4) kd (upd (upd HS 0 (nI (hNx p))) 1 (nI (min (n + 1) 4)))) ++ (macW cs (kd 0) (kup KS (hNx p) S 0) (kup KF (hNx p) F 0)) ++ (macW cs (kd 1) (kup KS (hNx p) S 1) (kup KF (hNx p) F 1)) ++ (macW cs (kd 2) (kup KS (hNx p) S 2) (kup KF (hNx p) F 2)) ++ (macW cs (kd 3) (kup KS (hNx p) S 3) (kup KF (hNx p) F 3)) ++ [(o, .inl (cs.2.1, 1, .inr (.inl (vp_updL OL 0 (airOff (upd (upd S 6 ca) 7 co) 5).toInt64))))]) := by
  refine zMw.of (own := RL) (by decide) (Nat.le_of_ble_eq_true rfl) rfl ?_
  intro pq eq s mq below meth cq A ls hx hb hr hml hown hts hlk htab hE hK hA hP hD hS hl
  have hl : lv_has ls 5 [(0, .ref (ad 3 0)), (1, .int ca), (2, .int co), (3, .ref o)] := hl
  refine lv_aload_n hx hb dL_setAir_0 rfl (lv_at hl 3 rfl) ?_
  refine lv_iconst (v := 0) hx hb dL_setAir_1 (by decide) ?_
  refine lv_aload_n hx hb dL_setAir_2 rfl (lv_at hl 0 rfl) ?_
  refine lv_iload_n hx hb dL_setAir_3 rfl (lv_at hl 1 rfl) ?_
  refine lv_iload_n hx hb dL_setAir_4 rfl (lv_at hl 2 rfl) ?_
  refine z_callVx (wn := ((camW ad) ++ (macW cs (ad 0) (airOff (upd (upd S 6 ca) 7 co)) F) ++ (hisW cs (ad 4) kd (upd (upd HS 0 (nI (hNx p))) 1 (nI (min (n + 1) 4)))) ++ (macW cs (kd 0) (kup KS (hNx p) S 0) (kup KF (hNx p) F 0)) ++ (macW cs (kd 1) (kup KS (hNx p) S 1) (kup KF (hNx p) F 1)) ++ (macW cs (kd 2) (kup KS (hNx p) S 2) (kup KF (hNx p) F 2)) ++ (macW cs (kd 3) (kup KS (hNx p) S 3) (kup KF (hNx p) F 3)) ++ [(o, .inl (cs.2.1, 1, .inr (.inl OL)))])) ⟨hx, hb, hml, hown, hts⟩ zY_X7_setAir w_im_yX7_setAir w_se_yX7_setAir w_ml_L_25 [.int ca, .int co] [.int 0, .ref o] (c_X7_setAir l D cs hfl ad S F kd HS KS KF p n ca co hp hp4 hn hn4) hE hK hA hP hD hS [0, 1, 2, 3, 4, 5, 6, 7, 8, 9, 10, 11, 12, 13, 14, 15, 16, 17, 18, 19, 20, 21, 22, 23, 24, 25, 26, 27, 28, 29, 30, 31, 32, 33, 34, 35, 36, 37, 38, 39, 40, 41, 42, 43, 44, 45, 46, 47, 48, 49, 50, 51, 52, 53, 54, 55, 56, 57, 58, 59, 60, 61, 62, 63, 64, 65, 66, 67, 68, 69, 70, 71, 72, 73, 74, 75, 76, 77, 78, 79, 80, 81, 82, 83, 84, 85, 86, 87] rfl rfl rfl rfl 7 rfl rfl rfl rfl hl.1 (Nat.le_of_ble_eq_true rfl) ⟨Nat.le_of_ble_eq_true rfl, Nat.le_of_ble_eq_true rfl⟩ ⟨Nat.le_of_ble_eq_true rfl, Nat.le_of_ble_eq_true rfl⟩ dL_setAir_5 (fun E ce q9 H locs hex hP hD hS hce hcv hcl => absurd (hx0.symm.trans hex) (fun h => nomatch h)) (fun hex H locs hP hD hS => ?_)
  have x_1 := exT_none hex
  refine lv_i2l (v := (airOff (upd (upd S 6 ca) 7 co) 5).toInt64) hx hb dL_setAir_8 rfl ?_
  refine va_last hx hb hK hP hD hS 88 1 rfl rfl (vp_in_nI (n := 0) (N := 1) (by decide) (by decide)) dL_setAir_9 (fun H locs hP hD hS => ?_)
  have hP : va_P D vwCl ((camW ad) ++ (macW cs (ad 0) (airOff (upd (upd S 6 ca) 7 co)) F) ++ (hisW cs (ad 4) kd (upd (upd HS 0 (nI (hNx p))) 1 (nI (min (n + 1) 4)))) ++ (macW cs (kd 0) (kup KS (hNx p) S 0) (kup KF (hNx p) F 0)) ++ (macW cs (kd 1) (kup KS (hNx p) S 1) (kup KF (hNx p) F 1)) ++ (macW cs (kd 2) (kup KS (hNx p) S 2) (kup KF (hNx p) F 2)) ++ (macW cs (kd 3) (kup KS (hNx p) S 3) (kup KF (hNx p) F 3)) ++ [(o, .inl (cs.2.1, 1, .inr (.inl (vp_updL OL 0 ((airOff (upd (upd S 6 ca) 7 co) 5).toInt64)))))]) H := hP
  have hD : va_D A ((camW ad) ++ (macW cs (ad 0) (airOff (upd (upd S 6 ca) 7 co)) F) ++ (hisW cs (ad 4) kd (upd (upd HS 0 (nI (hNx p))) 1 (nI (min (n + 1) 4)))) ++ (macW cs (kd 0) (kup KS (hNx p) S 0) (kup KF (hNx p) F 0)) ++ (macW cs (kd 1) (kup KS (hNx p) S 1) (kup KF (hNx p) F 1)) ++ (macW cs (kd 2) (kup KS (hNx p) S 2) (kup KF (hNx p) F 2)) ++ (macW cs (kd 3) (kup KS (hNx p) S 3) (kup KF (hNx p) F 3)) ++ [(o, .inl (cs.2.1, 1, .inr (.inl (vp_updL OL 0 ((airOff (upd (upd S 6 ca) 7 co) 5).toInt64)))))]) := hD
  refine lv_goto (tgt := 17) hx hb dL_setAir_10 (by decide) ?_
  refine lv_iconst (v := 0) hx hb dL_setAir_17 (by decide) ?_
  exact z_iretW hx hb hr hlk hK hP hD hS dL_setAir_18 (Nat.le_of_ble_eq_true rfl) (Nat.le_of_ble_eq_true rfl) rfl rfl

set_option maxHeartbeats 4000000 in
set_option maxRecDepth 100000 in
theorem c_L_setAir_e1 (l : Launch) (D : va_G) (cs : zCs) (hfl : l.stackTraces = false) (ad : Nat → Nat → Nat) (S : Nat → Int32) (F : Nat → Nat → Int32) (kd : Nat → Nat → Nat) (HS : Nat → Int32) (KS : Nat → Nat → Int32) (KF : Nat → Nat → Nat → Int32) (p n : Nat) (ca co : Int32) (o : Nat) (OL : Nat → Int64) (hp : HS 0 = nI p) (hp4 : p < 4) (hn : HS 1 = nI n) (hn4 : n ≤ 4) (hx0 : (exT ((100 ≤ ca ∧ ca ≤ 9999) ∧ (0 ≤ co ∧ co ≤ 500)) zIA none) = some zIA) : zMw l D cs yL_setAir cL_setAir 5 (some FieldType.int) [((0), (10), (13), (19))] 7 176 1 6 [.ref (ad 3 0), .int ca, .int co, .ref o] ((camW ad) ++ (macW cs (ad 0) S F) ++ (hisW cs (ad 4) kd HS) ++ (macW cs (kd 0) (KS 0) (KF 0)) ++ (macW cs (kd 1) (KS 1) (KF 1)) ++ (macW cs (kd 2) (KS 2) (KF 2)) ++ (macW cs (kd 3) (KS 3) (KF 3)) ++ [(o, .inl (cs.2.1, 1, .inr (.inl OL)))]) (some (.int 1)) ((camW ad) ++ (macW cs (ad 0) S F) ++ (hisW cs (ad 4) kd HS) ++ (macW cs (kd 0) (KS 0) (KF 0)) ++ (macW cs (kd 1) (KS 1) (KF 1)) ++ (macW cs (kd 2) (KS 2) (KF 2)) ++ (macW cs (kd 3) (KS 3) (KF 3)) ++ [(o, .inl (cs.2.1, 1, .inr (.inl OL)))]) := by
  refine zMw.of (own := RL) (by decide) (Nat.le_of_ble_eq_true rfl) rfl ?_
  intro pq eq s mq below meth cq A ls hx hb hr hml hown hts hlk htab hE hK hA hP hD hS hl
  have hl : lv_has ls 5 [(0, .ref (ad 3 0)), (1, .int ca), (2, .int co), (3, .ref o)] := hl
  refine lv_aload_n hx hb dL_setAir_0 rfl (lv_at hl 3 rfl) ?_
  refine lv_iconst (v := 0) hx hb dL_setAir_1 (by decide) ?_
  refine lv_aload_n hx hb dL_setAir_2 rfl (lv_at hl 0 rfl) ?_
  refine lv_iload_n hx hb dL_setAir_3 rfl (lv_at hl 1 rfl) ?_
  refine lv_iload_n hx hb dL_setAir_4 rfl (lv_at hl 2 rfl) ?_
  refine z_callVx (wn := ((camW ad) ++ (macW cs (ad 0) (airOff (upd (upd S 6 ca) 7 co)) F) ++ (hisW cs (ad 4) kd (upd (upd HS 0 (nI (hNx p))) 1 (nI (min (n + 1) 4)))) ++ (macW cs (kd 0) (kup KS (hNx p) S 0) (kup KF (hNx p) F 0)) ++ (macW cs (kd 1) (kup KS (hNx p) S 1) (kup KF (hNx p) F 1)) ++ (macW cs (kd 2) (kup KS (hNx p) S 2) (kup KF (hNx p) F 2)) ++ (macW cs (kd 3) (kup KS (hNx p) S 3) (kup KF (hNx p) F 3)) ++ [(o, .inl (cs.2.1, 1, .inr (.inl OL)))])) ⟨hx, hb, hml, hown, hts⟩ zY_X7_setAir w_im_yX7_setAir w_se_yX7_setAir w_ml_L_25 [.int ca, .int co] [.int 0, .ref o] (c_X7_setAir l D cs hfl ad S F kd HS KS KF p n ca co hp hp4 hn hn4) hE hK hA hP hD hS [0, 1, 2, 3, 4, 5, 6, 7, 8, 9, 10, 11, 12, 13, 14, 15, 16, 17, 18, 19, 20, 21, 22, 23, 24, 25, 26, 27, 28, 29, 30, 31, 32, 33, 34, 35, 36, 37, 38, 39, 40, 41, 42, 43, 44, 45, 46, 47, 48, 49, 50, 51, 52, 53, 54, 55, 56, 57, 58, 59, 60, 61, 62, 63, 64, 65, 66, 67, 68, 69, 70, 71, 72, 73, 74, 75, 76, 77, 78, 79, 80, 81, 82, 83, 84, 85, 86, 87] rfl rfl rfl rfl 7 rfl rfl rfl rfl hl.1 (Nat.le_of_ble_eq_true rfl) ⟨Nat.le_of_ble_eq_true rfl, Nat.le_of_ble_eq_true rfl⟩ ⟨Nat.le_of_ble_eq_true rfl, Nat.le_of_ble_eq_true rfl⟩ dL_setAir_5 (fun E ce q9 H locs hex hP hD hS hce hcv hcl => ?_) (fun hex H locs hP hD hS => ?_)
  · skip
    obtain rfl : zIA = E := Option.some.inj (hx0.symm.trans hex)
    refine z_catch hown hts hE htab [] ⟨0, 10, 13, 19⟩ [] rfl (fun z hz => by cases hz) (by decide) (by decide) w_cl_L_19 (List.mem_of_getElem? (i := 1) rfl) hce hcv hcl ?_
    refine W.eq (g2 := F0 mq 13 ls [.ref q9]) rfl ?_
    refine lv_astore (lv' := [(4, .ref q9), (0, .ref (ad 3 0)), (1, .int ca), (2, .int co), (3, .ref o)]) hx hb dL_setAir_13 hl (by decide) rfl (fun ls hl => ?_)
    refine lv_iconst (v := 1) hx hb dL_setAir_15 (by decide) ?_
    exact z_iretW hx hb hr hlk hK hP hD hS dL_setAir_16 (Nat.le_of_ble_eq_true rfl) (Nat.le_of_ble_eq_true rfl) rfl rfl
  · exact absurd (hx0.symm.trans hex) (fun h => nomatch h)

set_option maxHeartbeats 4000000 in
set_option maxRecDepth 100000 in
theorem c_L_addGuard_ok (l : Launch) (D : va_G) (cs : zCs) (hfl : l.stackTraces = false) (ad : Nat → Nat → Nat) (S : Nat → Int32) (F : Nat → Nat → Int32) (kd : Nat → Nat → Nat) (HS : Nat → Int32) (KS : Nat → Nat → Int32) (KF : Nat → Nat → Nat → Int32) (p n : Nat) (g o bd : Int32) (o : Nat) (OL : Nat → Int64) (hp : HS 0 = nI p) (hp4 : p < 4) (hn : HS 1 = nI n) (hn4 : n ≤ 4) (hg0 : 0 ≤ S 8) (hx0 : (exT (0 ≤ g ∧ g ≤ 4) zIO (exT (0 ≤ o ∧ o ≤ 4) zIO (exT ((¬ g = o) ∧ (1 ≤ bd ∧ bd ≤ 99)) zIA (exT ((S 8) < 4) zIS none)))) = none) : zMw l D cs yL_addGuard cL_addGuard 6 (some FieldType.int) [((0), (12), (15), (13)), ((0), (12), (19), (19)), ((0), (12), (23), (32))] 8 177 3 18 [.ref (ad 3 0), .int g, .int o, .int bd, .ref o] ((camW ad) ++ (macW cs (ad 0) S F) ++ (hisW cs (ad 4) kd HS) ++ (macW cs (kd 0) (KS 0) (KF 0)) ++ (macW cs (kd 1) (KS 1) (KF 1)) ++ (macW cs (kd 2) (KS 2) (KF 2)) ++ (macW cs (kd 3) (KS 3) (KF 3)) ++ [(o, .inl (cs.2.1, 1, .inr (.inl OL)))]) (some (.int 0)) ((camW ad) ++ (macW cs (ad 0) (upd S 8 ((S 8) + 1)) (zU (zU (zU F 7 (upd (F 7) (S 8).toNatClampNeg g)) 8 (upd (F 8) (S 8).toNatClampNeg o)) 9 (upd (F 9) (S 8).toNatClampNeg bd))) ++ (hisW cs (ad 4) kd (upd (upd HS 0 (nI (hNx p))) 1 (nI (min (n + 1) 4)))) ++ (macW cs (kd 0) (kup KS (hNx p) S 0) (kup KF (hNx p) F 0)) ++ (macW cs (kd 1) (kup KS (hNx p) S 1) (kup KF (hNx p) F 1)) ++ (macW cs (kd 2) (kup KS (hNx p) S 2) (kup KF (hNx p) F 2)) ++ (macW cs (kd 3) (kup KS (hNx p) S 3) (kup KF (hNx p) F 3)) ++ [(o, .inl (cs.2.1, 1, .inr (.inl (vp_updL OL 0 ((S 8) + 1 - 1).toInt64))))]) := by
  refine zMw.of (own := RL) (by decide) (Nat.le_of_ble_eq_true rfl) rfl ?_
  intro pq eq s mq below meth cq A ls hx hb hr hml hown hts hlk htab hE hK hA hP hD hS hl
  have hl : lv_has ls 6 [(0, .ref (ad 3 0)), (1, .int g), (2, .int o), (3, .int bd), (4, .ref o)] := hl
  refine lv_aload hx hb dL_addGuard_0 (lv_at hl 4 rfl) ?_
  refine lv_iconst (v := 0) hx hb dL_addGuard_2 (by decide) ?_
  refine lv_aload_n hx hb dL_addGuard_3 rfl (lv_at hl 0 rfl) ?_
  refine lv_iload_n hx hb dL_addGuard_4 rfl (lv_at hl 1 rfl) ?_
  refine lv_iload_n hx hb dL_addGuard_5 rfl (lv_at hl 2 rfl) ?_
  refine lv_iload_n hx hb dL_addGuard_6 rfl (lv_at hl 3 rfl) ?_
  refine z_callVx (wn := ((camW ad) ++ (macW cs (ad 0) (upd S 8 ((S 8) + 1)) (zU (zU (zU F 7 (upd (F 7) (S 8).toNatClampNeg g)) 8 (upd (F 8) (S 8).toNatClampNeg o)) 9 (upd (F 9) (S 8).toNatClampNeg bd))) ++ (hisW cs (ad 4) kd (upd (upd HS 0 (nI (hNx p))) 1 (nI (min (n + 1) 4)))) ++ (macW cs (kd 0) (kup KS (hNx p) S 0) (kup KF (hNx p) F 0)) ++ (macW cs (kd 1) (kup KS (hNx p) S 1) (kup KF (hNx p) F 1)) ++ (macW cs (kd 2) (kup KS (hNx p) S 2) (kup KF (hNx p) F 2)) ++ (macW cs (kd 3) (kup KS (hNx p) S 3) (kup KF (hNx p) F 3)) ++ [(o, .inl (cs.2.1, 1, .inr (.inl OL)))])) ⟨hx, hb, hml, hown, hts⟩ zY_X7_addGuard w_im_yX7_addGuard w_se_yX7_addGuard w_ml_L_28 [.int g, .int o, .int bd] [.int 0, .ref o] (c_X7_addGuard l D cs hfl ad S F kd HS KS KF p n g o bd hp hp4 hn hn4 hg0) hE hK hA hP hD hS [0, 1, 2, 3, 4, 5, 6, 7, 8, 9, 10, 11, 12, 13, 14, 15, 16, 17, 18, 19, 20, 21, 22, 23, 24, 25, 26, 27, 28, 29, 30, 31, 32, 33, 34, 35, 36, 37, 38, 39, 40, 41, 42, 43, 44, 45, 46, 47, 48, 49, 50, 51, 52, 53, 54, 55, 56, 57, 58, 59, 60, 61, 62, 63, 64, 65, 66, 67, 68, 69, 70, 71, 72, 73, 74, 75, 76, 77, 78, 79, 80, 81, 82, 83, 84, 85, 86, 87] rfl rfl rfl rfl 7 rfl rfl rfl rfl hl.1 (Nat.le_of_ble_eq_true rfl) ⟨Nat.le_of_ble_eq_true rfl, Nat.le_of_ble_eq_true rfl⟩ ⟨Nat.le_of_ble_eq_true rfl, Nat.le_of_ble_eq_true rfl⟩ dL_addGuard_7 (fun E ce q9 H locs hex hP hD hS hce hcv hcl => absurd (hx0.symm.trans hex) (fun h => nomatch h)) (fun hex H locs hP hD hS => ?_)
  have x_1 := exT_none hex
  refine lv_i2l (v := ((S 8) + 1 - 1).toInt64) hx hb dL_addGuard_10 rfl ?_
  refine va_last hx hb hK hP hD hS 88 1 rfl rfl (vp_in_nI (n := 0) (N := 1) (by decide) (by decide)) dL_addGuard_11 (fun H locs hP hD hS => ?_)
  have hP : va_P D vwCl ((camW ad) ++ (macW cs (ad 0) (upd S 8 ((S 8) + 1)) (zU (zU (zU F 7 (upd (F 7) (S 8).toNatClampNeg g)) 8 (upd (F 8) (S 8).toNatClampNeg o)) 9 (upd (F 9) (S 8).toNatClampNeg bd))) ++ (hisW cs (ad 4) kd (upd (upd HS 0 (nI (hNx p))) 1 (nI (min (n + 1) 4)))) ++ (macW cs (kd 0) (kup KS (hNx p) S 0) (kup KF (hNx p) F 0)) ++ (macW cs (kd 1) (kup KS (hNx p) S 1) (kup KF (hNx p) F 1)) ++ (macW cs (kd 2) (kup KS (hNx p) S 2) (kup KF (hNx p) F 2)) ++ (macW cs (kd 3) (kup KS (hNx p) S 3) (kup KF (hNx p) F 3)) ++ [(o, .inl (cs.2.1, 1, .inr (.inl (vp_updL OL 0 (((S 8) + 1 - 1).toInt64)))))]) H := hP
  have hD : va_D A ((camW ad) ++ (macW cs (ad 0) (upd S 8 ((S 8) + 1)) (zU (zU (zU F 7 (upd (F 7) (S 8).toNatClampNeg g)) 8 (upd (F 8) (S 8).toNatClampNeg o)) 9 (upd (F 9) (S 8).toNatClampNeg bd))) ++ (hisW cs (ad 4) kd (upd (upd HS 0 (nI (hNx p))) 1 (nI (min (n + 1) 4)))) ++ (macW cs (kd 0) (kup KS (hNx p) S 0) (kup KF (hNx p) F 0)) ++ (macW cs (kd 1) (kup KS (hNx p) S 1) (kup KF (hNx p) F 1)) ++ (macW cs (kd 2) (kup KS (hNx p) S 2) (kup KF (hNx p) F 2)) ++ (macW cs (kd 3) (kup KS (hNx p) S 3) (kup KF (hNx p) F 3)) ++ [(o, .inl (cs.2.1, 1, .inr (.inl (vp_updL OL 0 (((S 8) + 1 - 1).toInt64)))))]) := hD
  refine lv_goto (tgt := 27) hx hb dL_addGuard_12 (by decide) ?_
  refine lv_iconst (v := 0) hx hb dL_addGuard_27 (by decide) ?_
  exact z_iretW hx hb hr hlk hK hP hD hS dL_addGuard_28 (Nat.le_of_ble_eq_true rfl) (Nat.le_of_ble_eq_true rfl) rfl rfl

set_option maxHeartbeats 4000000 in
set_option maxRecDepth 100000 in
theorem c_L_addGuard_e1 (l : Launch) (D : va_G) (cs : zCs) (hfl : l.stackTraces = false) (ad : Nat → Nat → Nat) (S : Nat → Int32) (F : Nat → Nat → Int32) (kd : Nat → Nat → Nat) (HS : Nat → Int32) (KS : Nat → Nat → Int32) (KF : Nat → Nat → Nat → Int32) (p n : Nat) (g o bd : Int32) (o : Nat) (OL : Nat → Int64) (hp : HS 0 = nI p) (hp4 : p < 4) (hn : HS 1 = nI n) (hn4 : n ≤ 4) (hg0 : 0 ≤ S 8) (hx0 : (exT (0 ≤ g ∧ g ≤ 4) zIO (exT (0 ≤ o ∧ o ≤ 4) zIO (exT ((¬ g = o) ∧ (1 ≤ bd ∧ bd ≤ 99)) zIA (exT ((S 8) < 4) zIS none)))) = some zIO) : zMw l D cs yL_addGuard cL_addGuard 6 (some FieldType.int) [((0), (12), (15), (13)), ((0), (12), (19), (19)), ((0), (12), (23), (32))] 8 177 3 18 [.ref (ad 3 0), .int g, .int o, .int bd, .ref o] ((camW ad) ++ (macW cs (ad 0) S F) ++ (hisW cs (ad 4) kd HS) ++ (macW cs (kd 0) (KS 0) (KF 0)) ++ (macW cs (kd 1) (KS 1) (KF 1)) ++ (macW cs (kd 2) (KS 2) (KF 2)) ++ (macW cs (kd 3) (KS 3) (KF 3)) ++ [(o, .inl (cs.2.1, 1, .inr (.inl OL)))]) (some (.int 1)) ((camW ad) ++ (macW cs (ad 0) S F) ++ (hisW cs (ad 4) kd HS) ++ (macW cs (kd 0) (KS 0) (KF 0)) ++ (macW cs (kd 1) (KS 1) (KF 1)) ++ (macW cs (kd 2) (KS 2) (KF 2)) ++ (macW cs (kd 3) (KS 3) (KF 3)) ++ [(o, .inl (cs.2.1, 1, .inr (.inl OL)))]) := by
  refine zMw.of (own := RL) (by decide) (Nat.le_of_ble_eq_true rfl) rfl ?_
  intro pq eq s mq below meth cq A ls hx hb hr hml hown hts hlk htab hE hK hA hP hD hS hl
  have hl : lv_has ls 6 [(0, .ref (ad 3 0)), (1, .int g), (2, .int o), (3, .int bd), (4, .ref o)] := hl
  refine lv_aload hx hb dL_addGuard_0 (lv_at hl 4 rfl) ?_
  refine lv_iconst (v := 0) hx hb dL_addGuard_2 (by decide) ?_
  refine lv_aload_n hx hb dL_addGuard_3 rfl (lv_at hl 0 rfl) ?_
  refine lv_iload_n hx hb dL_addGuard_4 rfl (lv_at hl 1 rfl) ?_
  refine lv_iload_n hx hb dL_addGuard_5 rfl (lv_at hl 2 rfl) ?_
  refine lv_iload_n hx hb dL_addGuard_6 rfl (lv_at hl 3 rfl) ?_
  refine z_callVx (wn := ((camW ad) ++ (macW cs (ad 0) (upd S 8 ((S 8) + 1)) (zU (zU (zU F 7 (upd (F 7) (S 8).toNatClampNeg g)) 8 (upd (F 8) (S 8).toNatClampNeg o)) 9 (upd (F 9) (S 8).toNatClampNeg bd))) ++ (hisW cs (ad 4) kd (upd (upd HS 0 (nI (hNx p))) 1 (nI (min (n + 1) 4)))) ++ (macW cs (kd 0) (kup KS (hNx p) S 0) (kup KF (hNx p) F 0)) ++ (macW cs (kd 1) (kup KS (hNx p) S 1) (kup KF (hNx p) F 1)) ++ (macW cs (kd 2) (kup KS (hNx p) S 2) (kup KF (hNx p) F 2)) ++ (macW cs (kd 3) (kup KS (hNx p) S 3) (kup KF (hNx p) F 3)) ++ [(o, .inl (cs.2.1, 1, .inr (.inl OL)))])) ⟨hx, hb, hml, hown, hts⟩ zY_X7_addGuard w_im_yX7_addGuard w_se_yX7_addGuard w_ml_L_28 [.int g, .int o, .int bd] [.int 0, .ref o] (c_X7_addGuard l D cs hfl ad S F kd HS KS KF p n g o bd hp hp4 hn hn4 hg0) hE hK hA hP hD hS [0, 1, 2, 3, 4, 5, 6, 7, 8, 9, 10, 11, 12, 13, 14, 15, 16, 17, 18, 19, 20, 21, 22, 23, 24, 25, 26, 27, 28, 29, 30, 31, 32, 33, 34, 35, 36, 37, 38, 39, 40, 41, 42, 43, 44, 45, 46, 47, 48, 49, 50, 51, 52, 53, 54, 55, 56, 57, 58, 59, 60, 61, 62, 63, 64, 65, 66, 67, 68, 69, 70, 71, 72, 73, 74, 75, 76, 77, 78, 79, 80, 81, 82, 83, 84, 85, 86, 87] rfl rfl rfl rfl 7 rfl rfl rfl rfl hl.1 (Nat.le_of_ble_eq_true rfl) ⟨Nat.le_of_ble_eq_true rfl, Nat.le_of_ble_eq_true rfl⟩ ⟨Nat.le_of_ble_eq_true rfl, Nat.le_of_ble_eq_true rfl⟩ dL_addGuard_7 (fun E ce q9 H locs hex hP hD hS hce hcv hcl => ?_) (fun hex H locs hP hD hS => ?_)
  · skip
    obtain rfl : zIO = E := Option.some.inj (hx0.symm.trans hex)
    refine z_catch hown hts hE htab [] ⟨0, 12, 15, 13⟩ [⟨0, 12, 19, 19⟩, ⟨0, 12, 23, 32⟩] rfl (fun z hz => by cases hz) (by decide) (by decide) w_cl_L_13 (List.mem_of_getElem? (i := 0) rfl) hce hcv hcl ?_
    refine W.eq (g2 := F0 mq 15 ls [.ref q9]) rfl ?_
    refine lv_astore (lv' := [(5, .ref q9), (0, .ref (ad 3 0)), (1, .int g), (2, .int o), (3, .int bd), (4, .ref o)]) hx hb dL_addGuard_15 hl (by decide) rfl (fun ls hl => ?_)
    refine lv_iconst (v := 1) hx hb dL_addGuard_17 (by decide) ?_
    exact z_iretW hx hb hr hlk hK hP hD hS dL_addGuard_18 (Nat.le_of_ble_eq_true rfl) (Nat.le_of_ble_eq_true rfl) rfl rfl
  · exact absurd (hx0.symm.trans hex) (fun h => nomatch h)

set_option maxHeartbeats 4000000 in
set_option maxRecDepth 100000 in
theorem c_L_addGuard_e2 (l : Launch) (D : va_G) (cs : zCs) (hfl : l.stackTraces = false) (ad : Nat → Nat → Nat) (S : Nat → Int32) (F : Nat → Nat → Int32) (kd : Nat → Nat → Nat) (HS : Nat → Int32) (KS : Nat → Nat → Int32) (KF : Nat → Nat → Nat → Int32) (p n : Nat) (g o bd : Int32) (o : Nat) (OL : Nat → Int64) (hp : HS 0 = nI p) (hp4 : p < 4) (hn : HS 1 = nI n) (hn4 : n ≤ 4) (hg0 : 0 ≤ S 8) (hx0 : (exT (0 ≤ g ∧ g ≤ 4) zIO (exT (0 ≤ o ∧ o ≤ 4) zIO (exT ((¬ g = o) ∧ (1 ≤ bd ∧ bd ≤ 99)) zIA (exT ((S 8) < 4) zIS none)))) = some zIA) : zMw l D cs yL_addGuard cL_addGuard 6 (some FieldType.int) [((0), (12), (15), (13)), ((0), (12), (19), (19)), ((0), (12), (23), (32))] 8 177 3 18 [.ref (ad 3 0), .int g, .int o, .int bd, .ref o] ((camW ad) ++ (macW cs (ad 0) S F) ++ (hisW cs (ad 4) kd HS) ++ (macW cs (kd 0) (KS 0) (KF 0)) ++ (macW cs (kd 1) (KS 1) (KF 1)) ++ (macW cs (kd 2) (KS 2) (KF 2)) ++ (macW cs (kd 3) (KS 3) (KF 3)) ++ [(o, .inl (cs.2.1, 1, .inr (.inl OL)))]) (some (.int 2)) ((camW ad) ++ (macW cs (ad 0) S F) ++ (hisW cs (ad 4) kd HS) ++ (macW cs (kd 0) (KS 0) (KF 0)) ++ (macW cs (kd 1) (KS 1) (KF 1)) ++ (macW cs (kd 2) (KS 2) (KF 2)) ++ (macW cs (kd 3) (KS 3) (KF 3)) ++ [(o, .inl (cs.2.1, 1, .inr (.inl OL)))]) := by
  refine zMw.of (own := RL) (by decide) (Nat.le_of_ble_eq_true rfl) rfl ?_
  intro pq eq s mq below meth cq A ls hx hb hr hml hown hts hlk htab hE hK hA hP hD hS hl
  have hl : lv_has ls 6 [(0, .ref (ad 3 0)), (1, .int g), (2, .int o), (3, .int bd), (4, .ref o)] := hl
  refine lv_aload hx hb dL_addGuard_0 (lv_at hl 4 rfl) ?_
  refine lv_iconst (v := 0) hx hb dL_addGuard_2 (by decide) ?_
  refine lv_aload_n hx hb dL_addGuard_3 rfl (lv_at hl 0 rfl) ?_
  refine lv_iload_n hx hb dL_addGuard_4 rfl (lv_at hl 1 rfl) ?_
  refine lv_iload_n hx hb dL_addGuard_5 rfl (lv_at hl 2 rfl) ?_
  refine lv_iload_n hx hb dL_addGuard_6 rfl (lv_at hl 3 rfl) ?_
  refine z_callVx (wn := ((camW ad) ++ (macW cs (ad 0) (upd S 8 ((S 8) + 1)) (zU (zU (zU F 7 (upd (F 7) (S 8).toNatClampNeg g)) 8 (upd (F 8) (S 8).toNatClampNeg o)) 9 (upd (F 9) (S 8).toNatClampNeg bd))) ++ (hisW cs (ad 4) kd (upd (upd HS 0 (nI (hNx p))) 1 (nI (min (n + 1) 4)))) ++ (macW cs (kd 0) (kup KS (hNx p) S 0) (kup KF (hNx p) F 0)) ++ (macW cs (kd 1) (kup KS (hNx p) S 1) (kup KF (hNx p) F 1)) ++ (macW cs (kd 2) (kup KS (hNx p) S 2) (kup KF (hNx p) F 2)) ++ (macW cs (kd 3) (kup KS (hNx p) S 3) (kup KF (hNx p) F 3)) ++ [(o, .inl (cs.2.1, 1, .inr (.inl OL)))])) ⟨hx, hb, hml, hown, hts⟩ zY_X7_addGuard w_im_yX7_addGuard w_se_yX7_addGuard w_ml_L_28 [.int g, .int o, .int bd] [.int 0, .ref o] (c_X7_addGuard l D cs hfl ad S F kd HS KS KF p n g o bd hp hp4 hn hn4 hg0) hE hK hA hP hD hS [0, 1, 2, 3, 4, 5, 6, 7, 8, 9, 10, 11, 12, 13, 14, 15, 16, 17, 18, 19, 20, 21, 22, 23, 24, 25, 26, 27, 28, 29, 30, 31, 32, 33, 34, 35, 36, 37, 38, 39, 40, 41, 42, 43, 44, 45, 46, 47, 48, 49, 50, 51, 52, 53, 54, 55, 56, 57, 58, 59, 60, 61, 62, 63, 64, 65, 66, 67, 68, 69, 70, 71, 72, 73, 74, 75, 76, 77, 78, 79, 80, 81, 82, 83, 84, 85, 86, 87] rfl rfl rfl rfl 7 rfl rfl rfl rfl hl.1 (Nat.le_of_ble_eq_true rfl) ⟨Nat.le_of_ble_eq_true rfl, Nat.le_of_ble_eq_true rfl⟩ ⟨Nat.le_of_ble_eq_true rfl, Nat.le_of_ble_eq_true rfl⟩ dL_addGuard_7 (fun E ce q9 H locs hex hP hD hS hce hcv hcl => ?_) (fun hex H locs hP hD hS => ?_)
  · skip
    obtain rfl : zIA = E := Option.some.inj (hx0.symm.trans hex)
    refine z_catch hown hts hE htab [⟨0, 12, 15, 13⟩] ⟨0, 12, 19, 19⟩ [⟨0, 12, 23, 32⟩] rfl (fun z hz => by rcases List.mem_cons.mp hz with rfl | hz; exact ⟨by decide, zIO, w_cl_L_13, List.mem_of_getElem? (i := 0) rfl⟩; cases hz) (by decide) (by decide) w_cl_L_19 (List.mem_of_getElem? (i := 1) rfl) hce hcv hcl ?_
    refine W.eq (g2 := F0 mq 19 ls [.ref q9]) rfl ?_
    refine lv_astore (lv' := [(5, .ref q9), (0, .ref (ad 3 0)), (1, .int g), (2, .int o), (3, .int bd), (4, .ref o)]) hx hb dL_addGuard_19 hl (by decide) rfl (fun ls hl => ?_)
    refine lv_iconst (v := 2) hx hb dL_addGuard_21 (by decide) ?_
    exact z_iretW hx hb hr hlk hK hP hD hS dL_addGuard_22 (Nat.le_of_ble_eq_true rfl) (Nat.le_of_ble_eq_true rfl) rfl rfl
  · exact absurd (hx0.symm.trans hex) (fun h => nomatch h)

set_option maxHeartbeats 4000000 in
set_option maxRecDepth 100000 in
theorem c_L_addGuard_e3 (l : Launch) (D : va_G) (cs : zCs) (hfl : l.stackTraces = false) (ad : Nat → Nat → Nat) (S : Nat → Int32) (F : Nat → Nat → Int32) (kd : Nat → Nat → Nat) (HS : Nat → Int32) (KS : Nat → Nat → Int32) (KF : Nat → Nat → Nat → Int32) (p n : Nat) (g o bd : Int32) (o : Nat) (OL : Nat → Int64) (hp : HS 0 = nI p) (hp4 : p < 4) (hn : HS 1 = nI n) (hn4 : n ≤ 4) (hg0 : 0 ≤ S 8) (hx0 : (exT (0 ≤ g ∧ g ≤ 4) zIO (exT (0 ≤ o ∧ o ≤ 4) zIO (exT ((¬ g = o) ∧ (1 ≤ bd ∧ bd ≤ 99)) zIA (exT ((S 8) < 4) zIS none)))) = some zIS) : zMw l D cs yL_addGuard cL_addGuard 6 (some FieldType.int) [((0), (12), (15), (13)), ((0), (12), (19), (19)), ((0), (12), (23), (32))] 8 177 3 18 [.ref (ad 3 0), .int g, .int o, .int bd, .ref o] ((camW ad) ++ (macW cs (ad 0) S F) ++ (hisW cs (ad 4) kd HS) ++ (macW cs (kd 0) (KS 0) (KF 0)) ++ (macW cs (kd 1) (KS 1) (KF 1)) ++ (macW cs (kd 2) (KS 2) (KF 2)) ++ (macW cs (kd 3) (KS 3) (KF 3)) ++ [(o, .inl (cs.2.1, 1, .inr (.inl OL)))]) (some (.int 3)) ((camW ad) ++ (macW cs (ad 0) S F) ++ (hisW cs (ad 4) kd HS) ++ (macW cs (kd 0) (KS 0) (KF 0)) ++ (macW cs (kd 1) (KS 1) (KF 1)) ++ (macW cs (kd 2) (KS 2) (KF 2)) ++ (macW cs (kd 3) (KS 3) (KF 3)) ++ [(o, .inl (cs.2.1, 1, .inr (.inl OL)))]) := by
  refine zMw.of (own := RL) (by decide) (Nat.le_of_ble_eq_true rfl) rfl ?_
  intro pq eq s mq below meth cq A ls hx hb hr hml hown hts hlk htab hE hK hA hP hD hS hl
  have hl : lv_has ls 6 [(0, .ref (ad 3 0)), (1, .int g), (2, .int o), (3, .int bd), (4, .ref o)] := hl
  refine lv_aload hx hb dL_addGuard_0 (lv_at hl 4 rfl) ?_
  refine lv_iconst (v := 0) hx hb dL_addGuard_2 (by decide) ?_
  refine lv_aload_n hx hb dL_addGuard_3 rfl (lv_at hl 0 rfl) ?_
  refine lv_iload_n hx hb dL_addGuard_4 rfl (lv_at hl 1 rfl) ?_
  refine lv_iload_n hx hb dL_addGuard_5 rfl (lv_at hl 2 rfl) ?_
  refine lv_iload_n hx hb dL_addGuard_6 rfl (lv_at hl 3 rfl) ?_
  refine z_callVx (wn := ((camW ad) ++ (macW cs (ad 0) (upd S 8 ((S 8) + 1)) (zU (zU (zU F 7 (upd (F 7) (S 8).toNatClampNeg g)) 8 (upd (F 8) (S 8).toNatClampNeg o)) 9 (upd (F 9) (S 8).toNatClampNeg bd))) ++ (hisW cs (ad 4) kd (upd (upd HS 0 (nI (hNx p))) 1 (nI (min (n + 1) 4)))) ++ (macW cs (kd 0) (kup KS (hNx p) S 0) (kup KF (hNx p) F 0)) ++ (macW cs (kd 1) (kup KS (hNx p) S 1) (kup KF (hNx p) F 1)) ++ (macW cs (kd 2) (kup KS (hNx p) S 2) (kup KF (hNx p) F 2)) ++ (macW cs (kd 3) (kup KS (hNx p) S 3) (kup KF (hNx p) F 3)) ++ [(o, .inl (cs.2.1, 1, .inr (.inl OL)))])) ⟨hx, hb, hml, hown, hts⟩ zY_X7_addGuard w_im_yX7_addGuard w_se_yX7_addGuard w_ml_L_28 [.int g, .int o, .int bd] [.int 0, .ref o] (c_X7_addGuard l D cs hfl ad S F kd HS KS KF p n g o bd hp hp4 hn hn4 hg0) hE hK hA hP hD hS [0, 1, 2, 3, 4, 5, 6, 7, 8, 9, 10, 11, 12, 13, 14, 15, 16, 17, 18, 19, 20, 21, 22, 23, 24, 25, 26, 27, 28, 29, 30, 31, 32, 33, 34, 35, 36, 37, 38, 39, 40, 41, 42, 43, 44, 45, 46, 47, 48, 49, 50, 51, 52, 53, 54, 55, 56, 57, 58, 59, 60, 61, 62, 63, 64, 65, 66, 67, 68, 69, 70, 71, 72, 73, 74, 75, 76, 77, 78, 79, 80, 81, 82, 83, 84, 85, 86, 87] rfl rfl rfl rfl 7 rfl rfl rfl rfl hl.1 (Nat.le_of_ble_eq_true rfl) ⟨Nat.le_of_ble_eq_true rfl, Nat.le_of_ble_eq_true rfl⟩ ⟨Nat.le_of_ble_eq_true rfl, Nat.le_of_ble_eq_true rfl⟩ dL_addGuard_7 (fun E ce q9 H locs hex hP hD hS hce hcv hcl => ?_) (fun hex H locs hP hD hS => ?_)
  · skip
    obtain rfl : zIS = E := Option.some.inj (hx0.symm.trans hex)
    refine z_catch hown hts hE htab [⟨0, 12, 15, 13⟩, ⟨0, 12, 19, 19⟩] ⟨0, 12, 23, 32⟩ [] rfl (fun z hz => by rcases List.mem_cons.mp hz with rfl | hz; exact ⟨by decide, zIO, w_cl_L_13, List.mem_of_getElem? (i := 1) rfl⟩; rcases List.mem_cons.mp hz with rfl | hz; exact ⟨by decide, zIA, w_cl_L_19, List.mem_of_getElem? (i := 3) rfl⟩; cases hz) (by decide) (by decide) w_cl_L_32 (List.mem_of_getElem? (i := 2) rfl) hce hcv hcl ?_
    refine W.eq (g2 := F0 mq 23 ls [.ref q9]) rfl ?_
    refine lv_astore (lv' := [(5, .ref q9), (0, .ref (ad 3 0)), (1, .int g), (2, .int o), (3, .int bd), (4, .ref o)]) hx hb dL_addGuard_23 hl (by decide) rfl (fun ls hl => ?_)
    refine lv_iconst (v := 3) hx hb dL_addGuard_25 (by decide) ?_
    exact z_iretW hx hb hr hlk hK hP hD hS dL_addGuard_26 (Nat.le_of_ble_eq_true rfl) (Nat.le_of_ble_eq_true rfl) rfl rfl
  · exact absurd (hx0.symm.trans hex) (fun h => nomatch h)

set_option maxHeartbeats 4000000 in
set_option maxRecDepth 100000 in
theorem c_L_removeGuard_ok (l : Launch) (D : va_G) (cs : zCs) (hfl : l.stackTraces = false) (ad : Nat → Nat → Nat) (S : Nat → Int32) (F : Nat → Nat → Int32) (kd : Nat → Nat → Nat) (HS : Nat → Int32) (KS : Nat → Nat → Int32) (KF : Nat → Nat → Nat → Int32) (p n : Nat) (g : Int32) (gn : Nat) (o : Nat) (OL : Nat → Int64) (hp : HS 0 = nI p) (hp4 : p < 4) (hn : HS 1 = nI n) (hn4 : n ≤ 4) (hS8 : S 8 = nI gn) (hg4 : gn ≤ 4) (hx0 : (exT (0 ≤ g ∧ g ≤ zmin (S 8) 4 - 1) zIO none) = none) : zMw l D cs yL_removeGuard cL_removeGuard 4 (some FieldType.int) [((0), (9), (12), (13))] 8 175 1 6 [.ref (ad 3 0), .int g, .ref o] ((camW ad) ++ (macW cs (ad 0) S F) ++ (hisW cs (ad 4) kd HS) ++ (macW cs (kd 0) (KS 0) (KF 0)) ++ (macW cs (kd 1) (KS 1) (KF 1)) ++ (macW cs (kd 2) (KS 2) (KF 2)) ++ (macW cs (kd 3) (KS 3) (KF 3)) ++ [(o, .inl (cs.2.1, 1, .inr (.inl OL)))]) (some (.int 0)) ((camW ad) ++ (macW cs (ad 0) (upd S 8 (nI (gn - 1))) (zU (zU (zU F 7 (toF (gn - 1 - nN g) (nN g) F 7)) 8 (toF (gn - 1 - nN g) (nN g) F 8)) 9 (toF (gn - 1 - nN g) (nN g) F 9))) ++ (hisW cs (ad 4) kd (upd (upd HS 0 (nI (hNx p))) 1 (nI (min (n + 1) 4)))) ++ (macW cs (kd 0) (kup KS (hNx p) S 0) (kup KF (hNx p) F 0)) ++ (macW cs (kd 1) (kup KS (hNx p) S 1) (kup KF (hNx p) F 1)) ++ (macW cs (kd 2) (kup KS (hNx p) S 2) (kup KF (hNx p) F 2)) ++ (macW cs (kd 3) (kup KS (hNx p) S 3) (kup KF (hNx p) F 3)) ++ [(o, .inl (cs.2.1, 1, .inr (.inl (vp_updL OL 0 (nI (gn - 1)).toInt64))))]) := by
  refine zMw.of (own := RL) (by decide) (Nat.le_of_ble_eq_true rfl) rfl ?_
  intro pq eq s mq below meth cq A ls hx hb hr hml hown hts hlk htab hE hK hA hP hD hS hl
  have hl : lv_has ls 4 [(0, .ref (ad 3 0)), (1, .int g), (2, .ref o)] := hl
  refine lv_aload_n hx hb dL_removeGuard_0 rfl (lv_at hl 2 rfl) ?_
  refine lv_iconst (v := 0) hx hb dL_removeGuard_1 (by decide) ?_
  refine lv_aload_n hx hb dL_removeGuard_2 rfl (lv_at hl 0 rfl) ?_
  refine lv_iload_n hx hb dL_removeGuard_3 rfl (lv_at hl 1 rfl) ?_
  refine z_callVx (wn := ((camW ad) ++ (macW cs (ad 0) (upd S 8 (nI (gn - 1))) (zU (zU (zU F 7 (toF (gn - 1 - nN g) (nN g) F 7)) 8 (toF (gn - 1 - nN g) (nN g) F 8)) 9 (toF (gn - 1 - nN g) (nN g) F 9))) ++ (hisW cs (ad 4) kd (upd (upd HS 0 (nI (hNx p))) 1 (nI (min (n + 1) 4)))) ++ (macW cs (kd 0) (kup KS (hNx p) S 0) (kup KF (hNx p) F 0)) ++ (macW cs (kd 1) (kup KS (hNx p) S 1) (kup KF (hNx p) F 1)) ++ (macW cs (kd 2) (kup KS (hNx p) S 2) (kup KF (hNx p) F 2)) ++ (macW cs (kd 3) (kup KS (hNx p) S 3) (kup KF (hNx p) F 3)) ++ [(o, .inl (cs.2.1, 1, .inr (.inl OL)))])) ⟨hx, hb, hml, hown, hts⟩ zY_X7_removeGuard w_im_yX7_removeGuard w_se_yX7_removeGuard w_ml_L_34 [.int g] [.int 0, .ref o] (c_X7_removeGuard l D cs hfl ad S F kd HS KS KF p n g gn hp hp4 hn hn4 hS8 hg4) hE hK hA hP hD hS [0, 1, 2, 3, 4, 5, 6, 7, 8, 9, 10, 11, 12, 13, 14, 15, 16, 17, 18, 19, 20, 21, 22, 23, 24, 25, 26, 27, 28, 29, 30, 31, 32, 33, 34, 35, 36, 37, 38, 39, 40, 41, 42, 43, 44, 45, 46, 47, 48, 49, 50, 51, 52, 53, 54, 55, 56, 57, 58, 59, 60, 61, 62, 63, 64, 65, 66, 67, 68, 69, 70, 71, 72, 73, 74, 75, 76, 77, 78, 79, 80, 81, 82, 83, 84, 85, 86, 87] rfl rfl rfl rfl 7 rfl rfl rfl rfl hl.1 (Nat.le_of_ble_eq_true rfl) ⟨Nat.le_of_ble_eq_true rfl, Nat.le_of_ble_eq_true rfl⟩ ⟨Nat.le_of_ble_eq_true rfl, Nat.le_of_ble_eq_true rfl⟩ dL_removeGuard_4 (fun E ce q9 H locs hex hP hD hS hce hcv hcl => absurd (hx0.symm.trans hex) (fun h => nomatch h)) (fun hex H locs hP hD hS => ?_)
  have x_1 := exT_none hex
  refine lv_i2l (v := (nI (gn - 1)).toInt64) hx hb dL_removeGuard_7 rfl ?_
  refine va_last hx hb hK hP hD hS 88 1 rfl rfl (vp_in_nI (n := 0) (N := 1) (by decide) (by decide)) dL_removeGuard_8 (fun H locs hP hD hS => ?_)
  have hP : va_P D vwCl ((camW ad) ++ (macW cs (ad 0) (upd S 8 (nI (gn - 1))) (zU (zU (zU F 7 (toF (gn - 1 - nN g) (nN g) F 7)) 8 (toF (gn - 1 - nN g) (nN g) F 8)) 9 (toF (gn - 1 - nN g) (nN g) F 9))) ++ (hisW cs (ad 4) kd (upd (upd HS 0 (nI (hNx p))) 1 (nI (min (n + 1) 4)))) ++ (macW cs (kd 0) (kup KS (hNx p) S 0) (kup KF (hNx p) F 0)) ++ (macW cs (kd 1) (kup KS (hNx p) S 1) (kup KF (hNx p) F 1)) ++ (macW cs (kd 2) (kup KS (hNx p) S 2) (kup KF (hNx p) F 2)) ++ (macW cs (kd 3) (kup KS (hNx p) S 3) (kup KF (hNx p) F 3)) ++ [(o, .inl (cs.2.1, 1, .inr (.inl (vp_updL OL 0 ((nI (gn - 1)).toInt64)))))]) H := hP
  have hD : va_D A ((camW ad) ++ (macW cs (ad 0) (upd S 8 (nI (gn - 1))) (zU (zU (zU F 7 (toF (gn - 1 - nN g) (nN g) F 7)) 8 (toF (gn - 1 - nN g) (nN g) F 8)) 9 (toF (gn - 1 - nN g) (nN g) F 9))) ++ (hisW cs (ad 4) kd (upd (upd HS 0 (nI (hNx p))) 1 (nI (min (n + 1) 4)))) ++ (macW cs (kd 0) (kup KS (hNx p) S 0) (kup KF (hNx p) F 0)) ++ (macW cs (kd 1) (kup KS (hNx p) S 1) (kup KF (hNx p) F 1)) ++ (macW cs (kd 2) (kup KS (hNx p) S 2) (kup KF (hNx p) F 2)) ++ (macW cs (kd 3) (kup KS (hNx p) S 3) (kup KF (hNx p) F 3)) ++ [(o, .inl (cs.2.1, 1, .inr (.inl (vp_updL OL 0 ((nI (gn - 1)).toInt64)))))]) := hD
  refine lv_goto (tgt := 15) hx hb dL_removeGuard_9 (by decide) ?_
  refine lv_iconst (v := 0) hx hb dL_removeGuard_15 (by decide) ?_
  exact z_iretW hx hb hr hlk hK hP hD hS dL_removeGuard_16 (Nat.le_of_ble_eq_true rfl) (Nat.le_of_ble_eq_true rfl) rfl rfl

set_option maxHeartbeats 4000000 in
set_option maxRecDepth 100000 in
theorem c_L_removeGuard_e1 (l : Launch) (D : va_G) (cs : zCs) (hfl : l.stackTraces = false) (ad : Nat → Nat → Nat) (S : Nat → Int32) (F : Nat → Nat → Int32) (kd : Nat → Nat → Nat) (HS : Nat → Int32) (KS : Nat → Nat → Int32) (KF : Nat → Nat → Nat → Int32) (p n : Nat) (g : Int32) (gn : Nat) (o : Nat) (OL : Nat → Int64) (hp : HS 0 = nI p) (hp4 : p < 4) (hn : HS 1 = nI n) (hn4 : n ≤ 4) (hS8 : S 8 = nI gn) (hg4 : gn ≤ 4) (hx0 : (exT (0 ≤ g ∧ g ≤ zmin (S 8) 4 - 1) zIO none) = some zIO) : zMw l D cs yL_removeGuard cL_removeGuard 4 (some FieldType.int) [((0), (9), (12), (13))] 8 175 1 6 [.ref (ad 3 0), .int g, .ref o] ((camW ad) ++ (macW cs (ad 0) S F) ++ (hisW cs (ad 4) kd HS) ++ (macW cs (kd 0) (KS 0) (KF 0)) ++ (macW cs (kd 1) (KS 1) (KF 1)) ++ (macW cs (kd 2) (KS 2) (KF 2)) ++ (macW cs (kd 3) (KS 3) (KF 3)) ++ [(o, .inl (cs.2.1, 1, .inr (.inl OL)))]) (some (.int 1)) ((camW ad) ++ (macW cs (ad 0) S F) ++ (hisW cs (ad 4) kd HS) ++ (macW cs (kd 0) (KS 0) (KF 0)) ++ (macW cs (kd 1) (KS 1) (KF 1)) ++ (macW cs (kd 2) (KS 2) (KF 2)) ++ (macW cs (kd 3) (KS 3) (KF 3)) ++ [(o, .inl (cs.2.1, 1, .inr (.inl OL)))]) := by
  refine zMw.of (own := RL) (by decide) (Nat.le_of_ble_eq_true rfl) rfl ?_
  intro pq eq s mq below meth cq A ls hx hb hr hml hown hts hlk htab hE hK hA hP hD hS hl
  have hl : lv_has ls 4 [(0, .ref (ad 3 0)), (1, .int g), (2, .ref o)] := hl
  refine lv_aload_n hx hb dL_removeGuard_0 rfl (lv_at hl 2 rfl) ?_
  refine lv_iconst (v := 0) hx hb dL_removeGuard_1 (by decide) ?_
  refine lv_aload_n hx hb dL_removeGuard_2 rfl (lv_at hl 0 rfl) ?_
  refine lv_iload_n hx hb dL_removeGuard_3 rfl (lv_at hl 1 rfl) ?_
  refine z_callVx (wn := ((camW ad) ++ (macW cs (ad 0) (upd S 8 (nI (gn - 1))) (zU (zU (zU F 7 (toF (gn - 1 - nN g) (nN g) F 7)) 8 (toF (gn - 1 - nN g) (nN g) F 8)) 9 (toF (gn - 1 - nN g) (nN g) F 9))) ++ (hisW cs (ad 4) kd (upd (upd HS 0 (nI (hNx p))) 1 (nI (min (n + 1) 4)))) ++ (macW cs (kd 0) (kup KS (hNx p) S 0) (kup KF (hNx p) F 0)) ++ (macW cs (kd 1) (kup KS (hNx p) S 1) (kup KF (hNx p) F 1)) ++ (macW cs (kd 2) (kup KS (hNx p) S 2) (kup KF (hNx p) F 2)) ++ (macW cs (kd 3) (kup KS (hNx p) S 3) (kup KF (hNx p) F 3)) ++ [(o, .inl (cs.2.1, 1, .inr (.inl OL)))])) ⟨hx, hb, hml, hown, hts⟩ zY_X7_removeGuard w_im_yX7_removeGuard w_se_yX7_removeGuard w_ml_L_34 [.int g] [.int 0, .ref o] (c_X7_removeGuard l D cs hfl ad S F kd HS KS KF p n g gn hp hp4 hn hn4 hS8 hg4) hE hK hA hP hD hS [0, 1, 2, 3, 4, 5, 6, 7, 8, 9, 10, 11, 12, 13, 14, 15, 16, 17, 18, 19, 20, 21, 22, 23, 24, 25, 26, 27, 28, 29, 30, 31, 32, 33, 34, 35, 36, 37, 38, 39, 40, 41, 42, 43, 44, 45, 46, 47, 48, 49, 50, 51, 52, 53, 54, 55, 56, 57, 58, 59, 60, 61, 62, 63, 64, 65, 66, 67, 68, 69, 70, 71, 72, 73, 74, 75, 76, 77, 78, 79, 80, 81, 82, 83, 84, 85, 86, 87] rfl rfl rfl rfl 7 rfl rfl rfl rfl hl.1 (Nat.le_of_ble_eq_true rfl) ⟨Nat.le_of_ble_eq_true rfl, Nat.le_of_ble_eq_true rfl⟩ ⟨Nat.le_of_ble_eq_true rfl, Nat.le_of_ble_eq_true rfl⟩ dL_removeGuard_4 (fun E ce q9 H locs hex hP hD hS hce hcv hcl => ?_) (fun hex H locs hP hD hS => ?_)
  · skip
    obtain rfl : zIO = E := Option.some.inj (hx0.symm.trans hex)
    refine z_catch hown hts hE htab [] ⟨0, 9, 12, 13⟩ [] rfl (fun z hz => by cases hz) (by decide) (by decide) w_cl_L_13 (List.mem_of_getElem? (i := 0) rfl) hce hcv hcl ?_
    refine W.eq (g2 := F0 mq 12 ls [.ref q9]) rfl ?_
    refine lv_astore_n (lv' := [(3, .ref q9), (0, .ref (ad 3 0)), (1, .int g), (2, .ref o)]) hx hb dL_removeGuard_12 rfl hl (by decide) rfl (fun ls hl => ?_)
    refine lv_iconst (v := 1) hx hb dL_removeGuard_13 (by decide) ?_
    exact z_iretW hx hb hr hlk hK hP hD hS dL_removeGuard_14 (Nat.le_of_ble_eq_true rfl) (Nat.le_of_ble_eq_true rfl) rfl rfl
  · exact absurd (hx0.symm.trans hex) (fun h => nomatch h)

set_option maxHeartbeats 4000000 in
set_option maxRecDepth 100000 in
theorem c_L_turn_ok (l : Launch) (D : va_G) (cs : zCs) (hfl : l.stackTraces = false) (ad : Nat → Nat → Nat) (S : Nat → Int32) (F : Nat → Nat → Int32) (kd : Nat → Nat → Nat) (HS : Nat → Int32) (KS : Nat → Nat → Int32) (KF : Nat → Nat → Nat → Int32) (p n : Nat) (st : Int32) (o : Nat) (OL : Nat → Int64) (hp : HS 0 = nI p) (hp4 : p < 4) (hn : HS 1 = nI n) (hn4 : n ≤ 4) (hx0 : (exT (0 ≤ st ∧ st ≤ (S 0) - 1) zIO none) = none) : zMw l D cs yL_turn cL_turn 4 (some FieldType.int) [((0), (9), (12), (13))] 8 176 1 6 [.ref (ad 3 0), .int st, .ref o] ((camW ad) ++ (macW cs (ad 0) S F) ++ (hisW cs (ad 4) kd HS) ++ (macW cs (kd 0) (KS 0) (KF 0)) ++ (macW cs (kd 1) (KS 1) (KF 1)) ++ (macW cs (kd 2) (KS 2) (KF 2)) ++ (macW cs (kd 3) (KS 3) (KF 3)) ++ [(o, .inl (cs.2.1, 1, .inr (.inl OL)))]) (some (.int 0)) ((camW ad) ++ (macW cs (ad 0) (upd (upd S 1 st) 2 0) F) ++ (hisW cs (ad 4) kd (upd (upd HS 0 (nI (hNx p))) 1 (nI (min (n + 1) 4)))) ++ (macW cs (kd 0) (kup KS (hNx p) S 0) (kup KF (hNx p) F 0)) ++ (macW cs (kd 1) (kup KS (hNx p) S 1) (kup KF (hNx p) F 1)) ++ (macW cs (kd 2) (kup KS (hNx p) S 2) (kup KF (hNx p) F 2)) ++ (macW cs (kd 3) (kup KS (hNx p) S 3) (kup KF (hNx p) F 3)) ++ [(o, .inl (cs.2.1, 1, .inr (.inl (vp_updL OL 0 (S 1).toInt64))))]) := by
  refine zMw.of (own := RL) (by decide) (Nat.le_of_ble_eq_true rfl) rfl ?_
  intro pq eq s mq below meth cq A ls hx hb hr hml hown hts hlk htab hE hK hA hP hD hS hl
  have hl : lv_has ls 4 [(0, .ref (ad 3 0)), (1, .int st), (2, .ref o)] := hl
  refine lv_aload_n hx hb dL_turn_0 rfl (lv_at hl 2 rfl) ?_
  refine lv_iconst (v := 0) hx hb dL_turn_1 (by decide) ?_
  refine lv_aload_n hx hb dL_turn_2 rfl (lv_at hl 0 rfl) ?_
  refine lv_iload_n hx hb dL_turn_3 rfl (lv_at hl 1 rfl) ?_
  refine z_callVx (wn := ((camW ad) ++ (macW cs (ad 0) (upd (upd S 1 st) 2 0) F) ++ (hisW cs (ad 4) kd (upd (upd HS 0 (nI (hNx p))) 1 (nI (min (n + 1) 4)))) ++ (macW cs (kd 0) (kup KS (hNx p) S 0) (kup KF (hNx p) F 0)) ++ (macW cs (kd 1) (kup KS (hNx p) S 1) (kup KF (hNx p) F 1)) ++ (macW cs (kd 2) (kup KS (hNx p) S 2) (kup KF (hNx p) F 2)) ++ (macW cs (kd 3) (kup KS (hNx p) S 3) (kup KF (hNx p) F 3)) ++ [(o, .inl (cs.2.1, 1, .inr (.inl OL)))])) ⟨hx, hb, hml, hown, hts⟩ zY_X7_turn w_im_yX7_turn w_se_yX7_turn w_ml_L_38 [.int st] [.int 0, .ref o] (c_X7_turn l D cs hfl ad S F kd HS KS KF p n st hp hp4 hn hn4) hE hK hA hP hD hS [0, 1, 2, 3, 4, 5, 6, 7, 8, 9, 10, 11, 12, 13, 14, 15, 16, 17, 18, 19, 20, 21, 22, 23, 24, 25, 26, 27, 28, 29, 30, 31, 32, 33, 34, 35, 36, 37, 38, 39, 40, 41, 42, 43, 44, 45, 46, 47, 48, 49, 50, 51, 52, 53, 54, 55, 56, 57, 58, 59, 60, 61, 62, 63, 64, 65, 66, 67, 68, 69, 70, 71, 72, 73, 74, 75, 76, 77, 78, 79, 80, 81, 82, 83, 84, 85, 86, 87] rfl rfl rfl rfl 7 rfl rfl rfl rfl hl.1 (Nat.le_of_ble_eq_true rfl) ⟨Nat.le_of_ble_eq_true rfl, Nat.le_of_ble_eq_true rfl⟩ ⟨Nat.le_of_ble_eq_true rfl, Nat.le_of_ble_eq_true rfl⟩ dL_turn_4 (fun E ce q9 H locs hex hP hD hS hce hcv hcl => absurd (hx0.symm.trans hex) (fun h => nomatch h)) (fun hex H locs hP hD hS => ?_)
  have x_1 := exT_none hex
  refine lv_i2l (v := (S 1).toInt64) hx hb dL_turn_7 rfl ?_
  refine va_last hx hb hK hP hD hS 88 1 rfl rfl (vp_in_nI (n := 0) (N := 1) (by decide) (by decide)) dL_turn_8 (fun H locs hP hD hS => ?_)
  have hP : va_P D vwCl ((camW ad) ++ (macW cs (ad 0) (upd (upd S 1 st) 2 0) F) ++ (hisW cs (ad 4) kd (upd (upd HS 0 (nI (hNx p))) 1 (nI (min (n + 1) 4)))) ++ (macW cs (kd 0) (kup KS (hNx p) S 0) (kup KF (hNx p) F 0)) ++ (macW cs (kd 1) (kup KS (hNx p) S 1) (kup KF (hNx p) F 1)) ++ (macW cs (kd 2) (kup KS (hNx p) S 2) (kup KF (hNx p) F 2)) ++ (macW cs (kd 3) (kup KS (hNx p) S 3) (kup KF (hNx p) F 3)) ++ [(o, .inl (cs.2.1, 1, .inr (.inl (vp_updL OL 0 ((S 1).toInt64)))))]) H := hP
  have hD : va_D A ((camW ad) ++ (macW cs (ad 0) (upd (upd S 1 st) 2 0) F) ++ (hisW cs (ad 4) kd (upd (upd HS 0 (nI (hNx p))) 1 (nI (min (n + 1) 4)))) ++ (macW cs (kd 0) (kup KS (hNx p) S 0) (kup KF (hNx p) F 0)) ++ (macW cs (kd 1) (kup KS (hNx p) S 1) (kup KF (hNx p) F 1)) ++ (macW cs (kd 2) (kup KS (hNx p) S 2) (kup KF (hNx p) F 2)) ++ (macW cs (kd 3) (kup KS (hNx p) S 3) (kup KF (hNx p) F 3)) ++ [(o, .inl (cs.2.1, 1, .inr (.inl (vp_updL OL 0 ((S 1).toInt64)))))]) := hD
  refine lv_goto (tgt := 15) hx hb dL_turn_9 (by decide) ?_
  refine lv_iconst (v := 0) hx hb dL_turn_15 (by decide) ?_
  exact z_iretW hx hb hr hlk hK hP hD hS dL_turn_16 (Nat.le_of_ble_eq_true rfl) (Nat.le_of_ble_eq_true rfl) rfl rfl

set_option maxHeartbeats 4000000 in
set_option maxRecDepth 100000 in
theorem c_L_turn_e1 (l : Launch) (D : va_G) (cs : zCs) (hfl : l.stackTraces = false) (ad : Nat → Nat → Nat) (S : Nat → Int32) (F : Nat → Nat → Int32) (kd : Nat → Nat → Nat) (HS : Nat → Int32) (KS : Nat → Nat → Int32) (KF : Nat → Nat → Nat → Int32) (p n : Nat) (st : Int32) (o : Nat) (OL : Nat → Int64) (hp : HS 0 = nI p) (hp4 : p < 4) (hn : HS 1 = nI n) (hn4 : n ≤ 4) (hx0 : (exT (0 ≤ st ∧ st ≤ (S 0) - 1) zIO none) = some zIO) : zMw l D cs yL_turn cL_turn 4 (some FieldType.int) [((0), (9), (12), (13))] 8 176 1 6 [.ref (ad 3 0), .int st, .ref o] ((camW ad) ++ (macW cs (ad 0) S F) ++ (hisW cs (ad 4) kd HS) ++ (macW cs (kd 0) (KS 0) (KF 0)) ++ (macW cs (kd 1) (KS 1) (KF 1)) ++ (macW cs (kd 2) (KS 2) (KF 2)) ++ (macW cs (kd 3) (KS 3) (KF 3)) ++ [(o, .inl (cs.2.1, 1, .inr (.inl OL)))]) (some (.int 1)) ((camW ad) ++ (macW cs (ad 0) S F) ++ (hisW cs (ad 4) kd HS) ++ (macW cs (kd 0) (KS 0) (KF 0)) ++ (macW cs (kd 1) (KS 1) (KF 1)) ++ (macW cs (kd 2) (KS 2) (KF 2)) ++ (macW cs (kd 3) (KS 3) (KF 3)) ++ [(o, .inl (cs.2.1, 1, .inr (.inl OL)))]) := by
  refine zMw.of (own := RL) (by decide) (Nat.le_of_ble_eq_true rfl) rfl ?_
  intro pq eq s mq below meth cq A ls hx hb hr hml hown hts hlk htab hE hK hA hP hD hS hl
  have hl : lv_has ls 4 [(0, .ref (ad 3 0)), (1, .int st), (2, .ref o)] := hl
  refine lv_aload_n hx hb dL_turn_0 rfl (lv_at hl 2 rfl) ?_
  refine lv_iconst (v := 0) hx hb dL_turn_1 (by decide) ?_
  refine lv_aload_n hx hb dL_turn_2 rfl (lv_at hl 0 rfl) ?_
  refine lv_iload_n hx hb dL_turn_3 rfl (lv_at hl 1 rfl) ?_
  refine z_callVx (wn := ((camW ad) ++ (macW cs (ad 0) (upd (upd S 1 st) 2 0) F) ++ (hisW cs (ad 4) kd (upd (upd HS 0 (nI (hNx p))) 1 (nI (min (n + 1) 4)))) ++ (macW cs (kd 0) (kup KS (hNx p) S 0) (kup KF (hNx p) F 0)) ++ (macW cs (kd 1) (kup KS (hNx p) S 1) (kup KF (hNx p) F 1)) ++ (macW cs (kd 2) (kup KS (hNx p) S 2) (kup KF (hNx p) F 2)) ++ (macW cs (kd 3) (kup KS (hNx p) S 3) (kup KF (hNx p) F 3)) ++ [(o, .inl (cs.2.1, 1, .inr (.inl OL)))])) ⟨hx, hb, hml, hown, hts⟩ zY_X7_turn w_im_yX7_turn w_se_yX7_turn w_ml_L_38 [.int st] [.int 0, .ref o] (c_X7_turn l D cs hfl ad S F kd HS KS KF p n st hp hp4 hn hn4) hE hK hA hP hD hS [0, 1, 2, 3, 4, 5, 6, 7, 8, 9, 10, 11, 12, 13, 14, 15, 16, 17, 18, 19, 20, 21, 22, 23, 24, 25, 26, 27, 28, 29, 30, 31, 32, 33, 34, 35, 36, 37, 38, 39, 40, 41, 42, 43, 44, 45, 46, 47, 48, 49, 50, 51, 52, 53, 54, 55, 56, 57, 58, 59, 60, 61, 62, 63, 64, 65, 66, 67, 68, 69, 70, 71, 72, 73, 74, 75, 76, 77, 78, 79, 80, 81, 82, 83, 84, 85, 86, 87] rfl rfl rfl rfl 7 rfl rfl rfl rfl hl.1 (Nat.le_of_ble_eq_true rfl) ⟨Nat.le_of_ble_eq_true rfl, Nat.le_of_ble_eq_true rfl⟩ ⟨Nat.le_of_ble_eq_true rfl, Nat.le_of_ble_eq_true rfl⟩ dL_turn_4 (fun E ce q9 H locs hex hP hD hS hce hcv hcl => ?_) (fun hex H locs hP hD hS => ?_)
  · skip
    obtain rfl : zIO = E := Option.some.inj (hx0.symm.trans hex)
    refine z_catch hown hts hE htab [] ⟨0, 9, 12, 13⟩ [] rfl (fun z hz => by cases hz) (by decide) (by decide) w_cl_L_13 (List.mem_of_getElem? (i := 0) rfl) hce hcv hcl ?_
    refine W.eq (g2 := F0 mq 12 ls [.ref q9]) rfl ?_
    refine lv_astore_n (lv' := [(3, .ref q9), (0, .ref (ad 3 0)), (1, .int st), (2, .ref o)]) hx hb dL_turn_12 rfl hl (by decide) rfl (fun ls hl => ?_)
    refine lv_iconst (v := 1) hx hb dL_turn_13 (by decide) ?_
    exact z_iretW hx hb hr hlk hK hP hD hS dL_turn_14 (Nat.le_of_ble_eq_true rfl) (Nat.le_of_ble_eq_true rfl) rfl rfl
  · exact absurd (hx0.symm.trans hex) (fun h => nomatch h)

set_option maxHeartbeats 4000000 in
set_option maxRecDepth 100000 in
theorem c_L_run_ok (l : Launch) (D : va_G) (cs : zCs) (hfl : l.stackTraces = false) (ad : Nat → Nat → Nat) (S : Nat → Int32) (F : Nat → Nat → Int32) (kd : Nat → Nat → Nat) (HS : Nat → Int32) (KS : Nat → Nat → Int32) (KF : Nat → Nat → Nat → Int32) (p n : Nat) (tk : Int32) (o : Nat) (OL : Nat → Int64) (hp : HS 0 = nI p) (hp4 : p < 4) (hn : HS 1 = nI n) (hn4 : n ≤ 4) (hx0 : (exT (1 ≤ tk ∧ tk ≤ 500) zIA (exT ((S 9) + tk ≤ 100000) zIS none)) = none) : zMw l D cs yL_run cL_run 4 (some FieldType.int) [((0), (9), (12), (19)), ((0), (9), (15), (32))] 7 177 1 6 [.ref (ad 3 0), .int tk, .ref o] ((camW ad) ++ (macW cs (ad 0) S F) ++ (hisW cs (ad 4) kd HS) ++ (macW cs (kd 0) (KS 0) (KF 0)) ++ (macW cs (kd 1) (KS 1) (KF 1)) ++ (macW cs (kd 2) (KS 2) (KF 2)) ++ (macW cs (kd 3) (KS 3) (KF 3)) ++ [(o, .inl (cs.2.1, 1, .inr (.inl OL)))]) (some (.int 0)) ((camW ad) ++ (macW cs (ad 0) ((tkN (S, F) (nN tk)).1) ((tkN (S, F) (nN tk)).2)) ++ (hisW cs (ad 4) kd (upd (upd HS 0 (nI (hNx p))) 1 (nI (min (n + 1) 4)))) ++ (macW cs (kd 0) (kup KS (hNx p) S 0) (kup KF (hNx p) F 0)) ++ (macW cs (kd 1) (kup KS (hNx p) S 1) (kup KF (hNx p) F 1)) ++ (macW cs (kd 2) (kup KS (hNx p) S 2) (kup KF (hNx p) F 2)) ++ (macW cs (kd 3) (kup KS (hNx p) S 3) (kup KF (hNx p) F 3)) ++ [(o, .inl (cs.2.1, 1, .inr (.inl (vp_updL OL 0 ((tkN (S, F) (nN tk)).1 10 - (S 10)).toInt64))))]) := by
  refine zMw.of (own := RL) (by decide) (Nat.le_of_ble_eq_true rfl) rfl ?_
  intro pq eq s mq below meth cq A ls hx hb hr hml hown hts hlk htab hE hK hA hP hD hS hl
  have hl : lv_has ls 4 [(0, .ref (ad 3 0)), (1, .int tk), (2, .ref o)] := hl
  refine lv_aload_n hx hb dL_run_0 rfl (lv_at hl 2 rfl) ?_
  refine lv_iconst (v := 0) hx hb dL_run_1 (by decide) ?_
  refine lv_aload_n hx hb dL_run_2 rfl (lv_at hl 0 rfl) ?_
  refine lv_iload_n hx hb dL_run_3 rfl (lv_at hl 1 rfl) ?_
  refine z_callVx (wn := ((camW ad) ++ (macW cs (ad 0) ((tkN (S, F) (nN tk)).1) ((tkN (S, F) (nN tk)).2)) ++ (hisW cs (ad 4) kd (upd (upd HS 0 (nI (hNx p))) 1 (nI (min (n + 1) 4)))) ++ (macW cs (kd 0) (kup KS (hNx p) S 0) (kup KF (hNx p) F 0)) ++ (macW cs (kd 1) (kup KS (hNx p) S 1) (kup KF (hNx p) F 1)) ++ (macW cs (kd 2) (kup KS (hNx p) S 2) (kup KF (hNx p) F 2)) ++ (macW cs (kd 3) (kup KS (hNx p) S 3) (kup KF (hNx p) F 3)) ++ [(o, .inl (cs.2.1, 1, .inr (.inl OL)))])) ⟨hx, hb, hml, hown, hts⟩ zY_X7_run w_im_yX7_run w_se_yX7_run w_ml_L_41 [.int tk] [.int 0, .ref o] (c_X7_run l D cs hfl ad S F kd HS KS KF p n tk hp hp4 hn hn4) hE hK hA hP hD hS [0, 1, 2, 3, 4, 5, 6, 7, 8, 9, 10, 11, 12, 13, 14, 15, 16, 17, 18, 19, 20, 21, 22, 23, 24, 25, 26, 27, 28, 29, 30, 31, 32, 33, 34, 35, 36, 37, 38, 39, 40, 41, 42, 43, 44, 45, 46, 47, 48, 49, 50, 51, 52, 53, 54, 55, 56, 57, 58, 59, 60, 61, 62, 63, 64, 65, 66, 67, 68, 69, 70, 71, 72, 73, 74, 75, 76, 77, 78, 79, 80, 81, 82, 83, 84, 85, 86, 87] rfl rfl rfl rfl 7 rfl rfl rfl rfl hl.1 (Nat.le_of_ble_eq_true rfl) ⟨Nat.le_of_ble_eq_true rfl, Nat.le_of_ble_eq_true rfl⟩ ⟨Nat.le_of_ble_eq_true rfl, Nat.le_of_ble_eq_true rfl⟩ dL_run_4 (fun E ce q9 H locs hex hP hD hS hce hcv hcl => absurd (hx0.symm.trans hex) (fun h => nomatch h)) (fun hex H locs hP hD hS => ?_)
  have x_1 := exT_none hex
  refine lv_i2l (v := ((tkN (S, F) (nN tk)).1 10 - (S 10)).toInt64) hx hb dL_run_7 rfl ?_
  refine va_last hx hb hK hP hD hS 88 1 rfl rfl (vp_in_nI (n := 0) (N := 1) (by decide) (by decide)) dL_run_8 (fun H locs hP hD hS => ?_)
  have hP : va_P D vwCl ((camW ad) ++ (macW cs (ad 0) ((tkN (S, F) (nN tk)).1) ((tkN (S, F) (nN tk)).2)) ++ (hisW cs (ad 4) kd (upd (upd HS 0 (nI (hNx p))) 1 (nI (min (n + 1) 4)))) ++ (macW cs (kd 0) (kup KS (hNx p) S 0) (kup KF (hNx p) F 0)) ++ (macW cs (kd 1) (kup KS (hNx p) S 1) (kup KF (hNx p) F 1)) ++ (macW cs (kd 2) (kup KS (hNx p) S 2) (kup KF (hNx p) F 2)) ++ (macW cs (kd 3) (kup KS (hNx p) S 3) (kup KF (hNx p) F 3)) ++ [(o, .inl (cs.2.1, 1, .inr (.inl (vp_updL OL 0 (((tkN (S, F) (nN tk)).1 10 - (S 10)).toInt64)))))]) H := hP
  have hD : va_D A ((camW ad) ++ (macW cs (ad 0) ((tkN (S, F) (nN tk)).1) ((tkN (S, F) (nN tk)).2)) ++ (hisW cs (ad 4) kd (upd (upd HS 0 (nI (hNx p))) 1 (nI (min (n + 1) 4)))) ++ (macW cs (kd 0) (kup KS (hNx p) S 0) (kup KF (hNx p) F 0)) ++ (macW cs (kd 1) (kup KS (hNx p) S 1) (kup KF (hNx p) F 1)) ++ (macW cs (kd 2) (kup KS (hNx p) S 2) (kup KF (hNx p) F 2)) ++ (macW cs (kd 3) (kup KS (hNx p) S 3) (kup KF (hNx p) F 3)) ++ [(o, .inl (cs.2.1, 1, .inr (.inl (vp_updL OL 0 (((tkN (S, F) (nN tk)).1 10 - (S 10)).toInt64)))))]) := hD
  refine lv_goto (tgt := 18) hx hb dL_run_9 (by decide) ?_
  refine lv_iconst (v := 0) hx hb dL_run_18 (by decide) ?_
  exact z_iretW hx hb hr hlk hK hP hD hS dL_run_19 (Nat.le_of_ble_eq_true rfl) (Nat.le_of_ble_eq_true rfl) rfl rfl

set_option maxHeartbeats 4000000 in
set_option maxRecDepth 100000 in
theorem c_L_run_e1 (l : Launch) (D : va_G) (cs : zCs) (hfl : l.stackTraces = false) (ad : Nat → Nat → Nat) (S : Nat → Int32) (F : Nat → Nat → Int32) (kd : Nat → Nat → Nat) (HS : Nat → Int32) (KS : Nat → Nat → Int32) (KF : Nat → Nat → Nat → Int32) (p n : Nat) (tk : Int32) (o : Nat) (OL : Nat → Int64) (hp : HS 0 = nI p) (hp4 : p < 4) (hn : HS 1 = nI n) (hn4 : n ≤ 4) (hx0 : (exT (1 ≤ tk ∧ tk ≤ 500) zIA (exT ((S 9) + tk ≤ 100000) zIS none)) = some zIA) : zMw l D cs yL_run cL_run 4 (some FieldType.int) [((0), (9), (12), (19)), ((0), (9), (15), (32))] 7 177 1 6 [.ref (ad 3 0), .int tk, .ref o] ((camW ad) ++ (macW cs (ad 0) S F) ++ (hisW cs (ad 4) kd HS) ++ (macW cs (kd 0) (KS 0) (KF 0)) ++ (macW cs (kd 1) (KS 1) (KF 1)) ++ (macW cs (kd 2) (KS 2) (KF 2)) ++ (macW cs (kd 3) (KS 3) (KF 3)) ++ [(o, .inl (cs.2.1, 1, .inr (.inl OL)))]) (some (.int 1)) ((camW ad) ++ (macW cs (ad 0) S F) ++ (hisW cs (ad 4) kd HS) ++ (macW cs (kd 0) (KS 0) (KF 0)) ++ (macW cs (kd 1) (KS 1) (KF 1)) ++ (macW cs (kd 2) (KS 2) (KF 2)) ++ (macW cs (kd 3) (KS 3) (KF 3)) ++ [(o, .inl (cs.2.1, 1, .inr (.inl OL)))]) := by
  refine zMw.of (own := RL) (by decide) (Nat.le_of_ble_eq_true rfl) rfl ?_
  intro pq eq s mq below meth cq A ls hx hb hr hml hown hts hlk htab hE hK hA hP hD hS hl
  have hl : lv_has ls 4 [(0, .ref (ad 3 0)), (1, .int tk), (2, .ref o)] := hl
  refine lv_aload_n hx hb dL_run_0 rfl (lv_at hl 2 rfl) ?_
  refine lv_iconst (v := 0) hx hb dL_run_1 (by decide) ?_
  refine lv_aload_n hx hb dL_run_2 rfl (lv_at hl 0 rfl) ?_
  refine lv_iload_n hx hb dL_run_3 rfl (lv_at hl 1 rfl) ?_
  refine z_callVx (wn := ((camW ad) ++ (macW cs (ad 0) ((tkN (S, F) (nN tk)).1) ((tkN (S, F) (nN tk)).2)) ++ (hisW cs (ad 4) kd (upd (upd HS 0 (nI (hNx p))) 1 (nI (min (n + 1) 4)))) ++ (macW cs (kd 0) (kup KS (hNx p) S 0) (kup KF (hNx p) F 0)) ++ (macW cs (kd 1) (kup KS (hNx p) S 1) (kup KF (hNx p) F 1)) ++ (macW cs (kd 2) (kup KS (hNx p) S 2) (kup KF (hNx p) F 2)) ++ (macW cs (kd 3) (kup KS (hNx p) S 3) (kup KF (hNx p) F 3)) ++ [(o, .inl (cs.2.1, 1, .inr (.inl OL)))])) ⟨hx, hb, hml, hown, hts⟩ zY_X7_run w_im_yX7_run w_se_yX7_run w_ml_L_41 [.int tk] [.int 0, .ref o] (c_X7_run l D cs hfl ad S F kd HS KS KF p n tk hp hp4 hn hn4) hE hK hA hP hD hS [0, 1, 2, 3, 4, 5, 6, 7, 8, 9, 10, 11, 12, 13, 14, 15, 16, 17, 18, 19, 20, 21, 22, 23, 24, 25, 26, 27, 28, 29, 30, 31, 32, 33, 34, 35, 36, 37, 38, 39, 40, 41, 42, 43, 44, 45, 46, 47, 48, 49, 50, 51, 52, 53, 54, 55, 56, 57, 58, 59, 60, 61, 62, 63, 64, 65, 66, 67, 68, 69, 70, 71, 72, 73, 74, 75, 76, 77, 78, 79, 80, 81, 82, 83, 84, 85, 86, 87] rfl rfl rfl rfl 7 rfl rfl rfl rfl hl.1 (Nat.le_of_ble_eq_true rfl) ⟨Nat.le_of_ble_eq_true rfl, Nat.le_of_ble_eq_true rfl⟩ ⟨Nat.le_of_ble_eq_true rfl, Nat.le_of_ble_eq_true rfl⟩ dL_run_4 (fun E ce q9 H locs hex hP hD hS hce hcv hcl => ?_) (fun hex H locs hP hD hS => ?_)
  · skip
    obtain rfl : zIA = E := Option.some.inj (hx0.symm.trans hex)
    refine z_catch hown hts hE htab [] ⟨0, 9, 12, 19⟩ [⟨0, 9, 15, 32⟩] rfl (fun z hz => by cases hz) (by decide) (by decide) w_cl_L_19 (List.mem_of_getElem? (i := 1) rfl) hce hcv hcl ?_
    refine W.eq (g2 := F0 mq 12 ls [.ref q9]) rfl ?_
    refine lv_astore_n (lv' := [(3, .ref q9), (0, .ref (ad 3 0)), (1, .int tk), (2, .ref o)]) hx hb dL_run_12 rfl hl (by decide) rfl (fun ls hl => ?_)
    refine lv_iconst (v := 1) hx hb dL_run_13 (by decide) ?_
    exact z_iretW hx hb hr hlk hK hP hD hS dL_run_14 (Nat.le_of_ble_eq_true rfl) (Nat.le_of_ble_eq_true rfl) rfl rfl
  · exact absurd (hx0.symm.trans hex) (fun h => nomatch h)

set_option maxHeartbeats 4000000 in
set_option maxRecDepth 100000 in
theorem c_L_run_e2 (l : Launch) (D : va_G) (cs : zCs) (hfl : l.stackTraces = false) (ad : Nat → Nat → Nat) (S : Nat → Int32) (F : Nat → Nat → Int32) (kd : Nat → Nat → Nat) (HS : Nat → Int32) (KS : Nat → Nat → Int32) (KF : Nat → Nat → Nat → Int32) (p n : Nat) (tk : Int32) (o : Nat) (OL : Nat → Int64) (hp : HS 0 = nI p) (hp4 : p < 4) (hn : HS 1 = nI n) (hn4 : n ≤ 4) (hx0 : (exT (1 ≤ tk ∧ tk ≤ 500) zIA (exT ((S 9) + tk ≤ 100000) zIS none)) = some zIS) : zMw l D cs yL_run cL_run 4 (some FieldType.int) [((0), (9), (12), (19)), ((0), (9), (15), (32))] 7 177 1 6 [.ref (ad 3 0), .int tk, .ref o] ((camW ad) ++ (macW cs (ad 0) S F) ++ (hisW cs (ad 4) kd HS) ++ (macW cs (kd 0) (KS 0) (KF 0)) ++ (macW cs (kd 1) (KS 1) (KF 1)) ++ (macW cs (kd 2) (KS 2) (KF 2)) ++ (macW cs (kd 3) (KS 3) (KF 3)) ++ [(o, .inl (cs.2.1, 1, .inr (.inl OL)))]) (some (.int 2)) ((camW ad) ++ (macW cs (ad 0) S F) ++ (hisW cs (ad 4) kd HS) ++ (macW cs (kd 0) (KS 0) (KF 0)) ++ (macW cs (kd 1) (KS 1) (KF 1)) ++ (macW cs (kd 2) (KS 2) (KF 2)) ++ (macW cs (kd 3) (KS 3) (KF 3)) ++ [(o, .inl (cs.2.1, 1, .inr (.inl OL)))]) := by
  refine zMw.of (own := RL) (by decide) (Nat.le_of_ble_eq_true rfl) rfl ?_
  intro pq eq s mq below meth cq A ls hx hb hr hml hown hts hlk htab hE hK hA hP hD hS hl
  have hl : lv_has ls 4 [(0, .ref (ad 3 0)), (1, .int tk), (2, .ref o)] := hl
  refine lv_aload_n hx hb dL_run_0 rfl (lv_at hl 2 rfl) ?_
  refine lv_iconst (v := 0) hx hb dL_run_1 (by decide) ?_
  refine lv_aload_n hx hb dL_run_2 rfl (lv_at hl 0 rfl) ?_
  refine lv_iload_n hx hb dL_run_3 rfl (lv_at hl 1 rfl) ?_
  refine z_callVx (wn := ((camW ad) ++ (macW cs (ad 0) ((tkN (S, F) (nN tk)).1) ((tkN (S, F) (nN tk)).2)) ++ (hisW cs (ad 4) kd (upd (upd HS 0 (nI (hNx p))) 1 (nI (min (n + 1) 4)))) ++ (macW cs (kd 0) (kup KS (hNx p) S 0) (kup KF (hNx p) F 0)) ++ (macW cs (kd 1) (kup KS (hNx p) S 1) (kup KF (hNx p) F 1)) ++ (macW cs (kd 2) (kup KS (hNx p) S 2) (kup KF (hNx p) F 2)) ++ (macW cs (kd 3) (kup KS (hNx p) S 3) (kup KF (hNx p) F 3)) ++ [(o, .inl (cs.2.1, 1, .inr (.inl OL)))])) ⟨hx, hb, hml, hown, hts⟩ zY_X7_run w_im_yX7_run w_se_yX7_run w_ml_L_41 [.int tk] [.int 0, .ref o] (c_X7_run l D cs hfl ad S F kd HS KS KF p n tk hp hp4 hn hn4) hE hK hA hP hD hS [0, 1, 2, 3, 4, 5, 6, 7, 8, 9, 10, 11, 12, 13, 14, 15, 16, 17, 18, 19, 20, 21, 22, 23, 24, 25, 26, 27, 28, 29, 30, 31, 32, 33, 34, 35, 36, 37, 38, 39, 40, 41, 42, 43, 44, 45, 46, 47, 48, 49, 50, 51, 52, 53, 54, 55, 56, 57, 58, 59, 60, 61, 62, 63, 64, 65, 66, 67, 68, 69, 70, 71, 72, 73, 74, 75, 76, 77, 78, 79, 80, 81, 82, 83, 84, 85, 86, 87] rfl rfl rfl rfl 7 rfl rfl rfl rfl hl.1 (Nat.le_of_ble_eq_true rfl) ⟨Nat.le_of_ble_eq_true rfl, Nat.le_of_ble_eq_true rfl⟩ ⟨Nat.le_of_ble_eq_true rfl, Nat.le_of_ble_eq_true rfl⟩ dL_run_4 (fun E ce q9 H locs hex hP hD hS hce hcv hcl => ?_) (fun hex H locs hP hD hS => ?_)
  · skip
    obtain rfl : zIS = E := Option.some.inj (hx0.symm.trans hex)
    refine z_catch hown hts hE htab [⟨0, 9, 12, 19⟩] ⟨0, 9, 15, 32⟩ [] rfl (fun z hz => by rcases List.mem_cons.mp hz with rfl | hz; exact ⟨by decide, zIA, w_cl_L_19, List.mem_of_getElem? (i := 3) rfl⟩; cases hz) (by decide) (by decide) w_cl_L_32 (List.mem_of_getElem? (i := 2) rfl) hce hcv hcl ?_
    refine W.eq (g2 := F0 mq 15 ls [.ref q9]) rfl ?_
    refine lv_astore_n (lv' := [(3, .ref q9), (0, .ref (ad 3 0)), (1, .int tk), (2, .ref o)]) hx hb dL_run_15 rfl hl (by decide) rfl (fun ls hl => ?_)
    refine lv_iconst (v := 2) hx hb dL_run_16 (by decide) ?_
    exact z_iretW hx hb hr hlk hK hP hD hS dL_run_17 (Nat.le_of_ble_eq_true rfl) (Nat.le_of_ble_eq_true rfl) rfl rfl
  · exact absurd (hx0.symm.trans hex) (fun h => nomatch h)

set_option maxHeartbeats 4000000 in
set_option maxRecDepth 100000 in
theorem c_L_cam_ok (l : Launch) (D : va_G) (cs : zCs) (hfl : l.stackTraces = false) (ad : Nat → Nat → Nat) (S : Nat → Int32) (F : Nat → Nat → Int32) (tr st : Int32) (o : Nat) (OL : Nat → Int64) (hx0 : (exT (0 ≤ tr ∧ tr ≤ 4) zIO (exT (0 ≤ st ∧ st ≤ (S 0) - 1) zIO none)) = none) : zMw l D cs yL_cam cL_cam 5 (some FieldType.int) [((0), (17), (20), (13))] 8 125 2 12 [.ref (ad 3 0), .int tr, .int st, .ref o] ((camW ad) ++ (macW cs (ad 0) S F) ++ [(o, .inl (cs.2.1, 1, .inr (.inl OL)))]) (some (.int 0)) ((camW ad) ++ (macW cs (ad 0) S F) ++ [(o, .inl (cs.2.1, 1, .inr (.inl (vp_updL OL 0 (bI (hasC F (nN tr) st)).toInt64))))]) := by
  refine zMw.of (own := RL) (by decide) (Nat.le_of_ble_eq_true rfl) rfl ?_
  intro pq eq s mq below meth cq A ls hx hb hr hml hown hts hlk htab hE hK hA hP hD hS hl
  have hl : lv_has ls 5 [(0, .ref (ad 3 0)), (1, .int tr), (2, .int st), (3, .ref o)] := hl
  refine lv_aload_n hx hb dL_cam_0 rfl (lv_at hl 3 rfl) ?_
  refine lv_iconst (v := 0) hx hb dL_cam_1 (by decide) ?_
  refine lv_aload_n hx hb dL_cam_2 rfl (lv_at hl 0 rfl) ?_
  refine lv_iload_n hx hb dL_cam_3 rfl (lv_at hl 1 rfl) ?_
  refine lv_iload_n hx hb dL_cam_4 rfl (lv_at hl 2 rfl) ?_
  refine z_callVx (wn := ((camW ad) ++ (macW cs (ad 0) S F) ++ [(o, .inl (cs.2.1, 1, .inr (.inl OL)))])) ⟨hx, hb, hml, hown, hts⟩ zY_X7_cam w_im_yX7_cam w_se_yX7_cam w_ml_L_44 [.int tr, .int st] [.int 0, .ref o] (c_X7_cam l D cs hfl ad S F tr st) hE hK hA hP hD hS [0, 1, 2, 3, 4, 5, 6, 7, 8, 9, 10, 11, 12, 13, 14, 15, 16, 17] rfl rfl rfl rfl 7 rfl rfl rfl rfl hl.1 (Nat.le_of_ble_eq_true rfl) ⟨Nat.le_of_ble_eq_true rfl, Nat.le_of_ble_eq_true rfl⟩ ⟨Nat.le_of_ble_eq_true rfl, Nat.le_of_ble_eq_true rfl⟩ dL_cam_5 (fun E ce q9 H locs hex hP hD hS hce hcv hcl => absurd (hx0.symm.trans hex) (fun h => nomatch h)) (fun hex H locs hP hD hS => ?_)
  have x_1 := exT_none hex
  refine lv_if_eq (tgt := 15) hx hb dL_cam_8 (by decide) (fun c_2 => ?_) (fun c_2 => ?_)
  · skip
    have c_2 := bI_0.mp c_2
    refine lv_lconst (v := 0) hx hb dL_cam_15 (by decide) ?_
    refine z_topl (y := (bI (hasC F (nN tr) st)).toInt64) (by rw [bI_f c_2]; rfl) ?_
    refine va_last hx hb hK hP hD hS 18 1 rfl rfl (vp_in_nI (n := 0) (N := 1) (by decide) (by decide)) dL_cam_16 (fun H locs hP hD hS => ?_)
    have hP : va_P D vwCl ((camW ad) ++ (macW cs (ad 0) S F) ++ [(o, .inl (cs.2.1, 1, .inr (.inl (vp_updL OL 0 ((bI (hasC F (nN tr) st)).toInt64)))))]) H := hP
    have hD : va_D A ((camW ad) ++ (macW cs (ad 0) S F) ++ [(o, .inl (cs.2.1, 1, .inr (.inl (vp_updL OL 0 ((bI (hasC F (nN tr) st)).toInt64)))))]) := hD
    refine lv_goto (tgt := 24) hx hb dL_cam_17 (by decide) ?_
    refine lv_iconst (v := 0) hx hb dL_cam_24 (by decide) ?_
    exact z_iretW hx hb hr hlk hK hP hD hS dL_cam_25 (Nat.le_of_ble_eq_true rfl) (Nat.le_of_ble_eq_true rfl) rfl rfl
  · skip
    have c_2 := bI_n0 c_2
    refine lv_lconst (v := 1) hx hb dL_cam_11 (by decide) ?_
    refine lv_goto (tgt := 16) hx hb dL_cam_12 (by decide) ?_
    refine z_topl (y := (bI (hasC F (nN tr) st)).toInt64) (by rw [bI_t c_2]; rfl) ?_
    refine va_last hx hb hK hP hD hS 18 1 rfl rfl (vp_in_nI (n := 0) (N := 1) (by decide) (by decide)) dL_cam_16 (fun H locs hP hD hS => ?_)
    have hP : va_P D vwCl ((camW ad) ++ (macW cs (ad 0) S F) ++ [(o, .inl (cs.2.1, 1, .inr (.inl (vp_updL OL 0 ((bI (hasC F (nN tr) st)).toInt64)))))]) H := hP
    have hD : va_D A ((camW ad) ++ (macW cs (ad 0) S F) ++ [(o, .inl (cs.2.1, 1, .inr (.inl (vp_updL OL 0 ((bI (hasC F (nN tr) st)).toInt64)))))]) := hD
    refine lv_goto (tgt := 24) hx hb dL_cam_17 (by decide) ?_
    refine lv_iconst (v := 0) hx hb dL_cam_24 (by decide) ?_
    exact z_iretW hx hb hr hlk hK hP hD hS dL_cam_25 (Nat.le_of_ble_eq_true rfl) (Nat.le_of_ble_eq_true rfl) rfl rfl

set_option maxHeartbeats 4000000 in
set_option maxRecDepth 100000 in
theorem c_L_cam_e1 (l : Launch) (D : va_G) (cs : zCs) (hfl : l.stackTraces = false) (ad : Nat → Nat → Nat) (S : Nat → Int32) (F : Nat → Nat → Int32) (tr st : Int32) (o : Nat) (OL : Nat → Int64) (hx0 : (exT (0 ≤ tr ∧ tr ≤ 4) zIO (exT (0 ≤ st ∧ st ≤ (S 0) - 1) zIO none)) = some zIO) : zMw l D cs yL_cam cL_cam 5 (some FieldType.int) [((0), (17), (20), (13))] 8 125 2 12 [.ref (ad 3 0), .int tr, .int st, .ref o] ((camW ad) ++ (macW cs (ad 0) S F) ++ [(o, .inl (cs.2.1, 1, .inr (.inl OL)))]) (some (.int 1)) ((camW ad) ++ (macW cs (ad 0) S F) ++ [(o, .inl (cs.2.1, 1, .inr (.inl OL)))]) := by
  refine zMw.of (own := RL) (by decide) (Nat.le_of_ble_eq_true rfl) rfl ?_
  intro pq eq s mq below meth cq A ls hx hb hr hml hown hts hlk htab hE hK hA hP hD hS hl
  have hl : lv_has ls 5 [(0, .ref (ad 3 0)), (1, .int tr), (2, .int st), (3, .ref o)] := hl
  refine lv_aload_n hx hb dL_cam_0 rfl (lv_at hl 3 rfl) ?_
  refine lv_iconst (v := 0) hx hb dL_cam_1 (by decide) ?_
  refine lv_aload_n hx hb dL_cam_2 rfl (lv_at hl 0 rfl) ?_
  refine lv_iload_n hx hb dL_cam_3 rfl (lv_at hl 1 rfl) ?_
  refine lv_iload_n hx hb dL_cam_4 rfl (lv_at hl 2 rfl) ?_
  refine z_callVx (wn := ((camW ad) ++ (macW cs (ad 0) S F) ++ [(o, .inl (cs.2.1, 1, .inr (.inl OL)))])) ⟨hx, hb, hml, hown, hts⟩ zY_X7_cam w_im_yX7_cam w_se_yX7_cam w_ml_L_44 [.int tr, .int st] [.int 0, .ref o] (c_X7_cam l D cs hfl ad S F tr st) hE hK hA hP hD hS [0, 1, 2, 3, 4, 5, 6, 7, 8, 9, 10, 11, 12, 13, 14, 15, 16, 17] rfl rfl rfl rfl 7 rfl rfl rfl rfl hl.1 (Nat.le_of_ble_eq_true rfl) ⟨Nat.le_of_ble_eq_true rfl, Nat.le_of_ble_eq_true rfl⟩ ⟨Nat.le_of_ble_eq_true rfl, Nat.le_of_ble_eq_true rfl⟩ dL_cam_5 (fun E ce q9 H locs hex hP hD hS hce hcv hcl => ?_) (fun hex H locs hP hD hS => ?_)
  · skip
    obtain rfl : zIO = E := Option.some.inj (hx0.symm.trans hex)
    refine z_catch hown hts hE htab [] ⟨0, 17, 20, 13⟩ [] rfl (fun z hz => by cases hz) (by decide) (by decide) w_cl_L_13 (List.mem_of_getElem? (i := 0) rfl) hce hcv hcl ?_
    refine W.eq (g2 := F0 mq 20 ls [.ref q9]) rfl ?_
    refine lv_astore (lv' := [(4, .ref q9), (0, .ref (ad 3 0)), (1, .int tr), (2, .int st), (3, .ref o)]) hx hb dL_cam_20 hl (by decide) rfl (fun ls hl => ?_)
    refine lv_iconst (v := 1) hx hb dL_cam_22 (by decide) ?_
    exact z_iretW hx hb hr hlk hK hP hD hS dL_cam_23 (Nat.le_of_ble_eq_true rfl) (Nat.le_of_ble_eq_true rfl) rfl rfl
  · exact absurd (hx0.symm.trans hex) (fun h => nomatch h)

set_option maxHeartbeats 4000000 in
set_option maxRecDepth 100000 in
theorem c_L_cylinder_ok (l : Launch) (D : va_G) (cs : zCs) (hfl : l.stackTraces = false) (ad : Nat → Nat → Nat) (S : Nat → Int32) (F : Nat → Nat → Int32) (cy wh : Int32) (o : Nat) (OL : Nat → Int64) (hx0 : (exT (0 ≤ cy ∧ cy ≤ 4) zIO (exT (0 ≤ wh ∧ wh ≤ 8 - 1) zIA none)) = none) : zMw l D cs yL_cylinder cL_cylinder 5 (some FieldType.int) [((0), (10), (13), (13)), ((0), (10), (17), (19))] 8 125 2 12 [.ref (ad 3 0), .int cy, .int wh, .ref o] ((camW ad) ++ (macW cs (ad 0) S F) ++ [(o, .inl (cs.2.1, 1, .inr (.inl OL)))]) (some (.int 0)) ((camW ad) ++ (macW cs (ad 0) S F) ++ [(o, .inl (cs.2.1, 1, .inr (.inl (vp_updL OL 0 (cylN S F (nN cy) (nN wh)).toInt64))))]) := by
  refine zMw.of (own := RL) (by decide) (Nat.le_of_ble_eq_true rfl) rfl ?_
  intro pq eq s mq below meth cq A ls hx hb hr hml hown hts hlk htab hE hK hA hP hD hS hl
  have hl : lv_has ls 5 [(0, .ref (ad 3 0)), (1, .int cy), (2, .int wh), (3, .ref o)] := hl
  refine lv_aload_n hx hb dL_cylinder_0 rfl (lv_at hl 3 rfl) ?_
  refine lv_iconst (v := 0) hx hb dL_cylinder_1 (by decide) ?_
  refine lv_aload_n hx hb dL_cylinder_2 rfl (lv_at hl 0 rfl) ?_
  refine lv_iload_n hx hb dL_cylinder_3 rfl (lv_at hl 1 rfl) ?_
  refine lv_iload_n hx hb dL_cylinder_4 rfl (lv_at hl 2 rfl) ?_
  refine z_callVx (wn := ((camW ad) ++ (macW cs (ad 0) S F) ++ [(o, .inl (cs.2.1, 1, .inr (.inl OL)))])) ⟨hx, hb, hml, hown, hts⟩ zY_X7_cylinder w_im_yX7_cylinder w_se_yX7_cylinder w_ml_L_48 [.int cy, .int wh] [.int 0, .ref o] (c_X7_cylinder l D cs hfl ad S F cy wh) hE hK hA hP hD hS [0, 1, 2, 3, 4, 5, 6, 7, 8, 9, 10, 11, 12, 13, 14, 15, 16, 17] rfl rfl rfl rfl 7 rfl rfl rfl rfl hl.1 (Nat.le_of_ble_eq_true rfl) ⟨Nat.le_of_ble_eq_true rfl, Nat.le_of_ble_eq_true rfl⟩ ⟨Nat.le_of_ble_eq_true rfl, Nat.le_of_ble_eq_true rfl⟩ dL_cylinder_5 (fun E ce q9 H locs hex hP hD hS hce hcv hcl => absurd (hx0.symm.trans hex) (fun h => nomatch h)) (fun hex H locs hP hD hS => ?_)
  have x_1 := exT_none hex
  refine lv_i2l (v := (cylN S F (nN cy) (nN wh)).toInt64) hx hb dL_cylinder_8 rfl ?_
  refine va_last hx hb hK hP hD hS 18 1 rfl rfl (vp_in_nI (n := 0) (N := 1) (by decide) (by decide)) dL_cylinder_9 (fun H locs hP hD hS => ?_)
  have hP : va_P D vwCl ((camW ad) ++ (macW cs (ad 0) S F) ++ [(o, .inl (cs.2.1, 1, .inr (.inl (vp_updL OL 0 ((cylN S F (nN cy) (nN wh)).toInt64)))))]) H := hP
  have hD : va_D A ((camW ad) ++ (macW cs (ad 0) S F) ++ [(o, .inl (cs.2.1, 1, .inr (.inl (vp_updL OL 0 ((cylN S F (nN cy) (nN wh)).toInt64)))))]) := hD
  refine lv_goto (tgt := 21) hx hb dL_cylinder_10 (by decide) ?_
  refine lv_iconst (v := 0) hx hb dL_cylinder_21 (by decide) ?_
  exact z_iretW hx hb hr hlk hK hP hD hS dL_cylinder_22 (Nat.le_of_ble_eq_true rfl) (Nat.le_of_ble_eq_true rfl) rfl rfl

set_option maxHeartbeats 4000000 in
set_option maxRecDepth 100000 in
theorem c_L_cylinder_e1 (l : Launch) (D : va_G) (cs : zCs) (hfl : l.stackTraces = false) (ad : Nat → Nat → Nat) (S : Nat → Int32) (F : Nat → Nat → Int32) (cy wh : Int32) (o : Nat) (OL : Nat → Int64) (hx0 : (exT (0 ≤ cy ∧ cy ≤ 4) zIO (exT (0 ≤ wh ∧ wh ≤ 8 - 1) zIA none)) = some zIO) : zMw l D cs yL_cylinder cL_cylinder 5 (some FieldType.int) [((0), (10), (13), (13)), ((0), (10), (17), (19))] 8 125 2 12 [.ref (ad 3 0), .int cy, .int wh, .ref o] ((camW ad) ++ (macW cs (ad 0) S F) ++ [(o, .inl (cs.2.1, 1, .inr (.inl OL)))]) (some (.int 1)) ((camW ad) ++ (macW cs (ad 0) S F) ++ [(o, .inl (cs.2.1, 1, .inr (.inl OL)))]) := by
  refine zMw.of (own := RL) (by decide) (Nat.le_of_ble_eq_true rfl) rfl ?_
  intro pq eq s mq below meth cq A ls hx hb hr hml hown hts hlk htab hE hK hA hP hD hS hl
  have hl : lv_has ls 5 [(0, .ref (ad 3 0)), (1, .int cy), (2, .int wh), (3, .ref o)] := hl
  refine lv_aload_n hx hb dL_cylinder_0 rfl (lv_at hl 3 rfl) ?_
  refine lv_iconst (v := 0) hx hb dL_cylinder_1 (by decide) ?_
  refine lv_aload_n hx hb dL_cylinder_2 rfl (lv_at hl 0 rfl) ?_
  refine lv_iload_n hx hb dL_cylinder_3 rfl (lv_at hl 1 rfl) ?_
  refine lv_iload_n hx hb dL_cylinder_4 rfl (lv_at hl 2 rfl) ?_
  refine z_callVx (wn := ((camW ad) ++ (macW cs (ad 0) S F) ++ [(o, .inl (cs.2.1, 1, .inr (.inl OL)))])) ⟨hx, hb, hml, hown, hts⟩ zY_X7_cylinder w_im_yX7_cylinder w_se_yX7_cylinder w_ml_L_48 [.int cy, .int wh] [.int 0, .ref o] (c_X7_cylinder l D cs hfl ad S F cy wh) hE hK hA hP hD hS [0, 1, 2, 3, 4, 5, 6, 7, 8, 9, 10, 11, 12, 13, 14, 15, 16, 17] rfl rfl rfl rfl 7 rfl rfl rfl rfl hl.1 (Nat.le_of_ble_eq_true rfl) ⟨Nat.le_of_ble_eq_true rfl, Nat.le_of_ble_eq_true rfl⟩ ⟨Nat.le_of_ble_eq_true rfl, Nat.le_of_ble_eq_true rfl⟩ dL_cylinder_5 (fun E ce q9 H locs hex hP hD hS hce hcv hcl => ?_) (fun hex H locs hP hD hS => ?_)
  · skip
    obtain rfl : zIO = E := Option.some.inj (hx0.symm.trans hex)
    refine z_catch hown hts hE htab [] ⟨0, 10, 13, 13⟩ [⟨0, 10, 17, 19⟩] rfl (fun z hz => by cases hz) (by decide) (by decide) w_cl_L_13 (List.mem_of_getElem? (i := 0) rfl) hce hcv hcl ?_
    refine W.eq (g2 := F0 mq 13 ls [.ref q9]) rfl ?_
    refine lv_astore (lv' := [(4, .ref q9), (0, .ref (ad 3 0)), (1, .int cy), (2, .int wh), (3, .ref o)]) hx hb dL_cylinder_13 hl (by decide) rfl (fun ls hl => ?_)
    refine lv_iconst (v := 1) hx hb dL_cylinder_15 (by decide) ?_
    exact z_iretW hx hb hr hlk hK hP hD hS dL_cylinder_16 (Nat.le_of_ble_eq_true rfl) (Nat.le_of_ble_eq_true rfl) rfl rfl
  · exact absurd (hx0.symm.trans hex) (fun h => nomatch h)

set_option maxHeartbeats 4000000 in
set_option maxRecDepth 100000 in
theorem c_L_cylinder_e2 (l : Launch) (D : va_G) (cs : zCs) (hfl : l.stackTraces = false) (ad : Nat → Nat → Nat) (S : Nat → Int32) (F : Nat → Nat → Int32) (cy wh : Int32) (o : Nat) (OL : Nat → Int64) (hx0 : (exT (0 ≤ cy ∧ cy ≤ 4) zIO (exT (0 ≤ wh ∧ wh ≤ 8 - 1) zIA none)) = some zIA) : zMw l D cs yL_cylinder cL_cylinder 5 (some FieldType.int) [((0), (10), (13), (13)), ((0), (10), (17), (19))] 8 125 2 12 [.ref (ad 3 0), .int cy, .int wh, .ref o] ((camW ad) ++ (macW cs (ad 0) S F) ++ [(o, .inl (cs.2.1, 1, .inr (.inl OL)))]) (some (.int 2)) ((camW ad) ++ (macW cs (ad 0) S F) ++ [(o, .inl (cs.2.1, 1, .inr (.inl OL)))]) := by
  refine zMw.of (own := RL) (by decide) (Nat.le_of_ble_eq_true rfl) rfl ?_
  intro pq eq s mq below meth cq A ls hx hb hr hml hown hts hlk htab hE hK hA hP hD hS hl
  have hl : lv_has ls 5 [(0, .ref (ad 3 0)), (1, .int cy), (2, .int wh), (3, .ref o)] := hl
  refine lv_aload_n hx hb dL_cylinder_0 rfl (lv_at hl 3 rfl) ?_
  refine lv_iconst (v := 0) hx hb dL_cylinder_1 (by decide) ?_
  refine lv_aload_n hx hb dL_cylinder_2 rfl (lv_at hl 0 rfl) ?_
  refine lv_iload_n hx hb dL_cylinder_3 rfl (lv_at hl 1 rfl) ?_
  refine lv_iload_n hx hb dL_cylinder_4 rfl (lv_at hl 2 rfl) ?_
  refine z_callVx (wn := ((camW ad) ++ (macW cs (ad 0) S F) ++ [(o, .inl (cs.2.1, 1, .inr (.inl OL)))])) ⟨hx, hb, hml, hown, hts⟩ zY_X7_cylinder w_im_yX7_cylinder w_se_yX7_cylinder w_ml_L_48 [.int cy, .int wh] [.int 0, .ref o] (c_X7_cylinder l D cs hfl ad S F cy wh) hE hK hA hP hD hS [0, 1, 2, 3, 4, 5, 6, 7, 8, 9, 10, 11, 12, 13, 14, 15, 16, 17] rfl rfl rfl rfl 7 rfl rfl rfl rfl hl.1 (Nat.le_of_ble_eq_true rfl) ⟨Nat.le_of_ble_eq_true rfl, Nat.le_of_ble_eq_true rfl⟩ ⟨Nat.le_of_ble_eq_true rfl, Nat.le_of_ble_eq_true rfl⟩ dL_cylinder_5 (fun E ce q9 H locs hex hP hD hS hce hcv hcl => ?_) (fun hex H locs hP hD hS => ?_)
  · skip
    obtain rfl : zIA = E := Option.some.inj (hx0.symm.trans hex)
    refine z_catch hown hts hE htab [⟨0, 10, 13, 13⟩] ⟨0, 10, 17, 19⟩ [] rfl (fun z hz => by rcases List.mem_cons.mp hz with rfl | hz; exact ⟨by decide, zIO, w_cl_L_13, List.mem_of_getElem? (i := 0) rfl⟩; cases hz) (by decide) (by decide) w_cl_L_19 (List.mem_of_getElem? (i := 1) rfl) hce hcv hcl ?_
    refine W.eq (g2 := F0 mq 17 ls [.ref q9]) rfl ?_
    refine lv_astore (lv' := [(4, .ref q9), (0, .ref (ad 3 0)), (1, .int cy), (2, .int wh), (3, .ref o)]) hx hb dL_cylinder_17 hl (by decide) rfl (fun ls hl => ?_)
    refine lv_iconst (v := 2) hx hb dL_cylinder_19 (by decide) ?_
    exact z_iretW hx hb hr hlk hK hP hD hS dL_cylinder_20 (Nat.le_of_ble_eq_true rfl) (Nat.le_of_ble_eq_true rfl) rfl rfl
  · exact absurd (hx0.symm.trans hex) (fun h => nomatch h)

set_option maxHeartbeats 4000000 in
set_option maxRecDepth 100000 in
theorem c_L_guard_ok (l : Launch) (D : va_G) (cs : zCs) (hfl : l.stackTraces = false) (ad : Nat → Nat → Nat) (S : Nat → Int32) (F : Nat → Nat → Int32) (g wh : Int32) (gn : Nat) (o : Nat) (OL : Nat → Int64) (hS8 : S 8 = nI gn) (hg4 : gn ≤ 4) (hx0 : (exT (0 ≤ g ∧ g ≤ zmin (S 8) 4 - 1) zIO (exT (0 ≤ wh ∧ wh ≤ 4 - 1) zIA none)) = none) : zMw l D cs yL_guard cL_guard 5 (some FieldType.int) [((0), (10), (13), (13)), ((0), (10), (17), (19))] 8 125 2 12 [.ref (ad 3 0), .int g, .int wh, .ref o] ((camW ad) ++ (macW cs (ad 0) S F) ++ [(o, .inl (cs.2.1, 1, .inr (.inl OL)))]) (some (.int 0)) ((camW ad) ++ (macW cs (ad 0) S F) ++ [(o, .inl (cs.2.1, 1, .inr (.inl (vp_updL OL 0 (grdN F (nN g) (nN wh)).toInt64))))]) := by
  refine zMw.of (own := RL) (by decide) (Nat.le_of_ble_eq_true rfl) rfl ?_
  intro pq eq s mq below meth cq A ls hx hb hr hml hown hts hlk htab hE hK hA hP hD hS hl
  have hl : lv_has ls 5 [(0, .ref (ad 3 0)), (1, .int g), (2, .int wh), (3, .ref o)] := hl
  refine lv_aload_n hx hb dL_guard_0 rfl (lv_at hl 3 rfl) ?_
  refine lv_iconst (v := 0) hx hb dL_guard_1 (by decide) ?_
  refine lv_aload_n hx hb dL_guard_2 rfl (lv_at hl 0 rfl) ?_
  refine lv_iload_n hx hb dL_guard_3 rfl (lv_at hl 1 rfl) ?_
  refine lv_iload_n hx hb dL_guard_4 rfl (lv_at hl 2 rfl) ?_
  refine z_callVx (wn := ((camW ad) ++ (macW cs (ad 0) S F) ++ [(o, .inl (cs.2.1, 1, .inr (.inl OL)))])) ⟨hx, hb, hml, hown, hts⟩ zY_X7_guard w_im_yX7_guard w_se_yX7_guard w_ml_L_51 [.int g, .int wh] [.int 0, .ref o] (c_X7_guard l D cs hfl ad S F g wh gn hS8 hg4) hE hK hA hP hD hS [0, 1, 2, 3, 4, 5, 6, 7, 8, 9, 10, 11, 12, 13, 14, 15, 16, 17] rfl rfl rfl rfl 7 rfl rfl rfl rfl hl.1 (Nat.le_of_ble_eq_true rfl) ⟨Nat.le_of_ble_eq_true rfl, Nat.le_of_ble_eq_true rfl⟩ ⟨Nat.le_of_ble_eq_true rfl, Nat.le_of_ble_eq_true rfl⟩ dL_guard_5 (fun E ce q9 H locs hex hP hD hS hce hcv hcl => absurd (hx0.symm.trans hex) (fun h => nomatch h)) (fun hex H locs hP hD hS => ?_)
  have x_1 := exT_none hex
  refine lv_i2l (v := (grdN F (nN g) (nN wh)).toInt64) hx hb dL_guard_8 rfl ?_
  refine va_last hx hb hK hP hD hS 18 1 rfl rfl (vp_in_nI (n := 0) (N := 1) (by decide) (by decide)) dL_guard_9 (fun H locs hP hD hS => ?_)
  have hP : va_P D vwCl ((camW ad) ++ (macW cs (ad 0) S F) ++ [(o, .inl (cs.2.1, 1, .inr (.inl (vp_updL OL 0 ((grdN F (nN g) (nN wh)).toInt64)))))]) H := hP
  have hD : va_D A ((camW ad) ++ (macW cs (ad 0) S F) ++ [(o, .inl (cs.2.1, 1, .inr (.inl (vp_updL OL 0 ((grdN F (nN g) (nN wh)).toInt64)))))]) := hD
  refine lv_goto (tgt := 21) hx hb dL_guard_10 (by decide) ?_
  refine lv_iconst (v := 0) hx hb dL_guard_21 (by decide) ?_
  exact z_iretW hx hb hr hlk hK hP hD hS dL_guard_22 (Nat.le_of_ble_eq_true rfl) (Nat.le_of_ble_eq_true rfl) rfl rfl

set_option maxHeartbeats 4000000 in
set_option maxRecDepth 100000 in
theorem c_L_guard_e1 (l : Launch) (D : va_G) (cs : zCs) (hfl : l.stackTraces = false) (ad : Nat → Nat → Nat) (S : Nat → Int32) (F : Nat → Nat → Int32) (g wh : Int32) (gn : Nat) (o : Nat) (OL : Nat → Int64) (hS8 : S 8 = nI gn) (hg4 : gn ≤ 4) (hx0 : (exT (0 ≤ g ∧ g ≤ zmin (S 8) 4 - 1) zIO (exT (0 ≤ wh ∧ wh ≤ 4 - 1) zIA none)) = some zIO) : zMw l D cs yL_guard cL_guard 5 (some FieldType.int) [((0), (10), (13), (13)), ((0), (10), (17), (19))] 8 125 2 12 [.ref (ad 3 0), .int g, .int wh, .ref o] ((camW ad) ++ (macW cs (ad 0) S F) ++ [(o, .inl (cs.2.1, 1, .inr (.inl OL)))]) (some (.int 1)) ((camW ad) ++ (macW cs (ad 0) S F) ++ [(o, .inl (cs.2.1, 1, .inr (.inl OL)))]) := by
  refine zMw.of (own := RL) (by decide) (Nat.le_of_ble_eq_true rfl) rfl ?_
  intro pq eq s mq below meth cq A ls hx hb hr hml hown hts hlk htab hE hK hA hP hD hS hl
  have hl : lv_has ls 5 [(0, .ref (ad 3 0)), (1, .int g), (2, .int wh), (3, .ref o)] := hl
  refine lv_aload_n hx hb dL_guard_0 rfl (lv_at hl 3 rfl) ?_
  refine lv_iconst (v := 0) hx hb dL_guard_1 (by decide) ?_
  refine lv_aload_n hx hb dL_guard_2 rfl (lv_at hl 0 rfl) ?_
  refine lv_iload_n hx hb dL_guard_3 rfl (lv_at hl 1 rfl) ?_
  refine lv_iload_n hx hb dL_guard_4 rfl (lv_at hl 2 rfl) ?_
  refine z_callVx (wn := ((camW ad) ++ (macW cs (ad 0) S F) ++ [(o, .inl (cs.2.1, 1, .inr (.inl OL)))])) ⟨hx, hb, hml, hown, hts⟩ zY_X7_guard w_im_yX7_guard w_se_yX7_guard w_ml_L_51 [.int g, .int wh] [.int 0, .ref o] (c_X7_guard l D cs hfl ad S F g wh gn hS8 hg4) hE hK hA hP hD hS [0, 1, 2, 3, 4, 5, 6, 7, 8, 9, 10, 11, 12, 13, 14, 15, 16, 17] rfl rfl rfl rfl 7 rfl rfl rfl rfl hl.1 (Nat.le_of_ble_eq_true rfl) ⟨Nat.le_of_ble_eq_true rfl, Nat.le_of_ble_eq_true rfl⟩ ⟨Nat.le_of_ble_eq_true rfl, Nat.le_of_ble_eq_true rfl⟩ dL_guard_5 (fun E ce q9 H locs hex hP hD hS hce hcv hcl => ?_) (fun hex H locs hP hD hS => ?_)
  · skip
    obtain rfl : zIO = E := Option.some.inj (hx0.symm.trans hex)
    refine z_catch hown hts hE htab [] ⟨0, 10, 13, 13⟩ [⟨0, 10, 17, 19⟩] rfl (fun z hz => by cases hz) (by decide) (by decide) w_cl_L_13 (List.mem_of_getElem? (i := 0) rfl) hce hcv hcl ?_
    refine W.eq (g2 := F0 mq 13 ls [.ref q9]) rfl ?_
    refine lv_astore (lv' := [(4, .ref q9), (0, .ref (ad 3 0)), (1, .int g), (2, .int wh), (3, .ref o)]) hx hb dL_guard_13 hl (by decide) rfl (fun ls hl => ?_)
    refine lv_iconst (v := 1) hx hb dL_guard_15 (by decide) ?_
    exact z_iretW hx hb hr hlk hK hP hD hS dL_guard_16 (Nat.le_of_ble_eq_true rfl) (Nat.le_of_ble_eq_true rfl) rfl rfl
  · exact absurd (hx0.symm.trans hex) (fun h => nomatch h)

set_option maxHeartbeats 4000000 in
set_option maxRecDepth 100000 in
theorem c_L_guard_e2 (l : Launch) (D : va_G) (cs : zCs) (hfl : l.stackTraces = false) (ad : Nat → Nat → Nat) (S : Nat → Int32) (F : Nat → Nat → Int32) (g wh : Int32) (gn : Nat) (o : Nat) (OL : Nat → Int64) (hS8 : S 8 = nI gn) (hg4 : gn ≤ 4) (hx0 : (exT (0 ≤ g ∧ g ≤ zmin (S 8) 4 - 1) zIO (exT (0 ≤ wh ∧ wh ≤ 4 - 1) zIA none)) = some zIA) : zMw l D cs yL_guard cL_guard 5 (some FieldType.int) [((0), (10), (13), (13)), ((0), (10), (17), (19))] 8 125 2 12 [.ref (ad 3 0), .int g, .int wh, .ref o] ((camW ad) ++ (macW cs (ad 0) S F) ++ [(o, .inl (cs.2.1, 1, .inr (.inl OL)))]) (some (.int 2)) ((camW ad) ++ (macW cs (ad 0) S F) ++ [(o, .inl (cs.2.1, 1, .inr (.inl OL)))]) := by
  refine zMw.of (own := RL) (by decide) (Nat.le_of_ble_eq_true rfl) rfl ?_
  intro pq eq s mq below meth cq A ls hx hb hr hml hown hts hlk htab hE hK hA hP hD hS hl
  have hl : lv_has ls 5 [(0, .ref (ad 3 0)), (1, .int g), (2, .int wh), (3, .ref o)] := hl
  refine lv_aload_n hx hb dL_guard_0 rfl (lv_at hl 3 rfl) ?_
  refine lv_iconst (v := 0) hx hb dL_guard_1 (by decide) ?_
  refine lv_aload_n hx hb dL_guard_2 rfl (lv_at hl 0 rfl) ?_
  refine lv_iload_n hx hb dL_guard_3 rfl (lv_at hl 1 rfl) ?_
  refine lv_iload_n hx hb dL_guard_4 rfl (lv_at hl 2 rfl) ?_
  refine z_callVx (wn := ((camW ad) ++ (macW cs (ad 0) S F) ++ [(o, .inl (cs.2.1, 1, .inr (.inl OL)))])) ⟨hx, hb, hml, hown, hts⟩ zY_X7_guard w_im_yX7_guard w_se_yX7_guard w_ml_L_51 [.int g, .int wh] [.int 0, .ref o] (c_X7_guard l D cs hfl ad S F g wh gn hS8 hg4) hE hK hA hP hD hS [0, 1, 2, 3, 4, 5, 6, 7, 8, 9, 10, 11, 12, 13, 14, 15, 16, 17] rfl rfl rfl rfl 7 rfl rfl rfl rfl hl.1 (Nat.le_of_ble_eq_true rfl) ⟨Nat.le_of_ble_eq_true rfl, Nat.le_of_ble_eq_true rfl⟩ ⟨Nat.le_of_ble_eq_true rfl, Nat.le_of_ble_eq_true rfl⟩ dL_guard_5 (fun E ce q9 H locs hex hP hD hS hce hcv hcl => ?_) (fun hex H locs hP hD hS => ?_)
  · skip
    obtain rfl : zIA = E := Option.some.inj (hx0.symm.trans hex)
    refine z_catch hown hts hE htab [⟨0, 10, 13, 13⟩] ⟨0, 10, 17, 19⟩ [] rfl (fun z hz => by rcases List.mem_cons.mp hz with rfl | hz; exact ⟨by decide, zIO, w_cl_L_13, List.mem_of_getElem? (i := 0) rfl⟩; cases hz) (by decide) (by decide) w_cl_L_19 (List.mem_of_getElem? (i := 1) rfl) hce hcv hcl ?_
    refine W.eq (g2 := F0 mq 17 ls [.ref q9]) rfl ?_
    refine lv_astore (lv' := [(4, .ref q9), (0, .ref (ad 3 0)), (1, .int g), (2, .int wh), (3, .ref o)]) hx hb dL_guard_17 hl (by decide) rfl (fun ls hl => ?_)
    refine lv_iconst (v := 2) hx hb dL_guard_19 (by decide) ?_
    exact z_iretW hx hb hr hlk hK hP hD hS dL_guard_20 (Nat.le_of_ble_eq_true rfl) (Nat.le_of_ble_eq_true rfl) rfl rfl
  · exact absurd (hx0.symm.trans hex) (fun h => nomatch h)

set_option maxHeartbeats 4000000 in
set_option maxRecDepth 100000 in
theorem c_L_value_ok (l : Launch) (D : va_G) (cs : zCs) (hfl : l.stackTraces = false) (ad : Nat → Nat → Nat) (S : Nat → Int32) (F : Nat → Nat → Int32) (wh : Int32) (o : Nat) (OL : Nat → Int64) (hx0 : (exT (0 ≤ wh ∧ wh ≤ 16 - 1) zIA none) = none) : zMw l D cs yL_value cL_value 4 (some FieldType.int) [((0), (9), (12), (19))] 8 124 1 6 [.ref (ad 3 0), .int wh, .ref o] ((camW ad) ++ (macW cs (ad 0) S F) ++ [(o, .inl (cs.2.1, 1, .inr (.inl OL)))]) (some (.int 0)) ((camW ad) ++ (macW cs (ad 0) S F) ++ [(o, .inl (cs.2.1, 1, .inr (.inl (vp_updL OL 0 (S (nN wh)).toInt64))))]) := by
  refine zMw.of (own := RL) (by decide) (Nat.le_of_ble_eq_true rfl) rfl ?_
  intro pq eq s mq below meth cq A ls hx hb hr hml hown hts hlk htab hE hK hA hP hD hS hl
  have hl : lv_has ls 4 [(0, .ref (ad 3 0)), (1, .int wh), (2, .ref o)] := hl
  refine lv_aload_n hx hb dL_value_0 rfl (lv_at hl 2 rfl) ?_
  refine lv_iconst (v := 0) hx hb dL_value_1 (by decide) ?_
  refine lv_aload_n hx hb dL_value_2 rfl (lv_at hl 0 rfl) ?_
  refine lv_iload_n hx hb dL_value_3 rfl (lv_at hl 1 rfl) ?_
  refine z_callVx (wn := ((camW ad) ++ (macW cs (ad 0) S F) ++ [(o, .inl (cs.2.1, 1, .inr (.inl OL)))])) ⟨hx, hb, hml, hown, hts⟩ zY_X7_value w_im_yX7_value w_se_yX7_value w_ml_L_54 [.int wh] [.int 0, .ref o] (c_X7_value l D cs hfl ad S F wh) hE hK hA hP hD hS [0, 1, 2, 3, 4, 5, 6, 7, 8, 9, 10, 11, 12, 13, 14, 15, 16, 17] rfl rfl rfl rfl 7 rfl rfl rfl rfl hl.1 (Nat.le_of_ble_eq_true rfl) ⟨Nat.le_of_ble_eq_true rfl, Nat.le_of_ble_eq_true rfl⟩ ⟨Nat.le_of_ble_eq_true rfl, Nat.le_of_ble_eq_true rfl⟩ dL_value_4 (fun E ce q9 H locs hex hP hD hS hce hcv hcl => absurd (hx0.symm.trans hex) (fun h => nomatch h)) (fun hex H locs hP hD hS => ?_)
  have x_1 := exT_none hex
  refine lv_i2l (v := (S (nN wh)).toInt64) hx hb dL_value_7 rfl ?_
  refine va_last hx hb hK hP hD hS 18 1 rfl rfl (vp_in_nI (n := 0) (N := 1) (by decide) (by decide)) dL_value_8 (fun H locs hP hD hS => ?_)
  have hP : va_P D vwCl ((camW ad) ++ (macW cs (ad 0) S F) ++ [(o, .inl (cs.2.1, 1, .inr (.inl (vp_updL OL 0 ((S (nN wh)).toInt64)))))]) H := hP
  have hD : va_D A ((camW ad) ++ (macW cs (ad 0) S F) ++ [(o, .inl (cs.2.1, 1, .inr (.inl (vp_updL OL 0 ((S (nN wh)).toInt64)))))]) := hD
  refine lv_goto (tgt := 15) hx hb dL_value_9 (by decide) ?_
  refine lv_iconst (v := 0) hx hb dL_value_15 (by decide) ?_
  exact z_iretW hx hb hr hlk hK hP hD hS dL_value_16 (Nat.le_of_ble_eq_true rfl) (Nat.le_of_ble_eq_true rfl) rfl rfl

set_option maxHeartbeats 4000000 in
set_option maxRecDepth 100000 in
theorem c_L_value_e1 (l : Launch) (D : va_G) (cs : zCs) (hfl : l.stackTraces = false) (ad : Nat → Nat → Nat) (S : Nat → Int32) (F : Nat → Nat → Int32) (wh : Int32) (o : Nat) (OL : Nat → Int64) (hx0 : (exT (0 ≤ wh ∧ wh ≤ 16 - 1) zIA none) = some zIA) : zMw l D cs yL_value cL_value 4 (some FieldType.int) [((0), (9), (12), (19))] 8 124 1 6 [.ref (ad 3 0), .int wh, .ref o] ((camW ad) ++ (macW cs (ad 0) S F) ++ [(o, .inl (cs.2.1, 1, .inr (.inl OL)))]) (some (.int 1)) ((camW ad) ++ (macW cs (ad 0) S F) ++ [(o, .inl (cs.2.1, 1, .inr (.inl OL)))]) := by
  refine zMw.of (own := RL) (by decide) (Nat.le_of_ble_eq_true rfl) rfl ?_
  intro pq eq s mq below meth cq A ls hx hb hr hml hown hts hlk htab hE hK hA hP hD hS hl
  have hl : lv_has ls 4 [(0, .ref (ad 3 0)), (1, .int wh), (2, .ref o)] := hl
  refine lv_aload_n hx hb dL_value_0 rfl (lv_at hl 2 rfl) ?_
  refine lv_iconst (v := 0) hx hb dL_value_1 (by decide) ?_
  refine lv_aload_n hx hb dL_value_2 rfl (lv_at hl 0 rfl) ?_
  refine lv_iload_n hx hb dL_value_3 rfl (lv_at hl 1 rfl) ?_
  refine z_callVx (wn := ((camW ad) ++ (macW cs (ad 0) S F) ++ [(o, .inl (cs.2.1, 1, .inr (.inl OL)))])) ⟨hx, hb, hml, hown, hts⟩ zY_X7_value w_im_yX7_value w_se_yX7_value w_ml_L_54 [.int wh] [.int 0, .ref o] (c_X7_value l D cs hfl ad S F wh) hE hK hA hP hD hS [0, 1, 2, 3, 4, 5, 6, 7, 8, 9, 10, 11, 12, 13, 14, 15, 16, 17] rfl rfl rfl rfl 7 rfl rfl rfl rfl hl.1 (Nat.le_of_ble_eq_true rfl) ⟨Nat.le_of_ble_eq_true rfl, Nat.le_of_ble_eq_true rfl⟩ ⟨Nat.le_of_ble_eq_true rfl, Nat.le_of_ble_eq_true rfl⟩ dL_value_4 (fun E ce q9 H locs hex hP hD hS hce hcv hcl => ?_) (fun hex H locs hP hD hS => ?_)
  · skip
    obtain rfl : zIA = E := Option.some.inj (hx0.symm.trans hex)
    refine z_catch hown hts hE htab [] ⟨0, 9, 12, 19⟩ [] rfl (fun z hz => by cases hz) (by decide) (by decide) w_cl_L_19 (List.mem_of_getElem? (i := 1) rfl) hce hcv hcl ?_
    refine W.eq (g2 := F0 mq 12 ls [.ref q9]) rfl ?_
    refine lv_astore_n (lv' := [(3, .ref q9), (0, .ref (ad 3 0)), (1, .int wh), (2, .ref o)]) hx hb dL_value_12 rfl hl (by decide) rfl (fun ls hl => ?_)
    refine lv_iconst (v := 1) hx hb dL_value_13 (by decide) ?_
    exact z_iretW hx hb hr hlk hK hP hD hS dL_value_14 (Nat.le_of_ble_eq_true rfl) (Nat.le_of_ble_eq_true rfl) rfl rfl
  · exact absurd (hx0.symm.trans hex) (fun h => nomatch h)

set_option maxHeartbeats 4000000 in
set_option maxRecDepth 100000 in
theorem c_L_chart_ok (l : Launch) (D : va_G) (cs : zCs) (hfl : l.stackTraces = false) (ad : Nat → Nat → Nat) (S : Nat → Int32) (F : Nat → Nat → Int32) (cy st : Int32) (o : Nat) (OL : Nat → Int64) (hx0 : (exT (0 ≤ cy ∧ cy ≤ 4) zIO (exT (0 ≤ st ∧ st ≤ (S 0) - 1) zIO none)) = none) : zMw l D cs yL_chart cL_chart 5 (some FieldType.int) [((0), (10), (13), (13))] 8 125 2 12 [.ref (ad 3 0), .int cy, .int st, .ref o] ((camW ad) ++ (macW cs (ad 0) S F) ++ [(o, .inl (cs.2.1, 1, .inr (.inl OL)))]) (some (.int 0)) ((camW ad) ++ (macW cs (ad 0) S F) ++ [(o, .inl (cs.2.1, 1, .inr (.inl (vp_updL OL 0 (chtAt F cy st).toInt64))))]) := by
  refine zMw.of (own := RL) (by decide) (Nat.le_of_ble_eq_true rfl) rfl ?_
  intro pq eq s mq below meth cq A ls hx hb hr hml hown hts hlk htab hE hK hA hP hD hS hl
  have hl : lv_has ls 5 [(0, .ref (ad 3 0)), (1, .int cy), (2, .int st), (3, .ref o)] := hl
  refine lv_aload_n hx hb dL_chart_0 rfl (lv_at hl 3 rfl) ?_
  refine lv_iconst (v := 0) hx hb dL_chart_1 (by decide) ?_
  refine lv_aload_n hx hb dL_chart_2 rfl (lv_at hl 0 rfl) ?_
  refine lv_iload_n hx hb dL_chart_3 rfl (lv_at hl 1 rfl) ?_
  refine lv_iload_n hx hb dL_chart_4 rfl (lv_at hl 2 rfl) ?_
  refine z_callVx (wn := ((camW ad) ++ (macW cs (ad 0) S F) ++ [(o, .inl (cs.2.1, 1, .inr (.inl OL)))])) ⟨hx, hb, hml, hown, hts⟩ zY_X7_chart w_im_yX7_chart w_se_yX7_chart w_ml_L_57 [.int cy, .int st] [.int 0, .ref o] (c_X7_chart l D cs hfl ad S F cy st) hE hK hA hP hD hS [0, 1, 2, 3, 4, 5, 6, 7, 8, 9, 10, 11, 12, 13, 14, 15, 16, 17] rfl rfl rfl rfl 7 rfl rfl rfl rfl hl.1 (Nat.le_of_ble_eq_true rfl) ⟨Nat.le_of_ble_eq_true rfl, Nat.le_of_ble_eq_true rfl⟩ ⟨Nat.le_of_ble_eq_true rfl, Nat.le_of_ble_eq_true rfl⟩ dL_chart_5 (fun E ce q9 H locs hex hP hD hS hce hcv hcl => absurd (hx0.symm.trans hex) (fun h => nomatch h)) (fun hex H locs hP hD hS => ?_)
  have x_1 := exT_none hex
  refine lv_i2l (v := (chtAt F cy st).toInt64) hx hb dL_chart_8 rfl ?_
  refine va_last hx hb hK hP hD hS 18 1 rfl rfl (vp_in_nI (n := 0) (N := 1) (by decide) (by decide)) dL_chart_9 (fun H locs hP hD hS => ?_)
  have hP : va_P D vwCl ((camW ad) ++ (macW cs (ad 0) S F) ++ [(o, .inl (cs.2.1, 1, .inr (.inl (vp_updL OL 0 ((chtAt F cy st).toInt64)))))]) H := hP
  have hD : va_D A ((camW ad) ++ (macW cs (ad 0) S F) ++ [(o, .inl (cs.2.1, 1, .inr (.inl (vp_updL OL 0 ((chtAt F cy st).toInt64)))))]) := hD
  refine lv_goto (tgt := 17) hx hb dL_chart_10 (by decide) ?_
  refine lv_iconst (v := 0) hx hb dL_chart_17 (by decide) ?_
  exact z_iretW hx hb hr hlk hK hP hD hS dL_chart_18 (Nat.le_of_ble_eq_true rfl) (Nat.le_of_ble_eq_true rfl) rfl rfl

set_option maxHeartbeats 4000000 in
set_option maxRecDepth 100000 in
theorem c_L_chart_e1 (l : Launch) (D : va_G) (cs : zCs) (hfl : l.stackTraces = false) (ad : Nat → Nat → Nat) (S : Nat → Int32) (F : Nat → Nat → Int32) (cy st : Int32) (o : Nat) (OL : Nat → Int64) (hx0 : (exT (0 ≤ cy ∧ cy ≤ 4) zIO (exT (0 ≤ st ∧ st ≤ (S 0) - 1) zIO none)) = some zIO) : zMw l D cs yL_chart cL_chart 5 (some FieldType.int) [((0), (10), (13), (13))] 8 125 2 12 [.ref (ad 3 0), .int cy, .int st, .ref o] ((camW ad) ++ (macW cs (ad 0) S F) ++ [(o, .inl (cs.2.1, 1, .inr (.inl OL)))]) (some (.int 1)) ((camW ad) ++ (macW cs (ad 0) S F) ++ [(o, .inl (cs.2.1, 1, .inr (.inl OL)))]) := by
  refine zMw.of (own := RL) (by decide) (Nat.le_of_ble_eq_true rfl) rfl ?_
  intro pq eq s mq below meth cq A ls hx hb hr hml hown hts hlk htab hE hK hA hP hD hS hl
  have hl : lv_has ls 5 [(0, .ref (ad 3 0)), (1, .int cy), (2, .int st), (3, .ref o)] := hl
  refine lv_aload_n hx hb dL_chart_0 rfl (lv_at hl 3 rfl) ?_
  refine lv_iconst (v := 0) hx hb dL_chart_1 (by decide) ?_
  refine lv_aload_n hx hb dL_chart_2 rfl (lv_at hl 0 rfl) ?_
  refine lv_iload_n hx hb dL_chart_3 rfl (lv_at hl 1 rfl) ?_
  refine lv_iload_n hx hb dL_chart_4 rfl (lv_at hl 2 rfl) ?_
  refine z_callVx (wn := ((camW ad) ++ (macW cs (ad 0) S F) ++ [(o, .inl (cs.2.1, 1, .inr (.inl OL)))])) ⟨hx, hb, hml, hown, hts⟩ zY_X7_chart w_im_yX7_chart w_se_yX7_chart w_ml_L_57 [.int cy, .int st] [.int 0, .ref o] (c_X7_chart l D cs hfl ad S F cy st) hE hK hA hP hD hS [0, 1, 2, 3, 4, 5, 6, 7, 8, 9, 10, 11, 12, 13, 14, 15, 16, 17] rfl rfl rfl rfl 7 rfl rfl rfl rfl hl.1 (Nat.le_of_ble_eq_true rfl) ⟨Nat.le_of_ble_eq_true rfl, Nat.le_of_ble_eq_true rfl⟩ ⟨Nat.le_of_ble_eq_true rfl, Nat.le_of_ble_eq_true rfl⟩ dL_chart_5 (fun E ce q9 H locs hex hP hD hS hce hcv hcl => ?_) (fun hex H locs hP hD hS => ?_)
  · skip
    obtain rfl : zIO = E := Option.some.inj (hx0.symm.trans hex)
    refine z_catch hown hts hE htab [] ⟨0, 10, 13, 13⟩ [] rfl (fun z hz => by cases hz) (by decide) (by decide) w_cl_L_13 (List.mem_of_getElem? (i := 0) rfl) hce hcv hcl ?_
    refine W.eq (g2 := F0 mq 13 ls [.ref q9]) rfl ?_
    refine lv_astore (lv' := [(4, .ref q9), (0, .ref (ad 3 0)), (1, .int cy), (2, .int st), (3, .ref o)]) hx hb dL_chart_13 hl (by decide) rfl (fun ls hl => ?_)
    refine lv_iconst (v := 1) hx hb dL_chart_15 (by decide) ?_
    exact z_iretW hx hb hr hlk hK hP hD hS dL_chart_16 (Nat.le_of_ble_eq_true rfl) (Nat.le_of_ble_eq_true rfl) rfl rfl
  · exact absurd (hx0.symm.trans hex) (fun h => nomatch h)

set_option maxHeartbeats 4000000 in
set_option maxRecDepth 100000 in
theorem c_L_skips_ok (l : Launch) (D : va_G) (cs : zCs) (hfl : l.stackTraces = false) (ad : Nat → Nat → Nat) (S : Nat → Int32) (F : Nat → Nat → Int32) (st : Int32) (o : Nat) (OL : Nat → Int64) (hx0 : (exT (0 ≤ st ∧ st ≤ (S 0) - 1) zIO none) = none) : zMw l D cs yL_skips cL_skips 4 (some FieldType.int) [((0), (9), (12), (13))] 8 124 1 6 [.ref (ad 3 0), .int st, .ref o] ((camW ad) ++ (macW cs (ad 0) S F) ++ [(o, .inl (cs.2.1, 1, .inr (.inl OL)))]) (some (.int 0)) ((camW ad) ++ (macW cs (ad 0) S F) ++ [(o, .inl (cs.2.1, 1, .inr (.inl (vp_updL OL 0 (chtSk F st).toInt64))))]) := by
  refine zMw.of (own := RL) (by decide) (Nat.le_of_ble_eq_true rfl) rfl ?_
  intro pq eq s mq below meth cq A ls hx hb hr hml hown hts hlk htab hE hK hA hP hD hS hl
  have hl : lv_has ls 4 [(0, .ref (ad 3 0)), (1, .int st), (2, .ref o)] := hl
  refine lv_aload_n hx hb dL_skips_0 rfl (lv_at hl 2 rfl) ?_
  refine lv_iconst (v := 0) hx hb dL_skips_1 (by decide) ?_
  refine lv_aload_n hx hb dL_skips_2 rfl (lv_at hl 0 rfl) ?_
  refine lv_iload_n hx hb dL_skips_3 rfl (lv_at hl 1 rfl) ?_
  refine z_callVx (wn := ((camW ad) ++ (macW cs (ad 0) S F) ++ [(o, .inl (cs.2.1, 1, .inr (.inl OL)))])) ⟨hx, hb, hml, hown, hts⟩ zY_X7_skips w_im_yX7_skips w_se_yX7_skips w_ml_L_60 [.int st] [.int 0, .ref o] (c_X7_skips l D cs hfl ad S F st) hE hK hA hP hD hS [0, 1, 2, 3, 4, 5, 6, 7, 8, 9, 10, 11, 12, 13, 14, 15, 16, 17] rfl rfl rfl rfl 7 rfl rfl rfl rfl hl.1 (Nat.le_of_ble_eq_true rfl) ⟨Nat.le_of_ble_eq_true rfl, Nat.le_of_ble_eq_true rfl⟩ ⟨Nat.le_of_ble_eq_true rfl, Nat.le_of_ble_eq_true rfl⟩ dL_skips_4 (fun E ce q9 H locs hex hP hD hS hce hcv hcl => absurd (hx0.symm.trans hex) (fun h => nomatch h)) (fun hex H locs hP hD hS => ?_)
  have x_1 := exT_none hex
  refine lv_i2l (v := (chtSk F st).toInt64) hx hb dL_skips_7 rfl ?_
  refine va_last hx hb hK hP hD hS 18 1 rfl rfl (vp_in_nI (n := 0) (N := 1) (by decide) (by decide)) dL_skips_8 (fun H locs hP hD hS => ?_)
  have hP : va_P D vwCl ((camW ad) ++ (macW cs (ad 0) S F) ++ [(o, .inl (cs.2.1, 1, .inr (.inl (vp_updL OL 0 ((chtSk F st).toInt64)))))]) H := hP
  have hD : va_D A ((camW ad) ++ (macW cs (ad 0) S F) ++ [(o, .inl (cs.2.1, 1, .inr (.inl (vp_updL OL 0 ((chtSk F st).toInt64)))))]) := hD
  refine lv_goto (tgt := 15) hx hb dL_skips_9 (by decide) ?_
  refine lv_iconst (v := 0) hx hb dL_skips_15 (by decide) ?_
  exact z_iretW hx hb hr hlk hK hP hD hS dL_skips_16 (Nat.le_of_ble_eq_true rfl) (Nat.le_of_ble_eq_true rfl) rfl rfl

set_option maxHeartbeats 4000000 in
set_option maxRecDepth 100000 in
theorem c_L_skips_e1 (l : Launch) (D : va_G) (cs : zCs) (hfl : l.stackTraces = false) (ad : Nat → Nat → Nat) (S : Nat → Int32) (F : Nat → Nat → Int32) (st : Int32) (o : Nat) (OL : Nat → Int64) (hx0 : (exT (0 ≤ st ∧ st ≤ (S 0) - 1) zIO none) = some zIO) : zMw l D cs yL_skips cL_skips 4 (some FieldType.int) [((0), (9), (12), (13))] 8 124 1 6 [.ref (ad 3 0), .int st, .ref o] ((camW ad) ++ (macW cs (ad 0) S F) ++ [(o, .inl (cs.2.1, 1, .inr (.inl OL)))]) (some (.int 1)) ((camW ad) ++ (macW cs (ad 0) S F) ++ [(o, .inl (cs.2.1, 1, .inr (.inl OL)))]) := by
  refine zMw.of (own := RL) (by decide) (Nat.le_of_ble_eq_true rfl) rfl ?_
  intro pq eq s mq below meth cq A ls hx hb hr hml hown hts hlk htab hE hK hA hP hD hS hl
  have hl : lv_has ls 4 [(0, .ref (ad 3 0)), (1, .int st), (2, .ref o)] := hl
  refine lv_aload_n hx hb dL_skips_0 rfl (lv_at hl 2 rfl) ?_
  refine lv_iconst (v := 0) hx hb dL_skips_1 (by decide) ?_
  refine lv_aload_n hx hb dL_skips_2 rfl (lv_at hl 0 rfl) ?_
  refine lv_iload_n hx hb dL_skips_3 rfl (lv_at hl 1 rfl) ?_
  refine z_callVx (wn := ((camW ad) ++ (macW cs (ad 0) S F) ++ [(o, .inl (cs.2.1, 1, .inr (.inl OL)))])) ⟨hx, hb, hml, hown, hts⟩ zY_X7_skips w_im_yX7_skips w_se_yX7_skips w_ml_L_60 [.int st] [.int 0, .ref o] (c_X7_skips l D cs hfl ad S F st) hE hK hA hP hD hS [0, 1, 2, 3, 4, 5, 6, 7, 8, 9, 10, 11, 12, 13, 14, 15, 16, 17] rfl rfl rfl rfl 7 rfl rfl rfl rfl hl.1 (Nat.le_of_ble_eq_true rfl) ⟨Nat.le_of_ble_eq_true rfl, Nat.le_of_ble_eq_true rfl⟩ ⟨Nat.le_of_ble_eq_true rfl, Nat.le_of_ble_eq_true rfl⟩ dL_skips_4 (fun E ce q9 H locs hex hP hD hS hce hcv hcl => ?_) (fun hex H locs hP hD hS => ?_)
  · skip
    obtain rfl : zIO = E := Option.some.inj (hx0.symm.trans hex)
    refine z_catch hown hts hE htab [] ⟨0, 9, 12, 13⟩ [] rfl (fun z hz => by cases hz) (by decide) (by decide) w_cl_L_13 (List.mem_of_getElem? (i := 0) rfl) hce hcv hcl ?_
    refine W.eq (g2 := F0 mq 12 ls [.ref q9]) rfl ?_
    refine lv_astore_n (lv' := [(3, .ref q9), (0, .ref (ad 3 0)), (1, .int st), (2, .ref o)]) hx hb dL_skips_12 rfl hl (by decide) rfl (fun ls hl => ?_)
    refine lv_iconst (v := 1) hx hb dL_skips_13 (by decide) ?_
    exact z_iretW hx hb hr hlk hK hP hD hS dL_skips_14 (Nat.le_of_ble_eq_true rfl) (Nat.le_of_ble_eq_true rfl) rfl rfl
  · exact absurd (hx0.symm.trans hex) (fun h => nomatch h)

set_option maxHeartbeats 4000000 in
set_option maxRecDepth 100000 in
theorem c_L_ticksToOut_ok (l : Launch) (D : va_G) (cs : zCs) (hfl : l.stackTraces = false) (ad : Nat → Nat → Nat) (S : Nat → Int32) (F : Nat → Nat → Int32) (TS : Nat → Int32) (TF : Nat → Nat → Int32) (cy : Int32) (o : Nat) (OL : Nat → Int64) (hx0 : (exT (0 ≤ cy ∧ cy ≤ 4) zIO none) = none) : zMw l D cs yL_ticksToOut cL_ticksToOut 4 (some FieldType.int) [((0), (9), (12), (13))] 8 154 1 6 [.ref (ad 3 0), .int cy, .ref o] ((camW ad) ++ (macW cs (ad 0) S F) ++ (macW cs (ad 1) TS TF) ++ [(o, .inl (cs.2.1, 1, .inr (.inl OL)))]) (some (.int 0)) ((camW ad) ++ (macW cs (ad 0) S F) ++ (macW cs (ad 1) ((toP (nN cy) 501 (S, F)).1) ((toP (nN cy) 501 (S, F)).2)) ++ [(o, .inl (cs.2.1, 1, .inr (.inl (vp_updL OL 0 (toR (nN cy) 501 0 (S, F)).toInt64))))]) := by
  refine zMw.of (own := RL) (by decide) (Nat.le_of_ble_eq_true rfl) rfl ?_
  intro pq eq s mq below meth cq A ls hx hb hr hml hown hts hlk htab hE hK hA hP hD hS hl
  have hl : lv_has ls 4 [(0, .ref (ad 3 0)), (1, .int cy), (2, .ref o)] := hl
  refine lv_aload_n hx hb dL_ticksToOut_0 rfl (lv_at hl 2 rfl) ?_
  refine lv_iconst (v := 0) hx hb dL_ticksToOut_1 (by decide) ?_
  refine lv_aload_n hx hb dL_ticksToOut_2 rfl (lv_at hl 0 rfl) ?_
  refine lv_iload_n hx hb dL_ticksToOut_3 rfl (lv_at hl 1 rfl) ?_
  refine z_callVx (wn := ((camW ad) ++ (macW cs (ad 0) S F) ++ (macW cs (ad 1) ((toP (nN cy) 501 (S, F)).1) ((toP (nN cy) 501 (S, F)).2)) ++ [(o, .inl (cs.2.1, 1, .inr (.inl OL)))])) ⟨hx, hb, hml, hown, hts⟩ zY_X7_ticksToOut w_im_yX7_ticksToOut w_se_yX7_ticksToOut w_ml_L_63 [.int cy] [.int 0, .ref o] (c_X7_ticksToOut l D cs hfl ad S F TS TF cy) hE hK hA hP hD hS [0, 1, 2, 3, 4, 5, 6, 7, 8, 9, 10, 11, 12, 13, 14, 15, 16, 17, 18, 19, 20, 21, 22, 23, 24, 25, 26, 27, 28, 29, 30, 31, 32, 33, 34] rfl rfl rfl rfl 7 rfl rfl rfl rfl hl.1 (Nat.le_of_ble_eq_true rfl) ⟨Nat.le_of_ble_eq_true rfl, Nat.le_of_ble_eq_true rfl⟩ ⟨Nat.le_of_ble_eq_true rfl, Nat.le_of_ble_eq_true rfl⟩ dL_ticksToOut_4 (fun E ce q9 H locs hex hP hD hS hce hcv hcl => absurd (hx0.symm.trans hex) (fun h => nomatch h)) (fun hex H locs hP hD hS => ?_)
  have x_1 := exT_none hex
  refine lv_i2l (v := (toR (nN cy) 501 0 (S, F)).toInt64) hx hb dL_ticksToOut_7 rfl ?_
  refine va_last hx hb hK hP hD hS 35 1 rfl rfl (vp_in_nI (n := 0) (N := 1) (by decide) (by decide)) dL_ticksToOut_8 (fun H locs hP hD hS => ?_)
  have hP : va_P D vwCl ((camW ad) ++ (macW cs (ad 0) S F) ++ (macW cs (ad 1) ((toP (nN cy) 501 (S, F)).1) ((toP (nN cy) 501 (S, F)).2)) ++ [(o, .inl (cs.2.1, 1, .inr (.inl (vp_updL OL 0 ((toR (nN cy) 501 0 (S, F)).toInt64)))))]) H := hP
  have hD : va_D A ((camW ad) ++ (macW cs (ad 0) S F) ++ (macW cs (ad 1) ((toP (nN cy) 501 (S, F)).1) ((toP (nN cy) 501 (S, F)).2)) ++ [(o, .inl (cs.2.1, 1, .inr (.inl (vp_updL OL 0 ((toR (nN cy) 501 0 (S, F)).toInt64)))))]) := hD
  refine lv_goto (tgt := 15) hx hb dL_ticksToOut_9 (by decide) ?_
  refine lv_iconst (v := 0) hx hb dL_ticksToOut_15 (by decide) ?_
  exact z_iretW hx hb hr hlk hK hP hD hS dL_ticksToOut_16 (Nat.le_of_ble_eq_true rfl) (Nat.le_of_ble_eq_true rfl) rfl rfl

set_option maxHeartbeats 4000000 in
set_option maxRecDepth 100000 in
theorem c_L_ticksToOut_e1 (l : Launch) (D : va_G) (cs : zCs) (hfl : l.stackTraces = false) (ad : Nat → Nat → Nat) (S : Nat → Int32) (F : Nat → Nat → Int32) (TS : Nat → Int32) (TF : Nat → Nat → Int32) (cy : Int32) (o : Nat) (OL : Nat → Int64) (hx0 : (exT (0 ≤ cy ∧ cy ≤ 4) zIO none) = some zIO) : zMw l D cs yL_ticksToOut cL_ticksToOut 4 (some FieldType.int) [((0), (9), (12), (13))] 8 154 1 6 [.ref (ad 3 0), .int cy, .ref o] ((camW ad) ++ (macW cs (ad 0) S F) ++ (macW cs (ad 1) TS TF) ++ [(o, .inl (cs.2.1, 1, .inr (.inl OL)))]) (some (.int 1)) ((camW ad) ++ (macW cs (ad 0) S F) ++ (macW cs (ad 1) TS TF) ++ [(o, .inl (cs.2.1, 1, .inr (.inl OL)))]) := by
  refine zMw.of (own := RL) (by decide) (Nat.le_of_ble_eq_true rfl) rfl ?_
  intro pq eq s mq below meth cq A ls hx hb hr hml hown hts hlk htab hE hK hA hP hD hS hl
  have hl : lv_has ls 4 [(0, .ref (ad 3 0)), (1, .int cy), (2, .ref o)] := hl
  refine lv_aload_n hx hb dL_ticksToOut_0 rfl (lv_at hl 2 rfl) ?_
  refine lv_iconst (v := 0) hx hb dL_ticksToOut_1 (by decide) ?_
  refine lv_aload_n hx hb dL_ticksToOut_2 rfl (lv_at hl 0 rfl) ?_
  refine lv_iload_n hx hb dL_ticksToOut_3 rfl (lv_at hl 1 rfl) ?_
  refine z_callVx (wn := ((camW ad) ++ (macW cs (ad 0) S F) ++ (macW cs (ad 1) ((toP (nN cy) 501 (S, F)).1) ((toP (nN cy) 501 (S, F)).2)) ++ [(o, .inl (cs.2.1, 1, .inr (.inl OL)))])) ⟨hx, hb, hml, hown, hts⟩ zY_X7_ticksToOut w_im_yX7_ticksToOut w_se_yX7_ticksToOut w_ml_L_63 [.int cy] [.int 0, .ref o] (c_X7_ticksToOut l D cs hfl ad S F TS TF cy) hE hK hA hP hD hS [0, 1, 2, 3, 4, 5, 6, 7, 8, 9, 10, 11, 12, 13, 14, 15, 16, 17, 18, 19, 20, 21, 22, 23, 24, 25, 26, 27, 28, 29, 30, 31, 32, 33, 34] rfl rfl rfl rfl 7 rfl rfl rfl rfl hl.1 (Nat.le_of_ble_eq_true rfl) ⟨Nat.le_of_ble_eq_true rfl, Nat.le_of_ble_eq_true rfl⟩ ⟨Nat.le_of_ble_eq_true rfl, Nat.le_of_ble_eq_true rfl⟩ dL_ticksToOut_4 (fun E ce q9 H locs hex hP hD hS hce hcv hcl => ?_) (fun hex H locs hP hD hS => ?_)
  · skip
    obtain rfl : zIO = E := Option.some.inj (hx0.symm.trans hex)
    refine z_catch hown hts hE htab [] ⟨0, 9, 12, 13⟩ [] rfl (fun z hz => by cases hz) (by decide) (by decide) w_cl_L_13 (List.mem_of_getElem? (i := 0) rfl) hce hcv hcl ?_
    refine W.eq (g2 := F0 mq 12 ls [.ref q9]) rfl ?_
    refine lv_astore_n (lv' := [(3, .ref q9), (0, .ref (ad 3 0)), (1, .int cy), (2, .ref o)]) hx hb dL_ticksToOut_12 rfl hl (by decide) rfl (fun ls hl => ?_)
    refine lv_iconst (v := 1) hx hb dL_ticksToOut_13 (by decide) ?_
    exact z_iretW hx hb hr hlk hK hP hD hS dL_ticksToOut_14 (Nat.le_of_ble_eq_true rfl) (Nat.le_of_ble_eq_true rfl) rfl rfl
  · exact absurd (hx0.symm.trans hex) (fun h => nomatch h)

set_option maxHeartbeats 4000000 in
set_option maxRecDepth 100000 in
theorem c_L_leastCompressor_ok (l : Launch) (D : va_G) (cs : zCs) (hfl : l.stackTraces = false) (ad : Nat → Nat → Nat) (S : Nat → Int32) (F : Nat → Nat → Int32) (TS : Nat → Int32) (TF : Nat → Nat → Int32) (tk : Int32) (o : Nat) (OL : Nat → Int64) (hx0 : (exT (1 ≤ tk ∧ tk ≤ 300) zIA none) = none) : zMw l D cs yL_leastCompressor cL_leastCompressor 4 (some FieldType.int) [((0), (9), (12), (19))] 7 177 1 6 [.ref (ad 3 0), .int tk, .ref o] ((camW ad) ++ (macW cs (ad 0) S F) ++ (macW cs (ad 1) TS TF) ++ [(o, .inl (cs.2.1, 1, .inr (.inl OL)))]) (some (.int 0)) ((camW ad) ++ (macW cs (ad 0) S F) ++ (macW cs (ad 1) ((lcP (nN tk) S F 51 0 (TS, TF)).1) ((lcP (nN tk) S F 51 0 (TS, TF)).2)) ++ [(o, .inl (cs.2.1, 1, .inr (.inl (vp_updL OL 0 (lcR (nN tk) S F 51 0).toInt64))))]) := by
  refine zMw.of (own := RL) (by decide) (Nat.le_of_ble_eq_true rfl) rfl ?_
  intro pq eq s mq below meth cq A ls hx hb hr hml hown hts hlk htab hE hK hA hP hD hS hl
  have hl : lv_has ls 4 [(0, .ref (ad 3 0)), (1, .int tk), (2, .ref o)] := hl
  refine lv_aload_n hx hb dL_leastCompressor_0 rfl (lv_at hl 2 rfl) ?_
  refine lv_iconst (v := 0) hx hb dL_leastCompressor_1 (by decide) ?_
  refine lv_aload_n hx hb dL_leastCompressor_2 rfl (lv_at hl 0 rfl) ?_
  refine lv_iload_n hx hb dL_leastCompressor_3 rfl (lv_at hl 1 rfl) ?_
  refine z_callVx (wn := ((camW ad) ++ (macW cs (ad 0) S F) ++ (macW cs (ad 1) ((lcP (nN tk) S F 51 0 (TS, TF)).1) ((lcP (nN tk) S F 51 0 (TS, TF)).2)) ++ [(o, .inl (cs.2.1, 1, .inr (.inl OL)))])) ⟨hx, hb, hml, hown, hts⟩ zY_X7_leastCompressor w_im_yX7_leastCompressor w_se_yX7_leastCompressor w_ml_L_66 [.int tk] [.int 0, .ref o] (c_X7_leastCompressor l D cs hfl ad S F TS TF tk) hE hK hA hP hD hS [0, 1, 2, 3, 4, 5, 6, 7, 8, 9, 10, 11, 12, 13, 14, 15, 16, 17, 18, 19, 20, 21, 22, 23, 24, 25, 26, 27, 28, 29, 30, 31, 32, 33, 34] rfl rfl rfl rfl 7 rfl rfl rfl rfl hl.1 (Nat.le_of_ble_eq_true rfl) ⟨Nat.le_of_ble_eq_true rfl, Nat.le_of_ble_eq_true rfl⟩ ⟨Nat.le_of_ble_eq_true rfl, Nat.le_of_ble_eq_true rfl⟩ dL_leastCompressor_4 (fun E ce q9 H locs hex hP hD hS hce hcv hcl => absurd (hx0.symm.trans hex) (fun h => nomatch h)) (fun hex H locs hP hD hS => ?_)
  have x_1 := exT_none hex
  refine lv_i2l (v := (lcR (nN tk) S F 51 0).toInt64) hx hb dL_leastCompressor_7 rfl ?_
  refine va_last hx hb hK hP hD hS 35 1 rfl rfl (vp_in_nI (n := 0) (N := 1) (by decide) (by decide)) dL_leastCompressor_8 (fun H locs hP hD hS => ?_)
  have hP : va_P D vwCl ((camW ad) ++ (macW cs (ad 0) S F) ++ (macW cs (ad 1) ((lcP (nN tk) S F 51 0 (TS, TF)).1) ((lcP (nN tk) S F 51 0 (TS, TF)).2)) ++ [(o, .inl (cs.2.1, 1, .inr (.inl (vp_updL OL 0 ((lcR (nN tk) S F 51 0).toInt64)))))]) H := hP
  have hD : va_D A ((camW ad) ++ (macW cs (ad 0) S F) ++ (macW cs (ad 1) ((lcP (nN tk) S F 51 0 (TS, TF)).1) ((lcP (nN tk) S F 51 0 (TS, TF)).2)) ++ [(o, .inl (cs.2.1, 1, .inr (.inl (vp_updL OL 0 ((lcR (nN tk) S F 51 0).toInt64)))))]) := hD
  refine lv_goto (tgt := 15) hx hb dL_leastCompressor_9 (by decide) ?_
  refine lv_iconst (v := 0) hx hb dL_leastCompressor_15 (by decide) ?_
  exact z_iretW hx hb hr hlk hK hP hD hS dL_leastCompressor_16 (Nat.le_of_ble_eq_true rfl) (Nat.le_of_ble_eq_true rfl) rfl rfl

set_option maxHeartbeats 4000000 in
set_option maxRecDepth 100000 in
theorem c_L_leastCompressor_e1 (l : Launch) (D : va_G) (cs : zCs) (hfl : l.stackTraces = false) (ad : Nat → Nat → Nat) (S : Nat → Int32) (F : Nat → Nat → Int32) (TS : Nat → Int32) (TF : Nat → Nat → Int32) (tk : Int32) (o : Nat) (OL : Nat → Int64) (hx0 : (exT (1 ≤ tk ∧ tk ≤ 300) zIA none) = some zIA) : zMw l D cs yL_leastCompressor cL_leastCompressor 4 (some FieldType.int) [((0), (9), (12), (19))] 7 177 1 6 [.ref (ad 3 0), .int tk, .ref o] ((camW ad) ++ (macW cs (ad 0) S F) ++ (macW cs (ad 1) TS TF) ++ [(o, .inl (cs.2.1, 1, .inr (.inl OL)))]) (some (.int 1)) ((camW ad) ++ (macW cs (ad 0) S F) ++ (macW cs (ad 1) TS TF) ++ [(o, .inl (cs.2.1, 1, .inr (.inl OL)))]) := by
  refine zMw.of (own := RL) (by decide) (Nat.le_of_ble_eq_true rfl) rfl ?_
  intro pq eq s mq below meth cq A ls hx hb hr hml hown hts hlk htab hE hK hA hP hD hS hl
  have hl : lv_has ls 4 [(0, .ref (ad 3 0)), (1, .int tk), (2, .ref o)] := hl
  refine lv_aload_n hx hb dL_leastCompressor_0 rfl (lv_at hl 2 rfl) ?_
  refine lv_iconst (v := 0) hx hb dL_leastCompressor_1 (by decide) ?_
  refine lv_aload_n hx hb dL_leastCompressor_2 rfl (lv_at hl 0 rfl) ?_
  refine lv_iload_n hx hb dL_leastCompressor_3 rfl (lv_at hl 1 rfl) ?_
  refine z_callVx (wn := ((camW ad) ++ (macW cs (ad 0) S F) ++ (macW cs (ad 1) ((lcP (nN tk) S F 51 0 (TS, TF)).1) ((lcP (nN tk) S F 51 0 (TS, TF)).2)) ++ [(o, .inl (cs.2.1, 1, .inr (.inl OL)))])) ⟨hx, hb, hml, hown, hts⟩ zY_X7_leastCompressor w_im_yX7_leastCompressor w_se_yX7_leastCompressor w_ml_L_66 [.int tk] [.int 0, .ref o] (c_X7_leastCompressor l D cs hfl ad S F TS TF tk) hE hK hA hP hD hS [0, 1, 2, 3, 4, 5, 6, 7, 8, 9, 10, 11, 12, 13, 14, 15, 16, 17, 18, 19, 20, 21, 22, 23, 24, 25, 26, 27, 28, 29, 30, 31, 32, 33, 34] rfl rfl rfl rfl 7 rfl rfl rfl rfl hl.1 (Nat.le_of_ble_eq_true rfl) ⟨Nat.le_of_ble_eq_true rfl, Nat.le_of_ble_eq_true rfl⟩ ⟨Nat.le_of_ble_eq_true rfl, Nat.le_of_ble_eq_true rfl⟩ dL_leastCompressor_4 (fun E ce q9 H locs hex hP hD hS hce hcv hcl => ?_) (fun hex H locs hP hD hS => ?_)
  · skip
    obtain rfl : zIA = E := Option.some.inj (hx0.symm.trans hex)
    refine z_catch hown hts hE htab [] ⟨0, 9, 12, 19⟩ [] rfl (fun z hz => by cases hz) (by decide) (by decide) w_cl_L_19 (List.mem_of_getElem? (i := 1) rfl) hce hcv hcl ?_
    refine W.eq (g2 := F0 mq 12 ls [.ref q9]) rfl ?_
    refine lv_astore_n (lv' := [(3, .ref q9), (0, .ref (ad 3 0)), (1, .int tk), (2, .ref o)]) hx hb dL_leastCompressor_12 rfl hl (by decide) rfl (fun ls hl => ?_)
    refine lv_iconst (v := 1) hx hb dL_leastCompressor_13 (by decide) ?_
    exact z_iretW hx hb hr hlk hK hP hD hS dL_leastCompressor_14 (Nat.le_of_ble_eq_true rfl) (Nat.le_of_ble_eq_true rfl) rfl rfl
  · exact absurd (hx0.symm.trans hex) (fun h => nomatch h)

set_option maxHeartbeats 4000000 in
set_option maxRecDepth 100000 in
theorem c_L_append_ok (l : Launch) (D : va_G) (cs : zCs) (hfl : l.stackTraces = false) (ad : Nat → Nat → Nat) (X : Nat → Int32) (B : Nat → Nat → Int32) (L : Nat) (v : Int32) (o : Nat) (OL : Nat → Int64) (hX0 : X 0 = nI L) (hL : L ≤ 100) (hx0 : (exT (0 ≤ v ∧ v ≤ 127) zIA (exT (nI L < 100) zIS none)) = none) : zMw l D cs yL_append cL_append 4 (some FieldType.int) [((0), (9), (12), (19)), ((0), (9), (15), (32))] 7 103 1 6 [.ref (ad 3 0), .int v, .ref o] ((camW ad) ++ (txtW cs (ad 5) X B) ++ [(o, .inl (cs.2.1, 1, .inr (.inl OL)))]) (some (.int 0)) ((camW ad) ++ (txtW cs (ad 5) (upd X 0 (nI (L + 1))) (zU B 0 (upd (B 0) L v))) ++ [(o, .inl (cs.2.1, 1, .inr (.inl (vp_updL OL 0 (nI (L + 1)).toInt64))))]) := by
  refine zMw.of (own := RL) (by decide) (Nat.le_of_ble_eq_true rfl) rfl ?_
  intro pq eq s mq below meth cq A ls hx hb hr hml hown hts hlk htab hE hK hA hP hD hS hl
  have hl : lv_has ls 4 [(0, .ref (ad 3 0)), (1, .int v), (2, .ref o)] := hl
  refine lv_aload_n hx hb dL_append_0 rfl (lv_at hl 2 rfl) ?_
  refine lv_iconst (v := 0) hx hb dL_append_1 (by decide) ?_
  refine lv_aload_n hx hb dL_append_2 rfl (lv_at hl 0 rfl) ?_
  refine lv_iload_n hx hb dL_append_3 rfl (lv_at hl 1 rfl) ?_
  refine z_callVx (wn := ((camW ad) ++ (txtW cs (ad 5) (upd X 0 (nI (L + 1))) (zU B 0 (upd (B 0) L v))) ++ [(o, .inl (cs.2.1, 1, .inr (.inl OL)))])) ⟨hx, hb, hml, hown, hts⟩ zY_X7_append w_im_yX7_append w_se_yX7_append w_ml_L_69 [.int v] [.int 0, .ref o] (c_X7_append l D cs hfl ad X B L v hX0 hL) hE hK hA hP hD hS [0, 1, 2, 3] rfl rfl rfl rfl 7 rfl rfl rfl rfl hl.1 (Nat.le_of_ble_eq_true rfl) ⟨Nat.le_of_ble_eq_true rfl, Nat.le_of_ble_eq_true rfl⟩ ⟨Nat.le_of_ble_eq_true rfl, Nat.le_of_ble_eq_true rfl⟩ dL_append_4 (fun E ce q9 H locs hex hP hD hS hce hcv hcl => absurd (hx0.symm.trans hex) (fun h => nomatch h)) (fun hex H locs hP hD hS => ?_)
  have x_1 := exT_none hex
  refine lv_i2l (v := (nI (L + 1)).toInt64) hx hb dL_append_7 rfl ?_
  refine va_last hx hb hK hP hD hS 4 1 rfl rfl (vp_in_nI (n := 0) (N := 1) (by decide) (by decide)) dL_append_8 (fun H locs hP hD hS => ?_)
  have hP : va_P D vwCl ((camW ad) ++ (txtW cs (ad 5) (upd X 0 (nI (L + 1))) (zU B 0 (upd (B 0) L v))) ++ [(o, .inl (cs.2.1, 1, .inr (.inl (vp_updL OL 0 ((nI (L + 1)).toInt64)))))]) H := hP
  have hD : va_D A ((camW ad) ++ (txtW cs (ad 5) (upd X 0 (nI (L + 1))) (zU B 0 (upd (B 0) L v))) ++ [(o, .inl (cs.2.1, 1, .inr (.inl (vp_updL OL 0 ((nI (L + 1)).toInt64)))))]) := hD
  refine lv_goto (tgt := 18) hx hb dL_append_9 (by decide) ?_
  refine lv_iconst (v := 0) hx hb dL_append_18 (by decide) ?_
  exact z_iretW hx hb hr hlk hK hP hD hS dL_append_19 (Nat.le_of_ble_eq_true rfl) (Nat.le_of_ble_eq_true rfl) rfl rfl

set_option maxHeartbeats 4000000 in
set_option maxRecDepth 100000 in
theorem c_L_append_e1 (l : Launch) (D : va_G) (cs : zCs) (hfl : l.stackTraces = false) (ad : Nat → Nat → Nat) (X : Nat → Int32) (B : Nat → Nat → Int32) (L : Nat) (v : Int32) (o : Nat) (OL : Nat → Int64) (hX0 : X 0 = nI L) (hL : L ≤ 100) (hx0 : (exT (0 ≤ v ∧ v ≤ 127) zIA (exT (nI L < 100) zIS none)) = some zIA) : zMw l D cs yL_append cL_append 4 (some FieldType.int) [((0), (9), (12), (19)), ((0), (9), (15), (32))] 7 103 1 6 [.ref (ad 3 0), .int v, .ref o] ((camW ad) ++ (txtW cs (ad 5) X B) ++ [(o, .inl (cs.2.1, 1, .inr (.inl OL)))]) (some (.int 1)) ((camW ad) ++ (txtW cs (ad 5) X B) ++ [(o, .inl (cs.2.1, 1, .inr (.inl OL)))]) := by
  refine zMw.of (own := RL) (by decide) (Nat.le_of_ble_eq_true rfl) rfl ?_
  intro pq eq s mq below meth cq A ls hx hb hr hml hown hts hlk htab hE hK hA hP hD hS hl
  have hl : lv_has ls 4 [(0, .ref (ad 3 0)), (1, .int v), (2, .ref o)] := hl
  refine lv_aload_n hx hb dL_append_0 rfl (lv_at hl 2 rfl) ?_
  refine lv_iconst (v := 0) hx hb dL_append_1 (by decide) ?_
  refine lv_aload_n hx hb dL_append_2 rfl (lv_at hl 0 rfl) ?_
  refine lv_iload_n hx hb dL_append_3 rfl (lv_at hl 1 rfl) ?_
  refine z_callVx (wn := ((camW ad) ++ (txtW cs (ad 5) (upd X 0 (nI (L + 1))) (zU B 0 (upd (B 0) L v))) ++ [(o, .inl (cs.2.1, 1, .inr (.inl OL)))])) ⟨hx, hb, hml, hown, hts⟩ zY_X7_append w_im_yX7_append w_se_yX7_append w_ml_L_69 [.int v] [.int 0, .ref o] (c_X7_append l D cs hfl ad X B L v hX0 hL) hE hK hA hP hD hS [0, 1, 2, 3] rfl rfl rfl rfl 7 rfl rfl rfl rfl hl.1 (Nat.le_of_ble_eq_true rfl) ⟨Nat.le_of_ble_eq_true rfl, Nat.le_of_ble_eq_true rfl⟩ ⟨Nat.le_of_ble_eq_true rfl, Nat.le_of_ble_eq_true rfl⟩ dL_append_4 (fun E ce q9 H locs hex hP hD hS hce hcv hcl => ?_) (fun hex H locs hP hD hS => ?_)
  · skip
    obtain rfl : zIA = E := Option.some.inj (hx0.symm.trans hex)
    refine z_catch hown hts hE htab [] ⟨0, 9, 12, 19⟩ [⟨0, 9, 15, 32⟩] rfl (fun z hz => by cases hz) (by decide) (by decide) w_cl_L_19 (List.mem_of_getElem? (i := 1) rfl) hce hcv hcl ?_
    refine W.eq (g2 := F0 mq 12 ls [.ref q9]) rfl ?_
    refine lv_astore_n (lv' := [(3, .ref q9), (0, .ref (ad 3 0)), (1, .int v), (2, .ref o)]) hx hb dL_append_12 rfl hl (by decide) rfl (fun ls hl => ?_)
    refine lv_iconst (v := 1) hx hb dL_append_13 (by decide) ?_
    exact z_iretW hx hb hr hlk hK hP hD hS dL_append_14 (Nat.le_of_ble_eq_true rfl) (Nat.le_of_ble_eq_true rfl) rfl rfl
  · exact absurd (hx0.symm.trans hex) (fun h => nomatch h)

set_option maxHeartbeats 4000000 in
set_option maxRecDepth 100000 in
theorem c_L_append_e2 (l : Launch) (D : va_G) (cs : zCs) (hfl : l.stackTraces = false) (ad : Nat → Nat → Nat) (X : Nat → Int32) (B : Nat → Nat → Int32) (L : Nat) (v : Int32) (o : Nat) (OL : Nat → Int64) (hX0 : X 0 = nI L) (hL : L ≤ 100) (hx0 : (exT (0 ≤ v ∧ v ≤ 127) zIA (exT (nI L < 100) zIS none)) = some zIS) : zMw l D cs yL_append cL_append 4 (some FieldType.int) [((0), (9), (12), (19)), ((0), (9), (15), (32))] 7 103 1 6 [.ref (ad 3 0), .int v, .ref o] ((camW ad) ++ (txtW cs (ad 5) X B) ++ [(o, .inl (cs.2.1, 1, .inr (.inl OL)))]) (some (.int 2)) ((camW ad) ++ (txtW cs (ad 5) X B) ++ [(o, .inl (cs.2.1, 1, .inr (.inl OL)))]) := by
  refine zMw.of (own := RL) (by decide) (Nat.le_of_ble_eq_true rfl) rfl ?_
  intro pq eq s mq below meth cq A ls hx hb hr hml hown hts hlk htab hE hK hA hP hD hS hl
  have hl : lv_has ls 4 [(0, .ref (ad 3 0)), (1, .int v), (2, .ref o)] := hl
  refine lv_aload_n hx hb dL_append_0 rfl (lv_at hl 2 rfl) ?_
  refine lv_iconst (v := 0) hx hb dL_append_1 (by decide) ?_
  refine lv_aload_n hx hb dL_append_2 rfl (lv_at hl 0 rfl) ?_
  refine lv_iload_n hx hb dL_append_3 rfl (lv_at hl 1 rfl) ?_
  refine z_callVx (wn := ((camW ad) ++ (txtW cs (ad 5) (upd X 0 (nI (L + 1))) (zU B 0 (upd (B 0) L v))) ++ [(o, .inl (cs.2.1, 1, .inr (.inl OL)))])) ⟨hx, hb, hml, hown, hts⟩ zY_X7_append w_im_yX7_append w_se_yX7_append w_ml_L_69 [.int v] [.int 0, .ref o] (c_X7_append l D cs hfl ad X B L v hX0 hL) hE hK hA hP hD hS [0, 1, 2, 3] rfl rfl rfl rfl 7 rfl rfl rfl rfl hl.1 (Nat.le_of_ble_eq_true rfl) ⟨Nat.le_of_ble_eq_true rfl, Nat.le_of_ble_eq_true rfl⟩ ⟨Nat.le_of_ble_eq_true rfl, Nat.le_of_ble_eq_true rfl⟩ dL_append_4 (fun E ce q9 H locs hex hP hD hS hce hcv hcl => ?_) (fun hex H locs hP hD hS => ?_)
  · skip
    obtain rfl : zIS = E := Option.some.inj (hx0.symm.trans hex)
    refine z_catch hown hts hE htab [⟨0, 9, 12, 19⟩] ⟨0, 9, 15, 32⟩ [] rfl (fun z hz => by rcases List.mem_cons.mp hz with rfl | hz; exact ⟨by decide, zIA, w_cl_L_19, List.mem_of_getElem? (i := 3) rfl⟩; cases hz) (by decide) (by decide) w_cl_L_32 (List.mem_of_getElem? (i := 2) rfl) hce hcv hcl ?_
    refine W.eq (g2 := F0 mq 15 ls [.ref q9]) rfl ?_
    refine lv_astore_n (lv' := [(3, .ref q9), (0, .ref (ad 3 0)), (1, .int v), (2, .ref o)]) hx hb dL_append_15 rfl hl (by decide) rfl (fun ls hl => ?_)
    refine lv_iconst (v := 2) hx hb dL_append_16 (by decide) ?_
    exact z_iretW hx hb hr hlk hK hP hD hS dL_append_17 (Nat.le_of_ble_eq_true rfl) (Nat.le_of_ble_eq_true rfl) rfl rfl
  · exact absurd (hx0.symm.trans hex) (fun h => nomatch h)

set_option maxHeartbeats 4000000 in
set_option maxRecDepth 100000 in
theorem c_L_undo_ok (l : Launch) (D : va_G) (cs : zCs) (hfl : l.stackTraces = false) (ad : Nat → Nat → Nat) (S : Nat → Int32) (F : Nat → Nat → Int32) (kd : Nat → Nat → Nat) (HS : Nat → Int32) (KS : Nat → Nat → Int32) (KF : Nat → Nat → Nat → Int32) (p n : Nat) (o : Nat) (OL : Nat → Int64) (hp : HS 0 = nI p) (hp4 : p < 4) (hn : HS 1 = nI n) (hn4 : n ≤ 4) (hx0 : (exT (¬ nI n = 0) zIS none) = none) : zMw l D cs yL_undo cL_undo 3 (some FieldType.int) [((0), (8), (11), (32))] 7 174 1 6 [.ref (ad 3 0), .ref o] ((camW ad) ++ (macW cs (ad 0) S F) ++ (hisW cs (ad 4) kd HS) ++ (macW cs (kd 0) (KS 0) (KF 0)) ++ (macW cs (kd 1) (KS 1) (KF 1)) ++ (macW cs (kd 2) (KS 2) (KF 2)) ++ (macW cs (kd 3) (KS 3) (KF 3)) ++ [(o, .inl (cs.2.1, 1, .inr (.inl OL)))]) (some (.int 0)) ((camW ad) ++ (macW cs (ad 0) (KS p) (KF p)) ++ (hisW cs (ad 4) kd (upd (upd HS 0 (nI (hPv p))) 1 (nI (n - 1)))) ++ (macW cs (kd 0) (KS 0) (KF 0)) ++ (macW cs (kd 1) (KS 1) (KF 1)) ++ (macW cs (kd 2) (KS 2) (KF 2)) ++ (macW cs (kd 3) (KS 3) (KF 3)) ++ [(o, .inl (cs.2.1, 1, .inr (.inl (vp_updL OL 0 (nI (n - 1)).toInt64))))]) := by
  refine zMw.of (own := RL) (by decide) (Nat.le_of_ble_eq_true rfl) rfl ?_
  intro pq eq s mq below meth cq A ls hx hb hr hml hown hts hlk htab hE hK hA hP hD hS hl
  have hl : lv_has ls 3 [(0, .ref (ad 3 0)), (1, .ref o)] := hl
  refine lv_aload_n hx hb dL_undo_0 rfl (lv_at hl 1 rfl) ?_
  refine lv_iconst (v := 0) hx hb dL_undo_1 (by decide) ?_
  refine lv_aload_n hx hb dL_undo_2 rfl (lv_at hl 0 rfl) ?_
  refine z_callVx (wn := ((camW ad) ++ (macW cs (ad 0) (KS p) (KF p)) ++ (hisW cs (ad 4) kd (upd (upd HS 0 (nI (hPv p))) 1 (nI (n - 1)))) ++ (macW cs (kd 0) (KS 0) (KF 0)) ++ (macW cs (kd 1) (KS 1) (KF 1)) ++ (macW cs (kd 2) (KS 2) (KF 2)) ++ (macW cs (kd 3) (KS 3) (KF 3)) ++ [(o, .inl (cs.2.1, 1, .inr (.inl OL)))])) ⟨hx, hb, hml, hown, hts⟩ zY_X7_undo w_im_yX7_undo w_se_yX7_undo w_ml_L_72 [] [.int 0, .ref o] (c_X7_undo l D cs hfl ad S F kd HS KS KF p n hp hp4 hn hn4) hE hK hA hP hD hS [0, 1, 2, 3, 4, 5, 6, 7, 8, 9, 10, 11, 12, 13, 14, 15, 16, 17, 18, 19, 20, 21, 22, 23, 24, 25, 26, 27, 28, 29, 30, 31, 32, 33, 34, 35, 36, 37, 38, 39, 40, 41, 42, 43, 44, 45, 46, 47, 48, 49, 50, 51, 52, 53, 54, 55, 56, 57, 58, 59, 60, 61, 62, 63, 64, 65, 66, 67, 68, 69, 70, 71, 72, 73, 74, 75, 76, 77, 78, 79, 80, 81, 82, 83, 84, 85, 86, 87] rfl rfl rfl rfl 7 rfl rfl rfl rfl hl.1 (Nat.le_of_ble_eq_true rfl) ⟨Nat.le_of_ble_eq_true rfl, Nat.le_of_ble_eq_true rfl⟩ ⟨Nat.le_of_ble_eq_true rfl, Nat.le_of_ble_eq_true rfl⟩ dL_undo_3 (fun E ce q9 H locs hex hP hD hS hce hcv hcl => absurd (hx0.symm.trans hex) (fun h => nomatch h)) (fun hex H locs hP hD hS => ?_)
  have x_1 := exT_none hex
  refine lv_i2l (v := (nI (n - 1)).toInt64) hx hb dL_undo_6 rfl ?_
  refine va_last hx hb hK hP hD hS 88 1 rfl rfl (vp_in_nI (n := 0) (N := 1) (by decide) (by decide)) dL_undo_7 (fun H locs hP hD hS => ?_)
  have hP : va_P D vwCl ((camW ad) ++ (macW cs (ad 0) (KS p) (KF p)) ++ (hisW cs (ad 4) kd (upd (upd HS 0 (nI (hPv p))) 1 (nI (n - 1)))) ++ (macW cs (kd 0) (KS 0) (KF 0)) ++ (macW cs (kd 1) (KS 1) (KF 1)) ++ (macW cs (kd 2) (KS 2) (KF 2)) ++ (macW cs (kd 3) (KS 3) (KF 3)) ++ [(o, .inl (cs.2.1, 1, .inr (.inl (vp_updL OL 0 ((nI (n - 1)).toInt64)))))]) H := hP
  have hD : va_D A ((camW ad) ++ (macW cs (ad 0) (KS p) (KF p)) ++ (hisW cs (ad 4) kd (upd (upd HS 0 (nI (hPv p))) 1 (nI (n - 1)))) ++ (macW cs (kd 0) (KS 0) (KF 0)) ++ (macW cs (kd 1) (KS 1) (KF 1)) ++ (macW cs (kd 2) (KS 2) (KF 2)) ++ (macW cs (kd 3) (KS 3) (KF 3)) ++ [(o, .inl (cs.2.1, 1, .inr (.inl (vp_updL OL 0 ((nI (n - 1)).toInt64)))))]) := hD
  refine lv_goto (tgt := 14) hx hb dL_undo_8 (by decide) ?_
  refine lv_iconst (v := 0) hx hb dL_undo_14 (by decide) ?_
  exact z_iretW hx hb hr hlk hK hP hD hS dL_undo_15 (Nat.le_of_ble_eq_true rfl) (Nat.le_of_ble_eq_true rfl) rfl rfl

set_option maxHeartbeats 4000000 in
set_option maxRecDepth 100000 in
theorem c_L_undo_e1 (l : Launch) (D : va_G) (cs : zCs) (hfl : l.stackTraces = false) (ad : Nat → Nat → Nat) (S : Nat → Int32) (F : Nat → Nat → Int32) (kd : Nat → Nat → Nat) (HS : Nat → Int32) (KS : Nat → Nat → Int32) (KF : Nat → Nat → Nat → Int32) (p n : Nat) (o : Nat) (OL : Nat → Int64) (hp : HS 0 = nI p) (hp4 : p < 4) (hn : HS 1 = nI n) (hn4 : n ≤ 4) (hx0 : (exT (¬ nI n = 0) zIS none) = some zIS) : zMw l D cs yL_undo cL_undo 3 (some FieldType.int) [((0), (8), (11), (32))] 7 174 1 6 [.ref (ad 3 0), .ref o] ((camW ad) ++ (macW cs (ad 0) S F) ++ (hisW cs (ad 4) kd HS) ++ (macW cs (kd 0) (KS 0) (KF 0)) ++ (macW cs (kd 1) (KS 1) (KF 1)) ++ (macW cs (kd 2) (KS 2) (KF 2)) ++ (macW cs (kd 3) (KS 3) (KF 3)) ++ [(o, .inl (cs.2.1, 1, .inr (.inl OL)))]) (some (.int 1)) ((camW ad) ++ (macW cs (ad 0) S F) ++ (hisW cs (ad 4) kd HS) ++ (macW cs (kd 0) (KS 0) (KF 0)) ++ (macW cs (kd 1) (KS 1) (KF 1)) ++ (macW cs (kd 2) (KS 2) (KF 2)) ++ (macW cs (kd 3) (KS 3) (KF 3)) ++ [(o, .inl (cs.2.1, 1, .inr (.inl OL)))]) := by
  refine zMw.of (own := RL) (by decide) (Nat.le_of_ble_eq_true rfl) rfl ?_
  intro pq eq s mq below meth cq A ls hx hb hr hml hown hts hlk htab hE hK hA hP hD hS hl
  have hl : lv_has ls 3 [(0, .ref (ad 3 0)), (1, .ref o)] := hl
  refine lv_aload_n hx hb dL_undo_0 rfl (lv_at hl 1 rfl) ?_
  refine lv_iconst (v := 0) hx hb dL_undo_1 (by decide) ?_
  refine lv_aload_n hx hb dL_undo_2 rfl (lv_at hl 0 rfl) ?_
  refine z_callVx (wn := ((camW ad) ++ (macW cs (ad 0) (KS p) (KF p)) ++ (hisW cs (ad 4) kd (upd (upd HS 0 (nI (hPv p))) 1 (nI (n - 1)))) ++ (macW cs (kd 0) (KS 0) (KF 0)) ++ (macW cs (kd 1) (KS 1) (KF 1)) ++ (macW cs (kd 2) (KS 2) (KF 2)) ++ (macW cs (kd 3) (KS 3) (KF 3)) ++ [(o, .inl (cs.2.1, 1, .inr (.inl OL)))])) ⟨hx, hb, hml, hown, hts⟩ zY_X7_undo w_im_yX7_undo w_se_yX7_undo w_ml_L_72 [] [.int 0, .ref o] (c_X7_undo l D cs hfl ad S F kd HS KS KF p n hp hp4 hn hn4) hE hK hA hP hD hS [0, 1, 2, 3, 4, 5, 6, 7, 8, 9, 10, 11, 12, 13, 14, 15, 16, 17, 18, 19, 20, 21, 22, 23, 24, 25, 26, 27, 28, 29, 30, 31, 32, 33, 34, 35, 36, 37, 38, 39, 40, 41, 42, 43, 44, 45, 46, 47, 48, 49, 50, 51, 52, 53, 54, 55, 56, 57, 58, 59, 60, 61, 62, 63, 64, 65, 66, 67, 68, 69, 70, 71, 72, 73, 74, 75, 76, 77, 78, 79, 80, 81, 82, 83, 84, 85, 86, 87] rfl rfl rfl rfl 7 rfl rfl rfl rfl hl.1 (Nat.le_of_ble_eq_true rfl) ⟨Nat.le_of_ble_eq_true rfl, Nat.le_of_ble_eq_true rfl⟩ ⟨Nat.le_of_ble_eq_true rfl, Nat.le_of_ble_eq_true rfl⟩ dL_undo_3 (fun E ce q9 H locs hex hP hD hS hce hcv hcl => ?_) (fun hex H locs hP hD hS => ?_)
  · skip
    obtain rfl : zIS = E := Option.some.inj (hx0.symm.trans hex)
    refine z_catch hown hts hE htab [] ⟨0, 8, 11, 32⟩ [] rfl (fun z hz => by cases hz) (by decide) (by decide) w_cl_L_32 (List.mem_of_getElem? (i := 2) rfl) hce hcv hcl ?_
    refine W.eq (g2 := F0 mq 11 ls [.ref q9]) rfl ?_
    refine lv_astore_n (lv' := [(2, .ref q9), (0, .ref (ad 3 0)), (1, .ref o)]) hx hb dL_undo_11 rfl hl (by decide) rfl (fun ls hl => ?_)
    refine lv_iconst (v := 1) hx hb dL_undo_12 (by decide) ?_
    exact z_iretW hx hb hr hlk hK hP hD hS dL_undo_13 (Nat.le_of_ble_eq_true rfl) (Nat.le_of_ble_eq_true rfl) rfl rfl
  · exact absurd (hx0.symm.trans hex) (fun h => nomatch h)
