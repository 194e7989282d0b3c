
set_option maxHeartbeats 4000000 in
set_option maxRecDepth 100000 in
theorem c_X7_requireCylinder_ok (l : Launch) (D : va_G) (cs : zCs) (x : Int32) (hq0 : 0 ≤ x ∧ x ≤ 4) : zM l D cs yX7_requireCylinder cX7_requireCylinder 1 none 6 82 0 0 [.int x] ([] : va_W) none ([] : va_W) := by
  refine zM.of (own := RX7) (by decide) (Nat.le_of_ble_eq_true rfl) rfl ?_
  intro pq eq s mq below meth cq A ls hx hb hr hml hown hts hlk hnm hE hK hA hP hD hS hl
  have hl : lv_has ls 1 [(0, .int x)] := hl
  refine lv_iload_n hx hb dX7_requireCylinder_0 rfl (lv_at hl 0 rfl) ?_
  refine lv_iconst (v := 0) hx hb dX7_requireCylinder_1 (by decide) ?_
  refine lv_iconst (v := 4) hx hb dX7_requireCylinder_2 (by decide) ?_
  refine z_callS (wn := ([] : va_W)) ⟨hx, hb, hml, hown, hts⟩ zY_X7_within w_st_yX7_within w_ml_X7_55 [.int x, .int 0, .int 4] [] (c_X7_within l D cs x 0 4) hE hK hA hP hD hS [] rfl rfl rfl z_ins_nil rfl hl.1 (Nat.le_of_ble_eq_true rfl) ⟨Nat.le_of_ble_eq_true rfl, Nat.le_of_ble_eq_true rfl⟩ ⟨Nat.le_of_ble_eq_true rfl, Nat.le_of_ble_eq_true rfl⟩ dX7_requireCylinder_3 (fun H locs hP hD hS => ?_)
  refine lv_if_ne (tgt := 20) hx hb dX7_requireCylinder_6 (by decide) (fun c_1 => ?_) (fun c_1 => ?_)
  · skip
    have c_1 := bI_n0 c_1
    exact z_vret hx hb hr hlk hK hP hD hS dX7_requireCylinder_20 rfl rfl
  · skip
    have c_1 := bI_0.mp c_1
    exact absurd hq0 c_1

set_option maxHeartbeats 4000000 in
set_option maxRecDepth 100000 in
theorem c_X7_requireStep_ok (l : Launch) (D : va_G) (cs : zCs) (ad : Nat → Nat → Nat) (S : Nat → Int32) (F : Nat → Nat → Int32) (x : Int32) (hq0 : 0 ≤ x ∧ x ≤ (S 0) - 1) : zM l D cs yX7_requireStep cX7_requireStep 2 none 6 82 0 0 [.ref (ad 3 0), .int x] ((camW ad) ++ (macW cs (ad 0) S F)) none ((camW ad) ++ (macW cs (ad 0) S F)) := by
  refine zM.of (own := RX7) (by decide) (Nat.le_of_ble_eq_true rfl) rfl ?_
  intro pq eq s mq below meth cq A ls hx hb hr hml hown hts hlk hnm hE hK hA hP hD hS hl
  have hl : lv_has ls 2 [(0, .ref (ad 3 0)), (1, .int x)] := hl
  refine lv_iload_n hx hb dX7_requireStep_0 rfl (lv_at hl 1 rfl) ?_
  refine lv_iconst (v := 0) hx hb dX7_requireStep_1 (by decide) ?_
  refine lv_aload_n hx hb dX7_requireStep_2 rfl (lv_at hl 0 rfl) ?_
  refine va_get (D := D) (ci := 7) (v := .ref (ad 0 0)) (C := RX7) (T := TX7) (N := 5) hx hb hts wsI_X7 hown hK hP 0 rfl rfl 0 (by decide) (hts _ w_fl_X7_10) (fun _ h9 => h9) rfl dX7_requireStep_3 ?_
  refine va_get (D := D) (ci := 5) (v := .int (S 0)) (C := RX5) (T := TX5) (N := 13) hx hb hts wsI_X5 hown hK hP 1 rfl rfl 0 (by decide) (hts _ w_fl_X7_223) (fun _ h9 => h9) rfl dX7_requireStep_6 ?_
  refine lv_iconst (v := 1) hx hb dX7_requireStep_9 (by decide) ?_
  refine lv_isub hx hb dX7_requireStep_10 ?_
  refine z_callS (wn := ((camW ad) ++ (macW cs (ad 0) S F))) ⟨hx, hb, hml, hown, hts⟩ zY_X7_within w_st_yX7_within w_ml_X7_55 [.int x, .int 0, .int ((S 0) - 1)] [] (c_X7_within l D cs x 0 ((S 0) - 1)) hE hK hA hP hD hS [] rfl rfl rfl z_ins_nil rfl hl.1 (Nat.le_of_ble_eq_true rfl) ⟨Nat.le_of_ble_eq_true rfl, Nat.le_of_ble_eq_true rfl⟩ ⟨Nat.le_of_ble_eq_true rfl, Nat.le_of_ble_eq_true rfl⟩ dX7_requireStep_11 (fun H locs hP hD hS => ?_)
  refine lv_if_ne (tgt := 28) hx hb dX7_requireStep_14 (by decide) (fun c_1 => ?_) (fun c_1 => ?_)
  · skip
    have c_1 := bI_n0 c_1
    exact z_vret hx hb hr hlk hK hP hD hS dX7_requireStep_28 rfl rfl
  · skip
    have c_1 := bI_0.mp c_1
    exact absurd hq0 c_1

set_option maxHeartbeats 4000000 in
set_option maxRecDepth 100000 in
theorem c_X7_requireGuard_ok (l : Launch) (D : va_G) (cs : zCs) (ad : Nat → Nat → Nat) (S : Nat → Int32) (F : Nat → Nat → Int32) (x : Int32) (hq0 : 0 ≤ x ∧ x ≤ zmin (S 8) 4 - 1) : zM l D cs yX7_requireGuard cX7_requireGuard 2 none 6 82 0 0 [.ref (ad 3 0), .int x] ((camW ad) ++ (macW cs (ad 0) S F)) none ((camW ad) ++ (macW cs (ad 0) S F)) := by
  refine zM.of (own := RX7) (by decide) (Nat.le_of_ble_eq_true rfl) rfl ?_
  intro pq eq s mq below meth cq A ls hx hb hr hml hown hts hlk hnm hE hK hA hP hD hS hl
  have hl : lv_has ls 2 [(0, .ref (ad 3 0)), (1, .int x)] := hl
  refine lv_iload_n hx hb dX7_requireGuard_0 rfl (lv_at hl 1 rfl) ?_
  refine lv_iconst (v := 0) hx hb dX7_requireGuard_1 (by decide) ?_
  refine lv_aload_n hx hb dX7_requireGuard_2 rfl (lv_at hl 0 rfl) ?_
  refine va_get (D := D) (ci := 7) (v := .ref (ad 0 0)) (C := RX7) (T := TX7) (N := 5) hx hb hts wsI_X7 hown hK hP 0 rfl rfl 0 (by decide) (hts _ w_fl_X7_10) (fun _ h9 => h9) rfl dX7_requireGuard_3 ?_
  refine va_get (D := D) (ci := 5) (v := .ref (ad 0 10)) (C := RX5) (T := TX5) (N := 13) hx hb hts wsI_X5 hown hK hP 1 rfl rfl 11 (by decide) (hts _ w_fl_X7_116) (fun _ h9 => h9) rfl dX7_requireGuard_6 ?_
  refine va_get (D := D) (ci := 3) (v := .int (S 8)) (C := RX3) (T := TX3) (N := 4) hx hb hts wsI_X3 hown hK hP 11 rfl rfl 3 (by decide) (hts _ w_fl_X7_120) (fun _ h9 => h9) rfl dX7_requireGuard_9 ?_
  refine lv_iconst (v := 4) hx hb dX7_requireGuard_12 (by decide) ?_
  refine va_mmin hx hb (hml.trans hl.1.symm) hown (hts _ w_ml_X7_268) (hts _ w_st_Mmin) (hts _ w_in_J9) (hts _ w_co_Mmin) (Nat.le_of_ble_eq_true rfl) (Nat.le_of_ble_eq_true rfl) (Nat.le_of_ble_eq_true rfl) (Nat.le_of_ble_eq_true rfl) dX7_requireGuard_13 ?_
  refine z_top (y := zmin (S 8) 4) rfl ?_
  refine lv_iconst (v := 1) hx hb dX7_requireGuard_16 (by decide) ?_
  refine lv_isub hx hb dX7_requireGuard_17 ?_
  refine z_callS (wn := ((camW ad) ++ (macW cs (ad 0) S F))) ⟨hx, hb, hml, hown, hts⟩ zY_X7_within w_st_yX7_within w_ml_X7_55 [.int x, .int 0, .int ((zmin (S 8) 4) - 1)] [] (c_X7_within l D cs x 0 ((zmin (S 8) 4) - 1)) hE hK hA hP hD hS [] rfl rfl rfl z_ins_nil rfl hl.1 (Nat.le_of_ble_eq_true rfl) ⟨Nat.le_of_ble_eq_true rfl, Nat.le_of_ble_eq_true rfl⟩ ⟨Nat.le_of_ble_eq_true rfl, Nat.le_of_ble_eq_true rfl⟩ dX7_requireGuard_18 (fun H locs hP hD hS => ?_)
  refine lv_if_ne (tgt := 35) hx hb dX7_requireGuard_21 (by decide) (fun c_1 => ?_) (fun c_1 => ?_)
  · skip
    have c_1 := bI_n0 c_1
    exact z_vret hx hb hr hlk hK hP hD hS dX7_requireGuard_35 rfl rfl
  · skip
    have c_1 := bI_0.mp c_1
    exact absurd hq0 c_1

set_option maxHeartbeats 4000000 in
set_option maxRecDepth 100000 in
theorem c_X7_requireWhat_ok (l : Launch) (D : va_G) (cs : zCs) (x n : Int32) (hq0 : 0 ≤ x ∧ x ≤ n - 1) : zM l D cs yX7_requireWhat cX7_requireWhat 2 none 6 82 0 0 [.int x, .int n] ([] : va_W) none ([] : va_W) := by
  refine zM.of (own := RX7) (by decide) (Nat.le_of_ble_eq_true rfl) rfl ?_
  intro pq eq s mq below meth cq A ls hx hb hr hml hown hts hlk hnm hE hK hA hP hD hS hl
  have hl : lv_has ls 2 [(0, .int x), (1, .int n)] := hl
  refine lv_iload_n hx hb dX7_requireWhat_0 rfl (lv_at hl 0 rfl) ?_
  refine lv_iconst (v := 0) hx hb dX7_requireWhat_1 (by decide) ?_
  refine lv_iload_n hx hb dX7_requireWhat_2 rfl (lv_at hl 1 rfl) ?_
  refine lv_iconst (v := 1) hx hb dX7_requireWhat_3 (by decide) ?_
  refine lv_isub hx hb dX7_requireWhat_4 ?_
  refine z_callS (wn := ([] : va_W)) ⟨hx, hb, hml, hown, hts⟩ zY_X7_within w_st_yX7_within w_ml_X7_55 [.int x, .int 0, .int (n - 1)] [] (c_X7_within l D cs x 0 (n - 1)) hE hK hA hP hD hS [] rfl rfl rfl z_ins_nil rfl hl.1 (Nat.le_of_ble_eq_true rfl) ⟨Nat.le_of_ble_eq_true rfl, Nat.le_of_ble_eq_true rfl⟩ ⟨Nat.le_of_ble_eq_true rfl, Nat.le_of_ble_eq_true rfl⟩ dX7_requireWhat_5 (fun H locs hP hD hS => ?_)
  refine lv_if_ne (tgt := 22) hx hb dX7_requireWhat_8 (by decide) (fun c_1 => ?_) (fun c_1 => ?_)
  · skip
    have c_1 := bI_n0 c_1
    exact z_vret hx hb hr hlk hK hP hD hS dX7_requireWhat_22 rfl rfl
  · skip
    have c_1 := bI_0.mp c_1
    exact absurd hq0 c_1

set_option maxHeartbeats 4000000 in
set_option maxRecDepth 100000 in
theorem c_X7_setCam_ok (l : Launch) (D : va_G) (cs : zCs) (ad : Nat → Nat → Nat) (S : Nat → Int32) (F : Nat → Nat → Int32) (kd : Nat → Nat → Nat) (HS : Nat → Int32) (KS : Nat → Nat → Int32) (KF : Nat → Nat → Nat → Int32) (p n : Nat) (tr st th : Int32) (hp : HS 0 = nI p) (hp4 : p < 4) (hn : HS 1 = nI n) (hn4 : n ≤ 4) (hq0 : 0 ≤ tr ∧ tr ≤ 4) (hq1 : 0 ≤ st ∧ st ≤ (S 0) - 1) : zM l D cs yX7_setCam cX7_setCam 4 (some FieldType.int) 7 154 0 0 [.ref (ad 3 0), .int tr, .int st, .int th] ((camW ad) ++ (macW cs (ad 0) S F) ++ (hisW cs (ad 4) kd HS) ++ (macW cs (kd 0) (KS 0) (KF 0)) ++ (macW cs (kd 1) (KS 1) (KF 1)) ++ (macW cs (kd 2) (KS 2) (KF 2)) ++ (macW cs (kd 3) (KS 3) (KF 3))) (some (.int (jbc (camPut ((F 0) (nN tr)) st th)))) ((camW ad) ++ (macW cs (ad 0) S (zU F 0 (upd (F 0) (nN tr) (camPut ((F 0) (nN tr)) st th)))) ++ (hisW cs (ad 4) kd (upd (upd HS 0 (nI (hNx p))) 1 (nI (min (n + 1) 4)))) ++ (macW cs (kd 0) (kup KS (hNx p) S 0) (kup KF (hNx p) F 0)) ++ (macW cs (kd 1) (kup KS (hNx p) S 1) (kup KF (hNx p) F 1)) ++ (macW cs (kd 2) (kup KS (hNx p) S 2) (kup KF (hNx p) F 2)) ++ (macW cs (kd 3) (kup KS (hNx p) S 3) (kup KF (hNx p) F 3))) := by
  refine zM.of (own := RX7) (by decide) (Nat.le_of_ble_eq_true rfl) rfl ?_
  intro pq eq s mq below meth cq A ls hx hb hr hml hown hts hlk hnm hE hK hA hP hD hS hl
  have hl : lv_has ls 4 [(0, .ref (ad 3 0)), (1, .int tr), (2, .int st), (3, .int th)] := hl
  refine lv_iload_n hx hb dX7_setCam_0 rfl (lv_at hl 1 rfl) ?_
  refine z_callS (wn := ((camW ad) ++ (macW cs (ad 0) S F) ++ (hisW cs (ad 4) kd HS) ++ (macW cs (kd 0) (KS 0) (KF 0)) ++ (macW cs (kd 1) (KS 1) (KF 1)) ++ (macW cs (kd 2) (KS 2) (KF 2)) ++ (macW cs (kd 3) (KS 3) (KF 3)))) ⟨hx, hb, hml, hown, hts⟩ zY_X7_requireCylinder w_st_yX7_requireCylinder w_ml_X7_36 [.int tr] [] (c_X7_requireCylinder_ok l D cs tr hq0) hE hK hA hP hD hS [] rfl rfl rfl z_ins_nil rfl hl.1 (Nat.le_of_ble_eq_true rfl) ⟨Nat.le_of_ble_eq_true rfl, Nat.le_of_ble_eq_true rfl⟩ ⟨Nat.le_of_ble_eq_true rfl, Nat.le_of_ble_eq_true rfl⟩ dX7_setCam_1 (fun H locs hP hD hS => ?_)
  refine lv_aload_n hx hb dX7_setCam_4 rfl (lv_at hl 0 rfl) ?_
  refine lv_iload_n hx hb dX7_setCam_5 rfl (lv_at hl 2 rfl) ?_
  refine z_callV (wn := ((camW ad) ++ (macW cs (ad 0) S F) ++ (hisW cs (ad 4) kd HS) ++ (macW cs (kd 0) (KS 0) (KF 0)) ++ (macW cs (kd 1) (KS 1) (KF 1)) ++ (macW cs (kd 2) (KS 2) (KF 2)) ++ (macW cs (kd 3) (KS 3) (KF 3)))) ⟨hx, hb, hml, hown, hts⟩ zY_X7_requireStep w_im_yX7_requireStep w_se_yX7_requireStep w_ml_X7_40 [.int st] [] (c_X7_requireStep_ok l D cs ad S F st hq1) hE hK hA hP hD hS [0, 1, 2, 3, 4, 5, 6, 7, 8, 9, 10, 11, 12, 13, 14, 15, 16, 17] rfl rfl rfl rfl 7 rfl rfl rfl rfl hl.1 (Nat.le_of_ble_eq_true rfl) ⟨Nat.le_of_ble_eq_true rfl, Nat.le_of_ble_eq_true rfl⟩ ⟨Nat.le_of_ble_eq_true rfl, Nat.le_of_ble_eq_true rfl⟩ dX7_setCam_6 (fun H locs hP hD hS => ?_)
  obtain ⟨k, hk, rfl⟩ := z_nat4 hq0
  have hNk := nN_nI (k := k) (by omega)
  refine lv_aload_n hx hb dX7_setCam_9 rfl (lv_at hl 0 rfl) ?_
  refine va_get (D := D) (ci := 7) (v := .ref (ad 4 0)) (C := RX7) (T := TX7) (N := 5) hx hb hts wsI_X7 hown hK hP 0 rfl rfl 1 (by decide) (hts _ w_fl_X7_19) (fun _ h9 => h9) rfl dX7_setCam_10 ?_
  refine lv_aload_n hx hb dX7_setCam_13 rfl (lv_at hl 0 rfl) ?_
  refine va_get (D := D) (ci := 7) (v := .ref (ad 0 0)) (C := RX7) (T := TX7) (N := 5) hx hb hts wsI_X7 hown hK hP 0 rfl rfl 0 (by decide) (hts _ w_fl_X7_10) (fun _ h9 => h9) rfl dX7_setCam_14 ?_
  refine z_callV (wn := ((camW ad) ++ (macW cs (ad 0) S F) ++ (hisW cs (ad 4) kd (upd (upd HS 0 (nI (hNx p))) 1 (nI (min (n + 1) 4)))) ++ (macW cs (kd 0) (kup KS (hNx p) S 0) (kup KF (hNx p) F 0)) ++ (macW cs (kd 1) (kup KS (hNx p) S 1) (kup KF (hNx p) F 1)) ++ (macW cs (kd 2) (kup KS (hNx p) S 2) (kup KF (hNx p) F 2)) ++ (macW cs (kd 3) (kup KS (hNx p) S 3) (kup KF (hNx p) F 3)))) ⟨hx, hb, hml, hown, hts⟩ zY_X4_save w_im_yX4_save w_se_yX4_save w_ml_X7_43 [.ref (ad 0 0)] [] (c_X4_save l D cs (ad 4) (ad 0) kd HS KS KF S F p n hp hp4 hn hn4) hE hK hA hP hD hS [18, 19, 20, 21, 22, 23, 24, 25, 26, 27, 28, 29, 30, 31, 32, 33, 34, 35, 36, 37, 38, 39, 40, 41, 42, 43, 44, 45, 46, 47, 48, 49, 50, 51, 52, 53, 54, 55, 56, 57, 58, 59, 60, 61, 62, 63, 64, 65, 66, 67, 68, 69, 70, 71, 72, 73, 74, 75, 76, 77, 78, 79, 80, 81, 82, 83, 84, 85, 86, 87, 1, 2, 3, 4, 5, 6, 7, 8, 9, 10, 11, 12, 13, 14, 15, 16, 17] rfl rfl rfl rfl 4 rfl rfl rfl rfl hl.1 (Nat.le_of_ble_eq_true rfl) ⟨Nat.le_of_ble_eq_true rfl, Nat.le_of_ble_eq_true rfl⟩ ⟨Nat.le_of_ble_eq_true rfl, Nat.le_of_ble_eq_true rfl⟩ dX7_setCam_17 (fun H locs hP hD hS => ?_)
  refine lv_aload_n hx hb dX7_setCam_20 rfl (lv_at hl 0 rfl) ?_
  refine va_get (D := D) (ci := 7) (v := .ref (ad 0 0)) (C := RX7) (T := TX7) (N := 5) hx hb hts wsI_X7 hown hK hP 0 rfl rfl 0 (by decide) (hts _ w_fl_X7_10) (fun _ h9 => h9) rfl dX7_setCam_21 ?_
  refine lv_iload_n hx hb dX7_setCam_24 rfl (lv_at hl 1 rfl) ?_
  refine lv_iload_n hx hb dX7_setCam_25 rfl (lv_at hl 2 rfl) ?_
  refine lv_iload_n hx hb dX7_setCam_26 rfl (lv_at hl 3 rfl) ?_
  refine z_callV (wn := ((camW ad) ++ (macW cs (ad 0) S (zU F 0 (upd (F 0) k (camPut ((F 0) k) st th)))) ++ (hisW cs (ad 4) kd (upd (upd HS 0 (nI (hNx p))) 1 (nI (min (n + 1) 4)))) ++ (macW cs (kd 0) (kup KS (hNx p) S 0) (kup KF (hNx p) F 0)) ++ (macW cs (kd 1) (kup KS (hNx p) S 1) (kup KF (hNx p) F 1)) ++ (macW cs (kd 2) (kup KS (hNx p) S 2) (kup KF (hNx p) F 2)) ++ (macW cs (kd 3) (kup KS (hNx p) S 3) (kup KF (hNx p) F 3)))) ⟨hx, hb, hml, hown, hts⟩ zY_X5_putCam w_im_yX5_putCam w_se_yX5_putCam w_ml_X7_47 [.int (nI k), .int st, .int th] [] (c_X5_putCam l D cs (ad 0) S F k st th hk) hE hK hA hP hD hS [1, 2, 3, 4, 5, 6, 7, 8, 9, 10, 11, 12, 13, 14, 15, 16, 17] rfl rfl rfl rfl 5 rfl rfl rfl rfl hl.1 (Nat.le_of_ble_eq_true rfl) ⟨Nat.le_of_ble_eq_true rfl, Nat.le_of_ble_eq_true rfl⟩ ⟨Nat.le_of_ble_eq_true rfl, Nat.le_of_ble_eq_true rfl⟩ dX7_setCam_27 (fun H locs hP hD hS => ?_)
  refine lv_aload_n hx hb dX7_setCam_30 rfl (lv_at hl 0 rfl) ?_
  refine va_get (D := D) (ci := 7) (v := .ref (ad 0 0)) (C := RX7) (T := TX7) (N := 5) hx hb hts wsI_X7 hown hK hP 0 rfl rfl 0 (by decide) (hts _ w_fl_X7_10) (fun _ h9 => h9) rfl dX7_setCam_31 ?_
  refine lv_iload_n hx hb dX7_setCam_34 rfl (lv_at hl 1 rfl) ?_
  refine z_callV (wn := ((camW ad) ++ (macW cs (ad 0) S (zU F 0 (upd (F 0) k (camPut ((F 0) k) st th)))) ++ (hisW cs (ad 4) kd (upd (upd HS 0 (nI (hNx p))) 1 (nI (min (n + 1) 4)))) ++ (macW cs (kd 0) (kup KS (hNx p) S 0) (kup KF (hNx p) F 0)) ++ (macW cs (kd 1) (kup KS (hNx p) S 1) (kup KF (hNx p) F 1)) ++ (macW cs (kd 2) (kup KS (hNx p) S 2) (kup KF (hNx p) F 2)) ++ (macW cs (kd 3) (kup KS (hNx p) S 3) (kup KF (hNx p) F 3)))) ⟨hx, hb, hml, hown, hts⟩ zY_X5_camsOf w_im_yX5_camsOf w_se_yX5_camsOf w_ml_X7_51 [.int (nI k)] [] (c_X5_camsOf l D cs (ad 0) S (zU F 0 (upd (F 0) k (camPut ((F 0) k) st th))) k hk) hE hK hA hP hD hS [1, 2, 3, 4, 5, 6, 7, 8, 9, 10, 11, 12, 13, 14, 15, 16, 17] rfl rfl rfl rfl 5 rfl rfl rfl rfl hl.1 (Nat.le_of_ble_eq_true rfl) ⟨Nat.le_of_ble_eq_true rfl, Nat.le_of_ble_eq_true rfl⟩ ⟨Nat.le_of_ble_eq_true rfl, Nat.le_of_ble_eq_true rfl⟩ dX7_setCam_35 (fun H locs hP hD hS => ?_)
  exact z_iret hx hb hr hlk hK hP hD hS dX7_setCam_38 (by show some (Value.int (jbc (upd (F 0) k (camPut (F 0 k) st th) k))) = _; rw [pk_us, hNk]) (by simp only [hNk])

set_option maxHeartbeats 4000000 in
set_option maxRecDepth 100000 in
theorem c_X7_setPawl_ok (l : Launch) (D : va_G) (cs : zCs) (ad : Nat → Nat → Nat) (S : Nat → Int32) (F : Nat → Nat → Int32) (kd : Nat → Nat → Nat) (HS : Nat → Int32) (KS : Nat → Nat → Int32) (KF : Nat → Nat → Nat → Int32) (p n : Nat) (dw le : Int32) (hp : HS 0 = nI p) (hp4 : p < 4) (hn : HS 1 = nI n) (hn4 : n ≤ 4) (hq0 : (1 ≤ dw ∧ dw ≤ 20) ∧ (0 ≤ le ∧ le ≤ 5000)) : zM l D cs yX7_setPawl cX7_setPawl 4 (some FieldType.int) 6 154 0 0 [.ref (ad 3 0), .int dw, .int le] ((camW ad) ++ (macW cs (ad 0) S F) ++ (hisW cs (ad 4) kd HS) ++ (macW cs (kd 0) (KS 0) (KF 0)) ++ (macW cs (kd 1) (KS 1) (KF 1)) ++ (macW cs (kd 2) (KS 2) (KF 2)) ++ (macW cs (kd 3) (KS 3) (KF 3))) (some (.int (S 3))) ((camW ad) ++ (macW cs (ad 0) (upd (upd S 3 dw) 4 le) F) ++ (hisW cs (ad 4) kd (upd (upd HS 0 (nI (hNx p))) 1 (nI (min (n + 1) 4)))) ++ (macW cs (kd 0) (kup KS (hNx p) S 0) (kup KF (hNx p) F 0)) ++ (macW cs (kd 1) (kup KS (hNx p) S 1) (kup KF (hNx p) F 1)) ++ (macW cs (kd 2) (kup KS (hNx p) S 2) (kup KF (hNx p) F 2)) ++ (macW cs (kd 3) (kup KS (hNx p) S 3) (kup KF (hNx p) F 3))) := by
  refine zM.of (own := RX7) (by decide) (Nat.le_of_ble_eq_true rfl) rfl ?_
  intro pq eq s mq below meth cq A ls hx hb hr hml hown hts hlk hnm hE hK hA hP hD hS hl
  have hl : lv_has ls 4 [(0, .ref (ad 3 0)), (1, .int dw), (2, .int le)] := hl
  refine lv_iload_n hx hb dX7_setPawl_0 rfl (lv_at hl 1 rfl) ?_
  refine lv_iconst (v := 1) hx hb dX7_setPawl_1 (by decide) ?_
  refine lv_bipush (v := 20) hx hb dX7_setPawl_2 (by decide) ?_
  refine z_callS (wn := ((camW ad) ++ (macW cs (ad 0) S F) ++ (hisW cs (ad 4) kd HS) ++ (macW cs (kd 0) (KS 0) (KF 0)) ++ (macW cs (kd 1) (KS 1) (KF 1)) ++ (macW cs (kd 2) (KS 2) (KF 2)) ++ (macW cs (kd 3) (KS 3) (KF 3)))) ⟨hx, hb, hml, hown, hts⟩ zY_X7_within w_st_yX7_within w_ml_X7_55 [.int dw, .int 1, .int 20] [] (c_X7_within l D cs dw 1 20) hE hK hA hP hD hS [] rfl rfl rfl z_ins_nil rfl hl.1 (Nat.le_of_ble_eq_true rfl) ⟨Nat.le_of_ble_eq_true rfl, Nat.le_of_ble_eq_true rfl⟩ ⟨Nat.le_of_ble_eq_true rfl, Nat.le_of_ble_eq_true rfl⟩ dX7_setPawl_4 (fun H locs hP hD hS => ?_)
  refine lv_if_eq (tgt := 21) hx hb dX7_setPawl_7 (by decide) (fun c_1 => ?_) (fun c_1 => ?_)
  · skip
    have c_1 := bI_0.mp c_1
    exact absurd hq0.1 c_1
  · skip
    have c_1 := bI_n0 c_1
    refine lv_iload_n hx hb dX7_setPawl_10 rfl (lv_at hl 2 rfl) ?_
    refine lv_iconst (v := 0) hx hb dX7_setPawl_11 (by decide) ?_
    refine lv_sipush (v := 5000) hx hb dX7_setPawl_12 (by decide) ?_
    refine z_callS (wn := ((camW ad) ++ (macW cs (ad 0) S F) ++ (hisW cs (ad 4) kd HS) ++ (macW cs (kd 0) (KS 0) (KF 0)) ++ (macW cs (kd 1) (KS 1) (KF 1)) ++ (macW cs (kd 2) (KS 2) (KF 2)) ++ (macW cs (kd 3) (KS 3) (KF 3)))) ⟨hx, hb, hml, hown, hts⟩ zY_X7_within w_st_yX7_within w_ml_X7_55 [.int le, .int 0, .int 5000] [] (c_X7_within l D cs le 0 5000) hE hK hA hP hD hS [] rfl rfl rfl z_ins_nil rfl hl.1 (Nat.le_of_ble_eq_true rfl) ⟨Nat.le_of_ble_eq_true rfl, Nat.le_of_ble_eq_true rfl⟩ ⟨Nat.le_of_ble_eq_true rfl, Nat.le_of_ble_eq_true rfl⟩ dX7_setPawl_15 (fun H locs hP hD hS => ?_)
    refine lv_if_ne (tgt := 31) hx hb dX7_setPawl_18 (by decide) (fun c_2 => ?_) (fun c_2 => ?_)
    · skip
      have c_2 := bI_n0 c_2
      refine lv_aload_n hx hb dX7_setPawl_31 rfl (lv_at hl 0 rfl) ?_
      refine va_get (D := D) (ci := 7) (v := .ref (ad 4 0)) (C := RX7) (T := TX7) (N := 5) hx hb hts wsI_X7 hown hK hP 0 rfl rfl 1 (by decide) (hts _ w_fl_X7_19) (fun _ h9 => h9) rfl dX7_setPawl_32 ?_
      refine lv_aload_n hx hb dX7_setPawl_35 rfl (lv_at hl 0 rfl) ?_
      refine va_get (D := D) (ci := 7) (v := .ref (ad 0 0)) (C := RX7) (T := TX7) (N := 5) hx hb hts wsI_X7 hown hK hP 0 rfl rfl 0 (by decide) (hts _ w_fl_X7_10) (fun _ h9 => h9) rfl dX7_setPawl_36 ?_
      refine z_callV (wn := ((camW ad) ++ (macW cs (ad 0) S F) ++ (hisW cs (ad 4) kd (upd (upd HS 0 (nI (hNx p))) 1 (nI (min (n + 1) 4)))) ++ (macW cs (kd 0) (kup KS (hNx p) S 0) (kup KF (hNx p) F 0)) ++ (macW cs (kd 1) (kup KS (hNx p) S 1) (kup KF (hNx p) F 1)) ++ (macW cs (kd 2) (kup KS (hNx p) S 2) (kup KF (hNx p) F 2)) ++ (macW cs (kd 3) (kup KS (hNx p) S 3) (kup KF (hNx p) F 3)))) ⟨hx, hb, hml, hown, hts⟩ zY_X4_save w_im_yX4_save w_se_yX4_save w_ml_X7_43 [.ref (ad 0 0)] [] (c_X4_save l D cs (ad 4) (ad 0) kd HS KS KF S F p n hp hp4 hn hn4) hE hK hA hP hD hS [18, 19, 20, 21, 22, 23, 24, 25, 26, 27, 28, 29, 30, 31, 32, 33, 34, 35, 36, 37, 38, 39, 40, 41, 42, 43, 44, 45, 46, 47, 48, 49, 50, 51, 52, 53, 54, 55, 56, 57, 58, 59, 60, 61, 62, 63, 64, 65, 66, 67, 68, 69, 70, 71, 72, 73, 74, 75, 76, 77, 78, 79, 80, 81, 82, 83, 84, 85, 86, 87, 1, 2, 3, 4, 5, 6, 7, 8, 9, 10, 11, 12, 13, 14, 15, 16, 17] rfl rfl rfl rfl 4 rfl rfl rfl rfl hl.1 (Nat.le_of_ble_eq_true rfl) ⟨Nat.le_of_ble_eq_true rfl, Nat.le_of_ble_eq_true rfl⟩ ⟨Nat.le_of_ble_eq_true rfl, Nat.le_of_ble_eq_true rfl⟩ dX7_setPawl_39 (fun H locs hP hD hS => ?_)
      refine lv_aload_n hx hb dX7_setPawl_42 rfl (lv_at hl 0 rfl) ?_
      refine va_get (D := D) (ci := 7) (v := .ref (ad 0 0)) (C := RX7) (T := TX7) (N := 5) hx hb hts wsI_X7 hown hK hP 0 rfl rfl 0 (by decide) (hts _ w_fl_X7_10) (fun _ h9 => h9) rfl dX7_setPawl_43 ?_
      refine va_get (D := D) (ci := 5) (v := .int (S 3)) (C := RX5) (T := TX5) (N := 13) hx hb hts wsI_X5 hown hK hP 1 rfl rfl 3 (by decide) (hts _ w_fl_X7_66) (fun _ h9 => h9) rfl dX7_setPawl_46 ?_
      refine lv_istore_n (lv' := [(3, .int (S 3)), (0, .ref (ad 3 0)), (1, .int dw), (2, .int le)]) hx hb dX7_setPawl_49 rfl hl (by decide) rfl (fun ls hl => ?_)
      refine lv_aload_n hx hb dX7_setPawl_50 rfl (lv_at hl 1 rfl) ?_
      refine va_get (D := D) (ci := 7) (v := .ref (ad 0 0)) (C := RX7) (T := TX7) (N := 5) hx hb hts wsI_X7 hown hK hP 0 rfl rfl 0 (by decide) (hts _ w_fl_X7_10) (fun _ h9 => h9) rfl dX7_setPawl_51 ?_
      refine lv_iload_n hx hb dX7_setPawl_54 rfl (lv_at hl 2 rfl) ?_
      refine va_put (D := D) (ci := 5) (v := .int dw) (C := RX5) (T := TX5) (N := 13) hx hb hts wsI_X5 tyX5 tyX5_ok nmX5 hown hK hP hD hS 1 rfl rfl 3 (by decide) (hts _ w_fl_X7_66) (fun _ h9 => h9) rfl (tyX5_ok 3 (by decide)) rfl rfl (Nat.le_of_ble_eq_true rfl) dX7_setPawl_55 (fun H locs hP hD hS => ?_)
      have hP : va_P D vwCl ((camW ad) ++ (macW cs (ad 0) (upd S 3 dw) F) ++ (hisW cs (ad 4) kd (upd (upd HS 0 (nI (hNx p))) 1 (nI (min (n + 1) 4)))) ++ (macW cs (kd 0) (kup KS (hNx p) S 0) (kup KF (hNx p) F 0)) ++ (macW cs (kd 1) (kup KS (hNx p) S 1) (kup KF (hNx p) F 1)) ++ (macW cs (kd 2) (kup KS (hNx p) S 2) (kup KF (hNx p) F 2)) ++ (macW cs (kd 3) (kup KS (hNx p) S 3) (kup KF (hNx p) F 3))) H := hP
      have hD : va_D A ((camW ad) ++ (macW cs (ad 0) (upd S 3 dw) F) ++ (hisW cs (ad 4) kd (upd (upd HS 0 (nI (hNx p))) 1 (nI (min (n + 1) 4)))) ++ (macW cs (kd 0) (kup KS (hNx p) S 0) (kup KF (hNx p) F 0)) ++ (macW cs (kd 1) (kup KS (hNx p) S 1) (kup KF (hNx p) F 1)) ++ (macW cs (kd 2) (kup KS (hNx p) S 2) (kup KF (hNx p) F 2)) ++ (macW cs (kd 3) (kup KS (hNx p) S 3) (kup KF (hNx p) F 3))) := hD
      refine lv_aload_n hx hb dX7_setPawl_58 rfl (lv_at hl 1 rfl) ?_
      refine va_get (D := D) (ci := 7) (v := .ref (ad 0 0)) (C := RX7) (T := TX7) (N := 5) hx hb hts wsI_X7 hown hK hP 0 rfl rfl 0 (by decide) (hts _ w_fl_X7_10) (fun _ h9 => h9) rfl dX7_setPawl_59 ?_
      refine lv_iload_n hx hb dX7_setPawl_62 rfl (lv_at hl 3 rfl) ?_
      refine va_put (D := D) (ci := 5) (v := .int le) (C := RX5) (T := TX5) (N := 13) hx hb hts wsI_X5 tyX5 tyX5_ok nmX5 hown hK hP hD hS 1 rfl rfl 4 (by decide) (hts _ w_fl_X7_70) (fun _ h9 => h9) rfl (tyX5_ok 4 (by decide)) rfl rfl (Nat.le_of_ble_eq_true rfl) dX7_setPawl_63 (fun H locs hP hD hS => ?_)
      have hP : va_P D vwCl ((camW ad) ++ (macW cs (ad 0) (upd (upd S 3 dw) 4 le) F) ++ (hisW cs (ad 4) kd (upd (upd HS 0 (nI (hNx p))) 1 (nI (min (n + 1) 4)))) ++ (macW cs (kd 0) (kup KS (hNx p) S 0) (kup KF (hNx p) F 0)) ++ (macW cs (kd 1) (kup KS (hNx p) S 1) (kup KF (hNx p) F 1)) ++ (macW cs (kd 2) (kup KS (hNx p) S 2) (kup KF (hNx p) F 2)) ++ (macW cs (kd 3) (kup KS (hNx p) S 3) (kup KF (hNx p) F 3))) H := hP
      have hD : va_D A ((camW ad) ++ (macW cs (ad 0) (upd (upd S 3 dw) 4 le) F) ++ (hisW cs (ad 4) kd (upd (upd HS 0 (nI (hNx p))) 1 (nI (min (n + 1) 4)))) ++ (macW cs (kd 0) (kup KS (hNx p) S 0) (kup KF (hNx p) F 0)) ++ (macW cs (kd 1) (kup KS (hNx p) S 1) (kup KF (hNx p) F 1)) ++ (macW cs (kd 2) (kup KS (hNx p) S 2) (kup KF (hNx p) F 2)) ++ (macW cs (kd 3) (kup KS (hNx p) S 3) (kup KF (hNx p) F 3))) := hD
      refine lv_iload_n hx hb dX7_setPawl_66 rfl (lv_at hl 0 rfl) ?_
      exact z_iret hx hb hr hlk hK hP hD hS dX7_setPawl_67 rfl rfl
    · skip
      have c_2 := bI_0.mp c_2
      exact absurd hq0.2 c_2

set_option maxHeartbeats 4000000 in
set_option maxRecDepth 100000 in
theorem c_X7_setCylinder_ok (l : Launch) (D : va_G) (cs : zCs) (ad : Nat → Nat → Nat) (S : Nat → Int32) (F : Nat → Nat → Int32) (kd : Nat → Nat → Nat) (HS : Nat → Int32) (KS : Nat → Nat → Int32) (KF : Nat → Nat → Nat → Int32) (p n : Nat) (cy sz sp lk : Int32) (hp : HS 0 = nI p) (hp4 : p < 4) (hn : HS 1 = nI n) (hn4 : n ≤ 4) (hq0 : 0 ≤ cy ∧ cy ≤ 4) (hq1 : (1 ≤ sz ∧ sz ≤ 9) ∧ (1 ≤ sp ∧ sp ≤ 50) ∧ (0 ≤ lk ∧ lk ≤ 20)) : zM l D cs yX7_setCylinder cX7_setCylinder 5 (some FieldType.int) 7 154 0 0 [.ref (ad 3 0), .int cy, .int sz, .int sp, .int lk] ((camW ad) ++ (macW cs (ad 0) S F) ++ (hisW cs (ad 4) kd HS) ++ (macW cs (kd 0) (KS 0) (KF 0)) ++ (macW cs (kd 1) (KS 1) (KF 1)) ++ (macW cs (kd 2) (KS 2) (KF 2)) ++ (macW cs (kd 3) (KS 3) (KF 3))) (some (.int ((F 1) (nN cy)))) ((camW ad) ++ (macW cs (ad 0) S (zU (zU (zU F 2 (upd (F 2) (nN cy) sz)) 3 (upd (F 3) (nN cy) sp)) 4 (upd (F 4) (nN cy) lk))) ++ (hisW cs (ad 4) kd (upd (upd HS 0 (nI (hNx p))) 1 (nI (min (n + 1) 4)))) ++ (macW cs (kd 0) (kup KS (hNx p) S 0) (kup KF (hNx p) F 0)) ++ (macW cs (kd 1) (kup KS (hNx p) S 1) (kup KF (hNx p) F 1)) ++ (macW cs (kd 2) (kup KS (hNx p) S 2) (kup KF (hNx p) F 2)) ++ (macW cs (kd 3) (kup KS (hNx p) S 3) (kup KF (hNx p) F 3))) := by
  refine zM.of (own := RX7) (by decide) (Nat.le_of_ble_eq_true rfl) rfl ?_
  intro pq eq s mq below meth cq A ls hx hb hr hml hown hts hlk hnm hE hK hA hP hD hS hl
  have hl : lv_has ls 5 [(0, .ref (ad 3 0)), (1, .int cy), (2, .int sz), (3, .int sp), (4, .int lk)] := hl
  refine lv_iload_n hx hb dX7_setCylinder_0 rfl (lv_at hl 1 rfl) ?_
  refine z_callS (wn := ((camW ad) ++ (macW cs (ad 0) S F) ++ (hisW cs (ad 4) kd HS) ++ (macW cs (kd 0) (KS 0) (KF 0)) ++ (macW cs (kd 1) (KS 1) (KF 1)) ++ (macW cs (kd 2) (KS 2) (KF 2)) ++ (macW cs (kd 3) (KS 3) (KF 3)))) ⟨hx, hb, hml, hown, hts⟩ zY_X7_requireCylinder w_st_yX7_requireCylinder w_ml_X7_36 [.int cy] [] (c_X7_requireCylinder_ok l D cs cy hq0) hE hK hA hP hD hS [] rfl rfl rfl z_ins_nil rfl hl.1 (Nat.le_of_ble_eq_true rfl) ⟨Nat.le_of_ble_eq_true rfl, Nat.le_of_ble_eq_true rfl⟩ ⟨Nat.le_of_ble_eq_true rfl, Nat.le_of_ble_eq_true rfl⟩ dX7_setCylinder_1 (fun H locs hP hD hS => ?_)
  obtain ⟨k, hk, rfl⟩ := z_nat4 hq0
  have hNk := nN_nI (k := k) (by omega)
  refine lv_iload_n hx hb dX7_setCylinder_4 rfl (lv_at hl 2 rfl) ?_
  refine lv_iconst (v := 1) hx hb dX7_setCylinder_5 (by decide) ?_
  refine lv_bipush (v := 9) hx hb dX7_setCylinder_6 (by decide) ?_
  refine z_callS (wn := ((camW ad) ++ (macW cs (ad 0) S F) ++ (hisW cs (ad 4) kd HS) ++ (macW cs (kd 0) (KS 0) (KF 0)) ++ (macW cs (kd 1) (KS 1) (KF 1)) ++ (macW cs (kd 2) (KS 2) (KF 2)) ++ (macW cs (kd 3) (KS 3) (KF 3)))) ⟨hx, hb, hml, hown, hts⟩ zY_X7_within w_st_yX7_within w_ml_X7_55 [.int sz, .int 1, .int 9] [] (c_X7_within l D cs sz 1 9) hE hK hA hP hD hS [] rfl rfl rfl z_ins_nil rfl hl.1 (Nat.le_of_ble_eq_true rfl) ⟨Nat.le_of_ble_eq_true rfl, Nat.le_of_ble_eq_true rfl⟩ ⟨Nat.le_of_ble_eq_true rfl, Nat.le_of_ble_eq_true rfl⟩ dX7_setCylinder_8 (fun H locs hP hD hS => ?_)
  refine lv_if_eq (tgt := 35) hx hb dX7_setCylinder_11 (by decide) (fun c_1 => ?_) (fun c_1 => ?_)
  · skip
    have c_1 := bI_0.mp c_1
    exact absurd hq1.1 c_1
  · skip
    have c_1 := bI_n0 c_1
    refine lv_iload_n hx hb dX7_setCylinder_14 rfl (lv_at hl 3 rfl) ?_
    refine lv_iconst (v := 1) hx hb dX7_setCylinder_15 (by decide) ?_
    refine lv_bipush (v := 50) hx hb dX7_setCylinder_16 (by decide) ?_
    refine z_callS (wn := ((camW ad) ++ (macW cs (ad 0) S F) ++ (hisW cs (ad 4) kd HS) ++ (macW cs (kd 0) (KS 0) (KF 0)) ++ (macW cs (kd 1) (KS 1) (KF 1)) ++ (macW cs (kd 2) (KS 2) (KF 2)) ++ (macW cs (kd 3) (KS 3) (KF 3)))) ⟨hx, hb, hml, hown, hts⟩ zY_X7_within w_st_yX7_within w_ml_X7_55 [.int sp, .int 1, .int 50] [] (c_X7_within l D cs sp 1 50) hE hK hA hP hD hS [] rfl rfl rfl z_ins_nil rfl hl.1 (Nat.le_of_ble_eq_true rfl) ⟨Nat.le_of_ble_eq_true rfl, Nat.le_of_ble_eq_true rfl⟩ ⟨Nat.le_of_ble_eq_true rfl, Nat.le_of_ble_eq_true rfl⟩ dX7_setCylinder_18 (fun H locs hP hD hS => ?_)
    refine lv_if_eq (tgt := 35) hx hb dX7_setCylinder_21 (by decide) (fun c_2 => ?_) (fun c_2 => ?_)
    · skip
      have c_2 := bI_0.mp c_2
      exact absurd hq1.2.1 c_2
    · skip
      have c_2 := bI_n0 c_2
      refine lv_iload hx hb dX7_setCylinder_24 (lv_at hl 4 rfl) ?_
      refine lv_iconst (v := 0) hx hb dX7_setCylinder_26 (by decide) ?_
      refine lv_bipush (v := 20) hx hb dX7_setCylinder_27 (by decide) ?_
      refine z_callS (wn := ((camW ad) ++ (macW cs (ad 0) S F) ++ (hisW cs (ad 4) kd HS) ++ (macW cs (kd 0) (KS 0) (KF 0)) ++ (macW cs (kd 1) (KS 1) (KF 1)) ++ (macW cs (kd 2) (KS 2) (KF 2)) ++ (macW cs (kd 3) (KS 3) (KF 3)))) ⟨hx, hb, hml, hown, hts⟩ zY_X7_within w_st_yX7_within w_ml_X7_55 [.int lk, .int 0, .int 20] [] (c_X7_within l D cs lk 0 20) hE hK hA hP hD hS [] rfl rfl rfl z_ins_nil rfl hl.1 (Nat.le_of_ble_eq_true rfl) ⟨Nat.le_of_ble_eq_true rfl, Nat.le_of_ble_eq_true rfl⟩ ⟨Nat.le_of_ble_eq_true rfl, Nat.le_of_ble_eq_true rfl⟩ dX7_setCylinder_29 (fun H locs hP hD hS => ?_)
      refine lv_if_ne (tgt := 45) hx hb dX7_setCylinder_32 (by decide) (fun c_3 => ?_) (fun c_3 => ?_)
      · skip
        have c_3 := bI_n0 c_3
        refine lv_aload_n hx hb dX7_setCylinder_45 rfl (lv_at hl 0 rfl) ?_
        refine va_get (D := D) (ci := 7) (v := .ref (ad 4 0)) (C := RX7) (T := TX7) (N := 5) hx hb hts wsI_X7 hown hK hP 0 rfl rfl 1 (by decide) (hts _ w_fl_X7_19) (fun _ h9 => h9) rfl dX7_setCylinder_46 ?_
        refine lv_aload_n hx hb dX7_setCylinder_49 rfl (lv_at hl 0 rfl) ?_
        refine va_get (D := D) (ci := 7) (v := .ref (ad 0 0)) (C := RX7) (T := TX7) (N := 5) hx hb hts wsI_X7 hown hK hP 0 rfl rfl 0 (by decide) (hts _ w_fl_X7_10) (fun _ h9 => h9) rfl dX7_setCylinder_50 ?_
        refine z_callV (wn := ((camW ad) ++ (macW cs (ad 0) S F) ++ (hisW cs (ad 4) kd (upd (upd HS 0 (nI (hNx p))) 1 (nI (min (n + 1) 4)))) ++ (macW cs (kd 0) (kup KS (hNx p) S 0) (kup KF (hNx p) F 0)) ++ (macW cs (kd 1) (kup KS (hNx p) S 1) (kup KF (hNx p) F 1)) ++ (macW cs (kd 2) (kup KS (hNx p) S 2) (kup KF (hNx p) F 2)) ++ (macW cs (kd 3) (kup KS (hNx p) S 3) (kup KF (hNx p) F 3)))) ⟨hx, hb, hml, hown, hts⟩ zY_X4_save w_im_yX4_save w_se_yX4_save w_ml_X7_43 [.ref (ad 0 0)] [] (c_X4_save l D cs (ad 4) (ad 0) kd HS KS KF S F p n hp hp4 hn hn4) hE hK hA hP hD hS [18, 19, 20, 21, 22, 23, 24, 25, 26, 27, 28, 29, 30, 31, 32, 33, 34, 35, 36, 37, 38, 39, 40, 41, 42, 43, 44, 45, 46, 47, 48, 49, 50, 51, 52, 53, 54, 55, 56, 57, 58, 59, 60, 61, 62, 63, 64, 65, 66, 67, 68, 69, 70, 71, 72, 73, 74, 75, 76, 77, 78, 79, 80, 81, 82, 83, 84, 85, 86, 87, 1, 2, 3, 4, 5, 6, 7, 8, 9, 10, 11, 12, 13, 14, 15, 16, 17] rfl rfl rfl rfl 4 rfl rfl rfl rfl hl.1 (Nat.le_of_ble_eq_true rfl) ⟨Nat.le_of_ble_eq_true rfl, Nat.le_of_ble_eq_true rfl⟩ ⟨Nat.le_of_ble_eq_true rfl, Nat.le_of_ble_eq_true rfl⟩ dX7_setCylinder_53 (fun H locs hP hD hS => ?_)
        refine lv_aload_n hx hb dX7_setCylinder_56 rfl (lv_at hl 0 rfl) ?_
        refine va_get (D := D) (ci := 7) (v := .ref (ad 0 0)) (C := RX7) (T := TX7) (N := 5) hx hb hts wsI_X7 hown hK hP 0 rfl rfl 0 (by decide) (hts _ w_fl_X7_10) (fun _ h9 => h9) rfl dX7_setCylinder_57 ?_
        refine va_get (D := D) (ci := 5) (v := .ref (ad 0 3)) (C := RX5) (T := TX5) (N := 13) hx hb hts wsI_X5 hown hK hP 1 rfl rfl 10 (by decide) (hts _ w_fl_X7_75) (fun _ h9 => h9) rfl dX7_setCylinder_60 ?_
        refine va_get (D := D) (ci := 2) (v := .ref (ad 0 5)) (C := RX2) (T := TX2) (N := 6) hx hb hts wsI_X2 hown hK hP 4 rfl rfl 1 (by decide) (hts _ w_fl_X7_79) (fun _ h9 => h9) rfl dX7_setCylinder_63 ?_
        refine lv_iload_n hx hb dX7_setCylinder_66 rfl (lv_at hl 1 rfl) ?_
        refine lv_iload_n hx hb dX7_setCylinder_67 rfl (lv_at hl 2 rfl) ?_
        refine z_iast (k := k) hx hb hK hP hD hS 6 rfl (by omega) (by first | decide | omega) dX7_setCylinder_68 (fun H locs hP hD hS => ?_)
        have hP : va_P D vwCl ((camW ad) ++ (macW cs (ad 0) S (zU F 2 (upd (F 2) k sz))) ++ (hisW cs (ad 4) kd (upd (upd HS 0 (nI (hNx p))) 1 (nI (min (n + 1) 4)))) ++ (macW cs (kd 0) (kup KS (hNx p) S 0) (kup KF (hNx p) F 0)) ++ (macW cs (kd 1) (kup KS (hNx p) S 1) (kup KF (hNx p) F 1)) ++ (macW cs (kd 2) (kup KS (hNx p) S 2) (kup KF (hNx p) F 2)) ++ (macW cs (kd 3) (kup KS (hNx p) S 3) (kup KF (hNx p) F 3))) H := hP
        have hD : va_D A ((camW ad) ++ (macW cs (ad 0) S (zU F 2 (upd (F 2) k sz))) ++ (hisW cs (ad 4) kd (upd (upd HS 0 (nI (hNx p))) 1 (nI (min (n + 1) 4)))) ++ (macW cs (kd 0) (kup KS (hNx p) S 0) (kup KF (hNx p) F 0)) ++ (macW cs (kd 1) (kup KS (hNx p) S 1) (kup KF (hNx p) F 1)) ++ (macW cs (kd 2) (kup KS (hNx p) S 2) (kup KF (hNx p) F 2)) ++ (macW cs (kd 3) (kup KS (hNx p) S 3) (kup KF (hNx p) F 3))) := hD
        refine lv_aload_n hx hb dX7_setCylinder_69 rfl (lv_at hl 0 rfl) ?_
        refine va_get (D := D) (ci := 7) (v := .ref (ad 0 0)) (C := RX7) (T := TX7) (N := 5) hx hb hts wsI_X7 hown hK hP 0 rfl rfl 0 (by decide) (hts _ w_fl_X7_10) (fun _ h9 => h9) rfl dX7_setCylinder_70 ?_
        refine va_get (D := D) (ci := 5) (v := .ref (ad 0 3)) (C := RX5) (T := TX5) (N := 13) hx hb hts wsI_X5 hown hK hP 1 rfl rfl 10 (by decide) (hts _ w_fl_X7_75) (fun _ h9 => h9) rfl dX7_setCylinder_73 ?_
        refine va_get (D := D) (ci := 2) (v := .ref (ad 0 6)) (C := RX2) (T := TX2) (N := 6) hx hb hts wsI_X2 hown hK hP 4 rfl rfl 2 (by decide) (hts _ w_fl_X7_85) (fun _ h9 => h9) rfl dX7_setCylinder_76 ?_
        refine lv_iload_n hx hb dX7_setCylinder_79 rfl (lv_at hl 1 rfl) ?_
        refine lv_iload_n hx hb dX7_setCylinder_80 rfl (lv_at hl 3 rfl) ?_
        refine z_iast (k := k) hx hb hK hP hD hS 7 rfl (by omega) (by first | decide | omega) dX7_setCylinder_81 (fun H locs hP hD hS => ?_)
        have hP : va_P D vwCl ((camW ad) ++ (macW cs (ad 0) S (zU (zU F 2 (upd (F 2) k sz)) 3 (upd (F 3) k sp))) ++ (hisW cs (ad 4) kd (upd (upd HS 0 (nI (hNx p))) 1 (nI (min (n + 1) 4)))) ++ (macW cs (kd 0) (kup KS (hNx p) S 0) (kup KF (hNx p) F 0)) ++ (macW cs (kd 1) (kup KS (hNx p) S 1) (kup KF (hNx p) F 1)) ++ (macW cs (kd 2) (kup KS (hNx p) S 2) (kup KF (hNx p) F 2)) ++ (macW cs (kd 3) (kup KS (hNx p) S 3) (kup KF (hNx p) F 3))) H := hP
        have hD : va_D A ((camW ad) ++ (macW cs (ad 0) S (zU (zU F 2 (upd (F 2) k sz)) 3 (upd (F 3) k sp))) ++ (hisW cs (ad 4) kd (upd (upd HS 0 (nI (hNx p))) 1 (nI (min (n + 1) 4)))) ++ (macW cs (kd 0) (kup KS (hNx p) S 0) (kup KF (hNx p) F 0)) ++ (macW cs (kd 1) (kup KS (hNx p) S 1) (kup KF (hNx p) F 1)) ++ (macW cs (kd 2) (kup KS (hNx p) S 2) (kup KF (hNx p) F 2)) ++ (macW cs (kd 3) (kup KS (hNx p) S 3) (kup KF (hNx p) F 3))) := hD
        refine lv_aload_n hx hb dX7_setCylinder_82 rfl (lv_at hl 0 rfl) ?_
        refine va_get (D := D) (ci := 7) (v := .ref (ad 0 0)) (C := RX7) (T := TX7) (N := 5) hx hb hts wsI_X7 hown hK hP 0 rfl rfl 0 (by decide) (hts _ w_fl_X7_10) (fun _ h9 => h9) rfl dX7_setCylinder_83 ?_
        refine va_get (D := D) (ci := 5) (v := .ref (ad 0 3)) (C := RX5) (T := TX5) (N := 13) hx hb hts wsI_X5 hown hK hP 1 rfl rfl 10 (by decide) (hts _ w_fl_X7_75) (fun _ h9 => h9) rfl dX7_setCylinder_86 ?_
        refine va_get (D := D) (ci := 2) (v := .ref (ad 0 7)) (C := RX2) (T := TX2) (N := 6) hx hb hts wsI_X2 hown hK hP 4 rfl rfl 3 (by decide) (hts _ w_fl_X7_88) (fun _ h9 => h9) rfl dX7_setCylinder_89 ?_
        refine lv_iload_n hx hb dX7_setCylinder_92 rfl (lv_at hl 1 rfl) ?_
        refine lv_iload hx hb dX7_setCylinder_93 (lv_at hl 4 rfl) ?_
        refine z_iast (k := k) hx hb hK hP hD hS 8 rfl (by omega) (by first | decide | omega) dX7_setCylinder_95 (fun H locs hP hD hS => ?_)
        have hP : va_P D vwCl ((camW ad) ++ (macW cs (ad 0) S (zU (zU (zU F 2 (upd (F 2) k sz)) 3 (upd (F 3) k sp)) 4 (upd (F 4) k lk))) ++ (hisW cs (ad 4) kd (upd (upd HS 0 (nI (hNx p))) 1 (nI (min (n + 1) 4)))) ++ (macW cs (kd 0) (kup KS (hNx p) S 0) (kup KF (hNx p) F 0)) ++ (macW cs (kd 1) (kup KS (hNx p) S 1) (kup KF (hNx p) F 1)) ++ (macW cs (kd 2) (kup KS (hNx p) S 2) (kup KF (hNx p) F 2)) ++ (macW cs (kd 3) (kup KS (hNx p) S 3) (kup KF (hNx p) F 3))) H := hP
        have hD : va_D A ((camW ad) ++ (macW cs (ad 0) S (zU (zU (zU F 2 (upd (F 2) k sz)) 3 (upd (F 3) k sp)) 4 (upd (F 4) k lk))) ++ (hisW cs (ad 4) kd (upd (upd HS 0 (nI (hNx p))) 1 (nI (min (n + 1) 4)))) ++ (macW cs (kd 0) (kup KS (hNx p) S 0) (kup KF (hNx p) F 0)) ++ (macW cs (kd 1) (kup KS (hNx p) S 1) (kup KF (hNx p) F 1)) ++ (macW cs (kd 2) (kup KS (hNx p) S 2) (kup KF (hNx p) F 2)) ++ (macW cs (kd 3) (kup KS (hNx p) S 3) (kup KF (hNx p) F 3))) := hD
        refine lv_aload_n hx hb dX7_setCylinder_96 rfl (lv_at hl 0 rfl) ?_
        refine va_get (D := D) (ci := 7) (v := .ref (ad 0 0)) (C := RX7) (T := TX7) (N := 5) hx hb hts wsI_X7 hown hK hP 0 rfl rfl 0 (by decide) (hts _ w_fl_X7_10) (fun _ h9 => h9) rfl dX7_setCylinder_97 ?_
        refine va_get (D := D) (ci := 5) (v := .ref (ad 0 3)) (C := RX5) (T := TX5) (N := 13) hx hb hts wsI_X5 hown hK hP 1 rfl rfl 10 (by decide) (hts _ w_fl_X7_75) (fun _ h9 => h9) rfl dX7_setCylinder_100 ?_
        refine va_get (D := D) (ci := 2) (v := .ref (ad 0 4)) (C := RX2) (T := TX2) (N := 6) hx hb hts wsI_X2 hown hK hP 4 rfl rfl 0 (by decide) (hts _ w_fl_X7_91) (fun _ h9 => h9) rfl dX7_setCylinder_103 ?_
        refine lv_iload_n hx hb dX7_setCylinder_106 rfl (lv_at hl 1 rfl) ?_
        refine z_iald (k := k) hx hb hK hP 5 rfl (by omega) (by first | decide | omega) dX7_setCylinder_107 ?_
        exact z_iret hx hb hr hlk hK hP hD hS dX7_setCylinder_108 (by rw [hNk]; rfl) (by simp only [hNk])
      · skip
        have c_3 := bI_0.mp c_3
        exact absurd hq1.2.2 c_3

set_option maxHeartbeats 4000000 in
set_option maxRecDepth 100000 in
theorem c_X7_setAir_ok (l : Launch) (D : va_G) (cs : zCs) (ad : Nat → Nat → Nat) (S : Nat → Int32) (F : Nat → Nat → Int32) (kd : Nat → Nat → Nat) (HS : Nat → Int32) (KS : Nat → Nat → Int32) (KF : Nat → Nat → Nat → Int32) (p n : Nat) (ca co : Int32) (hp : HS 0 = nI p) (hp4 : p < 4) (hn : HS 1 = nI n) (hn4 : n ≤ 4) (hq0 : (100 ≤ ca ∧ ca ≤ 9999) ∧ (0 ≤ co ∧ co ≤ 500)) : zM l D cs yX7_setAir cX7_setAir 3 (some FieldType.int) 6 154 0 0 [.ref (ad 3 0), .int ca, .int co] ((camW ad) ++ (macW cs (ad 0) S F) ++ (hisW cs (ad 4) kd HS) ++ (macW cs (kd 0) (KS 0) (KF 0)) ++ (macW cs (kd 1) (KS 1) (KF 1)) ++ (macW cs (kd 2) (KS 2) (KF 2)) ++ (macW cs (kd 3) (KS 3) (KF 3))) (some (.int (airOff (upd (upd S 6 ca) 7 co) 5))) ((camW ad) ++ (macW cs (ad 0) (airOff (upd (upd S 6 ca) 7 co)) F) ++ (hisW cs (ad 4) kd (upd (upd HS 0 (nI (hNx p))) 1 (nI (min (n + 1) 4)))) ++ (macW cs (kd 0) (kup KS (hNx p) S 0) (kup KF (hNx p) F 0)) ++ (macW cs (kd 1) (kup KS (hNx p) S 1) (kup KF (hNx p) F 1)) ++ (macW cs (kd 2) (kup KS (hNx p) S 2) (kup KF (hNx p) F 2)) ++ (macW cs (kd 3) (kup KS (hNx p) S 3) (kup KF (hNx p) F 3))) := by
  refine zM.of (own := RX7) (by decide) (Nat.le_of_ble_eq_true rfl) rfl ?_
  intro pq eq s mq below meth cq A ls hx hb hr hml hown hts hlk hnm hE hK hA hP hD hS hl
  have hl : lv_has ls 3 [(0, .ref (ad 3 0)), (1, .int ca), (2, .int co)] := hl
  refine lv_iload_n hx hb dX7_setAir_0 rfl (lv_at hl 1 rfl) ?_
  refine lv_bipush (v := 100) hx hb dX7_setAir_1 (by decide) ?_
  refine lv_sipush (v := 9999) hx hb dX7_setAir_3 (by decide) ?_
  refine z_callS (wn := ((camW ad) ++ (macW cs (ad 0) S F) ++ (hisW cs (ad 4) kd HS) ++ (macW cs (kd 0) (KS 0) (KF 0)) ++ (macW cs (kd 1) (KS 1) (KF 1)) ++ (macW cs (kd 2) (KS 2) (KF 2)) ++ (macW cs (kd 3) (KS 3) (KF 3)))) ⟨hx, hb, hml, hown, hts⟩ zY_X7_within w_st_yX7_within w_ml_X7_55 [.int ca, .int 100, .int 9999] [] (c_X7_within l D cs ca 100 9999) hE hK hA hP hD hS [] rfl rfl rfl z_ins_nil rfl hl.1 (Nat.le_of_ble_eq_true rfl) ⟨Nat.le_of_ble_eq_true rfl, Nat.le_of_ble_eq_true rfl⟩ ⟨Nat.le_of_ble_eq_true rfl, Nat.le_of_ble_eq_true rfl⟩ dX7_setAir_6 (fun H locs hP hD hS => ?_)
  refine lv_if_eq (tgt := 23) hx hb dX7_setAir_9 (by decide) (fun c_1 => ?_) (fun c_1 => ?_)
  · skip
    have c_1 := bI_0.mp c_1
    exact absurd hq0.1 c_1
  · skip
    have c_1 := bI_n0 c_1
    refine lv_iload_n hx hb dX7_setAir_12 rfl (lv_at hl 2 rfl) ?_
    refine lv_iconst (v := 0) hx hb dX7_setAir_13 (by decide) ?_
    refine lv_sipush (v := 500) hx hb dX7_setAir_14 (by decide) ?_
    refine z_callS (wn := ((camW ad) ++ (macW cs (ad 0) S F) ++ (hisW cs (ad 4) kd HS) ++ (macW cs (kd 0) (KS 0) (KF 0)) ++ (macW cs (kd 1) (KS 1) (KF 1)) ++ (macW cs (kd 2) (KS 2) (KF 2)) ++ (macW cs (kd 3) (KS 3) (KF 3)))) ⟨hx, hb, hml, hown, hts⟩ zY_X7_within w_st_yX7_within w_ml_X7_55 [.int co, .int 0, .int 500] [] (c_X7_within l D cs co 0 500) hE hK hA hP hD hS [] rfl rfl rfl z_ins_nil rfl hl.1 (Nat.le_of_ble_eq_true rfl) ⟨Nat.le_of_ble_eq_true rfl, Nat.le_of_ble_eq_true rfl⟩ ⟨Nat.le_of_ble_eq_true rfl, Nat.le_of_ble_eq_true rfl⟩ dX7_setAir_17 (fun H locs hP hD hS => ?_)
    refine lv_if_ne (tgt := 33) hx hb dX7_setAir_20 (by decide) (fun c_2 => ?_) (fun c_2 => ?_)
    · skip
      have c_2 := bI_n0 c_2
      refine lv_aload_n hx hb dX7_setAir_33 rfl (lv_at hl 0 rfl) ?_
      refine va_get (D := D) (ci := 7) (v := .ref (ad 4 0)) (C := RX7) (T := TX7) (N := 5) hx hb hts wsI_X7 hown hK hP 0 rfl rfl 1 (by decide) (hts _ w_fl_X7_19) (fun _ h9 => h9) rfl dX7_setAir_34 ?_
      refine lv_aload_n hx hb dX7_setAir_37 rfl (lv_at hl 0 rfl) ?_
      refine va_get (D := D) (ci := 7) (v := .ref (ad 0 0)) (C := RX7) (T := TX7) (N := 5) hx hb hts wsI_X7 hown hK hP 0 rfl rfl 0 (by decide) (hts _ w_fl_X7_10) (fun _ h9 => h9) rfl dX7_setAir_38 ?_
      refine z_callV (wn := ((camW ad) ++ (macW cs (ad 0) S F) ++ (hisW cs (ad 4) kd (upd (upd HS 0 (nI (hNx p))) 1 (nI (min (n + 1) 4)))) ++ (macW cs (kd 0) (kup KS (hNx p) S 0) (kup KF (hNx p) F 0)) ++ (macW cs (kd 1) (kup KS (hNx p) S 1) (kup KF (hNx p) F 1)) ++ (macW cs (kd 2) (kup KS (hNx p) S 2) (kup KF (hNx p) F 2)) ++ (macW cs (kd 3) (kup KS (hNx p) S 3) (kup KF (hNx p) F 3)))) ⟨hx, hb, hml, hown, hts⟩ zY_X4_save w_im_yX4_save w_se_yX4_save w_ml_X7_43 [.ref (ad 0 0)] [] (c_X4_save l D cs (ad 4) (ad 0) kd HS KS KF S F p n hp hp4 hn hn4) hE hK hA hP hD hS [18, 19, 20, 21, 22, 23, 24, 25, 26, 27, 28, 29, 30, 31, 32, 33, 34, 35, 36, 37, 38, 39, 40, 41, 42, 43, 44, 45, 46, 47, 48, 49, 50, 51, 52, 53, 54, 55, 56, 57, 58, 59, 60, 61, 62, 63, 64, 65, 66, 67, 68, 69, 70, 71, 72, 73, 74, 75, 76, 77, 78, 79, 80, 81, 82, 83, 84, 85, 86, 87, 1, 2, 3, 4, 5, 6, 7, 8, 9, 10, 11, 12, 13, 14, 15, 16, 17] rfl rfl rfl rfl 4 rfl rfl rfl rfl hl.1 (Nat.le_of_ble_eq_true rfl) ⟨Nat.le_of_ble_eq_true rfl, Nat.le_of_ble_eq_true rfl⟩ ⟨Nat.le_of_ble_eq_true rfl, Nat.le_of_ble_eq_true rfl⟩ dX7_setAir_41 (fun H locs hP hD hS => ?_)
      refine lv_aload_n hx hb dX7_setAir_44 rfl (lv_at hl 0 rfl) ?_
      refine va_get (D := D) (ci := 7) (v := .ref (ad 0 0)) (C := RX7) (T := TX7) (N := 5) hx hb hts wsI_X7 hown hK hP 0 rfl rfl 0 (by decide) (hts _ w_fl_X7_10) (fun _ h9 => h9) rfl dX7_setAir_45 ?_
      refine va_get (D := D) (ci := 5) (v := .ref (ad 0 2)) (C := RX5) (T := TX5) (N := 13) hx hb hts wsI_X5 hown hK hP 1 rfl rfl 9 (by decide) (hts _ w_fl_X7_96) (fun _ h9 => h9) rfl dX7_setAir_48 ?_
      refine lv_iload_n hx hb dX7_setAir_51 rfl (lv_at hl 1 rfl) ?_
      refine va_put (D := D) (ci := 0) (v := .int ca) (C := RX0) (T := TX0) (N := 7) hx hb hts wsI_X0 tyX0 tyX0_ok nmX0 hown hK hP hD hS 3 rfl rfl 1 (by decide) (hts _ w_fl_X7_100) (fun _ h9 => h9) rfl (tyX0_ok 1 (by decide)) rfl rfl (Nat.le_of_ble_eq_true rfl) dX7_setAir_52 (fun H locs hP hD hS => ?_)
      have hP : va_P D vwCl ((camW ad) ++ (macW cs (ad 0) (upd S 6 ca) F) ++ (hisW cs (ad 4) kd (upd (upd HS 0 (nI (hNx p))) 1 (nI (min (n + 1) 4)))) ++ (macW cs (kd 0) (kup KS (hNx p) S 0) (kup KF (hNx p) F 0)) ++ (macW cs (kd 1) (kup KS (hNx p) S 1) (kup KF (hNx p) F 1)) ++ (macW cs (kd 2) (kup KS (hNx p) S 2) (kup KF (hNx p) F 2)) ++ (macW cs (kd 3) (kup KS (hNx p) S 3) (kup KF (hNx p) F 3))) H := hP
      have hD : va_D A ((camW ad) ++ (macW cs (ad 0) (upd S 6 ca) F) ++ (hisW cs (ad 4) kd (upd (upd HS 0 (nI (hNx p))) 1 (nI (min (n + 1) 4)))) ++ (macW cs (kd 0) (kup KS (hNx p) S 0) (kup KF (hNx p) F 0)) ++ (macW cs (kd 1) (kup KS (hNx p) S 1) (kup KF (hNx p) F 1)) ++ (macW cs (kd 2) (kup KS (hNx p) S 2) (kup KF (hNx p) F 2)) ++ (macW cs (kd 3) (kup KS (hNx p) S 3) (kup KF (hNx p) F 3))) := hD
      refine lv_aload_n hx hb dX7_setAir_55 rfl (lv_at hl 0 rfl) ?_
      refine va_get (D := D) (ci := 7) (v := .ref (ad 0 0)) (C := RX7) (T := TX7) (N := 5) hx hb hts wsI_X7 hown hK hP 0 rfl rfl 0 (by decide) (hts _ w_fl_X7_10) (fun _ h9 => h9) rfl dX7_setAir_56 ?_
      refine va_get (D := D) (ci := 5) (v := .ref (ad 0 2)) (C := RX5) (T := TX5) (N := 13) hx hb hts wsI_X5 hown hK hP 1 rfl rfl 9 (by decide) (hts _ w_fl_X7_96) (fun _ h9 => h9) rfl dX7_setAir_59 ?_
      refine lv_iload_n hx hb dX7_setAir_62 rfl (lv_at hl 2 rfl) ?_
      refine va_put (D := D) (ci := 0) (v := .int co) (C := RX0) (T := TX0) (N := 7) hx hb hts wsI_X0 tyX0 tyX0_ok nmX0 hown hK hP hD hS 3 rfl rfl 2 (by decide) (hts _ w_fl_X7_105) (fun _ h9 => h9) rfl (tyX0_ok 2 (by decide)) rfl rfl (Nat.le_of_ble_eq_true rfl) dX7_setAir_63 (fun H locs hP hD hS => ?_)
      have hP : va_P D vwCl ((camW ad) ++ (macW cs (ad 0) (upd (upd S 6 ca) 7 co) F) ++ (hisW cs (ad 4) kd (upd (upd HS 0 (nI (hNx p))) 1 (nI (min (n + 1) 4)))) ++ (macW cs (kd 0) (kup KS (hNx p) S 0) (kup KF (hNx p) F 0)) ++ (macW cs (kd 1) (kup KS (hNx p) S 1) (kup KF (hNx p) F 1)) ++ (macW cs (kd 2) (kup KS (hNx p) S 2) (kup KF (hNx p) F 2)) ++ (macW cs (kd 3) (kup KS (hNx p) S 3) (kup KF (hNx p) F 3))) H := hP
      have hD : va_D A ((camW ad) ++ (macW cs (ad 0) (upd (upd S 6 ca) 7 co) F) ++ (hisW cs (ad 4) kd (upd (upd HS 0 (nI (hNx p))) 1 (nI (min (n + 1) 4)))) ++ (macW cs (kd 0) (kup KS (hNx p) S 0) (kup KF (hNx p) F 0)) ++ (macW cs (kd 1) (kup KS (hNx p) S 1) (kup KF (hNx p) F 1)) ++ (macW cs (kd 2) (kup KS (hNx p) S 2) (kup KF (hNx p) F 2)) ++ (macW cs (kd 3) (kup KS (hNx p) S 3) (kup KF (hNx p) F 3))) := hD
      refine lv_aload_n hx hb dX7_setAir_66 rfl (lv_at hl 0 rfl) ?_
      refine va_get (D := D) (ci := 7) (v := .ref (ad 0 0)) (C := RX7) (T := TX7) (N := 5) hx hb hts wsI_X7 hown hK hP 0 rfl rfl 0 (by decide) (hts _ w_fl_X7_10) (fun _ h9 => h9) rfl dX7_setAir_67 ?_
      refine va_get (D := D) (ci := 5) (v := .ref (ad 0 2)) (C := RX5) (T := TX5) (N := 13) hx hb hts wsI_X5 hown hK hP 1 rfl rfl 9 (by decide) (hts _ w_fl_X7_96) (fun _ h9 => h9) rfl dX7_setAir_70 ?_
      refine z_callV (wn := ((camW ad) ++ (macW cs (ad 0) (airOff (upd (upd S 6 ca) 7 co)) F) ++ (hisW cs (ad 4) kd (upd (upd HS 0 (nI (hNx p))) 1 (nI (min (n + 1) 4)))) ++ (macW cs (kd 0) (kup KS (hNx p) S 0) (kup KF (hNx p) F 0)) ++ (macW cs (kd 1) (kup KS (hNx p) S 1) (kup KF (hNx p) F 1)) ++ (macW cs (kd 2) (kup KS (hNx p) S 2) (kup KF (hNx p) F 2)) ++ (macW cs (kd 3) (kup KS (hNx p) S 3) (kup KF (hNx p) F 3)))) ⟨hx, hb, hml, hown, hts⟩ zY_X0_letOffSurplus w_im_yX0_letOffSurplus w_se_yX0_letOffSurplus w_ml_X7_108 [] [] (c_X0_letOffSurplus l D cs (ad 0) (upd (upd S 6 ca) 7 co)) hE hK hA hP hD hS [3] rfl rfl rfl rfl 0 rfl rfl rfl rfl hl.1 (Nat.le_of_ble_eq_true rfl) ⟨Nat.le_of_ble_eq_true rfl, Nat.le_of_ble_eq_true rfl⟩ ⟨Nat.le_of_ble_eq_true rfl, Nat.le_of_ble_eq_true rfl⟩ dX7_setAir_73 (fun H locs hP hD hS => ?_)
      refine lv_aload_n hx hb dX7_setAir_76 rfl (lv_at hl 0 rfl) ?_
      refine va_get (D := D) (ci := 7) (v := .ref (ad 0 0)) (C := RX7) (T := TX7) (N := 5) hx hb hts wsI_X7 hown hK hP 0 rfl rfl 0 (by decide) (hts _ w_fl_X7_10) (fun _ h9 => h9) rfl dX7_setAir_77 ?_
      refine va_get (D := D) (ci := 5) (v := .ref (ad 0 2)) (C := RX5) (T := TX5) (N := 13) hx hb hts wsI_X5 hown hK hP 1 rfl rfl 9 (by decide) (hts _ w_fl_X7_96) (fun _ h9 => h9) rfl dX7_setAir_80 ?_
      refine va_get (D := D) (ci := 0) (v := .int ((airOff (upd (upd S 6 ca) 7 co)) 5)) (C := RX0) (T := TX0) (N := 7) hx hb hts wsI_X0 hown hK hP 3 rfl rfl 0 (by decide) (hts _ w_fl_X7_111) (fun _ h9 => h9) rfl dX7_setAir_83 ?_
      exact z_iret hx hb hr hlk hK hP hD hS dX7_setAir_86 rfl rfl
    · skip
      have c_2 := bI_0.mp c_2
      exact absurd hq0.2 c_2

set_option maxHeartbeats 4000000 in
set_option maxRecDepth 100000 in
theorem c_X7_addGuard_ok (l : Launch) (D : va_G) (cs : zCs) (ad : Nat → Nat → Nat) (S : Nat → Int32) (F : Nat → Nat → Int32) (kd : Nat → Nat → Nat) (HS : Nat → Int32) (KS : Nat → Nat → Int32) (KF : Nat → Nat → Nat → Int32) (p n : Nat) (g o bd : Int32) (hp : HS 0 = nI p) (hp4 : p < 4) (hn : HS 1 = nI n) (hn4 : n ≤ 4) (hg0 : 0 ≤ S 8) (hq0 : 0 ≤ g ∧ g ≤ 4) (hq1 : 0 ≤ o ∧ o ≤ 4) (hq2 : (¬ g = o) ∧ (1 ≤ bd ∧ bd ≤ 99)) (hq3 : (S 8) < 4) : zM l D cs yX7_addGuard cX7_addGuard 4 (some FieldType.int) 7 154 0 0 [.ref (ad 3 0), .int g, .int o, .int bd] ((camW ad) ++ (macW cs (ad 0) S F) ++ (hisW cs (ad 4) kd HS) ++ (macW cs (kd 0) (KS 0) (KF 0)) ++ (macW cs (kd 1) (KS 1) (KF 1)) ++ (macW cs (kd 2) (KS 2) (KF 2)) ++ (macW cs (kd 3) (KS 3) (KF 3))) (some (.int ((S 8) + 1 - 1))) ((camW ad) ++ (macW cs (ad 0) (upd S 8 ((S 8) + 1)) (zU (zU (zU F 7 (upd (F 7) (S 8).toNatClampNeg g)) 8 (upd (F 8) (S 8).toNatClampNeg o)) 9 (upd (F 9) (S 8).toNatClampNeg bd))) ++ (hisW cs (ad 4) kd (upd (upd HS 0 (nI (hNx p))) 1 (nI (min (n + 1) 4)))) ++ (macW cs (kd 0) (kup KS (hNx p) S 0) (kup KF (hNx p) F 0)) ++ (macW cs (kd 1) (kup KS (hNx p) S 1) (kup KF (hNx p) F 1)) ++ (macW cs (kd 2) (kup KS (hNx p) S 2) (kup KF (hNx p) F 2)) ++ (macW cs (kd 3) (kup KS (hNx p) S 3) (kup KF (hNx p) F 3))) := by
  refine zM.of (own := RX7) (by decide) (Nat.le_of_ble_eq_true rfl) rfl ?_
  intro pq eq s mq below meth cq A ls hx hb hr hml hown hts hlk hnm hE hK hA hP hD hS hl
  have hl : lv_has ls 4 [(0, .ref (ad 3 0)), (1, .int g), (2, .int o), (3, .int bd)] := hl
  refine lv_iload_n hx hb dX7_addGuard_0 rfl (lv_at hl 1 rfl) ?_
  refine z_callS (wn := ((camW ad) ++ (macW cs (ad 0) S F) ++ (hisW cs (ad 4) kd HS) ++ (macW cs (kd 0) (KS 0) (KF 0)) ++ (macW cs (kd 1) (KS 1) (KF 1)) ++ (macW cs (kd 2) (KS 2) (KF 2)) ++ (macW cs (kd 3) (KS 3) (KF 3)))) ⟨hx, hb, hml, hown, hts⟩ zY_X7_requireCylinder w_st_yX7_requireCylinder w_ml_X7_36 [.int g] [] (c_X7_requireCylinder_ok l D cs g hq0) hE hK hA hP hD hS [] rfl rfl rfl z_ins_nil rfl hl.1 (Nat.le_of_ble_eq_true rfl) ⟨Nat.le_of_ble_eq_true rfl, Nat.le_of_ble_eq_true rfl⟩ ⟨Nat.le_of_ble_eq_true rfl, Nat.le_of_ble_eq_true rfl⟩ dX7_addGuard_1 (fun H locs hP hD hS => ?_)
  refine lv_iload_n hx hb dX7_addGuard_4 rfl (lv_at hl 2 rfl) ?_
  refine z_callS (wn := ((camW ad) ++ (macW cs (ad 0) S F) ++ (hisW cs (ad 4) kd HS) ++ (macW cs (kd 0) (KS 0) (KF 0)) ++ (macW cs (kd 1) (KS 1) (KF 1)) ++ (macW cs (kd 2) (KS 2) (KF 2)) ++ (macW cs (kd 3) (KS 3) (KF 3)))) ⟨hx, hb, hml, hown, hts⟩ zY_X7_requireCylinder w_st_yX7_requireCylinder w_ml_X7_36 [.int o] [] (c_X7_requireCylinder_ok l D cs o hq1) hE hK hA hP hD hS [] rfl rfl rfl z_ins_nil rfl hl.1 (Nat.le_of_ble_eq_true rfl) ⟨Nat.le_of_ble_eq_true rfl, Nat.le_of_ble_eq_true rfl⟩ ⟨Nat.le_of_ble_eq_true rfl, Nat.le_of_ble_eq_true rfl⟩ dX7_addGuard_5 (fun H locs hP hD hS => ?_)
  refine lv_iload_n hx hb dX7_addGuard_8 rfl (lv_at hl 1 rfl) ?_
  refine lv_iload_n hx hb dX7_addGuard_9 rfl (lv_at hl 2 rfl) ?_
  refine lv_icmp_eq (tgt := 23) hx hb dX7_addGuard_10 (by decide) (fun c_1 => ?_) (fun c_1 => ?_)
  · skip
    exact absurd c_1 hq2.1
  · skip
    refine lv_iload_n hx hb dX7_addGuard_13 rfl (lv_at hl 3 rfl) ?_
    refine lv_iconst (v := 1) hx hb dX7_addGuard_14 (by decide) ?_
    refine lv_bipush (v := 99) hx hb dX7_addGuard_15 (by decide) ?_
    refine z_callS (wn := ((camW ad) ++ (macW cs (ad 0) S F) ++ (hisW cs (ad 4) kd HS) ++ (macW cs (kd 0) (KS 0) (KF 0)) ++ (macW cs (kd 1) (KS 1) (KF 1)) ++ (macW cs (kd 2) (KS 2) (KF 2)) ++ (macW cs (kd 3) (KS 3) (KF 3)))) ⟨hx, hb, hml, hown, hts⟩ zY_X7_within w_st_yX7_within w_ml_X7_55 [.int bd, .int 1, .int 99] [] (c_X7_within l D cs bd 1 99) hE hK hA hP hD hS [] rfl rfl rfl z_ins_nil rfl hl.1 (Nat.le_of_ble_eq_true rfl) ⟨Nat.le_of_ble_eq_true rfl, Nat.le_of_ble_eq_true rfl⟩ ⟨Nat.le_of_ble_eq_true rfl, Nat.le_of_ble_eq_true rfl⟩ dX7_addGuard_17 (fun H locs hP hD hS => ?_)
    refine lv_if_ne (tgt := 33) hx hb dX7_addGuard_20 (by decide) (fun c_2 => ?_) (fun c_2 => ?_)
    · skip
      have c_2 := bI_n0 c_2
      refine lv_aload_n hx hb dX7_addGuard_33 rfl (lv_at hl 0 rfl) ?_
      refine va_get (D := D) (ci := 7) (v := .ref (ad 0 0)) (C := RX7) (T := TX7) (N := 5) hx hb hts wsI_X7 hown hK hP 0 rfl rfl 0 (by decide) (hts _ w_fl_X7_10) (fun _ h9 => h9) rfl dX7_addGuard_34 ?_
      refine va_get (D := D) (ci := 5) (v := .ref (ad 0 10)) (C := RX5) (T := TX5) (N := 13) hx hb hts wsI_X5 hown hK hP 1 rfl rfl 11 (by decide) (hts _ w_fl_X7_116) (fun _ h9 => h9) rfl dX7_addGuard_37 ?_
      refine va_get (D := D) (ci := 3) (v := .int (S 8)) (C := RX3) (T := TX3) (N := 4) hx hb hts wsI_X3 hown hK hP 11 rfl rfl 3 (by decide) (hts _ w_fl_X7_120) (fun _ h9 => h9) rfl dX7_addGuard_40 ?_
      refine lv_iconst (v := 4) hx hb dX7_addGuard_43 (by decide) ?_
      refine lv_icmp_lt (tgt := 57) hx hb dX7_addGuard_44 (by decide) (fun c_3 => ?_) (fun c_3 => ?_)
      · skip
        refine lv_aload_n hx hb dX7_addGuard_57 rfl (lv_at hl 0 rfl) ?_
        refine va_get (D := D) (ci := 7) (v := .ref (ad 4 0)) (C := RX7) (T := TX7) (N := 5) hx hb hts wsI_X7 hown hK hP 0 rfl rfl 1 (by decide) (hts _ w_fl_X7_19) (fun _ h9 => h9) rfl dX7_addGuard_58 ?_
        refine lv_aload_n hx hb dX7_addGuard_61 rfl (lv_at hl 0 rfl) ?_
        refine va_get (D := D) (ci := 7) (v := .ref (ad 0 0)) (C := RX7) (T := TX7) (N := 5) hx hb hts wsI_X7 hown hK hP 0 rfl rfl 0 (by decide) (hts _ w_fl_X7_10) (fun _ h9 => h9) rfl dX7_addGuard_62 ?_
        refine z_callV (wn := ((camW ad) ++ (macW cs (ad 0) S F) ++ (hisW cs (ad 4) kd (upd (upd HS 0 (nI (hNx p))) 1 (nI (min (n + 1) 4)))) ++ (macW cs (kd 0) (kup KS (hNx p) S 0) (kup KF (hNx p) F 0)) ++ (macW cs (kd 1) (kup KS (hNx p) S 1) (kup KF (hNx p) F 1)) ++ (macW cs (kd 2) (kup KS (hNx p) S 2) (kup KF (hNx p) F 2)) ++ (macW cs (kd 3) (kup KS (hNx p) S 3) (kup KF (hNx p) F 3)))) ⟨hx, hb, hml, hown, hts⟩ zY_X4_save w_im_yX4_save w_se_yX4_save w_ml_X7_43 [.ref (ad 0 0)] [] (c_X4_save l D cs (ad 4) (ad 0) kd HS KS KF S F p n hp hp4 hn hn4) hE hK hA hP hD hS [18, 19, 20, 21, 22, 23, 24, 25, 26, 27, 28, 29, 30, 31, 32, 33, 34, 35, 36, 37, 38, 39, 40, 41, 42, 43, 44, 45, 46, 47, 48, 49, 50, 51, 52, 53, 54, 55, 56, 57, 58, 59, 60, 61, 62, 63, 64, 65, 66, 67, 68, 69, 70, 71, 72, 73, 74, 75, 76, 77, 78, 79, 80, 81, 82, 83, 84, 85, 86, 87, 1, 2, 3, 4, 5, 6, 7, 8, 9, 10, 11, 12, 13, 14, 15, 16, 17] rfl rfl rfl rfl 4 rfl rfl rfl rfl hl.1 (Nat.le_of_ble_eq_true rfl) ⟨Nat.le_of_ble_eq_true rfl, Nat.le_of_ble_eq_true rfl⟩ ⟨Nat.le_of_ble_eq_true rfl, Nat.le_of_ble_eq_true rfl⟩ dX7_addGuard_65 (fun H locs hP hD hS => ?_)
        refine lv_aload_n hx hb dX7_addGuard_68 rfl (lv_at hl 0 rfl) ?_
        refine va_get (D := D) (ci := 7) (v := .ref (ad 0 0)) (C := RX7) (T := TX7) (N := 5) hx hb hts wsI_X7 hown hK hP 0 rfl rfl 0 (by decide) (hts _ w_fl_X7_10) (fun _ h9 => h9) rfl dX7_addGuard_69 ?_
        refine va_get (D := D) (ci := 5) (v := .ref (ad 0 10)) (C := RX5) (T := TX5) (N := 13) hx hb hts wsI_X5 hown hK hP 1 rfl rfl 11 (by decide) (hts _ w_fl_X7_116) (fun _ h9 => h9) rfl dX7_addGuard_72 ?_
        refine lv_iload_n hx hb dX7_addGuard_75 rfl (lv_at hl 1 rfl) ?_
        refine lv_iload_n hx hb dX7_addGuard_76 rfl (lv_at hl 2 rfl) ?_
        refine lv_iload_n hx hb dX7_addGuard_77 rfl (lv_at hl 3 rfl) ?_
        refine z_callV (wn := ((camW ad) ++ (macW cs (ad 0) (upd S 8 ((S 8) + 1)) (zU (zU (zU F 7 (upd (F 7) (S 8).toNatClampNeg g)) 8 (upd (F 8) (S 8).toNatClampNeg o)) 9 (upd (F 9) (S 8).toNatClampNeg bd))) ++ (hisW cs (ad 4) kd (upd (upd HS 0 (nI (hNx p))) 1 (nI (min (n + 1) 4)))) ++ (macW cs (kd 0) (kup KS (hNx p) S 0) (kup KF (hNx p) F 0)) ++ (macW cs (kd 1) (kup KS (hNx p) S 1) (kup KF (hNx p) F 1)) ++ (macW cs (kd 2) (kup KS (hNx p) S 2) (kup KF (hNx p) F 2)) ++ (macW cs (kd 3) (kup KS (hNx p) S 3) (kup KF (hNx p) F 3)))) ⟨hx, hb, hml, hown, hts⟩ zY_X3_putLast w_im_yX3_putLast w_se_yX3_putLast w_ml_X7_130 [.int g, .int o, .int bd] [] (c_X3_putLast l D cs (ad 0) S F g o bd ⟨hg0, z_lt4 c_3⟩) hE hK hA hP hD hS [11, 12, 13, 14] rfl rfl rfl rfl 3 rfl rfl rfl rfl hl.1 (Nat.le_of_ble_eq_true rfl) ⟨Nat.le_of_ble_eq_true rfl, Nat.le_of_ble_eq_true rfl⟩ ⟨Nat.le_of_ble_eq_true rfl, Nat.le_of_ble_eq_true rfl⟩ dX7_addGuard_78 (fun H locs hP hD hS => ?_)
        exact z_iret hx hb hr hlk hK hP hD hS dX7_addGuard_81 rfl rfl
      · skip
        exact absurd hq3 c_3
    · skip
      have c_2 := bI_0.mp c_2
      exact absurd hq2.2 c_2

set_option maxHeartbeats 4000000 in
set_option maxRecDepth 100000 in
theorem c_X7_removeGuard_ok (l : Launch) (D : va_G) (cs : zCs) (ad : Nat → Nat → Nat) (S : Nat → Int32) (F : Nat → Nat → Int32) (kd : Nat → Nat → Nat) (HS : Nat → Int32) (KS : Nat → Nat → Int32) (KF : Nat → Nat → Nat → Int32) (p n : Nat) (g : Int32) (gn : Nat) (hp : HS 0 = nI p) (hp4 : p < 4) (hn : HS 1 = nI n) (hn4 : n ≤ 4) (hS8 : S 8 = nI gn) (hg4 : gn ≤ 4) (hq0 : 0 ≤ g ∧ g ≤ zmin (S 8) 4 - 1) : zM l D cs yX7_removeGuard cX7_removeGuard 2 (some FieldType.int) 7 154 0 0 [.ref (ad 3 0), .int g] ((camW ad) ++ (macW cs (ad 0) S F) ++ (hisW cs (ad 4) kd HS) ++ (macW cs (kd 0) (KS 0) (KF 0)) ++ (macW cs (kd 1) (KS 1) (KF 1)) ++ (macW cs (kd 2) (KS 2) (KF 2)) ++ (macW cs (kd 3) (KS 3) (KF 3))) (some (.int (nI (gn - 1)))) ((camW ad) ++ (macW cs (ad 0) (upd S 8 (nI (gn - 1))) (zU (zU (zU F 7 (toF (gn - 1 - nN g) (nN g) F 7)) 8 (toF (gn - 1 - nN g) (nN g) F 8)) 9 (toF (gn - 1 - nN g) (nN g) F 9))) ++ (hisW cs (ad 4) kd (upd (upd HS 0 (nI (hNx p))) 1 (nI (min (n + 1) 4)))) ++ (macW cs (kd 0) (kup KS (hNx p) S 0) (kup KF (hNx p) F 0)) ++ (macW cs (kd 1) (kup KS (hNx p) S 1) (kup KF (hNx p) F 1)) ++ (macW cs (kd 2) (kup KS (hNx p) S 2) (kup KF (hNx p) F 2)) ++ (macW cs (kd 3) (kup KS (hNx p) S 3) (kup KF (hNx p) F 3))) := by
  refine zM.of (own := RX7) (by decide) (Nat.le_of_ble_eq_true rfl) rfl ?_
  intro pq eq s mq below meth cq A ls hx hb hr hml hown hts hlk hnm hE hK hA hP hD hS hl
  have hl : lv_has ls 2 [(0, .ref (ad 3 0)), (1, .int g)] := hl
  refine lv_aload_n hx hb dX7_removeGuard_0 rfl (lv_at hl 0 rfl) ?_
  refine lv_iload_n hx hb dX7_removeGuard_1 rfl (lv_at hl 1 rfl) ?_
  refine z_callV (wn := ((camW ad) ++ (macW cs (ad 0) S F) ++ (hisW cs (ad 4) kd HS) ++ (macW cs (kd 0) (KS 0) (KF 0)) ++ (macW cs (kd 1) (KS 1) (KF 1)) ++ (macW cs (kd 2) (KS 2) (KF 2)) ++ (macW cs (kd 3) (KS 3) (KF 3)))) ⟨hx, hb, hml, hown, hts⟩ zY_X7_requireGuard w_im_yX7_requireGuard w_se_yX7_requireGuard w_ml_X7_134 [.int g] [] (c_X7_requireGuard_ok l D cs ad S F g hq0) hE hK hA hP hD hS [0, 1, 2, 3, 4, 5, 6, 7, 8, 9, 10, 11, 12, 13, 14, 15, 16, 17] rfl rfl rfl rfl 7 rfl rfl rfl rfl hl.1 (Nat.le_of_ble_eq_true rfl) ⟨Nat.le_of_ble_eq_true rfl, Nat.le_of_ble_eq_true rfl⟩ ⟨Nat.le_of_ble_eq_true rfl, Nat.le_of_ble_eq_true rfl⟩ dX7_removeGuard_2 (fun H locs hP hD hS => ?_)
  obtain ⟨k, hk, rfl⟩ := z_natG hS8 hg4 hq0
  have hNk := nN_nI (k := k) (by omega)
  refine lv_aload_n hx hb dX7_removeGuard_5 rfl (lv_at hl 0 rfl) ?_
  refine va_get (D := D) (ci := 7) (v := .ref (ad 4 0)) (C := RX7) (T := TX7) (N := 5) hx hb hts wsI_X7 hown hK hP 0 rfl rfl 1 (by decide) (hts _ w_fl_X7_19) (fun _ h9 => h9) rfl dX7_removeGuard_6 ?_
  refine lv_aload_n hx hb dX7_removeGuard_9 rfl (lv_at hl 0 rfl) ?_
  refine va_get (D := D) (ci := 7) (v := .ref (ad 0 0)) (C := RX7) (T := TX7) (N := 5) hx hb hts wsI_X7 hown hK hP 0 rfl rfl 0 (by decide) (hts _ w_fl_X7_10) (fun _ h9 => h9) rfl dX7_removeGuard_10 ?_
  refine z_callV (wn := ((camW ad) ++ (macW cs (ad 0) S F) ++ (hisW cs (ad 4) kd (upd (upd HS 0 (nI (hNx p))) 1 (nI (min (n + 1) 4)))) ++ (macW cs (kd 0) (kup KS (hNx p) S 0) (kup KF (hNx p) F 0)) ++ (macW cs (kd 1) (kup KS (hNx p) S 1) (kup KF (hNx p) F 1)) ++ (macW cs (kd 2) (kup KS (hNx p) S 2) (kup KF (hNx p) F 2)) ++ (macW cs (kd 3) (kup KS (hNx p) S 3) (kup KF (hNx p) F 3)))) ⟨hx, hb, hml, hown, hts⟩ zY_X4_save w_im_yX4_save w_se_yX4_save w_ml_X7_43 [.ref (ad 0 0)] [] (c_X4_save l D cs (ad 4) (ad 0) kd HS KS KF S F p n hp hp4 hn hn4) hE hK hA hP hD hS [18, 19, 20, 21, 22, 23, 24, 25, 26, 27, 28, 29, 30, 31, 32, 33, 34, 35, 36, 37, 38, 39, 40, 41, 42, 43, 44, 45, 46, 47, 48, 49, 50, 51, 52, 53, 54, 55, 56, 57, 58, 59, 60, 61, 62, 63, 64, 65, 66, 67, 68, 69, 70, 71, 72, 73, 74, 75, 76, 77, 78, 79, 80, 81, 82, 83, 84, 85, 86, 87, 1, 2, 3, 4, 5, 6, 7, 8, 9, 10, 11, 12, 13, 14, 15, 16, 17] rfl rfl rfl rfl 4 rfl rfl rfl rfl hl.1 (Nat.le_of_ble_eq_true rfl) ⟨Nat.le_of_ble_eq_true rfl, Nat.le_of_ble_eq_true rfl⟩ ⟨Nat.le_of_ble_eq_true rfl, Nat.le_of_ble_eq_true rfl⟩ dX7_removeGuard_13 (fun H locs hP hD hS => ?_)
  refine lv_aload_n hx hb dX7_removeGuard_16 rfl (lv_at hl 0 rfl) ?_
  refine va_get (D := D) (ci := 7) (v := .ref (ad 0 0)) (C := RX7) (T := TX7) (N := 5) hx hb hts wsI_X7 hown hK hP 0 rfl rfl 0 (by decide) (hts _ w_fl_X7_10) (fun _ h9 => h9) rfl dX7_removeGuard_17 ?_
  refine va_get (D := D) (ci := 5) (v := .ref (ad 0 10)) (C := RX5) (T := TX5) (N := 13) hx hb hts wsI_X5 hown hK hP 1 rfl rfl 11 (by decide) (hts _ w_fl_X7_116) (fun _ h9 => h9) rfl dX7_removeGuard_20 ?_
  refine lv_iload_n hx hb dX7_removeGuard_23 rfl (lv_at hl 1 rfl) ?_
  refine z_callV (wn := ((camW ad) ++ (macW cs (ad 0) (upd S 8 (nI (gn - 1))) (zU (zU (zU F 7 (toF (gn - 1 - k) k F 7)) 8 (toF (gn - 1 - k) k F 8)) 9 (toF (gn - 1 - k) k F 9))) ++ (hisW cs (ad 4) kd (upd (upd HS 0 (nI (hNx p))) 1 (nI (min (n + 1) 4)))) ++ (macW cs (kd 0) (kup KS (hNx p) S 0) (kup KF (hNx p) F 0)) ++ (macW cs (kd 1) (kup KS (hNx p) S 1) (kup KF (hNx p) F 1)) ++ (macW cs (kd 2) (kup KS (hNx p) S 2) (kup KF (hNx p) F 2)) ++ (macW cs (kd 3) (kup KS (hNx p) S 3) (kup KF (hNx p) F 3)))) ⟨hx, hb, hml, hown, hts⟩ zY_X3_takeOut w_im_yX3_takeOut w_se_yX3_takeOut w_ml_X7_137 [.int (nI k)] [] (c_X3_takeOut l D cs (ad 0) S F k gn hS8 hk hg4) hE hK hA hP hD hS [11, 12, 13, 14] rfl rfl rfl rfl 3 rfl rfl rfl rfl hl.1 (Nat.le_of_ble_eq_true rfl) ⟨Nat.le_of_ble_eq_true rfl, Nat.le_of_ble_eq_true rfl⟩ ⟨Nat.le_of_ble_eq_true rfl, Nat.le_of_ble_eq_true rfl⟩ dX7_removeGuard_24 (fun H locs hP hD hS => ?_)
  refine lv_aload_n hx hb dX7_removeGuard_27 rfl (lv_at hl 0 rfl) ?_
  refine va_get (D := D) (ci := 7) (v := .ref (ad 0 0)) (C := RX7) (T := TX7) (N := 5) hx hb hts wsI_X7 hown hK hP 0 rfl rfl 0 (by decide) (hts _ w_fl_X7_10) (fun _ h9 => h9) rfl dX7_removeGuard_28 ?_
  refine va_get (D := D) (ci := 5) (v := .ref (ad 0 10)) (C := RX5) (T := TX5) (N := 13) hx hb hts wsI_X5 hown hK hP 1 rfl rfl 11 (by decide) (hts _ w_fl_X7_116) (fun _ h9 => h9) rfl dX7_removeGuard_31 ?_
  refine va_get (D := D) (ci := 3) (v := .int (nI (gn - 1))) (C := RX3) (T := TX3) (N := 4) hx hb hts wsI_X3 hown hK hP 11 rfl rfl 3 (by decide) (hts _ w_fl_X7_120) (fun _ h9 => h9) rfl dX7_removeGuard_34 ?_
  exact z_iret hx hb hr hlk hK hP hD hS dX7_removeGuard_37 rfl (by simp only [hNk])

set_option maxHeartbeats 4000000 in
set_option maxRecDepth 100000 in
theorem c_X7_turn_ok (l : Launch) (D : va_G) (cs : zCs) (ad : Nat → Nat → Nat) (S : Nat → Int32) (F : Nat → Nat → Int32) (kd : Nat → Nat → Nat) (HS : Nat → Int32) (KS : Nat → Nat → Int32) (KF : Nat → Nat → Nat → Int32) (p n : Nat) (st : Int32) (hp : HS 0 = nI p) (hp4 : p < 4) (hn : HS 1 = nI n) (hn4 : n ≤ 4) (hq0 : 0 ≤ st ∧ st ≤ (S 0) - 1) : zM l D cs yX7_turn cX7_turn 3 (some FieldType.int) 7 154 0 0 [.ref (ad 3 0), .int st] ((camW ad) ++ (macW cs (ad 0) S F) ++ (hisW cs (ad 4) kd HS) ++ (macW cs (kd 0) (KS 0) (KF 0)) ++ (macW cs (kd 1) (KS 1) (KF 1)) ++ (macW cs (kd 2) (KS 2) (KF 2)) ++ (macW cs (kd 3) (KS 3) (KF 3))) (some (.int (S 1))) ((camW ad) ++ (macW cs (ad 0) (upd (upd S 1 st) 2 0) F) ++ (hisW cs (ad 4) kd (upd (upd HS 0 (nI (hNx p))) 1 (nI (min (n + 1) 4)))) ++ (macW cs (kd 0) (kup KS (hNx p) S 0) (kup KF (hNx p) F 0)) ++ (macW cs (kd 1) (kup KS (hNx p) S 1) (kup KF (hNx p) F 1)) ++ (macW cs (kd 2) (kup KS (hNx p) S 2) (kup KF (hNx p) F 2)) ++ (macW cs (kd 3) (kup KS (hNx p) S 3) (kup KF (hNx p) F 3))) := by
  refine zM.of (own := RX7) (by decide) (Nat.le_of_ble_eq_true rfl) rfl ?_
  intro pq eq s mq below meth cq A ls hx hb hr hml hown hts hlk hnm hE hK hA hP hD hS hl
  have hl : lv_has ls 3 [(0, .ref (ad 3 0)), (1, .int st)] := hl
  refine lv_aload_n hx hb dX7_turn_0 rfl (lv_at hl 0 rfl) ?_
  refine lv_iload_n hx hb dX7_turn_1 rfl (lv_at hl 1 rfl) ?_
  refine z_callV (wn := ((camW ad) ++ (macW cs (ad 0) S F) ++ (hisW cs (ad 4) kd HS) ++ (macW cs (kd 0) (KS 0) (KF 0)) ++ (macW cs (kd 1) (KS 1) (KF 1)) ++ (macW cs (kd 2) (KS 2) (KF 2)) ++ (macW cs (kd 3) (KS 3) (KF 3)))) ⟨hx, hb, hml, hown, hts⟩ zY_X7_requireStep w_im_yX7_requireStep w_se_yX7_requireStep w_ml_X7_40 [.int st] [] (c_X7_requireStep_ok l D cs ad S F st hq0) hE hK hA hP hD hS [0, 1, 2, 3, 4, 5, 6, 7, 8, 9, 10, 11, 12, 13, 14, 15, 16, 17] rfl rfl rfl rfl 7 rfl rfl rfl rfl hl.1 (Nat.le_of_ble_eq_true rfl) ⟨Nat.le_of_ble_eq_true rfl, Nat.le_of_ble_eq_true rfl⟩ ⟨Nat.le_of_ble_eq_true rfl, Nat.le_of_ble_eq_true rfl⟩ dX7_turn_2 (fun H locs hP hD hS => ?_)
  refine lv_aload_n hx hb dX7_turn_5 rfl (lv_at hl 0 rfl) ?_
  refine va_get (D := D) (ci := 7) (v := .ref (ad 4 0)) (C := RX7) (T := TX7) (N := 5) hx hb hts wsI_X7 hown hK hP 0 rfl rfl 1 (by decide) (hts _ w_fl_X7_19) (fun _ h9 => h9) rfl dX7_turn_6 ?_
  refine lv_aload_n hx hb dX7_turn_9 rfl (lv_at hl 0 rfl) ?_
  refine va_get (D := D) (ci := 7) (v := .ref (ad 0 0)) (C := RX7) (T := TX7) (N := 5) hx hb hts wsI_X7 hown hK hP 0 rfl rfl 0 (by decide) (hts _ w_fl_X7_10) (fun _ h9 => h9) rfl dX7_turn_10 ?_
  refine z_callV (wn := ((camW ad) ++ (macW cs (ad 0) S F) ++ (hisW cs (ad 4) kd (upd (upd HS 0 (nI (hNx p))) 1 (nI (min (n + 1) 4)))) ++ (macW cs (kd 0) (kup KS (hNx p) S 0) (kup KF (hNx p) F 0)) ++ (macW cs (kd 1) (kup KS (hNx p) S 1) (kup KF (hNx p) F 1)) ++ (macW cs (kd 2) (kup KS (hNx p) S 2) (kup KF (hNx p) F 2)) ++ (macW cs (kd 3) (kup KS (hNx p) S 3) (kup KF (hNx p) F 3)))) ⟨hx, hb, hml, hown, hts⟩ zY_X4_save w_im_yX4_save w_se_yX4_save w_ml_X7_43 [.ref (ad 0 0)] [] (c_X4_save l D cs (ad 4) (ad 0) kd HS KS KF S F p n hp hp4 hn hn4) hE hK hA hP hD hS [18, 19, 20, 21, 22, 23, 24, 25, 26, 27, 28, 29, 30, 31, 32, 33, 34, 35, 36, 37, 38, 39, 40, 41, 42, 43, 44, 45, 46, 47, 48, 49, 50, 51, 52, 53, 54, 55, 56, 57, 58, 59, 60, 61, 62, 63, 64, 65, 66, 67, 68, 69, 70, 71, 72, 73, 74, 75, 76, 77, 78, 79, 80, 81, 82, 83, 84, 85, 86, 87, 1, 2, 3, 4, 5, 6, 7, 8, 9, 10, 11, 12, 13, 14, 15, 16, 17] rfl rfl rfl rfl 4 rfl rfl rfl rfl hl.1 (Nat.le_of_ble_eq_true rfl) ⟨Nat.le_of_ble_eq_true rfl, Nat.le_of_ble_eq_true rfl⟩ ⟨Nat.le_of_ble_eq_true rfl, Nat.le_of_ble_eq_true rfl⟩ dX7_turn_13 (fun H locs hP hD hS => ?_)
  refine lv_aload_n hx hb dX7_turn_16 rfl (lv_at hl 0 rfl) ?_
  refine va_get (D := D) (ci := 7) (v := .ref (ad 0 0)) (C := RX7) (T := TX7) (N := 5) hx hb hts wsI_X7 hown hK hP 0 rfl rfl 0 (by decide) (hts _ w_fl_X7_10) (fun _ h9 => h9) rfl dX7_turn_17 ?_
  refine va_get (D := D) (ci := 5) (v := .int (S 1)) (C := RX5) (T := TX5) (N := 13) hx hb hts wsI_X5 hown hK hP 1 rfl rfl 1 (by decide) (hts _ w_fl_X7_140) (fun _ h9 => h9) rfl dX7_turn_20 ?_
  refine lv_istore_n (lv' := [(2, .int (S 1)), (0, .ref (ad 3 0)), (1, .int st)]) hx hb dX7_turn_23 rfl hl (by decide) rfl (fun ls hl => ?_)
  refine lv_aload_n hx hb dX7_turn_24 rfl (lv_at hl 1 rfl) ?_
  refine va_get (D := D) (ci := 7) (v := .ref (ad 0 0)) (C := RX7) (T := TX7) (N := 5) hx hb hts wsI_X7 hown hK hP 0 rfl rfl 0 (by decide) (hts _ w_fl_X7_10) (fun _ h9 => h9) rfl dX7_turn_25 ?_
  refine lv_iload_n hx hb dX7_turn_28 rfl (lv_at hl 2 rfl) ?_
  refine z_callV (wn := ((camW ad) ++ (macW cs (ad 0) (upd (upd S 1 st) 2 0) F) ++ (hisW cs (ad 4) kd (upd (upd HS 0 (nI (hNx p))) 1 (nI (min (n + 1) 4)))) ++ (macW cs (kd 0) (kup KS (hNx p) S 0) (kup KF (hNx p) F 0)) ++ (macW cs (kd 1) (kup KS (hNx p) S 1) (kup KF (hNx p) F 1)) ++ (macW cs (kd 2) (kup KS (hNx p) S 2) (kup KF (hNx p) F 2)) ++ (macW cs (kd 3) (kup KS (hNx p) S 3) (kup KF (hNx p) F 3)))) ⟨hx, hb, hml, hown, hts⟩ zY_X5_standAt w_im_yX5_standAt w_se_yX5_standAt w_ml_X7_143 [.int st] [] (c_X5_standAt l D cs (ad 0) S F st) hE hK hA hP hD hS [1, 2, 3, 4, 5, 6, 7, 8, 9, 10, 11, 12, 13, 14, 15, 16, 17] rfl rfl rfl rfl 5 rfl rfl rfl rfl hl.1 (Nat.le_of_ble_eq_true rfl) ⟨Nat.le_of_ble_eq_true rfl, Nat.le_of_ble_eq_true rfl⟩ ⟨Nat.le_of_ble_eq_true rfl, Nat.le_of_ble_eq_true rfl⟩ dX7_turn_29 (fun H locs hP hD hS => ?_)
  refine lv_iload_n hx hb dX7_turn_32 rfl (lv_at hl 0 rfl) ?_
  exact z_iret hx hb hr hlk hK hP hD hS dX7_turn_33 rfl rfl

set_option maxHeartbeats 4000000 in
set_option maxRecDepth 100000 in
theorem c_X7_run_ok (l : Launch) (D : va_G) (cs : zCs) (ad : Nat → Nat → Nat) (S : Nat → Int32) (F : Nat → Nat → Int32) (kd : Nat → Nat → Nat) (HS : Nat → Int32) (KS : Nat → Nat → Int32) (KF : Nat → Nat → Nat → Int32) (p n : Nat) (tk : Int32) (hp : HS 0 = nI p) (hp4 : p < 4) (hn : HS 1 = nI n) (hn4 : n ≤ 4) (hq0 : 1 ≤ tk ∧ tk ≤ 500) (hq1 : (S 9) + tk ≤ 100000) : zM l D cs yX7_run cX7_run 4 (some FieldType.int) 6 154 0 0 [.ref (ad 3 0), .int tk] ((camW ad) ++ (macW cs (ad 0) S F) ++ (hisW cs (ad 4) kd HS) ++ (macW cs (kd 0) (KS 0) (KF 0)) ++ (macW cs (kd 1) (KS 1) (KF 1)) ++ (macW cs (kd 2) (KS 2) (KF 2)) ++ (macW cs (kd 3) (KS 3) (KF 3))) (some (.int ((tkN (S, F) (nN tk)).1 10 - (S 10)))) ((camW ad) ++ (macW cs (ad 0) ((tkN (S, F) (nN tk)).1) ((tkN (S, F) (nN tk)).2)) ++ (hisW cs (ad 4) kd (upd (upd HS 0 (nI (hNx p))) 1 (nI (min (n + 1) 4)))) ++ (macW cs (kd 0) (kup KS (hNx p) S 0) (kup KF (hNx p) F 0)) ++ (macW cs (kd 1) (kup KS (hNx p) S 1) (kup KF (hNx p) F 1)) ++ (macW cs (kd 2) (kup KS (hNx p) S 2) (kup KF (hNx p) F 2)) ++ (macW cs (kd 3) (kup KS (hNx p) S 3) (kup KF (hNx p) F 3))) := by
  refine zM.of (own := RX7) (by decide) (Nat.le_of_ble_eq_true rfl) rfl ?_
  intro pq eq s mq below meth cq A ls hx hb hr hml hown hts hlk hnm hE hK hA hP hD hS hl
  have hl : lv_has ls 4 [(0, .ref (ad 3 0)), (1, .int tk)] := hl
  refine lv_iload_n hx hb dX7_run_0 rfl (lv_at hl 1 rfl) ?_
  refine lv_iconst (v := 1) hx hb dX7_run_1 (by decide) ?_
  refine lv_sipush (v := 500) hx hb dX7_run_2 (by decide) ?_
  refine z_callS (wn := ((camW ad) ++ (macW cs (ad 0) S F) ++ (hisW cs (ad 4) kd HS) ++ (macW cs (kd 0) (KS 0) (KF 0)) ++ (macW cs (kd 1) (KS 1) (KF 1)) ++ (macW cs (kd 2) (KS 2) (KF 2)) ++ (macW cs (kd 3) (KS 3) (KF 3)))) ⟨hx, hb, hml, hown, hts⟩ zY_X7_within w_st_yX7_within w_ml_X7_55 [.int tk, .int 1, .int 500] [] (c_X7_within l D cs tk 1 500) hE hK hA hP hD hS [] rfl rfl rfl z_ins_nil rfl hl.1 (Nat.le_of_ble_eq_true rfl) ⟨Nat.le_of_ble_eq_true rfl, Nat.le_of_ble_eq_true rfl⟩ ⟨Nat.le_of_ble_eq_true rfl, Nat.le_of_ble_eq_true rfl⟩ dX7_run_5 (fun H locs hP hD hS => ?_)
  refine lv_if_ne (tgt := 21) hx hb dX7_run_8 (by decide) (fun c_1 => ?_) (fun c_1 => ?_)
  · skip
    have c_1 := bI_n0 c_1
    refine lv_aload_n hx hb dX7_run_21 rfl (lv_at hl 0 rfl) ?_
    refine va_get (D := D) (ci := 7) (v := .ref (ad 0 0)) (C := RX7) (T := TX7) (N := 5) hx hb hts wsI_X7 hown hK hP 0 rfl rfl 0 (by decide) (hts _ w_fl_X7_10) (fun _ h9 => h9) rfl dX7_run_22 ?_
    refine va_get (D := D) (ci := 5) (v := .int (S 9)) (C := RX5) (T := TX5) (N := 13) hx hb hts wsI_X5 hown hK hP 1 rfl rfl 5 (by decide) (hts _ w_fl_X7_148) (fun _ h9 => h9) rfl dX7_run_25 ?_
    refine lv_iload_n hx hb dX7_run_28 rfl (lv_at hl 1 rfl) ?_
    refine lv_iadd hx hb dX7_run_29 ?_
    refine lv_ldc (v := 100000) hx hb hown (hts _ w_ct_X7_151) dX7_run_30 ?_
    refine lv_icmp_le (tgt := 45) hx hb dX7_run_32 (by decide) (fun c_2 => ?_) (fun c_2 => ?_)
    · skip
      obtain ⟨T, hT, rfl⟩ := z_nat500 c_1
      have hNT := nN_nI (k := T) (by omega)
      refine lv_aload_n hx hb dX7_run_45 rfl (lv_at hl 0 rfl) ?_
      refine va_get (D := D) (ci := 7) (v := .ref (ad 4 0)) (C := RX7) (T := TX7) (N := 5) hx hb hts wsI_X7 hown hK hP 0 rfl rfl 1 (by decide) (hts _ w_fl_X7_19) (fun _ h9 => h9) rfl dX7_run_46 ?_
      refine lv_aload_n hx hb dX7_run_49 rfl (lv_at hl 0 rfl) ?_
      refine va_get (D := D) (ci := 7) (v := .ref (ad 0 0)) (C := RX7) (T := TX7) (N := 5) hx hb hts wsI_X7 hown hK hP 0 rfl rfl 0 (by decide) (hts _ w_fl_X7_10) (fun _ h9 => h9) rfl dX7_run_50 ?_
      refine z_callV (wn := ((camW ad) ++ (macW cs (ad 0) S F) ++ (hisW cs (ad 4) kd (upd (upd HS 0 (nI (hNx p))) 1 (nI (min (n + 1) 4)))) ++ (macW cs (kd 0) (kup KS (hNx p) S 0) (kup KF (hNx p) F 0)) ++ (macW cs (kd 1) (kup KS (hNx p) S 1) (kup KF (hNx p) F 1)) ++ (macW cs (kd 2) (kup KS (hNx p) S 2) (kup KF (hNx p) F 2)) ++ (macW cs (kd 3) (kup KS (hNx p) S 3) (kup KF (hNx p) F 3)))) ⟨hx, hb, hml, hown, hts⟩ zY_X4_save w_im_yX4_save w_se_yX4_save w_ml_X7_43 [.ref (ad 0 0)] [] (c_X4_save l D cs (ad 4) (ad 0) kd HS KS KF S F p n hp hp4 hn hn4) hE hK hA hP hD hS [18, 19, 20, 21, 22, 23, 24, 25, 26, 27, 28, 29, 30, 31, 32, 33, 34, 35, 36, 37, 38, 39, 40, 41, 42, 43, 44, 45, 46, 47, 48, 49, 50, 51, 52, 53, 54, 55, 56, 57, 58, 59, 60, 61, 62, 63, 64, 65, 66, 67, 68, 69, 70, 71, 72, 73, 74, 75, 76, 77, 78, 79, 80, 81, 82, 83, 84, 85, 86, 87, 1, 2, 3, 4, 5, 6, 7, 8, 9, 10, 11, 12, 13, 14, 15, 16, 17] rfl rfl rfl rfl 4 rfl rfl rfl rfl hl.1 (Nat.le_of_ble_eq_true rfl) ⟨Nat.le_of_ble_eq_true rfl, Nat.le_of_ble_eq_true rfl⟩ ⟨Nat.le_of_ble_eq_true rfl, Nat.le_of_ble_eq_true rfl⟩ dX7_run_53 (fun H locs hP hD hS => ?_)
      refine lv_aload_n hx hb dX7_run_56 rfl (lv_at hl 0 rfl) ?_
      refine va_get (D := D) (ci := 7) (v := .ref (ad 0 0)) (C := RX7) (T := TX7) (N := 5) hx hb hts wsI_X7 hown hK hP 0 rfl rfl 0 (by decide) (hts _ w_fl_X7_10) (fun _ h9 => h9) rfl dX7_run_57 ?_
      refine va_get (D := D) (ci := 5) (v := .int (S 10)) (C := RX5) (T := TX5) (N := 13) hx hb hts wsI_X5 hown hK hP 1 rfl rfl 6 (by decide) (hts _ w_fl_X7_154) (fun _ h9 => h9) rfl dX7_run_60 ?_
      refine lv_istore_n (lv' := [(2, .int (S 10)), (0, .ref (ad 3 0)), (1, .int (nI T))]) hx hb dX7_run_63 rfl hl (by decide) rfl (fun ls hl => ?_)
      refine lv_iconst (v := 0) hx hb dX7_run_64 (by decide) ?_
      refine lv_istore_n (lv' := [(3, .int 0), (2, .int (S 10)), (0, .ref (ad 3 0)), (1, .int (nI T))]) hx hb dX7_run_65 rfl hl (by decide) rfl (fun ls hl => ?_)
      have lp66 : ∀ (k : Nat) (i : Nat), (i ≤ T) → (T + 1 ≤ i + k) → ∀ (H : Heap) (locs : List Loc) (ls : Array Slot), va_P D vwCl ((camW ad) ++ (macW cs (ad 0) ((tkN (S, F) i).1) ((tkN (S, F) i).2)) ++ (hisW cs (ad 4) kd (upd (upd HS 0 (nI (hNx p))) 1 (nI (min (n + 1) 4)))) ++ (macW cs (kd 0) (kup KS (hNx p) S 0) (kup KF (hNx p) F 0)) ++ (macW cs (kd 1) (kup KS (hNx p) S 1) (kup KF (hNx p) F 1)) ++ (macW cs (kd 2) (kup KS (hNx p) S 2) (kup KF (hNx p) F 2)) ++ (macW cs (kd 3) (kup KS (hNx p) S 3) (kup KF (hNx p) F 3))) H → va_D A ((camW ad) ++ (macW cs (ad 0) ((tkN (S, F) i).1) ((tkN (S, F) i).2)) ++ (hisW cs (ad 4) kd (upd (upd HS 0 (nI (hNx p))) 1 (nI (min (n + 1) 4)))) ++ (macW cs (kd 0) (kup KS (hNx p) S 0) (kup KF (hNx p) F 0)) ++ (macW cs (kd 1) (kup KS (hNx p) S 1) (kup KF (hNx p) F 1)) ++ (macW cs (kd 2) (kup KS (hNx p) S 2) (kup KF (hNx p) F 2)) ++ (macW cs (kd 3) (kup KS (hNx p) S 3) (kup KF (hNx p) F 3))) → va_S A s.heap H locs → lv_has ls 4 [(0, .ref (ad 3 0)), (1, .int (nI T)), (2, .int (S 10)), (3, .int (nI i))] → W pq l eq ({ frames := 6, cells := 0, slots := 0, locals := 154 } : Room) s mq ([.ref (ad 3 0), .int (nI T)] : List Value).toArray below meth cq H locs 0 0 (MQ below (zQ D cs (some (.int ((tkN (S, F) (nN (nI T))).1 10 - (S 10)))) ((camW ad) ++ (macW cs (ad 0) ((tkN (S, F) (nN (nI T))).1) ((tkN (S, F) (nN (nI T))).2)) ++ (hisW cs (ad 4) kd (upd (upd HS 0 (nI (hNx p))) 1 (nI (min (n + 1) 4)))) ++ (macW cs (kd 0) (kup KS (hNx p) S 0) (kup KF (hNx p) F 0)) ++ (macW cs (kd 1) (kup KS (hNx p) S 1) (kup KF (hNx p) F 1)) ++ (macW cs (kd 2) (kup KS (hNx p) S 2) (kup KF (hNx p) F 2)) ++ (macW cs (kd 3) (kup KS (hNx p) S 3) (kup KF (hNx p) F 3))) A) ([.ref (ad 3 0), .int (nI T)] : List Value).toArray s 0 0 A) (F0 mq 66 ls []) := by
        intro k
        induction k with
        | zero =>
          intro i h1 h2 H locs ls hP hD hS hl
          omega
        | succ k ih =>
          intro i h1 h2 H locs ls hP hD hS hl
          refine lv_iload_n hx hb dX7_run_66 rfl (lv_at hl 3 rfl) ?_
          refine lv_iload_n hx hb dX7_run_67 rfl (lv_at hl 1 rfl) ?_
          refine lv_icmp_ge (tgt := 85) hx hb dX7_run_68 (by decide) (fun c_3 => ?_) (fun c_3 => ?_)
          · skip
            refine lv_aload_n hx hb dX7_run_85 rfl (lv_at hl 0 rfl) ?_
            refine va_get (D := D) (ci := 7) (v := .ref (ad 0 0)) (C := RX7) (T := TX7) (N := 5) hx hb hts wsI_X7 hown hK hP 0 rfl rfl 0 (by decide) (hts _ w_fl_X7_10) (fun _ h9 => h9) rfl dX7_run_86 ?_
            refine va_get (D := D) (ci := 5) (v := .int (((tkN (S, F) i).1) 10)) (C := RX5) (T := TX5) (N := 13) hx hb hts wsI_X5 hown hK hP 1 rfl rfl 6 (by decide) (hts _ w_fl_X7_154) (fun _ h9 => h9) rfl dX7_run_89 ?_
            refine lv_iload_n hx hb dX7_run_92 rfl (lv_at hl 2 rfl) ?_
            refine lv_isub hx hb dX7_run_93 ?_
            have h5 : T = i := by have := (nI_leI (by omega) (by omega)).mp c_3; omega
            exact z_iret hx hb hr hlk hK hP hD hS dX7_run_94 (by subst h5; simp only [hNT]) (by subst h5; simp only [hNT])
          · skip
            have h4 : i < T := Nat.lt_of_not_le (fun h => c_3 ((nI_leI (by omega) (by omega)).mpr h))
            refine lv_aload_n hx hb dX7_run_71 rfl (lv_at hl 0 rfl) ?_
            refine va_get (D := D) (ci := 7) (v := .ref (ad 0 0)) (C := RX7) (T := TX7) (N := 5) hx hb hts wsI_X7 hown hK hP 0 rfl rfl 0 (by decide) (hts _ w_fl_X7_10) (fun _ h9 => h9) rfl dX7_run_72 ?_
            refine z_callV (wn := ((camW ad) ++ (macW cs (ad 0) ((tkP (((tkN (S, F) i).1), ((tkN (S, F) i).2))).1) ((tkP (((tkN (S, F) i).1), ((tkN (S, F) i).2))).2)) ++ (hisW cs (ad 4) kd (upd (upd HS 0 (nI (hNx p))) 1 (nI (min (n + 1) 4)))) ++ (macW cs (kd 0) (kup KS (hNx p) S 0) (kup KF (hNx p) F 0)) ++ (macW cs (kd 1) (kup KS (hNx p) S 1) (kup KF (hNx p) F 1)) ++ (macW cs (kd 2) (kup KS (hNx p) S 2) (kup KF (hNx p) F 2)) ++ (macW cs (kd 3) (kup KS (hNx p) S 3) (kup KF (hNx p) F 3)))) ⟨hx, hb, hml, hown, hts⟩ zY_X5_tick w_im_yX5_tick w_se_yX5_tick w_ml_X7_157 [] [] (c_X5_tick l D cs (ad 0) ((tkN (S, F) i).1) ((tkN (S, F) i).2)) hE hK hA hP hD hS [1, 2, 3, 4, 5, 6, 7, 8, 9, 10, 11, 12, 13, 14, 15, 16, 17] rfl rfl rfl rfl 5 rfl rfl rfl rfl hl.1 (Nat.le_of_ble_eq_true rfl) ⟨Nat.le_of_ble_eq_true rfl, Nat.le_of_ble_eq_true rfl⟩ ⟨Nat.le_of_ble_eq_true rfl, Nat.le_of_ble_eq_true rfl⟩ dX7_run_75 (fun H locs hP hD hS => ?_)
            refine lv_pop hx hb dX7_run_78 rfl ?_
            refine lv_iinc (v := nI (i + 1)) (lv' := [(3, .int (nI (i + 1))), (0, .ref (ad 3 0)), (1, .int (nI T)), (2, .int (S 10))]) hx hb dX7_run_79 hl (k := 3) rfl (show nI i + Int32.ofInt 1 = nI (i + 1) from nI_add i 1) (by decide) rfl (fun ls hl => ?_)
            refine lv_goto (tgt := 66) hx hb dX7_run_82 (by decide) ?_
            exact ih (i + 1) (by omega) (by omega) _ _ _ hP hD hS (lv_sub hl [1, 2, 3, 0] rfl)
      exact lp66 (T + 1) 0 (Nat.zero_le T) (by omega) _ _ _ hP hD hS (lv_sub hl [2, 3, 1, 0] rfl)
    · skip
      exact absurd hq1 c_2
  · skip
    have c_1 := bI_0.mp c_1
    exact absurd hq0 c_1

set_option maxHeartbeats 4000000 in
set_option maxRecDepth 100000 in
theorem c_X7_cam_ok (l : Launch) (D : va_G) (cs : zCs) (ad : Nat → Nat → Nat) (S : Nat → Int32) (F : Nat → Nat → Int32) (tr st : Int32) (hq0 : 0 ≤ tr ∧ tr ≤ 4) (hq1 : 0 ≤ st ∧ st ≤ (S 0) - 1) : zM l D cs yX7_cam cX7_cam 3 (some FieldType.boolean) 7 103 0 0 [.ref (ad 3 0), .int tr, .int st] ((camW ad) ++ (macW cs (ad 0) S F)) (some (.int (bI (hasC F (nN tr) st)))) ((camW ad) ++ (macW cs (ad 0) S F)) := by
  refine zM.of (own := RX7) (by decide) (Nat.le_of_ble_eq_true rfl) rfl ?_
  intro pq eq s mq below meth cq A ls hx hb hr hml hown hts hlk hnm hE hK hA hP hD hS hl
  have hl : lv_has ls 3 [(0, .ref (ad 3 0)), (1, .int tr), (2, .int st)] := hl
  refine lv_iload_n hx hb dX7_cam_0 rfl (lv_at hl 1 rfl) ?_
  refine z_callS (wn := ((camW ad) ++ (macW cs (ad 0) S F))) ⟨hx, hb, hml, hown, hts⟩ zY_X7_requireCylinder w_st_yX7_requireCylinder w_ml_X7_36 [.int tr] [] (c_X7_requireCylinder_ok l D cs tr hq0) hE hK hA hP hD hS [] rfl rfl rfl z_ins_nil rfl hl.1 (Nat.le_of_ble_eq_true rfl) ⟨Nat.le_of_ble_eq_true rfl, Nat.le_of_ble_eq_true rfl⟩ ⟨Nat.le_of_ble_eq_true rfl, Nat.le_of_ble_eq_true rfl⟩ dX7_cam_1 (fun H locs hP hD hS => ?_)
  refine lv_aload_n hx hb dX7_cam_4 rfl (lv_at hl 0 rfl) ?_
  refine lv_iload_n hx hb dX7_cam_5 rfl (lv_at hl 2 rfl) ?_
  refine z_callV (wn := ((camW ad) ++ (macW cs (ad 0) S F))) ⟨hx, hb, hml, hown, hts⟩ zY_X7_requireStep w_im_yX7_requireStep w_se_yX7_requireStep w_ml_X7_40 [.int st] [] (c_X7_requireStep_ok l D cs ad S F st hq1) hE hK hA hP hD hS [0, 1, 2, 3, 4, 5, 6, 7, 8, 9, 10, 11, 12, 13, 14, 15, 16, 17] rfl rfl rfl rfl 7 rfl rfl rfl rfl hl.1 (Nat.le_of_ble_eq_true rfl) ⟨Nat.le_of_ble_eq_true rfl, Nat.le_of_ble_eq_true rfl⟩ ⟨Nat.le_of_ble_eq_true rfl, Nat.le_of_ble_eq_true rfl⟩ dX7_cam_6 (fun H locs hP hD hS => ?_)
  obtain ⟨k, hk, rfl⟩ := z_nat4 hq0
  have hNk := nN_nI (k := k) (by omega)
  refine lv_aload_n hx hb dX7_cam_9 rfl (lv_at hl 0 rfl) ?_
  refine va_get (D := D) (ci := 7) (v := .ref (ad 0 0)) (C := RX7) (T := TX7) (N := 5) hx hb hts wsI_X7 hown hK hP 0 rfl rfl 0 (by decide) (hts _ w_fl_X7_10) (fun _ h9 => h9) rfl dX7_cam_10 ?_
  refine lv_iload_n hx hb dX7_cam_13 rfl (lv_at hl 1 rfl) ?_
  refine lv_iload_n hx hb dX7_cam_14 rfl (lv_at hl 2 rfl) ?_
  refine z_callV (wn := ((camW ad) ++ (macW cs (ad 0) S F))) ⟨hx, hb, hml, hown, hts⟩ zY_X5_hasCam w_im_yX5_hasCam w_se_yX5_hasCam w_ml_X7_161 [.int (nI k), .int st] [] (c_X5_hasCam l D cs (ad 0) S F k st hk) hE hK hA hP hD hS [1, 2, 3, 4, 5, 6, 7, 8, 9, 10, 11, 12, 13, 14, 15, 16, 17] rfl rfl rfl rfl 5 rfl rfl rfl rfl hl.1 (Nat.le_of_ble_eq_true rfl) ⟨Nat.le_of_ble_eq_true rfl, Nat.le_of_ble_eq_true rfl⟩ ⟨Nat.le_of_ble_eq_true rfl, Nat.le_of_ble_eq_true rfl⟩ dX7_cam_15 (fun H locs hP hD hS => ?_)
  exact z_zret hx hb hr hlk hK hP hD hS dX7_cam_18 bI_nar (by simp only [hNk]) rfl

set_option maxHeartbeats 4000000 in
set_option maxRecDepth 100000 in
theorem c_X7_cylinder_ok (l : Launch) (D : va_G) (cs : zCs) (ad : Nat → Nat → Nat) (S : Nat → Int32) (F : Nat → Nat → Int32) (cy wh : Int32) (hq0 : 0 ≤ cy ∧ cy ≤ 4) (hq1 : 0 ≤ wh ∧ wh ≤ 8 - 1) : zM l D cs yX7_cylinder cX7_cylinder 3 (some FieldType.int) 7 103 0 0 [.ref (ad 3 0), .int cy, .int wh] ((camW ad) ++ (macW cs (ad 0) S F)) (some (.int (cylN S F (nN cy) (nN wh)))) ((camW ad) ++ (macW cs (ad 0) S F)) := by
  refine zM.of (own := RX7) (by decide) (Nat.le_of_ble_eq_true rfl) rfl ?_
  intro pq eq s mq below meth cq A ls hx hb hr hml hown hts hlk hnm hE hK hA hP hD hS hl
  have hl : lv_has ls 3 [(0, .ref (ad 3 0)), (1, .int cy), (2, .int wh)] := hl
  refine lv_iload_n hx hb dX7_cylinder_0 rfl (lv_at hl 1 rfl) ?_
  refine z_callS (wn := ((camW ad) ++ (macW cs (ad 0) S F))) ⟨hx, hb, hml, hown, hts⟩ zY_X7_requireCylinder w_st_yX7_requireCylinder w_ml_X7_36 [.int cy] [] (c_X7_requireCylinder_ok l D cs cy hq0) hE hK hA hP hD hS [] rfl rfl rfl z_ins_nil rfl hl.1 (Nat.le_of_ble_eq_true rfl) ⟨Nat.le_of_ble_eq_true rfl, Nat.le_of_ble_eq_true rfl⟩ ⟨Nat.le_of_ble_eq_true rfl, Nat.le_of_ble_eq_true rfl⟩ dX7_cylinder_1 (fun H locs hP hD hS => ?_)
  refine lv_iload_n hx hb dX7_cylinder_4 rfl (lv_at hl 2 rfl) ?_
  refine lv_bipush (v := 8) hx hb dX7_cylinder_5 (by decide) ?_
  refine z_callS (wn := ((camW ad) ++ (macW cs (ad 0) S F))) ⟨hx, hb, hml, hown, hts⟩ zY_X7_requireWhat w_st_yX7_requireWhat w_ml_X7_165 [.int wh, .int 8] [] (c_X7_requireWhat_ok l D cs wh 8 hq1) hE hK hA hP hD hS [] rfl rfl rfl z_ins_nil rfl hl.1 (Nat.le_of_ble_eq_true rfl) ⟨Nat.le_of_ble_eq_true rfl, Nat.le_of_ble_eq_true rfl⟩ ⟨Nat.le_of_ble_eq_true rfl, Nat.le_of_ble_eq_true rfl⟩ dX7_cylinder_7 (fun H locs hP hD hS => ?_)
  obtain ⟨k, hk, rfl⟩ := z_nat4 hq0
  have hNk := nN_nI (k := k) (by omega)
  obtain ⟨j, hj, rfl⟩ := z_nat8 hq1
  have hNj := nN_nI (k := j) (by omega)
  refine lv_aload_n hx hb dX7_cylinder_10 rfl (lv_at hl 0 rfl) ?_
  refine va_get (D := D) (ci := 7) (v := .ref (ad 0 0)) (C := RX7) (T := TX7) (N := 5) hx hb hts wsI_X7 hown hK hP 0 rfl rfl 0 (by decide) (hts _ w_fl_X7_10) (fun _ h9 => h9) rfl dX7_cylinder_11 ?_
  refine lv_iload_n hx hb dX7_cylinder_14 rfl (lv_at hl 1 rfl) ?_
  refine lv_iload_n hx hb dX7_cylinder_15 rfl (lv_at hl 2 rfl) ?_
  refine z_callV (wn := ((camW ad) ++ (macW cs (ad 0) S F))) ⟨hx, hb, hml, hown, hts⟩ zY_X5_cylinderNumber w_im_yX5_cylinderNumber w_se_yX5_cylinderNumber w_ml_X7_169 [.int (nI k), .int (nI j)] [] (c_X5_cylinderNumber l D cs (ad 0) S F k j hk hj) hE hK hA hP hD hS [1, 2, 3, 4, 5, 6, 7, 8, 9, 10, 11, 12, 13, 14, 15, 16, 17] rfl rfl rfl rfl 5 rfl rfl rfl rfl hl.1 (Nat.le_of_ble_eq_true rfl) ⟨Nat.le_of_ble_eq_true rfl, Nat.le_of_ble_eq_true rfl⟩ ⟨Nat.le_of_ble_eq_true rfl, Nat.le_of_ble_eq_true rfl⟩ dX7_cylinder_16 (fun H locs hP hD hS => ?_)
  exact z_iret hx hb hr hlk hK hP hD hS dX7_cylinder_19 (by simp only [hNk, hNj]) rfl

set_option maxHeartbeats 4000000 in
set_option maxRecDepth 100000 in
theorem c_X7_value_ok (l : Launch) (D : va_G) (cs : zCs) (ad : Nat → Nat → Nat) (S : Nat → Int32) (F : Nat → Nat → Int32) (wh : Int32) (hq0 : 0 ≤ wh ∧ wh ≤ 16 - 1) : zM l D cs yX7_value cX7_value 2 (some FieldType.int) 7 103 0 0 [.ref (ad 3 0), .int wh] ((camW ad) ++ (macW cs (ad 0) S F)) (some (.int (S (nN wh)))) ((camW ad) ++ (macW cs (ad 0) S F)) := by
  refine zM.of (own := RX7) (by decide) (Nat.le_of_ble_eq_true rfl) rfl ?_
  intro pq eq s mq below meth cq A ls hx hb hr hml hown hts hlk hnm hE hK hA hP hD hS hl
  have hl : lv_has ls 2 [(0, .ref (ad 3 0)), (1, .int wh)] := hl
  refine lv_iload_n hx hb dX7_value_0 rfl (lv_at hl 1 rfl) ?_
  refine lv_bipush (v := 16) hx hb dX7_value_1 (by decide) ?_
  refine z_callS (wn := ((camW ad) ++ (macW cs (ad 0) S F))) ⟨hx, hb, hml, hown, hts⟩ zY_X7_requireWhat w_st_yX7_requireWhat w_ml_X7_165 [.int wh, .int 16] [] (c_X7_requireWhat_ok l D cs wh 16 hq0) hE hK hA hP hD hS [] rfl rfl rfl z_ins_nil rfl hl.1 (Nat.le_of_ble_eq_true rfl) ⟨Nat.le_of_ble_eq_true rfl, Nat.le_of_ble_eq_true rfl⟩ ⟨Nat.le_of_ble_eq_true rfl, Nat.le_of_ble_eq_true rfl⟩ dX7_value_3 (fun H locs hP hD hS => ?_)
  obtain ⟨k, hk, rfl⟩ := z_nat16 hq0
  have hNk := nN_nI (k := k) (by omega)
  refine lv_aload_n hx hb dX7_value_6 rfl (lv_at hl 0 rfl) ?_
  refine va_get (D := D) (ci := 7) (v := .ref (ad 0 0)) (C := RX7) (T := TX7) (N := 5) hx hb hts wsI_X7 hown hK hP 0 rfl rfl 0 (by decide) (hts _ w_fl_X7_10) (fun _ h9 => h9) rfl dX7_value_7 ?_
  refine lv_iload_n hx hb dX7_value_10 rfl (lv_at hl 1 rfl) ?_
  refine z_callV (wn := ((camW ad) ++ (macW cs (ad 0) S F))) ⟨hx, hb, hml, hown, hts⟩ zY_X5_number w_im_yX5_number w_se_yX5_number w_ml_X7_176 [.int (nI k)] [] (c_X5_number l D cs (ad 0) S F k hk) hE hK hA hP hD hS [1, 2, 3, 4, 5, 6, 7, 8, 9, 10, 11, 12, 13, 14, 15, 16, 17] rfl rfl rfl rfl 5 rfl rfl rfl rfl hl.1 (Nat.le_of_ble_eq_true rfl) ⟨Nat.le_of_ble_eq_true rfl, Nat.le_of_ble_eq_true rfl⟩ ⟨Nat.le_of_ble_eq_true rfl, Nat.le_of_ble_eq_true rfl⟩ dX7_value_11 (fun H locs hP hD hS => ?_)
  exact z_iret hx hb hr hlk hK hP hD hS dX7_value_14 (by simp only [hNk]) rfl

set_option maxHeartbeats 4000000 in
set_option maxRecDepth 100000 in
theorem c_X7_chart_ok (l : Launch) (D : va_G) (cs : zCs) (ad : Nat → Nat → Nat) (S : Nat → Int32) (F : Nat → Nat → Int32) (cy st : Int32) (hq0 : 0 ≤ cy ∧ cy ≤ 4) (hq1 : 0 ≤ st ∧ st ≤ (S 0) - 1) : zM l D cs yX7_chart cX7_chart 3 (some FieldType.int) 7 103 0 0 [.ref (ad 3 0), .int cy, .int st] ((camW ad) ++ (macW cs (ad 0) S F)) (some (.int (chtAt F cy st))) ((camW ad) ++ (macW cs (ad 0) S F)) := by
  refine zM.of (own := RX7) (by decide) (Nat.le_of_ble_eq_true rfl) rfl ?_
  intro pq eq s mq below meth cq A ls hx hb hr hml hown hts hlk hnm hE hK hA hP hD hS hl
  have hl : lv_has ls 3 [(0, .ref (ad 3 0)), (1, .int cy), (2, .int st)] := hl
  refine lv_iload_n hx hb dX7_chart_0 rfl (lv_at hl 1 rfl) ?_
  refine z_callS (wn := ((camW ad) ++ (macW cs (ad 0) S F))) ⟨hx, hb, hml, hown, hts⟩ zY_X7_requireCylinder w_st_yX7_requireCylinder w_ml_X7_36 [.int cy] [] (c_X7_requireCylinder_ok l D cs cy hq0) hE hK hA hP hD hS [] rfl rfl rfl z_ins_nil rfl hl.1 (Nat.le_of_ble_eq_true rfl) ⟨Nat.le_of_ble_eq_true rfl, Nat.le_of_ble_eq_true rfl⟩ ⟨Nat.le_of_ble_eq_true rfl, Nat.le_of_ble_eq_true rfl⟩ dX7_chart_1 (fun H locs hP hD hS => ?_)
  refine lv_aload_n hx hb dX7_chart_4 rfl (lv_at hl 0 rfl) ?_
  refine lv_iload_n hx hb dX7_chart_5 rfl (lv_at hl 2 rfl) ?_
  refine z_callV (wn := ((camW ad) ++ (macW cs (ad 0) S F))) ⟨hx, hb, hml, hown, hts⟩ zY_X7_requireStep w_im_yX7_requireStep w_se_yX7_requireStep w_ml_X7_40 [.int st] [] (c_X7_requireStep_ok l D cs ad S F st hq1) hE hK hA hP hD hS [0, 1, 2, 3, 4, 5, 6, 7, 8, 9, 10, 11, 12, 13, 14, 15, 16, 17] rfl rfl rfl rfl 7 rfl rfl rfl rfl hl.1 (Nat.le_of_ble_eq_true rfl) ⟨Nat.le_of_ble_eq_true rfl, Nat.le_of_ble_eq_true rfl⟩ ⟨Nat.le_of_ble_eq_true rfl, Nat.le_of_ble_eq_true rfl⟩ dX7_chart_6 (fun H locs hP hD hS => ?_)
  refine lv_aload_n hx hb dX7_chart_9 rfl (lv_at hl 0 rfl) ?_
  refine va_get (D := D) (ci := 7) (v := .ref (ad 0 0)) (C := RX7) (T := TX7) (N := 5) hx hb hts wsI_X7 hown hK hP 0 rfl rfl 0 (by decide) (hts _ w_fl_X7_10) (fun _ h9 => h9) rfl dX7_chart_10 ?_
  refine va_get (D := D) (ci := 5) (v := .ref (ad 0 14)) (C := RX5) (T := TX5) (N := 13) hx hb hts wsI_X5 hown hK hP 1 rfl rfl 12 (by decide) (hts _ w_fl_X7_179) (fun _ h9 => h9) rfl dX7_chart_13 ?_
  refine lv_iload_n hx hb dX7_chart_16 rfl (lv_at hl 1 rfl) ?_
  refine lv_iload_n hx hb dX7_chart_17 rfl (lv_at hl 2 rfl) ?_
  refine z_callV (wn := ((camW ad) ++ (macW cs (ad 0) S F))) ⟨hx, hb, hml, hown, hts⟩ zY_X1_outAt w_im_yX1_outAt w_se_yX1_outAt w_ml_X7_183 [.int cy, .int st] [] (c_X1_outAt l D cs (ad 0) F cy st) hE hK hA hP hD hS [15, 16, 17] rfl rfl rfl rfl 1 rfl rfl rfl rfl hl.1 (Nat.le_of_ble_eq_true rfl) ⟨Nat.le_of_ble_eq_true rfl, Nat.le_of_ble_eq_true rfl⟩ ⟨Nat.le_of_ble_eq_true rfl, Nat.le_of_ble_eq_true rfl⟩ dX7_chart_18 (fun H locs hP hD hS => ?_)
  exact z_iret hx hb hr hlk hK hP hD hS dX7_chart_21 rfl rfl

set_option maxHeartbeats 4000000 in
set_option maxRecDepth 100000 in
theorem c_X7_skips_ok (l : Launch) (D : va_G) (cs : zCs) (ad : Nat → Nat → Nat) (S : Nat → Int32) (F : Nat → Nat → Int32) (st : Int32) (hq0 : 0 ≤ st ∧ st ≤ (S 0) - 1) : zM l D cs yX7_skips cX7_skips 2 (some FieldType.int) 7 103 0 0 [.ref (ad 3 0), .int st] ((camW ad) ++ (macW cs (ad 0) S F)) (some (.int (chtSk F st))) ((camW ad) ++ (macW cs (ad 0) S F)) := by
  refine zM.of (own := RX7) (by decide) (Nat.le_of_ble_eq_true rfl) rfl ?_
  intro pq eq s mq below meth cq A ls hx hb hr hml hown hts hlk hnm hE hK hA hP hD hS hl
  have hl : lv_has ls 2 [(0, .ref (ad 3 0)), (1, .int st)] := hl
  refine lv_aload_n hx hb dX7_skips_0 rfl (lv_at hl 0 rfl) ?_
  refine lv_iload_n hx hb dX7_skips_1 rfl (lv_at hl 1 rfl) ?_
  refine z_callV (wn := ((camW ad) ++ (macW cs (ad 0) S F))) ⟨hx, hb, hml, hown, hts⟩ zY_X7_requireStep w_im_yX7_requireStep w_se_yX7_requireStep w_ml_X7_40 [.int st] [] (c_X7_requireStep_ok l D cs ad S F st hq0) hE hK hA hP hD hS [0, 1, 2, 3, 4, 5, 6, 7, 8, 9, 10, 11, 12, 13, 14, 15, 16, 17] rfl rfl rfl rfl 7 rfl rfl rfl rfl hl.1 (Nat.le_of_ble_eq_true rfl) ⟨Nat.le_of_ble_eq_true rfl, Nat.le_of_ble_eq_true rfl⟩ ⟨Nat.le_of_ble_eq_true rfl, Nat.le_of_ble_eq_true rfl⟩ dX7_skips_2 (fun H locs hP hD hS => ?_)
  refine lv_aload_n hx hb dX7_skips_5 rfl (lv_at hl 0 rfl) ?_
  refine va_get (D := D) (ci := 7) (v := .ref (ad 0 0)) (C := RX7) (T := TX7) (N := 5) hx hb hts wsI_X7 hown hK hP 0 rfl rfl 0 (by decide) (hts _ w_fl_X7_10) (fun _ h9 => h9) rfl dX7_skips_6 ?_
  refine va_get (D := D) (ci := 5) (v := .ref (ad 0 14)) (C := RX5) (T := TX5) (N := 13) hx hb hts wsI_X5 hown hK hP 1 rfl rfl 12 (by decide) (hts _ w_fl_X7_179) (fun _ h9 => h9) rfl dX7_skips_9 ?_
  refine lv_iload_n hx hb dX7_skips_12 rfl (lv_at hl 1 rfl) ?_
  refine z_callV (wn := ((camW ad) ++ (macW cs (ad 0) S F))) ⟨hx, hb, hml, hown, hts⟩ zY_X1_skipsAt w_im_yX1_skipsAt w_se_yX1_skipsAt w_ml_X7_188 [.int st] [] (c_X1_skipsAt l D cs (ad 0) F st) hE hK hA hP hD hS [15, 16, 17] rfl rfl rfl rfl 1 rfl rfl rfl rfl hl.1 (Nat.le_of_ble_eq_true rfl) ⟨Nat.le_of_ble_eq_true rfl, Nat.le_of_ble_eq_true rfl⟩ ⟨Nat.le_of_ble_eq_true rfl, Nat.le_of_ble_eq_true rfl⟩ dX7_skips_13 (fun H locs hP hD hS => ?_)
  exact z_iret hx hb hr hlk hK hP hD hS dX7_skips_16 rfl rfl

set_option maxHeartbeats 4000000 in
set_option maxRecDepth 100000 in
theorem c_X7_ticksToOut_ok (l : Launch) (D : va_G) (cs : zCs) (ad : Nat → Nat → Nat) (S : Nat → Int32) (F : Nat → Nat → Int32) (TS : Nat → Int32) (TF : Nat → Nat → Int32) (cy : Int32) (hq0 : 0 ≤ cy ∧ cy ≤ 4) : zM l D cs yX7_ticksToOut cX7_ticksToOut 3 (some FieldType.int) 7 132 0 0 [.ref (ad 3 0), .int cy] ((camW ad) ++ (macW cs (ad 0) S F) ++ (macW cs (ad 1) TS TF)) (some (.int (toR (nN cy) 501 0 (S, F)))) ((camW ad) ++ (macW cs (ad 0) S F) ++ (macW cs (ad 1) ((toP (nN cy) 501 (S, F)).1) ((toP (nN cy) 501 (S, F)).2))) := by
  refine zM.of (own := RX7) (by decide) (Nat.le_of_ble_eq_true rfl) rfl ?_
  intro pq eq s mq below meth cq A ls hx hb hr hml hown hts hlk hnm hE hK hA hP hD hS hl
  have hl : lv_has ls 3 [(0, .ref (ad 3 0)), (1, .int cy)] := hl
  refine lv_iload_n hx hb dX7_ticksToOut_0 rfl (lv_at hl 1 rfl) ?_
  refine z_callS (wn := ((camW ad) ++ (macW cs (ad 0) S F) ++ (macW cs (ad 1) TS TF))) ⟨hx, hb, hml, hown, hts⟩ zY_X7_requireCylinder w_st_yX7_requireCylinder w_ml_X7_36 [.int cy] [] (c_X7_requireCylinder_ok l D cs cy hq0) hE hK hA hP hD hS [] rfl rfl rfl z_ins_nil rfl hl.1 (Nat.le_of_ble_eq_true rfl) ⟨Nat.le_of_ble_eq_true rfl, Nat.le_of_ble_eq_true rfl⟩ ⟨Nat.le_of_ble_eq_true rfl, Nat.le_of_ble_eq_true rfl⟩ dX7_ticksToOut_1 (fun H locs hP hD hS => ?_)
  obtain ⟨c, hc, rfl⟩ := z_nat4 hq0
  have hNc := nN_nI (k := c) (by omega)
  refine lv_aload_n hx hb dX7_ticksToOut_4 rfl (lv_at hl 0 rfl) ?_
  refine va_get (D := D) (ci := 7) (v := .ref (ad 1 0)) (C := RX7) (T := TX7) (N := 5) hx hb hts wsI_X7 hown hK hP 0 rfl rfl 3 (by decide) (hts _ w_fl_X7_30) (fun _ h9 => h9) rfl dX7_ticksToOut_5 ?_
  refine lv_aload_n hx hb dX7_ticksToOut_8 rfl (lv_at hl 0 rfl) ?_
  refine va_get (D := D) (ci := 7) (v := .ref (ad 0 0)) (C := RX7) (T := TX7) (N := 5) hx hb hts wsI_X7 hown hK hP 0 rfl rfl 0 (by decide) (hts _ w_fl_X7_10) (fun _ h9 => h9) rfl dX7_ticksToOut_9 ?_
  refine z_callV (wn := ((camW ad) ++ (macW cs (ad 0) S F) ++ (macW cs (ad 1) S F))) ⟨hx, hb, hml, hown, hts⟩ zY_X5_copyFrom w_im_yX5_copyFrom w_se_yX5_copyFrom w_ml_X7_191 [.ref (ad 0 0)] [] (c_X5_copyFrom l D cs (ad 1) (ad 0) TS S TF F) hE hK hA hP hD hS [18, 19, 20, 21, 22, 23, 24, 25, 26, 27, 28, 29, 30, 31, 32, 33, 34, 1, 2, 3, 4, 5, 6, 7, 8, 9, 10, 11, 12, 13, 14, 15, 16, 17] rfl rfl rfl rfl 5 rfl rfl rfl rfl hl.1 (Nat.le_of_ble_eq_true rfl) ⟨Nat.le_of_ble_eq_true rfl, Nat.le_of_ble_eq_true rfl⟩ ⟨Nat.le_of_ble_eq_true rfl, Nat.le_of_ble_eq_true rfl⟩ dX7_ticksToOut_12 (fun H locs hP hD hS => ?_)
  refine lv_iconst (v := 0) hx hb dX7_ticksToOut_15 (by decide) ?_
  refine lv_istore_n (lv' := [(2, .int 0), (0, .ref (ad 3 0)), (1, .int (nI c))]) hx hb dX7_ticksToOut_16 rfl hl (by decide) rfl (fun ls hl => ?_)
  have lp17 : ∀ (k : Nat) (t : Nat) (q : zP), (t + k = 501) → (toR c k t q = toR c 501 0 (S, F)) → (toP c k q = toP c 501 (S, F)) → ∀ (H : Heap) (locs : List Loc) (ls : Array Slot), va_P D vwCl ((camW ad) ++ (macW cs (ad 0) S F) ++ (macW cs (ad 1) q.1 q.2)) H → va_D A ((camW ad) ++ (macW cs (ad 0) S F) ++ (macW cs (ad 1) q.1 q.2)) → va_S A s.heap H locs → lv_has ls 3 [(0, .ref (ad 3 0)), (1, .int (nI c)), (2, .int (nI t))] → W pq l eq ({ frames := 7, cells := 0, slots := 0, locals := 132 } : Room) s mq ([.ref (ad 3 0), .int (nI c)] : List Value).toArray below meth cq H locs 0 0 (MQ below (zQ D cs (some (.int (toR (nN (nI c)) 501 0 (S, F)))) ((camW ad) ++ (macW cs (ad 0) S F) ++ (macW cs (ad 1) ((toP (nN (nI c)) 501 (S, F)).1) ((toP (nN (nI c)) 501 (S, F)).2))) A) ([.ref (ad 3 0), .int (nI c)] : List Value).toArray s 0 0 A) (F0 mq 17 ls []) := by
    intro k
    induction k with
    | zero =>
      intro t q h1 h2 h3 H locs ls hP hD hS hl
      refine lv_iload_n hx hb dX7_ticksToOut_17 rfl (lv_at hl 2 rfl) ?_
      refine lv_sipush (v := 500) hx hb dX7_ticksToOut_18 (by decide) ?_
      refine lv_icmp_gt (tgt := 57) hx hb dX7_ticksToOut_21 (by decide) (fun c_1 => ?_) (fun c_1 => ?_)
      · skip
        refine lv_iconst (v := (-1)) hx hb dX7_ticksToOut_57 (by decide) ?_
        exact z_iret hx hb hr hlk hK hP hD hS dX7_ticksToOut_58 (by rw [hNc, ← h2]; rfl) (by rw [hNc, ← h3]; rfl)
      · skip
        exact absurd ((nI_ltI (a := 500) (by omega) (by omega)).mpr (by omega)) c_1
    | succ k ih =>
      intro t q h1 h2 h3 H locs ls hP hD hS hl
      refine lv_iload_n hx hb dX7_ticksToOut_17 rfl (lv_at hl 2 rfl) ?_
      refine lv_sipush (v := 500) hx hb dX7_ticksToOut_18 (by decide) ?_
      refine lv_icmp_gt (tgt := 57) hx hb dX7_ticksToOut_21 (by decide) (fun c_2 => ?_) (fun c_2 => ?_)
      · skip
        exact absurd ((nI_ltI (a := 500) (by omega) (by omega)).mp c_2) (by omega)
      · skip
        refine lv_aload_n hx hb dX7_ticksToOut_24 rfl (lv_at hl 0 rfl) ?_
        refine va_get (D := D) (ci := 7) (v := .ref (ad 1 0)) (C := RX7) (T := TX7) (N := 5) hx hb hts wsI_X7 hown hK hP 0 rfl rfl 3 (by decide) (hts _ w_fl_X7_30) (fun _ h9 => h9) rfl dX7_ticksToOut_25 ?_
        refine va_get (D := D) (ci := 5) (v := .ref (ad 1 3)) (C := RX5) (T := TX5) (N := 13) hx hb hts wsI_X5 hown hK hP 18 rfl rfl 10 (by decide) (hts _ w_fl_X7_75) (fun _ h9 => h9) rfl dX7_ticksToOut_28 ?_
        refine va_get (D := D) (ci := 2) (v := .ref (ad 1 4)) (C := RX2) (T := TX2) (N := 6) hx hb hts wsI_X2 hown hK hP 21 rfl rfl 0 (by decide) (hts _ w_fl_X7_91) (fun _ h9 => h9) rfl dX7_ticksToOut_31 ?_
        refine lv_iload_n hx hb dX7_ticksToOut_34 rfl (lv_at hl 1 rfl) ?_
        refine z_iald (k := c) hx hb hK hP 22 rfl (by omega) (by first | decide | omega) dX7_ticksToOut_35 ?_
        refine lv_bipush (v := 100) hx hb dX7_ticksToOut_36 (by decide) ?_
        refine lv_icmp_ne (tgt := 43) hx hb dX7_ticksToOut_38 (by decide) (fun c_3 => ?_) (fun c_3 => ?_)
        · skip
          refine lv_aload_n hx hb dX7_ticksToOut_43 rfl (lv_at hl 0 rfl) ?_
          refine va_get (D := D) (ci := 7) (v := .ref (ad 1 0)) (C := RX7) (T := TX7) (N := 5) hx hb hts wsI_X7 hown hK hP 0 rfl rfl 3 (by decide) (hts _ w_fl_X7_30) (fun _ h9 => h9) rfl dX7_ticksToOut_44 ?_
          refine z_callV (wn := ((camW ad) ++ (macW cs (ad 0) S F) ++ (macW cs (ad 1) ((tkP (q.1, q.2)).1) ((tkP (q.1, q.2)).2)))) ⟨hx, hb, hml, hown, hts⟩ zY_X5_tick w_im_yX5_tick w_se_yX5_tick w_ml_X7_157 [] [] (c_X5_tick l D cs (ad 1) q.1 q.2) hE hK hA hP hD hS [18, 19, 20, 21, 22, 23, 24, 25, 26, 27, 28, 29, 30, 31, 32, 33, 34] rfl rfl rfl rfl 5 rfl rfl rfl rfl hl.1 (Nat.le_of_ble_eq_true rfl) ⟨Nat.le_of_ble_eq_true rfl, Nat.le_of_ble_eq_true rfl⟩ ⟨Nat.le_of_ble_eq_true rfl, Nat.le_of_ble_eq_true rfl⟩ dX7_ticksToOut_47 (fun H locs hP hD hS => ?_)
          refine lv_pop hx hb dX7_ticksToOut_50 rfl ?_
          refine lv_iinc (v := nI (t + 1)) (lv' := [(2, .int (nI (t + 1))), (0, .ref (ad 3 0)), (1, .int (nI c))]) hx hb dX7_ticksToOut_51 hl (k := 2) rfl (show nI t + Int32.ofInt 1 = nI (t + 1) from nI_add t 1) (by decide) rfl (fun ls hl => ?_)
          refine lv_goto (tgt := 17) hx hb dX7_ticksToOut_54 (by decide) ?_
          exact ih (t + 1) (tkP q) (by omega) (by rw [← h2]; exact (if_neg c_3).symm) (by rw [← h3]; exact (if_neg c_3).symm) _ _ _ hP hD hS (lv_sub hl [1, 2, 0] rfl)
        · skip
          refine lv_iload_n hx hb dX7_ticksToOut_41 rfl (lv_at hl 2 rfl) ?_
          exact z_iret hx hb hr hlk hK hP hD hS dX7_ticksToOut_42 (by rw [hNc, ← h2]; exact congrArg (fun z => some (Value.int z)) (if_pos c_3).symm) (by rw [hNc, ← h3, show toP c (k + 1) q = q from if_pos c_3])
  exact lp17 501 0 (S, F) rfl rfl rfl _ _ _ hP hD hS (lv_sub hl [1, 2, 0] rfl)

set_option maxHeartbeats 4000000 in
set_option maxRecDepth 100000 in
theorem c_X7_leastCompressor_ok (l : Launch) (D : va_G) (cs : zCs) (ad : Nat → Nat → Nat) (S : Nat → Int32) (F : Nat → Nat → Int32) (TS : Nat → Int32) (TF : Nat → Nat → Int32) (tk : Int32) (hq0 : 1 ≤ tk ∧ tk ≤ 300) : zM l D cs yX7_leastCompressor cX7_leastCompressor 3 (some FieldType.int) 6 155 0 0 [.ref (ad 3 0), .int tk] ((camW ad) ++ (macW cs (ad 0) S F) ++ (macW cs (ad 1) TS TF)) (some (.int (lcR (nN tk) S F 51 0))) ((camW ad) ++ (macW cs (ad 0) S F) ++ (macW cs (ad 1) ((lcP (nN tk) S F 51 0 (TS, TF)).1) ((lcP (nN tk) S F 51 0 (TS, TF)).2))) := by
  refine zM.of (own := RX7) (by decide) (Nat.le_of_ble_eq_true rfl) rfl ?_
  intro pq eq s mq below meth cq A ls hx hb hr hml hown hts hlk hnm hE hK hA hP hD hS hl
  have hl : lv_has ls 3 [(0, .ref (ad 3 0)), (1, .int tk)] := hl
  refine lv_iload_n hx hb dX7_leastCompressor_0 rfl (lv_at hl 1 rfl) ?_
  refine lv_iconst (v := 1) hx hb dX7_leastCompressor_1 (by decide) ?_
  refine lv_sipush (v := 300) hx hb dX7_leastCompressor_2 (by decide) ?_
  refine z_callS (wn := ((camW ad) ++ (macW cs (ad 0) S F) ++ (macW cs (ad 1) TS TF))) ⟨hx, hb, hml, hown, hts⟩ zY_X7_within w_st_yX7_within w_ml_X7_55 [.int tk, .int 1, .int 300] [] (c_X7_within l D cs tk 1 300) hE hK hA hP hD hS [] rfl rfl rfl z_ins_nil rfl hl.1 (Nat.le_of_ble_eq_true rfl) ⟨Nat.le_of_ble_eq_true rfl, Nat.le_of_ble_eq_true rfl⟩ ⟨Nat.le_of_ble_eq_true rfl, Nat.le_of_ble_eq_true rfl⟩ dX7_leastCompressor_5 (fun H locs hP hD hS => ?_)
  refine lv_if_ne (tgt := 21) hx hb dX7_leastCompressor_8 (by decide) (fun c_1 => ?_) (fun c_1 => ?_)
  · skip
    have c_1 := bI_n0 c_1
    obtain ⟨T, hT, rfl⟩ := z_nat300 c_1
    have hNT := nN_nI (k := T) (by omega)
    refine lv_iconst (v := 0) hx hb dX7_leastCompressor_21 (by decide) ?_
    refine lv_istore_n (lv' := [(2, .int 0), (0, .ref (ad 3 0)), (1, .int (nI T))]) hx hb dX7_leastCompressor_22 rfl hl (by decide) rfl (fun ls hl => ?_)
    have lp23 : ∀ (k : Nat) (j : Nat) (q : zP), (j + k = 51) → (lcR T S F k j = lcR T S F 51 0) → (lcP T S F k j q = lcP T S F 51 0 (TS, TF)) → ∀ (H : Heap) (locs : List Loc) (ls : Array Slot), va_P D vwCl ((camW ad) ++ (macW cs (ad 0) S F) ++ (macW cs (ad 1) q.1 q.2)) H → va_D A ((camW ad) ++ (macW cs (ad 0) S F) ++ (macW cs (ad 1) q.1 q.2)) → va_S A s.heap H locs → lv_has ls 3 [(0, .ref (ad 3 0)), (1, .int (nI T)), (2, .int (nI (10 * j)))] → W pq l eq ({ frames := 6, cells := 0, slots := 0, locals := 155 } : Room) s mq ([.ref (ad 3 0), .int (nI T)] : List Value).toArray below meth cq H locs 0 0 (MQ below (zQ D cs (some (.int (lcR (nN (nI T)) S F 51 0))) ((camW ad) ++ (macW cs (ad 0) S F) ++ (macW cs (ad 1) ((lcP (nN (nI T)) S F 51 0 (TS, TF)).1) ((lcP (nN (nI T)) S F 51 0 (TS, TF)).2))) A) ([.ref (ad 3 0), .int (nI T)] : List Value).toArray s 0 0 A) (F0 mq 23 ls []) := by
      intro k
      induction k with
      | zero =>
        intro j q h1 h2 h3 H locs ls hP hD hS hl
        refine lv_iload_n hx hb dX7_leastCompressor_23 rfl (lv_at hl 2 rfl) ?_
        refine lv_sipush (v := 500) hx hb dX7_leastCompressor_24 (by decide) ?_
        refine lv_icmp_gt (tgt := 47) hx hb dX7_leastCompressor_27 (by decide) (fun c_2 => ?_) (fun c_2 => ?_)
        · skip
          refine lv_iconst (v := (-1)) hx hb dX7_leastCompressor_47 (by decide) ?_
          exact z_iret hx hb hr hlk hK hP hD hS dX7_leastCompressor_48 (by rw [hNT, ← h2]; rfl) (by rw [hNT, ← h3]; rfl)
        · skip
          exact absurd ((nI_ltI (a := 500) (by omega) (by omega)).mpr (by omega)) c_2
      | succ k ih =>
        intro j q h1 h2 h3 H locs ls hP hD hS hl
        refine lv_iload_n hx hb dX7_leastCompressor_23 rfl (lv_at hl 2 rfl) ?_
        refine lv_sipush (v := 500) hx hb dX7_leastCompressor_24 (by decide) ?_
        refine lv_icmp_gt (tgt := 47) hx hb dX7_leastCompressor_27 (by decide) (fun c_3 => ?_) (fun c_3 => ?_)
        · skip
          exact absurd ((nI_ltI (a := 500) (by omega) (by omega)).mp c_3) (by omega)
        · skip
          refine lv_aload_n hx hb dX7_leastCompressor_30 rfl (lv_at hl 0 rfl) ?_
          refine lv_iload_n hx hb dX7_leastCompressor_31 rfl (lv_at hl 2 rfl) ?_
          refine lv_iload_n hx hb dX7_leastCompressor_32 rfl (lv_at hl 1 rfl) ?_
          refine z_callV (wn := ((camW ad) ++ (macW cs (ad 0) S F) ++ (macW cs (ad 1) ((gsP T (upd S 7 (nI (10 * j)), F)).1) ((gsP T (upd S 7 (nI (10 * j)), F)).2)))) ⟨hx, hb, hml, hown, hts⟩ zY_X7_goesWithoutSkip w_im_yX7_goesWithoutSkip w_se_yX7_goesWithoutSkip w_ml_X7_197 [.int (nI (10 * j)), .int (nI T)] [] (c_X7_goesWithoutSkip l D cs ad S F q.1 q.2 (nI (10 * j)) T (by omega)) hE hK hA hP hD hS [0, 1, 2, 3, 4, 5, 6, 7, 8, 9, 10, 11, 12, 13, 14, 15, 16, 17, 18, 19, 20, 21, 22, 23, 24, 25, 26, 27, 28, 29, 30, 31, 32, 33, 34] rfl rfl rfl rfl 7 rfl rfl rfl rfl hl.1 (Nat.le_of_ble_eq_true rfl) ⟨Nat.le_of_ble_eq_true rfl, Nat.le_of_ble_eq_true rfl⟩ ⟨Nat.le_of_ble_eq_true rfl, Nat.le_of_ble_eq_true rfl⟩ dX7_leastCompressor_33 (fun H locs hP hD hS => ?_)
          refine lv_if_eq (tgt := 41) hx hb dX7_leastCompressor_36 (by decide) (fun c_4 => ?_) (fun c_4 => ?_)
          · skip
            refine lv_iinc (v := nI (10 * j + 10)) (lv' := [(2, .int (nI (10 * j + 10))), (0, .ref (ad 3 0)), (1, .int (nI T))]) hx hb dX7_leastCompressor_41 hl (k := 2) rfl (show nI (10 * j) + Int32.ofInt 10 = nI (10 * j + 10) from nI_add (10 * j) 10) (by decide) rfl (fun ls hl => ?_)
            refine lv_goto (tgt := 23) hx hb dX7_leastCompressor_44 (by decide) ?_
            rw [show 10 * j + 10 = 10 * (j + 1) by omega] at hl
            exact ih (j + 1) (gsP T (upd S 7 (nI (10 * j)), F)) (by omega) (by rw [← h2]; exact (if_pos c_4).symm) (by rw [← h3]; exact (if_pos c_4).symm) _ _ _ hP hD hS (lv_sub hl [1, 2, 0] rfl)
          · skip
            refine lv_iload_n hx hb dX7_leastCompressor_39 rfl (lv_at hl 2 rfl) ?_
            exact z_iret hx hb hr hlk hK hP hD hS dX7_leastCompressor_40 (by rw [hNT, ← h2]; exact congrArg (fun z => some (Value.int z)) (if_neg c_4).symm) (by rw [hNT, ← h3, show lcP T S F (k + 1) j q = _ from if_neg c_4])
    exact lp23 51 0 (TS, TF) rfl rfl rfl _ _ _ hP hD hS (lv_sub hl [1, 2, 0] rfl)
  · skip
    have c_1 := bI_0.mp c_1
    exact absurd hq0 c_1

set_option maxHeartbeats 4000000 in
set_option maxRecDepth 100000 in
theorem c_X7_undo_ok (l : Launch) (D : va_G) (cs : zCs) (ad : Nat → Nat → Nat) (S : Nat → Int32) (F : Nat → Nat → Int32) (kd : Nat → Nat → Nat) (HS : Nat → Int32) (KS : Nat → Nat → Int32) (KF : Nat → Nat → Nat → Int32) (p n : Nat) (hp : HS 0 = nI p) (hp4 : p < 4) (hn : HS 1 = nI n) (hn4 : n ≤ 4) (hq0 : ¬ nI n = 0) : zM l D cs yX7_undo cX7_undo 1 (some FieldType.int) 6 154 0 0 [.ref (ad 3 0)] ((camW ad) ++ (macW cs (ad 0) S F) ++ (hisW cs (ad 4) kd HS) ++ (macW cs (kd 0) (KS 0) (KF 0)) ++ (macW cs (kd 1) (KS 1) (KF 1)) ++ (macW cs (kd 2) (KS 2) (KF 2)) ++ (macW cs (kd 3) (KS 3) (KF 3))) (some (.int (nI (n - 1)))) ((camW ad) ++ (macW cs (ad 0) (KS p) (KF p)) ++ (hisW cs (ad 4) kd (upd (upd HS 0 (nI (hPv p))) 1 (nI (n - 1)))) ++ (macW cs (kd 0) (KS 0) (KF 0)) ++ (macW cs (kd 1) (KS 1) (KF 1)) ++ (macW cs (kd 2) (KS 2) (KF 2)) ++ (macW cs (kd 3) (KS 3) (KF 3))) := by
  refine zM.of (own := RX7) (by decide) (Nat.le_of_ble_eq_true rfl) rfl ?_
  intro pq eq s mq below meth cq A ls hx hb hr hml hown hts hlk hnm hE hK hA hP hD hS hl
  have hl : lv_has ls 1 [(0, .ref (ad 3 0))] := hl
  refine lv_aload_n hx hb dX7_undo_0 rfl (lv_at hl 0 rfl) ?_
  refine va_get (D := D) (ci := 7) (v := .ref (ad 4 0)) (C := RX7) (T := TX7) (N := 5) hx hb hts wsI_X7 hown hK hP 0 rfl rfl 1 (by decide) (hts _ w_fl_X7_19) (fun _ h9 => h9) rfl dX7_undo_1 ?_
  refine va_get (D := D) (ci := 4) (v := .int (HS 1)) (C := RX4) (T := TX4) (N := 3) hx hb hts wsI_X4 hown hK hP 18 rfl rfl 2 (by decide) (hts _ w_fl_X7_236) (fun _ h9 => h9) rfl dX7_undo_4 ?_
  refine z_top (y := nI n) hn ?_
  refine lv_if_ne (tgt := 20) hx hb dX7_undo_7 (by decide) (fun c_1 => ?_) (fun c_1 => ?_)
  · skip
    refine lv_aload_n hx hb dX7_undo_20 rfl (lv_at hl 0 rfl) ?_
    refine va_get (D := D) (ci := 7) (v := .ref (ad 4 0)) (C := RX7) (T := TX7) (N := 5) hx hb hts wsI_X7 hown hK hP 0 rfl rfl 1 (by decide) (hts _ w_fl_X7_19) (fun _ h9 => h9) rfl dX7_undo_21 ?_
    refine lv_aload_n hx hb dX7_undo_24 rfl (lv_at hl 0 rfl) ?_
    refine va_get (D := D) (ci := 7) (v := .ref (ad 0 0)) (C := RX7) (T := TX7) (N := 5) hx hb hts wsI_X7 hown hK hP 0 rfl rfl 0 (by decide) (hts _ w_fl_X7_10) (fun _ h9 => h9) rfl dX7_undo_25 ?_
    refine z_callV (wn := ((camW ad) ++ (macW cs (ad 0) (KS p) (KF p)) ++ (hisW cs (ad 4) kd (upd (upd HS 0 (nI (hPv p))) 1 (nI (n - 1)))) ++ (macW cs (kd 0) (KS 0) (KF 0)) ++ (macW cs (kd 1) (KS 1) (KF 1)) ++ (macW cs (kd 2) (KS 2) (KF 2)) ++ (macW cs (kd 3) (KS 3) (KF 3)))) ⟨hx, hb, hml, hown, hts⟩ zY_X4_restore w_im_yX4_restore w_se_yX4_restore w_ml_X7_239 [.ref (ad 0 0)] [] (c_X4_restore l D cs (ad 4) (ad 0) kd HS KS KF S F p n hp hp4 hn hn4 (Nat.pos_of_ne_zero (fun h => c_1 (by rw [h]; rfl)))) hE hK hA hP hD hS [18, 19, 20, 21, 22, 23, 24, 25, 26, 27, 28, 29, 30, 31, 32, 33, 34, 35, 36, 37, 38, 39, 40, 41, 42, 43, 44, 45, 46, 47, 48, 49, 50, 51, 52, 53, 54, 55, 56, 57, 58, 59, 60, 61, 62, 63, 64, 65, 66, 67, 68, 69, 70, 71, 72, 73, 74, 75, 76, 77, 78, 79, 80, 81, 82, 83, 84, 85, 86, 87, 1, 2, 3, 4, 5, 6, 7, 8, 9, 10, 11, 12, 13, 14, 15, 16, 17] rfl rfl rfl rfl 4 rfl rfl rfl rfl hl.1 (Nat.le_of_ble_eq_true rfl) ⟨Nat.le_of_ble_eq_true rfl, Nat.le_of_ble_eq_true rfl⟩ ⟨Nat.le_of_ble_eq_true rfl, Nat.le_of_ble_eq_true rfl⟩ dX7_undo_28 (fun H locs hP hD hS => ?_)
    refine lv_aload_n hx hb dX7_undo_31 rfl (lv_at hl 0 rfl) ?_
    refine va_get (D := D) (ci := 7) (v := .ref (ad 4 0)) (C := RX7) (T := TX7) (N := 5) hx hb hts wsI_X7 hown hK hP 0 rfl rfl 1 (by decide) (hts _ w_fl_X7_19) (fun _ h9 => h9) rfl dX7_undo_32 ?_
    refine va_get (D := D) (ci := 4) (v := .int (nI (n - 1))) (C := RX4) (T := TX4) (N := 3) hx hb hts wsI_X4 hown hK hP 18 rfl rfl 2 (by decide) (hts _ w_fl_X7_236) (fun _ h9 => h9) rfl dX7_undo_35 ?_
    exact z_iret hx hb hr hlk hK hP hD hS dX7_undo_38 rfl rfl
  · skip
    exact absurd c_1 hq0
