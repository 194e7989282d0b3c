
set_option maxHeartbeats 4000000 in
set_option maxRecDepth 100000 in
theorem c_X7_requireCylinder (l : Launch) (D : va_G) (cs : zCs) (hfl : l.stackTraces = false) (x : Int32)  : zMx l D cs yX7_requireCylinder cX7_requireCylinder 1 none 6 82 1 6 [.int x] ([] : va_W) (exT (0 ≤ x ∧ x ≤ 4) zIO none) none ([] : va_W) := by
  refine zMx.of (own := RX7) (by decide) (Nat.le_of_ble_eq_true rfl) rfl ?_
  intro pq eq s mq below meth cq A ls hx hb hr hml hown hts hlk htab hE hK hA hP hD hS hl
  have hl : lv_has ls 1 [(0, .int x)] := hl
  refine lv_iload_n hx hb dX7_requireCylinder_0 rfl (lv_at hl 0 rfl) ?_
  refine lv_iconst (v := 0) hx hb dX7_requireCylinder_1 (by decide) ?_
  refine lv_iconst (v := 4) hx hb dX7_requireCylinder_2 (by decide) ?_
  refine z_callS (wn := ([] : va_W)) ⟨hx, hb, hml, hown, hts⟩ zY_X7_within w_st_yX7_within w_ml_X7_55 [.int x, .int 0, .int 4] [] (c_X7_within l D cs x 0 4) hE hK hA hP hD hS [] rfl rfl rfl z_ins_nil rfl hl.1 (Nat.le_of_ble_eq_true rfl) ⟨Nat.le_of_ble_eq_true rfl, Nat.le_of_ble_eq_true rfl⟩ ⟨Nat.le_of_ble_eq_true rfl, Nat.le_of_ble_eq_true rfl⟩ dX7_requireCylinder_3 (fun H locs hP hD hS => ?_)
  refine lv_if_ne (tgt := 20) hx hb dX7_requireCylinder_6 (by decide) (fun c_1 => ?_) (fun c_1 => ?_)
  · skip
    have c_1 := bI_n0 c_1
    exact z_vretX hx hb hr hlk hK hP hD hS dX7_requireCylinder_20 (by rw [exT_t c_1]) (Nat.le_of_ble_eq_true rfl) (Nat.le_of_ble_eq_true rfl) rfl rfl
  · skip
    have c_1 := bI_0.mp c_1
    exact z_throwW hx hb hfl hml hown hts hlk htab hE hK hP hD hS hl.1 zThr_IO (List.mem_of_getElem? (i := 0) rfl) dX7_requireCylinder_9 dX7_requireCylinder_12 dX7_requireCylinder_13 dX7_requireCylinder_16 dX7_requireCylinder_19 ⟨Nat.le_of_ble_eq_true rfl, Nat.le_of_ble_eq_true rfl, Nat.le_of_ble_eq_true rfl, Nat.le_of_ble_eq_true rfl⟩ (Nat.le_of_ble_eq_true rfl) (Nat.le_of_ble_eq_true rfl) (by exact exT_f (fun h => c_1 h)) rfl

set_option maxHeartbeats 4000000 in
set_option maxRecDepth 100000 in
theorem c_X7_requireStep (l : Launch) (D : va_G) (cs : zCs) (hfl : l.stackTraces = false) (ad : Nat → Nat → Nat) (S : Nat → Int32) (F : Nat → Nat → Int32) (x : Int32)  : zMx l D cs yX7_requireStep cX7_requireStep 2 none 6 82 1 6 [.ref (ad 3 0), .int x] ((camW ad) ++ (macW cs (ad 0) S F)) (exT (0 ≤ x ∧ x ≤ (S 0) - 1) zIO none) none ((camW ad) ++ (macW cs (ad 0) S F)) := by
  refine zMx.of (own := RX7) (by decide) (Nat.le_of_ble_eq_true rfl) rfl ?_
  intro pq eq s mq below meth cq A ls hx hb hr hml hown hts hlk htab hE hK hA hP hD hS hl
  have hl : lv_has ls 2 [(0, .ref (ad 3 0)), (1, .int x)] := hl
  refine lv_iload_n hx hb dX7_requireStep_0 rfl (lv_at hl 1 rfl) ?_
  refine lv_iconst (v := 0) hx hb dX7_requireStep_1 (by decide) ?_
  refine lv_aload_n hx hb dX7_requireStep_2 rfl (lv_at hl 0 rfl) ?_
  refine va_get (D := D) (ci := 7) (v := .ref (ad 0 0)) (C := RX7) (T := TX7) (N := 5) hx hb hts wsI_X7 hown hK hP 0 rfl rfl 0 (by decide) (hts _ w_fl_X7_10) (fun _ h9 => h9) rfl dX7_requireStep_3 ?_
  refine va_get (D := D) (ci := 5) (v := .int (S 0)) (C := RX5) (T := TX5) (N := 13) hx hb hts wsI_X5 hown hK hP 1 rfl rfl 0 (by decide) (hts _ w_fl_X7_223) (fun _ h9 => h9) rfl dX7_requireStep_6 ?_
  refine lv_iconst (v := 1) hx hb dX7_requireStep_9 (by decide) ?_
  refine lv_isub hx hb dX7_requireStep_10 ?_
  refine z_callS (wn := ((camW ad) ++ (macW cs (ad 0) S F))) ⟨hx, hb, hml, hown, hts⟩ zY_X7_within w_st_yX7_within w_ml_X7_55 [.int x, .int 0, .int ((S 0) - 1)] [] (c_X7_within l D cs x 0 ((S 0) - 1)) hE hK hA hP hD hS [] rfl rfl rfl z_ins_nil rfl hl.1 (Nat.le_of_ble_eq_true rfl) ⟨Nat.le_of_ble_eq_true rfl, Nat.le_of_ble_eq_true rfl⟩ ⟨Nat.le_of_ble_eq_true rfl, Nat.le_of_ble_eq_true rfl⟩ dX7_requireStep_11 (fun H locs hP hD hS => ?_)
  refine lv_if_ne (tgt := 28) hx hb dX7_requireStep_14 (by decide) (fun c_1 => ?_) (fun c_1 => ?_)
  · skip
    have c_1 := bI_n0 c_1
    exact z_vretX hx hb hr hlk hK hP hD hS dX7_requireStep_28 (by rw [exT_t c_1]) (Nat.le_of_ble_eq_true rfl) (Nat.le_of_ble_eq_true rfl) rfl rfl
  · skip
    have c_1 := bI_0.mp c_1
    exact z_throwW hx hb hfl hml hown hts hlk htab hE hK hP hD hS hl.1 zThr_IO (List.mem_of_getElem? (i := 1) rfl) dX7_requireStep_17 dX7_requireStep_20 dX7_requireStep_21 dX7_requireStep_24 dX7_requireStep_27 ⟨Nat.le_of_ble_eq_true rfl, Nat.le_of_ble_eq_true rfl, Nat.le_of_ble_eq_true rfl, Nat.le_of_ble_eq_true rfl⟩ (Nat.le_of_ble_eq_true rfl) (Nat.le_of_ble_eq_true rfl) (by exact exT_f (fun h => c_1 h)) rfl

set_option maxHeartbeats 4000000 in
set_option maxRecDepth 100000 in
theorem c_X7_requireGuard (l : Launch) (D : va_G) (cs : zCs) (hfl : l.stackTraces = false) (ad : Nat → Nat → Nat) (S : Nat → Int32) (F : Nat → Nat → Int32) (x : Int32)  : zMx l D cs yX7_requireGuard cX7_requireGuard 2 none 6 82 1 6 [.ref (ad 3 0), .int x] ((camW ad) ++ (macW cs (ad 0) S F)) (exT (0 ≤ x ∧ x ≤ zmin (S 8) 4 - 1) zIO none) none ((camW ad) ++ (macW cs (ad 0) S F)) := by
  refine zMx.of (own := RX7) (by decide) (Nat.le_of_ble_eq_true rfl) rfl ?_
  intro pq eq s mq below meth cq A ls hx hb hr hml hown hts hlk htab hE hK hA hP hD hS hl
  have hl : lv_has ls 2 [(0, .ref (ad 3 0)), (1, .int x)] := hl
  refine lv_iload_n hx hb dX7_requireGuard_0 rfl (lv_at hl 1 rfl) ?_
  refine lv_iconst (v := 0) hx hb dX7_requireGuard_1 (by decide) ?_
  refine lv_aload_n hx hb dX7_requireGuard_2 rfl (lv_at hl 0 rfl) ?_
  refine va_get (D := D) (ci := 7) (v := .ref (ad 0 0)) (C := RX7) (T := TX7) (N := 5) hx hb hts wsI_X7 hown hK hP 0 rfl rfl 0 (by decide) (hts _ w_fl_X7_10) (fun _ h9 => h9) rfl dX7_requireGuard_3 ?_
  refine va_get (D := D) (ci := 5) (v := .ref (ad 0 10)) (C := RX5) (T := TX5) (N := 13) hx hb hts wsI_X5 hown hK hP 1 rfl rfl 11 (by decide) (hts _ w_fl_X7_116) (fun _ h9 => h9) rfl dX7_requireGuard_6 ?_
  refine va_get (D := D) (ci := 3) (v := .int (S 8)) (C := RX3) (T := TX3) (N := 4) hx hb hts wsI_X3 hown hK hP 11 rfl rfl 3 (by decide) (hts _ w_fl_X7_120) (fun _ h9 => h9) rfl dX7_requireGuard_9 ?_
  refine lv_iconst (v := 4) hx hb dX7_requireGuard_12 (by decide) ?_
  refine va_mmin hx hb (hml.trans hl.1.symm) hown (hts _ w_ml_X7_268) (hts _ w_st_Mmin) (hts _ w_in_J9) (hts _ w_co_Mmin) (Nat.le_of_ble_eq_true rfl) (Nat.le_of_ble_eq_true rfl) (Nat.le_of_ble_eq_true rfl) (Nat.le_of_ble_eq_true rfl) dX7_requireGuard_13 ?_
  refine z_top (y := zmin (S 8) 4) rfl ?_
  refine lv_iconst (v := 1) hx hb dX7_requireGuard_16 (by decide) ?_
  refine lv_isub hx hb dX7_requireGuard_17 ?_
  refine z_callS (wn := ((camW ad) ++ (macW cs (ad 0) S F))) ⟨hx, hb, hml, hown, hts⟩ zY_X7_within w_st_yX7_within w_ml_X7_55 [.int x, .int 0, .int ((zmin (S 8) 4) - 1)] [] (c_X7_within l D cs x 0 ((zmin (S 8) 4) - 1)) hE hK hA hP hD hS [] rfl rfl rfl z_ins_nil rfl hl.1 (Nat.le_of_ble_eq_true rfl) ⟨Nat.le_of_ble_eq_true rfl, Nat.le_of_ble_eq_true rfl⟩ ⟨Nat.le_of_ble_eq_true rfl, Nat.le_of_ble_eq_true rfl⟩ dX7_requireGuard_18 (fun H locs hP hD hS => ?_)
  refine lv_if_ne (tgt := 35) hx hb dX7_requireGuard_21 (by decide) (fun c_1 => ?_) (fun c_1 => ?_)
  · skip
    have c_1 := bI_n0 c_1
    exact z_vretX hx hb hr hlk hK hP hD hS dX7_requireGuard_35 (by rw [exT_t c_1]) (Nat.le_of_ble_eq_true rfl) (Nat.le_of_ble_eq_true rfl) rfl rfl
  · skip
    have c_1 := bI_0.mp c_1
    exact z_throwW hx hb hfl hml hown hts hlk htab hE hK hP hD hS hl.1 zThr_IO (List.mem_of_getElem? (i := 7) rfl) dX7_requireGuard_24 dX7_requireGuard_27 dX7_requireGuard_28 dX7_requireGuard_31 dX7_requireGuard_34 ⟨Nat.le_of_ble_eq_true rfl, Nat.le_of_ble_eq_true rfl, Nat.le_of_ble_eq_true rfl, Nat.le_of_ble_eq_true rfl⟩ (Nat.le_of_ble_eq_true rfl) (Nat.le_of_ble_eq_true rfl) (by exact exT_f (fun h => c_1 h)) rfl

set_option maxHeartbeats 4000000 in
set_option maxRecDepth 100000 in
theorem c_X7_requireWhat (l : Launch) (D : va_G) (cs : zCs) (hfl : l.stackTraces = false) (x n : Int32)  : zMx l D cs yX7_requireWhat cX7_requireWhat 2 none 6 82 1 6 [.int x, .int n] ([] : va_W) (exT (0 ≤ x ∧ x ≤ n - 1) zIA none) none ([] : va_W) := by
  refine zMx.of (own := RX7) (by decide) (Nat.le_of_ble_eq_true rfl) rfl ?_
  intro pq eq s mq below meth cq A ls hx hb hr hml hown hts hlk htab hE hK hA hP hD hS hl
  have hl : lv_has ls 2 [(0, .int x), (1, .int n)] := hl
  refine lv_iload_n hx hb dX7_requireWhat_0 rfl (lv_at hl 0 rfl) ?_
  refine lv_iconst (v := 0) hx hb dX7_requireWhat_1 (by decide) ?_
  refine lv_iload_n hx hb dX7_requireWhat_2 rfl (lv_at hl 1 rfl) ?_
  refine lv_iconst (v := 1) hx hb dX7_requireWhat_3 (by decide) ?_
  refine lv_isub hx hb dX7_requireWhat_4 ?_
  refine z_callS (wn := ([] : va_W)) ⟨hx, hb, hml, hown, hts⟩ zY_X7_within w_st_yX7_within w_ml_X7_55 [.int x, .int 0, .int (n - 1)] [] (c_X7_within l D cs x 0 (n - 1)) hE hK hA hP hD hS [] rfl rfl rfl z_ins_nil rfl hl.1 (Nat.le_of_ble_eq_true rfl) ⟨Nat.le_of_ble_eq_true rfl, Nat.le_of_ble_eq_true rfl⟩ ⟨Nat.le_of_ble_eq_true rfl, Nat.le_of_ble_eq_true rfl⟩ dX7_requireWhat_5 (fun H locs hP hD hS => ?_)
  refine lv_if_ne (tgt := 22) hx hb dX7_requireWhat_8 (by decide) (fun c_1 => ?_) (fun c_1 => ?_)
  · skip
    have c_1 := bI_n0 c_1
    exact z_vretX hx hb hr hlk hK hP hD hS dX7_requireWhat_22 (by rw [exT_t c_1]) (Nat.le_of_ble_eq_true rfl) (Nat.le_of_ble_eq_true rfl) rfl rfl
  · skip
    have c_1 := bI_0.mp c_1
    exact z_throwW hx hb hfl hml hown hts hlk htab hE hK hP hD hS hl.1 zThr_IA (List.mem_of_getElem? (i := 10) rfl) dX7_requireWhat_11 dX7_requireWhat_14 dX7_requireWhat_15 dX7_requireWhat_18 dX7_requireWhat_21 ⟨Nat.le_of_ble_eq_true rfl, Nat.le_of_ble_eq_true rfl, Nat.le_of_ble_eq_true rfl, Nat.le_of_ble_eq_true rfl⟩ (Nat.le_of_ble_eq_true rfl) (Nat.le_of_ble_eq_true rfl) (by exact exT_f (fun h => c_1 h)) rfl

set_option maxHeartbeats 4000000 in
set_option maxRecDepth 100000 in
theorem c_X7_setPawl (l : Launch) (D : va_G) (cs : zCs) (hfl : l.stackTraces = false) (ad : Nat → Nat → Nat) (S : Nat → Int32) (F : Nat → Nat → Int32) (kd : Nat → Nat → Nat) (HS : Nat → Int32) (KS : Nat → Nat → Int32) (KF : Nat → Nat → Nat → Int32) (p n : Nat) (dw le : Int32) (hp : HS 0 = nI p) (hp4 : p < 4) (hn : HS 1 = nI n) (hn4 : n ≤ 4) : zMx l D cs yX7_setPawl cX7_setPawl 4 (some FieldType.int) 6 154 1 6 [.ref (ad 3 0), .int dw, .int le] ((camW ad) ++ (macW cs (ad 0) S F) ++ (hisW cs (ad 4) kd HS) ++ (macW cs (kd 0) (KS 0) (KF 0)) ++ (macW cs (kd 1) (KS 1) (KF 1)) ++ (macW cs (kd 2) (KS 2) (KF 2)) ++ (macW cs (kd 3) (KS 3) (KF 3))) (exT ((1 ≤ dw ∧ dw ≤ 20) ∧ (0 ≤ le ∧ le ≤ 5000)) zIA none) (some (.int (S 3))) ((camW ad) ++ (macW cs (ad 0) (upd (upd S 3 dw) 4 le) F) ++ (hisW cs (ad 4) kd (upd (upd HS 0 (nI (hNx p))) 1 (nI (min (n + 1) 4)))) ++ (macW cs (kd 0) (kup KS (hNx p) S 0) (kup KF (hNx p) F 0)) ++ (macW cs (kd 1) (kup KS (hNx p) S 1) (kup KF (hNx p) F 1)) ++ (macW cs (kd 2) (kup KS (hNx p) S 2) (kup KF (hNx p) F 2)) ++ (macW cs (kd 3) (kup KS (hNx p) S 3) (kup KF (hNx p) F 3))) := by
  refine zMx.of (own := RX7) (by decide) (Nat.le_of_ble_eq_true rfl) rfl ?_
  intro pq eq s mq below meth cq A ls hx hb hr hml hown hts hlk htab hE hK hA hP hD hS hl
  have hl : lv_has ls 4 [(0, .ref (ad 3 0)), (1, .int dw), (2, .int le)] := hl
  refine lv_iload_n hx hb dX7_setPawl_0 rfl (lv_at hl 1 rfl) ?_
  refine lv_iconst (v := 1) hx hb dX7_setPawl_1 (by decide) ?_
  refine lv_bipush (v := 20) hx hb dX7_setPawl_2 (by decide) ?_
  refine z_callS (wn := ((camW ad) ++ (macW cs (ad 0) S F) ++ (hisW cs (ad 4) kd HS) ++ (macW cs (kd 0) (KS 0) (KF 0)) ++ (macW cs (kd 1) (KS 1) (KF 1)) ++ (macW cs (kd 2) (KS 2) (KF 2)) ++ (macW cs (kd 3) (KS 3) (KF 3)))) ⟨hx, hb, hml, hown, hts⟩ zY_X7_within w_st_yX7_within w_ml_X7_55 [.int dw, .int 1, .int 20] [] (c_X7_within l D cs dw 1 20) hE hK hA hP hD hS [] rfl rfl rfl z_ins_nil rfl hl.1 (Nat.le_of_ble_eq_true rfl) ⟨Nat.le_of_ble_eq_true rfl, Nat.le_of_ble_eq_true rfl⟩ ⟨Nat.le_of_ble_eq_true rfl, Nat.le_of_ble_eq_true rfl⟩ dX7_setPawl_4 (fun H locs hP hD hS => ?_)
  refine lv_if_eq (tgt := 21) hx hb dX7_setPawl_7 (by decide) (fun c_1 => ?_) (fun c_1 => ?_)
  · skip
    have c_1 := bI_0.mp c_1
    exact z_throw hx hb hfl hml hown hts hlk htab hE hK hP hD hS hl.1 zThr_IA (List.mem_of_getElem? (i := 2) rfl) dX7_setPawl_21 dX7_setPawl_24 dX7_setPawl_25 dX7_setPawl_27 dX7_setPawl_30 ⟨Nat.le_of_ble_eq_true rfl, Nat.le_of_ble_eq_true rfl, Nat.le_of_ble_eq_true rfl, Nat.le_of_ble_eq_true rfl⟩ (Nat.le_of_ble_eq_true rfl) (Nat.le_of_ble_eq_true rfl) (by exact exT_f (fun h => c_1 h.1)) rfl
  · skip
    have c_1 := bI_n0 c_1
    refine lv_iload_n hx hb dX7_setPawl_10 rfl (lv_at hl 2 rfl) ?_
    refine lv_iconst (v := 0) hx hb dX7_setPawl_11 (by decide) ?_
    refine lv_sipush (v := 5000) hx hb dX7_setPawl_12 (by decide) ?_
    refine z_callS (wn := ((camW ad) ++ (macW cs (ad 0) S F) ++ (hisW cs (ad 4) kd HS) ++ (macW cs (kd 0) (KS 0) (KF 0)) ++ (macW cs (kd 1) (KS 1) (KF 1)) ++ (macW cs (kd 2) (KS 2) (KF 2)) ++ (macW cs (kd 3) (KS 3) (KF 3)))) ⟨hx, hb, hml, hown, hts⟩ zY_X7_within w_st_yX7_within w_ml_X7_55 [.int le, .int 0, .int 5000] [] (c_X7_within l D cs le 0 5000) hE hK hA hP hD hS [] rfl rfl rfl z_ins_nil rfl hl.1 (Nat.le_of_ble_eq_true rfl) ⟨Nat.le_of_ble_eq_true rfl, Nat.le_of_ble_eq_true rfl⟩ ⟨Nat.le_of_ble_eq_true rfl, Nat.le_of_ble_eq_true rfl⟩ dX7_setPawl_15 (fun H locs hP hD hS => ?_)
    refine lv_if_ne (tgt := 31) hx hb dX7_setPawl_18 (by decide) (fun c_2 => ?_) (fun c_2 => ?_)
    · skip
      have c_2 := bI_n0 c_2
      refine lv_aload_n hx hb dX7_setPawl_31 rfl (lv_at hl 0 rfl) ?_
      refine va_get (D := D) (ci := 7) (v := .ref (ad 4 0)) (C := RX7) (T := TX7) (N := 5) hx hb hts wsI_X7 hown hK hP 0 rfl rfl 1 (by decide) (hts _ w_fl_X7_19) (fun _ h9 => h9) rfl dX7_setPawl_32 ?_
      refine lv_aload_n hx hb dX7_setPawl_35 rfl (lv_at hl 0 rfl) ?_
      refine va_get (D := D) (ci := 7) (v := .ref (ad 0 0)) (C := RX7) (T := TX7) (N := 5) hx hb hts wsI_X7 hown hK hP 0 rfl rfl 0 (by decide) (hts _ w_fl_X7_10) (fun _ h9 => h9) rfl dX7_setPawl_36 ?_
      refine z_callV (wn := ((camW ad) ++ (macW cs (ad 0) S F) ++ (hisW cs (ad 4) kd (upd (upd HS 0 (nI (hNx p))) 1 (nI (min (n + 1) 4)))) ++ (macW cs (kd 0) (kup KS (hNx p) S 0) (kup KF (hNx p) F 0)) ++ (macW cs (kd 1) (kup KS (hNx p) S 1) (kup KF (hNx p) F 1)) ++ (macW cs (kd 2) (kup KS (hNx p) S 2) (kup KF (hNx p) F 2)) ++ (macW cs (kd 3) (kup KS (hNx p) S 3) (kup KF (hNx p) F 3)))) ⟨hx, hb, hml, hown, hts⟩ zY_X4_save w_im_yX4_save w_se_yX4_save w_ml_X7_43 [.ref (ad 0 0)] [] (c_X4_save l D cs (ad 4) (ad 0) kd HS KS KF S F p n hp hp4 hn hn4) hE hK hA hP hD hS [18, 19, 20, 21, 22, 23, 24, 25, 26, 27, 28, 29, 30, 31, 32, 33, 34, 35, 36, 37, 38, 39, 40, 41, 42, 43, 44, 45, 46, 47, 48, 49, 50, 51, 52, 53, 54, 55, 56, 57, 58, 59, 60, 61, 62, 63, 64, 65, 66, 67, 68, 69, 70, 71, 72, 73, 74, 75, 76, 77, 78, 79, 80, 81, 82, 83, 84, 85, 86, 87, 1, 2, 3, 4, 5, 6, 7, 8, 9, 10, 11, 12, 13, 14, 15, 16, 17] rfl rfl rfl rfl 4 rfl rfl rfl rfl hl.1 (Nat.le_of_ble_eq_true rfl) ⟨Nat.le_of_ble_eq_true rfl, Nat.le_of_ble_eq_true rfl⟩ ⟨Nat.le_of_ble_eq_true rfl, Nat.le_of_ble_eq_true rfl⟩ dX7_setPawl_39 (fun H locs hP hD hS => ?_)
      refine lv_aload_n hx hb dX7_setPawl_42 rfl (lv_at hl 0 rfl) ?_
      refine va_get (D := D) (ci := 7) (v := .ref (ad 0 0)) (C := RX7) (T := TX7) (N := 5) hx hb hts wsI_X7 hown hK hP 0 rfl rfl 0 (by decide) (hts _ w_fl_X7_10) (fun _ h9 => h9) rfl dX7_setPawl_43 ?_
      refine va_get (D := D) (ci := 5) (v := .int (S 3)) (C := RX5) (T := TX5) (N := 13) hx hb hts wsI_X5 hown hK hP 1 rfl rfl 3 (by decide) (hts _ w_fl_X7_66) (fun _ h9 => h9) rfl dX7_setPawl_46 ?_
      refine lv_istore_n (lv' := [(3, .int (S 3)), (0, .ref (ad 3 0)), (1, .int dw), (2, .int le)]) hx hb dX7_setPawl_49 rfl hl (by decide) rfl (fun ls hl => ?_)
      refine lv_aload_n hx hb dX7_setPawl_50 rfl (lv_at hl 1 rfl) ?_
      refine va_get (D := D) (ci := 7) (v := .ref (ad 0 0)) (C := RX7) (T := TX7) (N := 5) hx hb hts wsI_X7 hown hK hP 0 rfl rfl 0 (by decide) (hts _ w_fl_X7_10) (fun _ h9 => h9) rfl dX7_setPawl_51 ?_
      refine lv_iload_n hx hb dX7_setPawl_54 rfl (lv_at hl 2 rfl) ?_
      refine va_put (D := D) (ci := 5) (v := .int dw) (C := RX5) (T := TX5) (N := 13) hx hb hts wsI_X5 tyX5 tyX5_ok nmX5 hown hK hP hD hS 1 rfl rfl 3 (by decide) (hts _ w_fl_X7_66) (fun _ h9 => h9) rfl (tyX5_ok 3 (by decide)) rfl rfl (Nat.le_of_ble_eq_true rfl) dX7_setPawl_55 (fun H locs hP hD hS => ?_)
      have hP : va_P D vwCl ((camW ad) ++ (macW cs (ad 0) (upd S 3 dw) F) ++ (hisW cs (ad 4) kd (upd (upd HS 0 (nI (hNx p))) 1 (nI (min (n + 1) 4)))) ++ (macW cs (kd 0) (kup KS (hNx p) S 0) (kup KF (hNx p) F 0)) ++ (macW cs (kd 1) (kup KS (hNx p) S 1) (kup KF (hNx p) F 1)) ++ (macW cs (kd 2) (kup KS (hNx p) S 2) (kup KF (hNx p) F 2)) ++ (macW cs (kd 3) (kup KS (hNx p) S 3) (kup KF (hNx p) F 3))) H := hP
      have hD : va_D A ((camW ad) ++ (macW cs (ad 0) (upd S 3 dw) F) ++ (hisW cs (ad 4) kd (upd (upd HS 0 (nI (hNx p))) 1 (nI (min (n + 1) 4)))) ++ (macW cs (kd 0) (kup KS (hNx p) S 0) (kup KF (hNx p) F 0)) ++ (macW cs (kd 1) (kup KS (hNx p) S 1) (kup KF (hNx p) F 1)) ++ (macW cs (kd 2) (kup KS (hNx p) S 2) (kup KF (hNx p) F 2)) ++ (macW cs (kd 3) (kup KS (hNx p) S 3) (kup KF (hNx p) F 3))) := hD
      refine lv_aload_n hx hb dX7_setPawl_58 rfl (lv_at hl 1 rfl) ?_
      refine va_get (D := D) (ci := 7) (v := .ref (ad 0 0)) (C := RX7) (T := TX7) (N := 5) hx hb hts wsI_X7 hown hK hP 0 rfl rfl 0 (by decide) (hts _ w_fl_X7_10) (fun _ h9 => h9) rfl dX7_setPawl_59 ?_
      refine lv_iload_n hx hb dX7_setPawl_62 rfl (lv_at hl 3 rfl) ?_
      refine va_put (D := D) (ci := 5) (v := .int le) (C := RX5) (T := TX5) (N := 13) hx hb hts wsI_X5 tyX5 tyX5_ok nmX5 hown hK hP hD hS 1 rfl rfl 4 (by decide) (hts _ w_fl_X7_70) (fun _ h9 => h9) rfl (tyX5_ok 4 (by decide)) rfl rfl (Nat.le_of_ble_eq_true rfl) dX7_setPawl_63 (fun H locs hP hD hS => ?_)
      have hP : va_P D vwCl ((camW ad) ++ (macW cs (ad 0) (upd (upd S 3 dw) 4 le) F) ++ (hisW cs (ad 4) kd (upd (upd HS 0 (nI (hNx p))) 1 (nI (min (n + 1) 4)))) ++ (macW cs (kd 0) (kup KS (hNx p) S 0) (kup KF (hNx p) F 0)) ++ (macW cs (kd 1) (kup KS (hNx p) S 1) (kup KF (hNx p) F 1)) ++ (macW cs (kd 2) (kup KS (hNx p) S 2) (kup KF (hNx p) F 2)) ++ (macW cs (kd 3) (kup KS (hNx p) S 3) (kup KF (hNx p) F 3))) H := hP
      have hD : va_D A ((camW ad) ++ (macW cs (ad 0) (upd (upd S 3 dw) 4 le) F) ++ (hisW cs (ad 4) kd (upd (upd HS 0 (nI (hNx p))) 1 (nI (min (n + 1) 4)))) ++ (macW cs (kd 0) (kup KS (hNx p) S 0) (kup KF (hNx p) F 0)) ++ (macW cs (kd 1) (kup KS (hNx p) S 1) (kup KF (hNx p) F 1)) ++ (macW cs (kd 2) (kup KS (hNx p) S 2) (kup KF (hNx p) F 2)) ++ (macW cs (kd 3) (kup KS (hNx p) S 3) (kup KF (hNx p) F 3))) := hD
      refine lv_iload_n hx hb dX7_setPawl_66 rfl (lv_at hl 0 rfl) ?_
      exact z_iretX hx hb hr hlk hK hP hD hS dX7_setPawl_67 (by rw [exT_t ⟨c_1, c_2⟩]) (Nat.le_of_ble_eq_true rfl) (Nat.le_of_ble_eq_true rfl) rfl rfl
    · skip
      have c_2 := bI_0.mp c_2
      exact z_throw hx hb hfl hml hown hts hlk htab hE hK hP hD hS hl.1 zThr_IA (List.mem_of_getElem? (i := 2) rfl) dX7_setPawl_21 dX7_setPawl_24 dX7_setPawl_25 dX7_setPawl_27 dX7_setPawl_30 ⟨Nat.le_of_ble_eq_true rfl, Nat.le_of_ble_eq_true rfl, Nat.le_of_ble_eq_true rfl, Nat.le_of_ble_eq_true rfl⟩ (Nat.le_of_ble_eq_true rfl) (Nat.le_of_ble_eq_true rfl) (by exact exT_f (fun h => c_2 h.2)) rfl

set_option maxHeartbeats 4000000 in
set_option maxRecDepth 100000 in
theorem c_X7_setCam (l : Launch) (D : va_G) (cs : zCs) (hfl : l.stackTraces = false) (ad : Nat → Nat → Nat) (S : Nat → Int32) (F : Nat → Nat → Int32) (kd : Nat → Nat → Nat) (HS : Nat → Int32) (KS : Nat → Nat → Int32) (KF : Nat → Nat → Nat → Int32) (p n : Nat) (tr st th : Int32) (hp : HS 0 = nI p) (hp4 : p < 4) (hn : HS 1 = nI n) (hn4 : n ≤ 4) : zMx l D cs yX7_setCam cX7_setCam 4 (some FieldType.int) 7 154 2 12 [.ref (ad 3 0), .int tr, .int st, .int th] ((camW ad) ++ (macW cs (ad 0) S F) ++ (hisW cs (ad 4) kd HS) ++ (macW cs (kd 0) (KS 0) (KF 0)) ++ (macW cs (kd 1) (KS 1) (KF 1)) ++ (macW cs (kd 2) (KS 2) (KF 2)) ++ (macW cs (kd 3) (KS 3) (KF 3))) (exT (0 ≤ tr ∧ tr ≤ 4) zIO (exT (0 ≤ st ∧ st ≤ (S 0) - 1) zIO none)) (some (.int (jbc (camPut ((F 0) (nN tr)) st th)))) ((camW ad) ++ (macW cs (ad 0) S (zU F 0 (upd (F 0) (nN tr) (camPut ((F 0) (nN tr)) st th)))) ++ (hisW cs (ad 4) kd (upd (upd HS 0 (nI (hNx p))) 1 (nI (min (n + 1) 4)))) ++ (macW cs (kd 0) (kup KS (hNx p) S 0) (kup KF (hNx p) F 0)) ++ (macW cs (kd 1) (kup KS (hNx p) S 1) (kup KF (hNx p) F 1)) ++ (macW cs (kd 2) (kup KS (hNx p) S 2) (kup KF (hNx p) F 2)) ++ (macW cs (kd 3) (kup KS (hNx p) S 3) (kup KF (hNx p) F 3))) := by
  refine zMx.of (own := RX7) (by decide) (Nat.le_of_ble_eq_true rfl) rfl ?_
  intro pq eq s mq below meth cq A ls hx hb hr hml hown hts hlk htab hE hK hA hP hD hS hl
  have hl : lv_has ls 4 [(0, .ref (ad 3 0)), (1, .int tr), (2, .int st), (3, .int th)] := hl
  refine lv_iload_n hx hb dX7_setCam_0 rfl (lv_at hl 1 rfl) ?_
  refine z_callSx (wn := ((camW ad) ++ (macW cs (ad 0) S F) ++ (hisW cs (ad 4) kd HS) ++ (macW cs (kd 0) (KS 0) (KF 0)) ++ (macW cs (kd 1) (KS 1) (KF 1)) ++ (macW cs (kd 2) (KS 2) (KF 2)) ++ (macW cs (kd 3) (KS 3) (KF 3)))) ⟨hx, hb, hml, hown, hts⟩ zY_X7_requireCylinder w_st_yX7_requireCylinder w_ml_X7_36 [.int tr] [] (c_X7_requireCylinder l D cs hfl tr) hE hK hA hP hD hS [] rfl rfl rfl z_ins_nil rfl hl.1 (Nat.le_of_ble_eq_true rfl) ⟨Nat.le_of_ble_eq_true rfl, Nat.le_of_ble_eq_true rfl⟩ ⟨Nat.le_of_ble_eq_true rfl, Nat.le_of_ble_eq_true rfl⟩ dX7_setCam_1 (fun E ce q9 H locs hex hP hD hS hce hcv hcl => z_outX htab hlk hK hP hD hS hce hcv hcl (by exact exT_out hex) rfl (Nat.le_of_ble_eq_true rfl) (Nat.le_of_ble_eq_true rfl)) (fun hex H locs hP hD hS => ?_)
  have x_1 := exT_none hex
  refine lv_aload_n hx hb dX7_setCam_4 rfl (lv_at hl 0 rfl) ?_
  refine lv_iload_n hx hb dX7_setCam_5 rfl (lv_at hl 2 rfl) ?_
  refine z_callVx (wn := ((camW ad) ++ (macW cs (ad 0) S F) ++ (hisW cs (ad 4) kd HS) ++ (macW cs (kd 0) (KS 0) (KF 0)) ++ (macW cs (kd 1) (KS 1) (KF 1)) ++ (macW cs (kd 2) (KS 2) (KF 2)) ++ (macW cs (kd 3) (KS 3) (KF 3)))) ⟨hx, hb, hml, hown, hts⟩ zY_X7_requireStep w_im_yX7_requireStep w_se_yX7_requireStep w_ml_X7_40 [.int st] [] (c_X7_requireStep l D cs hfl ad S F st) hE hK hA hP hD hS [0, 1, 2, 3, 4, 5, 6, 7, 8, 9, 10, 11, 12, 13, 14, 15, 16, 17] rfl rfl rfl rfl 7 rfl rfl rfl rfl hl.1 (Nat.le_of_ble_eq_true rfl) ⟨Nat.le_of_ble_eq_true rfl, Nat.le_of_ble_eq_true rfl⟩ ⟨Nat.le_of_ble_eq_true rfl, Nat.le_of_ble_eq_true rfl⟩ dX7_setCam_6 (fun E ce q9 H locs hex hP hD hS hce hcv hcl => z_outX htab hlk hK hP hD hS hce hcv hcl (by rw [exT_t x_1]; exact exT_out hex) rfl (Nat.le_of_ble_eq_true rfl) (Nat.le_of_ble_eq_true rfl)) (fun hex H locs hP hD hS => ?_)
  have x_2 := exT_none hex
  obtain ⟨k, hk, rfl⟩ := z_nat4 x_1
  have hNk := nN_nI (k := k) (by omega)
  refine lv_aload_n hx hb dX7_setCam_9 rfl (lv_at hl 0 rfl) ?_
  refine va_get (D := D) (ci := 7) (v := .ref (ad 4 0)) (C := RX7) (T := TX7) (N := 5) hx hb hts wsI_X7 hown hK hP 0 rfl rfl 1 (by decide) (hts _ w_fl_X7_19) (fun _ h9 => h9) rfl dX7_setCam_10 ?_
  refine lv_aload_n hx hb dX7_setCam_13 rfl (lv_at hl 0 rfl) ?_
  refine va_get (D := D) (ci := 7) (v := .ref (ad 0 0)) (C := RX7) (T := TX7) (N := 5) hx hb hts wsI_X7 hown hK hP 0 rfl rfl 0 (by decide) (hts _ w_fl_X7_10) (fun _ h9 => h9) rfl dX7_setCam_14 ?_
  refine z_callV (wn := ((camW ad) ++ (macW cs (ad 0) S F) ++ (hisW cs (ad 4) kd (upd (upd HS 0 (nI (hNx p))) 1 (nI (min (n + 1) 4)))) ++ (macW cs (kd 0) (kup KS (hNx p) S 0) (kup KF (hNx p) F 0)) ++ (macW cs (kd 1) (kup KS (hNx p) S 1) (kup KF (hNx p) F 1)) ++ (macW cs (kd 2) (kup KS (hNx p) S 2) (kup KF (hNx p) F 2)) ++ (macW cs (kd 3) (kup KS (hNx p) S 3) (kup KF (hNx p) F 3)))) ⟨hx, hb, hml, hown, hts⟩ zY_X4_save w_im_yX4_save w_se_yX4_save w_ml_X7_43 [.ref (ad 0 0)] [] (c_X4_save l D cs (ad 4) (ad 0) kd HS KS KF S F p n hp hp4 hn hn4) hE hK hA hP hD hS [18, 19, 20, 21, 22, 23, 24, 25, 26, 27, 28, 29, 30, 31, 32, 33, 34, 35, 36, 37, 38, 39, 40, 41, 42, 43, 44, 45, 46, 47, 48, 49, 50, 51, 52, 53, 54, 55, 56, 57, 58, 59, 60, 61, 62, 63, 64, 65, 66, 67, 68, 69, 70, 71, 72, 73, 74, 75, 76, 77, 78, 79, 80, 81, 82, 83, 84, 85, 86, 87, 1, 2, 3, 4, 5, 6, 7, 8, 9, 10, 11, 12, 13, 14, 15, 16, 17] rfl rfl rfl rfl 4 rfl rfl rfl rfl hl.1 (Nat.le_of_ble_eq_true rfl) ⟨Nat.le_of_ble_eq_true rfl, Nat.le_of_ble_eq_true rfl⟩ ⟨Nat.le_of_ble_eq_true rfl, Nat.le_of_ble_eq_true rfl⟩ dX7_setCam_17 (fun H locs hP hD hS => ?_)
  refine lv_aload_n hx hb dX7_setCam_20 rfl (lv_at hl 0 rfl) ?_
  refine va_get (D := D) (ci := 7) (v := .ref (ad 0 0)) (C := RX7) (T := TX7) (N := 5) hx hb hts wsI_X7 hown hK hP 0 rfl rfl 0 (by decide) (hts _ w_fl_X7_10) (fun _ h9 => h9) rfl dX7_setCam_21 ?_
  refine lv_iload_n hx hb dX7_setCam_24 rfl (lv_at hl 1 rfl) ?_
  refine lv_iload_n hx hb dX7_setCam_25 rfl (lv_at hl 2 rfl) ?_
  refine lv_iload_n hx hb dX7_setCam_26 rfl (lv_at hl 3 rfl) ?_
  refine z_callV (wn := ((camW ad) ++ (macW cs (ad 0) S (zU F 0 (upd (F 0) k (camPut ((F 0) k) st th)))) ++ (hisW cs (ad 4) kd (upd (upd HS 0 (nI (hNx p))) 1 (nI (min (n + 1) 4)))) ++ (macW cs (kd 0) (kup KS (hNx p) S 0) (kup KF (hNx p) F 0)) ++ (macW cs (kd 1) (kup KS (hNx p) S 1) (kup KF (hNx p) F 1)) ++ (macW cs (kd 2) (kup KS (hNx p) S 2) (kup KF (hNx p) F 2)) ++ (macW cs (kd 3) (kup KS (hNx p) S 3) (kup KF (hNx p) F 3)))) ⟨hx, hb, hml, hown, hts⟩ zY_X5_putCam w_im_yX5_putCam w_se_yX5_putCam w_ml_X7_47 [.int (nI k), .int st, .int th] [] (c_X5_putCam l D cs (ad 0) S F k st th hk) hE hK hA hP hD hS [1, 2, 3, 4, 5, 6, 7, 8, 9, 10, 11, 12, 13, 14, 15, 16, 17] rfl rfl rfl rfl 5 rfl rfl rfl rfl hl.1 (Nat.le_of_ble_eq_true rfl) ⟨Nat.le_of_ble_eq_true rfl, Nat.le_of_ble_eq_true rfl⟩ ⟨Nat.le_of_ble_eq_true rfl, Nat.le_of_ble_eq_true rfl⟩ dX7_setCam_27 (fun H locs hP hD hS => ?_)
  refine lv_aload_n hx hb dX7_setCam_30 rfl (lv_at hl 0 rfl) ?_
  refine va_get (D := D) (ci := 7) (v := .ref (ad 0 0)) (C := RX7) (T := TX7) (N := 5) hx hb hts wsI_X7 hown hK hP 0 rfl rfl 0 (by decide) (hts _ w_fl_X7_10) (fun _ h9 => h9) rfl dX7_setCam_31 ?_
  refine lv_iload_n hx hb dX7_setCam_34 rfl (lv_at hl 1 rfl) ?_
  refine z_callV (wn := ((camW ad) ++ (macW cs (ad 0) S (zU F 0 (upd (F 0) k (camPut ((F 0) k) st th)))) ++ (hisW cs (ad 4) kd (upd (upd HS 0 (nI (hNx p))) 1 (nI (min (n + 1) 4)))) ++ (macW cs (kd 0) (kup KS (hNx p) S 0) (kup KF (hNx p) F 0)) ++ (macW cs (kd 1) (kup KS (hNx p) S 1) (kup KF (hNx p) F 1)) ++ (macW cs (kd 2) (kup KS (hNx p) S 2) (kup KF (hNx p) F 2)) ++ (macW cs (kd 3) (kup KS (hNx p) S 3) (kup KF (hNx p) F 3)))) ⟨hx, hb, hml, hown, hts⟩ zY_X5_camsOf w_im_yX5_camsOf w_se_yX5_camsOf w_ml_X7_51 [.int (nI k)] [] (c_X5_camsOf l D cs (ad 0) S (zU F 0 (upd (F 0) k (camPut ((F 0) k) st th))) k hk) hE hK hA hP hD hS [1, 2, 3, 4, 5, 6, 7, 8, 9, 10, 11, 12, 13, 14, 15, 16, 17] rfl rfl rfl rfl 5 rfl rfl rfl rfl hl.1 (Nat.le_of_ble_eq_true rfl) ⟨Nat.le_of_ble_eq_true rfl, Nat.le_of_ble_eq_true rfl⟩ ⟨Nat.le_of_ble_eq_true rfl, Nat.le_of_ble_eq_true rfl⟩ dX7_setCam_35 (fun H locs hP hD hS => ?_)
  exact z_iretX hx hb hr hlk hK hP hD hS dX7_setCam_38 (by rw [exT_t x_1, exT_t x_2]) (Nat.le_of_ble_eq_true rfl) (Nat.le_of_ble_eq_true rfl) (by show some (Value.int (jbc (upd (F 0) k (camPut (F 0 k) st th) k))) = _; rw [pk_us, hNk]) (by simp only [hNk])
