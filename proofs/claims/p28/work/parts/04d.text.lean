theorem z_geK {K : Int32} {n g : Nat} (hK : K = nI n) (hn : n < 2 ^ 31) (hg : g ≤ n) (h : ¬ K ≤ nI g) : g < n := Nat.lt_of_not_le (fun q => h (by rw [hK]; exact (nI_leI hn (by omega)).mpr q))
theorem z_leK {K : Int32} {n g : Nat} (hK : K = nI n) (hn : n < 2 ^ 31) (hg : g ≤ n) (h : K ≤ nI g) : g = n := by rw [hK] at h; have := (nI_leI hn (by omega)).mp h; omega
set_option maxHeartbeats 4000000 in
set_option maxRecDepth 100000 in
theorem c_X7_useful (l : Launch) (D : va_G) (cs : zCs) (ad : Nat → Nat → Nat) (S : Nat → Int32) (F : Nat → Nat → Int32) (hm : ¬ S 12 ≤ 0) (hz : vf_n64 (FP.ddiv (FP.i2d (S 14)) (FP.i2d (S 12)))) : zM l D cs yX7_useful cX7_useful 1 (some FieldType.double) 0 0 0 0 [.ref (ad 3 0)] ((camW ad) ++ (macW cs (ad 0) S F)) (some (.double (FP.ddiv (FP.i2d (S 14)) (FP.i2d (S 12))))) ((camW ad) ++ (macW cs (ad 0) S F)) := by
  refine zM.of (own := RX7) (by decide) (Nat.le_of_ble_eq_true rfl) rfl ?_
  intro pq eq s mq below meth cq A ls hx hb hr hml hown hts hlk hnm hE hK hA hP hD hS hl
  have hl : lv_has ls 1 [(0, .ref (ad 3 0))] := hl
  refine lv_aload_n hx hb dX7_useful_0 rfl (lv_at hl 0 rfl) ?_
  refine va_get (D := D) (ci := 7) (v := .ref (ad 0 0)) (C := RX7) (T := TX7) (N := 5) hx hb hts wsI_X7 hown hK hP 0 rfl rfl 0 (by decide) (hts _ w_fl_X7_10) (fun _ h9 => h9) rfl dX7_useful_1 ?_
  refine va_get (D := D) (ci := 5) (v := .ref (ad 0 2)) (C := RX5) (T := TX5) (N := 13) hx hb hts wsI_X5 hown hK hP 1 rfl rfl 9 (by decide) (hts _ w_fl_X7_96) (fun _ h9 => h9) rfl dX7_useful_4 ?_
  refine va_get (D := D) (ci := 0) (v := .int (S 12)) (C := RX0) (T := TX0) (N := 7) hx hb hts wsI_X0 hown hK hP 3 rfl rfl 3 (by decide) (hts _ w_fl_X7_208) (fun _ h9 => h9) rfl dX7_useful_7 ?_
  refine lv_if_le (tgt := 39) hx hb dX7_useful_10 (by decide) (fun c_1 => ?_) (fun c_1 => ?_)
  · skip
    exact absurd c_1 hm
  · skip
    refine lv_aload_n hx hb dX7_useful_13 rfl (lv_at hl 0 rfl) ?_
    refine va_get (D := D) (ci := 7) (v := .ref (ad 0 0)) (C := RX7) (T := TX7) (N := 5) hx hb hts wsI_X7 hown hK hP 0 rfl rfl 0 (by decide) (hts _ w_fl_X7_10) (fun _ h9 => h9) rfl dX7_useful_14 ?_
    refine va_get (D := D) (ci := 5) (v := .ref (ad 0 2)) (C := RX5) (T := TX5) (N := 13) hx hb hts wsI_X5 hown hK hP 1 rfl rfl 9 (by decide) (hts _ w_fl_X7_96) (fun _ h9 => h9) rfl dX7_useful_17 ?_
    refine va_get (D := D) (ci := 0) (v := .int (S 14)) (C := RX0) (T := TX0) (N := 7) hx hb hts wsI_X0 hown hK hP 3 rfl rfl 5 (by decide) (hts _ w_fl_X7_211) (fun _ h9 => h9) rfl dX7_useful_20 ?_
    refine lv_i2d hx hb dX7_useful_23 ?_
    refine lv_aload_n hx hb dX7_useful_24 rfl (lv_at hl 0 rfl) ?_
    refine va_get (D := D) (ci := 7) (v := .ref (ad 0 0)) (C := RX7) (T := TX7) (N := 5) hx hb hts wsI_X7 hown hK hP 0 rfl rfl 0 (by decide) (hts _ w_fl_X7_10) (fun _ h9 => h9) rfl dX7_useful_25 ?_
    refine va_get (D := D) (ci := 5) (v := .ref (ad 0 2)) (C := RX5) (T := TX5) (N := 13) hx hb hts wsI_X5 hown hK hP 1 rfl rfl 9 (by decide) (hts _ w_fl_X7_96) (fun _ h9 => h9) rfl dX7_useful_28 ?_
    refine va_get (D := D) (ci := 0) (v := .int (S 12)) (C := RX0) (T := TX0) (N := 7) hx hb hts wsI_X0 hown hK hP 3 rfl rfl 3 (by decide) (hts _ w_fl_X7_208) (fun _ h9 => h9) rfl dX7_useful_31 ?_
    refine lv_i2d hx hb dX7_useful_34 ?_
    refine lv_ddiv hx hb dX7_useful_35 hz ?_
    refine lv_goto (tgt := 40) hx hb dX7_useful_36 (by decide) ?_
    exact z_dret hx hb hr hlk hK hP hD hS dX7_useful_40 rfl rfl

set_option maxHeartbeats 4000000 in
set_option maxRecDepth 100000 in
theorem c_X7_undo (l : Launch) (D : va_G) (cs : zCs) (hfl : l.stackTraces = false) (ad : Nat → Nat → Nat) (S : Nat → Int32) (F : Nat → Nat → Int32) (kd : Nat → Nat → Nat) (HS : Nat → Int32) (KS : Nat → Nat → Int32) (KF : Nat → Nat → Nat → Int32) (p n : Nat) (hp : HS 0 = nI p) (hp4 : p < 4) (hn : HS 1 = nI n) (hn4 : n ≤ 4) : zMx l D cs yX7_undo cX7_undo 1 (some FieldType.int) 6 154 1 6 [.ref (ad 3 0)] ((camW ad) ++ (macW cs (ad 0) S F) ++ (hisW cs (ad 4) kd HS) ++ (macW cs (kd 0) (KS 0) (KF 0)) ++ (macW cs (kd 1) (KS 1) (KF 1)) ++ (macW cs (kd 2) (KS 2) (KF 2)) ++ (macW cs (kd 3) (KS 3) (KF 3))) (exT (¬ nI n = 0) zIS none) (some (.int (nI (n - 1)))) ((camW ad) ++ (macW cs (ad 0) (KS p) (KF p)) ++ (hisW cs (ad 4) kd (upd (upd HS 0 (nI (hPv p))) 1 (nI (n - 1)))) ++ (macW cs (kd 0) (KS 0) (KF 0)) ++ (macW cs (kd 1) (KS 1) (KF 1)) ++ (macW cs (kd 2) (KS 2) (KF 2)) ++ (macW cs (kd 3) (KS 3) (KF 3))) := by
  refine zMx.of (own := RX7) (by decide) (Nat.le_of_ble_eq_true rfl) rfl ?_
  intro pq eq s mq below meth cq A ls hx hb hr hml hown hts hlk htab hE hK hA hP hD hS hl
  have hl : lv_has ls 1 [(0, .ref (ad 3 0))] := hl
  refine lv_aload_n hx hb dX7_undo_0 rfl (lv_at hl 0 rfl) ?_
  refine va_get (D := D) (ci := 7) (v := .ref (ad 4 0)) (C := RX7) (T := TX7) (N := 5) hx hb hts wsI_X7 hown hK hP 0 rfl rfl 1 (by decide) (hts _ w_fl_X7_19) (fun _ h9 => h9) rfl dX7_undo_1 ?_
  refine va_get (D := D) (ci := 4) (v := .int (HS 1)) (C := RX4) (T := TX4) (N := 3) hx hb hts wsI_X4 hown hK hP 18 rfl rfl 2 (by decide) (hts _ w_fl_X7_236) (fun _ h9 => h9) rfl dX7_undo_4 ?_
  refine z_top (y := nI n) hn ?_
  refine lv_if_ne (tgt := 20) hx hb dX7_undo_7 (by decide) (fun c_1 => ?_) (fun c_1 => ?_)
  · skip
    refine lv_aload_n hx hb dX7_undo_20 rfl (lv_at hl 0 rfl) ?_
    refine va_get (D := D) (ci := 7) (v := .ref (ad 4 0)) (C := RX7) (T := TX7) (N := 5) hx hb hts wsI_X7 hown hK hP 0 rfl rfl 1 (by decide) (hts _ w_fl_X7_19) (fun _ h9 => h9) rfl dX7_undo_21 ?_
    refine lv_aload_n hx hb dX7_undo_24 rfl (lv_at hl 0 rfl) ?_
    refine va_get (D := D) (ci := 7) (v := .ref (ad 0 0)) (C := RX7) (T := TX7) (N := 5) hx hb hts wsI_X7 hown hK hP 0 rfl rfl 0 (by decide) (hts _ w_fl_X7_10) (fun _ h9 => h9) rfl dX7_undo_25 ?_
    refine z_callV (wn := ((camW ad) ++ (macW cs (ad 0) (KS p) (KF p)) ++ (hisW cs (ad 4) kd (upd (upd HS 0 (nI (hPv p))) 1 (nI (n - 1)))) ++ (macW cs (kd 0) (KS 0) (KF 0)) ++ (macW cs (kd 1) (KS 1) (KF 1)) ++ (macW cs (kd 2) (KS 2) (KF 2)) ++ (macW cs (kd 3) (KS 3) (KF 3)))) ⟨hx, hb, hml, hown, hts⟩ zY_X4_restore w_im_yX4_restore w_se_yX4_restore w_ml_X7_239 [.ref (ad 0 0)] [] (c_X4_restore l D cs (ad 4) (ad 0) kd HS KS KF S F p n hp hp4 hn hn4 (Nat.pos_of_ne_zero (fun h => c_1 (by rw [h]; rfl)))) hE hK hA hP hD hS [18, 19, 20, 21, 22, 23, 24, 25, 26, 27, 28, 29, 30, 31, 32, 33, 34, 35, 36, 37, 38, 39, 40, 41, 42, 43, 44, 45, 46, 47, 48, 49, 50, 51, 52, 53, 54, 55, 56, 57, 58, 59, 60, 61, 62, 63, 64, 65, 66, 67, 68, 69, 70, 71, 72, 73, 74, 75, 76, 77, 78, 79, 80, 81, 82, 83, 84, 85, 86, 87, 1, 2, 3, 4, 5, 6, 7, 8, 9, 10, 11, 12, 13, 14, 15, 16, 17] rfl rfl rfl rfl 4 rfl rfl rfl rfl hl.1 (Nat.le_of_ble_eq_true rfl) ⟨Nat.le_of_ble_eq_true rfl, Nat.le_of_ble_eq_true rfl⟩ ⟨Nat.le_of_ble_eq_true rfl, Nat.le_of_ble_eq_true rfl⟩ dX7_undo_28 (fun H locs hP hD hS => ?_)
    refine lv_aload_n hx hb dX7_undo_31 rfl (lv_at hl 0 rfl) ?_
    refine va_get (D := D) (ci := 7) (v := .ref (ad 4 0)) (C := RX7) (T := TX7) (N := 5) hx hb hts wsI_X7 hown hK hP 0 rfl rfl 1 (by decide) (hts _ w_fl_X7_19) (fun _ h9 => h9) rfl dX7_undo_32 ?_
    refine va_get (D := D) (ci := 4) (v := .int (nI (n - 1))) (C := RX4) (T := TX4) (N := 3) hx hb hts wsI_X4 hown hK hP 18 rfl rfl 2 (by decide) (hts _ w_fl_X7_236) (fun _ h9 => h9) rfl dX7_undo_35 ?_
    exact z_iretX hx hb hr hlk hK hP hD hS dX7_undo_38 (by rw [exT_t c_1]) (Nat.le_of_ble_eq_true rfl) (Nat.le_of_ble_eq_true rfl) rfl rfl
  · skip
    exact z_throw hx hb hfl hml hown hts hlk htab hE hK hP hD hS hl.1 zThr_IS (List.mem_of_getElem? (i := 11) rfl) dX7_undo_10 dX7_undo_13 dX7_undo_14 dX7_undo_16 dX7_undo_19 ⟨Nat.le_of_ble_eq_true rfl, Nat.le_of_ble_eq_true rfl, Nat.le_of_ble_eq_true rfl, Nat.le_of_ble_eq_true rfl⟩ (Nat.le_of_ble_eq_true rfl) (Nat.le_of_ble_eq_true rfl) (by exact exT_f (fun h => h c_1)) rfl
