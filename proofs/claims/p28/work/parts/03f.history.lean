
set_option maxHeartbeats 4000000 in
set_option maxRecDepth 100000 in
theorem c_X4_newestPlace (l : Launch) (D : va_G) (cs : zCs) (a : Nat → Nat) (kd : Nat → Nat → Nat) (S : Nat → Int32) (p : Nat) (hp : S 0 = nI p) (hp4 : p < 4) : zM l D cs yX4_newestPlace cX4_newestPlace 1 (some (FieldType.object "CamDrum$Machine")) 1 22 0 0 [.ref (a 0)] (hisW cs a kd S) (some (.ref (kd p 0))) (hisW cs a kd S) := by
  refine zM.of (own := RX4) (by decide) (Nat.le_of_ble_eq_true rfl) rfl ?_
  intro pq eq s mq below meth cq A ls hx hb hr hml hown hts hlk hnm hE hK hA hP hD hS hl
  have hl : lv_has ls 1 [(0, .ref (a 0))] := hl
  refine lv_aload_n hx hb dX4_newestPlace_0 rfl (lv_at hl 0 rfl) ?_
  refine va_get (D := D) (ci := 4) (v := .int (S 0)) (C := RX4) (T := TX4) (N := 3) hx hb hts wsI_X4 hown hK hP 0 rfl rfl 1 (by decide) (hts _ w_fl_X4_18) (fun _ h9 => h9) rfl dX4_newestPlace_1 ?_
  refine z_top (y := nI p) hp ?_
  refine lv_iconst (v := 0) hx hb dX4_newestPlace_4 (by decide) ?_
  refine lv_iconst (v := 3) hx hb dX4_newestPlace_5 (by decide) ?_
  refine z_callSN (wn := (hisW cs a kd S)) ⟨hx, hb, hml, hown, hts⟩ zY_X7_within w_st_yX7_within (List.mem_of_getElem? (i := 10) rfl) [.int (nI p), .int 0, .int 3] [] (c_X7_within l D cs (nI p) 0 3) hE hK hA hP hD hS [] rfl rfl rfl z_ins_nil rfl hl.1 (Nat.le_of_ble_eq_true rfl) ⟨Nat.le_of_ble_eq_true rfl, Nat.le_of_ble_eq_true rfl⟩ ⟨Nat.le_of_ble_eq_true rfl, Nat.le_of_ble_eq_true rfl⟩ dX4_newestPlace_6 (fun H locs hP hD hS => ?_)
  refine lv_if_eq (tgt := 24) hx hb dX4_newestPlace_9 (by decide) (fun c_1 => ?_) (fun c_1 => ?_)
  · skip
    have c_1 := bI_0.mp c_1
    exact absurd ⟨nI_pos' (by omega), (nI_leI (b := 3) (by omega) (by omega)).mpr (by omega)⟩ c_1
  · skip
    have c_1 := bI_n0 c_1
    refine lv_aload_n hx hb dX4_newestPlace_12 rfl (lv_at hl 0 rfl) ?_
    refine va_get (D := D) (ci := 4) (v := .ref (a 1)) (C := RX4) (T := TX4) (N := 3) hx hb hts wsI_X4 hown hK hP 0 rfl rfl 0 (by decide) (hts _ w_fl_X4_11) (fun _ h9 => h9) rfl dX4_newestPlace_13 ?_
    refine lv_aload_n hx hb dX4_newestPlace_16 rfl (lv_at hl 0 rfl) ?_
    refine va_get (D := D) (ci := 4) (v := .int (S 0)) (C := RX4) (T := TX4) (N := 3) hx hb hts wsI_X4 hown hK hP 0 rfl rfl 1 (by decide) (hts _ w_fl_X4_18) (fun _ h9 => h9) rfl dX4_newestPlace_17 ?_
    refine z_top (y := nI p) hp ?_
    refine z_aald (k := p) (b := kd p 0) hx hb hK hP 1 rfl (by omega) (by decide) rfl dX4_newestPlace_20 ?_
    refine lv_goto (tgt := 25) hx hb dX4_newestPlace_21 (by decide) ?_
    exact z_aret hx hb hr hlk hK hP hD hS dX4_newestPlace_25 (Or.inl ⟨_, rfl⟩) (Or.inr ⟨_, rfl⟩) rfl rfl

set_option maxHeartbeats 4000000 in
set_option maxRecDepth 100000 in
theorem c_X4_save (l : Launch) (D : va_G) (cs : zCs) (a b : Nat → Nat) (kd : Nat → Nat → Nat) (S : Nat → Int32) (KS : Nat → Nat → Int32) (KF : Nat → Nat → Nat → Int32) (V : Nat → Int32) (G : Nat → Nat → Int32) (p n : Nat) (hp : S 0 = nI p) (hp4 : p < 4) (hn : S 1 = nI n) (hn4 : n ≤ 4) : zM l D cs yX4_save cX4_save 3 none 4 132 0 0 [.ref (a 0), .ref (b 0)] ((hisW cs a kd S) ++ (macW cs (kd 0) (KS 0) (KF 0)) ++ (macW cs (kd 1) (KS 1) (KF 1)) ++ (macW cs (kd 2) (KS 2) (KF 2)) ++ (macW cs (kd 3) (KS 3) (KF 3)) ++ (macW cs b V G)) none ((hisW cs a kd (upd (upd S 0 (nI (hNx p))) 1 (nI (min (n + 1) 4)))) ++ (macW cs (kd 0) (kup KS (hNx p) V 0) (kup KF (hNx p) G 0)) ++ (macW cs (kd 1) (kup KS (hNx p) V 1) (kup KF (hNx p) G 1)) ++ (macW cs (kd 2) (kup KS (hNx p) V 2) (kup KF (hNx p) G 2)) ++ (macW cs (kd 3) (kup KS (hNx p) V 3) (kup KF (hNx p) G 3)) ++ (macW cs b V G)) := by
  refine zM.of (own := RX4) (by decide) (Nat.le_of_ble_eq_true rfl) rfl ?_
  intro pq eq s mq below meth cq A ls hx hb hr hml hown hts hlk hnm hE hK hA hP hD hS hl
  have hl : lv_has ls 3 [(0, .ref (a 0)), (1, .ref (b 0))] := hl
  rcases (show p = 0 ∨ p = 1 ∨ p = 2 ∨ p = 3 by omega) with rfl | rfl | rfl | rfl
  · skip
    refine lv_aload_n hx hb dX4_save_0 rfl (lv_at hl 0 rfl) ?_
    refine lv_aload_n hx hb dX4_save_1 rfl (lv_at hl 0 rfl) ?_
    refine va_get (D := D) (ci := 4) (v := .int (S 0)) (C := RX4) (T := TX4) (N := 3) hx hb hts wsI_X4 hown hK hP 0 rfl rfl 1 (by decide) (hts _ w_fl_X4_18) (fun _ h9 => h9) rfl dX4_save_2 ?_
    refine z_top (y := nI 0) hp ?_
    refine lv_iconst (v := 1) hx hb dX4_save_5 (by decide) ?_
    refine lv_iadd hx hb dX4_save_6 ?_
    refine z_top (y := 1) (by decide) ?_
    refine lv_iconst (v := 4) hx hb dX4_save_7 (by decide) ?_
    refine lv_icmp_ge (tgt := 20) hx hb dX4_save_8 (by decide) (fun c_1 => ?_) (fun c_1 => ?_)
    · skip
      exact absurd c_1 (by decide)
    · skip
      refine lv_aload_n hx hb dX4_save_11 rfl (lv_at hl 0 rfl) ?_
      refine va_get (D := D) (ci := 4) (v := .int (S 0)) (C := RX4) (T := TX4) (N := 3) hx hb hts wsI_X4 hown hK hP 0 rfl rfl 1 (by decide) (hts _ w_fl_X4_18) (fun _ h9 => h9) rfl dX4_save_12 ?_
      refine z_top (y := nI 0) hp ?_
      refine lv_iconst (v := 1) hx hb dX4_save_15 (by decide) ?_
      refine lv_iadd hx hb dX4_save_16 ?_
      refine z_top (y := 1) (by decide) ?_
      refine lv_goto (tgt := 21) hx hb dX4_save_17 (by decide) ?_
      refine va_put (D := D) (ci := 4) (v := .int 1) (C := RX4) (T := TX4) (N := 3) hx hb hts wsI_X4 tyX4 tyX4_ok nmX4 hown hK hP hD hS 0 rfl rfl 1 (by decide) (hts _ w_fl_X4_18) (fun _ h9 => h9) rfl (tyX4_ok 1 (by decide)) rfl rfl (Nat.le_of_ble_eq_true rfl) dX4_save_21 (fun H locs hP hD hS => ?_)
      have hP : va_P D vwCl ((hisW cs a kd (upd S 0 1)) ++ (macW cs (kd 0) (KS 0) (KF 0)) ++ (macW cs (kd 1) (KS 1) (KF 1)) ++ (macW cs (kd 2) (KS 2) (KF 2)) ++ (macW cs (kd 3) (KS 3) (KF 3)) ++ (macW cs b V G)) H := hP
      have hD : va_D A ((hisW cs a kd (upd S 0 1)) ++ (macW cs (kd 0) (KS 0) (KF 0)) ++ (macW cs (kd 1) (KS 1) (KF 1)) ++ (macW cs (kd 2) (KS 2) (KF 2)) ++ (macW cs (kd 3) (KS 3) (KF 3)) ++ (macW cs b V G)) := hD
      refine lv_aload_n hx hb dX4_save_24 rfl (lv_at hl 0 rfl) ?_
      refine lv_aload_n hx hb dX4_save_25 rfl (lv_at hl 0 rfl) ?_
      refine va_get (D := D) (ci := 4) (v := .int (S 1)) (C := RX4) (T := TX4) (N := 3) hx hb hts wsI_X4 hown hK hP 0 rfl rfl 2 (by decide) (hts _ w_fl_X4_22) (fun _ h9 => h9) rfl dX4_save_26 ?_
      refine z_top (y := nI n) hn ?_
      refine lv_iconst (v := 1) hx hb dX4_save_29 (by decide) ?_
      refine lv_iadd hx hb dX4_save_30 ?_
      refine z_top (y := nI (n + 1)) (nI_add n 1) ?_
      refine lv_iconst (v := 4) hx hb dX4_save_31 (by decide) ?_
      refine va_mmin hx hb (hml.trans hl.1.symm) hown (hts _ w_ml_X4_25) (hts _ w_st_Mmin) (hts _ w_in_J9) (hts _ w_co_Mmin) (Nat.le_of_ble_eq_true rfl) (Nat.le_of_ble_eq_true rfl) (Nat.le_of_ble_eq_true rfl) (Nat.le_of_ble_eq_true rfl) dX4_save_32 ?_
      refine z_top (y := nI (min (n + 1) 4)) (zmin_nI (b := 4) (by omega) (by omega)) ?_
      refine va_put (D := D) (ci := 4) (v := .int (nI (min (n + 1) 4))) (C := RX4) (T := TX4) (N := 3) hx hb hts wsI_X4 tyX4 tyX4_ok nmX4 hown hK hP hD hS 0 rfl rfl 2 (by decide) (hts _ w_fl_X4_22) (fun _ h9 => h9) rfl (tyX4_ok 2 (by decide)) rfl rfl (Nat.le_of_ble_eq_true rfl) dX4_save_35 (fun H locs hP hD hS => ?_)
      have hP : va_P D vwCl ((hisW cs a kd (upd (upd S 0 1) 1 (nI (min (n + 1) 4)))) ++ (macW cs (kd 0) (KS 0) (KF 0)) ++ (macW cs (kd 1) (KS 1) (KF 1)) ++ (macW cs (kd 2) (KS 2) (KF 2)) ++ (macW cs (kd 3) (KS 3) (KF 3)) ++ (macW cs b V G)) H := hP
      have hD : va_D A ((hisW cs a kd (upd (upd S 0 1) 1 (nI (min (n + 1) 4)))) ++ (macW cs (kd 0) (KS 0) (KF 0)) ++ (macW cs (kd 1) (KS 1) (KF 1)) ++ (macW cs (kd 2) (KS 2) (KF 2)) ++ (macW cs (kd 3) (KS 3) (KF 3)) ++ (macW cs b V G)) := hD
      refine lv_aload_n hx hb dX4_save_38 rfl (lv_at hl 0 rfl) ?_
      refine z_callV (wn := ((hisW cs a kd (upd (upd S 0 1) 1 (nI (min (n + 1) 4)))) ++ (macW cs (kd 0) (KS 0) (KF 0)) ++ (macW cs (kd 1) (KS 1) (KF 1)) ++ (macW cs (kd 2) (KS 2) (KF 2)) ++ (macW cs (kd 3) (KS 3) (KF 3)) ++ (macW cs b V G))) ⟨hx, hb, hml, hown, hts⟩ zY_X4_newestPlace w_im_yX4_newestPlace w_se_yX4_newestPlace w_ml_X4_31 [] [] (c_X4_newestPlace l D cs a kd (upd (upd S 0 1) 1 (nI (min (n + 1) 4))) 1 rfl (by decide)) hE hK hA hP hD hS [0, 1] rfl rfl rfl rfl 4 rfl rfl rfl rfl hl.1 (Nat.le_of_ble_eq_true rfl) ⟨Nat.le_of_ble_eq_true rfl, Nat.le_of_ble_eq_true rfl⟩ ⟨Nat.le_of_ble_eq_true rfl, Nat.le_of_ble_eq_true rfl⟩ dX4_save_39 (fun H locs hP hD hS => ?_)
      refine lv_astore_n (lv' := [(2, .ref (kd 1 0)), (0, .ref (a 0)), (1, .ref (b 0))]) hx hb dX4_save_42 rfl hl (by decide) rfl (fun ls hl => ?_)
      refine lv_aload_n hx hb dX4_save_43 rfl (lv_at hl 0 rfl) ?_
      refine lv_ifnull hx hb dX4_save_44 ?_
      refine lv_aload_n hx hb dX4_save_47 rfl (lv_at hl 0 rfl) ?_
      refine lv_aload_n hx hb dX4_save_48 rfl (lv_at hl 2 rfl) ?_
      refine z_callV (wn := ((hisW cs a kd (upd (upd S 0 1) 1 (nI (min (n + 1) 4)))) ++ (macW cs (kd 0) (KS 0) (KF 0)) ++ (macW cs (kd 1) V G) ++ (macW cs (kd 2) (KS 2) (KF 2)) ++ (macW cs (kd 3) (KS 3) (KF 3)) ++ (macW cs b V G))) ⟨hx, hb, hml, hown, hts⟩ zY_X5_copyFrom w_im_yX5_copyFrom w_se_yX5_copyFrom w_ml_X4_35 [.ref (b 0)] [] (c_X5_copyFrom l D cs (kd 1) b (KS 1) V (KF 1) G) hE hK hA hP hD hS [19, 20, 21, 22, 23, 24, 25, 26, 27, 28, 29, 30, 31, 32, 33, 34, 35, 70, 71, 72, 73, 74, 75, 76, 77, 78, 79, 80, 81, 82, 83, 84, 85, 86] rfl rfl rfl rfl 5 rfl rfl rfl rfl hl.1 (Nat.le_of_ble_eq_true rfl) ⟨Nat.le_of_ble_eq_true rfl, Nat.le_of_ble_eq_true rfl⟩ ⟨Nat.le_of_ble_eq_true rfl, Nat.le_of_ble_eq_true rfl⟩ dX4_save_49 (fun H locs hP hD hS => ?_)
      exact z_vret hx hb hr hlk hK hP hD hS dX4_save_52 rfl rfl
  · skip
    refine lv_aload_n hx hb dX4_save_0 rfl (lv_at hl 0 rfl) ?_
    refine lv_aload_n hx hb dX4_save_1 rfl (lv_at hl 0 rfl) ?_
    refine va_get (D := D) (ci := 4) (v := .int (S 0)) (C := RX4) (T := TX4) (N := 3) hx hb hts wsI_X4 hown hK hP 0 rfl rfl 1 (by decide) (hts _ w_fl_X4_18) (fun _ h9 => h9) rfl dX4_save_2 ?_
    refine z_top (y := nI 1) hp ?_
    refine lv_iconst (v := 1) hx hb dX4_save_5 (by decide) ?_
    refine lv_iadd hx hb dX4_save_6 ?_
    refine z_top (y := 2) (by decide) ?_
    refine lv_iconst (v := 4) hx hb dX4_save_7 (by decide) ?_
    refine lv_icmp_ge (tgt := 20) hx hb dX4_save_8 (by decide) (fun c_2 => ?_) (fun c_2 => ?_)
    · skip
      exact absurd c_2 (by decide)
    · skip
      refine lv_aload_n hx hb dX4_save_11 rfl (lv_at hl 0 rfl) ?_
      refine va_get (D := D) (ci := 4) (v := .int (S 0)) (C := RX4) (T := TX4) (N := 3) hx hb hts wsI_X4 hown hK hP 0 rfl rfl 1 (by decide) (hts _ w_fl_X4_18) (fun _ h9 => h9) rfl dX4_save_12 ?_
      refine z_top (y := nI 1) hp ?_
      refine lv_iconst (v := 1) hx hb dX4_save_15 (by decide) ?_
      refine lv_iadd hx hb dX4_save_16 ?_
      refine z_top (y := 2) (by decide) ?_
      refine lv_goto (tgt := 21) hx hb dX4_save_17 (by decide) ?_
      refine va_put (D := D) (ci := 4) (v := .int 2) (C := RX4) (T := TX4) (N := 3) hx hb hts wsI_X4 tyX4 tyX4_ok nmX4 hown hK hP hD hS 0 rfl rfl 1 (by decide) (hts _ w_fl_X4_18) (fun _ h9 => h9) rfl (tyX4_ok 1 (by decide)) rfl rfl (Nat.le_of_ble_eq_true rfl) dX4_save_21 (fun H locs hP hD hS => ?_)
      have hP : va_P D vwCl ((hisW cs a kd (upd S 0 2)) ++ (macW cs (kd 0) (KS 0) (KF 0)) ++ (macW cs (kd 1) (KS 1) (KF 1)) ++ (macW cs (kd 2) (KS 2) (KF 2)) ++ (macW cs (kd 3) (KS 3) (KF 3)) ++ (macW cs b V G)) H := hP
      have hD : va_D A ((hisW cs a kd (upd S 0 2)) ++ (macW cs (kd 0) (KS 0) (KF 0)) ++ (macW cs (kd 1) (KS 1) (KF 1)) ++ (macW cs (kd 2) (KS 2) (KF 2)) ++ (macW cs (kd 3) (KS 3) (KF 3)) ++ (macW cs b V G)) := hD
      refine lv_aload_n hx hb dX4_save_24 rfl (lv_at hl 0 rfl) ?_
      refine lv_aload_n hx hb dX4_save_25 rfl (lv_at hl 0 rfl) ?_
      refine va_get (D := D) (ci := 4) (v := .int (S 1)) (C := RX4) (T := TX4) (N := 3) hx hb hts wsI_X4 hown hK hP 0 rfl rfl 2 (by decide) (hts _ w_fl_X4_22) (fun _ h9 => h9) rfl dX4_save_26 ?_
      refine z_top (y := nI n) hn ?_
      refine lv_iconst (v := 1) hx hb dX4_save_29 (by decide) ?_
      refine lv_iadd hx hb dX4_save_30 ?_
      refine z_top (y := nI (n + 1)) (nI_add n 1) ?_
      refine lv_iconst (v := 4) hx hb dX4_save_31 (by decide) ?_
      refine va_mmin hx hb (hml.trans hl.1.symm) hown (hts _ w_ml_X4_25) (hts _ w_st_Mmin) (hts _ w_in_J9) (hts _ w_co_Mmin) (Nat.le_of_ble_eq_true rfl) (Nat.le_of_ble_eq_true rfl) (Nat.le_of_ble_eq_true rfl) (Nat.le_of_ble_eq_true rfl) dX4_save_32 ?_
      refine z_top (y := nI (min (n + 1) 4)) (zmin_nI (b := 4) (by omega) (by omega)) ?_
      refine va_put (D := D) (ci := 4) (v := .int (nI (min (n + 1) 4))) (C := RX4) (T := TX4) (N := 3) hx hb hts wsI_X4 tyX4 tyX4_ok nmX4 hown hK hP hD hS 0 rfl rfl 2 (by decide) (hts _ w_fl_X4_22) (fun _ h9 => h9) rfl (tyX4_ok 2 (by decide)) rfl rfl (Nat.le_of_ble_eq_true rfl) dX4_save_35 (fun H locs hP hD hS => ?_)
      have hP : va_P D vwCl ((hisW cs a kd (upd (upd S 0 2) 1 (nI (min (n + 1) 4)))) ++ (macW cs (kd 0) (KS 0) (KF 0)) ++ (macW cs (kd 1) (KS 1) (KF 1)) ++ (macW cs (kd 2) (KS 2) (KF 2)) ++ (macW cs (kd 3) (KS 3) (KF 3)) ++ (macW cs b V G)) H := hP
      have hD : va_D A ((hisW cs a kd (upd (upd S 0 2) 1 (nI (min (n + 1) 4)))) ++ (macW cs (kd 0) (KS 0) (KF 0)) ++ (macW cs (kd 1) (KS 1) (KF 1)) ++ (macW cs (kd 2) (KS 2) (KF 2)) ++ (macW cs (kd 3) (KS 3) (KF 3)) ++ (macW cs b V G)) := hD
      refine lv_aload_n hx hb dX4_save_38 rfl (lv_at hl 0 rfl) ?_
      refine z_callV (wn := ((hisW cs a kd (upd (upd S 0 2) 1 (nI (min (n + 1) 4)))) ++ (macW cs (kd 0) (KS 0) (KF 0)) ++ (macW cs (kd 1) (KS 1) (KF 1)) ++ (macW cs (kd 2) (KS 2) (KF 2)) ++ (macW cs (kd 3) (KS 3) (KF 3)) ++ (macW cs b V G))) ⟨hx, hb, hml, hown, hts⟩ zY_X4_newestPlace w_im_yX4_newestPlace w_se_yX4_newestPlace w_ml_X4_31 [] [] (c_X4_newestPlace l D cs a kd (upd (upd S 0 2) 1 (nI (min (n + 1) 4))) 2 rfl (by decide)) hE hK hA hP hD hS [0, 1] rfl rfl rfl rfl 4 rfl rfl rfl rfl hl.1 (Nat.le_of_ble_eq_true rfl) ⟨Nat.le_of_ble_eq_true rfl, Nat.le_of_ble_eq_true rfl⟩ ⟨Nat.le_of_ble_eq_true rfl, Nat.le_of_ble_eq_true rfl⟩ dX4_save_39 (fun H locs hP hD hS => ?_)
      refine lv_astore_n (lv' := [(2, .ref (kd 2 0)), (0, .ref (a 0)), (1, .ref (b 0))]) hx hb dX4_save_42 rfl hl (by decide) rfl (fun ls hl => ?_)
      refine lv_aload_n hx hb dX4_save_43 rfl (lv_at hl 0 rfl) ?_
      refine lv_ifnull hx hb dX4_save_44 ?_
      refine lv_aload_n hx hb dX4_save_47 rfl (lv_at hl 0 rfl) ?_
      refine lv_aload_n hx hb dX4_save_48 rfl (lv_at hl 2 rfl) ?_
      refine z_callV (wn := ((hisW cs a kd (upd (upd S 0 2) 1 (nI (min (n + 1) 4)))) ++ (macW cs (kd 0) (KS 0) (KF 0)) ++ (macW cs (kd 1) (KS 1) (KF 1)) ++ (macW cs (kd 2) V G) ++ (macW cs (kd 3) (KS 3) (KF 3)) ++ (macW cs b V G))) ⟨hx, hb, hml, hown, hts⟩ zY_X5_copyFrom w_im_yX5_copyFrom w_se_yX5_copyFrom w_ml_X4_35 [.ref (b 0)] [] (c_X5_copyFrom l D cs (kd 2) b (KS 2) V (KF 2) G) hE hK hA hP hD hS [36, 37, 38, 39, 40, 41, 42, 43, 44, 45, 46, 47, 48, 49, 50, 51, 52, 70, 71, 72, 73, 74, 75, 76, 77, 78, 79, 80, 81, 82, 83, 84, 85, 86] rfl rfl rfl rfl 5 rfl rfl rfl rfl hl.1 (Nat.le_of_ble_eq_true rfl) ⟨Nat.le_of_ble_eq_true rfl, Nat.le_of_ble_eq_true rfl⟩ ⟨Nat.le_of_ble_eq_true rfl, Nat.le_of_ble_eq_true rfl⟩ dX4_save_49 (fun H locs hP hD hS => ?_)
      exact z_vret hx hb hr hlk hK hP hD hS dX4_save_52 rfl rfl
  · skip
    refine lv_aload_n hx hb dX4_save_0 rfl (lv_at hl 0 rfl) ?_
    refine lv_aload_n hx hb dX4_save_1 rfl (lv_at hl 0 rfl) ?_
    refine va_get (D := D) (ci := 4) (v := .int (S 0)) (C := RX4) (T := TX4) (N := 3) hx hb hts wsI_X4 hown hK hP 0 rfl rfl 1 (by decide) (hts _ w_fl_X4_18) (fun _ h9 => h9) rfl dX4_save_2 ?_
    refine z_top (y := nI 2) hp ?_
    refine lv_iconst (v := 1) hx hb dX4_save_5 (by decide) ?_
    refine lv_iadd hx hb dX4_save_6 ?_
    refine z_top (y := 3) (by decide) ?_
    refine lv_iconst (v := 4) hx hb dX4_save_7 (by decide) ?_
    refine lv_icmp_ge (tgt := 20) hx hb dX4_save_8 (by decide) (fun c_3 => ?_) (fun c_3 => ?_)
    · skip
      exact absurd c_3 (by decide)
    · skip
      refine lv_aload_n hx hb dX4_save_11 rfl (lv_at hl 0 rfl) ?_
      refine va_get (D := D) (ci := 4) (v := .int (S 0)) (C := RX4) (T := TX4) (N := 3) hx hb hts wsI_X4 hown hK hP 0 rfl rfl 1 (by decide) (hts _ w_fl_X4_18) (fun _ h9 => h9) rfl dX4_save_12 ?_
      refine z_top (y := nI 2) hp ?_
      refine lv_iconst (v := 1) hx hb dX4_save_15 (by decide) ?_
      refine lv_iadd hx hb dX4_save_16 ?_
      refine z_top (y := 3) (by decide) ?_
      refine lv_goto (tgt := 21) hx hb dX4_save_17 (by decide) ?_
      refine va_put (D := D) (ci := 4) (v := .int 3) (C := RX4) (T := TX4) (N := 3) hx hb hts wsI_X4 tyX4 tyX4_ok nmX4 hown hK hP hD hS 0 rfl rfl 1 (by decide) (hts _ w_fl_X4_18) (fun _ h9 => h9) rfl (tyX4_ok 1 (by decide)) rfl rfl (Nat.le_of_ble_eq_true rfl) dX4_save_21 (fun H locs hP hD hS => ?_)
      have hP : va_P D vwCl ((hisW cs a kd (upd S 0 3)) ++ (macW cs (kd 0) (KS 0) (KF 0)) ++ (macW cs (kd 1) (KS 1) (KF 1)) ++ (macW cs (kd 2) (KS 2) (KF 2)) ++ (macW cs (kd 3) (KS 3) (KF 3)) ++ (macW cs b V G)) H := hP
      have hD : va_D A ((hisW cs a kd (upd S 0 3)) ++ (macW cs (kd 0) (KS 0) (KF 0)) ++ (macW cs (kd 1) (KS 1) (KF 1)) ++ (macW cs (kd 2) (KS 2) (KF 2)) ++ (macW cs (kd 3) (KS 3) (KF 3)) ++ (macW cs b V G)) := hD
      refine lv_aload_n hx hb dX4_save_24 rfl (lv_at hl 0 rfl) ?_
      refine lv_aload_n hx hb dX4_save_25 rfl (lv_at hl 0 rfl) ?_
      refine va_get (D := D) (ci := 4) (v := .int (S 1)) (C := RX4) (T := TX4) (N := 3) hx hb hts wsI_X4 hown hK hP 0 rfl rfl 2 (by decide) (hts _ w_fl_X4_22) (fun _ h9 => h9) rfl dX4_save_26 ?_
      refine z_top (y := nI n) hn ?_
      refine lv_iconst (v := 1) hx hb dX4_save_29 (by decide) ?_
      refine lv_iadd hx hb dX4_save_30 ?_
      refine z_top (y := nI (n + 1)) (nI_add n 1) ?_
      refine lv_iconst (v := 4) hx hb dX4_save_31 (by decide) ?_
      refine va_mmin hx hb (hml.trans hl.1.symm) hown (hts _ w_ml_X4_25) (hts _ w_st_Mmin) (hts _ w_in_J9) (hts _ w_co_Mmin) (Nat.le_of_ble_eq_true rfl) (Nat.le_of_ble_eq_true rfl) (Nat.le_of_ble_eq_true rfl) (Nat.le_of_ble_eq_true rfl) dX4_save_32 ?_
      refine z_top (y := nI (min (n + 1) 4)) (zmin_nI (b := 4) (by omega) (by omega)) ?_
      refine va_put (D := D) (ci := 4) (v := .int (nI (min (n + 1) 4))) (C := RX4) (T := TX4) (N := 3) hx hb hts wsI_X4 tyX4 tyX4_ok nmX4 hown hK hP hD hS 0 rfl rfl 2 (by decide) (hts _ w_fl_X4_22) (fun _ h9 => h9) rfl (tyX4_ok 2 (by decide)) rfl rfl (Nat.le_of_ble_eq_true rfl) dX4_save_35 (fun H locs hP hD hS => ?_)
      have hP : va_P D vwCl ((hisW cs a kd (upd (upd S 0 3) 1 (nI (min (n + 1) 4)))) ++ (macW cs (kd 0) (KS 0) (KF 0)) ++ (macW cs (kd 1) (KS 1) (KF 1)) ++ (macW cs (kd 2) (KS 2) (KF 2)) ++ (macW cs (kd 3) (KS 3) (KF 3)) ++ (macW cs b V G)) H := hP
      have hD : va_D A ((hisW cs a kd (upd (upd S 0 3) 1 (nI (min (n + 1) 4)))) ++ (macW cs (kd 0) (KS 0) (KF 0)) ++ (macW cs (kd 1) (KS 1) (KF 1)) ++ (macW cs (kd 2) (KS 2) (KF 2)) ++ (macW cs (kd 3) (KS 3) (KF 3)) ++ (macW cs b V G)) := hD
      refine lv_aload_n hx hb dX4_save_38 rfl (lv_at hl 0 rfl) ?_
      refine z_callV (wn := ((hisW cs a kd (upd (upd S 0 3) 1 (nI (min (n + 1) 4)))) ++ (macW cs (kd 0) (KS 0) (KF 0)) ++ (macW cs (kd 1) (KS 1) (KF 1)) ++ (macW cs (kd 2) (KS 2) (KF 2)) ++ (macW cs (kd 3) (KS 3) (KF 3)) ++ (macW cs b V G))) ⟨hx, hb, hml, hown, hts⟩ zY_X4_newestPlace w_im_yX4_newestPlace w_se_yX4_newestPlace w_ml_X4_31 [] [] (c_X4_newestPlace l D cs a kd (upd (upd S 0 3) 1 (nI (min (n + 1) 4))) 3 rfl (by decide)) hE hK hA hP hD hS [0, 1] rfl rfl rfl rfl 4 rfl rfl rfl rfl hl.1 (Nat.le_of_ble_eq_true rfl) ⟨Nat.le_of_ble_eq_true rfl, Nat.le_of_ble_eq_true rfl⟩ ⟨Nat.le_of_ble_eq_true rfl, Nat.le_of_ble_eq_true rfl⟩ dX4_save_39 (fun H locs hP hD hS => ?_)
      refine lv_astore_n (lv' := [(2, .ref (kd 3 0)), (0, .ref (a 0)), (1, .ref (b 0))]) hx hb dX4_save_42 rfl hl (by decide) rfl (fun ls hl => ?_)
      refine lv_aload_n hx hb dX4_save_43 rfl (lv_at hl 0 rfl) ?_
      refine lv_ifnull hx hb dX4_save_44 ?_
      refine lv_aload_n hx hb dX4_save_47 rfl (lv_at hl 0 rfl) ?_
      refine lv_aload_n hx hb dX4_save_48 rfl (lv_at hl 2 rfl) ?_
      refine z_callV (wn := ((hisW cs a kd (upd (upd S 0 3) 1 (nI (min (n + 1) 4)))) ++ (macW cs (kd 0) (KS 0) (KF 0)) ++ (macW cs (kd 1) (KS 1) (KF 1)) ++ (macW cs (kd 2) (KS 2) (KF 2)) ++ (macW cs (kd 3) V G) ++ (macW cs b V G))) ⟨hx, hb, hml, hown, hts⟩ zY_X5_copyFrom w_im_yX5_copyFrom w_se_yX5_copyFrom w_ml_X4_35 [.ref (b 0)] [] (c_X5_copyFrom l D cs (kd 3) b (KS 3) V (KF 3) G) hE hK hA hP hD hS [53, 54, 55, 56, 57, 58, 59, 60, 61, 62, 63, 64, 65, 66, 67, 68, 69, 70, 71, 72, 73, 74, 75, 76, 77, 78, 79, 80, 81, 82, 83, 84, 85, 86] rfl rfl rfl rfl 5 rfl rfl rfl rfl hl.1 (Nat.le_of_ble_eq_true rfl) ⟨Nat.le_of_ble_eq_true rfl, Nat.le_of_ble_eq_true rfl⟩ ⟨Nat.le_of_ble_eq_true rfl, Nat.le_of_ble_eq_true rfl⟩ dX4_save_49 (fun H locs hP hD hS => ?_)
      exact z_vret hx hb hr hlk hK hP hD hS dX4_save_52 rfl rfl
  · skip
    refine lv_aload_n hx hb dX4_save_0 rfl (lv_at hl 0 rfl) ?_
    refine lv_aload_n hx hb dX4_save_1 rfl (lv_at hl 0 rfl) ?_
    refine va_get (D := D) (ci := 4) (v := .int (S 0)) (C := RX4) (T := TX4) (N := 3) hx hb hts wsI_X4 hown hK hP 0 rfl rfl 1 (by decide) (hts _ w_fl_X4_18) (fun _ h9 => h9) rfl dX4_save_2 ?_
    refine z_top (y := nI 3) hp ?_
    refine lv_iconst (v := 1) hx hb dX4_save_5 (by decide) ?_
    refine lv_iadd hx hb dX4_save_6 ?_
    refine z_top (y := 4) (by decide) ?_
    refine lv_iconst (v := 4) hx hb dX4_save_7 (by decide) ?_
    refine lv_icmp_ge (tgt := 20) hx hb dX4_save_8 (by decide) (fun c_4 => ?_) (fun c_4 => ?_)
    · skip
      refine lv_iconst (v := 0) hx hb dX4_save_20 (by decide) ?_
      refine va_put (D := D) (ci := 4) (v := .int 0) (C := RX4) (T := TX4) (N := 3) hx hb hts wsI_X4 tyX4 tyX4_ok nmX4 hown hK hP hD hS 0 rfl rfl 1 (by decide) (hts _ w_fl_X4_18) (fun _ h9 => h9) rfl (tyX4_ok 1 (by decide)) rfl rfl (Nat.le_of_ble_eq_true rfl) dX4_save_21 (fun H locs hP hD hS => ?_)
      have hP : va_P D vwCl ((hisW cs a kd (upd S 0 0)) ++ (macW cs (kd 0) (KS 0) (KF 0)) ++ (macW cs (kd 1) (KS 1) (KF 1)) ++ (macW cs (kd 2) (KS 2) (KF 2)) ++ (macW cs (kd 3) (KS 3) (KF 3)) ++ (macW cs b V G)) H := hP
      have hD : va_D A ((hisW cs a kd (upd S 0 0)) ++ (macW cs (kd 0) (KS 0) (KF 0)) ++ (macW cs (kd 1) (KS 1) (KF 1)) ++ (macW cs (kd 2) (KS 2) (KF 2)) ++ (macW cs (kd 3) (KS 3) (KF 3)) ++ (macW cs b V G)) := hD
      refine lv_aload_n hx hb dX4_save_24 rfl (lv_at hl 0 rfl) ?_
      refine lv_aload_n hx hb dX4_save_25 rfl (lv_at hl 0 rfl) ?_
      refine va_get (D := D) (ci := 4) (v := .int (S 1)) (C := RX4) (T := TX4) (N := 3) hx hb hts wsI_X4 hown hK hP 0 rfl rfl 2 (by decide) (hts _ w_fl_X4_22) (fun _ h9 => h9) rfl dX4_save_26 ?_
      refine z_top (y := nI n) hn ?_
      refine lv_iconst (v := 1) hx hb dX4_save_29 (by decide) ?_
      refine lv_iadd hx hb dX4_save_30 ?_
      refine z_top (y := nI (n + 1)) (nI_add n 1) ?_
      refine lv_iconst (v := 4) hx hb dX4_save_31 (by decide) ?_
      refine va_mmin hx hb (hml.trans hl.1.symm) hown (hts _ w_ml_X4_25) (hts _ w_st_Mmin) (hts _ w_in_J9) (hts _ w_co_Mmin) (Nat.le_of_ble_eq_true rfl) (Nat.le_of_ble_eq_true rfl) (Nat.le_of_ble_eq_true rfl) (Nat.le_of_ble_eq_true rfl) dX4_save_32 ?_
      refine z_top (y := nI (min (n + 1) 4)) (zmin_nI (b := 4) (by omega) (by omega)) ?_
      refine va_put (D := D) (ci := 4) (v := .int (nI (min (n + 1) 4))) (C := RX4) (T := TX4) (N := 3) hx hb hts wsI_X4 tyX4 tyX4_ok nmX4 hown hK hP hD hS 0 rfl rfl 2 (by decide) (hts _ w_fl_X4_22) (fun _ h9 => h9) rfl (tyX4_ok 2 (by decide)) rfl rfl (Nat.le_of_ble_eq_true rfl) dX4_save_35 (fun H locs hP hD hS => ?_)
      have hP : va_P D vwCl ((hisW cs a kd (upd (upd S 0 0) 1 (nI (min (n + 1) 4)))) ++ (macW cs (kd 0) (KS 0) (KF 0)) ++ (macW cs (kd 1) (KS 1) (KF 1)) ++ (macW cs (kd 2) (KS 2) (KF 2)) ++ (macW cs (kd 3) (KS 3) (KF 3)) ++ (macW cs b V G)) H := hP
      have hD : va_D A ((hisW cs a kd (upd (upd S 0 0) 1 (nI (min (n + 1) 4)))) ++ (macW cs (kd 0) (KS 0) (KF 0)) ++ (macW cs (kd 1) (KS 1) (KF 1)) ++ (macW cs (kd 2) (KS 2) (KF 2)) ++ (macW cs (kd 3) (KS 3) (KF 3)) ++ (macW cs b V G)) := hD
      refine lv_aload_n hx hb dX4_save_38 rfl (lv_at hl 0 rfl) ?_
      refine z_callV (wn := ((hisW cs a kd (upd (upd S 0 0) 1 (nI (min (n + 1) 4)))) ++ (macW cs (kd 0) (KS 0) (KF 0)) ++ (macW cs (kd 1) (KS 1) (KF 1)) ++ (macW cs (kd 2) (KS 2) (KF 2)) ++ (macW cs (kd 3) (KS 3) (KF 3)) ++ (macW cs b V G))) ⟨hx, hb, hml, hown, hts⟩ zY_X4_newestPlace w_im_yX4_newestPlace w_se_yX4_newestPlace w_ml_X4_31 [] [] (c_X4_newestPlace l D cs a kd (upd (upd S 0 0) 1 (nI (min (n + 1) 4))) 0 rfl (by decide)) hE hK hA hP hD hS [0, 1] rfl rfl rfl rfl 4 rfl rfl rfl rfl hl.1 (Nat.le_of_ble_eq_true rfl) ⟨Nat.le_of_ble_eq_true rfl, Nat.le_of_ble_eq_true rfl⟩ ⟨Nat.le_of_ble_eq_true rfl, Nat.le_of_ble_eq_true rfl⟩ dX4_save_39 (fun H locs hP hD hS => ?_)
      refine lv_astore_n (lv' := [(2, .ref (kd 0 0)), (0, .ref (a 0)), (1, .ref (b 0))]) hx hb dX4_save_42 rfl hl (by decide) rfl (fun ls hl => ?_)
      refine lv_aload_n hx hb dX4_save_43 rfl (lv_at hl 0 rfl) ?_
      refine lv_ifnull hx hb dX4_save_44 ?_
      refine lv_aload_n hx hb dX4_save_47 rfl (lv_at hl 0 rfl) ?_
      refine lv_aload_n hx hb dX4_save_48 rfl (lv_at hl 2 rfl) ?_
      refine z_callV (wn := ((hisW cs a kd (upd (upd S 0 0) 1 (nI (min (n + 1) 4)))) ++ (macW cs (kd 0) V G) ++ (macW cs (kd 1) (KS 1) (KF 1)) ++ (macW cs (kd 2) (KS 2) (KF 2)) ++ (macW cs (kd 3) (KS 3) (KF 3)) ++ (macW cs b V G))) ⟨hx, hb, hml, hown, hts⟩ zY_X5_copyFrom w_im_yX5_copyFrom w_se_yX5_copyFrom w_ml_X4_35 [.ref (b 0)] [] (c_X5_copyFrom l D cs (kd 0) b (KS 0) V (KF 0) G) hE hK hA hP hD hS [2, 3, 4, 5, 6, 7, 8, 9, 10, 11, 12, 13, 14, 15, 16, 17, 18, 70, 71, 72, 73, 74, 75, 76, 77, 78, 79, 80, 81, 82, 83, 84, 85, 86] rfl rfl rfl rfl 5 rfl rfl rfl rfl hl.1 (Nat.le_of_ble_eq_true rfl) ⟨Nat.le_of_ble_eq_true rfl, Nat.le_of_ble_eq_true rfl⟩ ⟨Nat.le_of_ble_eq_true rfl, Nat.le_of_ble_eq_true rfl⟩ dX4_save_49 (fun H locs hP hD hS => ?_)
      exact z_vret hx hb hr hlk hK hP hD hS dX4_save_52 rfl rfl
    · skip
      exact absurd (by decide) c_4

set_option maxHeartbeats 4000000 in
set_option maxRecDepth 100000 in
theorem c_X4_restore (l : Launch) (D : va_G) (cs : zCs) (a b : Nat → Nat) (kd : Nat → Nat → Nat) (S : Nat → Int32) (KS : Nat → Nat → Int32) (KF : Nat → Nat → Nat → Int32) (V : Nat → Int32) (G : Nat → Nat → Int32) (p n : Nat) (hp : S 0 = nI p) (hp4 : p < 4) (hn : S 1 = nI n) (hn4 : n ≤ 4) (hn1 : 1 ≤ n) : zM l D cs yX4_restore cX4_restore 3 none 4 132 0 0 [.ref (a 0), .ref (b 0)] ((hisW cs a kd S) ++ (macW cs (kd 0) (KS 0) (KF 0)) ++ (macW cs (kd 1) (KS 1) (KF 1)) ++ (macW cs (kd 2) (KS 2) (KF 2)) ++ (macW cs (kd 3) (KS 3) (KF 3)) ++ (macW cs b V G)) none ((hisW cs a kd (upd (upd S 0 (nI (hPv p))) 1 (nI (n - 1)))) ++ (macW cs (kd 0) (KS 0) (KF 0)) ++ (macW cs (kd 1) (KS 1) (KF 1)) ++ (macW cs (kd 2) (KS 2) (KF 2)) ++ (macW cs (kd 3) (KS 3) (KF 3)) ++ (macW cs b (KS p) (KF p))) := by
  refine zM.of (own := RX4) (by decide) (Nat.le_of_ble_eq_true rfl) rfl ?_
  intro pq eq s mq below meth cq A ls hx hb hr hml hown hts hlk hnm hE hK hA hP hD hS hl
  have hl : lv_has ls 3 [(0, .ref (a 0)), (1, .ref (b 0))] := hl
  rcases (show p = 0 ∨ p = 1 ∨ p = 2 ∨ p = 3 by omega) with rfl | rfl | rfl | rfl
  · skip
    refine lv_aload_n hx hb dX4_restore_0 rfl (lv_at hl 0 rfl) ?_
    refine z_callV (wn := ((hisW cs a kd S) ++ (macW cs (kd 0) (KS 0) (KF 0)) ++ (macW cs (kd 1) (KS 1) (KF 1)) ++ (macW cs (kd 2) (KS 2) (KF 2)) ++ (macW cs (kd 3) (KS 3) (KF 3)) ++ (macW cs b V G))) ⟨hx, hb, hml, hown, hts⟩ zY_X4_newestPlace w_im_yX4_newestPlace w_se_yX4_newestPlace w_ml_X4_31 [] [] (c_X4_newestPlace l D cs a kd S 0 hp (by decide)) hE hK hA hP hD hS [0, 1] rfl rfl rfl rfl 4 rfl rfl rfl rfl hl.1 (Nat.le_of_ble_eq_true rfl) ⟨Nat.le_of_ble_eq_true rfl, Nat.le_of_ble_eq_true rfl⟩ ⟨Nat.le_of_ble_eq_true rfl, Nat.le_of_ble_eq_true rfl⟩ dX4_restore_1 (fun H locs hP hD hS => ?_)
    refine lv_astore_n (lv' := [(2, .ref (kd 0 0)), (0, .ref (a 0)), (1, .ref (b 0))]) hx hb dX4_restore_4 rfl hl (by decide) rfl (fun ls hl => ?_)
    refine lv_aload_n hx hb dX4_restore_5 rfl (lv_at hl 0 rfl) ?_
    refine lv_ifnull hx hb dX4_restore_6 ?_
    refine lv_aload_n hx hb dX4_restore_9 rfl (lv_at hl 2 rfl) ?_
    refine lv_aload_n hx hb dX4_restore_10 rfl (lv_at hl 0 rfl) ?_
    refine z_callV (wn := ((hisW cs a kd S) ++ (macW cs (kd 0) (KS 0) (KF 0)) ++ (macW cs (kd 1) (KS 1) (KF 1)) ++ (macW cs (kd 2) (KS 2) (KF 2)) ++ (macW cs (kd 3) (KS 3) (KF 3)) ++ (macW cs b (KS 0) (KF 0)))) ⟨hx, hb, hml, hown, hts⟩ zY_X5_copyFrom w_im_yX5_copyFrom w_se_yX5_copyFrom w_ml_X4_35 [.ref (kd 0 0)] [] (c_X5_copyFrom l D cs b (kd 0) V (KS 0) G (KF 0)) hE hK hA hP hD hS [70, 71, 72, 73, 74, 75, 76, 77, 78, 79, 80, 81, 82, 83, 84, 85, 86, 2, 3, 4, 5, 6, 7, 8, 9, 10, 11, 12, 13, 14, 15, 16, 17, 18] rfl rfl rfl rfl 5 rfl rfl rfl rfl hl.1 (Nat.le_of_ble_eq_true rfl) ⟨Nat.le_of_ble_eq_true rfl, Nat.le_of_ble_eq_true rfl⟩ ⟨Nat.le_of_ble_eq_true rfl, Nat.le_of_ble_eq_true rfl⟩ dX4_restore_11 (fun H locs hP hD hS => ?_)
    refine lv_aload_n hx hb dX4_restore_14 rfl (lv_at hl 1 rfl) ?_
    refine lv_aload_n hx hb dX4_restore_15 rfl (lv_at hl 1 rfl) ?_
    refine va_get (D := D) (ci := 4) (v := .int (S 0)) (C := RX4) (T := TX4) (N := 3) hx hb hts wsI_X4 hown hK hP 0 rfl rfl 1 (by decide) (hts _ w_fl_X4_18) (fun _ h9 => h9) rfl dX4_restore_16 ?_
    refine z_top (y := nI 0) hp ?_
    refine lv_if_le (tgt := 31) hx hb dX4_restore_19 (by decide) (fun c_1 => ?_) (fun c_1 => ?_)
    · skip
      refine lv_iconst (v := 3) hx hb dX4_restore_31 (by decide) ?_
      refine va_put (D := D) (ci := 4) (v := .int 3) (C := RX4) (T := TX4) (N := 3) hx hb hts wsI_X4 tyX4 tyX4_ok nmX4 hown hK hP hD hS 0 rfl rfl 1 (by decide) (hts _ w_fl_X4_18) (fun _ h9 => h9) rfl (tyX4_ok 1 (by decide)) rfl rfl (Nat.le_of_ble_eq_true rfl) dX4_restore_32 (fun H locs hP hD hS => ?_)
      have hP : va_P D vwCl ((hisW cs a kd (upd S 0 3)) ++ (macW cs (kd 0) (KS 0) (KF 0)) ++ (macW cs (kd 1) (KS 1) (KF 1)) ++ (macW cs (kd 2) (KS 2) (KF 2)) ++ (macW cs (kd 3) (KS 3) (KF 3)) ++ (macW cs b (KS 0) (KF 0))) H := hP
      have hD : va_D A ((hisW cs a kd (upd S 0 3)) ++ (macW cs (kd 0) (KS 0) (KF 0)) ++ (macW cs (kd 1) (KS 1) (KF 1)) ++ (macW cs (kd 2) (KS 2) (KF 2)) ++ (macW cs (kd 3) (KS 3) (KF 3)) ++ (macW cs b (KS 0) (KF 0))) := hD
      refine lv_aload_n hx hb dX4_restore_35 rfl (lv_at hl 1 rfl) ?_
      refine lv_dup hx hb dX4_restore_36 rfl ?_
      refine va_get (D := D) (ci := 4) (v := .int (S 1)) (C := RX4) (T := TX4) (N := 3) hx hb hts wsI_X4 hown hK hP 0 rfl rfl 2 (by decide) (hts _ w_fl_X4_22) (fun _ h9 => h9) rfl dX4_restore_37 ?_
      refine z_top (y := nI n) hn ?_
      refine lv_iconst (v := 1) hx hb dX4_restore_40 (by decide) ?_
      refine lv_isub hx hb dX4_restore_41 ?_
      refine z_top (y := nI (n - 1)) (by rw [show n = n - 1 + 1 by omega]; exact nI_pred (n - 1)) ?_
      refine va_put (D := D) (ci := 4) (v := .int (nI (n - 1))) (C := RX4) (T := TX4) (N := 3) hx hb hts wsI_X4 tyX4 tyX4_ok nmX4 hown hK hP hD hS 0 rfl rfl 2 (by decide) (hts _ w_fl_X4_22) (fun _ h9 => h9) rfl (tyX4_ok 2 (by decide)) rfl rfl (Nat.le_of_ble_eq_true rfl) dX4_restore_42 (fun H locs hP hD hS => ?_)
      have hP : va_P D vwCl ((hisW cs a kd (upd (upd S 0 3) 1 (nI (n - 1)))) ++ (macW cs (kd 0) (KS 0) (KF 0)) ++ (macW cs (kd 1) (KS 1) (KF 1)) ++ (macW cs (kd 2) (KS 2) (KF 2)) ++ (macW cs (kd 3) (KS 3) (KF 3)) ++ (macW cs b (KS 0) (KF 0))) H := hP
      have hD : va_D A ((hisW cs a kd (upd (upd S 0 3) 1 (nI (n - 1)))) ++ (macW cs (kd 0) (KS 0) (KF 0)) ++ (macW cs (kd 1) (KS 1) (KF 1)) ++ (macW cs (kd 2) (KS 2) (KF 2)) ++ (macW cs (kd 3) (KS 3) (KF 3)) ++ (macW cs b (KS 0) (KF 0))) := hD
      exact z_vret hx hb hr hlk hK hP hD hS dX4_restore_45 rfl rfl
    · skip
      exact absurd (by decide) c_1
  · skip
    refine lv_aload_n hx hb dX4_restore_0 rfl (lv_at hl 0 rfl) ?_
    refine z_callV (wn := ((hisW cs a kd S) ++ (macW cs (kd 0) (KS 0) (KF 0)) ++ (macW cs (kd 1) (KS 1) (KF 1)) ++ (macW cs (kd 2) (KS 2) (KF 2)) ++ (macW cs (kd 3) (KS 3) (KF 3)) ++ (macW cs b V G))) ⟨hx, hb, hml, hown, hts⟩ zY_X4_newestPlace w_im_yX4_newestPlace w_se_yX4_newestPlace w_ml_X4_31 [] [] (c_X4_newestPlace l D cs a kd S 1 hp (by decide)) hE hK hA hP hD hS [0, 1] rfl rfl rfl rfl 4 rfl rfl rfl rfl hl.1 (Nat.le_of_ble_eq_true rfl) ⟨Nat.le_of_ble_eq_true rfl, Nat.le_of_ble_eq_true rfl⟩ ⟨Nat.le_of_ble_eq_true rfl, Nat.le_of_ble_eq_true rfl⟩ dX4_restore_1 (fun H locs hP hD hS => ?_)
    refine lv_astore_n (lv' := [(2, .ref (kd 1 0)), (0, .ref (a 0)), (1, .ref (b 0))]) hx hb dX4_restore_4 rfl hl (by decide) rfl (fun ls hl => ?_)
    refine lv_aload_n hx hb dX4_restore_5 rfl (lv_at hl 0 rfl) ?_
    refine lv_ifnull hx hb dX4_restore_6 ?_
    refine lv_aload_n hx hb dX4_restore_9 rfl (lv_at hl 2 rfl) ?_
    refine lv_aload_n hx hb dX4_restore_10 rfl (lv_at hl 0 rfl) ?_
    refine z_callV (wn := ((hisW cs a kd S) ++ (macW cs (kd 0) (KS 0) (KF 0)) ++ (macW cs (kd 1) (KS 1) (KF 1)) ++ (macW cs (kd 2) (KS 2) (KF 2)) ++ (macW cs (kd 3) (KS 3) (KF 3)) ++ (macW cs b (KS 1) (KF 1)))) ⟨hx, hb, hml, hown, hts⟩ zY_X5_copyFrom w_im_yX5_copyFrom w_se_yX5_copyFrom w_ml_X4_35 [.ref (kd 1 0)] [] (c_X5_copyFrom l D cs b (kd 1) V (KS 1) G (KF 1)) hE hK hA hP hD hS [70, 71, 72, 73, 74, 75, 76, 77, 78, 79, 80, 81, 82, 83, 84, 85, 86, 19, 20, 21, 22, 23, 24, 25, 26, 27, 28, 29, 30, 31, 32, 33, 34, 35] rfl rfl rfl rfl 5 rfl rfl rfl rfl hl.1 (Nat.le_of_ble_eq_true rfl) ⟨Nat.le_of_ble_eq_true rfl, Nat.le_of_ble_eq_true rfl⟩ ⟨Nat.le_of_ble_eq_true rfl, Nat.le_of_ble_eq_true rfl⟩ dX4_restore_11 (fun H locs hP hD hS => ?_)
    refine lv_aload_n hx hb dX4_restore_14 rfl (lv_at hl 1 rfl) ?_
    refine lv_aload_n hx hb dX4_restore_15 rfl (lv_at hl 1 rfl) ?_
    refine va_get (D := D) (ci := 4) (v := .int (S 0)) (C := RX4) (T := TX4) (N := 3) hx hb hts wsI_X4 hown hK hP 0 rfl rfl 1 (by decide) (hts _ w_fl_X4_18) (fun _ h9 => h9) rfl dX4_restore_16 ?_
    refine z_top (y := nI 1) hp ?_
    refine lv_if_le (tgt := 31) hx hb dX4_restore_19 (by decide) (fun c_2 => ?_) (fun c_2 => ?_)
    · skip
      exact absurd c_2 (by decide)
    · skip
      refine lv_aload_n hx hb dX4_restore_22 rfl (lv_at hl 1 rfl) ?_
      refine va_get (D := D) (ci := 4) (v := .int (S 0)) (C := RX4) (T := TX4) (N := 3) hx hb hts wsI_X4 hown hK hP 0 rfl rfl 1 (by decide) (hts _ w_fl_X4_18) (fun _ h9 => h9) rfl dX4_restore_23 ?_
      refine z_top (y := nI 1) hp ?_
      refine lv_iconst (v := 1) hx hb dX4_restore_26 (by decide) ?_
      refine lv_isub hx hb dX4_restore_27 ?_
      refine z_top (y := 0) (by decide) ?_
      refine lv_goto (tgt := 32) hx hb dX4_restore_28 (by decide) ?_
      refine va_put (D := D) (ci := 4) (v := .int 0) (C := RX4) (T := TX4) (N := 3) hx hb hts wsI_X4 tyX4 tyX4_ok nmX4 hown hK hP hD hS 0 rfl rfl 1 (by decide) (hts _ w_fl_X4_18) (fun _ h9 => h9) rfl (tyX4_ok 1 (by decide)) rfl rfl (Nat.le_of_ble_eq_true rfl) dX4_restore_32 (fun H locs hP hD hS => ?_)
      have hP : va_P D vwCl ((hisW cs a kd (upd S 0 0)) ++ (macW cs (kd 0) (KS 0) (KF 0)) ++ (macW cs (kd 1) (KS 1) (KF 1)) ++ (macW cs (kd 2) (KS 2) (KF 2)) ++ (macW cs (kd 3) (KS 3) (KF 3)) ++ (macW cs b (KS 1) (KF 1))) H := hP
      have hD : va_D A ((hisW cs a kd (upd S 0 0)) ++ (macW cs (kd 0) (KS 0) (KF 0)) ++ (macW cs (kd 1) (KS 1) (KF 1)) ++ (macW cs (kd 2) (KS 2) (KF 2)) ++ (macW cs (kd 3) (KS 3) (KF 3)) ++ (macW cs b (KS 1) (KF 1))) := hD
      refine lv_aload_n hx hb dX4_restore_35 rfl (lv_at hl 1 rfl) ?_
      refine lv_dup hx hb dX4_restore_36 rfl ?_
      refine va_get (D := D) (ci := 4) (v := .int (S 1)) (C := RX4) (T := TX4) (N := 3) hx hb hts wsI_X4 hown hK hP 0 rfl rfl 2 (by decide) (hts _ w_fl_X4_22) (fun _ h9 => h9) rfl dX4_restore_37 ?_
      refine z_top (y := nI n) hn ?_
      refine lv_iconst (v := 1) hx hb dX4_restore_40 (by decide) ?_
      refine lv_isub hx hb dX4_restore_41 ?_
      refine z_top (y := nI (n - 1)) (by rw [show n = n - 1 + 1 by omega]; exact nI_pred (n - 1)) ?_
      refine va_put (D := D) (ci := 4) (v := .int (nI (n - 1))) (C := RX4) (T := TX4) (N := 3) hx hb hts wsI_X4 tyX4 tyX4_ok nmX4 hown hK hP hD hS 0 rfl rfl 2 (by decide) (hts _ w_fl_X4_22) (fun _ h9 => h9) rfl (tyX4_ok 2 (by decide)) rfl rfl (Nat.le_of_ble_eq_true rfl) dX4_restore_42 (fun H locs hP hD hS => ?_)
      have hP : va_P D vwCl ((hisW cs a kd (upd (upd S 0 0) 1 (nI (n - 1)))) ++ (macW cs (kd 0) (KS 0) (KF 0)) ++ (macW cs (kd 1) (KS 1) (KF 1)) ++ (macW cs (kd 2) (KS 2) (KF 2)) ++ (macW cs (kd 3) (KS 3) (KF 3)) ++ (macW cs b (KS 1) (KF 1))) H := hP
      have hD : va_D A ((hisW cs a kd (upd (upd S 0 0) 1 (nI (n - 1)))) ++ (macW cs (kd 0) (KS 0) (KF 0)) ++ (macW cs (kd 1) (KS 1) (KF 1)) ++ (macW cs (kd 2) (KS 2) (KF 2)) ++ (macW cs (kd 3) (KS 3) (KF 3)) ++ (macW cs b (KS 1) (KF 1))) := hD
      exact z_vret hx hb hr hlk hK hP hD hS dX4_restore_45 rfl rfl
  · skip
    refine lv_aload_n hx hb dX4_restore_0 rfl (lv_at hl 0 rfl) ?_
    refine z_callV (wn := ((hisW cs a kd S) ++ (macW cs (kd 0) (KS 0) (KF 0)) ++ (macW cs (kd 1) (KS 1) (KF 1)) ++ (macW cs (kd 2) (KS 2) (KF 2)) ++ (macW cs (kd 3) (KS 3) (KF 3)) ++ (macW cs b V G))) ⟨hx, hb, hml, hown, hts⟩ zY_X4_newestPlace w_im_yX4_newestPlace w_se_yX4_newestPlace w_ml_X4_31 [] [] (c_X4_newestPlace l D cs a kd S 2 hp (by decide)) hE hK hA hP hD hS [0, 1] rfl rfl rfl rfl 4 rfl rfl rfl rfl hl.1 (Nat.le_of_ble_eq_true rfl) ⟨Nat.le_of_ble_eq_true rfl, Nat.le_of_ble_eq_true rfl⟩ ⟨Nat.le_of_ble_eq_true rfl, Nat.le_of_ble_eq_true rfl⟩ dX4_restore_1 (fun H locs hP hD hS => ?_)
    refine lv_astore_n (lv' := [(2, .ref (kd 2 0)), (0, .ref (a 0)), (1, .ref (b 0))]) hx hb dX4_restore_4 rfl hl (by decide) rfl (fun ls hl => ?_)
    refine lv_aload_n hx hb dX4_restore_5 rfl (lv_at hl 0 rfl) ?_
    refine lv_ifnull hx hb dX4_restore_6 ?_
    refine lv_aload_n hx hb dX4_restore_9 rfl (lv_at hl 2 rfl) ?_
    refine lv_aload_n hx hb dX4_restore_10 rfl (lv_at hl 0 rfl) ?_
    refine z_callV (wn := ((hisW cs a kd S) ++ (macW cs (kd 0) (KS 0) (KF 0)) ++ (macW cs (kd 1) (KS 1) (KF 1)) ++ (macW cs (kd 2) (KS 2) (KF 2)) ++ (macW cs (kd 3) (KS 3) (KF 3)) ++ (macW cs b (KS 2) (KF 2)))) ⟨hx, hb, hml, hown, hts⟩ zY_X5_copyFrom w_im_yX5_copyFrom w_se_yX5_copyFrom w_ml_X4_35 [.ref (kd 2 0)] [] (c_X5_copyFrom l D cs b (kd 2) V (KS 2) G (KF 2)) hE hK hA hP hD hS [70, 71, 72, 73, 74, 75, 76, 77, 78, 79, 80, 81, 82, 83, 84, 85, 86, 36, 37, 38, 39, 40, 41, 42, 43, 44, 45, 46, 47, 48, 49, 50, 51, 52] rfl rfl rfl rfl 5 rfl rfl rfl rfl hl.1 (Nat.le_of_ble_eq_true rfl) ⟨Nat.le_of_ble_eq_true rfl, Nat.le_of_ble_eq_true rfl⟩ ⟨Nat.le_of_ble_eq_true rfl, Nat.le_of_ble_eq_true rfl⟩ dX4_restore_11 (fun H locs hP hD hS => ?_)
    refine lv_aload_n hx hb dX4_restore_14 rfl (lv_at hl 1 rfl) ?_
    refine lv_aload_n hx hb dX4_restore_15 rfl (lv_at hl 1 rfl) ?_
    refine va_get (D := D) (ci := 4) (v := .int (S 0)) (C := RX4) (T := TX4) (N := 3) hx hb hts wsI_X4 hown hK hP 0 rfl rfl 1 (by decide) (hts _ w_fl_X4_18) (fun _ h9 => h9) rfl dX4_restore_16 ?_
    refine z_top (y := nI 2) hp ?_
    refine lv_if_le (tgt := 31) hx hb dX4_restore_19 (by decide) (fun c_3 => ?_) (fun c_3 => ?_)
    · skip
      exact absurd c_3 (by decide)
    · skip
      refine lv_aload_n hx hb dX4_restore_22 rfl (lv_at hl 1 rfl) ?_
      refine va_get (D := D) (ci := 4) (v := .int (S 0)) (C := RX4) (T := TX4) (N := 3) hx hb hts wsI_X4 hown hK hP 0 rfl rfl 1 (by decide) (hts _ w_fl_X4_18) (fun _ h9 => h9) rfl dX4_restore_23 ?_
      refine z_top (y := nI 2) hp ?_
      refine lv_iconst (v := 1) hx hb dX4_restore_26 (by decide) ?_
      refine lv_isub hx hb dX4_restore_27 ?_
      refine z_top (y := 1) (by decide) ?_
      refine lv_goto (tgt := 32) hx hb dX4_restore_28 (by decide) ?_
      refine va_put (D := D) (ci := 4) (v := .int 1) (C := RX4) (T := TX4) (N := 3) hx hb hts wsI_X4 tyX4 tyX4_ok nmX4 hown hK hP hD hS 0 rfl rfl 1 (by decide) (hts _ w_fl_X4_18) (fun _ h9 => h9) rfl (tyX4_ok 1 (by decide)) rfl rfl (Nat.le_of_ble_eq_true rfl) dX4_restore_32 (fun H locs hP hD hS => ?_)
      have hP : va_P D vwCl ((hisW cs a kd (upd S 0 1)) ++ (macW cs (kd 0) (KS 0) (KF 0)) ++ (macW cs (kd 1) (KS 1) (KF 1)) ++ (macW cs (kd 2) (KS 2) (KF 2)) ++ (macW cs (kd 3) (KS 3) (KF 3)) ++ (macW cs b (KS 2) (KF 2))) H := hP
      have hD : va_D A ((hisW cs a kd (upd S 0 1)) ++ (macW cs (kd 0) (KS 0) (KF 0)) ++ (macW cs (kd 1) (KS 1) (KF 1)) ++ (macW cs (kd 2) (KS 2) (KF 2)) ++ (macW cs (kd 3) (KS 3) (KF 3)) ++ (macW cs b (KS 2) (KF 2))) := hD
      refine lv_aload_n hx hb dX4_restore_35 rfl (lv_at hl 1 rfl) ?_
      refine lv_dup hx hb dX4_restore_36 rfl ?_
      refine va_get (D := D) (ci := 4) (v := .int (S 1)) (C := RX4) (T := TX4) (N := 3) hx hb hts wsI_X4 hown hK hP 0 rfl rfl 2 (by decide) (hts _ w_fl_X4_22) (fun _ h9 => h9) rfl dX4_restore_37 ?_
      refine z_top (y := nI n) hn ?_
      refine lv_iconst (v := 1) hx hb dX4_restore_40 (by decide) ?_
      refine lv_isub hx hb dX4_restore_41 ?_
      refine z_top (y := nI (n - 1)) (by rw [show n = n - 1 + 1 by omega]; exact nI_pred (n - 1)) ?_
      refine va_put (D := D) (ci := 4) (v := .int (nI (n - 1))) (C := RX4) (T := TX4) (N := 3) hx hb hts wsI_X4 tyX4 tyX4_ok nmX4 hown hK hP hD hS 0 rfl rfl 2 (by decide) (hts _ w_fl_X4_22) (fun _ h9 => h9) rfl (tyX4_ok 2 (by decide)) rfl rfl (Nat.le_of_ble_eq_true rfl) dX4_restore_42 (fun H locs hP hD hS => ?_)
      have hP : va_P D vwCl ((hisW cs a kd (upd (upd S 0 1) 1 (nI (n - 1)))) ++ (macW cs (kd 0) (KS 0) (KF 0)) ++ (macW cs (kd 1) (KS 1) (KF 1)) ++ (macW cs (kd 2) (KS 2) (KF 2)) ++ (macW cs (kd 3) (KS 3) (KF 3)) ++ (macW cs b (KS 2) (KF 2))) H := hP
      have hD : va_D A ((hisW cs a kd (upd (upd S 0 1) 1 (nI (n - 1)))) ++ (macW cs (kd 0) (KS 0) (KF 0)) ++ (macW cs (kd 1) (KS 1) (KF 1)) ++ (macW cs (kd 2) (KS 2) (KF 2)) ++ (macW cs (kd 3) (KS 3) (KF 3)) ++ (macW cs b (KS 2) (KF 2))) := hD
      exact z_vret hx hb hr hlk hK hP hD hS dX4_restore_45 rfl rfl
  · skip
    refine lv_aload_n hx hb dX4_restore_0 rfl (lv_at hl 0 rfl) ?_
    refine z_callV (wn := ((hisW cs a kd S) ++ (macW cs (kd 0) (KS 0) (KF 0)) ++ (macW cs (kd 1) (KS 1) (KF 1)) ++ (macW cs (kd 2) (KS 2) (KF 2)) ++ (macW cs (kd 3) (KS 3) (KF 3)) ++ (macW cs b V G))) ⟨hx, hb, hml, hown, hts⟩ zY_X4_newestPlace w_im_yX4_newestPlace w_se_yX4_newestPlace w_ml_X4_31 [] [] (c_X4_newestPlace l D cs a kd S 3 hp (by decide)) hE hK hA hP hD hS [0, 1] rfl rfl rfl rfl 4 rfl rfl rfl rfl hl.1 (Nat.le_of_ble_eq_true rfl) ⟨Nat.le_of_ble_eq_true rfl, Nat.le_of_ble_eq_true rfl⟩ ⟨Nat.le_of_ble_eq_true rfl, Nat.le_of_ble_eq_true rfl⟩ dX4_restore_1 (fun H locs hP hD hS => ?_)
    refine lv_astore_n (lv' := [(2, .ref (kd 3 0)), (0, .ref (a 0)), (1, .ref (b 0))]) hx hb dX4_restore_4 rfl hl (by decide) rfl (fun ls hl => ?_)
    refine lv_aload_n hx hb dX4_restore_5 rfl (lv_at hl 0 rfl) ?_
    refine lv_ifnull hx hb dX4_restore_6 ?_
    refine lv_aload_n hx hb dX4_restore_9 rfl (lv_at hl 2 rfl) ?_
    refine lv_aload_n hx hb dX4_restore_10 rfl (lv_at hl 0 rfl) ?_
    refine z_callV (wn := ((hisW cs a kd S) ++ (macW cs (kd 0) (KS 0) (KF 0)) ++ (macW cs (kd 1) (KS 1) (KF 1)) ++ (macW cs (kd 2) (KS 2) (KF 2)) ++ (macW cs (kd 3) (KS 3) (KF 3)) ++ (macW cs b (KS 3) (KF 3)))) ⟨hx, hb, hml, hown, hts⟩ zY_X5_copyFrom w_im_yX5_copyFrom w_se_yX5_copyFrom w_ml_X4_35 [.ref (kd 3 0)] [] (c_X5_copyFrom l D cs b (kd 3) V (KS 3) G (KF 3)) hE hK hA hP hD hS [70, 71, 72, 73, 74, 75, 76, 77, 78, 79, 80, 81, 82, 83, 84, 85, 86, 53, 54, 55, 56, 57, 58, 59, 60, 61, 62, 63, 64, 65, 66, 67, 68, 69] rfl rfl rfl rfl 5 rfl rfl rfl rfl hl.1 (Nat.le_of_ble_eq_true rfl) ⟨Nat.le_of_ble_eq_true rfl, Nat.le_of_ble_eq_true rfl⟩ ⟨Nat.le_of_ble_eq_true rfl, Nat.le_of_ble_eq_true rfl⟩ dX4_restore_11 (fun H locs hP hD hS => ?_)
    refine lv_aload_n hx hb dX4_restore_14 rfl (lv_at hl 1 rfl) ?_
    refine lv_aload_n hx hb dX4_restore_15 rfl (lv_at hl 1 rfl) ?_
    refine va_get (D := D) (ci := 4) (v := .int (S 0)) (C := RX4) (T := TX4) (N := 3) hx hb hts wsI_X4 hown hK hP 0 rfl rfl 1 (by decide) (hts _ w_fl_X4_18) (fun _ h9 => h9) rfl dX4_restore_16 ?_
    refine z_top (y := nI 3) hp ?_
    refine lv_if_le (tgt := 31) hx hb dX4_restore_19 (by decide) (fun c_4 => ?_) (fun c_4 => ?_)
    · skip
      exact absurd c_4 (by decide)
    · skip
      refine lv_aload_n hx hb dX4_restore_22 rfl (lv_at hl 1 rfl) ?_
      refine va_get (D := D) (ci := 4) (v := .int (S 0)) (C := RX4) (T := TX4) (N := 3) hx hb hts wsI_X4 hown hK hP 0 rfl rfl 1 (by decide) (hts _ w_fl_X4_18) (fun _ h9 => h9) rfl dX4_restore_23 ?_
      refine z_top (y := nI 3) hp ?_
      refine lv_iconst (v := 1) hx hb dX4_restore_26 (by decide) ?_
      refine lv_isub hx hb dX4_restore_27 ?_
      refine z_top (y := 2) (by decide) ?_
      refine lv_goto (tgt := 32) hx hb dX4_restore_28 (by decide) ?_
      refine va_put (D := D) (ci := 4) (v := .int 2) (C := RX4) (T := TX4) (N := 3) hx hb hts wsI_X4 tyX4 tyX4_ok nmX4 hown hK hP hD hS 0 rfl rfl 1 (by decide) (hts _ w_fl_X4_18) (fun _ h9 => h9) rfl (tyX4_ok 1 (by decide)) rfl rfl (Nat.le_of_ble_eq_true rfl) dX4_restore_32 (fun H locs hP hD hS => ?_)
      have hP : va_P D vwCl ((hisW cs a kd (upd S 0 2)) ++ (macW cs (kd 0) (KS 0) (KF 0)) ++ (macW cs (kd 1) (KS 1) (KF 1)) ++ (macW cs (kd 2) (KS 2) (KF 2)) ++ (macW cs (kd 3) (KS 3) (KF 3)) ++ (macW cs b (KS 3) (KF 3))) H := hP
      have hD : va_D A ((hisW cs a kd (upd S 0 2)) ++ (macW cs (kd 0) (KS 0) (KF 0)) ++ (macW cs (kd 1) (KS 1) (KF 1)) ++ (macW cs (kd 2) (KS 2) (KF 2)) ++ (macW cs (kd 3) (KS 3) (KF 3)) ++ (macW cs b (KS 3) (KF 3))) := hD
      refine lv_aload_n hx hb dX4_restore_35 rfl (lv_at hl 1 rfl) ?_
      refine lv_dup hx hb dX4_restore_36 rfl ?_
      refine va_get (D := D) (ci := 4) (v := .int (S 1)) (C := RX4) (T := TX4) (N := 3) hx hb hts wsI_X4 hown hK hP 0 rfl rfl 2 (by decide) (hts _ w_fl_X4_22) (fun _ h9 => h9) rfl dX4_restore_37 ?_
      refine z_top (y := nI n) hn ?_
      refine lv_iconst (v := 1) hx hb dX4_restore_40 (by decide) ?_
      refine lv_isub hx hb dX4_restore_41 ?_
      refine z_top (y := nI (n - 1)) (by rw [show n = n - 1 + 1 by omega]; exact nI_pred (n - 1)) ?_
      refine va_put (D := D) (ci := 4) (v := .int (nI (n - 1))) (C := RX4) (T := TX4) (N := 3) hx hb hts wsI_X4 tyX4 tyX4_ok nmX4 hown hK hP hD hS 0 rfl rfl 2 (by decide) (hts _ w_fl_X4_22) (fun _ h9 => h9) rfl (tyX4_ok 2 (by decide)) rfl rfl (Nat.le_of_ble_eq_true rfl) dX4_restore_42 (fun H locs hP hD hS => ?_)
      have hP : va_P D vwCl ((hisW cs a kd (upd (upd S 0 2) 1 (nI (n - 1)))) ++ (macW cs (kd 0) (KS 0) (KF 0)) ++ (macW cs (kd 1) (KS 1) (KF 1)) ++ (macW cs (kd 2) (KS 2) (KF 2)) ++ (macW cs (kd 3) (KS 3) (KF 3)) ++ (macW cs b (KS 3) (KF 3))) H := hP
      have hD : va_D A ((hisW cs a kd (upd (upd S 0 2) 1 (nI (n - 1)))) ++ (macW cs (kd 0) (KS 0) (KF 0)) ++ (macW cs (kd 1) (KS 1) (KF 1)) ++ (macW cs (kd 2) (KS 2) (KF 2)) ++ (macW cs (kd 3) (KS 3) (KF 3)) ++ (macW cs b (KS 3) (KF 3))) := hD
      exact z_vret hx hb hr hlk hK hP hD hS dX4_restore_45 rfl rfl
