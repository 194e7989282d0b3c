theorem z_lt4 {x : Int32} (h : x < 4) : x ≤ 3 := by
  have := Int32.lt_iff_toInt_lt.mp h
  have e4 : (4 : Int32).toInt = 4 := by decide
  have e3 : (3 : Int32).toInt = 3 := by decide
  exact Int32.le_iff_toInt_le.mpr (by omega)
theorem z_natG {x y : Int32} {n : Nat} (hy : y = nI n) (hn : n ≤ 4) (h : 0 ≤ x ∧ x ≤ zmin y 4 - 1) : ∃ k : Nat, k < n ∧ x = nI k := by
  subst hy
  rw [show (4 : Int32) = nI 4 from rfl, zmin_nI (by omega) (by omega), Nat.min_eq_left hn] at h
  cases n with
  | zero =>
    obtain ⟨h1, h2⟩ := h
    have a1 := Int32.le_iff_toInt_le.mp h1
    have a2 := Int32.le_iff_toInt_le.mp h2
    have e0 : (0 : Int32).toInt = 0 := by decide
    have e1 : (nI 0 - 1 : Int32).toInt = -1 := by decide
    omega
  | succ n =>
    rw [nI_pred] at h
    obtain ⟨k, hk, e⟩ := z_nat (n := n) (nI_toInt (by omega)) h
    exact ⟨k, by omega, e⟩
theorem z_nat500 {x : Int32} (h : 1 ≤ x ∧ x ≤ 500) : ∃ k : Nat, (1 ≤ k ∧ k ≤ 500) ∧ x = nI k := by
  obtain ⟨k, hk, e⟩ := z_nat (n := 500) (by decide) ⟨Int32.le_trans (by decide) h.1, h.2⟩
  refine ⟨k, ⟨?_, hk⟩, e⟩
  have := Int32.le_iff_toInt_le.mp h.1
  rw [e, nI_toInt (by omega)] at this
  have e1 : (1 : Int32).toInt = 1 := by decide
  omega
def tkN (p : zP) : Nat → zP
  | 0 => p
  | i + 1 => tkP (tkN p i)
set_option maxHeartbeats 4000000 in
set_option maxRecDepth 100000 in
theorem c_X7_setCylinder (l : Launch) (D : va_G) (cs : zCs) (hfl : l.stackTraces = false) (ad : Nat → Nat → Nat) (S : Nat → Int32) (F : Nat → Nat → Int32) (kd : Nat → Nat → Nat) (HS : Nat → Int32) (KS : Nat → Nat → Int32) (KF : Nat → Nat → Nat → Int32) (p n : Nat) (cy sz sp lk : Int32) (hp : HS 0 = nI p) (hp4 : p < 4) (hn : HS 1 = nI n) (hn4 : n ≤ 4) : zMx l D cs yX7_setCylinder cX7_setCylinder 5 (some FieldType.int) 7 154 2 12 [.ref (ad 3 0), .int cy, .int sz, .int sp, .int lk] ((camW ad) ++ (macW cs (ad 0) S F) ++ (hisW cs (ad 4) kd HS) ++ (macW cs (kd 0) (KS 0) (KF 0)) ++ (macW cs (kd 1) (KS 1) (KF 1)) ++ (macW cs (kd 2) (KS 2) (KF 2)) ++ (macW cs (kd 3) (KS 3) (KF 3))) (exT (0 ≤ cy ∧ cy ≤ 4) zIO (exT ((1 ≤ sz ∧ sz ≤ 9) ∧ (1 ≤ sp ∧ sp ≤ 50) ∧ (0 ≤ lk ∧ lk ≤ 20)) zIA none)) (some (.int ((F 1) (nN cy)))) ((camW ad) ++ (macW cs (ad 0) S (zU (zU (zU F 2 (upd (F 2) (nN cy) sz)) 3 (upd (F 3) (nN cy) sp)) 4 (upd (F 4) (nN cy) lk))) ++ (hisW cs (ad 4) kd (upd (upd HS 0 (nI (hNx p))) 1 (nI (min (n + 1) 4)))) ++ (macW cs (kd 0) (kup KS (hNx p) S 0) (kup KF (hNx p) F 0)) ++ (macW cs (kd 1) (kup KS (hNx p) S 1) (kup KF (hNx p) F 1)) ++ (macW cs (kd 2) (kup KS (hNx p) S 2) (kup KF (hNx p) F 2)) ++ (macW cs (kd 3) (kup KS (hNx p) S 3) (kup KF (hNx p) F 3))) := by
  refine zMx.of (own := RX7) (by decide) (Nat.le_of_ble_eq_true rfl) rfl ?_
  intro pq eq s mq below meth cq A ls hx hb hr hml hown hts hlk htab hE hK hA hP hD hS hl
  have hl : lv_has ls 5 [(0, .ref (ad 3 0)), (1, .int cy), (2, .int sz), (3, .int sp), (4, .int lk)] := hl
  refine lv_iload_n hx hb dX7_setCylinder_0 rfl (lv_at hl 1 rfl) ?_
  refine z_callSx (wn := ((camW ad) ++ (macW cs (ad 0) S F) ++ (hisW cs (ad 4) kd HS) ++ (macW cs (kd 0) (KS 0) (KF 0)) ++ (macW cs (kd 1) (KS 1) (KF 1)) ++ (macW cs (kd 2) (KS 2) (KF 2)) ++ (macW cs (kd 3) (KS 3) (KF 3)))) ⟨hx, hb, hml, hown, hts⟩ zY_X7_requireCylinder w_st_yX7_requireCylinder w_ml_X7_36 [.int cy] [] (c_X7_requireCylinder l D cs hfl cy) hE hK hA hP hD hS [] rfl rfl rfl z_ins_nil rfl hl.1 (Nat.le_of_ble_eq_true rfl) ⟨Nat.le_of_ble_eq_true rfl, Nat.le_of_ble_eq_true rfl⟩ ⟨Nat.le_of_ble_eq_true rfl, Nat.le_of_ble_eq_true rfl⟩ dX7_setCylinder_1 (fun E ce q9 H locs hex hP hD hS hce hcv hcl => z_outX htab hlk hK hP hD hS hce hcv hcl (by exact exT_out hex) rfl (Nat.le_of_ble_eq_true rfl) (Nat.le_of_ble_eq_true rfl)) (fun hex H locs hP hD hS => ?_)
  have x_1 := exT_none hex
  obtain ⟨k, hk, rfl⟩ := z_nat4 x_1
  have hNk := nN_nI (k := k) (by omega)
  refine lv_iload_n hx hb dX7_setCylinder_4 rfl (lv_at hl 2 rfl) ?_
  refine lv_iconst (v := 1) hx hb dX7_setCylinder_5 (by decide) ?_
  refine lv_bipush (v := 9) hx hb dX7_setCylinder_6 (by decide) ?_
  refine z_callS (wn := ((camW ad) ++ (macW cs (ad 0) S F) ++ (hisW cs (ad 4) kd HS) ++ (macW cs (kd 0) (KS 0) (KF 0)) ++ (macW cs (kd 1) (KS 1) (KF 1)) ++ (macW cs (kd 2) (KS 2) (KF 2)) ++ (macW cs (kd 3) (KS 3) (KF 3)))) ⟨hx, hb, hml, hown, hts⟩ zY_X7_within w_st_yX7_within w_ml_X7_55 [.int sz, .int 1, .int 9] [] (c_X7_within l D cs sz 1 9) hE hK hA hP hD hS [] rfl rfl rfl z_ins_nil rfl hl.1 (Nat.le_of_ble_eq_true rfl) ⟨Nat.le_of_ble_eq_true rfl, Nat.le_of_ble_eq_true rfl⟩ ⟨Nat.le_of_ble_eq_true rfl, Nat.le_of_ble_eq_true rfl⟩ dX7_setCylinder_8 (fun H locs hP hD hS => ?_)
  refine lv_if_eq (tgt := 35) hx hb dX7_setCylinder_11 (by decide) (fun c_2 => ?_) (fun c_2 => ?_)
  · skip
    have c_2 := bI_0.mp c_2
    exact z_throw hx hb hfl hml hown hts hlk htab hE hK hP hD hS hl.1 zThr_IA (List.mem_of_getElem? (i := 3) rfl) dX7_setCylinder_35 dX7_setCylinder_38 dX7_setCylinder_39 dX7_setCylinder_41 dX7_setCylinder_44 ⟨Nat.le_of_ble_eq_true rfl, Nat.le_of_ble_eq_true rfl, Nat.le_of_ble_eq_true rfl, Nat.le_of_ble_eq_true rfl⟩ (Nat.le_of_ble_eq_true rfl) (Nat.le_of_ble_eq_true rfl) (by rw [exT_t x_1]; exact exT_f (fun h => c_2 h.1)) rfl
  · skip
    have c_2 := bI_n0 c_2
    refine lv_iload_n hx hb dX7_setCylinder_14 rfl (lv_at hl 3 rfl) ?_
    refine lv_iconst (v := 1) hx hb dX7_setCylinder_15 (by decide) ?_
    refine lv_bipush (v := 50) hx hb dX7_setCylinder_16 (by decide) ?_
    refine z_callS (wn := ((camW ad) ++ (macW cs (ad 0) S F) ++ (hisW cs (ad 4) kd HS) ++ (macW cs (kd 0) (KS 0) (KF 0)) ++ (macW cs (kd 1) (KS 1) (KF 1)) ++ (macW cs (kd 2) (KS 2) (KF 2)) ++ (macW cs (kd 3) (KS 3) (KF 3)))) ⟨hx, hb, hml, hown, hts⟩ zY_X7_within w_st_yX7_within w_ml_X7_55 [.int sp, .int 1, .int 50] [] (c_X7_within l D cs sp 1 50) hE hK hA hP hD hS [] rfl rfl rfl z_ins_nil rfl hl.1 (Nat.le_of_ble_eq_true rfl) ⟨Nat.le_of_ble_eq_true rfl, Nat.le_of_ble_eq_true rfl⟩ ⟨Nat.le_of_ble_eq_true rfl, Nat.le_of_ble_eq_true rfl⟩ dX7_setCylinder_18 (fun H locs hP hD hS => ?_)
    refine lv_if_eq (tgt := 35) hx hb dX7_setCylinder_21 (by decide) (fun c_3 => ?_) (fun c_3 => ?_)
    · skip
      have c_3 := bI_0.mp c_3
      exact z_throw hx hb hfl hml hown hts hlk htab hE hK hP hD hS hl.1 zThr_IA (List.mem_of_getElem? (i := 3) rfl) dX7_setCylinder_35 dX7_setCylinder_38 dX7_setCylinder_39 dX7_setCylinder_41 dX7_setCylinder_44 ⟨Nat.le_of_ble_eq_true rfl, Nat.le_of_ble_eq_true rfl, Nat.le_of_ble_eq_true rfl, Nat.le_of_ble_eq_true rfl⟩ (Nat.le_of_ble_eq_true rfl) (Nat.le_of_ble_eq_true rfl) (by rw [exT_t x_1]; exact exT_f (fun h => c_3 h.2.1)) rfl
    · skip
      have c_3 := bI_n0 c_3
      refine lv_iload hx hb dX7_setCylinder_24 (lv_at hl 4 rfl) ?_
      refine lv_iconst (v := 0) hx hb dX7_setCylinder_26 (by decide) ?_
      refine lv_bipush (v := 20) hx hb dX7_setCylinder_27 (by decide) ?_
      refine z_callS (wn := ((camW ad) ++ (macW cs (ad 0) S F) ++ (hisW cs (ad 4) kd HS) ++ (macW cs (kd 0) (KS 0) (KF 0)) ++ (macW cs (kd 1) (KS 1) (KF 1)) ++ (macW cs (kd 2) (KS 2) (KF 2)) ++ (macW cs (kd 3) (KS 3) (KF 3)))) ⟨hx, hb, hml, hown, hts⟩ zY_X7_within w_st_yX7_within w_ml_X7_55 [.int lk, .int 0, .int 20] [] (c_X7_within l D cs lk 0 20) hE hK hA hP hD hS [] rfl rfl rfl z_ins_nil rfl hl.1 (Nat.le_of_ble_eq_true rfl) ⟨Nat.le_of_ble_eq_true rfl, Nat.le_of_ble_eq_true rfl⟩ ⟨Nat.le_of_ble_eq_true rfl, Nat.le_of_ble_eq_true rfl⟩ dX7_setCylinder_29 (fun H locs hP hD hS => ?_)
      refine lv_if_ne (tgt := 45) hx hb dX7_setCylinder_32 (by decide) (fun c_4 => ?_) (fun c_4 => ?_)
      · skip
        have c_4 := bI_n0 c_4
        refine lv_aload_n hx hb dX7_setCylinder_45 rfl (lv_at hl 0 rfl) ?_
        refine va_get (D := D) (ci := 7) (v := .ref (ad 4 0)) (C := RX7) (T := TX7) (N := 5) hx hb hts wsI_X7 hown hK hP 0 rfl rfl 1 (by decide) (hts _ w_fl_X7_19) (fun _ h9 => h9) rfl dX7_setCylinder_46 ?_
        refine lv_aload_n hx hb dX7_setCylinder_49 rfl (lv_at hl 0 rfl) ?_
        refine va_get (D := D) (ci := 7) (v := .ref (ad 0 0)) (C := RX7) (T := TX7) (N := 5) hx hb hts wsI_X7 hown hK hP 0 rfl rfl 0 (by decide) (hts _ w_fl_X7_10) (fun _ h9 => h9) rfl dX7_setCylinder_50 ?_
        refine z_callV (wn := ((camW ad) ++ (macW cs (ad 0) S F) ++ (hisW cs (ad 4) kd (upd (upd HS 0 (nI (hNx p))) 1 (nI (min (n + 1) 4)))) ++ (macW cs (kd 0) (kup KS (hNx p) S 0) (kup KF (hNx p) F 0)) ++ (macW cs (kd 1) (kup KS (hNx p) S 1) (kup KF (hNx p) F 1)) ++ (macW cs (kd 2) (kup KS (hNx p) S 2) (kup KF (hNx p) F 2)) ++ (macW cs (kd 3) (kup KS (hNx p) S 3) (kup KF (hNx p) F 3)))) ⟨hx, hb, hml, hown, hts⟩ zY_X4_save w_im_yX4_save w_se_yX4_save w_ml_X7_43 [.ref (ad 0 0)] [] (c_X4_save l D cs (ad 4) (ad 0) kd HS KS KF S F p n hp hp4 hn hn4) hE hK hA hP hD hS [18, 19, 20, 21, 22, 23, 24, 25, 26, 27, 28, 29, 30, 31, 32, 33, 34, 35, 36, 37, 38, 39, 40, 41, 42, 43, 44, 45, 46, 47, 48, 49, 50, 51, 52, 53, 54, 55, 56, 57, 58, 59, 60, 61, 62, 63, 64, 65, 66, 67, 68, 69, 70, 71, 72, 73, 74, 75, 76, 77, 78, 79, 80, 81, 82, 83, 84, 85, 86, 87, 1, 2, 3, 4, 5, 6, 7, 8, 9, 10, 11, 12, 13, 14, 15, 16, 17] rfl rfl rfl rfl 4 rfl rfl rfl rfl hl.1 (Nat.le_of_ble_eq_true rfl) ⟨Nat.le_of_ble_eq_true rfl, Nat.le_of_ble_eq_true rfl⟩ ⟨Nat.le_of_ble_eq_true rfl, Nat.le_of_ble_eq_true rfl⟩ dX7_setCylinder_53 (fun H locs hP hD hS => ?_)
        refine lv_aload_n hx hb dX7_setCylinder_56 rfl (lv_at hl 0 rfl) ?_
        refine va_get (D := D) (ci := 7) (v := .ref (ad 0 0)) (C := RX7) (T := TX7) (N := 5) hx hb hts wsI_X7 hown hK hP 0 rfl rfl 0 (by decide) (hts _ w_fl_X7_10) (fun _ h9 => h9) rfl dX7_setCylinder_57 ?_
        refine va_get (D := D) (ci := 5) (v := .ref (ad 0 3)) (C := RX5) (T := TX5) (N := 13) hx hb hts wsI_X5 hown hK hP 1 rfl rfl 10 (by decide) (hts _ w_fl_X7_75) (fun _ h9 => h9) rfl dX7_setCylinder_60 ?_
        refine va_get (D := D) (ci := 2) (v := .ref (ad 0 5)) (C := RX2) (T := TX2) (N := 6) hx hb hts wsI_X2 hown hK hP 4 rfl rfl 1 (by decide) (hts _ w_fl_X7_79) (fun _ h9 => h9) rfl dX7_setCylinder_63 ?_
        refine lv_iload_n hx hb dX7_setCylinder_66 rfl (lv_at hl 1 rfl) ?_
        refine lv_iload_n hx hb dX7_setCylinder_67 rfl (lv_at hl 2 rfl) ?_
        refine z_iast (k := k) hx hb hK hP hD hS 6 rfl (by omega) (by first | decide | omega) dX7_setCylinder_68 (fun H locs hP hD hS => ?_)
        have hP : va_P D vwCl ((camW ad) ++ (macW cs (ad 0) S (zU F 2 (upd (F 2) k sz))) ++ (hisW cs (ad 4) kd (upd (upd HS 0 (nI (hNx p))) 1 (nI (min (n + 1) 4)))) ++ (macW cs (kd 0) (kup KS (hNx p) S 0) (kup KF (hNx p) F 0)) ++ (macW cs (kd 1) (kup KS (hNx p) S 1) (kup KF (hNx p) F 1)) ++ (macW cs (kd 2) (kup KS (hNx p) S 2) (kup KF (hNx p) F 2)) ++ (macW cs (kd 3) (kup KS (hNx p) S 3) (kup KF (hNx p) F 3))) H := hP
        have hD : va_D A ((camW ad) ++ (macW cs (ad 0) S (zU F 2 (upd (F 2) k sz))) ++ (hisW cs (ad 4) kd (upd (upd HS 0 (nI (hNx p))) 1 (nI (min (n + 1) 4)))) ++ (macW cs (kd 0) (kup KS (hNx p) S 0) (kup KF (hNx p) F 0)) ++ (macW cs (kd 1) (kup KS (hNx p) S 1) (kup KF (hNx p) F 1)) ++ (macW cs (kd 2) (kup KS (hNx p) S 2) (kup KF (hNx p) F 2)) ++ (macW cs (kd 3) (kup KS (hNx p) S 3) (kup KF (hNx p) F 3))) := hD
        refine lv_aload_n hx hb dX7_setCylinder_69 rfl (lv_at hl 0 rfl) ?_
        refine va_get (D := D) (ci := 7) (v := .ref (ad 0 0)) (C := RX7) (T := TX7) (N := 5) hx hb hts wsI_X7 hown hK hP 0 rfl rfl 0 (by decide) (hts _ w_fl_X7_10) (fun _ h9 => h9) rfl dX7_setCylinder_70 ?_
        refine va_get (D := D) (ci := 5) (v := .ref (ad 0 3)) (C := RX5) (T := TX5) (N := 13) hx hb hts wsI_X5 hown hK hP 1 rfl rfl 10 (by decide) (hts _ w_fl_X7_75) (fun _ h9 => h9) rfl dX7_setCylinder_73 ?_
        refine va_get (D := D) (ci := 2) (v := .ref (ad 0 6)) (C := RX2) (T := TX2) (N := 6) hx hb hts wsI_X2 hown hK hP 4 rfl rfl 2 (by decide) (hts _ w_fl_X7_85) (fun _ h9 => h9) rfl dX7_setCylinder_76 ?_
        refine lv_iload_n hx hb dX7_setCylinder_79 rfl (lv_at hl 1 rfl) ?_
        refine lv_iload_n hx hb dX7_setCylinder_80 rfl (lv_at hl 3 rfl) ?_
        refine z_iast (k := k) hx hb hK hP hD hS 7 rfl (by omega) (by first | decide | omega) dX7_setCylinder_81 (fun H locs hP hD hS => ?_)
        have hP : va_P D vwCl ((camW ad) ++ (macW cs (ad 0) S (zU (zU F 2 (upd (F 2) k sz)) 3 (upd (F 3) k sp))) ++ (hisW cs (ad 4) kd (upd (upd HS 0 (nI (hNx p))) 1 (nI (min (n + 1) 4)))) ++ (macW cs (kd 0) (kup KS (hNx p) S 0) (kup KF (hNx p) F 0)) ++ (macW cs (kd 1) (kup KS (hNx p) S 1) (kup KF (hNx p) F 1)) ++ (macW cs (kd 2) (kup KS (hNx p) S 2) (kup KF (hNx p) F 2)) ++ (macW cs (kd 3) (kup KS (hNx p) S 3) (kup KF (hNx p) F 3))) H := hP
        have hD : va_D A ((camW ad) ++ (macW cs (ad 0) S (zU (zU F 2 (upd (F 2) k sz)) 3 (upd (F 3) k sp))) ++ (hisW cs (ad 4) kd (upd (upd HS 0 (nI (hNx p))) 1 (nI (min (n + 1) 4)))) ++ (macW cs (kd 0) (kup KS (hNx p) S 0) (kup KF (hNx p) F 0)) ++ (macW cs (kd 1) (kup KS (hNx p) S 1) (kup KF (hNx p) F 1)) ++ (macW cs (kd 2) (kup KS (hNx p) S 2) (kup KF (hNx p) F 2)) ++ (macW cs (kd 3) (kup KS (hNx p) S 3) (kup KF (hNx p) F 3))) := hD
        refine lv_aload_n hx hb dX7_setCylinder_82 rfl (lv_at hl 0 rfl) ?_
        refine va_get (D := D) (ci := 7) (v := .ref (ad 0 0)) (C := RX7) (T := TX7) (N := 5) hx hb hts wsI_X7 hown hK hP 0 rfl rfl 0 (by decide) (hts _ w_fl_X7_10) (fun _ h9 => h9) rfl dX7_setCylinder_83 ?_
        refine va_get (D := D) (ci := 5) (v := .ref (ad 0 3)) (C := RX5) (T := TX5) (N := 13) hx hb hts wsI_X5 hown hK hP 1 rfl rfl 10 (by decide) (hts _ w_fl_X7_75) (fun _ h9 => h9) rfl dX7_setCylinder_86 ?_
        refine va_get (D := D) (ci := 2) (v := .ref (ad 0 7)) (C := RX2) (T := TX2) (N := 6) hx hb hts wsI_X2 hown hK hP 4 rfl rfl 3 (by decide) (hts _ w_fl_X7_88) (fun _ h9 => h9) rfl dX7_setCylinder_89 ?_
        refine lv_iload_n hx hb dX7_setCylinder_92 rfl (lv_at hl 1 rfl) ?_
        refine lv_iload hx hb dX7_setCylinder_93 (lv_at hl 4 rfl) ?_
        refine z_iast (k := k) hx hb hK hP hD hS 8 rfl (by omega) (by first | decide | omega) dX7_setCylinder_95 (fun H locs hP hD hS => ?_)
        have hP : va_P D vwCl ((camW ad) ++ (macW cs (ad 0) S (zU (zU (zU F 2 (upd (F 2) k sz)) 3 (upd (F 3) k sp)) 4 (upd (F 4) k lk))) ++ (hisW cs (ad 4) kd (upd (upd HS 0 (nI (hNx p))) 1 (nI (min (n + 1) 4)))) ++ (macW cs (kd 0) (kup KS (hNx p) S 0) (kup KF (hNx p) F 0)) ++ (macW cs (kd 1) (kup KS (hNx p) S 1) (kup KF (hNx p) F 1)) ++ (macW cs (kd 2) (kup KS (hNx p) S 2) (kup KF (hNx p) F 2)) ++ (macW cs (kd 3) (kup KS (hNx p) S 3) (kup KF (hNx p) F 3))) H := hP
        have hD : va_D A ((camW ad) ++ (macW cs (ad 0) S (zU (zU (zU F 2 (upd (F 2) k sz)) 3 (upd (F 3) k sp)) 4 (upd (F 4) k lk))) ++ (hisW cs (ad 4) kd (upd (upd HS 0 (nI (hNx p))) 1 (nI (min (n + 1) 4)))) ++ (macW cs (kd 0) (kup KS (hNx p) S 0) (kup KF (hNx p) F 0)) ++ (macW cs (kd 1) (kup KS (hNx p) S 1) (kup KF (hNx p) F 1)) ++ (macW cs (kd 2) (kup KS (hNx p) S 2) (kup KF (hNx p) F 2)) ++ (macW cs (kd 3) (kup KS (hNx p) S 3) (kup KF (hNx p) F 3))) := hD
        refine lv_aload_n hx hb dX7_setCylinder_96 rfl (lv_at hl 0 rfl) ?_
        refine va_get (D := D) (ci := 7) (v := .ref (ad 0 0)) (C := RX7) (T := TX7) (N := 5) hx hb hts wsI_X7 hown hK hP 0 rfl rfl 0 (by decide) (hts _ w_fl_X7_10) (fun _ h9 => h9) rfl dX7_setCylinder_97 ?_
        refine va_get (D := D) (ci := 5) (v := .ref (ad 0 3)) (C := RX5) (T := TX5) (N := 13) hx hb hts wsI_X5 hown hK hP 1 rfl rfl 10 (by decide) (hts _ w_fl_X7_75) (fun _ h9 => h9) rfl dX7_setCylinder_100 ?_
        refine va_get (D := D) (ci := 2) (v := .ref (ad 0 4)) (C := RX2) (T := TX2) (N := 6) hx hb hts wsI_X2 hown hK hP 4 rfl rfl 0 (by decide) (hts _ w_fl_X7_91) (fun _ h9 => h9) rfl dX7_setCylinder_103 ?_
        refine lv_iload_n hx hb dX7_setCylinder_106 rfl (lv_at hl 1 rfl) ?_
        refine z_iald (k := k) hx hb hK hP 5 rfl (by omega) (by first | decide | omega) dX7_setCylinder_107 ?_
        exact z_iretX hx hb hr hlk hK hP hD hS dX7_setCylinder_108 (by rw [exT_t x_1, exT_t ⟨c_2, c_3, c_4⟩]) (Nat.le_of_ble_eq_true rfl) (Nat.le_of_ble_eq_true rfl) (by rw [hNk]; rfl) (by simp only [hNk])
      · skip
        have c_4 := bI_0.mp c_4
        exact z_throw hx hb hfl hml hown hts hlk htab hE hK hP hD hS hl.1 zThr_IA (List.mem_of_getElem? (i := 3) rfl) dX7_setCylinder_35 dX7_setCylinder_38 dX7_setCylinder_39 dX7_setCylinder_41 dX7_setCylinder_44 ⟨Nat.le_of_ble_eq_true rfl, Nat.le_of_ble_eq_true rfl, Nat.le_of_ble_eq_true rfl, Nat.le_of_ble_eq_true rfl⟩ (Nat.le_of_ble_eq_true rfl) (Nat.le_of_ble_eq_true rfl) (by rw [exT_t x_1]; exact exT_f (fun h => c_4 h.2.2)) rfl

set_option maxHeartbeats 4000000 in
set_option maxRecDepth 100000 in
theorem c_X7_setAir (l : Launch) (D : va_G) (cs : zCs) (hfl : l.stackTraces = false) (ad : Nat → Nat → Nat) (S : Nat → Int32) (F : Nat → Nat → Int32) (kd : Nat → Nat → Nat) (HS : Nat → Int32) (KS : Nat → Nat → Int32) (KF : Nat → Nat → Nat → Int32) (p n : Nat) (ca co : Int32) (hp : HS 0 = nI p) (hp4 : p < 4) (hn : HS 1 = nI n) (hn4 : n ≤ 4) : zMx l D cs yX7_setAir cX7_setAir 3 (some FieldType.int) 6 154 1 6 [.ref (ad 3 0), .int ca, .int co] ((camW ad) ++ (macW cs (ad 0) S F) ++ (hisW cs (ad 4) kd HS) ++ (macW cs (kd 0) (KS 0) (KF 0)) ++ (macW cs (kd 1) (KS 1) (KF 1)) ++ (macW cs (kd 2) (KS 2) (KF 2)) ++ (macW cs (kd 3) (KS 3) (KF 3))) (exT ((100 ≤ ca ∧ ca ≤ 9999) ∧ (0 ≤ co ∧ co ≤ 500)) zIA none) (some (.int (airOff (upd (upd S 6 ca) 7 co) 5))) ((camW ad) ++ (macW cs (ad 0) (airOff (upd (upd S 6 ca) 7 co)) F) ++ (hisW cs (ad 4) kd (upd (upd HS 0 (nI (hNx p))) 1 (nI (min (n + 1) 4)))) ++ (macW cs (kd 0) (kup KS (hNx p) S 0) (kup KF (hNx p) F 0)) ++ (macW cs (kd 1) (kup KS (hNx p) S 1) (kup KF (hNx p) F 1)) ++ (macW cs (kd 2) (kup KS (hNx p) S 2) (kup KF (hNx p) F 2)) ++ (macW cs (kd 3) (kup KS (hNx p) S 3) (kup KF (hNx p) F 3))) := by
  refine zMx.of (own := RX7) (by decide) (Nat.le_of_ble_eq_true rfl) rfl ?_
  intro pq eq s mq below meth cq A ls hx hb hr hml hown hts hlk htab hE hK hA hP hD hS hl
  have hl : lv_has ls 3 [(0, .ref (ad 3 0)), (1, .int ca), (2, .int co)] := hl
  refine lv_iload_n hx hb dX7_setAir_0 rfl (lv_at hl 1 rfl) ?_
  refine lv_bipush (v := 100) hx hb dX7_setAir_1 (by decide) ?_
  refine lv_sipush (v := 9999) hx hb dX7_setAir_3 (by decide) ?_
  refine z_callS (wn := ((camW ad) ++ (macW cs (ad 0) S F) ++ (hisW cs (ad 4) kd HS) ++ (macW cs (kd 0) (KS 0) (KF 0)) ++ (macW cs (kd 1) (KS 1) (KF 1)) ++ (macW cs (kd 2) (KS 2) (KF 2)) ++ (macW cs (kd 3) (KS 3) (KF 3)))) ⟨hx, hb, hml, hown, hts⟩ zY_X7_within w_st_yX7_within w_ml_X7_55 [.int ca, .int 100, .int 9999] [] (c_X7_within l D cs ca 100 9999) hE hK hA hP hD hS [] rfl rfl rfl z_ins_nil rfl hl.1 (Nat.le_of_ble_eq_true rfl) ⟨Nat.le_of_ble_eq_true rfl, Nat.le_of_ble_eq_true rfl⟩ ⟨Nat.le_of_ble_eq_true rfl, Nat.le_of_ble_eq_true rfl⟩ dX7_setAir_6 (fun H locs hP hD hS => ?_)
  refine lv_if_eq (tgt := 23) hx hb dX7_setAir_9 (by decide) (fun c_1 => ?_) (fun c_1 => ?_)
  · skip
    have c_1 := bI_0.mp c_1
    exact z_throw hx hb hfl hml hown hts hlk htab hE hK hP hD hS hl.1 zThr_IA (List.mem_of_getElem? (i := 4) rfl) dX7_setAir_23 dX7_setAir_26 dX7_setAir_27 dX7_setAir_29 dX7_setAir_32 ⟨Nat.le_of_ble_eq_true rfl, Nat.le_of_ble_eq_true rfl, Nat.le_of_ble_eq_true rfl, Nat.le_of_ble_eq_true rfl⟩ (Nat.le_of_ble_eq_true rfl) (Nat.le_of_ble_eq_true rfl) (by exact exT_f (fun h => c_1 h.1)) rfl
  · skip
    have c_1 := bI_n0 c_1
    refine lv_iload_n hx hb dX7_setAir_12 rfl (lv_at hl 2 rfl) ?_
    refine lv_iconst (v := 0) hx hb dX7_setAir_13 (by decide) ?_
    refine lv_sipush (v := 500) hx hb dX7_setAir_14 (by decide) ?_
    refine z_callS (wn := ((camW ad) ++ (macW cs (ad 0) S F) ++ (hisW cs (ad 4) kd HS) ++ (macW cs (kd 0) (KS 0) (KF 0)) ++ (macW cs (kd 1) (KS 1) (KF 1)) ++ (macW cs (kd 2) (KS 2) (KF 2)) ++ (macW cs (kd 3) (KS 3) (KF 3)))) ⟨hx, hb, hml, hown, hts⟩ zY_X7_within w_st_yX7_within w_ml_X7_55 [.int co, .int 0, .int 500] [] (c_X7_within l D cs co 0 500) hE hK hA hP hD hS [] rfl rfl rfl z_ins_nil rfl hl.1 (Nat.le_of_ble_eq_true rfl) ⟨Nat.le_of_ble_eq_true rfl, Nat.le_of_ble_eq_true rfl⟩ ⟨Nat.le_of_ble_eq_true rfl, Nat.le_of_ble_eq_true rfl⟩ dX7_setAir_17 (fun H locs hP hD hS => ?_)
    refine lv_if_ne (tgt := 33) hx hb dX7_setAir_20 (by decide) (fun c_2 => ?_) (fun c_2 => ?_)
    · skip
      have c_2 := bI_n0 c_2
      refine lv_aload_n hx hb dX7_setAir_33 rfl (lv_at hl 0 rfl) ?_
      refine va_get (D := D) (ci := 7) (v := .ref (ad 4 0)) (C := RX7) (T := TX7) (N := 5) hx hb hts wsI_X7 hown hK hP 0 rfl rfl 1 (by decide) (hts _ w_fl_X7_19) (fun _ h9 => h9) rfl dX7_setAir_34 ?_
      refine lv_aload_n hx hb dX7_setAir_37 rfl (lv_at hl 0 rfl) ?_
      refine va_get (D := D) (ci := 7) (v := .ref (ad 0 0)) (C := RX7) (T := TX7) (N := 5) hx hb hts wsI_X7 hown hK hP 0 rfl rfl 0 (by decide) (hts _ w_fl_X7_10) (fun _ h9 => h9) rfl dX7_setAir_38 ?_
      refine z_callV (wn := ((camW ad) ++ (macW cs (ad 0) S F) ++ (hisW cs (ad 4) kd (upd (upd HS 0 (nI (hNx p))) 1 (nI (min (n + 1) 4)))) ++ (macW cs (kd 0) (kup KS (hNx p) S 0) (kup KF (hNx p) F 0)) ++ (macW cs (kd 1) (kup KS (hNx p) S 1) (kup KF (hNx p) F 1)) ++ (macW cs (kd 2) (kup KS (hNx p) S 2) (kup KF (hNx p) F 2)) ++ (macW cs (kd 3) (kup KS (hNx p) S 3) (kup KF (hNx p) F 3)))) ⟨hx, hb, hml, hown, hts⟩ zY_X4_save w_im_yX4_save w_se_yX4_save w_ml_X7_43 [.ref (ad 0 0)] [] (c_X4_save l D cs (ad 4) (ad 0) kd HS KS KF S F p n hp hp4 hn hn4) hE hK hA hP hD hS [18, 19, 20, 21, 22, 23, 24, 25, 26, 27, 28, 29, 30, 31, 32, 33, 34, 35, 36, 37, 38, 39, 40, 41, 42, 43, 44, 45, 46, 47, 48, 49, 50, 51, 52, 53, 54, 55, 56, 57, 58, 59, 60, 61, 62, 63, 64, 65, 66, 67, 68, 69, 70, 71, 72, 73, 74, 75, 76, 77, 78, 79, 80, 81, 82, 83, 84, 85, 86, 87, 1, 2, 3, 4, 5, 6, 7, 8, 9, 10, 11, 12, 13, 14, 15, 16, 17] rfl rfl rfl rfl 4 rfl rfl rfl rfl hl.1 (Nat.le_of_ble_eq_true rfl) ⟨Nat.le_of_ble_eq_true rfl, Nat.le_of_ble_eq_true rfl⟩ ⟨Nat.le_of_ble_eq_true rfl, Nat.le_of_ble_eq_true rfl⟩ dX7_setAir_41 (fun H locs hP hD hS => ?_)
      refine lv_aload_n hx hb dX7_setAir_44 rfl (lv_at hl 0 rfl) ?_
      refine va_get (D := D) (ci := 7) (v := .ref (ad 0 0)) (C := RX7) (T := TX7) (N := 5) hx hb hts wsI_X7 hown hK hP 0 rfl rfl 0 (by decide) (hts _ w_fl_X7_10) (fun _ h9 => h9) rfl dX7_setAir_45 ?_
      refine va_get (D := D) (ci := 5) (v := .ref (ad 0 2)) (C := RX5) (T := TX5) (N := 13) hx hb hts wsI_X5 hown hK hP 1 rfl rfl 9 (by decide) (hts _ w_fl_X7_96) (fun _ h9 => h9) rfl dX7_setAir_48 ?_
      refine lv_iload_n hx hb dX7_setAir_51 rfl (lv_at hl 1 rfl) ?_
      refine va_put (D := D) (ci := 0) (v := .int ca) (C := RX0) (T := TX0) (N := 7) hx hb hts wsI_X0 tyX0 tyX0_ok nmX0 hown hK hP hD hS 3 rfl rfl 1 (by decide) (hts _ w_fl_X7_100) (fun _ h9 => h9) rfl (tyX0_ok 1 (by decide)) rfl rfl (Nat.le_of_ble_eq_true rfl) dX7_setAir_52 (fun H locs hP hD hS => ?_)
      have hP : va_P D vwCl ((camW ad) ++ (macW cs (ad 0) (upd S 6 ca) F) ++ (hisW cs (ad 4) kd (upd (upd HS 0 (nI (hNx p))) 1 (nI (min (n + 1) 4)))) ++ (macW cs (kd 0) (kup KS (hNx p) S 0) (kup KF (hNx p) F 0)) ++ (macW cs (kd 1) (kup KS (hNx p) S 1) (kup KF (hNx p) F 1)) ++ (macW cs (kd 2) (kup KS (hNx p) S 2) (kup KF (hNx p) F 2)) ++ (macW cs (kd 3) (kup KS (hNx p) S 3) (kup KF (hNx p) F 3))) H := hP
      have hD : va_D A ((camW ad) ++ (macW cs (ad 0) (upd S 6 ca) F) ++ (hisW cs (ad 4) kd (upd (upd HS 0 (nI (hNx p))) 1 (nI (min (n + 1) 4)))) ++ (macW cs (kd 0) (kup KS (hNx p) S 0) (kup KF (hNx p) F 0)) ++ (macW cs (kd 1) (kup KS (hNx p) S 1) (kup KF (hNx p) F 1)) ++ (macW cs (kd 2) (kup KS (hNx p) S 2) (kup KF (hNx p) F 2)) ++ (macW cs (kd 3) (kup KS (hNx p) S 3) (kup KF (hNx p) F 3))) := hD
      refine lv_aload_n hx hb dX7_setAir_55 rfl (lv_at hl 0 rfl) ?_
      refine va_get (D := D) (ci := 7) (v := .ref (ad 0 0)) (C := RX7) (T := TX7) (N := 5) hx hb hts wsI_X7 hown hK hP 0 rfl rfl 0 (by decide) (hts _ w_fl_X7_10) (fun _ h9 => h9) rfl dX7_setAir_56 ?_
      refine va_get (D := D) (ci := 5) (v := .ref (ad 0 2)) (C := RX5) (T := TX5) (N := 13) hx hb hts wsI_X5 hown hK hP 1 rfl rfl 9 (by decide) (hts _ w_fl_X7_96) (fun _ h9 => h9) rfl dX7_setAir_59 ?_
      refine lv_iload_n hx hb dX7_setAir_62 rfl (lv_at hl 2 rfl) ?_
      refine va_put (D := D) (ci := 0) (v := .int co) (C := RX0) (T := TX0) (N := 7) hx hb hts wsI_X0 tyX0 tyX0_ok nmX0 hown hK hP hD hS 3 rfl rfl 2 (by decide) (hts _ w_fl_X7_105) (fun _ h9 => h9) rfl (tyX0_ok 2 (by decide)) rfl rfl (Nat.le_of_ble_eq_true rfl) dX7_setAir_63 (fun H locs hP hD hS => ?_)
      have hP : va_P D vwCl ((camW ad) ++ (macW cs (ad 0) (upd (upd S 6 ca) 7 co) F) ++ (hisW cs (ad 4) kd (upd (upd HS 0 (nI (hNx p))) 1 (nI (min (n + 1) 4)))) ++ (macW cs (kd 0) (kup KS (hNx p) S 0) (kup KF (hNx p) F 0)) ++ (macW cs (kd 1) (kup KS (hNx p) S 1) (kup KF (hNx p) F 1)) ++ (macW cs (kd 2) (kup KS (hNx p) S 2) (kup KF (hNx p) F 2)) ++ (macW cs (kd 3) (kup KS (hNx p) S 3) (kup KF (hNx p) F 3))) H := hP
      have hD : va_D A ((camW ad) ++ (macW cs (ad 0) (upd (upd S 6 ca) 7 co) F) ++ (hisW cs (ad 4) kd (upd (upd HS 0 (nI (hNx p))) 1 (nI (min (n + 1) 4)))) ++ (macW cs (kd 0) (kup KS (hNx p) S 0) (kup KF (hNx p) F 0)) ++ (macW cs (kd 1) (kup KS (hNx p) S 1) (kup KF (hNx p) F 1)) ++ (macW cs (kd 2) (kup KS (hNx p) S 2) (kup KF (hNx p) F 2)) ++ (macW cs (kd 3) (kup KS (hNx p) S 3) (kup KF (hNx p) F 3))) := hD
      refine lv_aload_n hx hb dX7_setAir_66 rfl (lv_at hl 0 rfl) ?_
      refine va_get (D := D) (ci := 7) (v := .ref (ad 0 0)) (C := RX7) (T := TX7) (N := 5) hx hb hts wsI_X7 hown hK hP 0 rfl rfl 0 (by decide) (hts _ w_fl_X7_10) (fun _ h9 => h9) rfl dX7_setAir_67 ?_
      refine va_get (D := D) (ci := 5) (v := .ref (ad 0 2)) (C := RX5) (T := TX5) (N := 13) hx hb hts wsI_X5 hown hK hP 1 rfl rfl 9 (by decide) (hts _ w_fl_X7_96) (fun _ h9 => h9) rfl dX7_setAir_70 ?_
      refine z_callV (wn := ((camW ad) ++ (macW cs (ad 0) (airOff (upd (upd S 6 ca) 7 co)) F) ++ (hisW cs (ad 4) kd (upd (upd HS 0 (nI (hNx p))) 1 (nI (min (n + 1) 4)))) ++ (macW cs (kd 0) (kup KS (hNx p) S 0) (kup KF (hNx p) F 0)) ++ (macW cs (kd 1) (kup KS (hNx p) S 1) (kup KF (hNx p) F 1)) ++ (macW cs (kd 2) (kup KS (hNx p) S 2) (kup KF (hNx p) F 2)) ++ (macW cs (kd 3) (kup KS (hNx p) S 3) (kup KF (hNx p) F 3)))) ⟨hx, hb, hml, hown, hts⟩ zY_X0_letOffSurplus w_im_yX0_letOffSurplus w_se_yX0_letOffSurplus w_ml_X7_108 [] [] (c_X0_letOffSurplus l D cs (ad 0) (upd (upd S 6 ca) 7 co)) hE hK hA hP hD hS [3] rfl rfl rfl rfl 0 rfl rfl rfl rfl hl.1 (Nat.le_of_ble_eq_true rfl) ⟨Nat.le_of_ble_eq_true rfl, Nat.le_of_ble_eq_true rfl⟩ ⟨Nat.le_of_ble_eq_true rfl, Nat.le_of_ble_eq_true rfl⟩ dX7_setAir_73 (fun H locs hP hD hS => ?_)
      refine lv_aload_n hx hb dX7_setAir_76 rfl (lv_at hl 0 rfl) ?_
      refine va_get (D := D) (ci := 7) (v := .ref (ad 0 0)) (C := RX7) (T := TX7) (N := 5) hx hb hts wsI_X7 hown hK hP 0 rfl rfl 0 (by decide) (hts _ w_fl_X7_10) (fun _ h9 => h9) rfl dX7_setAir_77 ?_
      refine va_get (D := D) (ci := 5) (v := .ref (ad 0 2)) (C := RX5) (T := TX5) (N := 13) hx hb hts wsI_X5 hown hK hP 1 rfl rfl 9 (by decide) (hts _ w_fl_X7_96) (fun _ h9 => h9) rfl dX7_setAir_80 ?_
      refine va_get (D := D) (ci := 0) (v := .int ((airOff (upd (upd S 6 ca) 7 co)) 5)) (C := RX0) (T := TX0) (N := 7) hx hb hts wsI_X0 hown hK hP 3 rfl rfl 0 (by decide) (hts _ w_fl_X7_111) (fun _ h9 => h9) rfl dX7_setAir_83 ?_
      exact z_iretX hx hb hr hlk hK hP hD hS dX7_setAir_86 (by rw [exT_t ⟨c_1, c_2⟩]) (Nat.le_of_ble_eq_true rfl) (Nat.le_of_ble_eq_true rfl) rfl rfl
    · skip
      have c_2 := bI_0.mp c_2
      exact z_throw hx hb hfl hml hown hts hlk htab hE hK hP hD hS hl.1 zThr_IA (List.mem_of_getElem? (i := 4) rfl) dX7_setAir_23 dX7_setAir_26 dX7_setAir_27 dX7_setAir_29 dX7_setAir_32 ⟨Nat.le_of_ble_eq_true rfl, Nat.le_of_ble_eq_true rfl, Nat.le_of_ble_eq_true rfl, Nat.le_of_ble_eq_true rfl⟩ (Nat.le_of_ble_eq_true rfl) (Nat.le_of_ble_eq_true rfl) (by exact exT_f (fun h => c_2 h.2)) rfl

set_option maxHeartbeats 4000000 in
set_option maxRecDepth 100000 in
theorem c_X7_addGuard (l : Launch) (D : va_G) (cs : zCs) (hfl : l.stackTraces = false) (ad : Nat → Nat → Nat) (S : Nat → Int32) (F : Nat → Nat → Int32) (kd : Nat → Nat → Nat) (HS : Nat → Int32) (KS : Nat → Nat → Int32) (KF : Nat → Nat → Nat → Int32) (p n : Nat) (g o bd : Int32) (hp : HS 0 = nI p) (hp4 : p < 4) (hn : HS 1 = nI n) (hn4 : n ≤ 4) (hg0 : 0 ≤ S 8) : zMx l D cs yX7_addGuard cX7_addGuard 4 (some FieldType.int) 7 154 3 18 [.ref (ad 3 0), .int g, .int o, .int bd] ((camW ad) ++ (macW cs (ad 0) S F) ++ (hisW cs (ad 4) kd HS) ++ (macW cs (kd 0) (KS 0) (KF 0)) ++ (macW cs (kd 1) (KS 1) (KF 1)) ++ (macW cs (kd 2) (KS 2) (KF 2)) ++ (macW cs (kd 3) (KS 3) (KF 3))) (exT (0 ≤ g ∧ g ≤ 4) zIO (exT (0 ≤ o ∧ o ≤ 4) zIO (exT ((¬ g = o) ∧ (1 ≤ bd ∧ bd ≤ 99)) zIA (exT ((S 8) < 4) zIS none)))) (some (.int ((S 8) + 1 - 1))) ((camW ad) ++ (macW cs (ad 0) (upd S 8 ((S 8) + 1)) (zU (zU (zU F 7 (upd (F 7) (S 8).toNatClampNeg g)) 8 (upd (F 8) (S 8).toNatClampNeg o)) 9 (upd (F 9) (S 8).toNatClampNeg bd))) ++ (hisW cs (ad 4) kd (upd (upd HS 0 (nI (hNx p))) 1 (nI (min (n + 1) 4)))) ++ (macW cs (kd 0) (kup KS (hNx p) S 0) (kup KF (hNx p) F 0)) ++ (macW cs (kd 1) (kup KS (hNx p) S 1) (kup KF (hNx p) F 1)) ++ (macW cs (kd 2) (kup KS (hNx p) S 2) (kup KF (hNx p) F 2)) ++ (macW cs (kd 3) (kup KS (hNx p) S 3) (kup KF (hNx p) F 3))) := by
  refine zMx.of (own := RX7) (by decide) (Nat.le_of_ble_eq_true rfl) rfl ?_
  intro pq eq s mq below meth cq A ls hx hb hr hml hown hts hlk htab hE hK hA hP hD hS hl
  have hl : lv_has ls 4 [(0, .ref (ad 3 0)), (1, .int g), (2, .int o), (3, .int bd)] := hl
  refine lv_iload_n hx hb dX7_addGuard_0 rfl (lv_at hl 1 rfl) ?_
  refine z_callSx (wn := ((camW ad) ++ (macW cs (ad 0) S F) ++ (hisW cs (ad 4) kd HS) ++ (macW cs (kd 0) (KS 0) (KF 0)) ++ (macW cs (kd 1) (KS 1) (KF 1)) ++ (macW cs (kd 2) (KS 2) (KF 2)) ++ (macW cs (kd 3) (KS 3) (KF 3)))) ⟨hx, hb, hml, hown, hts⟩ zY_X7_requireCylinder w_st_yX7_requireCylinder w_ml_X7_36 [.int g] [] (c_X7_requireCylinder l D cs hfl g) hE hK hA hP hD hS [] rfl rfl rfl z_ins_nil rfl hl.1 (Nat.le_of_ble_eq_true rfl) ⟨Nat.le_of_ble_eq_true rfl, Nat.le_of_ble_eq_true rfl⟩ ⟨Nat.le_of_ble_eq_true rfl, Nat.le_of_ble_eq_true rfl⟩ dX7_addGuard_1 (fun E ce q9 H locs hex hP hD hS hce hcv hcl => z_outX htab hlk hK hP hD hS hce hcv hcl (by exact exT_out hex) rfl (Nat.le_of_ble_eq_true rfl) (Nat.le_of_ble_eq_true rfl)) (fun hex H locs hP hD hS => ?_)
  have x_1 := exT_none hex
  refine lv_iload_n hx hb dX7_addGuard_4 rfl (lv_at hl 2 rfl) ?_
  refine z_callSx (wn := ((camW ad) ++ (macW cs (ad 0) S F) ++ (hisW cs (ad 4) kd HS) ++ (macW cs (kd 0) (KS 0) (KF 0)) ++ (macW cs (kd 1) (KS 1) (KF 1)) ++ (macW cs (kd 2) (KS 2) (KF 2)) ++ (macW cs (kd 3) (KS 3) (KF 3)))) ⟨hx, hb, hml, hown, hts⟩ zY_X7_requireCylinder w_st_yX7_requireCylinder w_ml_X7_36 [.int o] [] (c_X7_requireCylinder l D cs hfl o) hE hK hA hP hD hS [] rfl rfl rfl z_ins_nil rfl hl.1 (Nat.le_of_ble_eq_true rfl) ⟨Nat.le_of_ble_eq_true rfl, Nat.le_of_ble_eq_true rfl⟩ ⟨Nat.le_of_ble_eq_true rfl, Nat.le_of_ble_eq_true rfl⟩ dX7_addGuard_5 (fun E ce q9 H locs hex hP hD hS hce hcv hcl => z_outX htab hlk hK hP hD hS hce hcv hcl (by rw [exT_t x_1]; exact exT_out hex) rfl (Nat.le_of_ble_eq_true rfl) (Nat.le_of_ble_eq_true rfl)) (fun hex H locs hP hD hS => ?_)
  have x_2 := exT_none hex
  refine lv_iload_n hx hb dX7_addGuard_8 rfl (lv_at hl 1 rfl) ?_
  refine lv_iload_n hx hb dX7_addGuard_9 rfl (lv_at hl 2 rfl) ?_
  refine lv_icmp_eq (tgt := 23) hx hb dX7_addGuard_10 (by decide) (fun c_3 => ?_) (fun c_3 => ?_)
  · skip
    exact z_throw hx hb hfl hml hown hts hlk htab hE hK hP hD hS hl.1 zThr_IA (List.mem_of_getElem? (i := 5) rfl) dX7_addGuard_23 dX7_addGuard_26 dX7_addGuard_27 dX7_addGuard_29 dX7_addGuard_32 ⟨Nat.le_of_ble_eq_true rfl, Nat.le_of_ble_eq_true rfl, Nat.le_of_ble_eq_true rfl, Nat.le_of_ble_eq_true rfl⟩ (Nat.le_of_ble_eq_true rfl) (Nat.le_of_ble_eq_true rfl) (by rw [exT_t x_1, exT_t x_2]; exact exT_f (fun h => h.1 c_3)) rfl
  · skip
    refine lv_iload_n hx hb dX7_addGuard_13 rfl (lv_at hl 3 rfl) ?_
    refine lv_iconst (v := 1) hx hb dX7_addGuard_14 (by decide) ?_
    refine lv_bipush (v := 99) hx hb dX7_addGuard_15 (by decide) ?_
    refine z_callS (wn := ((camW ad) ++ (macW cs (ad 0) S F) ++ (hisW cs (ad 4) kd HS) ++ (macW cs (kd 0) (KS 0) (KF 0)) ++ (macW cs (kd 1) (KS 1) (KF 1)) ++ (macW cs (kd 2) (KS 2) (KF 2)) ++ (macW cs (kd 3) (KS 3) (KF 3)))) ⟨hx, hb, hml, hown, hts⟩ zY_X7_within w_st_yX7_within w_ml_X7_55 [.int bd, .int 1, .int 99] [] (c_X7_within l D cs bd 1 99) hE hK hA hP hD hS [] rfl rfl rfl z_ins_nil rfl hl.1 (Nat.le_of_ble_eq_true rfl) ⟨Nat.le_of_ble_eq_true rfl, Nat.le_of_ble_eq_true rfl⟩ ⟨Nat.le_of_ble_eq_true rfl, Nat.le_of_ble_eq_true rfl⟩ dX7_addGuard_17 (fun H locs hP hD hS => ?_)
    refine lv_if_ne (tgt := 33) hx hb dX7_addGuard_20 (by decide) (fun c_4 => ?_) (fun c_4 => ?_)
    · skip
      have c_4 := bI_n0 c_4
      refine lv_aload_n hx hb dX7_addGuard_33 rfl (lv_at hl 0 rfl) ?_
      refine va_get (D := D) (ci := 7) (v := .ref (ad 0 0)) (C := RX7) (T := TX7) (N := 5) hx hb hts wsI_X7 hown hK hP 0 rfl rfl 0 (by decide) (hts _ w_fl_X7_10) (fun _ h9 => h9) rfl dX7_addGuard_34 ?_
      refine va_get (D := D) (ci := 5) (v := .ref (ad 0 10)) (C := RX5) (T := TX5) (N := 13) hx hb hts wsI_X5 hown hK hP 1 rfl rfl 11 (by decide) (hts _ w_fl_X7_116) (fun _ h9 => h9) rfl dX7_addGuard_37 ?_
      refine va_get (D := D) (ci := 3) (v := .int (S 8)) (C := RX3) (T := TX3) (N := 4) hx hb hts wsI_X3 hown hK hP 11 rfl rfl 3 (by decide) (hts _ w_fl_X7_120) (fun _ h9 => h9) rfl dX7_addGuard_40 ?_
      refine lv_iconst (v := 4) hx hb dX7_addGuard_43 (by decide) ?_
      refine lv_icmp_lt (tgt := 57) hx hb dX7_addGuard_44 (by decide) (fun c_5 => ?_) (fun c_5 => ?_)
      · skip
        refine lv_aload_n hx hb dX7_addGuard_57 rfl (lv_at hl 0 rfl) ?_
        refine va_get (D := D) (ci := 7) (v := .ref (ad 4 0)) (C := RX7) (T := TX7) (N := 5) hx hb hts wsI_X7 hown hK hP 0 rfl rfl 1 (by decide) (hts _ w_fl_X7_19) (fun _ h9 => h9) rfl dX7_addGuard_58 ?_
        refine lv_aload_n hx hb dX7_addGuard_61 rfl (lv_at hl 0 rfl) ?_
        refine va_get (D := D) (ci := 7) (v := .ref (ad 0 0)) (C := RX7) (T := TX7) (N := 5) hx hb hts wsI_X7 hown hK hP 0 rfl rfl 0 (by decide) (hts _ w_fl_X7_10) (fun _ h9 => h9) rfl dX7_addGuard_62 ?_
        refine z_callV (wn := ((camW ad) ++ (macW cs (ad 0) S F) ++ (hisW cs (ad 4) kd (upd (upd HS 0 (nI (hNx p))) 1 (nI (min (n + 1) 4)))) ++ (macW cs (kd 0) (kup KS (hNx p) S 0) (kup KF (hNx p) F 0)) ++ (macW cs (kd 1) (kup KS (hNx p) S 1) (kup KF (hNx p) F 1)) ++ (macW cs (kd 2) (kup KS (hNx p) S 2) (kup KF (hNx p) F 2)) ++ (macW cs (kd 3) (kup KS (hNx p) S 3) (kup KF (hNx p) F 3)))) ⟨hx, hb, hml, hown, hts⟩ zY_X4_save w_im_yX4_save w_se_yX4_save w_ml_X7_43 [.ref (ad 0 0)] [] (c_X4_save l D cs (ad 4) (ad 0) kd HS KS KF S F p n hp hp4 hn hn4) hE hK hA hP hD hS [18, 19, 20, 21, 22, 23, 24, 25, 26, 27, 28, 29, 30, 31, 32, 33, 34, 35, 36, 37, 38, 39, 40, 41, 42, 43, 44, 45, 46, 47, 48, 49, 50, 51, 52, 53, 54, 55, 56, 57, 58, 59, 60, 61, 62, 63, 64, 65, 66, 67, 68, 69, 70, 71, 72, 73, 74, 75, 76, 77, 78, 79, 80, 81, 82, 83, 84, 85, 86, 87, 1, 2, 3, 4, 5, 6, 7, 8, 9, 10, 11, 12, 13, 14, 15, 16, 17] rfl rfl rfl rfl 4 rfl rfl rfl rfl hl.1 (Nat.le_of_ble_eq_true rfl) ⟨Nat.le_of_ble_eq_true rfl, Nat.le_of_ble_eq_true rfl⟩ ⟨Nat.le_of_ble_eq_true rfl, Nat.le_of_ble_eq_true rfl⟩ dX7_addGuard_65 (fun H locs hP hD hS => ?_)
        refine lv_aload_n hx hb dX7_addGuard_68 rfl (lv_at hl 0 rfl) ?_
        refine va_get (D := D) (ci := 7) (v := .ref (ad 0 0)) (C := RX7) (T := TX7) (N := 5) hx hb hts wsI_X7 hown hK hP 0 rfl rfl 0 (by decide) (hts _ w_fl_X7_10) (fun _ h9 => h9) rfl dX7_addGuard_69 ?_
        refine va_get (D := D) (ci := 5) (v := .ref (ad 0 10)) (C := RX5) (T := TX5) (N := 13) hx hb hts wsI_X5 hown hK hP 1 rfl rfl 11 (by decide) (hts _ w_fl_X7_116) (fun _ h9 => h9) rfl dX7_addGuard_72 ?_
        refine lv_iload_n hx hb dX7_addGuard_75 rfl (lv_at hl 1 rfl) ?_
        refine lv_iload_n hx hb dX7_addGuard_76 rfl (lv_at hl 2 rfl) ?_
        refine lv_iload_n hx hb dX7_addGuard_77 rfl (lv_at hl 3 rfl) ?_
        refine z_callV (wn := ((camW ad) ++ (macW cs (ad 0) (upd S 8 ((S 8) + 1)) (zU (zU (zU F 7 (upd (F 7) (S 8).toNatClampNeg g)) 8 (upd (F 8) (S 8).toNatClampNeg o)) 9 (upd (F 9) (S 8).toNatClampNeg bd))) ++ (hisW cs (ad 4) kd (upd (upd HS 0 (nI (hNx p))) 1 (nI (min (n + 1) 4)))) ++ (macW cs (kd 0) (kup KS (hNx p) S 0) (kup KF (hNx p) F 0)) ++ (macW cs (kd 1) (kup KS (hNx p) S 1) (kup KF (hNx p) F 1)) ++ (macW cs (kd 2) (kup KS (hNx p) S 2) (kup KF (hNx p) F 2)) ++ (macW cs (kd 3) (kup KS (hNx p) S 3) (kup KF (hNx p) F 3)))) ⟨hx, hb, hml, hown, hts⟩ zY_X3_putLast w_im_yX3_putLast w_se_yX3_putLast w_ml_X7_130 [.int g, .int o, .int bd] [] (c_X3_putLast l D cs (ad 0) S F g o bd ⟨hg0, z_lt4 c_5⟩) hE hK hA hP hD hS [11, 12, 13, 14] rfl rfl rfl rfl 3 rfl rfl rfl rfl hl.1 (Nat.le_of_ble_eq_true rfl) ⟨Nat.le_of_ble_eq_true rfl, Nat.le_of_ble_eq_true rfl⟩ ⟨Nat.le_of_ble_eq_true rfl, Nat.le_of_ble_eq_true rfl⟩ dX7_addGuard_78 (fun H locs hP hD hS => ?_)
        exact z_iretX hx hb hr hlk hK hP hD hS dX7_addGuard_81 (by rw [exT_t x_1, exT_t x_2, exT_t ⟨c_3, c_4⟩, exT_t c_5]) (Nat.le_of_ble_eq_true rfl) (Nat.le_of_ble_eq_true rfl) rfl rfl
      · skip
        exact z_throw hx hb hfl hml hown hts hlk htab hE hK hP hD hS hl.1 zThr_IS (List.mem_of_getElem? (i := 6) rfl) dX7_addGuard_47 dX7_addGuard_50 dX7_addGuard_51 dX7_addGuard_53 dX7_addGuard_56 ⟨Nat.le_of_ble_eq_true rfl, Nat.le_of_ble_eq_true rfl, Nat.le_of_ble_eq_true rfl, Nat.le_of_ble_eq_true rfl⟩ (Nat.le_of_ble_eq_true rfl) (Nat.le_of_ble_eq_true rfl) (by rw [exT_t x_1, exT_t x_2, exT_t ⟨c_3, c_4⟩]; exact exT_f (fun h => c_5 h)) rfl
    · skip
      have c_4 := bI_0.mp c_4
      exact z_throw hx hb hfl hml hown hts hlk htab hE hK hP hD hS hl.1 zThr_IA (List.mem_of_getElem? (i := 5) rfl) dX7_addGuard_23 dX7_addGuard_26 dX7_addGuard_27 dX7_addGuard_29 dX7_addGuard_32 ⟨Nat.le_of_ble_eq_true rfl, Nat.le_of_ble_eq_true rfl, Nat.le_of_ble_eq_true rfl, Nat.le_of_ble_eq_true rfl⟩ (Nat.le_of_ble_eq_true rfl) (Nat.le_of_ble_eq_true rfl) (by rw [exT_t x_1, exT_t x_2]; exact exT_f (fun h => c_4 h.2)) rfl

set_option maxHeartbeats 4000000 in
set_option maxRecDepth 100000 in
theorem c_X7_removeGuard (l : Launch) (D : va_G) (cs : zCs) (hfl : l.stackTraces = false) (ad : Nat → Nat → Nat) (S : Nat → Int32) (F : Nat → Nat → Int32) (kd : Nat → Nat → Nat) (HS : Nat → Int32) (KS : Nat → Nat → Int32) (KF : Nat → Nat → Nat → Int32) (p n : Nat) (g : Int32) (gn : Nat) (hp : HS 0 = nI p) (hp4 : p < 4) (hn : HS 1 = nI n) (hn4 : n ≤ 4) (hS8 : S 8 = nI gn) (hg4 : gn ≤ 4) : zMx l D cs yX7_removeGuard cX7_removeGuard 2 (some FieldType.int) 7 154 1 6 [.ref (ad 3 0), .int g] ((camW ad) ++ (macW cs (ad 0) S F) ++ (hisW cs (ad 4) kd HS) ++ (macW cs (kd 0) (KS 0) (KF 0)) ++ (macW cs (kd 1) (KS 1) (KF 1)) ++ (macW cs (kd 2) (KS 2) (KF 2)) ++ (macW cs (kd 3) (KS 3) (KF 3))) (exT (0 ≤ g ∧ g ≤ zmin (S 8) 4 - 1) zIO none) (some (.int (nI (gn - 1)))) ((camW ad) ++ (macW cs (ad 0) (upd S 8 (nI (gn - 1))) (zU (zU (zU F 7 (toF (gn - 1 - nN g) (nN g) F 7)) 8 (toF (gn - 1 - nN g) (nN g) F 8)) 9 (toF (gn - 1 - nN g) (nN g) F 9))) ++ (hisW cs (ad 4) kd (upd (upd HS 0 (nI (hNx p))) 1 (nI (min (n + 1) 4)))) ++ (macW cs (kd 0) (kup KS (hNx p) S 0) (kup KF (hNx p) F 0)) ++ (macW cs (kd 1) (kup KS (hNx p) S 1) (kup KF (hNx p) F 1)) ++ (macW cs (kd 2) (kup KS (hNx p) S 2) (kup KF (hNx p) F 2)) ++ (macW cs (kd 3) (kup KS (hNx p) S 3) (kup KF (hNx p) F 3))) := by
  refine zMx.of (own := RX7) (by decide) (Nat.le_of_ble_eq_true rfl) rfl ?_
  intro pq eq s mq below meth cq A ls hx hb hr hml hown hts hlk htab hE hK hA hP hD hS hl
  have hl : lv_has ls 2 [(0, .ref (ad 3 0)), (1, .int g)] := hl
  refine lv_aload_n hx hb dX7_removeGuard_0 rfl (lv_at hl 0 rfl) ?_
  refine lv_iload_n hx hb dX7_removeGuard_1 rfl (lv_at hl 1 rfl) ?_
  refine z_callVx (wn := ((camW ad) ++ (macW cs (ad 0) S F) ++ (hisW cs (ad 4) kd HS) ++ (macW cs (kd 0) (KS 0) (KF 0)) ++ (macW cs (kd 1) (KS 1) (KF 1)) ++ (macW cs (kd 2) (KS 2) (KF 2)) ++ (macW cs (kd 3) (KS 3) (KF 3)))) ⟨hx, hb, hml, hown, hts⟩ zY_X7_requireGuard w_im_yX7_requireGuard w_se_yX7_requireGuard w_ml_X7_134 [.int g] [] (c_X7_requireGuard l D cs hfl ad S F g) hE hK hA hP hD hS [0, 1, 2, 3, 4, 5, 6, 7, 8, 9, 10, 11, 12, 13, 14, 15, 16, 17] rfl rfl rfl rfl 7 rfl rfl rfl rfl hl.1 (Nat.le_of_ble_eq_true rfl) ⟨Nat.le_of_ble_eq_true rfl, Nat.le_of_ble_eq_true rfl⟩ ⟨Nat.le_of_ble_eq_true rfl, Nat.le_of_ble_eq_true rfl⟩ dX7_removeGuard_2 (fun E ce q9 H locs hex hP hD hS hce hcv hcl => z_outX htab hlk hK hP hD hS hce hcv hcl (by exact exT_out hex) rfl (Nat.le_of_ble_eq_true rfl) (Nat.le_of_ble_eq_true rfl)) (fun hex H locs hP hD hS => ?_)
  have x_1 := exT_none hex
  obtain ⟨k, hk, rfl⟩ := z_natG hS8 hg4 x_1
  have hNk := nN_nI (k := k) (by omega)
  refine lv_aload_n hx hb dX7_removeGuard_5 rfl (lv_at hl 0 rfl) ?_
  refine va_get (D := D) (ci := 7) (v := .ref (ad 4 0)) (C := RX7) (T := TX7) (N := 5) hx hb hts wsI_X7 hown hK hP 0 rfl rfl 1 (by decide) (hts _ w_fl_X7_19) (fun _ h9 => h9) rfl dX7_removeGuard_6 ?_
  refine lv_aload_n hx hb dX7_removeGuard_9 rfl (lv_at hl 0 rfl) ?_
  refine va_get (D := D) (ci := 7) (v := .ref (ad 0 0)) (C := RX7) (T := TX7) (N := 5) hx hb hts wsI_X7 hown hK hP 0 rfl rfl 0 (by decide) (hts _ w_fl_X7_10) (fun _ h9 => h9) rfl dX7_removeGuard_10 ?_
  refine z_callV (wn := ((camW ad) ++ (macW cs (ad 0) S F) ++ (hisW cs (ad 4) kd (upd (upd HS 0 (nI (hNx p))) 1 (nI (min (n + 1) 4)))) ++ (macW cs (kd 0) (kup KS (hNx p) S 0) (kup KF (hNx p) F 0)) ++ (macW cs (kd 1) (kup KS (hNx p) S 1) (kup KF (hNx p) F 1)) ++ (macW cs (kd 2) (kup KS (hNx p) S 2) (kup KF (hNx p) F 2)) ++ (macW cs (kd 3) (kup KS (hNx p) S 3) (kup KF (hNx p) F 3)))) ⟨hx, hb, hml, hown, hts⟩ zY_X4_save w_im_yX4_save w_se_yX4_save w_ml_X7_43 [.ref (ad 0 0)] [] (c_X4_save l D cs (ad 4) (ad 0) kd HS KS KF S F p n hp hp4 hn hn4) hE hK hA hP hD hS [18, 19, 20, 21, 22, 23, 24, 25, 26, 27, 28, 29, 30, 31, 32, 33, 34, 35, 36, 37, 38, 39, 40, 41, 42, 43, 44, 45, 46, 47, 48, 49, 50, 51, 52, 53, 54, 55, 56, 57, 58, 59, 60, 61, 62, 63, 64, 65, 66, 67, 68, 69, 70, 71, 72, 73, 74, 75, 76, 77, 78, 79, 80, 81, 82, 83, 84, 85, 86, 87, 1, 2, 3, 4, 5, 6, 7, 8, 9, 10, 11, 12, 13, 14, 15, 16, 17] rfl rfl rfl rfl 4 rfl rfl rfl rfl hl.1 (Nat.le_of_ble_eq_true rfl) ⟨Nat.le_of_ble_eq_true rfl, Nat.le_of_ble_eq_true rfl⟩ ⟨Nat.le_of_ble_eq_true rfl, Nat.le_of_ble_eq_true rfl⟩ dX7_removeGuard_13 (fun H locs hP hD hS => ?_)
  refine lv_aload_n hx hb dX7_removeGuard_16 rfl (lv_at hl 0 rfl) ?_
  refine va_get (D := D) (ci := 7) (v := .ref (ad 0 0)) (C := RX7) (T := TX7) (N := 5) hx hb hts wsI_X7 hown hK hP 0 rfl rfl 0 (by decide) (hts _ w_fl_X7_10) (fun _ h9 => h9) rfl dX7_removeGuard_17 ?_
  refine va_get (D := D) (ci := 5) (v := .ref (ad 0 10)) (C := RX5) (T := TX5) (N := 13) hx hb hts wsI_X5 hown hK hP 1 rfl rfl 11 (by decide) (hts _ w_fl_X7_116) (fun _ h9 => h9) rfl dX7_removeGuard_20 ?_
  refine lv_iload_n hx hb dX7_removeGuard_23 rfl (lv_at hl 1 rfl) ?_
  refine z_callV (wn := ((camW ad) ++ (macW cs (ad 0) (upd S 8 (nI (gn - 1))) (zU (zU (zU F 7 (toF (gn - 1 - k) k F 7)) 8 (toF (gn - 1 - k) k F 8)) 9 (toF (gn - 1 - k) k F 9))) ++ (hisW cs (ad 4) kd (upd (upd HS 0 (nI (hNx p))) 1 (nI (min (n + 1) 4)))) ++ (macW cs (kd 0) (kup KS (hNx p) S 0) (kup KF (hNx p) F 0)) ++ (macW cs (kd 1) (kup KS (hNx p) S 1) (kup KF (hNx p) F 1)) ++ (macW cs (kd 2) (kup KS (hNx p) S 2) (kup KF (hNx p) F 2)) ++ (macW cs (kd 3) (kup KS (hNx p) S 3) (kup KF (hNx p) F 3)))) ⟨hx, hb, hml, hown, hts⟩ zY_X3_takeOut w_im_yX3_takeOut w_se_yX3_takeOut w_ml_X7_137 [.int (nI k)] [] (c_X3_takeOut l D cs (ad 0) S F k gn hS8 hk hg4) hE hK hA hP hD hS [11, 12, 13, 14] rfl rfl rfl rfl 3 rfl rfl rfl rfl hl.1 (Nat.le_of_ble_eq_true rfl) ⟨Nat.le_of_ble_eq_true rfl, Nat.le_of_ble_eq_true rfl⟩ ⟨Nat.le_of_ble_eq_true rfl, Nat.le_of_ble_eq_true rfl⟩ dX7_removeGuard_24 (fun H locs hP hD hS => ?_)
  refine lv_aload_n hx hb dX7_removeGuard_27 rfl (lv_at hl 0 rfl) ?_
  refine va_get (D := D) (ci := 7) (v := .ref (ad 0 0)) (C := RX7) (T := TX7) (N := 5) hx hb hts wsI_X7 hown hK hP 0 rfl rfl 0 (by decide) (hts _ w_fl_X7_10) (fun _ h9 => h9) rfl dX7_removeGuard_28 ?_
  refine va_get (D := D) (ci := 5) (v := .ref (ad 0 10)) (C := RX5) (T := TX5) (N := 13) hx hb hts wsI_X5 hown hK hP 1 rfl rfl 11 (by decide) (hts _ w_fl_X7_116) (fun _ h9 => h9) rfl dX7_removeGuard_31 ?_
  refine va_get (D := D) (ci := 3) (v := .int (nI (gn - 1))) (C := RX3) (T := TX3) (N := 4) hx hb hts wsI_X3 hown hK hP 11 rfl rfl 3 (by decide) (hts _ w_fl_X7_120) (fun _ h9 => h9) rfl dX7_removeGuard_34 ?_
  exact z_iretX hx hb hr hlk hK hP hD hS dX7_removeGuard_37 (by rw [exT_t x_1]) (Nat.le_of_ble_eq_true rfl) (Nat.le_of_ble_eq_true rfl) rfl (by simp only [hNk])

set_option maxHeartbeats 4000000 in
set_option maxRecDepth 100000 in
theorem c_X7_turn (l : Launch) (D : va_G) (cs : zCs) (hfl : l.stackTraces = false) (ad : Nat → Nat → Nat) (S : Nat → Int32) (F : Nat → Nat → Int32) (kd : Nat → Nat → Nat) (HS : Nat → Int32) (KS : Nat → Nat → Int32) (KF : Nat → Nat → Nat → Int32) (p n : Nat) (st : Int32) (hp : HS 0 = nI p) (hp4 : p < 4) (hn : HS 1 = nI n) (hn4 : n ≤ 4) : zMx l D cs yX7_turn cX7_turn 3 (some FieldType.int) 7 154 1 6 [.ref (ad 3 0), .int st] ((camW ad) ++ (macW cs (ad 0) S F) ++ (hisW cs (ad 4) kd HS) ++ (macW cs (kd 0) (KS 0) (KF 0)) ++ (macW cs (kd 1) (KS 1) (KF 1)) ++ (macW cs (kd 2) (KS 2) (KF 2)) ++ (macW cs (kd 3) (KS 3) (KF 3))) (exT (0 ≤ st ∧ st ≤ (S 0) - 1) zIO none) (some (.int (S 1))) ((camW ad) ++ (macW cs (ad 0) (upd (upd S 1 st) 2 0) F) ++ (hisW cs (ad 4) kd (upd (upd HS 0 (nI (hNx p))) 1 (nI (min (n + 1) 4)))) ++ (macW cs (kd 0) (kup KS (hNx p) S 0) (kup KF (hNx p) F 0)) ++ (macW cs (kd 1) (kup KS (hNx p) S 1) (kup KF (hNx p) F 1)) ++ (macW cs (kd 2) (kup KS (hNx p) S 2) (kup KF (hNx p) F 2)) ++ (macW cs (kd 3) (kup KS (hNx p) S 3) (kup KF (hNx p) F 3))) := by
  refine zMx.of (own := RX7) (by decide) (Nat.le_of_ble_eq_true rfl) rfl ?_
  intro pq eq s mq below meth cq A ls hx hb hr hml hown hts hlk htab hE hK hA hP hD hS hl
  have hl : lv_has ls 3 [(0, .ref (ad 3 0)), (1, .int st)] := hl
  refine lv_aload_n hx hb dX7_turn_0 rfl (lv_at hl 0 rfl) ?_
  refine lv_iload_n hx hb dX7_turn_1 rfl (lv_at hl 1 rfl) ?_
  refine z_callVx (wn := ((camW ad) ++ (macW cs (ad 0) S F) ++ (hisW cs (ad 4) kd HS) ++ (macW cs (kd 0) (KS 0) (KF 0)) ++ (macW cs (kd 1) (KS 1) (KF 1)) ++ (macW cs (kd 2) (KS 2) (KF 2)) ++ (macW cs (kd 3) (KS 3) (KF 3)))) ⟨hx, hb, hml, hown, hts⟩ zY_X7_requireStep w_im_yX7_requireStep w_se_yX7_requireStep w_ml_X7_40 [.int st] [] (c_X7_requireStep l D cs hfl ad S F st) hE hK hA hP hD hS [0, 1, 2, 3, 4, 5, 6, 7, 8, 9, 10, 11, 12, 13, 14, 15, 16, 17] rfl rfl rfl rfl 7 rfl rfl rfl rfl hl.1 (Nat.le_of_ble_eq_true rfl) ⟨Nat.le_of_ble_eq_true rfl, Nat.le_of_ble_eq_true rfl⟩ ⟨Nat.le_of_ble_eq_true rfl, Nat.le_of_ble_eq_true rfl⟩ dX7_turn_2 (fun E ce q9 H locs hex hP hD hS hce hcv hcl => z_outX htab hlk hK hP hD hS hce hcv hcl (by exact exT_out hex) rfl (Nat.le_of_ble_eq_true rfl) (Nat.le_of_ble_eq_true rfl)) (fun hex H locs hP hD hS => ?_)
  have x_1 := exT_none hex
  refine lv_aload_n hx hb dX7_turn_5 rfl (lv_at hl 0 rfl) ?_
  refine va_get (D := D) (ci := 7) (v := .ref (ad 4 0)) (C := RX7) (T := TX7) (N := 5) hx hb hts wsI_X7 hown hK hP 0 rfl rfl 1 (by decide) (hts _ w_fl_X7_19) (fun _ h9 => h9) rfl dX7_turn_6 ?_
  refine lv_aload_n hx hb dX7_turn_9 rfl (lv_at hl 0 rfl) ?_
  refine va_get (D := D) (ci := 7) (v := .ref (ad 0 0)) (C := RX7) (T := TX7) (N := 5) hx hb hts wsI_X7 hown hK hP 0 rfl rfl 0 (by decide) (hts _ w_fl_X7_10) (fun _ h9 => h9) rfl dX7_turn_10 ?_
  refine z_callV (wn := ((camW ad) ++ (macW cs (ad 0) S F) ++ (hisW cs (ad 4) kd (upd (upd HS 0 (nI (hNx p))) 1 (nI (min (n + 1) 4)))) ++ (macW cs (kd 0) (kup KS (hNx p) S 0) (kup KF (hNx p) F 0)) ++ (macW cs (kd 1) (kup KS (hNx p) S 1) (kup KF (hNx p) F 1)) ++ (macW cs (kd 2) (kup KS (hNx p) S 2) (kup KF (hNx p) F 2)) ++ (macW cs (kd 3) (kup KS (hNx p) S 3) (kup KF (hNx p) F 3)))) ⟨hx, hb, hml, hown, hts⟩ zY_X4_save w_im_yX4_save w_se_yX4_save w_ml_X7_43 [.ref (ad 0 0)] [] (c_X4_save l D cs (ad 4) (ad 0) kd HS KS KF S F p n hp hp4 hn hn4) hE hK hA hP hD hS [18, 19, 20, 21, 22, 23, 24, 25, 26, 27, 28, 29, 30, 31, 32, 33, 34, 35, 36, 37, 38, 39, 40, 41, 42, 43, 44, 45, 46, 47, 48, 49, 50, 51, 52, 53, 54, 55, 56, 57, 58, 59, 60, 61, 62, 63, 64, 65, 66, 67, 68, 69, 70, 71, 72, 73, 74, 75, 76, 77, 78, 79, 80, 81, 82, 83, 84, 85, 86, 87, 1, 2, 3, 4, 5, 6, 7, 8, 9, 10, 11, 12, 13, 14, 15, 16, 17] rfl rfl rfl rfl 4 rfl rfl rfl rfl hl.1 (Nat.le_of_ble_eq_true rfl) ⟨Nat.le_of_ble_eq_true rfl, Nat.le_of_ble_eq_true rfl⟩ ⟨Nat.le_of_ble_eq_true rfl, Nat.le_of_ble_eq_true rfl⟩ dX7_turn_13 (fun H locs hP hD hS => ?_)
  refine lv_aload_n hx hb dX7_turn_16 rfl (lv_at hl 0 rfl) ?_
  refine va_get (D := D) (ci := 7) (v := .ref (ad 0 0)) (C := RX7) (T := TX7) (N := 5) hx hb hts wsI_X7 hown hK hP 0 rfl rfl 0 (by decide) (hts _ w_fl_X7_10) (fun _ h9 => h9) rfl dX7_turn_17 ?_
  refine va_get (D := D) (ci := 5) (v := .int (S 1)) (C := RX5) (T := TX5) (N := 13) hx hb hts wsI_X5 hown hK hP 1 rfl rfl 1 (by decide) (hts _ w_fl_X7_140) (fun _ h9 => h9) rfl dX7_turn_20 ?_
  refine lv_istore_n (lv' := [(2, .int (S 1)), (0, .ref (ad 3 0)), (1, .int st)]) hx hb dX7_turn_23 rfl hl (by decide) rfl (fun ls hl => ?_)
  refine lv_aload_n hx hb dX7_turn_24 rfl (lv_at hl 1 rfl) ?_
  refine va_get (D := D) (ci := 7) (v := .ref (ad 0 0)) (C := RX7) (T := TX7) (N := 5) hx hb hts wsI_X7 hown hK hP 0 rfl rfl 0 (by decide) (hts _ w_fl_X7_10) (fun _ h9 => h9) rfl dX7_turn_25 ?_
  refine lv_iload_n hx hb dX7_turn_28 rfl (lv_at hl 2 rfl) ?_
  refine z_callV (wn := ((camW ad) ++ (macW cs (ad 0) (upd (upd S 1 st) 2 0) F) ++ (hisW cs (ad 4) kd (upd (upd HS 0 (nI (hNx p))) 1 (nI (min (n + 1) 4)))) ++ (macW cs (kd 0) (kup KS (hNx p) S 0) (kup KF (hNx p) F 0)) ++ (macW cs (kd 1) (kup KS (hNx p) S 1) (kup KF (hNx p) F 1)) ++ (macW cs (kd 2) (kup KS (hNx p) S 2) (kup KF (hNx p) F 2)) ++ (macW cs (kd 3) (kup KS (hNx p) S 3) (kup KF (hNx p) F 3)))) ⟨hx, hb, hml, hown, hts⟩ zY_X5_standAt w_im_yX5_standAt w_se_yX5_standAt w_ml_X7_143 [.int st] [] (c_X5_standAt l D cs (ad 0) S F st) hE hK hA hP hD hS [1, 2, 3, 4, 5, 6, 7, 8, 9, 10, 11, 12, 13, 14, 15, 16, 17] rfl rfl rfl rfl 5 rfl rfl rfl rfl hl.1 (Nat.le_of_ble_eq_true rfl) ⟨Nat.le_of_ble_eq_true rfl, Nat.le_of_ble_eq_true rfl⟩ ⟨Nat.le_of_ble_eq_true rfl, Nat.le_of_ble_eq_true rfl⟩ dX7_turn_29 (fun H locs hP hD hS => ?_)
  refine lv_iload_n hx hb dX7_turn_32 rfl (lv_at hl 0 rfl) ?_
  exact z_iretX hx hb hr hlk hK hP hD hS dX7_turn_33 (by rw [exT_t x_1]) (Nat.le_of_ble_eq_true rfl) (Nat.le_of_ble_eq_true rfl) rfl rfl

set_option maxHeartbeats 4000000 in
set_option maxRecDepth 100000 in
theorem c_X7_run (l : Launch) (D : va_G) (cs : zCs) (hfl : l.stackTraces = false) (ad : Nat → Nat → Nat) (S : Nat → Int32) (F : Nat → Nat → Int32) (kd : Nat → Nat → Nat) (HS : Nat → Int32) (KS : Nat → Nat → Int32) (KF : Nat → Nat → Nat → Int32) (p n : Nat) (tk : Int32) (hp : HS 0 = nI p) (hp4 : p < 4) (hn : HS 1 = nI n) (hn4 : n ≤ 4) : zMx l D cs yX7_run cX7_run 4 (some FieldType.int) 6 154 1 6 [.ref (ad 3 0), .int tk] ((camW ad) ++ (macW cs (ad 0) S F) ++ (hisW cs (ad 4) kd HS) ++ (macW cs (kd 0) (KS 0) (KF 0)) ++ (macW cs (kd 1) (KS 1) (KF 1)) ++ (macW cs (kd 2) (KS 2) (KF 2)) ++ (macW cs (kd 3) (KS 3) (KF 3))) (exT (1 ≤ tk ∧ tk ≤ 500) zIA (exT ((S 9) + tk ≤ 100000) zIS none)) (some (.int ((tkN (S, F) (nN tk)).1 10 - (S 10)))) ((camW ad) ++ (macW cs (ad 0) ((tkN (S, F) (nN tk)).1) ((tkN (S, F) (nN tk)).2)) ++ (hisW cs (ad 4) kd (upd (upd HS 0 (nI (hNx p))) 1 (nI (min (n + 1) 4)))) ++ (macW cs (kd 0) (kup KS (hNx p) S 0) (kup KF (hNx p) F 0)) ++ (macW cs (kd 1) (kup KS (hNx p) S 1) (kup KF (hNx p) F 1)) ++ (macW cs (kd 2) (kup KS (hNx p) S 2) (kup KF (hNx p) F 2)) ++ (macW cs (kd 3) (kup KS (hNx p) S 3) (kup KF (hNx p) F 3))) := by
  refine zMx.of (own := RX7) (by decide) (Nat.le_of_ble_eq_true rfl) rfl ?_
  intro pq eq s mq below meth cq A ls hx hb hr hml hown hts hlk htab hE hK hA hP hD hS hl
  have hl : lv_has ls 4 [(0, .ref (ad 3 0)), (1, .int tk)] := hl
  refine lv_iload_n hx hb dX7_run_0 rfl (lv_at hl 1 rfl) ?_
  refine lv_iconst (v := 1) hx hb dX7_run_1 (by decide) ?_
  refine lv_sipush (v := 500) hx hb dX7_run_2 (by decide) ?_
  refine z_callS (wn := ((camW ad) ++ (macW cs (ad 0) S F) ++ (hisW cs (ad 4) kd HS) ++ (macW cs (kd 0) (KS 0) (KF 0)) ++ (macW cs (kd 1) (KS 1) (KF 1)) ++ (macW cs (kd 2) (KS 2) (KF 2)) ++ (macW cs (kd 3) (KS 3) (KF 3)))) ⟨hx, hb, hml, hown, hts⟩ zY_X7_within w_st_yX7_within w_ml_X7_55 [.int tk, .int 1, .int 500] [] (c_X7_within l D cs tk 1 500) hE hK hA hP hD hS [] rfl rfl rfl z_ins_nil rfl hl.1 (Nat.le_of_ble_eq_true rfl) ⟨Nat.le_of_ble_eq_true rfl, Nat.le_of_ble_eq_true rfl⟩ ⟨Nat.le_of_ble_eq_true rfl, Nat.le_of_ble_eq_true rfl⟩ dX7_run_5 (fun H locs hP hD hS => ?_)
  refine lv_if_ne (tgt := 21) hx hb dX7_run_8 (by decide) (fun c_1 => ?_) (fun c_1 => ?_)
  · skip
    have c_1 := bI_n0 c_1
    refine lv_aload_n hx hb dX7_run_21 rfl (lv_at hl 0 rfl) ?_
    refine va_get (D := D) (ci := 7) (v := .ref (ad 0 0)) (C := RX7) (T := TX7) (N := 5) hx hb hts wsI_X7 hown hK hP 0 rfl rfl 0 (by decide) (hts _ w_fl_X7_10) (fun _ h9 => h9) rfl dX7_run_22 ?_
    refine va_get (D := D) (ci := 5) (v := .int (S 9)) (C := RX5) (T := TX5) (N := 13) hx hb hts wsI_X5 hown hK hP 1 rfl rfl 5 (by decide) (hts _ w_fl_X7_148) (fun _ h9 => h9) rfl dX7_run_25 ?_
    refine lv_iload_n hx hb dX7_run_28 rfl (lv_at hl 1 rfl) ?_
    refine lv_iadd hx hb dX7_run_29 ?_
    refine lv_ldc (v := 100000) hx hb hown (hts _ w_ct_X7_151) dX7_run_30 ?_
    refine lv_icmp_le (tgt := 45) hx hb dX7_run_32 (by decide) (fun c_2 => ?_) (fun c_2 => ?_)
    · skip
      obtain ⟨T, hT, rfl⟩ := z_nat500 c_1
      have hNT := nN_nI (k := T) (by omega)
      refine lv_aload_n hx hb dX7_run_45 rfl (lv_at hl 0 rfl) ?_
      refine va_get (D := D) (ci := 7) (v := .ref (ad 4 0)) (C := RX7) (T := TX7) (N := 5) hx hb hts wsI_X7 hown hK hP 0 rfl rfl 1 (by decide) (hts _ w_fl_X7_19) (fun _ h9 => h9) rfl dX7_run_46 ?_
      refine lv_aload_n hx hb dX7_run_49 rfl (lv_at hl 0 rfl) ?_
      refine va_get (D := D) (ci := 7) (v := .ref (ad 0 0)) (C := RX7) (T := TX7) (N := 5) hx hb hts wsI_X7 hown hK hP 0 rfl rfl 0 (by decide) (hts _ w_fl_X7_10) (fun _ h9 => h9) rfl dX7_run_50 ?_
      refine z_callV (wn := ((camW ad) ++ (macW cs (ad 0) S F) ++ (hisW cs (ad 4) kd (upd (upd HS 0 (nI (hNx p))) 1 (nI (min (n + 1) 4)))) ++ (macW cs (kd 0) (kup KS (hNx p) S 0) (kup KF (hNx p) F 0)) ++ (macW cs (kd 1) (kup KS (hNx p) S 1) (kup KF (hNx p) F 1)) ++ (macW cs (kd 2) (kup KS (hNx p) S 2) (kup KF (hNx p) F 2)) ++ (macW cs (kd 3) (kup KS (hNx p) S 3) (kup KF (hNx p) F 3)))) ⟨hx, hb, hml, hown, hts⟩ zY_X4_save w_im_yX4_save w_se_yX4_save w_ml_X7_43 [.ref (ad 0 0)] [] (c_X4_save l D cs (ad 4) (ad 0) kd HS KS KF S F p n hp hp4 hn hn4) hE hK hA hP hD hS [18, 19, 20, 21, 22, 23, 24, 25, 26, 27, 28, 29, 30, 31, 32, 33, 34, 35, 36, 37, 38, 39, 40, 41, 42, 43, 44, 45, 46, 47, 48, 49, 50, 51, 52, 53, 54, 55, 56, 57, 58, 59, 60, 61, 62, 63, 64, 65, 66, 67, 68, 69, 70, 71, 72, 73, 74, 75, 76, 77, 78, 79, 80, 81, 82, 83, 84, 85, 86, 87, 1, 2, 3, 4, 5, 6, 7, 8, 9, 10, 11, 12, 13, 14, 15, 16, 17] rfl rfl rfl rfl 4 rfl rfl rfl rfl hl.1 (Nat.le_of_ble_eq_true rfl) ⟨Nat.le_of_ble_eq_true rfl, Nat.le_of_ble_eq_true rfl⟩ ⟨Nat.le_of_ble_eq_true rfl, Nat.le_of_ble_eq_true rfl⟩ dX7_run_53 (fun H locs hP hD hS => ?_)
      refine lv_aload_n hx hb dX7_run_56 rfl (lv_at hl 0 rfl) ?_
      refine va_get (D := D) (ci := 7) (v := .ref (ad 0 0)) (C := RX7) (T := TX7) (N := 5) hx hb hts wsI_X7 hown hK hP 0 rfl rfl 0 (by decide) (hts _ w_fl_X7_10) (fun _ h9 => h9) rfl dX7_run_57 ?_
      refine va_get (D := D) (ci := 5) (v := .int (S 10)) (C := RX5) (T := TX5) (N := 13) hx hb hts wsI_X5 hown hK hP 1 rfl rfl 6 (by decide) (hts _ w_fl_X7_154) (fun _ h9 => h9) rfl dX7_run_60 ?_
      refine lv_istore_n (lv' := [(2, .int (S 10)), (0, .ref (ad 3 0)), (1, .int (nI T))]) hx hb dX7_run_63 rfl hl (by decide) rfl (fun ls hl => ?_)
      refine lv_iconst (v := 0) hx hb dX7_run_64 (by decide) ?_
      refine lv_istore_n (lv' := [(3, .int 0), (2, .int (S 10)), (0, .ref (ad 3 0)), (1, .int (nI T))]) hx hb dX7_run_65 rfl hl (by decide) rfl (fun ls hl => ?_)
      have lp66 : ∀ (k : Nat) (i : Nat), (i ≤ T) → (T + 1 ≤ i + k) → ∀ (H : Heap) (locs : List Loc) (ls : Array Slot), va_P D vwCl ((camW ad) ++ (macW cs (ad 0) ((tkN (S, F) i).1) ((tkN (S, F) i).2)) ++ (hisW cs (ad 4) kd (upd (upd HS 0 (nI (hNx p))) 1 (nI (min (n + 1) 4)))) ++ (macW cs (kd 0) (kup KS (hNx p) S 0) (kup KF (hNx p) F 0)) ++ (macW cs (kd 1) (kup KS (hNx p) S 1) (kup KF (hNx p) F 1)) ++ (macW cs (kd 2) (kup KS (hNx p) S 2) (kup KF (hNx p) F 2)) ++ (macW cs (kd 3) (kup KS (hNx p) S 3) (kup KF (hNx p) F 3))) H → va_D A ((camW ad) ++ (macW cs (ad 0) ((tkN (S, F) i).1) ((tkN (S, F) i).2)) ++ (hisW cs (ad 4) kd (upd (upd HS 0 (nI (hNx p))) 1 (nI (min (n + 1) 4)))) ++ (macW cs (kd 0) (kup KS (hNx p) S 0) (kup KF (hNx p) F 0)) ++ (macW cs (kd 1) (kup KS (hNx p) S 1) (kup KF (hNx p) F 1)) ++ (macW cs (kd 2) (kup KS (hNx p) S 2) (kup KF (hNx p) F 2)) ++ (macW cs (kd 3) (kup KS (hNx p) S 3) (kup KF (hNx p) F 3))) → va_S A s.heap H locs → lv_has ls 4 [(0, .ref (ad 3 0)), (1, .int (nI T)), (2, .int (S 10)), (3, .int (nI i))] → W pq l eq ({ frames := 6, cells := 1, slots := 6, locals := 154 } : Room) s mq ([.ref (ad 3 0), .int (nI T)] : List Value).toArray below meth cq H locs 0 0 (vx_MQ below (zQx D cs (exT (1 ≤ (nI T) ∧ (nI T) ≤ 500) zIA (exT ((S 9) + (nI T) ≤ 100000) zIS none)) (some (.int ((tkN (S, F) (nN (nI T))).1 10 - (S 10)))) ((camW ad) ++ (macW cs (ad 0) ((tkN (S, F) (nN (nI T))).1) ((tkN (S, F) (nN (nI T))).2)) ++ (hisW cs (ad 4) kd (upd (upd HS 0 (nI (hNx p))) 1 (nI (min (n + 1) 4)))) ++ (macW cs (kd 0) (kup KS (hNx p) S 0) (kup KF (hNx p) F 0)) ++ (macW cs (kd 1) (kup KS (hNx p) S 1) (kup KF (hNx p) F 1)) ++ (macW cs (kd 2) (kup KS (hNx p) S 2) (kup KF (hNx p) F 2)) ++ (macW cs (kd 3) (kup KS (hNx p) S 3) (kup KF (hNx p) F 3))) A) (zXB D cs (exT (1 ≤ (nI T) ∧ (nI T) ≤ 500) zIA (exT ((S 9) + (nI T) ≤ 100000) zIS none)) ((camW ad) ++ (macW cs (ad 0) S F) ++ (hisW cs (ad 4) kd HS) ++ (macW cs (kd 0) (KS 0) (KF 0)) ++ (macW cs (kd 1) (KS 1) (KF 1)) ++ (macW cs (kd 2) (KS 2) (KF 2)) ++ (macW cs (kd 3) (KS 3) (KF 3))) A) ([.ref (ad 3 0), .int (nI T)] : List Value).toArray s 1 6 A) (F0 mq 66 ls []) := by
        intro k
        induction k with
        | zero =>
          intro i h1 h2 H locs ls hP hD hS hl
          omega
        | succ k ih =>
          intro i h1 h2 H locs ls hP hD hS hl
          refine lv_iload_n hx hb dX7_run_66 rfl (lv_at hl 3 rfl) ?_
          refine lv_iload_n hx hb dX7_run_67 rfl (lv_at hl 1 rfl) ?_
          refine lv_icmp_ge (tgt := 85) hx hb dX7_run_68 (by decide) (fun c_3 => ?_) (fun c_3 => ?_)
          · skip
            refine lv_aload_n hx hb dX7_run_85 rfl (lv_at hl 0 rfl) ?_
            refine va_get (D := D) (ci := 7) (v := .ref (ad 0 0)) (C := RX7) (T := TX7) (N := 5) hx hb hts wsI_X7 hown hK hP 0 rfl rfl 0 (by decide) (hts _ w_fl_X7_10) (fun _ h9 => h9) rfl dX7_run_86 ?_
            refine va_get (D := D) (ci := 5) (v := .int (((tkN (S, F) i).1) 10)) (C := RX5) (T := TX5) (N := 13) hx hb hts wsI_X5 hown hK hP 1 rfl rfl 6 (by decide) (hts _ w_fl_X7_154) (fun _ h9 => h9) rfl dX7_run_89 ?_
            refine lv_iload_n hx hb dX7_run_92 rfl (lv_at hl 2 rfl) ?_
            refine lv_isub hx hb dX7_run_93 ?_
            have h5 : T = i := by have := (nI_leI (by omega) (by omega)).mp c_3; omega
            exact z_iretX hx hb hr hlk hK hP hD hS dX7_run_94 (by rw [exT_t c_1, exT_t c_2]) (Nat.le_of_ble_eq_true rfl) (Nat.le_of_ble_eq_true rfl) (by subst h5; simp only [hNT]) (by subst h5; simp only [hNT])
          · skip
            have h4 : i < T := Nat.lt_of_not_le (fun h => c_3 ((nI_leI (by omega) (by omega)).mpr h))
            refine lv_aload_n hx hb dX7_run_71 rfl (lv_at hl 0 rfl) ?_
            refine va_get (D := D) (ci := 7) (v := .ref (ad 0 0)) (C := RX7) (T := TX7) (N := 5) hx hb hts wsI_X7 hown hK hP 0 rfl rfl 0 (by decide) (hts _ w_fl_X7_10) (fun _ h9 => h9) rfl dX7_run_72 ?_
            refine z_callV (wn := ((camW ad) ++ (macW cs (ad 0) ((tkP (((tkN (S, F) i).1), ((tkN (S, F) i).2))).1) ((tkP (((tkN (S, F) i).1), ((tkN (S, F) i).2))).2)) ++ (hisW cs (ad 4) kd (upd (upd HS 0 (nI (hNx p))) 1 (nI (min (n + 1) 4)))) ++ (macW cs (kd 0) (kup KS (hNx p) S 0) (kup KF (hNx p) F 0)) ++ (macW cs (kd 1) (kup KS (hNx p) S 1) (kup KF (hNx p) F 1)) ++ (macW cs (kd 2) (kup KS (hNx p) S 2) (kup KF (hNx p) F 2)) ++ (macW cs (kd 3) (kup KS (hNx p) S 3) (kup KF (hNx p) F 3)))) ⟨hx, hb, hml, hown, hts⟩ zY_X5_tick w_im_yX5_tick w_se_yX5_tick w_ml_X7_157 [] [] (c_X5_tick l D cs (ad 0) ((tkN (S, F) i).1) ((tkN (S, F) i).2)) hE hK hA hP hD hS [1, 2, 3, 4, 5, 6, 7, 8, 9, 10, 11, 12, 13, 14, 15, 16, 17] rfl rfl rfl rfl 5 rfl rfl rfl rfl hl.1 (Nat.le_of_ble_eq_true rfl) ⟨Nat.le_of_ble_eq_true rfl, Nat.le_of_ble_eq_true rfl⟩ ⟨Nat.le_of_ble_eq_true rfl, Nat.le_of_ble_eq_true rfl⟩ dX7_run_75 (fun H locs hP hD hS => ?_)
            refine lv_pop hx hb dX7_run_78 rfl ?_
            refine lv_iinc (v := nI (i + 1)) (lv' := [(3, .int (nI (i + 1))), (0, .ref (ad 3 0)), (1, .int (nI T)), (2, .int (S 10))]) hx hb dX7_run_79 hl (k := 3) rfl (show nI i + Int32.ofInt 1 = nI (i + 1) from nI_add i 1) (by decide) rfl (fun ls hl => ?_)
            refine lv_goto (tgt := 66) hx hb dX7_run_82 (by decide) ?_
            exact ih (i + 1) (by omega) (by omega) _ _ _ hP hD hS (lv_sub hl [1, 2, 3, 0] rfl)
      exact lp66 (T + 1) 0 (Nat.zero_le T) (by omega) _ _ _ hP hD hS (lv_sub hl [2, 3, 1, 0] rfl)
    · skip
      exact z_throw hx hb hfl hml hown hts hlk htab hE hK hP hD hS hl.1 zThr_IS (List.mem_of_getElem? (i := 9) rfl) dX7_run_35 dX7_run_38 dX7_run_39 dX7_run_41 dX7_run_44 ⟨Nat.le_of_ble_eq_true rfl, Nat.le_of_ble_eq_true rfl, Nat.le_of_ble_eq_true rfl, Nat.le_of_ble_eq_true rfl⟩ (Nat.le_of_ble_eq_true rfl) (Nat.le_of_ble_eq_true rfl) (by rw [exT_t c_1]; exact exT_f (fun h => c_2 h)) rfl
  · skip
    have c_1 := bI_0.mp c_1
    exact z_throw hx hb hfl hml hown hts hlk htab hE hK hP hD hS hl.1 zThr_IA (List.mem_of_getElem? (i := 8) rfl) dX7_run_11 dX7_run_14 dX7_run_15 dX7_run_17 dX7_run_20 ⟨Nat.le_of_ble_eq_true rfl, Nat.le_of_ble_eq_true rfl, Nat.le_of_ble_eq_true rfl, Nat.le_of_ble_eq_true rfl⟩ (Nat.le_of_ble_eq_true rfl) (Nat.le_of_ble_eq_true rfl) (by exact exT_f (fun h => c_1 h)) rfl
