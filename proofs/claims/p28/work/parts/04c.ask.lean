theorem z_nat8 {x : Int32} (h : 0 ≤ x ∧ x ≤ 8 - 1) : ∃ k : Nat, k < 8 ∧ x = nI k := by
  obtain ⟨k, hk, e⟩ := z_nat (n := 7) (by decide) h
  exact ⟨k, by omega, e⟩
theorem z_nat4w {x : Int32} (h : 0 ≤ x ∧ x ≤ 4 - 1) : ∃ k : Nat, k < 4 ∧ x = nI k := by
  obtain ⟨k, hk, e⟩ := z_nat (n := 3) (by decide) h
  exact ⟨k, by omega, e⟩
theorem z_nat16 {x : Int32} (h : 0 ≤ x ∧ x ≤ 16 - 1) : ∃ k : Nat, k < 16 ∧ x = nI k := by
  obtain ⟨k, hk, e⟩ := z_nat (n := 15) (by decide) h
  exact ⟨k, by omega, e⟩
theorem z_nat300 {x : Int32} (h : 1 ≤ x ∧ x ≤ 300) : ∃ k : Nat, (1 ≤ k ∧ k ≤ 300) ∧ x = nI k := by
  obtain ⟨k, hk, e⟩ := z_nat500 ⟨h.1, Int32.le_trans h.2 (by decide)⟩
  refine ⟨k, ⟨hk.1, ?_⟩, e⟩
  have := Int32.le_iff_toInt_le.mp h.2
  rw [e, nI_toInt (by omega)] at this
  have e1 : (300 : Int32).toInt = 300 := by decide
  omega
def toR (c : Nat) : Nat → Nat → zP → Int32
  | 0, _, _ => -1
  | k + 1, t, p => if p.2 1 c = 100 then nI t else toR c k (t + 1) (tkP p)
def toP (c : Nat) : Nat → zP → zP
  | 0, p => p
  | k + 1, p => if p.2 1 c = 100 then p else toP c k (tkP p)
def gsR : Nat → zP → Int32
  | 0, _ => 1
  | k + 1, p => if tkR p = 1 then 0 else gsR k (tkP p)
def gsP : Nat → zP → zP
  | 0, p => p
  | k + 1, p => if tkR p = 1 then tkP p else gsP k (tkP p)
def lcR (T : Nat) (S : Nat → Int32) (F : Nat → Nat → Int32) : Nat → Nat → Int32
  | 0, _ => -1
  | k + 1, j => if gsR T (upd S 7 (nI (10 * j)), F) = 0 then lcR T S F k (j + 1) else nI (10 * j)
def lcP (T : Nat) (S : Nat → Int32) (F : Nat → Nat → Int32) : Nat → Nat → zP → zP
  | 0, _, q => q
  | k + 1, j, _ => if gsR T (upd S 7 (nI (10 * j)), F) = 0 then lcP T S F k (j + 1) (gsP T (upd S 7 (nI (10 * j)), F)) else gsP T (upd S 7 (nI (10 * j)), F)
def ds0 (S : Nat → Int32) (F : Nat → Nat → Int32) (d : Nat) : zP := (upd (upd (upd S 1 0) 2 0) 3 (nI d), zU F 1 (fun _ => 0))
abbrev dsB (p : zP) : Prop := ¬ tkR p < 2 ∧ ¬ aoAll p.1 p.2
def dsR : Nat → zP → Int32
  | 0, _ => 0
  | k + 1, p => if dsB p then 0 else if tkR p = 3 then 1 else dsR k (tkP p)
def dsP : Nat → zP → zP
  | 0, p => p
  | k + 1, p => if dsB p then tkP p else if tkR p = 3 then tkP p else dsP k (tkP p)
def sdR (S : Nat → Int32) (F : Nat → Nat → Int32) : Nat → Nat → Int32
  | 0, _ => -1
  | k + 1, d => if dsR 1000 (ds0 S F d) = 0 then sdR S F k (d + 1) else nI d
def sdP (S : Nat → Int32) (F : Nat → Nat → Int32) : Nat → Nat → zP → zP
  | 0, _, q => q
  | k + 1, d, _ => if dsR 1000 (ds0 S F d) = 0 then sdP S F k (d + 1) (dsP 1000 (ds0 S F d)) else dsP 1000 (ds0 S F d)
theorem tuR_val : ∀ {k t : Nat} {p : zP}, ¬ tuR k t p = -1 → ∃ j : Nat, (t ≤ j ∧ j < t + k) ∧ tuR k t p = nI j
  | 0, t, p, h => absurd rfl h
  | k + 1, t, p, h => by
    unfold tuR at h ⊢
    by_cases hc : tkR p = 3
    · rw [if_pos hc]
      exact ⟨t, ⟨Nat.le_refl _, by omega⟩, rfl⟩
    · rw [if_neg hc] at h ⊢
      obtain ⟨j, hj, e⟩ := tuR_val h
      exact ⟨j, ⟨by omega, by omega⟩, e⟩
abbrev rpA (S : Nat → Int32) (F : Nat → Nat → Int32) : zP := tuP 2000 (S, F)
abbrev rpJ (S : Nat → Int32) (F : Nat → Nat → Int32) : Nat := nN (tuR 2000 1 (S, F))
abbrev rpB (S : Nat → Int32) (F : Nat → Nat → Int32) : zP := tuP (2000 - rpJ S F) (rpA S F)
def rpR (S : Nat → Int32) (F : Nat → Nat → Int32) : Int32 := if tuR 2000 1 (S, F) = -1 then 0 else if tuR (2000 - rpJ S F) 1 (rpA S F) = -1 then 0 else bI (saAll (rpB S F).1 (rpA S F).1 (rpB S F).2 (rpA S F).2)
def rpT (S : Nat → Int32) (F : Nat → Nat → Int32) : zP := if tuR 2000 1 (S, F) = -1 then rpA S F else rpB S F
def rpE (S : Nat → Int32) (F : Nat → Nat → Int32) (E : zP) : zP := if tuR 2000 1 (S, F) = -1 then E else rpA S F
set_option maxHeartbeats 4000000 in
set_option maxRecDepth 100000 in
theorem c_X7_cam (l : Launch) (D : va_G) (cs : zCs) (hfl : l.stackTraces = false) (ad : Nat → Nat → Nat) (S : Nat → Int32) (F : Nat → Nat → Int32) (tr st : Int32)  : zMx l D cs yX7_cam cX7_cam 3 (some FieldType.boolean) 7 103 2 12 [.ref (ad 3 0), .int tr, .int st] ((camW ad) ++ (macW cs (ad 0) S F)) (exT (0 ≤ tr ∧ tr ≤ 4) zIO (exT (0 ≤ st ∧ st ≤ (S 0) - 1) zIO none)) (some (.int (bI (hasC F (nN tr) st)))) ((camW ad) ++ (macW cs (ad 0) S F)) := by
  refine zMx.of (own := RX7) (by decide) (Nat.le_of_ble_eq_true rfl) rfl ?_
  intro pq eq s mq below meth cq A ls hx hb hr hml hown hts hlk htab hE hK hA hP hD hS hl
  have hl : lv_has ls 3 [(0, .ref (ad 3 0)), (1, .int tr), (2, .int st)] := hl
  refine lv_iload_n hx hb dX7_cam_0 rfl (lv_at hl 1 rfl) ?_
  refine z_callSx (wn := ((camW ad) ++ (macW cs (ad 0) S F))) ⟨hx, hb, hml, hown, hts⟩ zY_X7_requireCylinder w_st_yX7_requireCylinder w_ml_X7_36 [.int tr] [] (c_X7_requireCylinder l D cs hfl tr) hE hK hA hP hD hS [] rfl rfl rfl z_ins_nil rfl hl.1 (Nat.le_of_ble_eq_true rfl) ⟨Nat.le_of_ble_eq_true rfl, Nat.le_of_ble_eq_true rfl⟩ ⟨Nat.le_of_ble_eq_true rfl, Nat.le_of_ble_eq_true rfl⟩ dX7_cam_1 (fun E ce q9 H locs hex hP hD hS hce hcv hcl => z_outX htab hlk hK hP hD hS hce hcv hcl (by exact exT_out hex) rfl (Nat.le_of_ble_eq_true rfl) (Nat.le_of_ble_eq_true rfl)) (fun hex H locs hP hD hS => ?_)
  have x_1 := exT_none hex
  refine lv_aload_n hx hb dX7_cam_4 rfl (lv_at hl 0 rfl) ?_
  refine lv_iload_n hx hb dX7_cam_5 rfl (lv_at hl 2 rfl) ?_
  refine z_callVx (wn := ((camW ad) ++ (macW cs (ad 0) S F))) ⟨hx, hb, hml, hown, hts⟩ zY_X7_requireStep w_im_yX7_requireStep w_se_yX7_requireStep w_ml_X7_40 [.int st] [] (c_X7_requireStep l D cs hfl ad S F st) hE hK hA hP hD hS [0, 1, 2, 3, 4, 5, 6, 7, 8, 9, 10, 11, 12, 13, 14, 15, 16, 17] rfl rfl rfl rfl 7 rfl rfl rfl rfl hl.1 (Nat.le_of_ble_eq_true rfl) ⟨Nat.le_of_ble_eq_true rfl, Nat.le_of_ble_eq_true rfl⟩ ⟨Nat.le_of_ble_eq_true rfl, Nat.le_of_ble_eq_true rfl⟩ dX7_cam_6 (fun E ce q9 H locs hex hP hD hS hce hcv hcl => z_outX htab hlk hK hP hD hS hce hcv hcl (by rw [exT_t x_1]; exact exT_out hex) rfl (Nat.le_of_ble_eq_true rfl) (Nat.le_of_ble_eq_true rfl)) (fun hex H locs hP hD hS => ?_)
  have x_2 := exT_none hex
  obtain ⟨k, hk, rfl⟩ := z_nat4 x_1
  have hNk := nN_nI (k := k) (by omega)
  refine lv_aload_n hx hb dX7_cam_9 rfl (lv_at hl 0 rfl) ?_
  refine va_get (D := D) (ci := 7) (v := .ref (ad 0 0)) (C := RX7) (T := TX7) (N := 5) hx hb hts wsI_X7 hown hK hP 0 rfl rfl 0 (by decide) (hts _ w_fl_X7_10) (fun _ h9 => h9) rfl dX7_cam_10 ?_
  refine lv_iload_n hx hb dX7_cam_13 rfl (lv_at hl 1 rfl) ?_
  refine lv_iload_n hx hb dX7_cam_14 rfl (lv_at hl 2 rfl) ?_
  refine z_callV (wn := ((camW ad) ++ (macW cs (ad 0) S F))) ⟨hx, hb, hml, hown, hts⟩ zY_X5_hasCam w_im_yX5_hasCam w_se_yX5_hasCam w_ml_X7_161 [.int (nI k), .int st] [] (c_X5_hasCam l D cs (ad 0) S F k st hk) hE hK hA hP hD hS [1, 2, 3, 4, 5, 6, 7, 8, 9, 10, 11, 12, 13, 14, 15, 16, 17] rfl rfl rfl rfl 5 rfl rfl rfl rfl hl.1 (Nat.le_of_ble_eq_true rfl) ⟨Nat.le_of_ble_eq_true rfl, Nat.le_of_ble_eq_true rfl⟩ ⟨Nat.le_of_ble_eq_true rfl, Nat.le_of_ble_eq_true rfl⟩ dX7_cam_15 (fun H locs hP hD hS => ?_)
  exact z_zretX hx hb hr hlk hK hP hD hS dX7_cam_18 bI_nar (by rw [exT_t x_1, exT_t x_2]) (Nat.le_of_ble_eq_true rfl) (Nat.le_of_ble_eq_true rfl) (by simp only [hNk]) rfl

set_option maxHeartbeats 4000000 in
set_option maxRecDepth 100000 in
theorem c_X7_cylinder (l : Launch) (D : va_G) (cs : zCs) (hfl : l.stackTraces = false) (ad : Nat → Nat → Nat) (S : Nat → Int32) (F : Nat → Nat → Int32) (cy wh : Int32)  : zMx l D cs yX7_cylinder cX7_cylinder 3 (some FieldType.int) 7 103 2 12 [.ref (ad 3 0), .int cy, .int wh] ((camW ad) ++ (macW cs (ad 0) S F)) (exT (0 ≤ cy ∧ cy ≤ 4) zIO (exT (0 ≤ wh ∧ wh ≤ 8 - 1) zIA none)) (some (.int (cylN S F (nN cy) (nN wh)))) ((camW ad) ++ (macW cs (ad 0) S F)) := by
  refine zMx.of (own := RX7) (by decide) (Nat.le_of_ble_eq_true rfl) rfl ?_
  intro pq eq s mq below meth cq A ls hx hb hr hml hown hts hlk htab hE hK hA hP hD hS hl
  have hl : lv_has ls 3 [(0, .ref (ad 3 0)), (1, .int cy), (2, .int wh)] := hl
  refine lv_iload_n hx hb dX7_cylinder_0 rfl (lv_at hl 1 rfl) ?_
  refine z_callSx (wn := ((camW ad) ++ (macW cs (ad 0) S F))) ⟨hx, hb, hml, hown, hts⟩ zY_X7_requireCylinder w_st_yX7_requireCylinder w_ml_X7_36 [.int cy] [] (c_X7_requireCylinder l D cs hfl cy) hE hK hA hP hD hS [] rfl rfl rfl z_ins_nil rfl hl.1 (Nat.le_of_ble_eq_true rfl) ⟨Nat.le_of_ble_eq_true rfl, Nat.le_of_ble_eq_true rfl⟩ ⟨Nat.le_of_ble_eq_true rfl, Nat.le_of_ble_eq_true rfl⟩ dX7_cylinder_1 (fun E ce q9 H locs hex hP hD hS hce hcv hcl => z_outX htab hlk hK hP hD hS hce hcv hcl (by exact exT_out hex) rfl (Nat.le_of_ble_eq_true rfl) (Nat.le_of_ble_eq_true rfl)) (fun hex H locs hP hD hS => ?_)
  have x_1 := exT_none hex
  refine lv_iload_n hx hb dX7_cylinder_4 rfl (lv_at hl 2 rfl) ?_
  refine lv_bipush (v := 8) hx hb dX7_cylinder_5 (by decide) ?_
  refine z_callSx (wn := ((camW ad) ++ (macW cs (ad 0) S F))) ⟨hx, hb, hml, hown, hts⟩ zY_X7_requireWhat w_st_yX7_requireWhat w_ml_X7_165 [.int wh, .int 8] [] (c_X7_requireWhat l D cs hfl wh 8) hE hK hA hP hD hS [] rfl rfl rfl z_ins_nil rfl hl.1 (Nat.le_of_ble_eq_true rfl) ⟨Nat.le_of_ble_eq_true rfl, Nat.le_of_ble_eq_true rfl⟩ ⟨Nat.le_of_ble_eq_true rfl, Nat.le_of_ble_eq_true rfl⟩ dX7_cylinder_7 (fun E ce q9 H locs hex hP hD hS hce hcv hcl => z_outX htab hlk hK hP hD hS hce hcv hcl (by rw [exT_t x_1]; exact exT_out hex) rfl (Nat.le_of_ble_eq_true rfl) (Nat.le_of_ble_eq_true rfl)) (fun hex H locs hP hD hS => ?_)
  have x_2 := exT_none hex
  obtain ⟨k, hk, rfl⟩ := z_nat4 x_1
  have hNk := nN_nI (k := k) (by omega)
  obtain ⟨j, hj, rfl⟩ := z_nat8 x_2
  have hNj := nN_nI (k := j) (by omega)
  refine lv_aload_n hx hb dX7_cylinder_10 rfl (lv_at hl 0 rfl) ?_
  refine va_get (D := D) (ci := 7) (v := .ref (ad 0 0)) (C := RX7) (T := TX7) (N := 5) hx hb hts wsI_X7 hown hK hP 0 rfl rfl 0 (by decide) (hts _ w_fl_X7_10) (fun _ h9 => h9) rfl dX7_cylinder_11 ?_
  refine lv_iload_n hx hb dX7_cylinder_14 rfl (lv_at hl 1 rfl) ?_
  refine lv_iload_n hx hb dX7_cylinder_15 rfl (lv_at hl 2 rfl) ?_
  refine z_callV (wn := ((camW ad) ++ (macW cs (ad 0) S F))) ⟨hx, hb, hml, hown, hts⟩ zY_X5_cylinderNumber w_im_yX5_cylinderNumber w_se_yX5_cylinderNumber w_ml_X7_169 [.int (nI k), .int (nI j)] [] (c_X5_cylinderNumber l D cs (ad 0) S F k j hk hj) hE hK hA hP hD hS [1, 2, 3, 4, 5, 6, 7, 8, 9, 10, 11, 12, 13, 14, 15, 16, 17] rfl rfl rfl rfl 5 rfl rfl rfl rfl hl.1 (Nat.le_of_ble_eq_true rfl) ⟨Nat.le_of_ble_eq_true rfl, Nat.le_of_ble_eq_true rfl⟩ ⟨Nat.le_of_ble_eq_true rfl, Nat.le_of_ble_eq_true rfl⟩ dX7_cylinder_16 (fun H locs hP hD hS => ?_)
  exact z_iretX hx hb hr hlk hK hP hD hS dX7_cylinder_19 (by rw [exT_t x_1, exT_t x_2]) (Nat.le_of_ble_eq_true rfl) (Nat.le_of_ble_eq_true rfl) (by simp only [hNk, hNj]) rfl

set_option maxHeartbeats 4000000 in
set_option maxRecDepth 100000 in
theorem c_X7_value (l : Launch) (D : va_G) (cs : zCs) (hfl : l.stackTraces = false) (ad : Nat → Nat → Nat) (S : Nat → Int32) (F : Nat → Nat → Int32) (wh : Int32)  : zMx l D cs yX7_value cX7_value 2 (some FieldType.int) 7 103 1 6 [.ref (ad 3 0), .int wh] ((camW ad) ++ (macW cs (ad 0) S F)) (exT (0 ≤ wh ∧ wh ≤ 16 - 1) zIA none) (some (.int (S (nN wh)))) ((camW ad) ++ (macW cs (ad 0) S F)) := by
  refine zMx.of (own := RX7) (by decide) (Nat.le_of_ble_eq_true rfl) rfl ?_
  intro pq eq s mq below meth cq A ls hx hb hr hml hown hts hlk htab hE hK hA hP hD hS hl
  have hl : lv_has ls 2 [(0, .ref (ad 3 0)), (1, .int wh)] := hl
  refine lv_iload_n hx hb dX7_value_0 rfl (lv_at hl 1 rfl) ?_
  refine lv_bipush (v := 16) hx hb dX7_value_1 (by decide) ?_
  refine z_callSx (wn := ((camW ad) ++ (macW cs (ad 0) S F))) ⟨hx, hb, hml, hown, hts⟩ zY_X7_requireWhat w_st_yX7_requireWhat w_ml_X7_165 [.int wh, .int 16] [] (c_X7_requireWhat l D cs hfl wh 16) hE hK hA hP hD hS [] rfl rfl rfl z_ins_nil rfl hl.1 (Nat.le_of_ble_eq_true rfl) ⟨Nat.le_of_ble_eq_true rfl, Nat.le_of_ble_eq_true rfl⟩ ⟨Nat.le_of_ble_eq_true rfl, Nat.le_of_ble_eq_true rfl⟩ dX7_value_3 (fun E ce q9 H locs hex hP hD hS hce hcv hcl => z_outX htab hlk hK hP hD hS hce hcv hcl (by exact exT_out hex) rfl (Nat.le_of_ble_eq_true rfl) (Nat.le_of_ble_eq_true rfl)) (fun hex H locs hP hD hS => ?_)
  have x_1 := exT_none hex
  obtain ⟨k, hk, rfl⟩ := z_nat16 x_1
  have hNk := nN_nI (k := k) (by omega)
  refine lv_aload_n hx hb dX7_value_6 rfl (lv_at hl 0 rfl) ?_
  refine va_get (D := D) (ci := 7) (v := .ref (ad 0 0)) (C := RX7) (T := TX7) (N := 5) hx hb hts wsI_X7 hown hK hP 0 rfl rfl 0 (by decide) (hts _ w_fl_X7_10) (fun _ h9 => h9) rfl dX7_value_7 ?_
  refine lv_iload_n hx hb dX7_value_10 rfl (lv_at hl 1 rfl) ?_
  refine z_callV (wn := ((camW ad) ++ (macW cs (ad 0) S F))) ⟨hx, hb, hml, hown, hts⟩ zY_X5_number w_im_yX5_number w_se_yX5_number w_ml_X7_176 [.int (nI k)] [] (c_X5_number l D cs (ad 0) S F k hk) hE hK hA hP hD hS [1, 2, 3, 4, 5, 6, 7, 8, 9, 10, 11, 12, 13, 14, 15, 16, 17] rfl rfl rfl rfl 5 rfl rfl rfl rfl hl.1 (Nat.le_of_ble_eq_true rfl) ⟨Nat.le_of_ble_eq_true rfl, Nat.le_of_ble_eq_true rfl⟩ ⟨Nat.le_of_ble_eq_true rfl, Nat.le_of_ble_eq_true rfl⟩ dX7_value_11 (fun H locs hP hD hS => ?_)
  exact z_iretX hx hb hr hlk hK hP hD hS dX7_value_14 (by rw [exT_t x_1]) (Nat.le_of_ble_eq_true rfl) (Nat.le_of_ble_eq_true rfl) (by simp only [hNk]) rfl

set_option maxHeartbeats 4000000 in
set_option maxRecDepth 100000 in
theorem c_X7_chart (l : Launch) (D : va_G) (cs : zCs) (hfl : l.stackTraces = false) (ad : Nat → Nat → Nat) (S : Nat → Int32) (F : Nat → Nat → Int32) (cy st : Int32)  : zMx l D cs yX7_chart cX7_chart 3 (some FieldType.int) 7 103 2 12 [.ref (ad 3 0), .int cy, .int st] ((camW ad) ++ (macW cs (ad 0) S F)) (exT (0 ≤ cy ∧ cy ≤ 4) zIO (exT (0 ≤ st ∧ st ≤ (S 0) - 1) zIO none)) (some (.int (chtAt F cy st))) ((camW ad) ++ (macW cs (ad 0) S F)) := by
  refine zMx.of (own := RX7) (by decide) (Nat.le_of_ble_eq_true rfl) rfl ?_
  intro pq eq s mq below meth cq A ls hx hb hr hml hown hts hlk htab hE hK hA hP hD hS hl
  have hl : lv_has ls 3 [(0, .ref (ad 3 0)), (1, .int cy), (2, .int st)] := hl
  refine lv_iload_n hx hb dX7_chart_0 rfl (lv_at hl 1 rfl) ?_
  refine z_callSx (wn := ((camW ad) ++ (macW cs (ad 0) S F))) ⟨hx, hb, hml, hown, hts⟩ zY_X7_requireCylinder w_st_yX7_requireCylinder w_ml_X7_36 [.int cy] [] (c_X7_requireCylinder l D cs hfl cy) hE hK hA hP hD hS [] rfl rfl rfl z_ins_nil rfl hl.1 (Nat.le_of_ble_eq_true rfl) ⟨Nat.le_of_ble_eq_true rfl, Nat.le_of_ble_eq_true rfl⟩ ⟨Nat.le_of_ble_eq_true rfl, Nat.le_of_ble_eq_true rfl⟩ dX7_chart_1 (fun E ce q9 H locs hex hP hD hS hce hcv hcl => z_outX htab hlk hK hP hD hS hce hcv hcl (by exact exT_out hex) rfl (Nat.le_of_ble_eq_true rfl) (Nat.le_of_ble_eq_true rfl)) (fun hex H locs hP hD hS => ?_)
  have x_1 := exT_none hex
  refine lv_aload_n hx hb dX7_chart_4 rfl (lv_at hl 0 rfl) ?_
  refine lv_iload_n hx hb dX7_chart_5 rfl (lv_at hl 2 rfl) ?_
  refine z_callVx (wn := ((camW ad) ++ (macW cs (ad 0) S F))) ⟨hx, hb, hml, hown, hts⟩ zY_X7_requireStep w_im_yX7_requireStep w_se_yX7_requireStep w_ml_X7_40 [.int st] [] (c_X7_requireStep l D cs hfl ad S F st) hE hK hA hP hD hS [0, 1, 2, 3, 4, 5, 6, 7, 8, 9, 10, 11, 12, 13, 14, 15, 16, 17] rfl rfl rfl rfl 7 rfl rfl rfl rfl hl.1 (Nat.le_of_ble_eq_true rfl) ⟨Nat.le_of_ble_eq_true rfl, Nat.le_of_ble_eq_true rfl⟩ ⟨Nat.le_of_ble_eq_true rfl, Nat.le_of_ble_eq_true rfl⟩ dX7_chart_6 (fun E ce q9 H locs hex hP hD hS hce hcv hcl => z_outX htab hlk hK hP hD hS hce hcv hcl (by rw [exT_t x_1]; exact exT_out hex) rfl (Nat.le_of_ble_eq_true rfl) (Nat.le_of_ble_eq_true rfl)) (fun hex H locs hP hD hS => ?_)
  have x_2 := exT_none hex
  refine lv_aload_n hx hb dX7_chart_9 rfl (lv_at hl 0 rfl) ?_
  refine va_get (D := D) (ci := 7) (v := .ref (ad 0 0)) (C := RX7) (T := TX7) (N := 5) hx hb hts wsI_X7 hown hK hP 0 rfl rfl 0 (by decide) (hts _ w_fl_X7_10) (fun _ h9 => h9) rfl dX7_chart_10 ?_
  refine va_get (D := D) (ci := 5) (v := .ref (ad 0 14)) (C := RX5) (T := TX5) (N := 13) hx hb hts wsI_X5 hown hK hP 1 rfl rfl 12 (by decide) (hts _ w_fl_X7_179) (fun _ h9 => h9) rfl dX7_chart_13 ?_
  refine lv_iload_n hx hb dX7_chart_16 rfl (lv_at hl 1 rfl) ?_
  refine lv_iload_n hx hb dX7_chart_17 rfl (lv_at hl 2 rfl) ?_
  refine z_callV (wn := ((camW ad) ++ (macW cs (ad 0) S F))) ⟨hx, hb, hml, hown, hts⟩ zY_X1_outAt w_im_yX1_outAt w_se_yX1_outAt w_ml_X7_183 [.int cy, .int st] [] (c_X1_outAt l D cs (ad 0) F cy st) hE hK hA hP hD hS [15, 16, 17] rfl rfl rfl rfl 1 rfl rfl rfl rfl hl.1 (Nat.le_of_ble_eq_true rfl) ⟨Nat.le_of_ble_eq_true rfl, Nat.le_of_ble_eq_true rfl⟩ ⟨Nat.le_of_ble_eq_true rfl, Nat.le_of_ble_eq_true rfl⟩ dX7_chart_18 (fun H locs hP hD hS => ?_)
  exact z_iretX hx hb hr hlk hK hP hD hS dX7_chart_21 (by rw [exT_t x_1, exT_t x_2]) (Nat.le_of_ble_eq_true rfl) (Nat.le_of_ble_eq_true rfl) rfl rfl

set_option maxHeartbeats 4000000 in
set_option maxRecDepth 100000 in
theorem c_X7_skips (l : Launch) (D : va_G) (cs : zCs) (hfl : l.stackTraces = false) (ad : Nat → Nat → Nat) (S : Nat → Int32) (F : Nat → Nat → Int32) (st : Int32)  : zMx l D cs yX7_skips cX7_skips 2 (some FieldType.int) 7 103 1 6 [.ref (ad 3 0), .int st] ((camW ad) ++ (macW cs (ad 0) S F)) (exT (0 ≤ st ∧ st ≤ (S 0) - 1) zIO none) (some (.int (chtSk F st))) ((camW ad) ++ (macW cs (ad 0) S F)) := by
  refine zMx.of (own := RX7) (by decide) (Nat.le_of_ble_eq_true rfl) rfl ?_
  intro pq eq s mq below meth cq A ls hx hb hr hml hown hts hlk htab hE hK hA hP hD hS hl
  have hl : lv_has ls 2 [(0, .ref (ad 3 0)), (1, .int st)] := hl
  refine lv_aload_n hx hb dX7_skips_0 rfl (lv_at hl 0 rfl) ?_
  refine lv_iload_n hx hb dX7_skips_1 rfl (lv_at hl 1 rfl) ?_
  refine z_callVx (wn := ((camW ad) ++ (macW cs (ad 0) S F))) ⟨hx, hb, hml, hown, hts⟩ zY_X7_requireStep w_im_yX7_requireStep w_se_yX7_requireStep w_ml_X7_40 [.int st] [] (c_X7_requireStep l D cs hfl ad S F st) hE hK hA hP hD hS [0, 1, 2, 3, 4, 5, 6, 7, 8, 9, 10, 11, 12, 13, 14, 15, 16, 17] rfl rfl rfl rfl 7 rfl rfl rfl rfl hl.1 (Nat.le_of_ble_eq_true rfl) ⟨Nat.le_of_ble_eq_true rfl, Nat.le_of_ble_eq_true rfl⟩ ⟨Nat.le_of_ble_eq_true rfl, Nat.le_of_ble_eq_true rfl⟩ dX7_skips_2 (fun E ce q9 H locs hex hP hD hS hce hcv hcl => z_outX htab hlk hK hP hD hS hce hcv hcl (by exact exT_out hex) rfl (Nat.le_of_ble_eq_true rfl) (Nat.le_of_ble_eq_true rfl)) (fun hex H locs hP hD hS => ?_)
  have x_1 := exT_none hex
  refine lv_aload_n hx hb dX7_skips_5 rfl (lv_at hl 0 rfl) ?_
  refine va_get (D := D) (ci := 7) (v := .ref (ad 0 0)) (C := RX7) (T := TX7) (N := 5) hx hb hts wsI_X7 hown hK hP 0 rfl rfl 0 (by decide) (hts _ w_fl_X7_10) (fun _ h9 => h9) rfl dX7_skips_6 ?_
  refine va_get (D := D) (ci := 5) (v := .ref (ad 0 14)) (C := RX5) (T := TX5) (N := 13) hx hb hts wsI_X5 hown hK hP 1 rfl rfl 12 (by decide) (hts _ w_fl_X7_179) (fun _ h9 => h9) rfl dX7_skips_9 ?_
  refine lv_iload_n hx hb dX7_skips_12 rfl (lv_at hl 1 rfl) ?_
  refine z_callV (wn := ((camW ad) ++ (macW cs (ad 0) S F))) ⟨hx, hb, hml, hown, hts⟩ zY_X1_skipsAt w_im_yX1_skipsAt w_se_yX1_skipsAt w_ml_X7_188 [.int st] [] (c_X1_skipsAt l D cs (ad 0) F st) hE hK hA hP hD hS [15, 16, 17] rfl rfl rfl rfl 1 rfl rfl rfl rfl hl.1 (Nat.le_of_ble_eq_true rfl) ⟨Nat.le_of_ble_eq_true rfl, Nat.le_of_ble_eq_true rfl⟩ ⟨Nat.le_of_ble_eq_true rfl, Nat.le_of_ble_eq_true rfl⟩ dX7_skips_13 (fun H locs hP hD hS => ?_)
  exact z_iretX hx hb hr hlk hK hP hD hS dX7_skips_16 (by rw [exT_t x_1]) (Nat.le_of_ble_eq_true rfl) (Nat.le_of_ble_eq_true rfl) rfl rfl

set_option maxHeartbeats 4000000 in
set_option maxRecDepth 100000 in
theorem c_X7_ticksToOut (l : Launch) (D : va_G) (cs : zCs) (hfl : l.stackTraces = false) (ad : Nat → Nat → Nat) (S : Nat → Int32) (F : Nat → Nat → Int32) (TS : Nat → Int32) (TF : Nat → Nat → Int32) (cy : Int32)  : zMx l D cs yX7_ticksToOut cX7_ticksToOut 3 (some FieldType.int) 7 132 1 6 [.ref (ad 3 0), .int cy] ((camW ad) ++ (macW cs (ad 0) S F) ++ (macW cs (ad 1) TS TF)) (exT (0 ≤ cy ∧ cy ≤ 4) zIO none) (some (.int (toR (nN cy) 501 0 (S, F)))) ((camW ad) ++ (macW cs (ad 0) S F) ++ (macW cs (ad 1) ((toP (nN cy) 501 (S, F)).1) ((toP (nN cy) 501 (S, F)).2))) := by
  refine zMx.of (own := RX7) (by decide) (Nat.le_of_ble_eq_true rfl) rfl ?_
  intro pq eq s mq below meth cq A ls hx hb hr hml hown hts hlk htab hE hK hA hP hD hS hl
  have hl : lv_has ls 3 [(0, .ref (ad 3 0)), (1, .int cy)] := hl
  refine lv_iload_n hx hb dX7_ticksToOut_0 rfl (lv_at hl 1 rfl) ?_
  refine z_callSx (wn := ((camW ad) ++ (macW cs (ad 0) S F) ++ (macW cs (ad 1) TS TF))) ⟨hx, hb, hml, hown, hts⟩ zY_X7_requireCylinder w_st_yX7_requireCylinder w_ml_X7_36 [.int cy] [] (c_X7_requireCylinder l D cs hfl cy) hE hK hA hP hD hS [] rfl rfl rfl z_ins_nil rfl hl.1 (Nat.le_of_ble_eq_true rfl) ⟨Nat.le_of_ble_eq_true rfl, Nat.le_of_ble_eq_true rfl⟩ ⟨Nat.le_of_ble_eq_true rfl, Nat.le_of_ble_eq_true rfl⟩ dX7_ticksToOut_1 (fun E ce q9 H locs hex hP hD hS hce hcv hcl => z_outX htab hlk hK hP hD hS hce hcv hcl (by exact exT_out hex) rfl (Nat.le_of_ble_eq_true rfl) (Nat.le_of_ble_eq_true rfl)) (fun hex H locs hP hD hS => ?_)
  have x_1 := exT_none hex
  obtain ⟨c, hc, rfl⟩ := z_nat4 x_1
  have hNc := nN_nI (k := c) (by omega)
  refine lv_aload_n hx hb dX7_ticksToOut_4 rfl (lv_at hl 0 rfl) ?_
  refine va_get (D := D) (ci := 7) (v := .ref (ad 1 0)) (C := RX7) (T := TX7) (N := 5) hx hb hts wsI_X7 hown hK hP 0 rfl rfl 3 (by decide) (hts _ w_fl_X7_30) (fun _ h9 => h9) rfl dX7_ticksToOut_5 ?_
  refine lv_aload_n hx hb dX7_ticksToOut_8 rfl (lv_at hl 0 rfl) ?_
  refine va_get (D := D) (ci := 7) (v := .ref (ad 0 0)) (C := RX7) (T := TX7) (N := 5) hx hb hts wsI_X7 hown hK hP 0 rfl rfl 0 (by decide) (hts _ w_fl_X7_10) (fun _ h9 => h9) rfl dX7_ticksToOut_9 ?_
  refine z_callV (wn := ((camW ad) ++ (macW cs (ad 0) S F) ++ (macW cs (ad 1) S F))) ⟨hx, hb, hml, hown, hts⟩ zY_X5_copyFrom w_im_yX5_copyFrom w_se_yX5_copyFrom w_ml_X7_191 [.ref (ad 0 0)] [] (c_X5_copyFrom l D cs (ad 1) (ad 0) TS S TF F) hE hK hA hP hD hS [18, 19, 20, 21, 22, 23, 24, 25, 26, 27, 28, 29, 30, 31, 32, 33, 34, 1, 2, 3, 4, 5, 6, 7, 8, 9, 10, 11, 12, 13, 14, 15, 16, 17] rfl rfl rfl rfl 5 rfl rfl rfl rfl hl.1 (Nat.le_of_ble_eq_true rfl) ⟨Nat.le_of_ble_eq_true rfl, Nat.le_of_ble_eq_true rfl⟩ ⟨Nat.le_of_ble_eq_true rfl, Nat.le_of_ble_eq_true rfl⟩ dX7_ticksToOut_12 (fun H locs hP hD hS => ?_)
  refine lv_iconst (v := 0) hx hb dX7_ticksToOut_15 (by decide) ?_
  refine lv_istore_n (lv' := [(2, .int 0), (0, .ref (ad 3 0)), (1, .int (nI c))]) hx hb dX7_ticksToOut_16 rfl hl (by decide) rfl (fun ls hl => ?_)
  have lp17 : ∀ (k : Nat) (t : Nat) (q : zP), (t + k = 501) → (toR c k t q = toR c 501 0 (S, F)) → (toP c k q = toP c 501 (S, F)) → ∀ (H : Heap) (locs : List Loc) (ls : Array Slot), va_P D vwCl ((camW ad) ++ (macW cs (ad 0) S F) ++ (macW cs (ad 1) q.1 q.2)) H → va_D A ((camW ad) ++ (macW cs (ad 0) S F) ++ (macW cs (ad 1) q.1 q.2)) → va_S A s.heap H locs → lv_has ls 3 [(0, .ref (ad 3 0)), (1, .int (nI c)), (2, .int (nI t))] → W pq l eq ({ frames := 7, cells := 1, slots := 6, locals := 132 } : Room) s mq ([.ref (ad 3 0), .int (nI c)] : List Value).toArray below meth cq H locs 1 6 (vx_MQ below (zQx D cs (exT (0 ≤ (nI c) ∧ (nI c) ≤ 4) zIO none) (some (.int (toR (nN (nI c)) 501 0 (S, F)))) ((camW ad) ++ (macW cs (ad 0) S F) ++ (macW cs (ad 1) ((toP (nN (nI c)) 501 (S, F)).1) ((toP (nN (nI c)) 501 (S, F)).2))) A) (zXB D cs (exT (0 ≤ (nI c) ∧ (nI c) ≤ 4) zIO none) ((camW ad) ++ (macW cs (ad 0) S F) ++ (macW cs (ad 1) TS TF)) A) ([.ref (ad 3 0), .int (nI c)] : List Value).toArray s 1 6 A) (F0 mq 17 ls []) := by
    intro k
    induction k with
    | zero =>
      intro t q h1 h2 h3 H locs ls hP hD hS hl
      refine lv_iload_n hx hb dX7_ticksToOut_17 rfl (lv_at hl 2 rfl) ?_
      refine lv_sipush (v := 500) hx hb dX7_ticksToOut_18 (by decide) ?_
      refine lv_icmp_gt (tgt := 57) hx hb dX7_ticksToOut_21 (by decide) (fun c_2 => ?_) (fun c_2 => ?_)
      · skip
        refine lv_iconst (v := (-1)) hx hb dX7_ticksToOut_57 (by decide) ?_
        exact z_iretX hx hb hr hlk hK hP hD hS dX7_ticksToOut_58 (by rw [exT_t x_1]) (Nat.le_of_ble_eq_true rfl) (Nat.le_of_ble_eq_true rfl) (by rw [hNc, ← h2]; rfl) (by rw [hNc, ← h3]; rfl)
      · skip
        exact absurd ((nI_ltI (a := 500) (by omega) (by omega)).mpr (by omega)) c_2
    | succ k ih =>
      intro t q h1 h2 h3 H locs ls hP hD hS hl
      refine lv_iload_n hx hb dX7_ticksToOut_17 rfl (lv_at hl 2 rfl) ?_
      refine lv_sipush (v := 500) hx hb dX7_ticksToOut_18 (by decide) ?_
      refine lv_icmp_gt (tgt := 57) hx hb dX7_ticksToOut_21 (by decide) (fun c_3 => ?_) (fun c_3 => ?_)
      · skip
        exact absurd ((nI_ltI (a := 500) (by omega) (by omega)).mp c_3) (by omega)
      · skip
        refine lv_aload_n hx hb dX7_ticksToOut_24 rfl (lv_at hl 0 rfl) ?_
        refine va_get (D := D) (ci := 7) (v := .ref (ad 1 0)) (C := RX7) (T := TX7) (N := 5) hx hb hts wsI_X7 hown hK hP 0 rfl rfl 3 (by decide) (hts _ w_fl_X7_30) (fun _ h9 => h9) rfl dX7_ticksToOut_25 ?_
        refine va_get (D := D) (ci := 5) (v := .ref (ad 1 3)) (C := RX5) (T := TX5) (N := 13) hx hb hts wsI_X5 hown hK hP 18 rfl rfl 10 (by decide) (hts _ w_fl_X7_75) (fun _ h9 => h9) rfl dX7_ticksToOut_28 ?_
        refine va_get (D := D) (ci := 2) (v := .ref (ad 1 4)) (C := RX2) (T := TX2) (N := 6) hx hb hts wsI_X2 hown hK hP 21 rfl rfl 0 (by decide) (hts _ w_fl_X7_91) (fun _ h9 => h9) rfl dX7_ticksToOut_31 ?_
        refine lv_iload_n hx hb dX7_ticksToOut_34 rfl (lv_at hl 1 rfl) ?_
        refine z_iald (k := c) hx hb hK hP 22 rfl (by omega) (by first | decide | omega) dX7_ticksToOut_35 ?_
        refine lv_bipush (v := 100) hx hb dX7_ticksToOut_36 (by decide) ?_
        refine lv_icmp_ne (tgt := 43) hx hb dX7_ticksToOut_38 (by decide) (fun c_4 => ?_) (fun c_4 => ?_)
        · skip
          refine lv_aload_n hx hb dX7_ticksToOut_43 rfl (lv_at hl 0 rfl) ?_
          refine va_get (D := D) (ci := 7) (v := .ref (ad 1 0)) (C := RX7) (T := TX7) (N := 5) hx hb hts wsI_X7 hown hK hP 0 rfl rfl 3 (by decide) (hts _ w_fl_X7_30) (fun _ h9 => h9) rfl dX7_ticksToOut_44 ?_
          refine z_callV (wn := ((camW ad) ++ (macW cs (ad 0) S F) ++ (macW cs (ad 1) ((tkP (q.1, q.2)).1) ((tkP (q.1, q.2)).2)))) ⟨hx, hb, hml, hown, hts⟩ zY_X5_tick w_im_yX5_tick w_se_yX5_tick w_ml_X7_157 [] [] (c_X5_tick l D cs (ad 1) q.1 q.2) hE hK hA hP hD hS [18, 19, 20, 21, 22, 23, 24, 25, 26, 27, 28, 29, 30, 31, 32, 33, 34] rfl rfl rfl rfl 5 rfl rfl rfl rfl hl.1 (Nat.le_of_ble_eq_true rfl) ⟨Nat.le_of_ble_eq_true rfl, Nat.le_of_ble_eq_true rfl⟩ ⟨Nat.le_of_ble_eq_true rfl, Nat.le_of_ble_eq_true rfl⟩ dX7_ticksToOut_47 (fun H locs hP hD hS => ?_)
          refine lv_pop hx hb dX7_ticksToOut_50 rfl ?_
          refine lv_iinc (v := nI (t + 1)) (lv' := [(2, .int (nI (t + 1))), (0, .ref (ad 3 0)), (1, .int (nI c))]) hx hb dX7_ticksToOut_51 hl (k := 2) rfl (show nI t + Int32.ofInt 1 = nI (t + 1) from nI_add t 1) (by decide) rfl (fun ls hl => ?_)
          refine lv_goto (tgt := 17) hx hb dX7_ticksToOut_54 (by decide) ?_
          exact ih (t + 1) (tkP q) (by omega) (by rw [← h2]; exact (if_neg c_4).symm) (by rw [← h3]; exact (if_neg c_4).symm) _ _ _ hP hD hS (lv_sub hl [1, 2, 0] rfl)
        · skip
          refine lv_iload_n hx hb dX7_ticksToOut_41 rfl (lv_at hl 2 rfl) ?_
          exact z_iretX hx hb hr hlk hK hP hD hS dX7_ticksToOut_42 (by rw [exT_t x_1]) (Nat.le_of_ble_eq_true rfl) (Nat.le_of_ble_eq_true rfl) (by rw [hNc, ← h2]; exact congrArg (fun z => some (Value.int z)) (if_pos c_4).symm) (by rw [hNc, ← h3, show toP c (k + 1) q = q from if_pos c_4])
  exact lp17 501 0 (S, F) rfl rfl rfl _ _ _ hP hD hS (lv_sub hl [1, 2, 0] rfl)

set_option maxHeartbeats 4000000 in
set_option maxRecDepth 100000 in
theorem c_X7_ticksToCycle (l : Launch) (D : va_G) (cs : zCs) (ad : Nat → Nat → Nat) (S : Nat → Int32) (F : Nat → Nat → Int32) (TS : Nat → Int32) (TF : Nat → Nat → Int32)  : zM l D cs yX7_ticksToCycle cX7_ticksToCycle 1 (some FieldType.int) 5 132 0 0 [.ref (ad 3 0)] ((camW ad) ++ (macW cs (ad 0) S F) ++ (macW cs (ad 1) TS TF)) (some (.int (tuR 1000 1 (S, F)))) ((camW ad) ++ (macW cs (ad 0) S F) ++ (macW cs (ad 1) ((tuP 1000 (S, F)).1) ((tuP 1000 (S, F)).2))) := by
  refine zM.of (own := RX7) (by decide) (Nat.le_of_ble_eq_true rfl) rfl ?_
  intro pq eq s mq below meth cq A ls hx hb hr hml hown hts hlk hnm hE hK hA hP hD hS hl
  have hl : lv_has ls 1 [(0, .ref (ad 3 0))] := hl
  refine lv_aload_n hx hb dX7_ticksToCycle_0 rfl (lv_at hl 0 rfl) ?_
  refine va_get (D := D) (ci := 7) (v := .ref (ad 1 0)) (C := RX7) (T := TX7) (N := 5) hx hb hts wsI_X7 hown hK hP 0 rfl rfl 3 (by decide) (hts _ w_fl_X7_30) (fun _ h9 => h9) rfl dX7_ticksToCycle_1 ?_
  refine lv_aload_n hx hb dX7_ticksToCycle_4 rfl (lv_at hl 0 rfl) ?_
  refine va_get (D := D) (ci := 7) (v := .ref (ad 0 0)) (C := RX7) (T := TX7) (N := 5) hx hb hts wsI_X7 hown hK hP 0 rfl rfl 0 (by decide) (hts _ w_fl_X7_10) (fun _ h9 => h9) rfl dX7_ticksToCycle_5 ?_
  refine z_callV (wn := ((camW ad) ++ (macW cs (ad 0) S F) ++ (macW cs (ad 1) S F))) ⟨hx, hb, hml, hown, hts⟩ zY_X5_copyFrom w_im_yX5_copyFrom w_se_yX5_copyFrom w_ml_X7_191 [.ref (ad 0 0)] [] (c_X5_copyFrom l D cs (ad 1) (ad 0) TS S TF F) hE hK hA hP hD hS [18, 19, 20, 21, 22, 23, 24, 25, 26, 27, 28, 29, 30, 31, 32, 33, 34, 1, 2, 3, 4, 5, 6, 7, 8, 9, 10, 11, 12, 13, 14, 15, 16, 17] rfl rfl rfl rfl 5 rfl rfl rfl rfl hl.1 (Nat.le_of_ble_eq_true rfl) ⟨Nat.le_of_ble_eq_true rfl, Nat.le_of_ble_eq_true rfl⟩ ⟨Nat.le_of_ble_eq_true rfl, Nat.le_of_ble_eq_true rfl⟩ dX7_ticksToCycle_8 (fun H locs hP hD hS => ?_)
  refine lv_aload_n hx hb dX7_ticksToCycle_11 rfl (lv_at hl 0 rfl) ?_
  refine va_get (D := D) (ci := 7) (v := .ref (ad 1 0)) (C := RX7) (T := TX7) (N := 5) hx hb hts wsI_X7 hown hK hP 0 rfl rfl 3 (by decide) (hts _ w_fl_X7_30) (fun _ h9 => h9) rfl dX7_ticksToCycle_12 ?_
  refine lv_sipush (v := 1000) hx hb dX7_ticksToCycle_15 (by decide) ?_
  refine z_callV (wn := ((camW ad) ++ (macW cs (ad 0) S F) ++ (macW cs (ad 1) ((tuP 1000 (S, F)).1) ((tuP 1000 (S, F)).2)))) ⟨hx, hb, hml, hown, hts⟩ zY_X5_tickUntilCycleEnds w_im_yX5_tickUntilCycleEnds w_se_yX5_tickUntilCycleEnds w_ml_X7_194 [.int 1000] [] (c_X5_tickUntilCycleEnds l D cs (ad 1) S F 1000 (by decide)) hE hK hA hP hD hS [18, 19, 20, 21, 22, 23, 24, 25, 26, 27, 28, 29, 30, 31, 32, 33, 34] rfl rfl rfl rfl 5 rfl rfl rfl rfl hl.1 (Nat.le_of_ble_eq_true rfl) ⟨Nat.le_of_ble_eq_true rfl, Nat.le_of_ble_eq_true rfl⟩ ⟨Nat.le_of_ble_eq_true rfl, Nat.le_of_ble_eq_true rfl⟩ dX7_ticksToCycle_18 (fun H locs hP hD hS => ?_)
  exact z_iret hx hb hr hlk hK hP hD hS dX7_ticksToCycle_21 rfl rfl

set_option maxHeartbeats 4000000 in
set_option maxRecDepth 100000 in
theorem c_X7_goesWithoutSkip (l : Launch) (D : va_G) (cs : zCs) (ad : Nat → Nat → Nat) (S : Nat → Int32) (F : Nat → Nat → Int32) (TS : Nat → Int32) (TF : Nat → Nat → Int32) (co : Int32) (T : Nat) (hT : T ≤ 300) : zM l D cs yX7_goesWithoutSkip cX7_goesWithoutSkip 4 (some FieldType.boolean) 4 132 0 0 [.ref (ad 3 0), .int co, .int (nI T)] ((camW ad) ++ (macW cs (ad 0) S F) ++ (macW cs (ad 1) TS TF)) (some (.int (gsR T (upd S 7 co, F)))) ((camW ad) ++ (macW cs (ad 0) S F) ++ (macW cs (ad 1) ((gsP T (upd S 7 co, F)).1) ((gsP T (upd S 7 co, F)).2))) := by
  refine zM.of (own := RX7) (by decide) (Nat.le_of_ble_eq_true rfl) rfl ?_
  intro pq eq s mq below meth cq A ls hx hb hr hml hown hts hlk hnm hE hK hA hP hD hS hl
  have hl : lv_has ls 4 [(0, .ref (ad 3 0)), (1, .int co), (2, .int (nI T))] := hl
  refine lv_aload_n hx hb dX7_goesWithoutSkip_0 rfl (lv_at hl 0 rfl) ?_
  refine va_get (D := D) (ci := 7) (v := .ref (ad 1 0)) (C := RX7) (T := TX7) (N := 5) hx hb hts wsI_X7 hown hK hP 0 rfl rfl 3 (by decide) (hts _ w_fl_X7_30) (fun _ h9 => h9) rfl dX7_goesWithoutSkip_1 ?_
  refine lv_aload_n hx hb dX7_goesWithoutSkip_4 rfl (lv_at hl 0 rfl) ?_
  refine va_get (D := D) (ci := 7) (v := .ref (ad 0 0)) (C := RX7) (T := TX7) (N := 5) hx hb hts wsI_X7 hown hK hP 0 rfl rfl 0 (by decide) (hts _ w_fl_X7_10) (fun _ h9 => h9) rfl dX7_goesWithoutSkip_5 ?_
  refine z_callV (wn := ((camW ad) ++ (macW cs (ad 0) S F) ++ (macW cs (ad 1) S F))) ⟨hx, hb, hml, hown, hts⟩ zY_X5_copyFrom w_im_yX5_copyFrom w_se_yX5_copyFrom w_ml_X7_191 [.ref (ad 0 0)] [] (c_X5_copyFrom l D cs (ad 1) (ad 0) TS S TF F) hE hK hA hP hD hS [18, 19, 20, 21, 22, 23, 24, 25, 26, 27, 28, 29, 30, 31, 32, 33, 34, 1, 2, 3, 4, 5, 6, 7, 8, 9, 10, 11, 12, 13, 14, 15, 16, 17] rfl rfl rfl rfl 5 rfl rfl rfl rfl hl.1 (Nat.le_of_ble_eq_true rfl) ⟨Nat.le_of_ble_eq_true rfl, Nat.le_of_ble_eq_true rfl⟩ ⟨Nat.le_of_ble_eq_true rfl, Nat.le_of_ble_eq_true rfl⟩ dX7_goesWithoutSkip_8 (fun H locs hP hD hS => ?_)
  refine lv_aload_n hx hb dX7_goesWithoutSkip_11 rfl (lv_at hl 0 rfl) ?_
  refine va_get (D := D) (ci := 7) (v := .ref (ad 1 0)) (C := RX7) (T := TX7) (N := 5) hx hb hts wsI_X7 hown hK hP 0 rfl rfl 3 (by decide) (hts _ w_fl_X7_30) (fun _ h9 => h9) rfl dX7_goesWithoutSkip_12 ?_
  refine va_get (D := D) (ci := 5) (v := .ref (ad 1 2)) (C := RX5) (T := TX5) (N := 13) hx hb hts wsI_X5 hown hK hP 18 rfl rfl 9 (by decide) (hts _ w_fl_X7_96) (fun _ h9 => h9) rfl dX7_goesWithoutSkip_15 ?_
  refine lv_iload_n hx hb dX7_goesWithoutSkip_18 rfl (lv_at hl 1 rfl) ?_
  refine va_put (D := D) (ci := 0) (v := .int co) (C := RX0) (T := TX0) (N := 7) hx hb hts wsI_X0 tyX0 tyX0_ok nmX0 hown hK hP hD hS 20 rfl rfl 2 (by decide) (hts _ w_fl_X7_105) (fun _ h9 => h9) rfl (tyX0_ok 2 (by decide)) rfl rfl (Nat.le_of_ble_eq_true rfl) dX7_goesWithoutSkip_19 (fun H locs hP hD hS => ?_)
  have hP : va_P D vwCl ((camW ad) ++ (macW cs (ad 0) S F) ++ (macW cs (ad 1) (upd S 7 co) F)) H := hP
  have hD : va_D A ((camW ad) ++ (macW cs (ad 0) S F) ++ (macW cs (ad 1) (upd S 7 co) F)) := hD
  refine lv_iconst (v := 0) hx hb dX7_goesWithoutSkip_22 (by decide) ?_
  refine lv_istore_n (lv' := [(3, .int 0), (0, .ref (ad 3 0)), (1, .int co), (2, .int (nI T))]) hx hb dX7_goesWithoutSkip_23 rfl hl (by decide) rfl (fun ls hl => ?_)
  have lp24 : ∀ (k : Nat) (i : Nat) (q : zP), (i + k = T) → (gsR k q = gsR T (upd S 7 co, F)) → (gsP k q = gsP T (upd S 7 co, F)) → ∀ (H : Heap) (locs : List Loc) (ls : Array Slot), va_P D vwCl ((camW ad) ++ (macW cs (ad 0) S F) ++ (macW cs (ad 1) q.1 q.2)) H → va_D A ((camW ad) ++ (macW cs (ad 0) S F) ++ (macW cs (ad 1) q.1 q.2)) → va_S A s.heap H locs → lv_has ls 4 [(0, .ref (ad 3 0)), (1, .int co), (2, .int (nI T)), (3, .int (nI i))] → W pq l eq ({ frames := 4, cells := 0, slots := 0, locals := 132 } : Room) s mq ([.ref (ad 3 0), .int co, .int (nI T)] : List Value).toArray below meth cq H locs 0 0 (MQ below (zQ D cs (some (.int (gsR T (upd S 7 co, F)))) ((camW ad) ++ (macW cs (ad 0) S F) ++ (macW cs (ad 1) ((gsP T (upd S 7 co, F)).1) ((gsP T (upd S 7 co, F)).2))) A) ([.ref (ad 3 0), .int co, .int (nI T)] : List Value).toArray s 0 0 A) (F0 mq 24 ls []) := by
    intro k
    induction k with
    | zero =>
      intro i q h1 h2 h3 H locs ls hP hD hS hl
      refine lv_iload_n hx hb dX7_goesWithoutSkip_24 rfl (lv_at hl 3 rfl) ?_
      refine lv_iload_n hx hb dX7_goesWithoutSkip_25 rfl (lv_at hl 2 rfl) ?_
      refine lv_icmp_ge (tgt := 48) hx hb dX7_goesWithoutSkip_26 (by decide) (fun c_1 => ?_) (fun c_1 => ?_)
      · skip
        refine lv_iconst (v := 1) hx hb dX7_goesWithoutSkip_48 (by decide) ?_
        exact z_zret hx hb hr hlk hK hP hD hS dX7_goesWithoutSkip_49 rfl (by rw [← h2]; rfl) (by rw [← h3]; rfl)
      · skip
        exact absurd ((nI_leI (by omega) (by omega)).mpr (by omega)) c_1
    | succ k ih =>
      intro i q h1 h2 h3 H locs ls hP hD hS hl
      refine lv_iload_n hx hb dX7_goesWithoutSkip_24 rfl (lv_at hl 3 rfl) ?_
      refine lv_iload_n hx hb dX7_goesWithoutSkip_25 rfl (lv_at hl 2 rfl) ?_
      refine lv_icmp_ge (tgt := 48) hx hb dX7_goesWithoutSkip_26 (by decide) (fun c_2 => ?_) (fun c_2 => ?_)
      · skip
        exact absurd ((nI_leI (by omega) (by omega)).mp c_2) (by omega)
      · skip
        refine lv_aload_n hx hb dX7_goesWithoutSkip_29 rfl (lv_at hl 0 rfl) ?_
        refine va_get (D := D) (ci := 7) (v := .ref (ad 1 0)) (C := RX7) (T := TX7) (N := 5) hx hb hts wsI_X7 hown hK hP 0 rfl rfl 3 (by decide) (hts _ w_fl_X7_30) (fun _ h9 => h9) rfl dX7_goesWithoutSkip_30 ?_
        refine z_callV (wn := ((camW ad) ++ (macW cs (ad 0) S F) ++ (macW cs (ad 1) ((tkP (q.1, q.2)).1) ((tkP (q.1, q.2)).2)))) ⟨hx, hb, hml, hown, hts⟩ zY_X5_tick w_im_yX5_tick w_se_yX5_tick w_ml_X7_157 [] [] (c_X5_tick l D cs (ad 1) q.1 q.2) hE hK hA hP hD hS [18, 19, 20, 21, 22, 23, 24, 25, 26, 27, 28, 29, 30, 31, 32, 33, 34] rfl rfl rfl rfl 5 rfl rfl rfl rfl hl.1 (Nat.le_of_ble_eq_true rfl) ⟨Nat.le_of_ble_eq_true rfl, Nat.le_of_ble_eq_true rfl⟩ ⟨Nat.le_of_ble_eq_true rfl, Nat.le_of_ble_eq_true rfl⟩ dX7_goesWithoutSkip_33 (fun H locs hP hD hS => ?_)
        refine lv_iconst (v := 1) hx hb dX7_goesWithoutSkip_36 (by decide) ?_
        refine lv_icmp_ne (tgt := 42) hx hb dX7_goesWithoutSkip_37 (by decide) (fun c_3 => ?_) (fun c_3 => ?_)
        · skip
          refine lv_iinc (v := nI (i + 1)) (lv' := [(3, .int (nI (i + 1))), (0, .ref (ad 3 0)), (1, .int co), (2, .int (nI T))]) hx hb dX7_goesWithoutSkip_42 hl (k := 3) rfl (show nI i + Int32.ofInt 1 = nI (i + 1) from nI_add i 1) (by decide) rfl (fun ls hl => ?_)
          refine lv_goto (tgt := 24) hx hb dX7_goesWithoutSkip_45 (by decide) ?_
          exact ih (i + 1) (tkP q) (by omega) (by rw [← h2]; exact (if_neg c_3).symm) (by rw [← h3]; exact (if_neg c_3).symm) _ _ _ hP hD hS (lv_sub hl [1, 2, 3, 0] rfl)
        · skip
          refine lv_iconst (v := 0) hx hb dX7_goesWithoutSkip_40 (by decide) ?_
          exact z_zret hx hb hr hlk hK hP hD hS dX7_goesWithoutSkip_41 rfl (by rw [← h2]; exact congrArg (fun z => some (Value.int z)) (if_pos c_3).symm) (by rw [← h3, show gsP (k + 1) q = tkP q from if_pos c_3])
  exact lp24 T 0 (upd S 7 co, F) (by omega) rfl rfl _ _ _ hP hD hS (lv_sub hl [1, 2, 3, 0] rfl)

set_option maxHeartbeats 4000000 in
set_option maxRecDepth 100000 in
theorem c_X7_leastCompressor (l : Launch) (D : va_G) (cs : zCs) (hfl : l.stackTraces = false) (ad : Nat → Nat → Nat) (S : Nat → Int32) (F : Nat → Nat → Int32) (TS : Nat → Int32) (TF : Nat → Nat → Int32) (tk : Int32)  : zMx l D cs yX7_leastCompressor cX7_leastCompressor 3 (some FieldType.int) 6 155 1 6 [.ref (ad 3 0), .int tk] ((camW ad) ++ (macW cs (ad 0) S F) ++ (macW cs (ad 1) TS TF)) (exT (1 ≤ tk ∧ tk ≤ 300) zIA none) (some (.int (lcR (nN tk) S F 51 0))) ((camW ad) ++ (macW cs (ad 0) S F) ++ (macW cs (ad 1) ((lcP (nN tk) S F 51 0 (TS, TF)).1) ((lcP (nN tk) S F 51 0 (TS, TF)).2))) := by
  refine zMx.of (own := RX7) (by decide) (Nat.le_of_ble_eq_true rfl) rfl ?_
  intro pq eq s mq below meth cq A ls hx hb hr hml hown hts hlk htab hE hK hA hP hD hS hl
  have hl : lv_has ls 3 [(0, .ref (ad 3 0)), (1, .int tk)] := hl
  refine lv_iload_n hx hb dX7_leastCompressor_0 rfl (lv_at hl 1 rfl) ?_
  refine lv_iconst (v := 1) hx hb dX7_leastCompressor_1 (by decide) ?_
  refine lv_sipush (v := 300) hx hb dX7_leastCompressor_2 (by decide) ?_
  refine z_callS (wn := ((camW ad) ++ (macW cs (ad 0) S F) ++ (macW cs (ad 1) TS TF))) ⟨hx, hb, hml, hown, hts⟩ zY_X7_within w_st_yX7_within w_ml_X7_55 [.int tk, .int 1, .int 300] [] (c_X7_within l D cs tk 1 300) hE hK hA hP hD hS [] rfl rfl rfl z_ins_nil rfl hl.1 (Nat.le_of_ble_eq_true rfl) ⟨Nat.le_of_ble_eq_true rfl, Nat.le_of_ble_eq_true rfl⟩ ⟨Nat.le_of_ble_eq_true rfl, Nat.le_of_ble_eq_true rfl⟩ dX7_leastCompressor_5 (fun H locs hP hD hS => ?_)
  refine lv_if_ne (tgt := 21) hx hb dX7_leastCompressor_8 (by decide) (fun c_1 => ?_) (fun c_1 => ?_)
  · skip
    have c_1 := bI_n0 c_1
    obtain ⟨T, hT, rfl⟩ := z_nat300 c_1
    have hNT := nN_nI (k := T) (by omega)
    refine lv_iconst (v := 0) hx hb dX7_leastCompressor_21 (by decide) ?_
    refine lv_istore_n (lv' := [(2, .int 0), (0, .ref (ad 3 0)), (1, .int (nI T))]) hx hb dX7_leastCompressor_22 rfl hl (by decide) rfl (fun ls hl => ?_)
    have lp23 : ∀ (k : Nat) (j : Nat) (q : zP), (j + k = 51) → (lcR T S F k j = lcR T S F 51 0) → (lcP T S F k j q = lcP T S F 51 0 (TS, TF)) → ∀ (H : Heap) (locs : List Loc) (ls : Array Slot), va_P D vwCl ((camW ad) ++ (macW cs (ad 0) S F) ++ (macW cs (ad 1) q.1 q.2)) H → va_D A ((camW ad) ++ (macW cs (ad 0) S F) ++ (macW cs (ad 1) q.1 q.2)) → va_S A s.heap H locs → lv_has ls 3 [(0, .ref (ad 3 0)), (1, .int (nI T)), (2, .int (nI (10 * j)))] → W pq l eq ({ frames := 6, cells := 1, slots := 6, locals := 155 } : Room) s mq ([.ref (ad 3 0), .int (nI T)] : List Value).toArray below meth cq H locs 0 0 (vx_MQ below (zQx D cs (exT (1 ≤ (nI T) ∧ (nI T) ≤ 300) zIA none) (some (.int (lcR (nN (nI T)) S F 51 0))) ((camW ad) ++ (macW cs (ad 0) S F) ++ (macW cs (ad 1) ((lcP (nN (nI T)) S F 51 0 (TS, TF)).1) ((lcP (nN (nI T)) S F 51 0 (TS, TF)).2))) A) (zXB D cs (exT (1 ≤ (nI T) ∧ (nI T) ≤ 300) zIA none) ((camW ad) ++ (macW cs (ad 0) S F) ++ (macW cs (ad 1) TS TF)) A) ([.ref (ad 3 0), .int (nI T)] : List Value).toArray s 1 6 A) (F0 mq 23 ls []) := by
      intro k
      induction k with
      | zero =>
        intro j q h1 h2 h3 H locs ls hP hD hS hl
        refine lv_iload_n hx hb dX7_leastCompressor_23 rfl (lv_at hl 2 rfl) ?_
        refine lv_sipush (v := 500) hx hb dX7_leastCompressor_24 (by decide) ?_
        refine lv_icmp_gt (tgt := 47) hx hb dX7_leastCompressor_27 (by decide) (fun c_2 => ?_) (fun c_2 => ?_)
        · skip
          refine lv_iconst (v := (-1)) hx hb dX7_leastCompressor_47 (by decide) ?_
          exact z_iretX hx hb hr hlk hK hP hD hS dX7_leastCompressor_48 (by rw [exT_t c_1]) (Nat.le_of_ble_eq_true rfl) (Nat.le_of_ble_eq_true rfl) (by rw [hNT, ← h2]; rfl) (by rw [hNT, ← h3]; rfl)
        · skip
          exact absurd ((nI_ltI (a := 500) (by omega) (by omega)).mpr (by omega)) c_2
      | succ k ih =>
        intro j q h1 h2 h3 H locs ls hP hD hS hl
        refine lv_iload_n hx hb dX7_leastCompressor_23 rfl (lv_at hl 2 rfl) ?_
        refine lv_sipush (v := 500) hx hb dX7_leastCompressor_24 (by decide) ?_
        refine lv_icmp_gt (tgt := 47) hx hb dX7_leastCompressor_27 (by decide) (fun c_3 => ?_) (fun c_3 => ?_)
        · skip
          exact absurd ((nI_ltI (a := 500) (by omega) (by omega)).mp c_3) (by omega)
        · skip
          refine lv_aload_n hx hb dX7_leastCompressor_30 rfl (lv_at hl 0 rfl) ?_
          refine lv_iload_n hx hb dX7_leastCompressor_31 rfl (lv_at hl 2 rfl) ?_
          refine lv_iload_n hx hb dX7_leastCompressor_32 rfl (lv_at hl 1 rfl) ?_
          refine z_callV (wn := ((camW ad) ++ (macW cs (ad 0) S F) ++ (macW cs (ad 1) ((gsP T (upd S 7 (nI (10 * j)), F)).1) ((gsP T (upd S 7 (nI (10 * j)), F)).2)))) ⟨hx, hb, hml, hown, hts⟩ zY_X7_goesWithoutSkip w_im_yX7_goesWithoutSkip w_se_yX7_goesWithoutSkip w_ml_X7_197 [.int (nI (10 * j)), .int (nI T)] [] (c_X7_goesWithoutSkip l D cs ad S F q.1 q.2 (nI (10 * j)) T (by omega)) hE hK hA hP hD hS [0, 1, 2, 3, 4, 5, 6, 7, 8, 9, 10, 11, 12, 13, 14, 15, 16, 17, 18, 19, 20, 21, 22, 23, 24, 25, 26, 27, 28, 29, 30, 31, 32, 33, 34] rfl rfl rfl rfl 7 rfl rfl rfl rfl hl.1 (Nat.le_of_ble_eq_true rfl) ⟨Nat.le_of_ble_eq_true rfl, Nat.le_of_ble_eq_true rfl⟩ ⟨Nat.le_of_ble_eq_true rfl, Nat.le_of_ble_eq_true rfl⟩ dX7_leastCompressor_33 (fun H locs hP hD hS => ?_)
          refine lv_if_eq (tgt := 41) hx hb dX7_leastCompressor_36 (by decide) (fun c_4 => ?_) (fun c_4 => ?_)
          · skip
            refine lv_iinc (v := nI (10 * j + 10)) (lv' := [(2, .int (nI (10 * j + 10))), (0, .ref (ad 3 0)), (1, .int (nI T))]) hx hb dX7_leastCompressor_41 hl (k := 2) rfl (show nI (10 * j) + Int32.ofInt 10 = nI (10 * j + 10) from nI_add (10 * j) 10) (by decide) rfl (fun ls hl => ?_)
            refine lv_goto (tgt := 23) hx hb dX7_leastCompressor_44 (by decide) ?_
            rw [show 10 * j + 10 = 10 * (j + 1) by omega] at hl
            exact ih (j + 1) (gsP T (upd S 7 (nI (10 * j)), F)) (by omega) (by rw [← h2]; exact (if_pos c_4).symm) (by rw [← h3]; exact (if_pos c_4).symm) _ _ _ hP hD hS (lv_sub hl [1, 2, 0] rfl)
          · skip
            refine lv_iload_n hx hb dX7_leastCompressor_39 rfl (lv_at hl 2 rfl) ?_
            exact z_iretX hx hb hr hlk hK hP hD hS dX7_leastCompressor_40 (by rw [exT_t c_1]) (Nat.le_of_ble_eq_true rfl) (Nat.le_of_ble_eq_true rfl) (by rw [hNT, ← h2]; exact congrArg (fun z => some (Value.int z)) (if_neg c_4).symm) (by rw [hNT, ← h3, show lcP T S F (k + 1) j q = _ from if_neg c_4])
    exact lp23 51 0 (TS, TF) rfl rfl rfl _ _ _ hP hD hS (lv_sub hl [1, 2, 0] rfl)
  · skip
    have c_1 := bI_0.mp c_1
    exact z_throw hx hb hfl hml hown hts hlk htab hE hK hP hD hS hl.1 zThr_IA (List.mem_of_getElem? (i := 8) rfl) dX7_leastCompressor_11 dX7_leastCompressor_14 dX7_leastCompressor_15 dX7_leastCompressor_17 dX7_leastCompressor_20 ⟨Nat.le_of_ble_eq_true rfl, Nat.le_of_ble_eq_true rfl, Nat.le_of_ble_eq_true rfl, Nat.le_of_ble_eq_true rfl⟩ (Nat.le_of_ble_eq_true rfl) (Nat.le_of_ble_eq_true rfl) (by exact exT_f (fun h => c_1 h)) rfl
