def aoff (t c : Int32) : Int32 := zmax (t - c) 0
def airOff (S : Nat → Int32) : Nat → Int32 := upd (upd S 5 (S 5 - aoff (S 5) (S 6))) 13 (S 13 + aoff (S 5) (S 6))
def airCmp (S : Nat → Int32) : Nat → Int32 := airOff (upd (upd S 5 (S 5 + S 7)) 12 (S 12 + S 7))
def airEnough (t z : Int32) : Int32 := if z ≤ 0 then 0 else t / z
def airUse (S : Nat → Int32) (x : Int32) : Nat → Int32 := upd (upd S 5 (S 5 - x)) 14 (S 14 + x)
def airLeak (S : Nat → Int32) (x : Int32) : Nat → Int32 := upd (upd S 5 (S 5 - zmin x (S 5))) 15 (S 15 + zmin x (S 5))
def chtAt (F : Nat → Nat → Int32) (c st : Int32) : Int32 := if 0 ≤ c * 16 + st ∧ c * 16 + st ≤ 79 then F 10 (c * 16 + st).toNatClampNeg else -1
def chtNoteR (f : Nat → Int32) (c st v : Int32) : Nat → Int32 := if 0 ≤ c * 16 + st ∧ c * 16 + st ≤ 79 then upd f (c * 16 + st).toNatClampNeg v else f
def chtNote (F : Nat → Nat → Int32) (c st v : Int32) : Nat → Nat → Int32 := zU F 10 (chtNoteR (F 10) c st v)
def chtSk (F : Nat → Nat → Int32) (st : Int32) : Int32 := if 0 ≤ st ∧ st ≤ 15 then F 11 st.toNatClampNeg else 0
def chtCntR (f : Nat → Int32) (st : Int32) : Nat → Int32 := if 0 ≤ st ∧ st ≤ 15 then upd f st.toNatClampNeg (f st.toNatClampNeg + 1) else f
def chtCnt (F : Nat → Nat → Int32) (st : Int32) : Nat → Nat → Int32 := zU F 11 (chtCntR (F 11) st)
theorem z_in80 {x : Int32} (h : 0 ≤ x ∧ x ≤ 79) : vp_in x 80 := vp_in_iff.mpr ⟨Int32.le_iff_toInt_le.mp h.1, by have := Int32.le_iff_toInt_le.mp h.2; have : (79 : Int32).toInt = 79 := (by decide); omega⟩
theorem z_in16 {x : Int32} (h : 0 ≤ x ∧ x ≤ 15) : vp_in x 16 := vp_in_iff.mpr ⟨Int32.le_iff_toInt_le.mp h.1, by have := Int32.le_iff_toInt_le.mp h.2; have : (15 : Int32).toInt = 15 := (by decide); omega⟩
set_option maxHeartbeats 4000000 in
set_option maxRecDepth 100000 in
theorem c_X7_within (l : Launch) (D : va_G) (cs : zCs) (x lo hi : Int32)  : zM l D cs yX7_within cX7_within 3 (some FieldType.boolean) 0 0 0 0 [.int x, .int lo, .int hi] ([] : va_W) (some (.int (bI (lo ≤ x ∧ x ≤ hi)))) ([] : va_W) := by
  refine zM.of (own := RX7) (by decide) (Nat.le_of_ble_eq_true rfl) rfl ?_
  intro pq eq s mq below meth cq A ls hx hb hr hml hown hts hlk hnm hE hK hA hP hD hS hl
  have hl : lv_has ls 3 [(0, .int x), (1, .int lo), (2, .int hi)] := hl
  refine lv_iload_n hx hb dX7_within_0 rfl (lv_at hl 0 rfl) ?_
  refine lv_iload_n hx hb dX7_within_1 rfl (lv_at hl 1 rfl) ?_
  refine lv_icmp_lt (tgt := 14) hx hb dX7_within_2 (by decide) (fun c_1 => ?_) (fun c_1 => ?_)
  · skip
    refine lv_iconst (v := 0) hx hb dX7_within_14 (by decide) ?_
    exact z_zret hx hb hr hlk hK hP hD hS dX7_within_15 rfl (by rw [bI_f (fun h => absurd h.1 (Int32.not_le.mpr c_1))]) rfl
  · skip
    refine lv_iload_n hx hb dX7_within_5 rfl (lv_at hl 0 rfl) ?_
    refine lv_iload_n hx hb dX7_within_6 rfl (lv_at hl 2 rfl) ?_
    refine lv_icmp_gt (tgt := 14) hx hb dX7_within_7 (by decide) (fun c_2 => ?_) (fun c_2 => ?_)
    · skip
      refine lv_iconst (v := 0) hx hb dX7_within_14 (by decide) ?_
      exact z_zret hx hb hr hlk hK hP hD hS dX7_within_15 rfl (by rw [bI_f (fun h => absurd h.2 (Int32.not_le.mpr c_2))]) rfl
    · skip
      refine lv_iconst (v := 1) hx hb dX7_within_10 (by decide) ?_
      refine lv_goto (tgt := 15) hx hb dX7_within_11 (by decide) ?_
      exact z_zret hx hb hr hlk hK hP hD hS dX7_within_15 rfl (by rw [bI_t ⟨Int32.not_lt.mp c_1, Int32.not_lt.mp c_2⟩]) rfl

set_option maxHeartbeats 4000000 in
set_option maxRecDepth 100000 in
theorem c_X0_letOffSurplus (l : Launch) (D : va_G) (cs : zCs) (a : Nat → Nat) (S : Nat → Int32)  : zM l D cs yX0_letOffSurplus cX0_letOffSurplus 2 none 1 13 0 0 [.ref (a 2)] (airW a S) none (airW a (airOff S)) := by
  refine zM.of (own := RX0) (by decide) (Nat.le_of_ble_eq_true rfl) rfl ?_
  intro pq eq s mq below meth cq A ls hx hb hr hml hown hts hlk hnm hE hK hA hP hD hS hl
  have hl : lv_has ls 2 [(0, .ref (a 2))] := hl
  refine lv_aload_n hx hb dX0_letOffSurplus_0 rfl (lv_at hl 0 rfl) ?_
  refine va_get (D := D) (ci := 0) (v := .int (S 5)) (C := RX0) (T := TX0) (N := 7) hx hb hts wsI_X0 hown hK hP 0 rfl rfl 0 (by decide) (hts _ w_fl_X0_9) (fun _ h9 => h9) rfl dX0_letOffSurplus_1 ?_
  refine lv_aload_n hx hb dX0_letOffSurplus_4 rfl (lv_at hl 0 rfl) ?_
  refine va_get (D := D) (ci := 0) (v := .int (S 6)) (C := RX0) (T := TX0) (N := 7) hx hb hts wsI_X0 hown hK hP 0 rfl rfl 1 (by decide) (hts _ w_fl_X0_15) (fun _ h9 => h9) rfl dX0_letOffSurplus_5 ?_
  refine lv_isub hx hb dX0_letOffSurplus_8 ?_
  refine lv_iconst (v := 0) hx hb dX0_letOffSurplus_9 (by decide) ?_
  refine va_mmax hx hb (hml.trans hl.1.symm) hown (hts _ w_ml_X0_36) (hts _ w_st_Mmax) (hts _ w_in_J9) (hts _ w_co_Mmax) (Nat.le_of_ble_eq_true rfl) (Nat.le_of_ble_eq_true rfl) (Nat.le_of_ble_eq_true rfl) (Nat.le_of_ble_eq_true rfl) dX0_letOffSurplus_10 ?_
  refine z_top (y := zmax ((S 5) - (S 6)) 0) rfl ?_
  refine lv_istore_n (lv' := [(1, .int (zmax ((S 5) - (S 6)) 0)), (0, .ref (a 2))]) hx hb dX0_letOffSurplus_13 rfl hl (by decide) rfl (fun ls hl => ?_)
  refine lv_aload_n hx hb dX0_letOffSurplus_14 rfl (lv_at hl 1 rfl) ?_
  refine lv_dup hx hb dX0_letOffSurplus_15 rfl ?_
  refine va_get (D := D) (ci := 0) (v := .int (S 5)) (C := RX0) (T := TX0) (N := 7) hx hb hts wsI_X0 hown hK hP 0 rfl rfl 0 (by decide) (hts _ w_fl_X0_9) (fun _ h9 => h9) rfl dX0_letOffSurplus_16 ?_
  refine lv_iload_n hx hb dX0_letOffSurplus_19 rfl (lv_at hl 0 rfl) ?_
  refine lv_isub hx hb dX0_letOffSurplus_20 ?_
  refine va_put (D := D) (ci := 0) (v := .int ((S 5) - (zmax ((S 5) - (S 6)) 0))) (C := RX0) (T := TX0) (N := 7) hx hb hts wsI_X0 tyX0 tyX0_ok nmX0 hown hK hP hD hS 0 rfl rfl 0 (by decide) (hts _ w_fl_X0_9) (fun _ h9 => h9) rfl (tyX0_ok 0 (by decide)) rfl rfl (Nat.le_of_ble_eq_true rfl) dX0_letOffSurplus_21 (fun H locs hP hD hS => ?_)
  have hP : va_P D vwCl (airW a (upd S 5 ((S 5) - (zmax ((S 5) - (S 6)) 0)))) H := hP
  have hD : va_D A (airW a (upd S 5 ((S 5) - (zmax ((S 5) - (S 6)) 0)))) := hD
  refine lv_aload_n hx hb dX0_letOffSurplus_24 rfl (lv_at hl 1 rfl) ?_
  refine lv_dup hx hb dX0_letOffSurplus_25 rfl ?_
  refine va_get (D := D) (ci := 0) (v := .int (S 13)) (C := RX0) (T := TX0) (N := 7) hx hb hts wsI_X0 hown hK hP 0 rfl rfl 4 (by decide) (hts _ w_fl_X0_24) (fun _ h9 => h9) rfl dX0_letOffSurplus_26 ?_
  refine lv_iload_n hx hb dX0_letOffSurplus_29 rfl (lv_at hl 0 rfl) ?_
  refine lv_iadd hx hb dX0_letOffSurplus_30 ?_
  refine va_put (D := D) (ci := 0) (v := .int ((S 13) + (zmax ((S 5) - (S 6)) 0))) (C := RX0) (T := TX0) (N := 7) hx hb hts wsI_X0 tyX0 tyX0_ok nmX0 hown hK hP hD hS 0 rfl rfl 4 (by decide) (hts _ w_fl_X0_24) (fun _ h9 => h9) rfl (tyX0_ok 4 (by decide)) rfl rfl (Nat.le_of_ble_eq_true rfl) dX0_letOffSurplus_31 (fun H locs hP hD hS => ?_)
  have hP : va_P D vwCl (airW a (upd (upd S 5 ((S 5) - (zmax ((S 5) - (S 6)) 0))) 13 ((S 13) + (zmax ((S 5) - (S 6)) 0)))) H := hP
  have hD : va_D A (airW a (upd (upd S 5 ((S 5) - (zmax ((S 5) - (S 6)) 0))) 13 ((S 13) + (zmax ((S 5) - (S 6)) 0)))) := hD
  exact z_vret hx hb hr hlk hK hP hD hS dX0_letOffSurplus_34 rfl rfl

set_option maxHeartbeats 4000000 in
set_option maxRecDepth 100000 in
theorem c_X0_compress (l : Launch) (D : va_G) (cs : zCs) (a : Nat → Nat) (S : Nat → Int32)  : zM l D cs yX0_compress cX0_compress 1 none 2 60 0 0 [.ref (a 2)] (airW a S) none (airW a (airCmp S)) := by
  refine zM.of (own := RX0) (by decide) (Nat.le_of_ble_eq_true rfl) rfl ?_
  intro pq eq s mq below meth cq A ls hx hb hr hml hown hts hlk hnm hE hK hA hP hD hS hl
  have hl : lv_has ls 1 [(0, .ref (a 2))] := hl
  refine lv_aload_n hx hb dX0_compress_0 rfl (lv_at hl 0 rfl) ?_
  refine lv_dup hx hb dX0_compress_1 rfl ?_
  refine va_get (D := D) (ci := 0) (v := .int (S 5)) (C := RX0) (T := TX0) (N := 7) hx hb hts wsI_X0 hown hK hP 0 rfl rfl 0 (by decide) (hts _ w_fl_X0_9) (fun _ h9 => h9) rfl dX0_compress_2 ?_
  refine lv_aload_n hx hb dX0_compress_5 rfl (lv_at hl 0 rfl) ?_
  refine va_get (D := D) (ci := 0) (v := .int (S 7)) (C := RX0) (T := TX0) (N := 7) hx hb hts wsI_X0 hown hK hP 0 rfl rfl 2 (by decide) (hts _ w_fl_X0_18) (fun _ h9 => h9) rfl dX0_compress_6 ?_
  refine lv_iadd hx hb dX0_compress_9 ?_
  refine va_put (D := D) (ci := 0) (v := .int ((S 5) + (S 7))) (C := RX0) (T := TX0) (N := 7) hx hb hts wsI_X0 tyX0 tyX0_ok nmX0 hown hK hP hD hS 0 rfl rfl 0 (by decide) (hts _ w_fl_X0_9) (fun _ h9 => h9) rfl (tyX0_ok 0 (by decide)) rfl rfl (Nat.le_of_ble_eq_true rfl) dX0_compress_10 (fun H locs hP hD hS => ?_)
  have hP : va_P D vwCl (airW a (upd S 5 ((S 5) + (S 7)))) H := hP
  have hD : va_D A (airW a (upd S 5 ((S 5) + (S 7)))) := hD
  refine lv_aload_n hx hb dX0_compress_13 rfl (lv_at hl 0 rfl) ?_
  refine lv_dup hx hb dX0_compress_14 rfl ?_
  refine va_get (D := D) (ci := 0) (v := .int (S 12)) (C := RX0) (T := TX0) (N := 7) hx hb hts wsI_X0 hown hK hP 0 rfl rfl 3 (by decide) (hts _ w_fl_X0_21) (fun _ h9 => h9) rfl dX0_compress_15 ?_
  refine lv_aload_n hx hb dX0_compress_18 rfl (lv_at hl 0 rfl) ?_
  refine va_get (D := D) (ci := 0) (v := .int (S 7)) (C := RX0) (T := TX0) (N := 7) hx hb hts wsI_X0 hown hK hP 0 rfl rfl 2 (by decide) (hts _ w_fl_X0_18) (fun _ h9 => h9) rfl dX0_compress_19 ?_
  refine lv_iadd hx hb dX0_compress_22 ?_
  refine va_put (D := D) (ci := 0) (v := .int ((S 12) + (S 7))) (C := RX0) (T := TX0) (N := 7) hx hb hts wsI_X0 tyX0 tyX0_ok nmX0 hown hK hP hD hS 0 rfl rfl 3 (by decide) (hts _ w_fl_X0_21) (fun _ h9 => h9) rfl (tyX0_ok 3 (by decide)) rfl rfl (Nat.le_of_ble_eq_true rfl) dX0_compress_23 (fun H locs hP hD hS => ?_)
  have hP : va_P D vwCl (airW a (upd (upd S 5 ((S 5) + (S 7))) 12 ((S 12) + (S 7)))) H := hP
  have hD : va_D A (airW a (upd (upd S 5 ((S 5) + (S 7))) 12 ((S 12) + (S 7)))) := hD
  refine lv_aload_n hx hb dX0_compress_26 rfl (lv_at hl 0 rfl) ?_
  refine z_callV (wn := (airW a (airOff (upd (upd S 5 ((S 5) + (S 7))) 12 ((S 12) + (S 7)))))) ⟨hx, hb, hml, hown, hts⟩ zY_X0_letOffSurplus w_im_yX0_letOffSurplus w_se_yX0_letOffSurplus w_ml_X0_33 [] [] (c_X0_letOffSurplus l D cs a (upd (upd S 5 ((S 5) + (S 7))) 12 ((S 12) + (S 7)))) hE hK hA hP hD hS [0] rfl rfl rfl rfl 0 rfl rfl rfl rfl hl.1 (Nat.le_of_ble_eq_true rfl) ⟨Nat.le_of_ble_eq_true rfl, Nat.le_of_ble_eq_true rfl⟩ ⟨Nat.le_of_ble_eq_true rfl, Nat.le_of_ble_eq_true rfl⟩ dX0_compress_27 (fun H locs hP hD hS => ?_)
  exact z_vret hx hb hr hlk hK hP hD hS dX0_compress_30 rfl rfl

set_option maxHeartbeats 4000000 in
set_option maxRecDepth 100000 in
theorem c_X0_enoughToMove (l : Launch) (D : va_G) (cs : zCs) (a : Nat → Nat) (S : Nat → Int32) (z : Int32)  : zM l D cs yX0_enoughToMove cX0_enoughToMove 2 (some FieldType.int) 0 0 0 0 [.ref (a 2), .int z] (airW a S) (some (.int (airEnough (S 5) z))) (airW a S) := by
  refine zM.of (own := RX0) (by decide) (Nat.le_of_ble_eq_true rfl) rfl ?_
  intro pq eq s mq below meth cq A ls hx hb hr hml hown hts hlk hnm hE hK hA hP hD hS hl
  have hl : lv_has ls 2 [(0, .ref (a 2)), (1, .int z)] := hl
  refine lv_iload_n hx hb dX0_enoughToMove_0 rfl (lv_at hl 1 rfl) ?_
  refine lv_if_le (tgt := 13) hx hb dX0_enoughToMove_1 (by decide) (fun c_1 => ?_) (fun c_1 => ?_)
  · skip
    refine lv_iconst (v := 0) hx hb dX0_enoughToMove_13 (by decide) ?_
    exact z_iret hx hb hr hlk hK hP hD hS dX0_enoughToMove_14 (by first | rfl | simp only [airEnough, if_pos c_1]) rfl
  · skip
    refine lv_aload_n hx hb dX0_enoughToMove_4 rfl (lv_at hl 0 rfl) ?_
    refine va_get (D := D) (ci := 0) (v := .int (S 5)) (C := RX0) (T := TX0) (N := 7) hx hb hts wsI_X0 hown hK hP 0 rfl rfl 0 (by decide) (hts _ w_fl_X0_9) (fun _ h9 => h9) rfl dX0_enoughToMove_5 ?_
    refine lv_iload_n hx hb dX0_enoughToMove_8 rfl (lv_at hl 1 rfl) ?_
    refine lv_idiv hx hb dX0_enoughToMove_9 (fun h => by subst h; exact absurd (by decide) c_1) ?_
    refine lv_goto (tgt := 14) hx hb dX0_enoughToMove_10 (by decide) ?_
    exact z_iret hx hb hr hlk hK hP hD hS dX0_enoughToMove_14 (by first | rfl | simp only [airEnough, if_neg c_1]) rfl

set_option maxHeartbeats 4000000 in
set_option maxRecDepth 100000 in
theorem c_X0_use (l : Launch) (D : va_G) (cs : zCs) (a : Nat → Nat) (S : Nat → Int32) (x : Int32)  : zM l D cs yX0_use cX0_use 2 none 0 0 0 0 [.ref (a 2), .int x] (airW a S) none (airW a (airUse S x)) := by
  refine zM.of (own := RX0) (by decide) (Nat.le_of_ble_eq_true rfl) rfl ?_
  intro pq eq s mq below meth cq A ls hx hb hr hml hown hts hlk hnm hE hK hA hP hD hS hl
  have hl : lv_has ls 2 [(0, .ref (a 2)), (1, .int x)] := hl
  refine lv_aload_n hx hb dX0_use_0 rfl (lv_at hl 0 rfl) ?_
  refine lv_dup hx hb dX0_use_1 rfl ?_
  refine va_get (D := D) (ci := 0) (v := .int (S 5)) (C := RX0) (T := TX0) (N := 7) hx hb hts wsI_X0 hown hK hP 0 rfl rfl 0 (by decide) (hts _ w_fl_X0_9) (fun _ h9 => h9) rfl dX0_use_2 ?_
  refine lv_iload_n hx hb dX0_use_5 rfl (lv_at hl 1 rfl) ?_
  refine lv_isub hx hb dX0_use_6 ?_
  refine va_put (D := D) (ci := 0) (v := .int ((S 5) - x)) (C := RX0) (T := TX0) (N := 7) hx hb hts wsI_X0 tyX0 tyX0_ok nmX0 hown hK hP hD hS 0 rfl rfl 0 (by decide) (hts _ w_fl_X0_9) (fun _ h9 => h9) rfl (tyX0_ok 0 (by decide)) rfl rfl (Nat.le_of_ble_eq_true rfl) dX0_use_7 (fun H locs hP hD hS => ?_)
  have hP : va_P D vwCl (airW a (upd S 5 ((S 5) - x))) H := hP
  have hD : va_D A (airW a (upd S 5 ((S 5) - x))) := hD
  refine lv_aload_n hx hb dX0_use_10 rfl (lv_at hl 0 rfl) ?_
  refine lv_dup hx hb dX0_use_11 rfl ?_
  refine va_get (D := D) (ci := 0) (v := .int (S 14)) (C := RX0) (T := TX0) (N := 7) hx hb hts wsI_X0 hown hK hP 0 rfl rfl 5 (by decide) (hts _ w_fl_X0_27) (fun _ h9 => h9) rfl dX0_use_12 ?_
  refine lv_iload_n hx hb dX0_use_15 rfl (lv_at hl 1 rfl) ?_
  refine lv_iadd hx hb dX0_use_16 ?_
  refine va_put (D := D) (ci := 0) (v := .int ((S 14) + x)) (C := RX0) (T := TX0) (N := 7) hx hb hts wsI_X0 tyX0 tyX0_ok nmX0 hown hK hP hD hS 0 rfl rfl 5 (by decide) (hts _ w_fl_X0_27) (fun _ h9 => h9) rfl (tyX0_ok 5 (by decide)) rfl rfl (Nat.le_of_ble_eq_true rfl) dX0_use_17 (fun H locs hP hD hS => ?_)
  have hP : va_P D vwCl (airW a (upd (upd S 5 ((S 5) - x)) 14 ((S 14) + x))) H := hP
  have hD : va_D A (airW a (upd (upd S 5 ((S 5) - x)) 14 ((S 14) + x))) := hD
  exact z_vret hx hb hr hlk hK hP hD hS dX0_use_20 rfl rfl

set_option maxHeartbeats 4000000 in
set_option maxRecDepth 100000 in
theorem c_X0_leakOut (l : Launch) (D : va_G) (cs : zCs) (a : Nat → Nat) (S : Nat → Int32) (x : Int32)  : zM l D cs yX0_leakOut cX0_leakOut 3 (some FieldType.int) 1 13 0 0 [.ref (a 2), .int x] (airW a S) (some (.int (zmin x (S 5)))) (airW a (airLeak S x)) := by
  refine zM.of (own := RX0) (by decide) (Nat.le_of_ble_eq_true rfl) rfl ?_
  intro pq eq s mq below meth cq A ls hx hb hr hml hown hts hlk hnm hE hK hA hP hD hS hl
  have hl : lv_has ls 3 [(0, .ref (a 2)), (1, .int x)] := hl
  refine lv_iload_n hx hb dX0_leakOut_0 rfl (lv_at hl 1 rfl) ?_
  refine lv_aload_n hx hb dX0_leakOut_1 rfl (lv_at hl 0 rfl) ?_
  refine va_get (D := D) (ci := 0) (v := .int (S 5)) (C := RX0) (T := TX0) (N := 7) hx hb hts wsI_X0 hown hK hP 0 rfl rfl 0 (by decide) (hts _ w_fl_X0_9) (fun _ h9 => h9) rfl dX0_leakOut_2 ?_
  refine va_mmin hx hb (hml.trans hl.1.symm) hown (hts _ w_ml_X0_42) (hts _ w_st_Mmin) (hts _ w_in_J9) (hts _ w_co_Mmin) (Nat.le_of_ble_eq_true rfl) (Nat.le_of_ble_eq_true rfl) (Nat.le_of_ble_eq_true rfl) (Nat.le_of_ble_eq_true rfl) dX0_leakOut_5 ?_
  refine z_top (y := zmin x (S 5)) rfl ?_
  refine lv_istore_n (lv' := [(2, .int (zmin x (S 5))), (0, .ref (a 2)), (1, .int x)]) hx hb dX0_leakOut_8 rfl hl (by decide) rfl (fun ls hl => ?_)
  refine lv_aload_n hx hb dX0_leakOut_9 rfl (lv_at hl 1 rfl) ?_
  refine lv_dup hx hb dX0_leakOut_10 rfl ?_
  refine va_get (D := D) (ci := 0) (v := .int (S 5)) (C := RX0) (T := TX0) (N := 7) hx hb hts wsI_X0 hown hK hP 0 rfl rfl 0 (by decide) (hts _ w_fl_X0_9) (fun _ h9 => h9) rfl dX0_leakOut_11 ?_
  refine lv_iload_n hx hb dX0_leakOut_14 rfl (lv_at hl 0 rfl) ?_
  refine lv_isub hx hb dX0_leakOut_15 ?_
  refine va_put (D := D) (ci := 0) (v := .int ((S 5) - (zmin x (S 5)))) (C := RX0) (T := TX0) (N := 7) hx hb hts wsI_X0 tyX0 tyX0_ok nmX0 hown hK hP hD hS 0 rfl rfl 0 (by decide) (hts _ w_fl_X0_9) (fun _ h9 => h9) rfl (tyX0_ok 0 (by decide)) rfl rfl (Nat.le_of_ble_eq_true rfl) dX0_leakOut_16 (fun H locs hP hD hS => ?_)
  have hP : va_P D vwCl (airW a (upd S 5 ((S 5) - (zmin x (S 5))))) H := hP
  have hD : va_D A (airW a (upd S 5 ((S 5) - (zmin x (S 5))))) := hD
  refine lv_aload_n hx hb dX0_leakOut_19 rfl (lv_at hl 1 rfl) ?_
  refine lv_dup hx hb dX0_leakOut_20 rfl ?_
  refine va_get (D := D) (ci := 0) (v := .int (S 15)) (C := RX0) (T := TX0) (N := 7) hx hb hts wsI_X0 hown hK hP 0 rfl rfl 6 (by decide) (hts _ w_fl_X0_30) (fun _ h9 => h9) rfl dX0_leakOut_21 ?_
  refine lv_iload_n hx hb dX0_leakOut_24 rfl (lv_at hl 0 rfl) ?_
  refine lv_iadd hx hb dX0_leakOut_25 ?_
  refine va_put (D := D) (ci := 0) (v := .int ((S 15) + (zmin x (S 5)))) (C := RX0) (T := TX0) (N := 7) hx hb hts wsI_X0 tyX0 tyX0_ok nmX0 hown hK hP hD hS 0 rfl rfl 6 (by decide) (hts _ w_fl_X0_30) (fun _ h9 => h9) rfl (tyX0_ok 6 (by decide)) rfl rfl (Nat.le_of_ble_eq_true rfl) dX0_leakOut_26 (fun H locs hP hD hS => ?_)
  have hP : va_P D vwCl (airW a (upd (upd S 5 ((S 5) - (zmin x (S 5)))) 15 ((S 15) + (zmin x (S 5))))) H := hP
  have hD : va_D A (airW a (upd (upd S 5 ((S 5) - (zmin x (S 5)))) 15 ((S 15) + (zmin x (S 5))))) := hD
  refine lv_iload_n hx hb dX0_leakOut_29 rfl (lv_at hl 0 rfl) ?_
  exact z_iret hx hb hr hlk hK hP hD hS dX0_leakOut_30 rfl rfl

set_option maxHeartbeats 4000000 in
set_option maxRecDepth 100000 in
theorem c_X0_copyFrom (l : Launch) (D : va_G) (cs : zCs) (a b : Nat → Nat) (S V : Nat → Int32)  : zM l D cs yX0_copyFrom cX0_copyFrom 2 none 0 0 0 0 [.ref (a 2), .ref (b 2)] ((airW a S) ++ (airW b V)) none ((airW a (upd (upd (upd (upd (upd (upd (upd S 5 (V 5)) 6 (V 6)) 7 (V 7)) 12 (V 12)) 13 (V 13)) 14 (V 14)) 15 (V 15))) ++ (airW b V)) := by
  refine zM.of (own := RX0) (by decide) (Nat.le_of_ble_eq_true rfl) rfl ?_
  intro pq eq s mq below meth cq A ls hx hb hr hml hown hts hlk hnm hE hK hA hP hD hS hl
  have hl : lv_has ls 2 [(0, .ref (a 2)), (1, .ref (b 2))] := hl
  refine lv_aload_n hx hb dX0_copyFrom_0 rfl (lv_at hl 0 rfl) ?_
  refine lv_aload_n hx hb dX0_copyFrom_1 rfl (lv_at hl 1 rfl) ?_
  refine va_get (D := D) (ci := 0) (v := .int (V 5)) (C := RX0) (T := TX0) (N := 7) hx hb hts wsI_X0 hown hK hP 1 rfl rfl 0 (by decide) (hts _ w_fl_X0_9) (fun _ h9 => h9) rfl dX0_copyFrom_2 ?_
  refine va_put (D := D) (ci := 0) (v := .int (V 5)) (C := RX0) (T := TX0) (N := 7) hx hb hts wsI_X0 tyX0 tyX0_ok nmX0 hown hK hP hD hS 0 rfl rfl 0 (by decide) (hts _ w_fl_X0_9) (fun _ h9 => h9) rfl (tyX0_ok 0 (by decide)) rfl rfl (Nat.le_of_ble_eq_true rfl) dX0_copyFrom_5 (fun H locs hP hD hS => ?_)
  have hP : va_P D vwCl ((airW a (upd S 5 (V 5))) ++ (airW b V)) H := hP
  have hD : va_D A ((airW a (upd S 5 (V 5))) ++ (airW b V)) := hD
  refine lv_aload_n hx hb dX0_copyFrom_8 rfl (lv_at hl 0 rfl) ?_
  refine lv_aload_n hx hb dX0_copyFrom_9 rfl (lv_at hl 1 rfl) ?_
  refine va_get (D := D) (ci := 0) (v := .int (V 6)) (C := RX0) (T := TX0) (N := 7) hx hb hts wsI_X0 hown hK hP 1 rfl rfl 1 (by decide) (hts _ w_fl_X0_15) (fun _ h9 => h9) rfl dX0_copyFrom_10 ?_
  refine va_put (D := D) (ci := 0) (v := .int (V 6)) (C := RX0) (T := TX0) (N := 7) hx hb hts wsI_X0 tyX0 tyX0_ok nmX0 hown hK hP hD hS 0 rfl rfl 1 (by decide) (hts _ w_fl_X0_15) (fun _ h9 => h9) rfl (tyX0_ok 1 (by decide)) rfl rfl (Nat.le_of_ble_eq_true rfl) dX0_copyFrom_13 (fun H locs hP hD hS => ?_)
  have hP : va_P D vwCl ((airW a (upd (upd S 5 (V 5)) 6 (V 6))) ++ (airW b V)) H := hP
  have hD : va_D A ((airW a (upd (upd S 5 (V 5)) 6 (V 6))) ++ (airW b V)) := hD
  refine lv_aload_n hx hb dX0_copyFrom_16 rfl (lv_at hl 0 rfl) ?_
  refine lv_aload_n hx hb dX0_copyFrom_17 rfl (lv_at hl 1 rfl) ?_
  refine va_get (D := D) (ci := 0) (v := .int (V 7)) (C := RX0) (T := TX0) (N := 7) hx hb hts wsI_X0 hown hK hP 1 rfl rfl 2 (by decide) (hts _ w_fl_X0_18) (fun _ h9 => h9) rfl dX0_copyFrom_18 ?_
  refine va_put (D := D) (ci := 0) (v := .int (V 7)) (C := RX0) (T := TX0) (N := 7) hx hb hts wsI_X0 tyX0 tyX0_ok nmX0 hown hK hP hD hS 0 rfl rfl 2 (by decide) (hts _ w_fl_X0_18) (fun _ h9 => h9) rfl (tyX0_ok 2 (by decide)) rfl rfl (Nat.le_of_ble_eq_true rfl) dX0_copyFrom_21 (fun H locs hP hD hS => ?_)
  have hP : va_P D vwCl ((airW a (upd (upd (upd S 5 (V 5)) 6 (V 6)) 7 (V 7))) ++ (airW b V)) H := hP
  have hD : va_D A ((airW a (upd (upd (upd S 5 (V 5)) 6 (V 6)) 7 (V 7))) ++ (airW b V)) := hD
  refine lv_aload_n hx hb dX0_copyFrom_24 rfl (lv_at hl 0 rfl) ?_
  refine lv_aload_n hx hb dX0_copyFrom_25 rfl (lv_at hl 1 rfl) ?_
  refine va_get (D := D) (ci := 0) (v := .int (V 12)) (C := RX0) (T := TX0) (N := 7) hx hb hts wsI_X0 hown hK hP 1 rfl rfl 3 (by decide) (hts _ w_fl_X0_21) (fun _ h9 => h9) rfl dX0_copyFrom_26 ?_
  refine va_put (D := D) (ci := 0) (v := .int (V 12)) (C := RX0) (T := TX0) (N := 7) hx hb hts wsI_X0 tyX0 tyX0_ok nmX0 hown hK hP hD hS 0 rfl rfl 3 (by decide) (hts _ w_fl_X0_21) (fun _ h9 => h9) rfl (tyX0_ok 3 (by decide)) rfl rfl (Nat.le_of_ble_eq_true rfl) dX0_copyFrom_29 (fun H locs hP hD hS => ?_)
  have hP : va_P D vwCl ((airW a (upd (upd (upd (upd S 5 (V 5)) 6 (V 6)) 7 (V 7)) 12 (V 12))) ++ (airW b V)) H := hP
  have hD : va_D A ((airW a (upd (upd (upd (upd S 5 (V 5)) 6 (V 6)) 7 (V 7)) 12 (V 12))) ++ (airW b V)) := hD
  refine lv_aload_n hx hb dX0_copyFrom_32 rfl (lv_at hl 0 rfl) ?_
  refine lv_aload_n hx hb dX0_copyFrom_33 rfl (lv_at hl 1 rfl) ?_
  refine va_get (D := D) (ci := 0) (v := .int (V 13)) (C := RX0) (T := TX0) (N := 7) hx hb hts wsI_X0 hown hK hP 1 rfl rfl 4 (by decide) (hts _ w_fl_X0_24) (fun _ h9 => h9) rfl dX0_copyFrom_34 ?_
  refine va_put (D := D) (ci := 0) (v := .int (V 13)) (C := RX0) (T := TX0) (N := 7) hx hb hts wsI_X0 tyX0 tyX0_ok nmX0 hown hK hP hD hS 0 rfl rfl 4 (by decide) (hts _ w_fl_X0_24) (fun _ h9 => h9) rfl (tyX0_ok 4 (by decide)) rfl rfl (Nat.le_of_ble_eq_true rfl) dX0_copyFrom_37 (fun H locs hP hD hS => ?_)
  have hP : va_P D vwCl ((airW a (upd (upd (upd (upd (upd S 5 (V 5)) 6 (V 6)) 7 (V 7)) 12 (V 12)) 13 (V 13))) ++ (airW b V)) H := hP
  have hD : va_D A ((airW a (upd (upd (upd (upd (upd S 5 (V 5)) 6 (V 6)) 7 (V 7)) 12 (V 12)) 13 (V 13))) ++ (airW b V)) := hD
  refine lv_aload_n hx hb dX0_copyFrom_40 rfl (lv_at hl 0 rfl) ?_
  refine lv_aload_n hx hb dX0_copyFrom_41 rfl (lv_at hl 1 rfl) ?_
  refine va_get (D := D) (ci := 0) (v := .int (V 14)) (C := RX0) (T := TX0) (N := 7) hx hb hts wsI_X0 hown hK hP 1 rfl rfl 5 (by decide) (hts _ w_fl_X0_27) (fun _ h9 => h9) rfl dX0_copyFrom_42 ?_
  refine va_put (D := D) (ci := 0) (v := .int (V 14)) (C := RX0) (T := TX0) (N := 7) hx hb hts wsI_X0 tyX0 tyX0_ok nmX0 hown hK hP hD hS 0 rfl rfl 5 (by decide) (hts _ w_fl_X0_27) (fun _ h9 => h9) rfl (tyX0_ok 5 (by decide)) rfl rfl (Nat.le_of_ble_eq_true rfl) dX0_copyFrom_45 (fun H locs hP hD hS => ?_)
  have hP : va_P D vwCl ((airW a (upd (upd (upd (upd (upd (upd S 5 (V 5)) 6 (V 6)) 7 (V 7)) 12 (V 12)) 13 (V 13)) 14 (V 14))) ++ (airW b V)) H := hP
  have hD : va_D A ((airW a (upd (upd (upd (upd (upd (upd S 5 (V 5)) 6 (V 6)) 7 (V 7)) 12 (V 12)) 13 (V 13)) 14 (V 14))) ++ (airW b V)) := hD
  refine lv_aload_n hx hb dX0_copyFrom_48 rfl (lv_at hl 0 rfl) ?_
  refine lv_aload_n hx hb dX0_copyFrom_49 rfl (lv_at hl 1 rfl) ?_
  refine va_get (D := D) (ci := 0) (v := .int (V 15)) (C := RX0) (T := TX0) (N := 7) hx hb hts wsI_X0 hown hK hP 1 rfl rfl 6 (by decide) (hts _ w_fl_X0_30) (fun _ h9 => h9) rfl dX0_copyFrom_50 ?_
  refine va_put (D := D) (ci := 0) (v := .int (V 15)) (C := RX0) (T := TX0) (N := 7) hx hb hts wsI_X0 tyX0 tyX0_ok nmX0 hown hK hP hD hS 0 rfl rfl 6 (by decide) (hts _ w_fl_X0_30) (fun _ h9 => h9) rfl (tyX0_ok 6 (by decide)) rfl rfl (Nat.le_of_ble_eq_true rfl) dX0_copyFrom_53 (fun H locs hP hD hS => ?_)
  have hP : va_P D vwCl ((airW a (upd (upd (upd (upd (upd (upd (upd S 5 (V 5)) 6 (V 6)) 7 (V 7)) 12 (V 12)) 13 (V 13)) 14 (V 14)) 15 (V 15))) ++ (airW b V)) H := hP
  have hD : va_D A ((airW a (upd (upd (upd (upd (upd (upd (upd S 5 (V 5)) 6 (V 6)) 7 (V 7)) 12 (V 12)) 13 (V 13)) 14 (V 14)) 15 (V 15))) ++ (airW b V)) := hD
  exact z_vret hx hb hr hlk hK hP hD hS dX0_copyFrom_56 rfl rfl

set_option maxHeartbeats 4000000 in
set_option maxRecDepth 100000 in
theorem c_X1_outAt (l : Launch) (D : va_G) (cs : zCs) (a : Nat → Nat) (F : Nat → Nat → Int32) (c0 st : Int32)  : zM l D cs yX1_outAt cX1_outAt 4 (some FieldType.int) 1 22 0 0 [.ref (a 14), .int c0, .int st] (chtW cs a F) (some (.int (chtAt F c0 st))) (chtW cs a F) := by
  refine zM.of (own := RX1) (by decide) (Nat.le_of_ble_eq_true rfl) rfl ?_
  intro pq eq s mq below meth cq A ls hx hb hr hml hown hts hlk hnm hE hK hA hP hD hS hl
  have hl : lv_has ls 4 [(0, .ref (a 14)), (1, .int c0), (2, .int st)] := hl
  refine lv_iload_n hx hb dX1_outAt_0 rfl (lv_at hl 1 rfl) ?_
  refine lv_bipush (v := 16) hx hb dX1_outAt_1 (by decide) ?_
  refine lv_imul hx hb dX1_outAt_3 ?_
  refine lv_iload_n hx hb dX1_outAt_4 rfl (lv_at hl 2 rfl) ?_
  refine lv_iadd hx hb dX1_outAt_5 ?_
  refine lv_istore_n (lv' := [(3, .int ((c0 * 16) + st)), (0, .ref (a 14)), (1, .int c0), (2, .int st)]) hx hb dX1_outAt_6 rfl hl (by decide) rfl (fun ls hl => ?_)
  refine lv_iload_n hx hb dX1_outAt_7 rfl (lv_at hl 0 rfl) ?_
  refine lv_iconst (v := 0) hx hb dX1_outAt_8 (by decide) ?_
  refine lv_aload_n hx hb dX1_outAt_9 rfl (lv_at hl 1 rfl) ?_
  refine va_get (D := D) (ci := 1) (v := .ref (a 15)) (C := RX1) (T := TX1) (N := 2) hx hb hts wsI_X1 hown hK hP 0 rfl rfl 0 (by decide) (hts _ w_fl_X1_9) (fun _ h9 => h9) rfl dX1_outAt_10 ?_
  refine va_alen hx hb hK hP 1 0 rfl rfl (v := 80) rfl dX1_outAt_13 ?_
  refine lv_iconst (v := 1) hx hb dX1_outAt_14 (by decide) ?_
  refine lv_isub hx hb dX1_outAt_15 ?_
  refine z_top (y := 79) (by decide) ?_
  refine z_callSN (wn := (chtW cs a F)) ⟨hx, hb, hml, hown, hts⟩ zY_X7_within w_st_yX7_within (List.mem_of_getElem? (i := 9) rfl) [.int ((c0 * 16) + st), .int 0, .int 79] [] (c_X7_within l D cs ((c0 * 16) + st) 0 79) hE hK hA hP hD hS [] rfl rfl rfl z_ins_nil rfl hl.1 (Nat.le_of_ble_eq_true rfl) ⟨Nat.le_of_ble_eq_true rfl, Nat.le_of_ble_eq_true rfl⟩ ⟨Nat.le_of_ble_eq_true rfl, Nat.le_of_ble_eq_true rfl⟩ dX1_outAt_16 (fun H locs hP hD hS => ?_)
  refine lv_if_eq (tgt := 31) hx hb dX1_outAt_19 (by decide) (fun c_1 => ?_) (fun c_1 => ?_)
  · skip
    have c_1 := bI_0.mp c_1
    refine lv_iconst (v := (-1)) hx hb dX1_outAt_31 (by decide) ?_
    exact z_iret hx hb hr hlk hK hP hD hS dX1_outAt_32 (by first | rfl | simp only [chtAt, if_neg c_1]) rfl
  · skip
    have c_1 := bI_n0 c_1
    refine lv_aload_n hx hb dX1_outAt_22 rfl (lv_at hl 1 rfl) ?_
    refine va_get (D := D) (ci := 1) (v := .ref (a 15)) (C := RX1) (T := TX1) (N := 2) hx hb hts wsI_X1 hown hK hP 0 rfl rfl 0 (by decide) (hts _ w_fl_X1_9) (fun _ h9 => h9) rfl dX1_outAt_23 ?_
    refine lv_iload_n hx hb dX1_outAt_26 rfl (lv_at hl 0 rfl) ?_
    refine va_iald hx hb hK hP 1 0 rfl rfl (z_in80 c_1) dX1_outAt_27 ?_
    refine lv_goto (tgt := 32) hx hb dX1_outAt_28 (by decide) ?_
    exact z_iret hx hb hr hlk hK hP hD hS dX1_outAt_32 (by first | rfl | simp only [chtAt, if_pos c_1]) rfl

set_option maxHeartbeats 4000000 in
set_option maxRecDepth 100000 in
theorem c_X1_note (l : Launch) (D : va_G) (cs : zCs) (a : Nat → Nat) (F : Nat → Nat → Int32) (c0 st v : Int32)  : zM l D cs yX1_note cX1_note 5 none 1 22 0 0 [.ref (a 14), .int c0, .int st, .int v] (chtW cs a F) none (chtW cs a (zU F 10 (chtNoteR (F 10) c0 st v))) := by
  refine zM.of (own := RX1) (by decide) (Nat.le_of_ble_eq_true rfl) rfl ?_
  intro pq eq s mq below meth cq A ls hx hb hr hml hown hts hlk hnm hE hK hA hP hD hS hl
  have hl : lv_has ls 5 [(0, .ref (a 14)), (1, .int c0), (2, .int st), (3, .int v)] := hl
  refine lv_iload_n hx hb dX1_note_0 rfl (lv_at hl 1 rfl) ?_
  refine lv_bipush (v := 16) hx hb dX1_note_1 (by decide) ?_
  refine lv_imul hx hb dX1_note_3 ?_
  refine lv_iload_n hx hb dX1_note_4 rfl (lv_at hl 2 rfl) ?_
  refine lv_iadd hx hb dX1_note_5 ?_
  refine lv_istore (lv' := [(4, .int ((c0 * 16) + st)), (0, .ref (a 14)), (1, .int c0), (2, .int st), (3, .int v)]) hx hb dX1_note_6 hl (by decide) rfl (fun ls hl => ?_)
  refine lv_iload hx hb dX1_note_8 (lv_at hl 0 rfl) ?_
  refine lv_iconst (v := 0) hx hb dX1_note_10 (by decide) ?_
  refine lv_aload_n hx hb dX1_note_11 rfl (lv_at hl 1 rfl) ?_
  refine va_get (D := D) (ci := 1) (v := .ref (a 15)) (C := RX1) (T := TX1) (N := 2) hx hb hts wsI_X1 hown hK hP 0 rfl rfl 0 (by decide) (hts _ w_fl_X1_9) (fun _ h9 => h9) rfl dX1_note_12 ?_
  refine va_alen hx hb hK hP 1 0 rfl rfl (v := 80) rfl dX1_note_15 ?_
  refine lv_iconst (v := 1) hx hb dX1_note_16 (by decide) ?_
  refine lv_isub hx hb dX1_note_17 ?_
  refine z_top (y := 79) (by decide) ?_
  refine z_callSN (wn := (chtW cs a F)) ⟨hx, hb, hml, hown, hts⟩ zY_X7_within w_st_yX7_within (List.mem_of_getElem? (i := 9) rfl) [.int ((c0 * 16) + st), .int 0, .int 79] [] (c_X7_within l D cs ((c0 * 16) + st) 0 79) hE hK hA hP hD hS [] rfl rfl rfl z_ins_nil rfl hl.1 (Nat.le_of_ble_eq_true rfl) ⟨Nat.le_of_ble_eq_true rfl, Nat.le_of_ble_eq_true rfl⟩ ⟨Nat.le_of_ble_eq_true rfl, Nat.le_of_ble_eq_true rfl⟩ dX1_note_18 (fun H locs hP hD hS => ?_)
  refine lv_if_eq (tgt := 32) hx hb dX1_note_21 (by decide) (fun c_1 => ?_) (fun c_1 => ?_)
  · skip
    have c_1 := bI_0.mp c_1
    exact z_vret hx hb hr hlk hK hP hD hS dX1_note_32 rfl (by unfold chtNoteR; rw [if_neg c_1]; first | done | rfl)
  · skip
    have c_1 := bI_n0 c_1
    refine lv_aload_n hx hb dX1_note_24 rfl (lv_at hl 1 rfl) ?_
    refine va_get (D := D) (ci := 1) (v := .ref (a 15)) (C := RX1) (T := TX1) (N := 2) hx hb hts wsI_X1 hown hK hP 0 rfl rfl 0 (by decide) (hts _ w_fl_X1_9) (fun _ h9 => h9) rfl dX1_note_25 ?_
    refine lv_iload hx hb dX1_note_28 (lv_at hl 0 rfl) ?_
    refine lv_iload_n hx hb dX1_note_30 rfl (lv_at hl 4 rfl) ?_
    refine va_iast hx hb hK hP hD hS 1 0 rfl rfl (z_in80 c_1) dX1_note_31 (fun H locs hP hD hS => ?_)
    have hP : va_P D vwCl (chtW cs a (zU F 10 (upd (F 10) ((c0 * 16) + st).toNatClampNeg v))) H := hP
    have hD : va_D A (chtW cs a (zU F 10 (upd (F 10) ((c0 * 16) + st).toNatClampNeg v))) := hD
    exact z_vret hx hb hr hlk hK hP hD hS dX1_note_32 rfl (by unfold chtNoteR; rw [if_pos c_1]; first | done | rfl)

set_option maxHeartbeats 4000000 in
set_option maxRecDepth 100000 in
theorem c_X1_skipsAt (l : Launch) (D : va_G) (cs : zCs) (a : Nat → Nat) (F : Nat → Nat → Int32) (st : Int32)  : zM l D cs yX1_skipsAt cX1_skipsAt 2 (some FieldType.int) 1 22 0 0 [.ref (a 14), .int st] (chtW cs a F) (some (.int (chtSk F st))) (chtW cs a F) := by
  refine zM.of (own := RX1) (by decide) (Nat.le_of_ble_eq_true rfl) rfl ?_
  intro pq eq s mq below meth cq A ls hx hb hr hml hown hts hlk hnm hE hK hA hP hD hS hl
  have hl : lv_has ls 2 [(0, .ref (a 14)), (1, .int st)] := hl
  refine lv_iload_n hx hb dX1_skipsAt_0 rfl (lv_at hl 1 rfl) ?_
  refine lv_iconst (v := 0) hx hb dX1_skipsAt_1 (by decide) ?_
  refine lv_aload_n hx hb dX1_skipsAt_2 rfl (lv_at hl 0 rfl) ?_
  refine va_get (D := D) (ci := 1) (v := .ref (a 16)) (C := RX1) (T := TX1) (N := 2) hx hb hts wsI_X1 hown hK hP 0 rfl rfl 1 (by decide) (hts _ w_fl_X1_15) (fun _ h9 => h9) rfl dX1_skipsAt_3 ?_
  refine va_alen hx hb hK hP 2 0 rfl rfl (v := 16) rfl dX1_skipsAt_6 ?_
  refine lv_iconst (v := 1) hx hb dX1_skipsAt_7 (by decide) ?_
  refine lv_isub hx hb dX1_skipsAt_8 ?_
  refine z_top (y := 15) (by decide) ?_
  refine z_callSN (wn := (chtW cs a F)) ⟨hx, hb, hml, hown, hts⟩ zY_X7_within w_st_yX7_within (List.mem_of_getElem? (i := 9) rfl) [.int st, .int 0, .int 15] [] (c_X7_within l D cs st 0 15) hE hK hA hP hD hS [] rfl rfl rfl z_ins_nil rfl hl.1 (Nat.le_of_ble_eq_true rfl) ⟨Nat.le_of_ble_eq_true rfl, Nat.le_of_ble_eq_true rfl⟩ ⟨Nat.le_of_ble_eq_true rfl, Nat.le_of_ble_eq_true rfl⟩ dX1_skipsAt_9 (fun H locs hP hD hS => ?_)
  refine lv_if_eq (tgt := 24) hx hb dX1_skipsAt_12 (by decide) (fun c_1 => ?_) (fun c_1 => ?_)
  · skip
    have c_1 := bI_0.mp c_1
    refine lv_iconst (v := 0) hx hb dX1_skipsAt_24 (by decide) ?_
    exact z_iret hx hb hr hlk hK hP hD hS dX1_skipsAt_25 (by first | rfl | simp only [chtSk, if_neg c_1]) rfl
  · skip
    have c_1 := bI_n0 c_1
    refine lv_aload_n hx hb dX1_skipsAt_15 rfl (lv_at hl 0 rfl) ?_
    refine va_get (D := D) (ci := 1) (v := .ref (a 16)) (C := RX1) (T := TX1) (N := 2) hx hb hts wsI_X1 hown hK hP 0 rfl rfl 1 (by decide) (hts _ w_fl_X1_15) (fun _ h9 => h9) rfl dX1_skipsAt_16 ?_
    refine lv_iload_n hx hb dX1_skipsAt_19 rfl (lv_at hl 1 rfl) ?_
    refine va_iald hx hb hK hP 2 0 rfl rfl (z_in16 c_1) dX1_skipsAt_20 ?_
    refine lv_goto (tgt := 25) hx hb dX1_skipsAt_21 (by decide) ?_
    exact z_iret hx hb hr hlk hK hP hD hS dX1_skipsAt_25 (by first | rfl | simp only [chtSk, if_pos c_1]) rfl

set_option maxHeartbeats 4000000 in
set_option maxRecDepth 100000 in
theorem c_X1_countSkip (l : Launch) (D : va_G) (cs : zCs) (a : Nat → Nat) (F : Nat → Nat → Int32) (st : Int32)  : zM l D cs yX1_countSkip cX1_countSkip 2 none 1 22 0 0 [.ref (a 14), .int st] (chtW cs a F) none (chtW cs a (zU F 11 (chtCntR (F 11) st))) := by
  refine zM.of (own := RX1) (by decide) (Nat.le_of_ble_eq_true rfl) rfl ?_
  intro pq eq s mq below meth cq A ls hx hb hr hml hown hts hlk hnm hE hK hA hP hD hS hl
  have hl : lv_has ls 2 [(0, .ref (a 14)), (1, .int st)] := hl
  refine lv_iload_n hx hb dX1_countSkip_0 rfl (lv_at hl 1 rfl) ?_
  refine lv_iconst (v := 0) hx hb dX1_countSkip_1 (by decide) ?_
  refine lv_aload_n hx hb dX1_countSkip_2 rfl (lv_at hl 0 rfl) ?_
  refine va_get (D := D) (ci := 1) (v := .ref (a 16)) (C := RX1) (T := TX1) (N := 2) hx hb hts wsI_X1 hown hK hP 0 rfl rfl 1 (by decide) (hts _ w_fl_X1_15) (fun _ h9 => h9) rfl dX1_countSkip_3 ?_
  refine va_alen hx hb hK hP 2 0 rfl rfl (v := 16) rfl dX1_countSkip_6 ?_
  refine lv_iconst (v := 1) hx hb dX1_countSkip_7 (by decide) ?_
  refine lv_isub hx hb dX1_countSkip_8 ?_
  refine z_top (y := 15) (by decide) ?_
  refine z_callSN (wn := (chtW cs a F)) ⟨hx, hb, hml, hown, hts⟩ zY_X7_within w_st_yX7_within (List.mem_of_getElem? (i := 9) rfl) [.int st, .int 0, .int 15] [] (c_X7_within l D cs st 0 15) hE hK hA hP hD hS [] rfl rfl rfl z_ins_nil rfl hl.1 (Nat.le_of_ble_eq_true rfl) ⟨Nat.le_of_ble_eq_true rfl, Nat.le_of_ble_eq_true rfl⟩ ⟨Nat.le_of_ble_eq_true rfl, Nat.le_of_ble_eq_true rfl⟩ dX1_countSkip_9 (fun H locs hP hD hS => ?_)
  refine lv_if_eq (tgt := 25) hx hb dX1_countSkip_12 (by decide) (fun c_1 => ?_) (fun c_1 => ?_)
  · skip
    have c_1 := bI_0.mp c_1
    exact z_vret hx hb hr hlk hK hP hD hS dX1_countSkip_25 rfl (by unfold chtCntR; rw [if_neg c_1]; first | done | rfl)
  · skip
    have c_1 := bI_n0 c_1
    refine lv_aload_n hx hb dX1_countSkip_15 rfl (lv_at hl 0 rfl) ?_
    refine va_get (D := D) (ci := 1) (v := .ref (a 16)) (C := RX1) (T := TX1) (N := 2) hx hb hts wsI_X1 hown hK hP 0 rfl rfl 1 (by decide) (hts _ w_fl_X1_15) (fun _ h9 => h9) rfl dX1_countSkip_16 ?_
    refine lv_iload_n hx hb dX1_countSkip_19 rfl (lv_at hl 1 rfl) ?_
    refine lv_dup2_11 hx hb dX1_countSkip_20 rfl rfl ?_
    refine va_iald hx hb hK hP 2 0 rfl rfl (z_in16 c_1) dX1_countSkip_21 ?_
    refine lv_iconst (v := 1) hx hb dX1_countSkip_22 (by decide) ?_
    refine lv_iadd hx hb dX1_countSkip_23 ?_
    refine va_iast hx hb hK hP hD hS 2 0 rfl rfl (z_in16 c_1) dX1_countSkip_24 (fun H locs hP hD hS => ?_)
    have hP : va_P D vwCl (chtW cs a (zU F 11 (upd (F 11) st.toNatClampNeg (((F 11) st.toNatClampNeg) + 1)))) H := hP
    have hD : va_D A (chtW cs a (zU F 11 (upd (F 11) st.toNatClampNeg (((F 11) st.toNatClampNeg) + 1)))) := hD
    exact z_vret hx hb hr hlk hK hP hD hS dX1_countSkip_25 rfl (by unfold chtCntR; rw [if_pos c_1]; first | done | rfl)
