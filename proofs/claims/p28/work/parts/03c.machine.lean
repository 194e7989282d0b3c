abbrev zP : Type := (Nat → Int32) × (Nat → Nat → Int32)
abbrev hasC (F : Nat → Nat → Int32) (k : Nat) (st : Int32) : Prop := ((F 0 k >>> (st &&& 31)) &&& 1) = 1
def camPut (t st th : Int32) : Int32 := if th = 0 then t &&& ((1 <<< (st &&& 31)) ^^^ (-1)) else t ||| (1 <<< (st &&& 31))
theorem z_in5 {x : Int32} (h : 0 ≤ x ∧ x < 5) : vp_in x 5 := vp_in_iff.mpr ⟨Int32.le_iff_toInt_le.mp h.1, by have := Int32.lt_iff_toInt_lt.mp h.2; have : (5 : Int32).toInt = 5 := (by decide); omega⟩
abbrev gHolds (F : Nat → Nat → Int32) (g : Nat) : Prop := 0 ≤ F 8 g ∧ F 8 g < 5 ∧ F 9 g < F 1 (F 8 g).toNatClampNeg
def rbgL (F : Nat → Nat → Int32) (c : Nat) : Nat → Int32
  | 0 => 100 - F 1 c
  | g + 1 => if F 7 g = nI c ∧ gHolds F g then zmin (rbgL F c g) (F 9 g - F 1 c) else rbgL F c g
def rbgN (n : Int32) : Nat := min n.toInt.toNat 4
def rbg (S : Nat → Int32) (F : Nat → Nat → Int32) (c : Nat) : Int32 := zmax (rbgL F c (rbgN (S 8))) 0
theorem rbgN_exit {n : Int32} {g : Nat} (hg : g ≤ 4) (h : n ≤ nI g) : rbgN n ≤ g := by
  have := Int32.le_iff_toInt_le.mp h
  rw [nI_toInt (by omega)] at this
  unfold rbgN
  omega
theorem rbgN_go {n : Int32} {g : Nat} (hg : g ≤ 4) (h : ¬ n ≤ nI g) (h4 : g < 4) : g + 1 ≤ rbgN n := by
  have h1 : ¬ n.toInt ≤ (g : Int) := fun q => h (Int32.le_iff_toInt_le.mpr (by rw [nI_toInt (by omega)]; exact q))
  unfold rbgN
  omega
theorem rbgN_4 (n : Int32) : rbgN n ≤ 4 := by unfold rbgN; omega
theorem z_ge4 {g : Nat} (hg : g ≤ 4) (h : ¬ (4 : Int32) ≤ nI g) : g < 4 := Nat.lt_of_not_le (fun q => h ((nI_leI (a := 4) (by omega) (by omega)).mpr q))
theorem z_ge5 {g : Nat} (hg : g ≤ 5) (h : ¬ (5 : Int32) ≤ nI g) : g < 5 := Nat.lt_of_not_le (fun q => h ((nI_leI (a := 5) (by omega) (by omega)).mpr q))
theorem z_le5 {g : Nat} (hg : g ≤ 5) (h : (5 : Int32) ≤ nI g) : g = 5 := by have := (nI_leI (a := 5) (by omega) (by omega)).mp h; omega
def moFar (S : Nat → Int32) (F : Nat → Nat → Int32) (c : Nat) : Int32 := zmin (zmin (F 3 c) (rbg S F c)) (airEnough (S 5) (F 2 c))
def moS (S : Nat → Int32) (F : Nat → Nat → Int32) (c : Nat) : Nat → Int32 := airUse S (F 2 c * moFar S F c)
def moF (S : Nat → Int32) (F : Nat → Nat → Int32) (c : Nat) : Nat → Nat → Int32 := zU (zU F 5 (upd (F 5) c (F 5 c + F 2 c * moFar S F c))) 1 (upd (F 1) c (F 1 c + moFar S F c))
def miF (F : Nat → Nat → Int32) (c : Nat) : Nat → Nat → Int32 := zU F 1 (upd (F 1) c (zmax (F 1 c - F 3 c) 0))
abbrev lkC (S : Nat → Int32) (F : Nat → Nat → Int32) (c : Nat) : Prop := hasC F c (S 1) ∧ ¬ F 1 c ≤ 0
def lkS (S : Nat → Int32) (F : Nat → Nat → Int32) (c : Nat) : Nat → Int32 := if lkC S F c then airLeak S (F 4 c) else S
def lkF (S : Nat → Int32) (F : Nat → Nat → Int32) (c : Nat) : Nat → Nat → Int32 := if lkC S F c then zU F 6 (upd (F 6) c (F 6 c + zmin (F 4 c) (S 5))) else F
def nxt (S : Nat → Int32) : Int32 := if S 0 ≤ S 1 + 1 then 0 else S 1 + 1
def mdR (S : Nat → Int32) : Int32 := if S 3 ≤ S 2 + 1 then (if S 4 ≤ S 5 then (if nxt S ≤ 0 then 3 else 2) else 1) else 0
def mdS (S : Nat → Int32) : Nat → Int32 := if S 3 ≤ S 2 + 1 then (if S 4 ≤ S 5 then (if nxt S ≤ 0 then upd (upd (upd S 1 (nxt S)) 2 0) 10 (S 10 + 1) else upd (upd S 1 (nxt S)) 2 0) else upd (upd S 2 0) 11 (S 11 + 1)) else upd S 2 (S 2 + 1)
def mdF (S : Nat → Int32) (F : Nat → Nat → Int32) : Nat → Nat → Int32 := if S 3 ≤ S 2 + 1 then (if S 4 ≤ S 5 then F else chtCnt F (S 1)) else F
def tk0 (p : zP) : zP := (airCmp (upd p.1 9 (p.1 9 + 1)), p.2)
def mdP (p : zP) : zP := (mdS p.1, mdF p.1 p.2)
def mvP (p : zP) (c : Nat) : zP := if hasC p.2 c (p.1 1) then (moS p.1 p.2 c, moF p.1 p.2 c) else (p.1, miF p.2 c)
def mvN (p : zP) : Nat → zP
  | 0 => p
  | c + 1 => mvP (mvN p c) c
def lkN (p : zP) : Nat → zP
  | 0 => p
  | c + 1 => (lkS (lkN p c).1 (lkN p c).2 c, lkF (lkN p c).1 (lkN p c).2 c)
def ntN (p : zP) : Nat → zP
  | 0 => p
  | c + 1 => ((ntN p c).1, chtNote (ntN p c).2 (nI c) ((ntN p c).1 1) ((ntN p c).2 1 c))
def tkR (p : zP) : Int32 := mdR (tk0 p).1
def tkP (p : zP) : zP := ntN (lkN (mvN (mdP (tk0 p)) 5) 5) 5
set_option maxHeartbeats 4000000 in
set_option maxRecDepth 100000 in
theorem c_X5_hasCam (l : Launch) (D : va_G) (cs : zCs) (a : Nat → Nat) (S : Nat → Int32) (F : Nat → Nat → Int32) (k : Nat) (st : Int32) (hk : k < 5) : zM l D cs yX5_hasCam cX5_hasCam 3 (some FieldType.boolean) 0 0 0 0 [.ref (a 0), .int (nI k), .int st] (macW cs a S F) (some (.int (bI (hasC F k st)))) (macW cs a S F) := by
  refine zM.of (own := RX5) (by decide) (Nat.le_of_ble_eq_true rfl) rfl ?_
  intro pq eq s mq below meth cq A ls hx hb hr hml hown hts hlk hnm hE hK hA hP hD hS hl
  have hl : lv_has ls 3 [(0, .ref (a 0)), (1, .int (nI k)), (2, .int st)] := hl
  refine lv_aload_n hx hb dX5_hasCam_0 rfl (lv_at hl 0 rfl) ?_
  refine va_get (D := D) (ci := 5) (v := .ref (a 1)) (C := RX5) (T := TX5) (N := 13) hx hb hts wsI_X5 hown hK hP 0 rfl rfl 8 (by decide) (hts _ w_fl_X5_21) (fun _ h9 => h9) rfl dX5_hasCam_1 ?_
  refine lv_iload_n hx hb dX5_hasCam_4 rfl (lv_at hl 1 rfl) ?_
  refine z_iald (k := k) hx hb hK hP 1 rfl (by omega) (by first | decide | omega) dX5_hasCam_5 ?_
  refine lv_iload_n hx hb dX5_hasCam_6 rfl (lv_at hl 2 rfl) ?_
  refine lv_ishr hx hb dX5_hasCam_7 ?_
  refine lv_iconst (v := 1) hx hb dX5_hasCam_8 (by decide) ?_
  refine lv_iand hx hb dX5_hasCam_9 ?_
  refine lv_iconst (v := 1) hx hb dX5_hasCam_10 (by decide) ?_
  refine lv_icmp_ne (tgt := 18) hx hb dX5_hasCam_11 (by decide) (fun c_1 => ?_) (fun c_1 => ?_)
  · skip
    refine lv_iconst (v := 0) hx hb dX5_hasCam_18 (by decide) ?_
    exact z_zret hx hb hr hlk hK hP hD hS dX5_hasCam_19 rfl (by rw [bI_f c_1]) rfl
  · skip
    refine lv_iconst (v := 1) hx hb dX5_hasCam_14 (by decide) ?_
    refine lv_goto (tgt := 19) hx hb dX5_hasCam_15 (by decide) ?_
    exact z_zret hx hb hr hlk hK hP hD hS dX5_hasCam_19 rfl (by rw [bI_t c_1]) rfl

set_option maxHeartbeats 4000000 in
set_option maxRecDepth 100000 in
theorem c_X5_putCam (l : Launch) (D : va_G) (cs : zCs) (a : Nat → Nat) (S : Nat → Int32) (F : Nat → Nat → Int32) (k : Nat) (st th : Int32) (hk : k < 5) : zM l D cs yX5_putCam cX5_putCam 5 none 0 0 0 0 [.ref (a 0), .int (nI k), .int st, .int th] (macW cs a S F) none (macW cs a S (zU F 0 (upd (F 0) k (camPut ((F 0) k) st th)))) := by
  refine zM.of (own := RX5) (by decide) (Nat.le_of_ble_eq_true rfl) rfl ?_
  intro pq eq s mq below meth cq A ls hx hb hr hml hown hts hlk hnm hE hK hA hP hD hS hl
  have hl : lv_has ls 5 [(0, .ref (a 0)), (1, .int (nI k)), (2, .int st), (3, .int th)] := hl
  refine lv_iconst (v := 1) hx hb dX5_putCam_0 (by decide) ?_
  refine lv_iload_n hx hb dX5_putCam_1 rfl (lv_at hl 2 rfl) ?_
  refine lv_ishl hx hb dX5_putCam_2 ?_
  refine lv_istore (lv' := [(4, .int (1 <<< (st &&& 31))), (0, .ref (a 0)), (1, .int (nI k)), (2, .int st), (3, .int th)]) hx hb dX5_putCam_3 hl (by decide) rfl (fun ls hl => ?_)
  refine lv_aload_n hx hb dX5_putCam_5 rfl (lv_at hl 1 rfl) ?_
  refine va_get (D := D) (ci := 5) (v := .ref (a 1)) (C := RX5) (T := TX5) (N := 13) hx hb hts wsI_X5 hown hK hP 0 rfl rfl 8 (by decide) (hts _ w_fl_X5_21) (fun _ h9 => h9) rfl dX5_putCam_6 ?_
  refine lv_iload_n hx hb dX5_putCam_9 rfl (lv_at hl 2 rfl) ?_
  refine lv_iload_n hx hb dX5_putCam_10 rfl (lv_at hl 4 rfl) ?_
  refine lv_if_eq (tgt := 26) hx hb dX5_putCam_11 (by decide) (fun c_1 => ?_) (fun c_1 => ?_)
  · skip
    refine lv_aload_n hx hb dX5_putCam_26 rfl (lv_at hl 1 rfl) ?_
    refine va_get (D := D) (ci := 5) (v := .ref (a 1)) (C := RX5) (T := TX5) (N := 13) hx hb hts wsI_X5 hown hK hP 0 rfl rfl 8 (by decide) (hts _ w_fl_X5_21) (fun _ h9 => h9) rfl dX5_putCam_27 ?_
    refine lv_iload_n hx hb dX5_putCam_30 rfl (lv_at hl 2 rfl) ?_
    refine z_iald (k := k) hx hb hK hP 1 rfl (by omega) (by first | decide | omega) dX5_putCam_31 ?_
    refine lv_iload hx hb dX5_putCam_32 (lv_at hl 0 rfl) ?_
    refine lv_iconst (v := (-1)) hx hb dX5_putCam_34 (by decide) ?_
    refine lv_ixor hx hb dX5_putCam_35 ?_
    refine lv_iand hx hb dX5_putCam_36 ?_
    refine z_iast (k := k) hx hb hK hP hD hS 1 rfl (by omega) (by first | decide | omega) dX5_putCam_37 (fun H locs hP hD hS => ?_)
    have hP : va_P D vwCl (macW cs a S (zU F 0 (upd (F 0) k (((F 0) k) &&& ((1 <<< (st &&& 31)) ^^^ (-1)))))) H := hP
    have hD : va_D A (macW cs a S (zU F 0 (upd (F 0) k (((F 0) k) &&& ((1 <<< (st &&& 31)) ^^^ (-1)))))) := hD
    exact z_vret hx hb hr hlk hK hP hD hS dX5_putCam_38 rfl (by unfold camPut; rw [if_pos c_1])
  · skip
    refine lv_aload_n hx hb dX5_putCam_14 rfl (lv_at hl 1 rfl) ?_
    refine va_get (D := D) (ci := 5) (v := .ref (a 1)) (C := RX5) (T := TX5) (N := 13) hx hb hts wsI_X5 hown hK hP 0 rfl rfl 8 (by decide) (hts _ w_fl_X5_21) (fun _ h9 => h9) rfl dX5_putCam_15 ?_
    refine lv_iload_n hx hb dX5_putCam_18 rfl (lv_at hl 2 rfl) ?_
    refine z_iald (k := k) hx hb hK hP 1 rfl (by omega) (by first | decide | omega) dX5_putCam_19 ?_
    refine lv_iload hx hb dX5_putCam_20 (lv_at hl 0 rfl) ?_
    refine lv_ior hx hb dX5_putCam_22 ?_
    refine lv_goto (tgt := 37) hx hb dX5_putCam_23 (by decide) ?_
    refine z_iast (k := k) hx hb hK hP hD hS 1 rfl (by omega) (by first | decide | omega) dX5_putCam_37 (fun H locs hP hD hS => ?_)
    have hP : va_P D vwCl (macW cs a S (zU F 0 (upd (F 0) k (((F 0) k) ||| (1 <<< (st &&& 31)))))) H := hP
    have hD : va_D A (macW cs a S (zU F 0 (upd (F 0) k (((F 0) k) ||| (1 <<< (st &&& 31)))))) := hD
    exact z_vret hx hb hr hlk hK hP hD hS dX5_putCam_38 rfl (by unfold camPut; rw [if_neg c_1])

set_option maxHeartbeats 4000000 in
set_option maxRecDepth 100000 in
theorem c_X5_camsOf (l : Launch) (D : va_G) (cs : zCs) (a : Nat → Nat) (S : Nat → Int32) (F : Nat → Nat → Int32) (k : Nat) (hk : k < 5) : zM l D cs yX5_camsOf cX5_camsOf 2 (some FieldType.int) 1 20 0 0 [.ref (a 0), .int (nI k)] (macW cs a S F) (some (.int (jbc ((F 0) k)))) (macW cs a S F) := by
  refine zM.of (own := RX5) (by decide) (Nat.le_of_ble_eq_true rfl) rfl ?_
  intro pq eq s mq below meth cq A ls hx hb hr hml hown hts hlk hnm hE hK hA hP hD hS hl
  have hl : lv_has ls 2 [(0, .ref (a 0)), (1, .int (nI k))] := hl
  refine lv_aload_n hx hb dX5_camsOf_0 rfl (lv_at hl 0 rfl) ?_
  refine va_get (D := D) (ci := 5) (v := .ref (a 1)) (C := RX5) (T := TX5) (N := 13) hx hb hts wsI_X5 hown hK hP 0 rfl rfl 8 (by decide) (hts _ w_fl_X5_21) (fun _ h9 => h9) rfl dX5_camsOf_1 ?_
  refine lv_iload_n hx hb dX5_camsOf_4 rfl (lv_at hl 1 rfl) ?_
  refine z_iald (k := k) hx hb hK hP 1 rfl (by omega) (by first | decide | omega) dX5_camsOf_5 ?_
  refine z_callS (wn := (macW cs a S F)) ⟨hx, hb, hml, hown, hts⟩ zY_J6_bitCount_0f7a4 w_st_yJ6_bitCount_0f7a4 w_ml_X5_85 [.int ((F 0) k)] [] (c_J6_bitCount_0f7a4 l D cs ((F 0) k)) hE hK hA hP hD hS [] rfl rfl rfl z_ins_nil rfl hl.1 (Nat.le_of_ble_eq_true rfl) ⟨Nat.le_of_ble_eq_true rfl, Nat.le_of_ble_eq_true rfl⟩ ⟨Nat.le_of_ble_eq_true rfl, Nat.le_of_ble_eq_true rfl⟩ dX5_camsOf_6 (fun H locs hP hD hS => ?_)
  exact z_iret hx hb hr hlk hK hP hD hS dX5_camsOf_9 rfl rfl

set_option maxHeartbeats 4000000 in
set_option maxRecDepth 100000 in
theorem c_X5_standAt (l : Launch) (D : va_G) (cs : zCs) (a : Nat → Nat) (S : Nat → Int32) (F : Nat → Nat → Int32) (st : Int32)  : zM l D cs yX5_standAt cX5_standAt 2 none 0 0 0 0 [.ref (a 0), .int st] (macW cs a S F) none (macW cs a (upd (upd S 1 st) 2 0) F) := by
  refine zM.of (own := RX5) (by decide) (Nat.le_of_ble_eq_true rfl) rfl ?_
  intro pq eq s mq below meth cq A ls hx hb hr hml hown hts hlk hnm hE hK hA hP hD hS hl
  have hl : lv_has ls 2 [(0, .ref (a 0)), (1, .int st)] := hl
  refine lv_aload_n hx hb dX5_standAt_0 rfl (lv_at hl 0 rfl) ?_
  refine lv_iload_n hx hb dX5_standAt_1 rfl (lv_at hl 1 rfl) ?_
  refine va_put (D := D) (ci := 5) (v := .int st) (C := RX5) (T := TX5) (N := 13) hx hb hts wsI_X5 tyX5 tyX5_ok nmX5 hown hK hP hD hS 0 rfl rfl 1 (by decide) (hts _ w_fl_X5_53) (fun _ h9 => h9) rfl (tyX5_ok 1 (by decide)) rfl rfl (Nat.le_of_ble_eq_true rfl) dX5_standAt_2 (fun H locs hP hD hS => ?_)
  have hP : va_P D vwCl (macW cs a (upd S 1 st) F) H := hP
  have hD : va_D A (macW cs a (upd S 1 st) F) := hD
  refine lv_aload_n hx hb dX5_standAt_5 rfl (lv_at hl 0 rfl) ?_
  refine lv_iconst (v := 0) hx hb dX5_standAt_6 (by decide) ?_
  refine va_put (D := D) (ci := 5) (v := .int 0) (C := RX5) (T := TX5) (N := 13) hx hb hts wsI_X5 tyX5 tyX5_ok nmX5 hown hK hP hD hS 0 rfl rfl 2 (by decide) (hts _ w_fl_X5_56) (fun _ h9 => h9) rfl (tyX5_ok 2 (by decide)) rfl rfl (Nat.le_of_ble_eq_true rfl) dX5_standAt_7 (fun H locs hP hD hS => ?_)
  have hP : va_P D vwCl (macW cs a (upd (upd S 1 st) 2 0) F) H := hP
  have hD : va_D A (macW cs a (upd (upd S 1 st) 2 0) F) := hD
  exact z_vret hx hb hr hlk hK hP hD hS dX5_standAt_10 rfl rfl

set_option maxHeartbeats 4000000 in
set_option maxRecDepth 100000 in
theorem c_X5_holds (l : Launch) (D : va_G) (cs : zCs) (a : Nat → Nat) (S : Nat → Int32) (F : Nat → Nat → Int32) (g : Nat) (hg : g < 4) : zM l D cs yX5_holds cX5_holds 3 (some FieldType.boolean) 0 0 0 0 [.ref (a 0), .int (nI g)] (macW cs a S F) (some (.int (bI (gHolds F g)))) (macW cs a S F) := by
  refine zM.of (own := RX5) (by decide) (Nat.le_of_ble_eq_true rfl) rfl ?_
  intro pq eq s mq below meth cq A ls hx hb hr hml hown hts hlk hnm hE hK hA hP hD hS hl
  have hl : lv_has ls 3 [(0, .ref (a 0)), (1, .int (nI g))] := hl
  refine lv_aload_n hx hb dX5_holds_0 rfl (lv_at hl 0 rfl) ?_
  refine va_get (D := D) (ci := 5) (v := .ref (a 10)) (C := RX5) (T := TX5) (N := 13) hx hb hts wsI_X5 hown hK hP 0 rfl rfl 11 (by decide) (hts _ w_fl_X5_42) (fun _ h9 => h9) rfl dX5_holds_1 ?_
  refine va_get (D := D) (ci := 3) (v := .ref (a 12)) (C := RX3) (T := TX3) (N := 4) hx hb hts wsI_X3 hown hK hP 10 rfl rfl 1 (by decide) (hts _ w_fl_X5_184) (fun _ h9 => h9) rfl dX5_holds_4 ?_
  refine lv_iload_n hx hb dX5_holds_7 rfl (lv_at hl 1 rfl) ?_
  refine z_iald (k := g) hx hb hK hP 12 rfl (by omega) (by first | decide | omega) dX5_holds_8 ?_
  refine lv_istore_n (lv' := [(2, .int ((F 8) g)), (0, .ref (a 0)), (1, .int (nI g))]) hx hb dX5_holds_9 rfl hl (by decide) rfl (fun ls hl => ?_)
  refine lv_iload_n hx hb dX5_holds_10 rfl (lv_at hl 0 rfl) ?_
  refine lv_if_lt (tgt := 44) hx hb dX5_holds_11 (by decide) (fun c_1 => ?_) (fun c_1 => ?_)
  · skip
    refine lv_iconst (v := 0) hx hb dX5_holds_44 (by decide) ?_
    exact z_zret hx hb hr hlk hK hP hD hS dX5_holds_45 rfl (by rw [bI_f (fun h => absurd h.1 (Int32.not_le.mpr c_1))]) rfl
  · skip
    refine lv_iload_n hx hb dX5_holds_14 rfl (lv_at hl 0 rfl) ?_
    refine lv_iconst (v := 5) hx hb dX5_holds_15 (by decide) ?_
    refine lv_icmp_ge (tgt := 44) hx hb dX5_holds_16 (by decide) (fun c_2 => ?_) (fun c_2 => ?_)
    · skip
      refine lv_iconst (v := 0) hx hb dX5_holds_44 (by decide) ?_
      exact z_zret hx hb hr hlk hK hP hD hS dX5_holds_45 rfl (by rw [bI_f (fun h => absurd h.2.1 (Int32.not_lt.mpr c_2))]) rfl
    · skip
      refine lv_aload_n hx hb dX5_holds_19 rfl (lv_at hl 1 rfl) ?_
      refine va_get (D := D) (ci := 5) (v := .ref (a 3)) (C := RX5) (T := TX5) (N := 13) hx hb hts wsI_X5 hown hK hP 0 rfl rfl 10 (by decide) (hts _ w_fl_X5_35) (fun _ h9 => h9) rfl dX5_holds_20 ?_
      refine va_get (D := D) (ci := 2) (v := .ref (a 4)) (C := RX2) (T := TX2) (N := 6) hx hb hts wsI_X2 hown hK hP 3 rfl rfl 0 (by decide) (hts _ w_fl_X5_122) (fun _ h9 => h9) rfl dX5_holds_23 ?_
      refine lv_iload_n hx hb dX5_holds_26 rfl (lv_at hl 0 rfl) ?_
      refine va_iald hx hb hK hP 4 0 rfl rfl (z_in5 ⟨Int32.not_lt.mp c_1, Int32.not_le.mp c_2⟩) dX5_holds_27 ?_
      refine lv_aload_n hx hb dX5_holds_28 rfl (lv_at hl 1 rfl) ?_
      refine va_get (D := D) (ci := 5) (v := .ref (a 10)) (C := RX5) (T := TX5) (N := 13) hx hb hts wsI_X5 hown hK hP 0 rfl rfl 11 (by decide) (hts _ w_fl_X5_42) (fun _ h9 => h9) rfl dX5_holds_29 ?_
      refine va_get (D := D) (ci := 3) (v := .ref (a 13)) (C := RX3) (T := TX3) (N := 4) hx hb hts wsI_X3 hown hK hP 10 rfl rfl 2 (by decide) (hts _ w_fl_X5_181) (fun _ h9 => h9) rfl dX5_holds_32 ?_
      refine lv_iload_n hx hb dX5_holds_35 rfl (lv_at hl 2 rfl) ?_
      refine z_iald (k := g) hx hb hK hP 13 rfl (by omega) (by first | decide | omega) dX5_holds_36 ?_
      refine lv_icmp_le (tgt := 44) hx hb dX5_holds_37 (by decide) (fun c_3 => ?_) (fun c_3 => ?_)
      · skip
        refine lv_iconst (v := 0) hx hb dX5_holds_44 (by decide) ?_
        exact z_zret hx hb hr hlk hK hP hD hS dX5_holds_45 rfl (by rw [bI_f (fun h => absurd h.2.2 (Int32.not_lt.mpr c_3))]) rfl
      · skip
        refine lv_iconst (v := 1) hx hb dX5_holds_40 (by decide) ?_
        refine lv_goto (tgt := 45) hx hb dX5_holds_41 (by decide) ?_
        exact z_zret hx hb hr hlk hK hP hD hS dX5_holds_45 rfl (by rw [bI_t ⟨Int32.not_lt.mp c_1, Int32.not_le.mp c_2, Int32.not_le.mp c_3⟩]) rfl

set_option maxHeartbeats 4000000 in
set_option maxRecDepth 100000 in
theorem c_X5_roomByGuards (l : Launch) (D : va_G) (cs : zCs) (a : Nat → Nat) (S : Nat → Int32) (F : Nat → Nat → Int32) (c : Nat) (hc : c < 5) : zM l D cs yX5_roomByGuards cX5_roomByGuards 4 (some FieldType.int) 1 22 0 0 [.ref (a 0), .int (nI c)] (macW cs a S F) (some (.int (rbg S F c))) (macW cs a S F) := by
  refine zM.of (own := RX5) (by decide) (Nat.le_of_ble_eq_true rfl) rfl ?_
  intro pq eq s mq below meth cq A ls hx hb hr hml hown hts hlk hnm hE hK hA hP hD hS hl
  have hl : lv_has ls 4 [(0, .ref (a 0)), (1, .int (nI c))] := hl
  refine lv_bipush (v := 100) hx hb dX5_roomByGuards_0 (by decide) ?_
  refine lv_aload_n hx hb dX5_roomByGuards_2 rfl (lv_at hl 0 rfl) ?_
  refine va_get (D := D) (ci := 5) (v := .ref (a 3)) (C := RX5) (T := TX5) (N := 13) hx hb hts wsI_X5 hown hK hP 0 rfl rfl 10 (by decide) (hts _ w_fl_X5_35) (fun _ h9 => h9) rfl dX5_roomByGuards_3 ?_
  refine va_get (D := D) (ci := 2) (v := .ref (a 4)) (C := RX2) (T := TX2) (N := 6) hx hb hts wsI_X2 hown hK hP 3 rfl rfl 0 (by decide) (hts _ w_fl_X5_122) (fun _ h9 => h9) rfl dX5_roomByGuards_6 ?_
  refine lv_iload_n hx hb dX5_roomByGuards_9 rfl (lv_at hl 1 rfl) ?_
  refine z_iald (k := c) hx hb hK hP 4 rfl (by omega) (by first | decide | omega) dX5_roomByGuards_10 ?_
  refine lv_isub hx hb dX5_roomByGuards_11 ?_
  refine lv_istore_n (lv' := [(2, .int (100 - ((F 1) c))), (0, .ref (a 0)), (1, .int (nI c))]) hx hb dX5_roomByGuards_12 rfl hl (by decide) rfl (fun ls hl => ?_)
  refine lv_iconst (v := 0) hx hb dX5_roomByGuards_13 (by decide) ?_
  refine lv_istore_n (lv' := [(3, .int 0), (2, .int (100 - ((F 1) c))), (0, .ref (a 0)), (1, .int (nI c))]) hx hb dX5_roomByGuards_14 rfl hl (by decide) rfl (fun ls hl => ?_)
  have lp15 : ∀ (k : Nat) (g : Nat), (g ≤ rbgN (S 8)) → (5 ≤ g + k) → ∀ (H : Heap) (locs : List Loc) (ls : Array Slot), va_P D vwCl (macW cs a S F) H → va_D A (macW cs a S F) → va_S A s.heap H locs → lv_has ls 4 [(0, .ref (a 0)), (1, .int (nI c)), (2, .int (rbgL F c g)), (3, .int (nI g))] → W pq l eq ({ frames := 1, cells := 0, slots := 0, locals := 22 } : Room) s mq ([.ref (a 0), .int (nI c)] : List Value).toArray below meth cq H locs 0 0 (MQ below (zQ D cs (some (.int (rbg S F c))) (macW cs a S F) A) ([.ref (a 0), .int (nI c)] : List Value).toArray s 0 0 A) (F0 mq 15 ls []) := by
    intro k
    induction k with
    | zero =>
      intro g h1 h2 H locs ls hP hD hS hl
      have := rbgN_4 (S 8); omega
    | succ k ih =>
      intro g h1 h2 H locs ls hP hD hS hl
      refine lv_iload_n hx hb dX5_roomByGuards_15 rfl (lv_at hl 3 rfl) ?_
      refine lv_aload_n hx hb dX5_roomByGuards_16 rfl (lv_at hl 0 rfl) ?_
      refine va_get (D := D) (ci := 5) (v := .ref (a 10)) (C := RX5) (T := TX5) (N := 13) hx hb hts wsI_X5 hown hK hP 0 rfl rfl 11 (by decide) (hts _ w_fl_X5_42) (fun _ h9 => h9) rfl dX5_roomByGuards_17 ?_
      refine va_get (D := D) (ci := 3) (v := .int (S 8)) (C := RX3) (T := TX3) (N := 4) hx hb hts wsI_X3 hown hK hP 10 rfl rfl 3 (by decide) (hts _ w_fl_X5_171) (fun _ h9 => h9) rfl dX5_roomByGuards_20 ?_
      refine lv_icmp_ge (tgt := 82) hx hb dX5_roomByGuards_23 (by decide) (fun c_1 => ?_) (fun c_1 => ?_)
      · skip
        refine lv_iload_n hx hb dX5_roomByGuards_82 rfl (lv_at hl 2 rfl) ?_
        refine lv_iconst (v := 0) hx hb dX5_roomByGuards_83 (by decide) ?_
        refine va_mmax hx hb (hml.trans hl.1.symm) hown (hts _ w_ml_X5_159) (hts _ w_st_Mmax) (hts _ w_in_J9) (hts _ w_co_Mmax) (Nat.le_of_ble_eq_true rfl) (Nat.le_of_ble_eq_true rfl) (Nat.le_of_ble_eq_true rfl) (Nat.le_of_ble_eq_true rfl) dX5_roomByGuards_84 ?_
        refine z_top (y := zmax (rbgL F c g) 0) rfl ?_
        exact z_iret hx hb hr hlk hK hP hD hS dX5_roomByGuards_87 (by have e : rbgN (S 8) = g := Nat.le_antisymm (rbgN_exit (by have := rbgN_4 (S 8); omega) c_1) h1; show _ = some (Value.int (zmax (rbgL F c (rbgN (S 8))) 0)); rw [e]) rfl
      · skip
        refine lv_iload_n hx hb dX5_roomByGuards_26 rfl (lv_at hl 3 rfl) ?_
        refine lv_iconst (v := 4) hx hb dX5_roomByGuards_27 (by decide) ?_
        refine lv_icmp_ge (tgt := 82) hx hb dX5_roomByGuards_28 (by decide) (fun c_2 => ?_) (fun c_2 => ?_)
        · skip
          refine lv_iload_n hx hb dX5_roomByGuards_82 rfl (lv_at hl 2 rfl) ?_
          refine lv_iconst (v := 0) hx hb dX5_roomByGuards_83 (by decide) ?_
          refine va_mmax hx hb (hml.trans hl.1.symm) hown (hts _ w_ml_X5_159) (hts _ w_st_Mmax) (hts _ w_in_J9) (hts _ w_co_Mmax) (Nat.le_of_ble_eq_true rfl) (Nat.le_of_ble_eq_true rfl) (Nat.le_of_ble_eq_true rfl) (Nat.le_of_ble_eq_true rfl) dX5_roomByGuards_84 ?_
          refine z_top (y := zmax (rbgL F c g) 0) rfl ?_
          exact z_iret hx hb hr hlk hK hP hD hS dX5_roomByGuards_87 (by have e : rbgN (S 8) = g := Nat.le_antisymm ((by have := rbgN_4 (S 8); have := (nI_leI (a := 4) (by omega) (by have := rbgN_4 (S 8); omega)).mp c_2; omega)) h1; show _ = some (Value.int (zmax (rbgL F c (rbgN (S 8))) 0)); rw [e]) rfl
        · skip
          have h4 : g < 4 := z_ge4 (by have := rbgN_4 (S 8); omega) c_2
          refine lv_aload_n hx hb dX5_roomByGuards_31 rfl (lv_at hl 0 rfl) ?_
          refine va_get (D := D) (ci := 5) (v := .ref (a 10)) (C := RX5) (T := TX5) (N := 13) hx hb hts wsI_X5 hown hK hP 0 rfl rfl 11 (by decide) (hts _ w_fl_X5_42) (fun _ h9 => h9) rfl dX5_roomByGuards_32 ?_
          refine va_get (D := D) (ci := 3) (v := .ref (a 11)) (C := RX3) (T := TX3) (N := 4) hx hb hts wsI_X3 hown hK hP 10 rfl rfl 0 (by decide) (hts _ w_fl_X5_174) (fun _ h9 => h9) rfl dX5_roomByGuards_35 ?_
          refine lv_iload_n hx hb dX5_roomByGuards_38 rfl (lv_at hl 3 rfl) ?_
          refine z_iald (k := g) hx hb hK hP 11 rfl (by omega) (by first | decide | omega) dX5_roomByGuards_39 ?_
          refine lv_iload_n hx hb dX5_roomByGuards_40 rfl (lv_at hl 1 rfl) ?_
          refine lv_icmp_ne (tgt := 76) hx hb dX5_roomByGuards_41 (by decide) (fun c_3 => ?_) (fun c_3 => ?_)
          · skip
            refine lv_iinc (v := nI (g + 1)) (lv' := [(3, .int (nI (g + 1))), (0, .ref (a 0)), (1, .int (nI c)), (2, .int (rbgL F c g))]) hx hb dX5_roomByGuards_76 hl (k := 3) rfl (show nI g + Int32.ofInt 1 = nI (g + 1) from nI_add g 1) (by decide) rfl (fun ls hl => ?_)
            refine lv_goto (tgt := 15) hx hb dX5_roomByGuards_79 (by decide) ?_
            have e : rbgL F c (g + 1) = rbgL F c g := if_neg (fun h => c_3 h.1)
            rw [← e] at hl
            exact ih (g + 1) (rbgN_go (by have := rbgN_4 (S 8); omega) c_1 h4) (by omega) _ _ _ hP hD hS (lv_sub hl [1, 2, 3, 0] rfl)
          · skip
            refine lv_aload_n hx hb dX5_roomByGuards_44 rfl (lv_at hl 0 rfl) ?_
            refine lv_iload_n hx hb dX5_roomByGuards_45 rfl (lv_at hl 3 rfl) ?_
            refine z_callV (wn := (macW cs a S F)) ⟨hx, hb, hml, hown, hts⟩ zY_X5_holds w_im_yX5_holds w_se_yX5_holds w_ml_X5_177 [.int (nI g)] [] (c_X5_holds l D cs a S F g (by omega)) hE hK hA hP hD hS [0, 1, 2, 3, 4, 5, 6, 7, 8, 9, 10, 11, 12, 13, 14, 15, 16] rfl rfl rfl rfl 5 rfl rfl rfl rfl hl.1 (Nat.le_of_ble_eq_true rfl) ⟨Nat.le_of_ble_eq_true rfl, Nat.le_of_ble_eq_true rfl⟩ ⟨Nat.le_of_ble_eq_true rfl, Nat.le_of_ble_eq_true rfl⟩ dX5_roomByGuards_46 (fun H locs hP hD hS => ?_)
            refine lv_if_eq (tgt := 76) hx hb dX5_roomByGuards_49 (by decide) (fun c_4 => ?_) (fun c_4 => ?_)
            · skip
              have c_4 := bI_0.mp c_4
              refine lv_iinc (v := nI (g + 1)) (lv' := [(3, .int (nI (g + 1))), (0, .ref (a 0)), (1, .int (nI c)), (2, .int (rbgL F c g))]) hx hb dX5_roomByGuards_76 hl (k := 3) rfl (show nI g + Int32.ofInt 1 = nI (g + 1) from nI_add g 1) (by decide) rfl (fun ls hl => ?_)
              refine lv_goto (tgt := 15) hx hb dX5_roomByGuards_79 (by decide) ?_
              have e : rbgL F c (g + 1) = rbgL F c g := if_neg (fun h => c_4 h.2)
              rw [← e] at hl
              exact ih (g + 1) (rbgN_go (by have := rbgN_4 (S 8); omega) c_1 h4) (by omega) _ _ _ hP hD hS (lv_sub hl [1, 2, 3, 0] rfl)
            · skip
              have c_4 := bI_n0 c_4
              refine lv_iload_n hx hb dX5_roomByGuards_52 rfl (lv_at hl 2 rfl) ?_
              refine lv_aload_n hx hb dX5_roomByGuards_53 rfl (lv_at hl 0 rfl) ?_
              refine va_get (D := D) (ci := 5) (v := .ref (a 10)) (C := RX5) (T := TX5) (N := 13) hx hb hts wsI_X5 hown hK hP 0 rfl rfl 11 (by decide) (hts _ w_fl_X5_42) (fun _ h9 => h9) rfl dX5_roomByGuards_54 ?_
              refine va_get (D := D) (ci := 3) (v := .ref (a 13)) (C := RX3) (T := TX3) (N := 4) hx hb hts wsI_X3 hown hK hP 10 rfl rfl 2 (by decide) (hts _ w_fl_X5_181) (fun _ h9 => h9) rfl dX5_roomByGuards_57 ?_
              refine lv_iload_n hx hb dX5_roomByGuards_60 rfl (lv_at hl 3 rfl) ?_
              refine z_iald (k := g) hx hb hK hP 13 rfl (by omega) (by first | decide | omega) dX5_roomByGuards_61 ?_
              refine lv_aload_n hx hb dX5_roomByGuards_62 rfl (lv_at hl 0 rfl) ?_
              refine va_get (D := D) (ci := 5) (v := .ref (a 3)) (C := RX5) (T := TX5) (N := 13) hx hb hts wsI_X5 hown hK hP 0 rfl rfl 10 (by decide) (hts _ w_fl_X5_35) (fun _ h9 => h9) rfl dX5_roomByGuards_63 ?_
              refine va_get (D := D) (ci := 2) (v := .ref (a 4)) (C := RX2) (T := TX2) (N := 6) hx hb hts wsI_X2 hown hK hP 3 rfl rfl 0 (by decide) (hts _ w_fl_X5_122) (fun _ h9 => h9) rfl dX5_roomByGuards_66 ?_
              refine lv_iload_n hx hb dX5_roomByGuards_69 rfl (lv_at hl 1 rfl) ?_
              refine z_iald (k := c) hx hb hK hP 4 rfl (by omega) (by first | decide | omega) dX5_roomByGuards_70 ?_
              refine lv_isub hx hb dX5_roomByGuards_71 ?_
              refine va_mmin hx hb (hml.trans hl.1.symm) hown (hts _ w_ml_X5_141) (hts _ w_st_Mmin) (hts _ w_in_J9) (hts _ w_co_Mmin) (Nat.le_of_ble_eq_true rfl) (Nat.le_of_ble_eq_true rfl) (Nat.le_of_ble_eq_true rfl) (Nat.le_of_ble_eq_true rfl) dX5_roomByGuards_72 ?_
              refine z_top (y := zmin (rbgL F c g) (((F 9) g) - ((F 1) c))) rfl ?_
              refine lv_istore_n (lv' := [(2, .int (zmin (rbgL F c g) (((F 9) g) - ((F 1) c)))), (0, .ref (a 0)), (1, .int (nI c)), (3, .int (nI g))]) hx hb dX5_roomByGuards_75 rfl hl (by decide) rfl (fun ls hl => ?_)
              refine lv_iinc (v := nI (g + 1)) (lv' := [(3, .int (nI (g + 1))), (2, .int (zmin (rbgL F c g) (((F 9) g) - ((F 1) c)))), (0, .ref (a 0)), (1, .int (nI c))]) hx hb dX5_roomByGuards_76 hl (k := 3) rfl (show nI g + Int32.ofInt 1 = nI (g + 1) from nI_add g 1) (by decide) rfl (fun ls hl => ?_)
              refine lv_goto (tgt := 15) hx hb dX5_roomByGuards_79 (by decide) ?_
              have e : rbgL F c (g + 1) = zmin (rbgL F c g) (((F 9) g) - ((F 1) c)) := if_pos ⟨c_3, c_4⟩
              rw [← e] at hl
              exact ih (g + 1) (rbgN_go (by have := rbgN_4 (S 8); omega) c_1 h4) (by omega) _ _ _ hP hD hS (lv_sub hl [2, 3, 1, 0] rfl)
  exact lp15 5 0 (Nat.zero_le _) (by omega) _ _ _ hP hD hS (lv_sub hl [2, 3, 1, 0] rfl)

set_option maxHeartbeats 4000000 in
set_option maxRecDepth 100000 in
theorem c_X5_moveOut (l : Launch) (D : va_G) (cs : zCs) (a : Nat → Nat) (S : Nat → Int32) (F : Nat → Nat → Int32) (c : Nat) (hc : c < 5) : zM l D cs yX5_moveOut cX5_moveOut 4 none 2 45 0 0 [.ref (a 0), .int (nI c)] (macW cs a S F) none (macW cs a (moS S F c) (moF S F c)) := by
  refine zM.of (own := RX5) (by decide) (Nat.le_of_ble_eq_true rfl) rfl ?_
  intro pq eq s mq below meth cq A ls hx hb hr hml hown hts hlk hnm hE hK hA hP hD hS hl
  have hl : lv_has ls 4 [(0, .ref (a 0)), (1, .int (nI c))] := hl
  refine lv_aload_n hx hb dX5_moveOut_0 rfl (lv_at hl 0 rfl) ?_
  refine va_get (D := D) (ci := 5) (v := .ref (a 3)) (C := RX5) (T := TX5) (N := 13) hx hb hts wsI_X5 hown hK hP 0 rfl rfl 10 (by decide) (hts _ w_fl_X5_35) (fun _ h9 => h9) rfl dX5_moveOut_1 ?_
  refine va_get (D := D) (ci := 2) (v := .ref (a 6)) (C := RX2) (T := TX2) (N := 6) hx hb hts wsI_X2 hown hK hP 3 rfl rfl 2 (by decide) (hts _ w_fl_X5_135) (fun _ h9 => h9) rfl dX5_moveOut_4 ?_
  refine lv_iload_n hx hb dX5_moveOut_7 rfl (lv_at hl 1 rfl) ?_
  refine z_iald (k := c) hx hb hK hP 6 rfl (by omega) (by first | decide | omega) dX5_moveOut_8 ?_
  refine lv_aload_n hx hb dX5_moveOut_9 rfl (lv_at hl 0 rfl) ?_
  refine lv_iload_n hx hb dX5_moveOut_10 rfl (lv_at hl 1 rfl) ?_
  refine z_callV (wn := (macW cs a S F)) ⟨hx, hb, hml, hown, hts⟩ zY_X5_roomByGuards w_im_yX5_roomByGuards w_se_yX5_roomByGuards w_ml_X5_138 [.int (nI c)] [.int ((F 3) c)] (c_X5_roomByGuards l D cs a S F c (by omega)) hE hK hA hP hD hS [0, 1, 2, 3, 4, 5, 6, 7, 8, 9, 10, 11, 12, 13, 14, 15, 16] rfl rfl rfl rfl 5 rfl rfl rfl rfl hl.1 (Nat.le_of_ble_eq_true rfl) ⟨Nat.le_of_ble_eq_true rfl, Nat.le_of_ble_eq_true rfl⟩ ⟨Nat.le_of_ble_eq_true rfl, Nat.le_of_ble_eq_true rfl⟩ dX5_moveOut_11 (fun H locs hP hD hS => ?_)
  refine va_mmin hx hb (hml.trans hl.1.symm) hown (hts _ w_ml_X5_141) (hts _ w_st_Mmin) (hts _ w_in_J9) (hts _ w_co_Mmin) (Nat.le_of_ble_eq_true rfl) (Nat.le_of_ble_eq_true rfl) (Nat.le_of_ble_eq_true rfl) (Nat.le_of_ble_eq_true rfl) dX5_moveOut_14 ?_
  refine z_top (y := zmin ((F 3) c) (rbg S F c)) rfl ?_
  refine lv_istore_n (lv' := [(2, .int (zmin ((F 3) c) (rbg S F c))), (0, .ref (a 0)), (1, .int (nI c))]) hx hb dX5_moveOut_17 rfl hl (by decide) rfl (fun ls hl => ?_)
  refine lv_iload_n hx hb dX5_moveOut_18 rfl (lv_at hl 0 rfl) ?_
  refine lv_aload_n hx hb dX5_moveOut_19 rfl (lv_at hl 1 rfl) ?_
  refine va_get (D := D) (ci := 5) (v := .ref (a 2)) (C := RX5) (T := TX5) (N := 13) hx hb hts wsI_X5 hown hK hP 0 rfl rfl 9 (by decide) (hts _ w_fl_X5_28) (fun _ h9 => h9) rfl dX5_moveOut_20 ?_
  refine lv_aload_n hx hb dX5_moveOut_23 rfl (lv_at hl 1 rfl) ?_
  refine va_get (D := D) (ci := 5) (v := .ref (a 3)) (C := RX5) (T := TX5) (N := 13) hx hb hts wsI_X5 hown hK hP 0 rfl rfl 10 (by decide) (hts _ w_fl_X5_35) (fun _ h9 => h9) rfl dX5_moveOut_24 ?_
  refine va_get (D := D) (ci := 2) (v := .ref (a 5)) (C := RX2) (T := TX2) (N := 6) hx hb hts wsI_X2 hown hK hP 3 rfl rfl 1 (by decide) (hts _ w_fl_X5_147) (fun _ h9 => h9) rfl dX5_moveOut_27 ?_
  refine lv_iload_n hx hb dX5_moveOut_30 rfl (lv_at hl 2 rfl) ?_
  refine z_iald (k := c) hx hb hK hP 5 rfl (by omega) (by first | decide | omega) dX5_moveOut_31 ?_
  refine z_callV (wn := (macW cs a S F)) ⟨hx, hb, hml, hown, hts⟩ zY_X0_enoughToMove w_im_yX0_enoughToMove w_se_yX0_enoughToMove w_ml_X5_150 [.int ((F 2) c)] [.int (zmin ((F 3) c) (rbg S F c))] (c_X0_enoughToMove l D cs a S ((F 2) c)) hE hK hA hP hD hS [2] rfl rfl rfl rfl 0 rfl rfl rfl rfl hl.1 (Nat.le_of_ble_eq_true rfl) ⟨Nat.le_of_ble_eq_true rfl, Nat.le_of_ble_eq_true rfl⟩ ⟨Nat.le_of_ble_eq_true rfl, Nat.le_of_ble_eq_true rfl⟩ dX5_moveOut_32 (fun H locs hP hD hS => ?_)
  refine va_mmin hx hb (hml.trans hl.1.symm) hown (hts _ w_ml_X5_141) (hts _ w_st_Mmin) (hts _ w_in_J9) (hts _ w_co_Mmin) (Nat.le_of_ble_eq_true rfl) (Nat.le_of_ble_eq_true rfl) (Nat.le_of_ble_eq_true rfl) (Nat.le_of_ble_eq_true rfl) dX5_moveOut_35 ?_
  refine z_top (y := zmin (zmin ((F 3) c) (rbg S F c)) (airEnough (S 5) ((F 2) c))) rfl ?_
  refine lv_istore_n (lv' := [(2, .int (zmin (zmin ((F 3) c) (rbg S F c)) (airEnough (S 5) ((F 2) c)))), (0, .ref (a 0)), (1, .int (nI c))]) hx hb dX5_moveOut_38 rfl hl (by decide) rfl (fun ls hl => ?_)
  refine lv_aload_n hx hb dX5_moveOut_39 rfl (lv_at hl 1 rfl) ?_
  refine va_get (D := D) (ci := 5) (v := .ref (a 3)) (C := RX5) (T := TX5) (N := 13) hx hb hts wsI_X5 hown hK hP 0 rfl rfl 10 (by decide) (hts _ w_fl_X5_35) (fun _ h9 => h9) rfl dX5_moveOut_40 ?_
  refine va_get (D := D) (ci := 2) (v := .ref (a 5)) (C := RX2) (T := TX2) (N := 6) hx hb hts wsI_X2 hown hK hP 3 rfl rfl 1 (by decide) (hts _ w_fl_X5_147) (fun _ h9 => h9) rfl dX5_moveOut_43 ?_
  refine lv_iload_n hx hb dX5_moveOut_46 rfl (lv_at hl 2 rfl) ?_
  refine z_iald (k := c) hx hb hK hP 5 rfl (by omega) (by first | decide | omega) dX5_moveOut_47 ?_
  refine lv_iload_n hx hb dX5_moveOut_48 rfl (lv_at hl 0 rfl) ?_
  refine lv_imul hx hb dX5_moveOut_49 ?_
  refine lv_istore_n (lv' := [(3, .int (((F 2) c) * (zmin (zmin ((F 3) c) (rbg S F c)) (airEnough (S 5) ((F 2) c))))), (2, .int (zmin (zmin ((F 3) c) (rbg S F c)) (airEnough (S 5) ((F 2) c)))), (0, .ref (a 0)), (1, .int (nI c))]) hx hb dX5_moveOut_50 rfl hl (by decide) rfl (fun ls hl => ?_)
  refine lv_aload_n hx hb dX5_moveOut_51 rfl (lv_at hl 2 rfl) ?_
  refine va_get (D := D) (ci := 5) (v := .ref (a 2)) (C := RX5) (T := TX5) (N := 13) hx hb hts wsI_X5 hown hK hP 0 rfl rfl 9 (by decide) (hts _ w_fl_X5_28) (fun _ h9 => h9) rfl dX5_moveOut_52 ?_
  refine lv_iload_n hx hb dX5_moveOut_55 rfl (lv_at hl 0 rfl) ?_
  refine z_callV (wn := (macW cs a (airUse S (((F 2) c) * (zmin (zmin ((F 3) c) (rbg S F c)) (airEnough (S 5) ((F 2) c))))) F)) ⟨hx, hb, hml, hown, hts⟩ zY_X0_use w_im_yX0_use w_se_yX0_use w_ml_X5_153 [.int (((F 2) c) * (zmin (zmin ((F 3) c) (rbg S F c)) (airEnough (S 5) ((F 2) c))))] [] (c_X0_use l D cs a S (((F 2) c) * (zmin (zmin ((F 3) c) (rbg S F c)) (airEnough (S 5) ((F 2) c))))) hE hK hA hP hD hS [2] rfl rfl rfl rfl 0 rfl rfl rfl rfl hl.1 (Nat.le_of_ble_eq_true rfl) ⟨Nat.le_of_ble_eq_true rfl, Nat.le_of_ble_eq_true rfl⟩ ⟨Nat.le_of_ble_eq_true rfl, Nat.le_of_ble_eq_true rfl⟩ dX5_moveOut_56 (fun H locs hP hD hS => ?_)
  refine lv_aload_n hx hb dX5_moveOut_59 rfl (lv_at hl 2 rfl) ?_
  refine va_get (D := D) (ci := 5) (v := .ref (a 3)) (C := RX5) (T := TX5) (N := 13) hx hb hts wsI_X5 hown hK hP 0 rfl rfl 10 (by decide) (hts _ w_fl_X5_35) (fun _ h9 => h9) rfl dX5_moveOut_60 ?_
  refine va_get (D := D) (ci := 2) (v := .ref (a 8)) (C := RX2) (T := TX2) (N := 6) hx hb hts wsI_X2 hown hK hP 3 rfl rfl 4 (by decide) (hts _ w_fl_X5_156) (fun _ h9 => h9) rfl dX5_moveOut_63 ?_
  refine lv_iload_n hx hb dX5_moveOut_66 rfl (lv_at hl 3 rfl) ?_
  refine lv_dup2_11 hx hb dX5_moveOut_67 rfl rfl ?_
  refine z_iald (k := c) hx hb hK hP 8 rfl (by omega) (by first | decide | omega) dX5_moveOut_68 ?_
  refine lv_iload_n hx hb dX5_moveOut_69 rfl (lv_at hl 0 rfl) ?_
  refine lv_iadd hx hb dX5_moveOut_70 ?_
  refine z_iast (k := c) hx hb hK hP hD hS 8 rfl (by omega) (by first | decide | omega) dX5_moveOut_71 (fun H locs hP hD hS => ?_)
  have hP : va_P D vwCl (macW cs a (airUse S (((F 2) c) * (zmin (zmin ((F 3) c) (rbg S F c)) (airEnough (S 5) ((F 2) c))))) (zU F 5 (upd (F 5) c (((F 5) c) + (((F 2) c) * (zmin (zmin ((F 3) c) (rbg S F c)) (airEnough (S 5) ((F 2) c)))))))) H := hP
  have hD : va_D A (macW cs a (airUse S (((F 2) c) * (zmin (zmin ((F 3) c) (rbg S F c)) (airEnough (S 5) ((F 2) c))))) (zU F 5 (upd (F 5) c (((F 5) c) + (((F 2) c) * (zmin (zmin ((F 3) c) (rbg S F c)) (airEnough (S 5) ((F 2) c)))))))) := hD
  refine lv_aload_n hx hb dX5_moveOut_72 rfl (lv_at hl 2 rfl) ?_
  refine va_get (D := D) (ci := 5) (v := .ref (a 3)) (C := RX5) (T := TX5) (N := 13) hx hb hts wsI_X5 hown hK hP 0 rfl rfl 10 (by decide) (hts _ w_fl_X5_35) (fun _ h9 => h9) rfl dX5_moveOut_73 ?_
  refine va_get (D := D) (ci := 2) (v := .ref (a 4)) (C := RX2) (T := TX2) (N := 6) hx hb hts wsI_X2 hown hK hP 3 rfl rfl 0 (by decide) (hts _ w_fl_X5_122) (fun _ h9 => h9) rfl dX5_moveOut_76 ?_
  refine lv_iload_n hx hb dX5_moveOut_79 rfl (lv_at hl 3 rfl) ?_
  refine lv_dup2_11 hx hb dX5_moveOut_80 rfl rfl ?_
  refine z_iald (k := c) hx hb hK hP 4 rfl (by omega) (by first | decide | omega) dX5_moveOut_81 ?_
  refine lv_iload_n hx hb dX5_moveOut_82 rfl (lv_at hl 1 rfl) ?_
  refine lv_iadd hx hb dX5_moveOut_83 ?_
  refine z_iast (k := c) hx hb hK hP hD hS 4 rfl (by omega) (by first | decide | omega) dX5_moveOut_84 (fun H locs hP hD hS => ?_)
  have hP : va_P D vwCl (macW cs a (airUse S (((F 2) c) * (zmin (zmin ((F 3) c) (rbg S F c)) (airEnough (S 5) ((F 2) c))))) (zU (zU F 1 (upd (F 1) c (((F 1) c) + (zmin (zmin ((F 3) c) (rbg S F c)) (airEnough (S 5) ((F 2) c)))))) 5 (upd (F 5) c (((F 5) c) + (((F 2) c) * (zmin (zmin ((F 3) c) (rbg S F c)) (airEnough (S 5) ((F 2) c)))))))) H := hP
  have hD : va_D A (macW cs a (airUse S (((F 2) c) * (zmin (zmin ((F 3) c) (rbg S F c)) (airEnough (S 5) ((F 2) c))))) (zU (zU F 1 (upd (F 1) c (((F 1) c) + (zmin (zmin ((F 3) c) (rbg S F c)) (airEnough (S 5) ((F 2) c)))))) 5 (upd (F 5) c (((F 5) c) + (((F 2) c) * (zmin (zmin ((F 3) c) (rbg S F c)) (airEnough (S 5) ((F 2) c)))))))) := hD
  exact z_vret hx hb hr hlk hK hP hD hS dX5_moveOut_85 rfl rfl

set_option maxHeartbeats 4000000 in
set_option maxRecDepth 100000 in
theorem c_X5_moveIn (l : Launch) (D : va_G) (cs : zCs) (a : Nat → Nat) (S : Nat → Int32) (F : Nat → Nat → Int32) (c : Nat) (hc : c < 5) : zM l D cs yX5_moveIn cX5_moveIn 2 none 1 21 0 0 [.ref (a 0), .int (nI c)] (macW cs a S F) none (macW cs a S (miF F c)) := by
  refine zM.of (own := RX5) (by decide) (Nat.le_of_ble_eq_true rfl) rfl ?_
  intro pq eq s mq below meth cq A ls hx hb hr hml hown hts hlk hnm hE hK hA hP hD hS hl
  have hl : lv_has ls 2 [(0, .ref (a 0)), (1, .int (nI c))] := hl
  refine lv_aload_n hx hb dX5_moveIn_0 rfl (lv_at hl 0 rfl) ?_
  refine va_get (D := D) (ci := 5) (v := .ref (a 3)) (C := RX5) (T := TX5) (N := 13) hx hb hts wsI_X5 hown hK hP 0 rfl rfl 10 (by decide) (hts _ w_fl_X5_35) (fun _ h9 => h9) rfl dX5_moveIn_1 ?_
  refine va_get (D := D) (ci := 2) (v := .ref (a 4)) (C := RX2) (T := TX2) (N := 6) hx hb hts wsI_X2 hown hK hP 3 rfl rfl 0 (by decide) (hts _ w_fl_X5_122) (fun _ h9 => h9) rfl dX5_moveIn_4 ?_
  refine lv_iload_n hx hb dX5_moveIn_7 rfl (lv_at hl 1 rfl) ?_
  refine lv_aload_n hx hb dX5_moveIn_8 rfl (lv_at hl 0 rfl) ?_
  refine va_get (D := D) (ci := 5) (v := .ref (a 3)) (C := RX5) (T := TX5) (N := 13) hx hb hts wsI_X5 hown hK hP 0 rfl rfl 10 (by decide) (hts _ w_fl_X5_35) (fun _ h9 => h9) rfl dX5_moveIn_9 ?_
  refine va_get (D := D) (ci := 2) (v := .ref (a 4)) (C := RX2) (T := TX2) (N := 6) hx hb hts wsI_X2 hown hK hP 3 rfl rfl 0 (by decide) (hts _ w_fl_X5_122) (fun _ h9 => h9) rfl dX5_moveIn_12 ?_
  refine lv_iload_n hx hb dX5_moveIn_15 rfl (lv_at hl 1 rfl) ?_
  refine z_iald (k := c) hx hb hK hP 4 rfl (by omega) (by first | decide | omega) dX5_moveIn_16 ?_
  refine lv_aload_n hx hb dX5_moveIn_17 rfl (lv_at hl 0 rfl) ?_
  refine va_get (D := D) (ci := 5) (v := .ref (a 3)) (C := RX5) (T := TX5) (N := 13) hx hb hts wsI_X5 hown hK hP 0 rfl rfl 10 (by decide) (hts _ w_fl_X5_35) (fun _ h9 => h9) rfl dX5_moveIn_18 ?_
  refine va_get (D := D) (ci := 2) (v := .ref (a 6)) (C := RX2) (T := TX2) (N := 6) hx hb hts wsI_X2 hown hK hP 3 rfl rfl 2 (by decide) (hts _ w_fl_X5_135) (fun _ h9 => h9) rfl dX5_moveIn_21 ?_
  refine lv_iload_n hx hb dX5_moveIn_24 rfl (lv_at hl 1 rfl) ?_
  refine z_iald (k := c) hx hb hK hP 6 rfl (by omega) (by first | decide | omega) dX5_moveIn_25 ?_
  refine lv_isub hx hb dX5_moveIn_26 ?_
  refine lv_iconst (v := 0) hx hb dX5_moveIn_27 (by decide) ?_
  refine va_mmax hx hb (hml.trans hl.1.symm) hown (hts _ w_ml_X5_159) (hts _ w_st_Mmax) (hts _ w_in_J9) (hts _ w_co_Mmax) (Nat.le_of_ble_eq_true rfl) (Nat.le_of_ble_eq_true rfl) (Nat.le_of_ble_eq_true rfl) (Nat.le_of_ble_eq_true rfl) dX5_moveIn_28 ?_
  refine z_top (y := zmax (((F 1) c) - ((F 3) c)) 0) rfl ?_
  refine z_iast (k := c) hx hb hK hP hD hS 4 rfl (by omega) (by first | decide | omega) dX5_moveIn_31 (fun H locs hP hD hS => ?_)
  have hP : va_P D vwCl (macW cs a S (zU F 1 (upd (F 1) c (zmax (((F 1) c) - ((F 3) c)) 0)))) H := hP
  have hD : va_D A (macW cs a S (zU F 1 (upd (F 1) c (zmax (((F 1) c) - ((F 3) c)) 0)))) := hD
  exact z_vret hx hb hr hlk hK hP hD hS dX5_moveIn_32 rfl rfl

set_option maxHeartbeats 4000000 in
set_option maxRecDepth 100000 in
theorem c_X5_leakAt (l : Launch) (D : va_G) (cs : zCs) (a : Nat → Nat) (S : Nat → Int32) (F : Nat → Nat → Int32) (c : Nat) (hc : c < 5) : zM l D cs yX5_leakAt cX5_leakAt 2 none 2 35 0 0 [.ref (a 0), .int (nI c)] (macW cs a S F) none (macW cs a (lkS S F c) (lkF S F c)) := by
  refine zM.of (own := RX5) (by decide) (Nat.le_of_ble_eq_true rfl) rfl ?_
  intro pq eq s mq below meth cq A ls hx hb hr hml hown hts hlk hnm hE hK hA hP hD hS hl
  have hl : lv_has ls 2 [(0, .ref (a 0)), (1, .int (nI c))] := hl
  refine lv_aload_n hx hb dX5_leakAt_0 rfl (lv_at hl 0 rfl) ?_
  refine lv_iload_n hx hb dX5_leakAt_1 rfl (lv_at hl 1 rfl) ?_
  refine lv_aload_n hx hb dX5_leakAt_2 rfl (lv_at hl 0 rfl) ?_
  refine va_get (D := D) (ci := 5) (v := .int (S 1)) (C := RX5) (T := TX5) (N := 13) hx hb hts wsI_X5 hown hK hP 0 rfl rfl 1 (by decide) (hts _ w_fl_X5_53) (fun _ h9 => h9) rfl dX5_leakAt_3 ?_
  refine z_callV (wn := (macW cs a S F)) ⟨hx, hb, hml, hown, hts⟩ zY_X5_hasCam w_im_yX5_hasCam w_se_yX5_hasCam w_ml_X5_109 [.int (nI c), .int (S 1)] [] (c_X5_hasCam l D cs a S F c (S 1) (by omega)) hE hK hA hP hD hS [0, 1, 2, 3, 4, 5, 6, 7, 8, 9, 10, 11, 12, 13, 14, 15, 16] rfl rfl rfl rfl 5 rfl rfl rfl rfl hl.1 (Nat.le_of_ble_eq_true rfl) ⟨Nat.le_of_ble_eq_true rfl, Nat.le_of_ble_eq_true rfl⟩ ⟨Nat.le_of_ble_eq_true rfl, Nat.le_of_ble_eq_true rfl⟩ dX5_leakAt_6 (fun H locs hP hD hS => ?_)
  refine lv_if_eq (tgt := 52) hx hb dX5_leakAt_9 (by decide) (fun c_1 => ?_) (fun c_1 => ?_)
  · skip
    have c_1 := bI_0.mp c_1
    exact z_vret hx hb hr hlk hK hP hD hS dX5_leakAt_52 rfl (by unfold lkS lkF; rw [if_neg (fun h => c_1 h.1), if_neg (fun h => c_1 h.1)])
  · skip
    have c_1 := bI_n0 c_1
    refine lv_aload_n hx hb dX5_leakAt_12 rfl (lv_at hl 0 rfl) ?_
    refine va_get (D := D) (ci := 5) (v := .ref (a 3)) (C := RX5) (T := TX5) (N := 13) hx hb hts wsI_X5 hown hK hP 0 rfl rfl 10 (by decide) (hts _ w_fl_X5_35) (fun _ h9 => h9) rfl dX5_leakAt_13 ?_
    refine va_get (D := D) (ci := 2) (v := .ref (a 4)) (C := RX2) (T := TX2) (N := 6) hx hb hts wsI_X2 hown hK hP 3 rfl rfl 0 (by decide) (hts _ w_fl_X5_122) (fun _ h9 => h9) rfl dX5_leakAt_16 ?_
    refine lv_iload_n hx hb dX5_leakAt_19 rfl (lv_at hl 1 rfl) ?_
    refine z_iald (k := c) hx hb hK hP 4 rfl (by omega) (by first | decide | omega) dX5_leakAt_20 ?_
    refine lv_if_le (tgt := 52) hx hb dX5_leakAt_21 (by decide) (fun c_2 => ?_) (fun c_2 => ?_)
    · skip
      exact z_vret hx hb hr hlk hK hP hD hS dX5_leakAt_52 rfl (by unfold lkS lkF; rw [if_neg (fun h => h.2 c_2), if_neg (fun h => h.2 c_2)])
    · skip
      refine lv_aload_n hx hb dX5_leakAt_24 rfl (lv_at hl 0 rfl) ?_
      refine va_get (D := D) (ci := 5) (v := .ref (a 3)) (C := RX5) (T := TX5) (N := 13) hx hb hts wsI_X5 hown hK hP 0 rfl rfl 10 (by decide) (hts _ w_fl_X5_35) (fun _ h9 => h9) rfl dX5_leakAt_25 ?_
      refine va_get (D := D) (ci := 2) (v := .ref (a 9)) (C := RX2) (T := TX2) (N := 6) hx hb hts wsI_X2 hown hK hP 3 rfl rfl 5 (by decide) (hts _ w_fl_X5_162) (fun _ h9 => h9) rfl dX5_leakAt_28 ?_
      refine lv_iload_n hx hb dX5_leakAt_31 rfl (lv_at hl 1 rfl) ?_
      refine lv_dup2_11 hx hb dX5_leakAt_32 rfl rfl ?_
      refine z_iald (k := c) hx hb hK hP 9 rfl (by omega) (by first | decide | omega) dX5_leakAt_33 ?_
      refine lv_aload_n hx hb dX5_leakAt_34 rfl (lv_at hl 0 rfl) ?_
      refine va_get (D := D) (ci := 5) (v := .ref (a 2)) (C := RX5) (T := TX5) (N := 13) hx hb hts wsI_X5 hown hK hP 0 rfl rfl 9 (by decide) (hts _ w_fl_X5_28) (fun _ h9 => h9) rfl dX5_leakAt_35 ?_
      refine lv_aload_n hx hb dX5_leakAt_38 rfl (lv_at hl 0 rfl) ?_
      refine va_get (D := D) (ci := 5) (v := .ref (a 3)) (C := RX5) (T := TX5) (N := 13) hx hb hts wsI_X5 hown hK hP 0 rfl rfl 10 (by decide) (hts _ w_fl_X5_35) (fun _ h9 => h9) rfl dX5_leakAt_39 ?_
      refine va_get (D := D) (ci := 2) (v := .ref (a 7)) (C := RX2) (T := TX2) (N := 6) hx hb hts wsI_X2 hown hK hP 3 rfl rfl 3 (by decide) (hts _ w_fl_X5_165) (fun _ h9 => h9) rfl dX5_leakAt_42 ?_
      refine lv_iload_n hx hb dX5_leakAt_45 rfl (lv_at hl 1 rfl) ?_
      refine z_iald (k := c) hx hb hK hP 7 rfl (by omega) (by first | decide | omega) dX5_leakAt_46 ?_
      refine z_callV (wn := (macW cs a (airLeak S ((F 4) c)) F)) ⟨hx, hb, hml, hown, hts⟩ zY_X0_leakOut w_im_yX0_leakOut w_se_yX0_leakOut w_ml_X5_168 [.int ((F 4) c)] [.int ((F 6) c), .int (nI c), .ref (a 9)] (c_X0_leakOut l D cs a S ((F 4) c)) hE hK hA hP hD hS [2] rfl rfl rfl rfl 0 rfl rfl rfl rfl hl.1 (Nat.le_of_ble_eq_true rfl) ⟨Nat.le_of_ble_eq_true rfl, Nat.le_of_ble_eq_true rfl⟩ ⟨Nat.le_of_ble_eq_true rfl, Nat.le_of_ble_eq_true rfl⟩ dX5_leakAt_47 (fun H locs hP hD hS => ?_)
      refine lv_iadd hx hb dX5_leakAt_50 ?_
      refine z_iast (k := c) hx hb hK hP hD hS 9 rfl (by omega) (by first | decide | omega) dX5_leakAt_51 (fun H locs hP hD hS => ?_)
      have hP : va_P D vwCl (macW cs a (airLeak S ((F 4) c)) (zU F 6 (upd (F 6) c (((F 6) c) + (zmin ((F 4) c) (S 5)))))) H := hP
      have hD : va_D A (macW cs a (airLeak S ((F 4) c)) (zU F 6 (upd (F 6) c (((F 6) c) + (zmin ((F 4) c) (S 5)))))) := hD
      exact z_vret hx hb hr hlk hK hP hD hS dX5_leakAt_52 rfl (by unfold lkS lkF; rw [if_pos ⟨c_1, c_2⟩, if_pos ⟨c_1, c_2⟩]; first | done | rfl)

set_option maxHeartbeats 4000000 in
set_option maxRecDepth 100000 in
theorem c_X5_moveDrum (l : Launch) (D : va_G) (cs : zCs) (a : Nat → Nat) (S : Nat → Int32) (F : Nat → Nat → Int32)  : zM l D cs yX5_moveDrum cX5_moveDrum 1 (some FieldType.int) 2 43 0 0 [.ref (a 0)] (macW cs a S F) (some (.int (mdR S))) (macW cs a (mdS S) (mdF S F)) := by
  refine zM.of (own := RX5) (by decide) (Nat.le_of_ble_eq_true rfl) rfl ?_
  intro pq eq s mq below meth cq A ls hx hb hr hml hown hts hlk hnm hE hK hA hP hD hS hl
  have hl : lv_has ls 1 [(0, .ref (a 0))] := hl
  refine lv_aload_n hx hb dX5_moveDrum_0 rfl (lv_at hl 0 rfl) ?_
  refine lv_dup hx hb dX5_moveDrum_1 rfl ?_
  refine va_get (D := D) (ci := 5) (v := .int (S 2)) (C := RX5) (T := TX5) (N := 13) hx hb hts wsI_X5 hown hK hP 0 rfl rfl 2 (by decide) (hts _ w_fl_X5_56) (fun _ h9 => h9) rfl dX5_moveDrum_2 ?_
  refine lv_iconst (v := 1) hx hb dX5_moveDrum_5 (by decide) ?_
  refine lv_iadd hx hb dX5_moveDrum_6 ?_
  refine va_put (D := D) (ci := 5) (v := .int ((S 2) + 1)) (C := RX5) (T := TX5) (N := 13) hx hb hts wsI_X5 tyX5 tyX5_ok nmX5 hown hK hP hD hS 0 rfl rfl 2 (by decide) (hts _ w_fl_X5_56) (fun _ h9 => h9) rfl (tyX5_ok 2 (by decide)) rfl rfl (Nat.le_of_ble_eq_true rfl) dX5_moveDrum_7 (fun H locs hP hD hS => ?_)
  have hP : va_P D vwCl (macW cs a (upd S 2 ((S 2) + 1)) F) H := hP
  have hD : va_D A (macW cs a (upd S 2 ((S 2) + 1)) F) := hD
  refine lv_aload_n hx hb dX5_moveDrum_10 rfl (lv_at hl 0 rfl) ?_
  refine va_get (D := D) (ci := 5) (v := .int ((S 2) + 1)) (C := RX5) (T := TX5) (N := 13) hx hb hts wsI_X5 hown hK hP 0 rfl rfl 2 (by decide) (hts _ w_fl_X5_56) (fun _ h9 => h9) rfl dX5_moveDrum_11 ?_
  refine lv_aload_n hx hb dX5_moveDrum_14 rfl (lv_at hl 0 rfl) ?_
  refine va_get (D := D) (ci := 5) (v := .int (S 3)) (C := RX5) (T := TX5) (N := 13) hx hb hts wsI_X5 hown hK hP 0 rfl rfl 3 (by decide) (hts _ w_fl_X5_15) (fun _ h9 => h9) rfl dX5_moveDrum_15 ?_
  refine lv_icmp_ge (tgt := 23) hx hb dX5_moveDrum_18 (by decide) (fun c_1 => ?_) (fun c_1 => ?_)
  · skip
    refine lv_aload_n hx hb dX5_moveDrum_23 rfl (lv_at hl 0 rfl) ?_
    refine va_get (D := D) (ci := 5) (v := .ref (a 2)) (C := RX5) (T := TX5) (N := 13) hx hb hts wsI_X5 hown hK hP 0 rfl rfl 9 (by decide) (hts _ w_fl_X5_28) (fun _ h9 => h9) rfl dX5_moveDrum_24 ?_
    refine va_get (D := D) (ci := 0) (v := .int (S 5)) (C := RX0) (T := TX0) (N := 7) hx hb hts wsI_X0 hown hK hP 2 rfl rfl 0 (by decide) (hts _ w_fl_X5_129) (fun _ h9 => h9) rfl dX5_moveDrum_27 ?_
    refine lv_aload_n hx hb dX5_moveDrum_30 rfl (lv_at hl 0 rfl) ?_
    refine va_get (D := D) (ci := 5) (v := .int (S 4)) (C := RX5) (T := TX5) (N := 13) hx hb hts wsI_X5 hown hK hP 0 rfl rfl 4 (by decide) (hts _ w_fl_X5_18) (fun _ h9 => h9) rfl dX5_moveDrum_31 ?_
    refine lv_icmp_ge (tgt := 65) hx hb dX5_moveDrum_34 (by decide) (fun c_2 => ?_) (fun c_2 => ?_)
    · skip
      refine lv_aload_n hx hb dX5_moveDrum_65 rfl (lv_at hl 0 rfl) ?_
      refine lv_aload_n hx hb dX5_moveDrum_66 rfl (lv_at hl 0 rfl) ?_
      refine va_get (D := D) (ci := 5) (v := .int (S 1)) (C := RX5) (T := TX5) (N := 13) hx hb hts wsI_X5 hown hK hP 0 rfl rfl 1 (by decide) (hts _ w_fl_X5_53) (fun _ h9 => h9) rfl dX5_moveDrum_67 ?_
      refine lv_iconst (v := 1) hx hb dX5_moveDrum_70 (by decide) ?_
      refine lv_iadd hx hb dX5_moveDrum_71 ?_
      refine lv_aload_n hx hb dX5_moveDrum_72 rfl (lv_at hl 0 rfl) ?_
      refine va_get (D := D) (ci := 5) (v := .int (S 0)) (C := RX5) (T := TX5) (N := 13) hx hb hts wsI_X5 hown hK hP 0 rfl rfl 0 (by decide) (hts _ w_fl_X5_9) (fun _ h9 => h9) rfl dX5_moveDrum_73 ?_
      refine lv_icmp_ge (tgt := 88) hx hb dX5_moveDrum_76 (by decide) (fun c_3 => ?_) (fun c_3 => ?_)
      · skip
        refine lv_iconst (v := 0) hx hb dX5_moveDrum_88 (by decide) ?_
        refine z_top (y := nxt S) (by unfold nxt; rw [if_pos c_3]) ?_
        refine z_callV (wn := (macW cs a (upd (upd S 1 (nxt S)) 2 0) F)) ⟨hx, hb, hml, hown, hts⟩ zY_X5_standAt w_im_yX5_standAt w_se_yX5_standAt w_ml_X5_95 [.int (nxt S)] [] (c_X5_standAt l D cs a (upd S 2 ((S 2) + 1)) F (nxt S)) hE hK hA hP hD hS [0, 1, 2, 3, 4, 5, 6, 7, 8, 9, 10, 11, 12, 13, 14, 15, 16] rfl rfl rfl rfl 5 rfl rfl rfl rfl hl.1 (Nat.le_of_ble_eq_true rfl) ⟨Nat.le_of_ble_eq_true rfl, Nat.le_of_ble_eq_true rfl⟩ ⟨Nat.le_of_ble_eq_true rfl, Nat.le_of_ble_eq_true rfl⟩ dX5_moveDrum_89 (fun H locs hP hD hS => ?_)
        refine lv_aload_n hx hb dX5_moveDrum_92 rfl (lv_at hl 0 rfl) ?_
        refine va_get (D := D) (ci := 5) (v := .int (nxt S)) (C := RX5) (T := TX5) (N := 13) hx hb hts wsI_X5 hown hK hP 0 rfl rfl 1 (by decide) (hts _ w_fl_X5_53) (fun _ h9 => h9) rfl dX5_moveDrum_93 ?_
        refine lv_if_le (tgt := 101) hx hb dX5_moveDrum_96 (by decide) (fun c_4 => ?_) (fun c_4 => ?_)
        · skip
          refine lv_aload_n hx hb dX5_moveDrum_101 rfl (lv_at hl 0 rfl) ?_
          refine lv_dup hx hb dX5_moveDrum_102 rfl ?_
          refine va_get (D := D) (ci := 5) (v := .int (S 10)) (C := RX5) (T := TX5) (N := 13) hx hb hts wsI_X5 hown hK hP 0 rfl rfl 6 (by decide) (hts _ w_fl_X5_62) (fun _ h9 => h9) rfl dX5_moveDrum_103 ?_
          refine lv_iconst (v := 1) hx hb dX5_moveDrum_106 (by decide) ?_
          refine lv_iadd hx hb dX5_moveDrum_107 ?_
          refine va_put (D := D) (ci := 5) (v := .int ((S 10) + 1)) (C := RX5) (T := TX5) (N := 13) hx hb hts wsI_X5 tyX5 tyX5_ok nmX5 hown hK hP hD hS 0 rfl rfl 6 (by decide) (hts _ w_fl_X5_62) (fun _ h9 => h9) rfl (tyX5_ok 6 (by decide)) rfl rfl (Nat.le_of_ble_eq_true rfl) dX5_moveDrum_108 (fun H locs hP hD hS => ?_)
          have hP : va_P D vwCl (macW cs a (upd (upd (upd S 1 (nxt S)) 2 0) 10 ((S 10) + 1)) F) H := hP
          have hD : va_D A (macW cs a (upd (upd (upd S 1 (nxt S)) 2 0) 10 ((S 10) + 1)) F) := hD
          refine lv_iconst (v := 3) hx hb dX5_moveDrum_111 (by decide) ?_
          exact z_iret hx hb hr hlk hK hP hD hS dX5_moveDrum_112 (by first | rfl | simp only [mdR, if_pos c_1, if_pos c_2, if_pos c_4]) (by unfold mdS mdF; simp only [if_pos c_1, if_pos c_2, if_pos c_4]; first | done | rfl)
        · skip
          refine lv_iconst (v := 2) hx hb dX5_moveDrum_99 (by decide) ?_
          exact z_iret hx hb hr hlk hK hP hD hS dX5_moveDrum_100 (by first | rfl | simp only [mdR, if_pos c_1, if_pos c_2, if_neg c_4]) (by unfold mdS mdF; simp only [if_pos c_1, if_pos c_2, if_neg c_4]; first | done | rfl)
      · skip
        refine lv_aload_n hx hb dX5_moveDrum_79 rfl (lv_at hl 0 rfl) ?_
        refine va_get (D := D) (ci := 5) (v := .int (S 1)) (C := RX5) (T := TX5) (N := 13) hx hb hts wsI_X5 hown hK hP 0 rfl rfl 1 (by decide) (hts _ w_fl_X5_53) (fun _ h9 => h9) rfl dX5_moveDrum_80 ?_
        refine lv_iconst (v := 1) hx hb dX5_moveDrum_83 (by decide) ?_
        refine lv_iadd hx hb dX5_moveDrum_84 ?_
        refine lv_goto (tgt := 89) hx hb dX5_moveDrum_85 (by decide) ?_
        refine z_top (y := nxt S) (by unfold nxt; rw [if_neg c_3]) ?_
        refine z_callV (wn := (macW cs a (upd (upd S 1 (nxt S)) 2 0) F)) ⟨hx, hb, hml, hown, hts⟩ zY_X5_standAt w_im_yX5_standAt w_se_yX5_standAt w_ml_X5_95 [.int (nxt S)] [] (c_X5_standAt l D cs a (upd S 2 ((S 2) + 1)) F (nxt S)) hE hK hA hP hD hS [0, 1, 2, 3, 4, 5, 6, 7, 8, 9, 10, 11, 12, 13, 14, 15, 16] rfl rfl rfl rfl 5 rfl rfl rfl rfl hl.1 (Nat.le_of_ble_eq_true rfl) ⟨Nat.le_of_ble_eq_true rfl, Nat.le_of_ble_eq_true rfl⟩ ⟨Nat.le_of_ble_eq_true rfl, Nat.le_of_ble_eq_true rfl⟩ dX5_moveDrum_89 (fun H locs hP hD hS => ?_)
        refine lv_aload_n hx hb dX5_moveDrum_92 rfl (lv_at hl 0 rfl) ?_
        refine va_get (D := D) (ci := 5) (v := .int (nxt S)) (C := RX5) (T := TX5) (N := 13) hx hb hts wsI_X5 hown hK hP 0 rfl rfl 1 (by decide) (hts _ w_fl_X5_53) (fun _ h9 => h9) rfl dX5_moveDrum_93 ?_
        refine lv_if_le (tgt := 101) hx hb dX5_moveDrum_96 (by decide) (fun c_5 => ?_) (fun c_5 => ?_)
        · skip
          refine lv_aload_n hx hb dX5_moveDrum_101 rfl (lv_at hl 0 rfl) ?_
          refine lv_dup hx hb dX5_moveDrum_102 rfl ?_
          refine va_get (D := D) (ci := 5) (v := .int (S 10)) (C := RX5) (T := TX5) (N := 13) hx hb hts wsI_X5 hown hK hP 0 rfl rfl 6 (by decide) (hts _ w_fl_X5_62) (fun _ h9 => h9) rfl dX5_moveDrum_103 ?_
          refine lv_iconst (v := 1) hx hb dX5_moveDrum_106 (by decide) ?_
          refine lv_iadd hx hb dX5_moveDrum_107 ?_
          refine va_put (D := D) (ci := 5) (v := .int ((S 10) + 1)) (C := RX5) (T := TX5) (N := 13) hx hb hts wsI_X5 tyX5 tyX5_ok nmX5 hown hK hP hD hS 0 rfl rfl 6 (by decide) (hts _ w_fl_X5_62) (fun _ h9 => h9) rfl (tyX5_ok 6 (by decide)) rfl rfl (Nat.le_of_ble_eq_true rfl) dX5_moveDrum_108 (fun H locs hP hD hS => ?_)
          have hP : va_P D vwCl (macW cs a (upd (upd (upd S 1 (nxt S)) 2 0) 10 ((S 10) + 1)) F) H := hP
          have hD : va_D A (macW cs a (upd (upd (upd S 1 (nxt S)) 2 0) 10 ((S 10) + 1)) F) := hD
          refine lv_iconst (v := 3) hx hb dX5_moveDrum_111 (by decide) ?_
          exact z_iret hx hb hr hlk hK hP hD hS dX5_moveDrum_112 (by first | rfl | simp only [mdR, if_pos c_1, if_pos c_2, if_pos c_5]) (by unfold mdS mdF; simp only [if_pos c_1, if_pos c_2, if_pos c_5]; first | done | rfl)
        · skip
          refine lv_iconst (v := 2) hx hb dX5_moveDrum_99 (by decide) ?_
          exact z_iret hx hb hr hlk hK hP hD hS dX5_moveDrum_100 (by first | rfl | simp only [mdR, if_pos c_1, if_pos c_2, if_neg c_5]) (by unfold mdS mdF; simp only [if_pos c_1, if_pos c_2, if_neg c_5]; first | done | rfl)
    · skip
      refine lv_aload_n hx hb dX5_moveDrum_37 rfl (lv_at hl 0 rfl) ?_
      refine lv_iconst (v := 0) hx hb dX5_moveDrum_38 (by decide) ?_
      refine va_put (D := D) (ci := 5) (v := .int 0) (C := RX5) (T := TX5) (N := 13) hx hb hts wsI_X5 tyX5 tyX5_ok nmX5 hown hK hP hD hS 0 rfl rfl 2 (by decide) (hts _ w_fl_X5_56) (fun _ h9 => h9) rfl (tyX5_ok 2 (by decide)) rfl rfl (Nat.le_of_ble_eq_true rfl) dX5_moveDrum_39 (fun H locs hP hD hS => ?_)
      have hP : va_P D vwCl (macW cs a (upd S 2 0) F) H := hP
      have hD : va_D A (macW cs a (upd S 2 0) F) := hD
      refine lv_aload_n hx hb dX5_moveDrum_42 rfl (lv_at hl 0 rfl) ?_
      refine lv_dup hx hb dX5_moveDrum_43 rfl ?_
      refine va_get (D := D) (ci := 5) (v := .int (S 11)) (C := RX5) (T := TX5) (N := 13) hx hb hts wsI_X5 hown hK hP 0 rfl rfl 7 (by decide) (hts _ w_fl_X5_65) (fun _ h9 => h9) rfl dX5_moveDrum_44 ?_
      refine lv_iconst (v := 1) hx hb dX5_moveDrum_47 (by decide) ?_
      refine lv_iadd hx hb dX5_moveDrum_48 ?_
      refine va_put (D := D) (ci := 5) (v := .int ((S 11) + 1)) (C := RX5) (T := TX5) (N := 13) hx hb hts wsI_X5 tyX5 tyX5_ok nmX5 hown hK hP hD hS 0 rfl rfl 7 (by decide) (hts _ w_fl_X5_65) (fun _ h9 => h9) rfl (tyX5_ok 7 (by decide)) rfl rfl (Nat.le_of_ble_eq_true rfl) dX5_moveDrum_49 (fun H locs hP hD hS => ?_)
      have hP : va_P D vwCl (macW cs a (upd (upd S 2 0) 11 ((S 11) + 1)) F) H := hP
      have hD : va_D A (macW cs a (upd (upd S 2 0) 11 ((S 11) + 1)) F) := hD
      refine lv_aload_n hx hb dX5_moveDrum_52 rfl (lv_at hl 0 rfl) ?_
      refine va_get (D := D) (ci := 5) (v := .ref (a 14)) (C := RX5) (T := TX5) (N := 13) hx hb hts wsI_X5 hown hK hP 0 rfl rfl 12 (by decide) (hts _ w_fl_X5_49) (fun _ h9 => h9) rfl dX5_moveDrum_53 ?_
      refine lv_aload_n hx hb dX5_moveDrum_56 rfl (lv_at hl 0 rfl) ?_
      refine va_get (D := D) (ci := 5) (v := .int (S 1)) (C := RX5) (T := TX5) (N := 13) hx hb hts wsI_X5 hown hK hP 0 rfl rfl 1 (by decide) (hts _ w_fl_X5_53) (fun _ h9 => h9) rfl dX5_moveDrum_57 ?_
      refine z_callV (wn := (macW cs a (upd (upd S 2 0) 11 ((S 11) + 1)) (zU F 11 (chtCntR (F 11) (S 1))))) ⟨hx, hb, hml, hown, hts⟩ zY_X1_countSkip w_im_yX1_countSkip w_se_yX1_countSkip w_ml_X5_132 [.int (S 1)] [] (c_X1_countSkip l D cs a F (S 1)) hE hK hA hP hD hS [14, 15, 16] rfl rfl rfl rfl 1 rfl rfl rfl rfl hl.1 (Nat.le_of_ble_eq_true rfl) ⟨Nat.le_of_ble_eq_true rfl, Nat.le_of_ble_eq_true rfl⟩ ⟨Nat.le_of_ble_eq_true rfl, Nat.le_of_ble_eq_true rfl⟩ dX5_moveDrum_60 (fun H locs hP hD hS => ?_)
      refine lv_iconst (v := 1) hx hb dX5_moveDrum_63 (by decide) ?_
      exact z_iret hx hb hr hlk hK hP hD hS dX5_moveDrum_64 (by first | rfl | simp only [mdR, if_pos c_1, if_neg c_2]) (by unfold mdS mdF; simp only [if_pos c_1, if_neg c_2]; first | done | rfl)
  · skip
    refine lv_iconst (v := 0) hx hb dX5_moveDrum_21 (by decide) ?_
    exact z_iret hx hb hr hlk hK hP hD hS dX5_moveDrum_22 (by first | rfl | simp only [mdR, if_neg c_1]) (by unfold mdS mdF; simp only [if_neg c_1]; first | done | rfl)
