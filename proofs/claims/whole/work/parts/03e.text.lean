/-- the byte of the text at a place, -1 behind its end -/
def tb (f : Nat → Int32) (L i : Nat) : Int32 := if i < L then f i else -1
abbrev tdg (f : Nat → Int32) (L i : Nat) : Prop := 48 ≤ tb f L i ∧ tb f L i ≤ 57
def psF (f : Nat → Int32) (L p : Nat) (sg fl : Int32) : Int32 := if tb f L p = sg then fl else nI p
def psA (f : Nat → Int32) (L p : Nat) (sg : Int32) : Nat := if tb f L p = sg then p + 1 else p
theorem psA_le (f : Nat → Int32) (L p : Nat) (sg : Int32) : psA f L p sg ≤ p + 1 := by unfold psA; split <;> omega
def rsB (f : Nat → Int32) (L q : Nat) : Nat := if tdg f L (q + 1) then q + 2 else q + 1
def rsT (f : Nat → Int32) (L q : Nat) : Int32 := if tdg f L (q + 1) then 10 * (0 + tb f L q - 48) + tb f L (q + 1) - 48 else 0 + tb f L q - 48
abbrev rsK (f : Nat → Int32) (L q : Nat) : Prop := tdg f L q ∧ ¬ tdg f L (rsB f L q) ∧ 2 ≤ rsT f L q ∧ rsT f L q ≤ 16
def rsF (f : Nat → Int32) (L q : Nat) (fl : Int32) : Int32 := if tdg f L q then (if tdg f L (rsB f L q) then nI (rsB f L q) else if 2 ≤ rsT f L q ∧ rsT f L q ≤ 16 then psF f L (rsB f L q) 59 fl else nI q) else nI q
def rsS (f : Nat → Int32) (L q : Nat) (st : Int32) : Int32 := if rsK f L q then rsT f L q else st
def rsA (f : Nat → Int32) (L q : Nat) (p : Nat) : Nat := if rsK f L q then psA f L (rsB f L q) 59 else p
abbrev zZ : Type := Int32 × Nat × Int32
def rtS (f : Nat → Int32) (L j : Nat) (z : zZ) : zZ := if tb f L z.2.1 = 120 then (z.1, z.2.1 + 1, z.2.2 ||| (1 <<< (nI j &&& 31))) else (psF f L z.2.1 46 z.1, psA f L z.2.1 46, z.2.2)
def rtL (f : Nat → Int32) (L : Nat) : Nat → Nat → zZ → zZ
  | 0, _, z => z
  | k + 1, j, z => if z.1 = -1 then rtL f L k (j + 1) (rtS f L j z) else z
theorem rtS_le (f : Nat → Int32) (L j : Nat) (z : zZ) : (rtS f L j z).2.1 ≤ z.2.1 + 1 := by
  unfold rtS
  split
  · exact Nat.le_refl _
  · exact psA_le f L z.2.1 46
theorem rtL_le (f : Nat → Int32) (L : Nat) : ∀ (k j : Nat) (z : zZ), (rtL f L k j z).2.1 ≤ z.2.1 + k
  | 0, _, _ => Nat.le_refl _
  | k + 1, j, z => by
    unfold rtL
    split
    · exact Nat.le_trans (rtL_le f L k (j + 1) _) (by have := rtS_le f L j z; omega)
    · omega
/-- one track read at p: the loop's end -/
def rtZ (f : Nat → Int32) (L n p : Nat) (fl : Int32) : zZ := rtL f L n 0 (psF f L (p + 1) 58 fl, psA f L (p + 1) 58, 0)
abbrev rtK (f : Nat → Int32) (L p : Nat) : Prop := 0 ≤ tb f L p - 48 ∧ tb f L p - 48 ≤ 4
def rtF (f : Nat → Int32) (L n p : Nat) (fl : Int32) : Int32 := if rtK f L p then (if (rtZ f L n p fl).1 = -1 then psF f L (rtZ f L n p fl).2.1 59 (rtZ f L n p fl).1 else (rtZ f L n p fl).1) else nI p
def rtA (f : Nat → Int32) (L n p : Nat) (fl : Int32) : Nat := if rtK f L p then (if (rtZ f L n p fl).1 = -1 then psA f L (rtZ f L n p fl).2.1 59 else (rtZ f L n p fl).2.1) else p
def rtT (f : Nat → Int32) (L n p : Nat) (fl : Int32) (t : Nat → Int32) : Nat → Int32 := if rtK f L p then upd t (tb f L p - 48).toNatClampNeg (rtZ f L n p fl).2.2 else t
theorem rtA_le (f : Nat → Int32) (L n p : Nat) (fl : Int32) : rtA f L n p fl ≤ p + n + 3 := by
  have h1 := rtL_le f L n 0 (psF f L (p + 1) 58 fl, psA f L (p + 1) 58, 0)
  have h2 := psA_le f L (p + 1) 58
  have h3 := psA_le f L (rtZ f L n p fl).2.1 59
  dsimp only at h1
  have h4 : (rtZ f L n p fl).2.1 ≤ p + n + 2 := by unfold rtZ; omega
  unfold rtA
  split
  · split <;> omega
  · omega
theorem z_in5b {x : Int32} (h : 0 ≤ x ∧ x ≤ 4) : vp_in x 5 := vp_in_iff.mpr ⟨Int32.le_iff_toInt_le.mp h.1, by have := Int32.le_iff_toInt_le.mp h.2; have : (4 : Int32).toInt = 4 := (by decide); omega⟩
theorem z_in100 {x : Int32} (h : 0 ≤ x ∧ x ≤ 99) : vp_in x 100 := vp_in_iff.mpr ⟨Int32.le_iff_toInt_le.mp h.1, by have := Int32.le_iff_toInt_le.mp h.2; have : (99 : Int32).toInt = 99 := (by decide); omega⟩
/-- the whole reading: the fault, the place, the tracks -/
abbrev zR : Type := Int32 × Nat × (Nat → Int32)
def rdS (f : Nat → Int32) (L n : Nat) (z : zR) : zR := (rtF f L n z.2.1 z.1, rtA f L n z.2.1 z.1, rtT f L n z.2.1 z.1 z.2.2)
def rdL (f : Nat → Int32) (L n : Nat) : Nat → zR → zR
  | 0, z => z
  | k + 1, z => if z.1 = -1 ∧ z.2.1 < L then rdL f L n k (rdS f L n z) else z
abbrev rdN (f : Nat → Int32) (L : Nat) : Prop := tb f L 0 = 110
def rdn (f : Nat → Int32) (L n0 : Nat) : Nat := if rdN f L then (rsS f L 1 (nI n0)).toNatClampNeg else n0
def rd0 (f : Nat → Int32) (L : Nat) : zR := if rdN f L then (rsF f L 1 (-1), rsA f L 1 0, fun _ => 0) else (-1, 0, fun _ => 0)
def rdZ (f : Nat → Int32) (L n0 : Nat) : zR := rdL f L (rdn f L n0) 100 (rd0 f L)
theorem rsS_n {f : Nat → Int32} {L q n0 : Nat} (h : n0 ≤ 16) : rsS f L q (nI n0) = nI (rsS f L q (nI n0)).toNatClampNeg ∧ (rsS f L q (nI n0)).toNatClampNeg ≤ 16 := by
  unfold rsS
  split
  · rename_i hk
    obtain ⟨-, -, h1, h2⟩ := hk
    obtain ⟨j, hj, e⟩ := nI_of2 (x := rsT f L q) (M := 16) (n := 16) (by decide) (fun h => absurd h1 (Int32.not_le.mpr (Int32.lt_of_lt_of_le h (by decide)))) h2
    rw [e, nI_clamp (by omega)]
    exact ⟨rfl, hj⟩
  · rw [nI_clamp (by omega)]
    exact ⟨rfl, h⟩
theorem rdn_n {f : Nat → Int32} {L n0 : Nat} (h : n0 ≤ 16) : rdn f L n0 ≤ 16 ∧ (if rdN f L then rsS f L 1 (nI n0) else nI n0) = nI (rdn f L n0) := by
  unfold rdn
  split
  · exact ⟨(rsS_n h).2, (rsS_n h).1⟩
  · exact ⟨h, rfl⟩
theorem rsB_le (f : Nat → Int32) (L q : Nat) : rsB f L q ≤ q + 2 := by unfold rsB; split <;> omega
theorem rsA_le (f : Nat → Int32) (L q p : Nat) (h : p ≤ q) : rsA f L q p ≤ q + 3 := by
  have h1 := rsB_le f L q
  have h2 := psA_le f L (rsB f L q) 59
  unfold rsA
  split <;> omega
theorem rtL_out {f : Nat → Int32} {L k j : Nat} {z : zZ} (h : ¬ z.1 = -1) : rtL f L k j z = z := by
  cases k with
  | zero => rfl
  | succ k => exact if_neg h
theorem rdL_out {f : Nat → Int32} {L n k : Nat} {z : zR} (h : ¬ (z.1 = -1 ∧ z.2.1 < L)) : rdL f L n k z = z := by
  cases k with
  | zero => rfl
  | succ k => exact if_neg h
set_option maxHeartbeats 4000000 in
set_option maxRecDepth 100000 in
theorem c_X6_byteAt (l : Launch) (D : va_G) (cs : zCs) (a : Nat → Nat) (S : Nat → Int32) (F : Nat → Nat → Int32) (L i : Nat) (hS0 : S 0 = nI L) (hL : L ≤ 100) (hi : i < 1073741824) : zM l D cs yX6_byteAt cX6_byteAt 2 (some FieldType.int) 0 0 0 0 [.ref (a 0), .int (nI i)] (txtW cs a S F) (some (.int (tb (F 0) L i))) (txtW cs a S F) := by
  refine zM.of (own := RX6) (by decide) (Nat.le_of_ble_eq_true rfl) rfl ?_
  intro pq eq s mq below meth cq A ls hx hb hr hml hown hts hlk hnm hE hK hA hP hD hS hl
  have hl : lv_has ls 2 [(0, .ref (a 0)), (1, .int (nI i))] := hl
  refine lv_iload_n hx hb dX6_byteAt_0 rfl (lv_at hl 1 rfl) ?_
  refine lv_if_lt (tgt := 27) hx hb dX6_byteAt_1 (by decide) (fun c_1 => ?_) (fun c_1 => ?_)
  · skip
    exact absurd c_1 (nI_pos (by omega))
  · skip
    refine lv_iload_n hx hb dX6_byteAt_4 rfl (lv_at hl 1 rfl) ?_
    refine lv_aload_n hx hb dX6_byteAt_5 rfl (lv_at hl 0 rfl) ?_
    refine va_get (D := D) (ci := 6) (v := .int (S 0)) (C := RX6) (T := TX6) (N := 6) hx hb hts wsI_X6 hown hK hP 0 rfl rfl 1 (by decide) (hts _ w_fl_X6_41) (fun _ h9 => h9) rfl dX6_byteAt_6 ?_
    refine z_top (y := nI L) hS0 ?_
    refine lv_icmp_ge (tgt := 27) hx hb dX6_byteAt_9 (by decide) (fun c_2 => ?_) (fun c_2 => ?_)
    · skip
      have h4 : ¬ i < L := fun h => absurd ((nI_leI (by omega) (by omega)).mp c_2) (by omega)
      refine lv_iconst (v := (-1)) hx hb dX6_byteAt_27 (by decide) ?_
      exact z_iret hx hb hr hlk hK hP hD hS dX6_byteAt_28 (by unfold tb; rw [if_neg h4]) rfl
    · skip
      have h4 : i < L := Nat.lt_of_not_le (fun h => c_2 ((nI_leI (by omega) (by omega)).mpr h))
      refine lv_iload_n hx hb dX6_byteAt_12 rfl (lv_at hl 1 rfl) ?_
      refine lv_bipush (v := 100) hx hb dX6_byteAt_13 (by decide) ?_
      refine lv_icmp_ge (tgt := 27) hx hb dX6_byteAt_15 (by decide) (fun c_3 => ?_) (fun c_3 => ?_)
      · skip
        exact absurd ((nI_leI (a := 100) (by omega) (by omega)).mp c_3) (by omega)
      · skip
        refine lv_aload_n hx hb dX6_byteAt_18 rfl (lv_at hl 0 rfl) ?_
        refine va_get (D := D) (ci := 6) (v := .ref (a 1)) (C := RX6) (T := TX6) (N := 6) hx hb hts wsI_X6 hown hK hP 0 rfl rfl 0 (by decide) (hts _ w_fl_X6_9) (fun _ h9 => h9) rfl dX6_byteAt_19 ?_
        refine lv_iload_n hx hb dX6_byteAt_22 rfl (lv_at hl 1 rfl) ?_
        refine z_iald (k := i) hx hb hK hP 1 rfl (by omega) (by first | decide | omega) dX6_byteAt_23 ?_
        refine lv_goto (tgt := 28) hx hb dX6_byteAt_24 (by decide) ?_
        exact z_iret hx hb hr hlk hK hP hD hS dX6_byteAt_28 (by unfold tb; rw [if_pos h4]) rfl

set_option maxHeartbeats 4000000 in
set_option maxRecDepth 100000 in
theorem c_X6_isDigitAt (l : Launch) (D : va_G) (cs : zCs) (a : Nat → Nat) (S : Nat → Int32) (F : Nat → Nat → Int32) (L i : Nat) (hS0 : S 0 = nI L) (hL : L ≤ 100) (hi : i < 1073741824) : zM l D cs yX6_isDigitAt cX6_isDigitAt 2 (some FieldType.boolean) 1 22 0 0 [.ref (a 0), .int (nI i)] (txtW cs a S F) (some (.int (bI (tdg (F 0) L i)))) (txtW cs a S F) := by
  refine zM.of (own := RX6) (by decide) (Nat.le_of_ble_eq_true rfl) rfl ?_
  intro pq eq s mq below meth cq A ls hx hb hr hml hown hts hlk hnm hE hK hA hP hD hS hl
  have hl : lv_has ls 2 [(0, .ref (a 0)), (1, .int (nI i))] := hl
  refine lv_aload_n hx hb dX6_isDigitAt_0 rfl (lv_at hl 0 rfl) ?_
  refine lv_iload_n hx hb dX6_isDigitAt_1 rfl (lv_at hl 1 rfl) ?_
  refine z_callV (wn := (txtW cs a S F)) ⟨hx, hb, hml, hown, hts⟩ zY_X6_byteAt w_im_yX6_byteAt w_se_yX6_byteAt w_ml_X6_34 [.int (nI i)] [] (c_X6_byteAt l D cs a S F L i hS0 hL hi) hE hK hA hP hD hS [0, 1, 2] rfl rfl rfl rfl 6 rfl rfl rfl rfl hl.1 (Nat.le_of_ble_eq_true rfl) ⟨Nat.le_of_ble_eq_true rfl, Nat.le_of_ble_eq_true rfl⟩ ⟨Nat.le_of_ble_eq_true rfl, Nat.le_of_ble_eq_true rfl⟩ dX6_isDigitAt_2 (fun H locs hP hD hS => ?_)
  refine lv_bipush (v := 48) hx hb dX6_isDigitAt_5 (by decide) ?_
  refine lv_bipush (v := 57) hx hb dX6_isDigitAt_7 (by decide) ?_
  refine z_callSN (wn := (txtW cs a S F)) ⟨hx, hb, hml, hown, hts⟩ zY_X7_within w_st_yX7_within (List.mem_of_getElem? (i := 10) rfl) [.int (tb (F 0) L i), .int 48, .int 57] [] (c_X7_within l D cs (tb (F 0) L i) 48 57) hE hK hA hP hD hS [] rfl rfl rfl z_ins_nil rfl hl.1 (Nat.le_of_ble_eq_true rfl) ⟨Nat.le_of_ble_eq_true rfl, Nat.le_of_ble_eq_true rfl⟩ ⟨Nat.le_of_ble_eq_true rfl, Nat.le_of_ble_eq_true rfl⟩ dX6_isDigitAt_9 (fun H locs hP hD hS => ?_)
  exact z_zret hx hb hr hlk hK hP hD hS dX6_isDigitAt_12 bI_nar rfl rfl

set_option maxHeartbeats 4000000 in
set_option maxRecDepth 100000 in
theorem c_X6_passSign (l : Launch) (D : va_G) (cs : zCs) (a : Nat → Nat) (S : Nat → Int32) (F : Nat → Nat → Int32) (L q : Nat) (sg : Int32) (hS0 : S 0 = nI L) (hL : L ≤ 100) (hS3 : S 3 = nI q) (hq : q < 1073741824) : zM l D cs yX6_passSign cX6_passSign 2 none 1 21 0 0 [.ref (a 0), .int sg] (txtW cs a S F) none (txtW cs a (upd (upd S 2 (psF (F 0) L q sg (S 2))) 3 (nI (psA (F 0) L q sg))) F) := by
  refine zM.of (own := RX6) (by decide) (Nat.le_of_ble_eq_true rfl) rfl ?_
  intro pq eq s mq below meth cq A ls hx hb hr hml hown hts hlk hnm hE hK hA hP hD hS hl
  have hl : lv_has ls 2 [(0, .ref (a 0)), (1, .int sg)] := hl
  refine lv_aload_n hx hb dX6_passSign_0 rfl (lv_at hl 0 rfl) ?_
  refine lv_aload_n hx hb dX6_passSign_1 rfl (lv_at hl 0 rfl) ?_
  refine va_get (D := D) (ci := 6) (v := .int (S 3)) (C := RX6) (T := TX6) (N := 6) hx hb hts wsI_X6 hown hK hP 0 rfl rfl 5 (by decide) (hts _ w_fl_X6_25) (fun _ h9 => h9) rfl dX6_passSign_2 ?_
  refine z_top (y := nI q) hS3 ?_
  refine z_callV (wn := (txtW cs a S F)) ⟨hx, hb, hml, hown, hts⟩ zY_X6_byteAt w_im_yX6_byteAt w_se_yX6_byteAt w_ml_X6_34 [.int (nI q)] [] (c_X6_byteAt l D cs a S F L q hS0 hL hq) hE hK hA hP hD hS [0, 1, 2] rfl rfl rfl rfl 6 rfl rfl rfl rfl hl.1 (Nat.le_of_ble_eq_true rfl) ⟨Nat.le_of_ble_eq_true rfl, Nat.le_of_ble_eq_true rfl⟩ ⟨Nat.le_of_ble_eq_true rfl, Nat.le_of_ble_eq_true rfl⟩ dX6_passSign_5 (fun H locs hP hD hS => ?_)
  refine lv_iload_n hx hb dX6_passSign_8 rfl (lv_at hl 1 rfl) ?_
  refine lv_icmp_ne (tgt := 25) hx hb dX6_passSign_9 (by decide) (fun c_1 => ?_) (fun c_1 => ?_)
  · skip
    refine lv_aload_n hx hb dX6_passSign_25 rfl (lv_at hl 0 rfl) ?_
    refine lv_aload_n hx hb dX6_passSign_26 rfl (lv_at hl 0 rfl) ?_
    refine va_get (D := D) (ci := 6) (v := .int (S 3)) (C := RX6) (T := TX6) (N := 6) hx hb hts wsI_X6 hown hK hP 0 rfl rfl 5 (by decide) (hts _ w_fl_X6_25) (fun _ h9 => h9) rfl dX6_passSign_27 ?_
    refine z_top (y := nI q) hS3 ?_
    refine va_put (D := D) (ci := 6) (v := .int (nI q)) (C := RX6) (T := TX6) (N := 6) hx hb hts wsI_X6 tyX6 tyX6_ok nmX6 hown hK hP hD hS 0 rfl rfl 4 (by decide) (hts _ w_fl_X6_22) (fun _ h9 => h9) rfl (tyX6_ok 4 (by decide)) rfl rfl (Nat.le_of_ble_eq_true rfl) dX6_passSign_30 (fun H locs hP hD hS => ?_)
    have hP : va_P D vwCl (txtW cs a (upd S 2 (nI q)) F) H := hP
    have hD : va_D A (txtW cs a (upd S 2 (nI q)) F) := hD
    exact z_vret hx hb hr hlk hK hP hD hS dX6_passSign_33 rfl (by unfold psF psA; rw [if_neg c_1, if_neg c_1]; show txtW cs a _ F = txtW cs a (upd (upd S 2 (nI q)) 3 (nI q)) F; rw [← hS3]; rfl)
  · skip
    refine lv_aload_n hx hb dX6_passSign_12 rfl (lv_at hl 0 rfl) ?_
    refine lv_dup hx hb dX6_passSign_13 rfl ?_
    refine va_get (D := D) (ci := 6) (v := .int (S 3)) (C := RX6) (T := TX6) (N := 6) hx hb hts wsI_X6 hown hK hP 0 rfl rfl 5 (by decide) (hts _ w_fl_X6_25) (fun _ h9 => h9) rfl dX6_passSign_14 ?_
    refine z_top (y := nI q) hS3 ?_
    refine lv_iconst (v := 1) hx hb dX6_passSign_17 (by decide) ?_
    refine lv_iadd hx hb dX6_passSign_18 ?_
    refine z_top (y := nI (q + 1)) (nI_add q 1) ?_
    refine va_put (D := D) (ci := 6) (v := .int (nI (q + 1))) (C := RX6) (T := TX6) (N := 6) hx hb hts wsI_X6 tyX6 tyX6_ok nmX6 hown hK hP hD hS 0 rfl rfl 5 (by decide) (hts _ w_fl_X6_25) (fun _ h9 => h9) rfl (tyX6_ok 5 (by decide)) rfl rfl (Nat.le_of_ble_eq_true rfl) dX6_passSign_19 (fun H locs hP hD hS => ?_)
    have hP : va_P D vwCl (txtW cs a (upd S 3 (nI (q + 1))) F) H := hP
    have hD : va_D A (txtW cs a (upd S 3 (nI (q + 1))) F) := hD
    refine lv_goto (tgt := 33) hx hb dX6_passSign_22 (by decide) ?_
    exact z_vret hx hb hr hlk hK hP hD hS dX6_passSign_33 rfl (by unfold psF psA; rw [if_pos c_1, if_pos c_1]; first | done | rfl)

set_option maxHeartbeats 4000000 in
set_option maxRecDepth 100000 in
theorem c_X6_readSteps (l : Launch) (D : va_G) (cs : zCs) (a : Nat → Nat) (S : Nat → Int32) (F : Nat → Nat → Int32) (L q : Nat) (hS0 : S 0 = nI L) (hL : L ≤ 100) (hS3 : S 3 = nI q) (hq : q < 10000) : zM l D cs yX6_readSteps cX6_readSteps 5 none 2 43 0 0 [.ref (a 0)] (txtW cs a S F) none (txtW cs a (upd (upd (upd S 1 (rsS (F 0) L (q + 1) (S 1))) 2 (rsF (F 0) L (q + 1) (S 2))) 3 (nI (rsA (F 0) L (q + 1) q))) F) := by
  refine zM.of (own := RX6) (by decide) (Nat.le_of_ble_eq_true rfl) rfl ?_
  intro pq eq s mq below meth cq A ls hx hb hr hml hown hts hlk hnm hE hK hA hP hD hS hl
  have hl : lv_has ls 5 [(0, .ref (a 0))] := hl
  refine lv_aload_n hx hb dX6_readSteps_0 rfl (lv_at hl 0 rfl) ?_
  refine va_get (D := D) (ci := 6) (v := .int (S 3)) (C := RX6) (T := TX6) (N := 6) hx hb hts wsI_X6 hown hK hP 0 rfl rfl 5 (by decide) (hts _ w_fl_X6_25) (fun _ h9 => h9) rfl dX6_readSteps_1 ?_
  refine z_top (y := nI q) hS3 ?_
  refine lv_iconst (v := 1) hx hb dX6_readSteps_4 (by decide) ?_
  refine lv_iadd hx hb dX6_readSteps_5 ?_
  refine z_top (y := nI (q + 1)) (nI_add q 1) ?_
  refine lv_istore_n (lv' := [(1, .int (nI (q + 1))), (0, .ref (a 0))]) hx hb dX6_readSteps_6 rfl hl (by decide) rfl (fun ls hl => ?_)
  refine lv_aload_n hx hb dX6_readSteps_7 rfl (lv_at hl 1 rfl) ?_
  refine lv_iload_n hx hb dX6_readSteps_8 rfl (lv_at hl 0 rfl) ?_
  refine z_callV (wn := (txtW cs a S F)) ⟨hx, hb, hml, hown, hts⟩ zY_X6_isDigitAt w_im_yX6_isDigitAt w_se_yX6_isDigitAt w_ml_X6_51 [.int (nI (q + 1))] [] (c_X6_isDigitAt l D cs a S F L (q + 1) hS0 hL (by omega)) hE hK hA hP hD hS [0, 1, 2] rfl rfl rfl rfl 6 rfl rfl rfl rfl hl.1 (Nat.le_of_ble_eq_true rfl) ⟨Nat.le_of_ble_eq_true rfl, Nat.le_of_ble_eq_true rfl⟩ ⟨Nat.le_of_ble_eq_true rfl, Nat.le_of_ble_eq_true rfl⟩ dX6_readSteps_9 (fun H locs hP hD hS => ?_)
  refine lv_if_ne (tgt := 21) hx hb dX6_readSteps_12 (by decide) (fun c_1 => ?_) (fun c_1 => ?_)
  · skip
    have c_1 := bI_n0 c_1
    refine lv_aload_n hx hb dX6_readSteps_21 rfl (lv_at hl 1 rfl) ?_
    refine lv_iload_n hx hb dX6_readSteps_22 rfl (lv_at hl 0 rfl) ?_
    refine lv_iconst (v := 1) hx hb dX6_readSteps_23 (by decide) ?_
    refine lv_iadd hx hb dX6_readSteps_24 ?_
    refine z_top (y := nI ((q + 1) + 1)) (nI_add (q + 1) 1) ?_
    refine z_callV (wn := (txtW cs a S F)) ⟨hx, hb, hml, hown, hts⟩ zY_X6_isDigitAt w_im_yX6_isDigitAt w_se_yX6_isDigitAt w_ml_X6_51 [.int (nI ((q + 1) + 1))] [] (c_X6_isDigitAt l D cs a S F L ((q + 1) + 1) hS0 hL (by omega)) hE hK hA hP hD hS [0, 1, 2] rfl rfl rfl rfl 6 rfl rfl rfl rfl hl.1 (Nat.le_of_ble_eq_true rfl) ⟨Nat.le_of_ble_eq_true rfl, Nat.le_of_ble_eq_true rfl⟩ ⟨Nat.le_of_ble_eq_true rfl, Nat.le_of_ble_eq_true rfl⟩ dX6_readSteps_25 (fun H locs hP hD hS => ?_)
    refine lv_if_eq (tgt := 37) hx hb dX6_readSteps_28 (by decide) (fun c_2 => ?_) (fun c_2 => ?_)
    · skip
      have c_2 := bI_0.mp c_2
      refine lv_iload_n hx hb dX6_readSteps_37 rfl (lv_at hl 0 rfl) ?_
      refine lv_iconst (v := 1) hx hb dX6_readSteps_38 (by decide) ?_
      refine lv_iadd hx hb dX6_readSteps_39 ?_
      refine z_top (y := nI ((q + 1) + 1)) (nI_add (q + 1) 1) ?_
      refine lv_istore_n (lv' := [(2, .int (nI ((q + 1) + 1))), (1, .int (nI (q + 1))), (0, .ref (a 0))]) hx hb dX6_readSteps_40 rfl hl (by decide) rfl (fun ls hl => ?_)
      refine lv_iconst (v := 0) hx hb dX6_readSteps_41 (by decide) ?_
      refine lv_istore_n (lv' := [(3, .int 0), (2, .int (nI ((q + 1) + 1))), (1, .int (nI (q + 1))), (0, .ref (a 0))]) hx hb dX6_readSteps_42 rfl hl (by decide) rfl (fun ls hl => ?_)
      refine lv_iload_n hx hb dX6_readSteps_43 rfl (lv_at hl 2 rfl) ?_
      refine lv_istore (lv' := [(4, .int (nI (q + 1))), (3, .int 0), (2, .int (nI ((q + 1) + 1))), (1, .int (nI (q + 1))), (0, .ref (a 0))]) hx hb dX6_readSteps_44 hl (by decide) rfl (fun ls hl => ?_)
      refine lv_iload hx hb dX6_readSteps_46 (lv_at hl 0 rfl) ?_
      refine lv_iload_n hx hb dX6_readSteps_48 rfl (lv_at hl 2 rfl) ?_
      refine lv_icmp_ge (tgt := 73) hx hb dX6_readSteps_49 (by decide) (fun c_3 => ?_) (fun c_3 => ?_)
      · skip
        exact absurd ((nI_leI (by omega) (by omega)).mp c_3) (by omega)
      · skip
        refine lv_bipush (v := 10) hx hb dX6_readSteps_52 (by decide) ?_
        refine lv_iload_n hx hb dX6_readSteps_54 rfl (lv_at hl 1 rfl) ?_
        refine lv_imul hx hb dX6_readSteps_55 ?_
        refine z_top (y := 0) (by decide) ?_
        refine lv_aload_n hx hb dX6_readSteps_56 rfl (lv_at hl 4 rfl) ?_
        refine lv_iload hx hb dX6_readSteps_57 (lv_at hl 0 rfl) ?_
        refine z_callV (wn := (txtW cs a S F)) ⟨hx, hb, hml, hown, hts⟩ zY_X6_byteAt w_im_yX6_byteAt w_se_yX6_byteAt w_ml_X6_34 [.int (nI (q + 1))] [.int 0] (c_X6_byteAt l D cs a S F L (q + 1) hS0 hL (by omega)) hE hK hA hP hD hS [0, 1, 2] rfl rfl rfl rfl 6 rfl rfl rfl rfl hl.1 (Nat.le_of_ble_eq_true rfl) ⟨Nat.le_of_ble_eq_true rfl, Nat.le_of_ble_eq_true rfl⟩ ⟨Nat.le_of_ble_eq_true rfl, Nat.le_of_ble_eq_true rfl⟩ dX6_readSteps_59 (fun H locs hP hD hS => ?_)
        refine lv_iadd hx hb dX6_readSteps_62 ?_
        refine lv_bipush (v := 48) hx hb dX6_readSteps_63 (by decide) ?_
        refine lv_isub hx hb dX6_readSteps_65 ?_
        refine lv_istore_n (lv' := [(3, .int ((0 + (tb (F 0) L (q + 1))) - 48)), (4, .int (nI (q + 1))), (2, .int (nI ((q + 1) + 1))), (1, .int (nI (q + 1))), (0, .ref (a 0))]) hx hb dX6_readSteps_66 rfl hl (by decide) rfl (fun ls hl => ?_)
        refine lv_iinc (v := nI (q + 1 + 1)) (lv' := [(4, .int (nI (q + 1 + 1))), (3, .int ((0 + (tb (F 0) L (q + 1))) - 48)), (2, .int (nI ((q + 1) + 1))), (1, .int (nI (q + 1))), (0, .ref (a 0))]) hx hb dX6_readSteps_67 hl (k := 1) rfl (show nI (q + 1) + Int32.ofInt 1 = nI (q + 1 + 1) from nI_add (q + 1) 1) (by decide) rfl (fun ls hl => ?_)
        refine lv_goto (tgt := 46) hx hb dX6_readSteps_70 (by decide) ?_
        refine lv_iload hx hb dX6_readSteps_46 (lv_at hl 0 rfl) ?_
        refine lv_iload_n hx hb dX6_readSteps_48 rfl (lv_at hl 2 rfl) ?_
        refine lv_icmp_ge (tgt := 73) hx hb dX6_readSteps_49 (by decide) (fun c_4 => ?_) (fun c_4 => ?_)
        · skip
          refine lv_aload_n hx hb dX6_readSteps_73 rfl (lv_at hl 4 rfl) ?_
          refine lv_iload_n hx hb dX6_readSteps_74 rfl (lv_at hl 2 rfl) ?_
          refine z_callV (wn := (txtW cs a S F)) ⟨hx, hb, hml, hown, hts⟩ zY_X6_isDigitAt w_im_yX6_isDigitAt w_se_yX6_isDigitAt w_ml_X6_51 [.int (nI ((q + 1) + 1))] [] (c_X6_isDigitAt l D cs a S F L ((q + 1) + 1) hS0 hL (by omega)) hE hK hA hP hD hS [0, 1, 2] rfl rfl rfl rfl 6 rfl rfl rfl rfl hl.1 (Nat.le_of_ble_eq_true rfl) ⟨Nat.le_of_ble_eq_true rfl, Nat.le_of_ble_eq_true rfl⟩ ⟨Nat.le_of_ble_eq_true rfl, Nat.le_of_ble_eq_true rfl⟩ dX6_readSteps_75 (fun H locs hP hD hS => ?_)
          refine lv_if_eq (tgt := 89) hx hb dX6_readSteps_78 (by decide) (fun c_5 => ?_) (fun c_5 => ?_)
          · skip
            have c_5 := bI_0.mp c_5
            refine lv_iload_n hx hb dX6_readSteps_89 rfl (lv_at hl 1 rfl) ?_
            refine lv_iconst (v := 2) hx hb dX6_readSteps_90 (by decide) ?_
            refine lv_bipush (v := 16) hx hb dX6_readSteps_91 (by decide) ?_
            refine z_callSN (wn := (txtW cs a S F)) ⟨hx, hb, hml, hown, hts⟩ zY_X7_within w_st_yX7_within (List.mem_of_getElem? (i := 10) rfl) [.int ((0 + (tb (F 0) L (q + 1))) - 48), .int 2, .int 16] [] (c_X7_within l D cs ((0 + (tb (F 0) L (q + 1))) - 48) 2 16) hE hK hA hP hD hS [] rfl rfl rfl z_ins_nil rfl hl.1 (Nat.le_of_ble_eq_true rfl) ⟨Nat.le_of_ble_eq_true rfl, Nat.le_of_ble_eq_true rfl⟩ ⟨Nat.le_of_ble_eq_true rfl, Nat.le_of_ble_eq_true rfl⟩ dX6_readSteps_93 (fun H locs hP hD hS => ?_)
            refine lv_if_ne (tgt := 107) hx hb dX6_readSteps_96 (by decide) (fun c_6 => ?_) (fun c_6 => ?_)
            · skip
              have c_6 := bI_n0 c_6
              refine lv_aload_n hx hb dX6_readSteps_107 rfl (lv_at hl 4 rfl) ?_
              refine lv_iload_n hx hb dX6_readSteps_108 rfl (lv_at hl 1 rfl) ?_
              refine va_put (D := D) (ci := 6) (v := .int ((0 + (tb (F 0) L (q + 1))) - 48)) (C := RX6) (T := TX6) (N := 6) hx hb hts wsI_X6 tyX6 tyX6_ok nmX6 hown hK hP hD hS 0 rfl rfl 3 (by decide) (hts _ w_fl_X6_18) (fun _ h9 => h9) rfl (tyX6_ok 3 (by decide)) rfl rfl (Nat.le_of_ble_eq_true rfl) dX6_readSteps_109 (fun H locs hP hD hS => ?_)
              have hP : va_P D vwCl (txtW cs a (upd S 1 ((0 + (tb (F 0) L (q + 1))) - 48)) F) H := hP
              have hD : va_D A (txtW cs a (upd S 1 ((0 + (tb (F 0) L (q + 1))) - 48)) F) := hD
              refine lv_aload_n hx hb dX6_readSteps_112 rfl (lv_at hl 4 rfl) ?_
              refine lv_iload_n hx hb dX6_readSteps_113 rfl (lv_at hl 2 rfl) ?_
              refine va_put (D := D) (ci := 6) (v := .int (nI ((q + 1) + 1))) (C := RX6) (T := TX6) (N := 6) hx hb hts wsI_X6 tyX6 tyX6_ok nmX6 hown hK hP hD hS 0 rfl rfl 5 (by decide) (hts _ w_fl_X6_25) (fun _ h9 => h9) rfl (tyX6_ok 5 (by decide)) rfl rfl (Nat.le_of_ble_eq_true rfl) dX6_readSteps_114 (fun H locs hP hD hS => ?_)
              have hP : va_P D vwCl (txtW cs a (upd (upd S 1 ((0 + (tb (F 0) L (q + 1))) - 48)) 3 (nI ((q + 1) + 1))) F) H := hP
              have hD : va_D A (txtW cs a (upd (upd S 1 ((0 + (tb (F 0) L (q + 1))) - 48)) 3 (nI ((q + 1) + 1))) F) := hD
              refine lv_aload_n hx hb dX6_readSteps_117 rfl (lv_at hl 4 rfl) ?_
              refine lv_bipush (v := 59) hx hb dX6_readSteps_118 (by decide) ?_
              refine z_callV (wn := (txtW cs a (upd (upd (upd S 1 ((0 + (tb (F 0) L (q + 1))) - 48)) 2 (psF (F 0) L ((q + 1) + 1) 59 (S 2))) 3 (nI (psA (F 0) L ((q + 1) + 1) 59))) F)) ⟨hx, hb, hml, hown, hts⟩ zY_X6_passSign w_im_yX6_passSign w_se_yX6_passSign w_ml_X6_55 [.int 59] [] (c_X6_passSign l D cs a (upd (upd S 1 ((0 + (tb (F 0) L (q + 1))) - 48)) 3 (nI ((q + 1) + 1))) F L ((q + 1) + 1) 59 hS0 hL rfl (by omega)) hE hK hA hP hD hS [0, 1, 2] rfl rfl rfl rfl 6 rfl rfl rfl rfl hl.1 (Nat.le_of_ble_eq_true rfl) ⟨Nat.le_of_ble_eq_true rfl, Nat.le_of_ble_eq_true rfl⟩ ⟨Nat.le_of_ble_eq_true rfl, Nat.le_of_ble_eq_true rfl⟩ dX6_readSteps_120 (fun H locs hP hD hS => ?_)
              have eB : rsB (F 0) L (q + 1) = q + 1 + 1 := if_neg c_2
              have eT : rsT (F 0) L (q + 1) = 0 + tb (F 0) L (q + 1) - 48 := if_neg c_2
              have h3 : ¬ tdg (F 0) L (rsB (F 0) L (q + 1)) := by rw [eB]; exact c_5
              have h4 : (2 ≤ rsT (F 0) L (q + 1) ∧ rsT (F 0) L (q + 1) ≤ 16) := by rw [eT]; exact c_6
              have hk : rsK (F 0) L (q + 1) := ⟨c_1, h3, h4⟩
              exact z_vret hx hb hr hlk hK hP hD hS dX6_readSteps_123 rfl (by unfold rsF rsS rsA; rw [if_pos c_1, if_neg h3, if_pos h4, if_pos hk, if_pos hk, eB, eT]; first | done | rfl)
            · skip
              have c_6 := bI_0.mp c_6
              refine lv_aload_n hx hb dX6_readSteps_99 rfl (lv_at hl 4 rfl) ?_
              refine lv_iload_n hx hb dX6_readSteps_100 rfl (lv_at hl 3 rfl) ?_
              refine va_put (D := D) (ci := 6) (v := .int (nI (q + 1))) (C := RX6) (T := TX6) (N := 6) hx hb hts wsI_X6 tyX6 tyX6_ok nmX6 hown hK hP hD hS 0 rfl rfl 4 (by decide) (hts _ w_fl_X6_22) (fun _ h9 => h9) rfl (tyX6_ok 4 (by decide)) rfl rfl (Nat.le_of_ble_eq_true rfl) dX6_readSteps_101 (fun H locs hP hD hS => ?_)
              have hP : va_P D vwCl (txtW cs a (upd S 2 (nI (q + 1))) F) H := hP
              have hD : va_D A (txtW cs a (upd S 2 (nI (q + 1))) F) := hD
              refine lv_goto (tgt := 123) hx hb dX6_readSteps_104 (by decide) ?_
              have eB : rsB (F 0) L (q + 1) = q + 1 + 1 := if_neg c_2
              have eT : rsT (F 0) L (q + 1) = 0 + tb (F 0) L (q + 1) - 48 := if_neg c_2
              have h3 : ¬ tdg (F 0) L (rsB (F 0) L (q + 1)) := by rw [eB]; exact c_5
              have h4 : ¬ (2 ≤ rsT (F 0) L (q + 1) ∧ rsT (F 0) L (q + 1) ≤ 16) := by rw [eT]; exact c_6
              have hk : ¬ rsK (F 0) L (q + 1) := fun h => h4 h.2.2
              exact z_vret hx hb hr hlk hK hP hD hS dX6_readSteps_123 rfl (by unfold rsF rsS rsA; rw [if_pos c_1, if_neg h3, if_neg h4, if_neg hk, if_neg hk]; show txtW cs a _ F = txtW cs a (upd (upd (upd S 1 (S 1)) 2 _) 3 (nI q)) F; rw [← hS3]; rfl)
          · skip
            have c_5 := bI_n0 c_5
            refine lv_aload_n hx hb dX6_readSteps_81 rfl (lv_at hl 4 rfl) ?_
            refine lv_iload_n hx hb dX6_readSteps_82 rfl (lv_at hl 2 rfl) ?_
            refine va_put (D := D) (ci := 6) (v := .int (nI ((q + 1) + 1))) (C := RX6) (T := TX6) (N := 6) hx hb hts wsI_X6 tyX6 tyX6_ok nmX6 hown hK hP hD hS 0 rfl rfl 4 (by decide) (hts _ w_fl_X6_22) (fun _ h9 => h9) rfl (tyX6_ok 4 (by decide)) rfl rfl (Nat.le_of_ble_eq_true rfl) dX6_readSteps_83 (fun H locs hP hD hS => ?_)
            have hP : va_P D vwCl (txtW cs a (upd S 2 (nI ((q + 1) + 1))) F) H := hP
            have hD : va_D A (txtW cs a (upd S 2 (nI ((q + 1) + 1))) F) := hD
            refine lv_goto (tgt := 123) hx hb dX6_readSteps_86 (by decide) ?_
            have eB : rsB (F 0) L (q + 1) = q + 1 + 1 := if_neg c_2
            have eT : rsT (F 0) L (q + 1) = 0 + tb (F 0) L (q + 1) - 48 := if_neg c_2
            have h3 : tdg (F 0) L (rsB (F 0) L (q + 1)) := by rw [eB]; exact c_5
            have hk : ¬ rsK (F 0) L (q + 1) := fun h => h.2.1 h3
            exact z_vret hx hb hr hlk hK hP hD hS dX6_readSteps_123 rfl (by unfold rsF rsS rsA; rw [if_pos c_1, if_pos h3, if_neg hk, if_neg hk, eB]; show txtW cs a _ F = txtW cs a (upd (upd (upd S 1 (S 1)) 2 _) 3 (nI q)) F; rw [← hS3]; rfl)
        · skip
          exact absurd ((nI_leI (by omega) (by omega)).mpr (by omega)) c_4
    · skip
      have c_2 := bI_n0 c_2
      refine lv_iload_n hx hb dX6_readSteps_31 rfl (lv_at hl 0 rfl) ?_
      refine lv_iconst (v := 2) hx hb dX6_readSteps_32 (by decide) ?_
      refine lv_iadd hx hb dX6_readSteps_33 ?_
      refine z_top (y := nI ((q + 1) + 2)) (nI_add (q + 1) 2) ?_
      refine lv_goto (tgt := 40) hx hb dX6_readSteps_34 (by decide) ?_
      refine lv_istore_n (lv' := [(2, .int (nI ((q + 1) + 2))), (1, .int (nI (q + 1))), (0, .ref (a 0))]) hx hb dX6_readSteps_40 rfl hl (by decide) rfl (fun ls hl => ?_)
      refine lv_iconst (v := 0) hx hb dX6_readSteps_41 (by decide) ?_
      refine lv_istore_n (lv' := [(3, .int 0), (2, .int (nI ((q + 1) + 2))), (1, .int (nI (q + 1))), (0, .ref (a 0))]) hx hb dX6_readSteps_42 rfl hl (by decide) rfl (fun ls hl => ?_)
      refine lv_iload_n hx hb dX6_readSteps_43 rfl (lv_at hl 2 rfl) ?_
      refine lv_istore (lv' := [(4, .int (nI (q + 1))), (3, .int 0), (2, .int (nI ((q + 1) + 2))), (1, .int (nI (q + 1))), (0, .ref (a 0))]) hx hb dX6_readSteps_44 hl (by decide) rfl (fun ls hl => ?_)
      refine lv_iload hx hb dX6_readSteps_46 (lv_at hl 0 rfl) ?_
      refine lv_iload_n hx hb dX6_readSteps_48 rfl (lv_at hl 2 rfl) ?_
      refine lv_icmp_ge (tgt := 73) hx hb dX6_readSteps_49 (by decide) (fun c_7 => ?_) (fun c_7 => ?_)
      · skip
        exact absurd ((nI_leI (by omega) (by omega)).mp c_7) (by omega)
      · skip
        refine lv_bipush (v := 10) hx hb dX6_readSteps_52 (by decide) ?_
        refine lv_iload_n hx hb dX6_readSteps_54 rfl (lv_at hl 1 rfl) ?_
        refine lv_imul hx hb dX6_readSteps_55 ?_
        refine z_top (y := 0) (by decide) ?_
        refine lv_aload_n hx hb dX6_readSteps_56 rfl (lv_at hl 4 rfl) ?_
        refine lv_iload hx hb dX6_readSteps_57 (lv_at hl 0 rfl) ?_
        refine z_callV (wn := (txtW cs a S F)) ⟨hx, hb, hml, hown, hts⟩ zY_X6_byteAt w_im_yX6_byteAt w_se_yX6_byteAt w_ml_X6_34 [.int (nI (q + 1))] [.int 0] (c_X6_byteAt l D cs a S F L (q + 1) hS0 hL (by omega)) hE hK hA hP hD hS [0, 1, 2] rfl rfl rfl rfl 6 rfl rfl rfl rfl hl.1 (Nat.le_of_ble_eq_true rfl) ⟨Nat.le_of_ble_eq_true rfl, Nat.le_of_ble_eq_true rfl⟩ ⟨Nat.le_of_ble_eq_true rfl, Nat.le_of_ble_eq_true rfl⟩ dX6_readSteps_59 (fun H locs hP hD hS => ?_)
        refine lv_iadd hx hb dX6_readSteps_62 ?_
        refine lv_bipush (v := 48) hx hb dX6_readSteps_63 (by decide) ?_
        refine lv_isub hx hb dX6_readSteps_65 ?_
        refine lv_istore_n (lv' := [(3, .int ((0 + (tb (F 0) L (q + 1))) - 48)), (4, .int (nI (q + 1))), (2, .int (nI ((q + 1) + 2))), (1, .int (nI (q + 1))), (0, .ref (a 0))]) hx hb dX6_readSteps_66 rfl hl (by decide) rfl (fun ls hl => ?_)
        refine lv_iinc (v := nI (q + 1 + 1)) (lv' := [(4, .int (nI (q + 1 + 1))), (3, .int ((0 + (tb (F 0) L (q + 1))) - 48)), (2, .int (nI ((q + 1) + 2))), (1, .int (nI (q + 1))), (0, .ref (a 0))]) hx hb dX6_readSteps_67 hl (k := 1) rfl (show nI (q + 1) + Int32.ofInt 1 = nI (q + 1 + 1) from nI_add (q + 1) 1) (by decide) rfl (fun ls hl => ?_)
        refine lv_goto (tgt := 46) hx hb dX6_readSteps_70 (by decide) ?_
        refine lv_iload hx hb dX6_readSteps_46 (lv_at hl 0 rfl) ?_
        refine lv_iload_n hx hb dX6_readSteps_48 rfl (lv_at hl 2 rfl) ?_
        refine lv_icmp_ge (tgt := 73) hx hb dX6_readSteps_49 (by decide) (fun c_8 => ?_) (fun c_8 => ?_)
        · skip
          exact absurd ((nI_leI (by omega) (by omega)).mp c_8) (by omega)
        · skip
          refine lv_bipush (v := 10) hx hb dX6_readSteps_52 (by decide) ?_
          refine lv_iload_n hx hb dX6_readSteps_54 rfl (lv_at hl 1 rfl) ?_
          refine lv_imul hx hb dX6_readSteps_55 ?_
          refine lv_aload_n hx hb dX6_readSteps_56 rfl (lv_at hl 4 rfl) ?_
          refine lv_iload hx hb dX6_readSteps_57 (lv_at hl 0 rfl) ?_
          refine z_callV (wn := (txtW cs a S F)) ⟨hx, hb, hml, hown, hts⟩ zY_X6_byteAt w_im_yX6_byteAt w_se_yX6_byteAt w_ml_X6_34 [.int (nI (q + 1 + 1))] [.int (10 * ((0 + (tb (F 0) L (q + 1))) - 48))] (c_X6_byteAt l D cs a S F L (q + 1 + 1) hS0 hL (by omega)) hE hK hA hP hD hS [0, 1, 2] rfl rfl rfl rfl 6 rfl rfl rfl rfl hl.1 (Nat.le_of_ble_eq_true rfl) ⟨Nat.le_of_ble_eq_true rfl, Nat.le_of_ble_eq_true rfl⟩ ⟨Nat.le_of_ble_eq_true rfl, Nat.le_of_ble_eq_true rfl⟩ dX6_readSteps_59 (fun H locs hP hD hS => ?_)
          refine lv_iadd hx hb dX6_readSteps_62 ?_
          refine lv_bipush (v := 48) hx hb dX6_readSteps_63 (by decide) ?_
          refine lv_isub hx hb dX6_readSteps_65 ?_
          refine lv_istore_n (lv' := [(3, .int (((10 * ((0 + (tb (F 0) L (q + 1))) - 48)) + (tb (F 0) L (q + 1 + 1))) - 48)), (4, .int (nI (q + 1 + 1))), (2, .int (nI ((q + 1) + 2))), (1, .int (nI (q + 1))), (0, .ref (a 0))]) hx hb dX6_readSteps_66 rfl hl (by decide) rfl (fun ls hl => ?_)
          refine lv_iinc (v := nI (q + 1 + 1 + 1)) (lv' := [(4, .int (nI (q + 1 + 1 + 1))), (3, .int (((10 * ((0 + (tb (F 0) L (q + 1))) - 48)) + (tb (F 0) L (q + 1 + 1))) - 48)), (2, .int (nI ((q + 1) + 2))), (1, .int (nI (q + 1))), (0, .ref (a 0))]) hx hb dX6_readSteps_67 hl (k := 1) rfl (show nI (q + 1 + 1) + Int32.ofInt 1 = nI (q + 1 + 1 + 1) from nI_add (q + 1 + 1) 1) (by decide) rfl (fun ls hl => ?_)
          refine lv_goto (tgt := 46) hx hb dX6_readSteps_70 (by decide) ?_
          refine lv_iload hx hb dX6_readSteps_46 (lv_at hl 0 rfl) ?_
          refine lv_iload_n hx hb dX6_readSteps_48 rfl (lv_at hl 2 rfl) ?_
          refine lv_icmp_ge (tgt := 73) hx hb dX6_readSteps_49 (by decide) (fun c_9 => ?_) (fun c_9 => ?_)
          · skip
            refine lv_aload_n hx hb dX6_readSteps_73 rfl (lv_at hl 4 rfl) ?_
            refine lv_iload_n hx hb dX6_readSteps_74 rfl (lv_at hl 2 rfl) ?_
            refine z_callV (wn := (txtW cs a S F)) ⟨hx, hb, hml, hown, hts⟩ zY_X6_isDigitAt w_im_yX6_isDigitAt w_se_yX6_isDigitAt w_ml_X6_51 [.int (nI ((q + 1) + 2))] [] (c_X6_isDigitAt l D cs a S F L ((q + 1) + 2) hS0 hL (by omega)) hE hK hA hP hD hS [0, 1, 2] rfl rfl rfl rfl 6 rfl rfl rfl rfl hl.1 (Nat.le_of_ble_eq_true rfl) ⟨Nat.le_of_ble_eq_true rfl, Nat.le_of_ble_eq_true rfl⟩ ⟨Nat.le_of_ble_eq_true rfl, Nat.le_of_ble_eq_true rfl⟩ dX6_readSteps_75 (fun H locs hP hD hS => ?_)
            refine lv_if_eq (tgt := 89) hx hb dX6_readSteps_78 (by decide) (fun c_10 => ?_) (fun c_10 => ?_)
            · skip
              have c_10 := bI_0.mp c_10
              refine lv_iload_n hx hb dX6_readSteps_89 rfl (lv_at hl 1 rfl) ?_
              refine lv_iconst (v := 2) hx hb dX6_readSteps_90 (by decide) ?_
              refine lv_bipush (v := 16) hx hb dX6_readSteps_91 (by decide) ?_
              refine z_callSN (wn := (txtW cs a S F)) ⟨hx, hb, hml, hown, hts⟩ zY_X7_within w_st_yX7_within (List.mem_of_getElem? (i := 10) rfl) [.int (((10 * ((0 + (tb (F 0) L (q + 1))) - 48)) + (tb (F 0) L (q + 1 + 1))) - 48), .int 2, .int 16] [] (c_X7_within l D cs (((10 * ((0 + (tb (F 0) L (q + 1))) - 48)) + (tb (F 0) L (q + 1 + 1))) - 48) 2 16) hE hK hA hP hD hS [] rfl rfl rfl z_ins_nil rfl hl.1 (Nat.le_of_ble_eq_true rfl) ⟨Nat.le_of_ble_eq_true rfl, Nat.le_of_ble_eq_true rfl⟩ ⟨Nat.le_of_ble_eq_true rfl, Nat.le_of_ble_eq_true rfl⟩ dX6_readSteps_93 (fun H locs hP hD hS => ?_)
              refine lv_if_ne (tgt := 107) hx hb dX6_readSteps_96 (by decide) (fun c_11 => ?_) (fun c_11 => ?_)
              · skip
                have c_11 := bI_n0 c_11
                refine lv_aload_n hx hb dX6_readSteps_107 rfl (lv_at hl 4 rfl) ?_
                refine lv_iload_n hx hb dX6_readSteps_108 rfl (lv_at hl 1 rfl) ?_
                refine va_put (D := D) (ci := 6) (v := .int (((10 * ((0 + (tb (F 0) L (q + 1))) - 48)) + (tb (F 0) L (q + 1 + 1))) - 48)) (C := RX6) (T := TX6) (N := 6) hx hb hts wsI_X6 tyX6 tyX6_ok nmX6 hown hK hP hD hS 0 rfl rfl 3 (by decide) (hts _ w_fl_X6_18) (fun _ h9 => h9) rfl (tyX6_ok 3 (by decide)) rfl rfl (Nat.le_of_ble_eq_true rfl) dX6_readSteps_109 (fun H locs hP hD hS => ?_)
                have hP : va_P D vwCl (txtW cs a (upd S 1 (((10 * ((0 + (tb (F 0) L (q + 1))) - 48)) + (tb (F 0) L (q + 1 + 1))) - 48)) F) H := hP
                have hD : va_D A (txtW cs a (upd S 1 (((10 * ((0 + (tb (F 0) L (q + 1))) - 48)) + (tb (F 0) L (q + 1 + 1))) - 48)) F) := hD
                refine lv_aload_n hx hb dX6_readSteps_112 rfl (lv_at hl 4 rfl) ?_
                refine lv_iload_n hx hb dX6_readSteps_113 rfl (lv_at hl 2 rfl) ?_
                refine va_put (D := D) (ci := 6) (v := .int (nI ((q + 1) + 2))) (C := RX6) (T := TX6) (N := 6) hx hb hts wsI_X6 tyX6 tyX6_ok nmX6 hown hK hP hD hS 0 rfl rfl 5 (by decide) (hts _ w_fl_X6_25) (fun _ h9 => h9) rfl (tyX6_ok 5 (by decide)) rfl rfl (Nat.le_of_ble_eq_true rfl) dX6_readSteps_114 (fun H locs hP hD hS => ?_)
                have hP : va_P D vwCl (txtW cs a (upd (upd S 1 (((10 * ((0 + (tb (F 0) L (q + 1))) - 48)) + (tb (F 0) L (q + 1 + 1))) - 48)) 3 (nI ((q + 1) + 2))) F) H := hP
                have hD : va_D A (txtW cs a (upd (upd S 1 (((10 * ((0 + (tb (F 0) L (q + 1))) - 48)) + (tb (F 0) L (q + 1 + 1))) - 48)) 3 (nI ((q + 1) + 2))) F) := hD
                refine lv_aload_n hx hb dX6_readSteps_117 rfl (lv_at hl 4 rfl) ?_
                refine lv_bipush (v := 59) hx hb dX6_readSteps_118 (by decide) ?_
                refine z_callV (wn := (txtW cs a (upd (upd (upd S 1 (((10 * ((0 + (tb (F 0) L (q + 1))) - 48)) + (tb (F 0) L (q + 1 + 1))) - 48)) 2 (psF (F 0) L ((q + 1) + 2) 59 (S 2))) 3 (nI (psA (F 0) L ((q + 1) + 2) 59))) F)) ⟨hx, hb, hml, hown, hts⟩ zY_X6_passSign w_im_yX6_passSign w_se_yX6_passSign w_ml_X6_55 [.int 59] [] (c_X6_passSign l D cs a (upd (upd S 1 (((10 * ((0 + (tb (F 0) L (q + 1))) - 48)) + (tb (F 0) L (q + 1 + 1))) - 48)) 3 (nI ((q + 1) + 2))) F L ((q + 1) + 2) 59 hS0 hL rfl (by omega)) hE hK hA hP hD hS [0, 1, 2] rfl rfl rfl rfl 6 rfl rfl rfl rfl hl.1 (Nat.le_of_ble_eq_true rfl) ⟨Nat.le_of_ble_eq_true rfl, Nat.le_of_ble_eq_true rfl⟩ ⟨Nat.le_of_ble_eq_true rfl, Nat.le_of_ble_eq_true rfl⟩ dX6_readSteps_120 (fun H locs hP hD hS => ?_)
                have eB : rsB (F 0) L (q + 1) = q + 1 + 2 := if_pos c_2
                have eT : rsT (F 0) L (q + 1) = 10 * (0 + tb (F 0) L (q + 1) - 48) + tb (F 0) L (q + 1 + 1) - 48 := if_pos c_2
                have h3 : ¬ tdg (F 0) L (rsB (F 0) L (q + 1)) := by rw [eB]; exact c_10
                have h4 : (2 ≤ rsT (F 0) L (q + 1) ∧ rsT (F 0) L (q + 1) ≤ 16) := by rw [eT]; exact c_11
                have hk : rsK (F 0) L (q + 1) := ⟨c_1, h3, h4⟩
                exact z_vret hx hb hr hlk hK hP hD hS dX6_readSteps_123 rfl (by unfold rsF rsS rsA; rw [if_pos c_1, if_neg h3, if_pos h4, if_pos hk, if_pos hk, eB, eT]; first | done | rfl)
              · skip
                have c_11 := bI_0.mp c_11
                refine lv_aload_n hx hb dX6_readSteps_99 rfl (lv_at hl 4 rfl) ?_
                refine lv_iload_n hx hb dX6_readSteps_100 rfl (lv_at hl 3 rfl) ?_
                refine va_put (D := D) (ci := 6) (v := .int (nI (q + 1))) (C := RX6) (T := TX6) (N := 6) hx hb hts wsI_X6 tyX6 tyX6_ok nmX6 hown hK hP hD hS 0 rfl rfl 4 (by decide) (hts _ w_fl_X6_22) (fun _ h9 => h9) rfl (tyX6_ok 4 (by decide)) rfl rfl (Nat.le_of_ble_eq_true rfl) dX6_readSteps_101 (fun H locs hP hD hS => ?_)
                have hP : va_P D vwCl (txtW cs a (upd S 2 (nI (q + 1))) F) H := hP
                have hD : va_D A (txtW cs a (upd S 2 (nI (q + 1))) F) := hD
                refine lv_goto (tgt := 123) hx hb dX6_readSteps_104 (by decide) ?_
                have eB : rsB (F 0) L (q + 1) = q + 1 + 2 := if_pos c_2
                have eT : rsT (F 0) L (q + 1) = 10 * (0 + tb (F 0) L (q + 1) - 48) + tb (F 0) L (q + 1 + 1) - 48 := if_pos c_2
                have h3 : ¬ tdg (F 0) L (rsB (F 0) L (q + 1)) := by rw [eB]; exact c_10
                have h4 : ¬ (2 ≤ rsT (F 0) L (q + 1) ∧ rsT (F 0) L (q + 1) ≤ 16) := by rw [eT]; exact c_11
                have hk : ¬ rsK (F 0) L (q + 1) := fun h => h4 h.2.2
                exact z_vret hx hb hr hlk hK hP hD hS dX6_readSteps_123 rfl (by unfold rsF rsS rsA; rw [if_pos c_1, if_neg h3, if_neg h4, if_neg hk, if_neg hk]; show txtW cs a _ F = txtW cs a (upd (upd (upd S 1 (S 1)) 2 _) 3 (nI q)) F; rw [← hS3]; rfl)
            · skip
              have c_10 := bI_n0 c_10
              refine lv_aload_n hx hb dX6_readSteps_81 rfl (lv_at hl 4 rfl) ?_
              refine lv_iload_n hx hb dX6_readSteps_82 rfl (lv_at hl 2 rfl) ?_
              refine va_put (D := D) (ci := 6) (v := .int (nI ((q + 1) + 2))) (C := RX6) (T := TX6) (N := 6) hx hb hts wsI_X6 tyX6 tyX6_ok nmX6 hown hK hP hD hS 0 rfl rfl 4 (by decide) (hts _ w_fl_X6_22) (fun _ h9 => h9) rfl (tyX6_ok 4 (by decide)) rfl rfl (Nat.le_of_ble_eq_true rfl) dX6_readSteps_83 (fun H locs hP hD hS => ?_)
              have hP : va_P D vwCl (txtW cs a (upd S 2 (nI ((q + 1) + 2))) F) H := hP
              have hD : va_D A (txtW cs a (upd S 2 (nI ((q + 1) + 2))) F) := hD
              refine lv_goto (tgt := 123) hx hb dX6_readSteps_86 (by decide) ?_
              have eB : rsB (F 0) L (q + 1) = q + 1 + 2 := if_pos c_2
              have eT : rsT (F 0) L (q + 1) = 10 * (0 + tb (F 0) L (q + 1) - 48) + tb (F 0) L (q + 1 + 1) - 48 := if_pos c_2
              have h3 : tdg (F 0) L (rsB (F 0) L (q + 1)) := by rw [eB]; exact c_10
              have hk : ¬ rsK (F 0) L (q + 1) := fun h => h.2.1 h3
              exact z_vret hx hb hr hlk hK hP hD hS dX6_readSteps_123 rfl (by unfold rsF rsS rsA; rw [if_pos c_1, if_pos h3, if_neg hk, if_neg hk, eB]; show txtW cs a _ F = txtW cs a (upd (upd (upd S 1 (S 1)) 2 _) 3 (nI q)) F; rw [← hS3]; rfl)
          · skip
            exact absurd ((nI_leI (by omega) (by omega)).mpr (by omega)) c_9
  · skip
    have c_1 := bI_0.mp c_1
    refine lv_aload_n hx hb dX6_readSteps_15 rfl (lv_at hl 1 rfl) ?_
    refine lv_iload_n hx hb dX6_readSteps_16 rfl (lv_at hl 0 rfl) ?_
    refine va_put (D := D) (ci := 6) (v := .int (nI (q + 1))) (C := RX6) (T := TX6) (N := 6) hx hb hts wsI_X6 tyX6 tyX6_ok nmX6 hown hK hP hD hS 0 rfl rfl 4 (by decide) (hts _ w_fl_X6_22) (fun _ h9 => h9) rfl (tyX6_ok 4 (by decide)) rfl rfl (Nat.le_of_ble_eq_true rfl) dX6_readSteps_17 (fun H locs hP hD hS => ?_)
    have hP : va_P D vwCl (txtW cs a (upd S 2 (nI (q + 1))) F) H := hP
    have hD : va_D A (txtW cs a (upd S 2 (nI (q + 1))) F) := hD
    exact z_vret hx hb hr hlk hK hP hD hS dX6_readSteps_20 rfl (by unfold rsF rsS rsA; rw [if_neg c_1, if_neg (fun h => c_1 h.1), if_neg (fun h => c_1 h.1)]; show txtW cs a _ F = txtW cs a (upd (upd (upd S 1 (S 1)) 2 _) 3 (nI q)) F; rw [← hS3]; rfl)

set_option maxHeartbeats 4000000 in
set_option maxRecDepth 100000 in
theorem c_X6_readTrack (l : Launch) (D : va_G) (cs : zCs) (a : Nat → Nat) (S : Nat → Int32) (F : Nat → Nat → Int32) (L n q : Nat) (hS0 : S 0 = nI L) (hL : L ≤ 100) (hS1 : S 1 = nI n) (hn : n ≤ 16) (hS3 : S 3 = nI q) (hq : q < 5000) : zM l D cs yX6_readTrack cX6_readTrack 4 none 2 42 0 0 [.ref (a 0)] (txtW cs a S F) none (txtW cs a (upd (upd S 2 (rtF (F 0) L n q (S 2))) 3 (nI (rtA (F 0) L n q (S 2)))) (zU F 1 (rtT (F 0) L n q (S 2) (F 1)))) := by
  refine zM.of (own := RX6) (by decide) (Nat.le_of_ble_eq_true rfl) rfl ?_
  intro pq eq s mq below meth cq A ls hx hb hr hml hown hts hlk hnm hE hK hA hP hD hS hl
  have hl : lv_has ls 4 [(0, .ref (a 0))] := hl
  refine lv_aload_n hx hb dX6_readTrack_0 rfl (lv_at hl 0 rfl) ?_
  refine lv_aload_n hx hb dX6_readTrack_1 rfl (lv_at hl 0 rfl) ?_
  refine va_get (D := D) (ci := 6) (v := .int (S 3)) (C := RX6) (T := TX6) (N := 6) hx hb hts wsI_X6 hown hK hP 0 rfl rfl 5 (by decide) (hts _ w_fl_X6_25) (fun _ h9 => h9) rfl dX6_readTrack_2 ?_
  refine z_top (y := nI q) hS3 ?_
  refine z_callV (wn := (txtW cs a S F)) ⟨hx, hb, hml, hown, hts⟩ zY_X6_byteAt w_im_yX6_byteAt w_se_yX6_byteAt w_ml_X6_34 [.int (nI q)] [] (c_X6_byteAt l D cs a S F L q hS0 hL (by omega)) hE hK hA hP hD hS [0, 1, 2] rfl rfl rfl rfl 6 rfl rfl rfl rfl hl.1 (Nat.le_of_ble_eq_true rfl) ⟨Nat.le_of_ble_eq_true rfl, Nat.le_of_ble_eq_true rfl⟩ ⟨Nat.le_of_ble_eq_true rfl, Nat.le_of_ble_eq_true rfl⟩ dX6_readTrack_5 (fun H locs hP hD hS => ?_)
  refine lv_bipush (v := 48) hx hb dX6_readTrack_8 (by decide) ?_
  refine lv_isub hx hb dX6_readTrack_10 ?_
  refine lv_istore_n (lv' := [(1, .int ((tb (F 0) L q) - 48)), (0, .ref (a 0))]) hx hb dX6_readTrack_11 rfl hl (by decide) rfl (fun ls hl => ?_)
  refine lv_iload_n hx hb dX6_readTrack_12 rfl (lv_at hl 0 rfl) ?_
  refine lv_iconst (v := 0) hx hb dX6_readTrack_13 (by decide) ?_
  refine lv_iconst (v := 4) hx hb dX6_readTrack_14 (by decide) ?_
  refine z_callSN (wn := (txtW cs a S F)) ⟨hx, hb, hml, hown, hts⟩ zY_X7_within w_st_yX7_within (List.mem_of_getElem? (i := 10) rfl) [.int ((tb (F 0) L q) - 48), .int 0, .int 4] [] (c_X7_within l D cs ((tb (F 0) L q) - 48) 0 4) hE hK hA hP hD hS [] rfl rfl rfl z_ins_nil rfl hl.1 (Nat.le_of_ble_eq_true rfl) ⟨Nat.le_of_ble_eq_true rfl, Nat.le_of_ble_eq_true rfl⟩ ⟨Nat.le_of_ble_eq_true rfl, Nat.le_of_ble_eq_true rfl⟩ dX6_readTrack_15 (fun H locs hP hD hS => ?_)
  refine lv_if_ne (tgt := 30) hx hb dX6_readTrack_18 (by decide) (fun c_1 => ?_) (fun c_1 => ?_)
  · skip
    have c_1 := bI_n0 c_1
    refine lv_aload_n hx hb dX6_readTrack_30 rfl (lv_at hl 1 rfl) ?_
    refine lv_dup hx hb dX6_readTrack_31 rfl ?_
    refine va_get (D := D) (ci := 6) (v := .int (S 3)) (C := RX6) (T := TX6) (N := 6) hx hb hts wsI_X6 hown hK hP 0 rfl rfl 5 (by decide) (hts _ w_fl_X6_25) (fun _ h9 => h9) rfl dX6_readTrack_32 ?_
    refine z_top (y := nI q) hS3 ?_
    refine lv_iconst (v := 1) hx hb dX6_readTrack_35 (by decide) ?_
    refine lv_iadd hx hb dX6_readTrack_36 ?_
    refine z_top (y := nI (q + 1)) (nI_add q 1) ?_
    refine va_put (D := D) (ci := 6) (v := .int (nI (q + 1))) (C := RX6) (T := TX6) (N := 6) hx hb hts wsI_X6 tyX6 tyX6_ok nmX6 hown hK hP hD hS 0 rfl rfl 5 (by decide) (hts _ w_fl_X6_25) (fun _ h9 => h9) rfl (tyX6_ok 5 (by decide)) rfl rfl (Nat.le_of_ble_eq_true rfl) dX6_readTrack_37 (fun H locs hP hD hS => ?_)
    have hP : va_P D vwCl (txtW cs a (upd S 3 (nI (q + 1))) F) H := hP
    have hD : va_D A (txtW cs a (upd S 3 (nI (q + 1))) F) := hD
    refine lv_aload_n hx hb dX6_readTrack_40 rfl (lv_at hl 1 rfl) ?_
    refine lv_bipush (v := 58) hx hb dX6_readTrack_41 (by decide) ?_
    refine z_callV (wn := (txtW cs a (upd (upd S 2 (psF (F 0) L (q + 1) 58 (S 2))) 3 (nI (psA (F 0) L (q + 1) 58))) F)) ⟨hx, hb, hml, hown, hts⟩ zY_X6_passSign w_im_yX6_passSign w_se_yX6_passSign w_ml_X6_55 [.int 58] [] (c_X6_passSign l D cs a (upd S 3 (nI (q + 1))) F L (q + 1) 58 hS0 hL rfl (by omega)) hE hK hA hP hD hS [0, 1, 2] rfl rfl rfl rfl 6 rfl rfl rfl rfl hl.1 (Nat.le_of_ble_eq_true rfl) ⟨Nat.le_of_ble_eq_true rfl, Nat.le_of_ble_eq_true rfl⟩ ⟨Nat.le_of_ble_eq_true rfl, Nat.le_of_ble_eq_true rfl⟩ dX6_readTrack_43 (fun H locs hP hD hS => ?_)
    refine lv_iconst (v := 0) hx hb dX6_readTrack_46 (by decide) ?_
    refine lv_istore_n (lv' := [(2, .int 0), (1, .int ((tb (F 0) L q) - 48)), (0, .ref (a 0))]) hx hb dX6_readTrack_47 rfl hl (by decide) rfl (fun ls hl => ?_)
    refine lv_iconst (v := 0) hx hb dX6_readTrack_48 (by decide) ?_
    refine lv_istore_n (lv' := [(3, .int 0), (2, .int 0), (1, .int ((tb (F 0) L q) - 48)), (0, .ref (a 0))]) hx hb dX6_readTrack_49 rfl hl (by decide) rfl (fun ls hl => ?_)
    have lp50 : ∀ (k : Nat) (j : Nat) (z : zZ), (j ≤ n) → (n + 1 ≤ j + k) → (rtL (F 0) L (n - j) j z = rtZ (F 0) L n q (S 2)) → (z.2.1 ≤ q + 2 + j) → ∀ (H : Heap) (locs : List Loc) (ls : Array Slot), va_P D vwCl (txtW cs a (upd (upd S 2 z.1) 3 (nI z.2.1)) F) H → va_D A (txtW cs a (upd (upd S 2 z.1) 3 (nI z.2.1)) F) → va_S A s.heap H locs → lv_has ls 4 [(0, .ref (a 0)), (1, .int (tb (F 0) L q - 48)), (2, .int z.2.2), (3, .int (nI j))] → W pq l eq ({ frames := 2, cells := 0, slots := 0, locals := 42 } : Room) s mq ([.ref (a 0)] : List Value).toArray below meth cq H locs 0 0 (MQ below (zQ D cs none (txtW cs a (upd (upd S 2 (rtF (F 0) L n q (S 2))) 3 (nI (rtA (F 0) L n q (S 2)))) (zU F 1 (rtT (F 0) L n q (S 2) (F 1)))) A) ([.ref (a 0)] : List Value).toArray s 0 0 A) (F0 mq 50 ls []) := by
      intro k
      induction k with
      | zero =>
        intro j z h1 h2 h3 h4 H locs ls hP hD hS hl
        omega
      | succ k ih =>
        intro j z h1 h2 h3 h4 H locs ls hP hD hS hl
        refine lv_iload_n hx hb dX6_readTrack_50 rfl (lv_at hl 3 rfl) ?_
        refine lv_aload_n hx hb dX6_readTrack_51 rfl (lv_at hl 0 rfl) ?_
        refine va_get (D := D) (ci := 6) (v := .int (S 1)) (C := RX6) (T := TX6) (N := 6) hx hb hts wsI_X6 hown hK hP 0 rfl rfl 3 (by decide) (hts _ w_fl_X6_18) (fun _ h9 => h9) rfl dX6_readTrack_52 ?_
        refine z_top (y := nI n) hS1 ?_
        refine lv_icmp_ge (tgt := 110) hx hb dX6_readTrack_55 (by decide) (fun c_2 => ?_) (fun c_2 => ?_)
        · skip
          have hz : rtZ (F 0) L n q (S 2) = z := by rw [← h3, show n - j = 0 by have := (nI_leI (by omega) (by omega)).mp c_2; omega]; rfl
          refine lv_aload_n hx hb dX6_readTrack_110 rfl (lv_at hl 0 rfl) ?_
          refine va_get (D := D) (ci := 6) (v := .int z.1) (C := RX6) (T := TX6) (N := 6) hx hb hts wsI_X6 hown hK hP 0 rfl rfl 4 (by decide) (hts _ w_fl_X6_22) (fun _ h9 => h9) rfl dX6_readTrack_111 ?_
          refine lv_iconst (v := (-1)) hx hb dX6_readTrack_114 (by decide) ?_
          refine lv_icmp_ne (tgt := 124) hx hb dX6_readTrack_115 (by decide) (fun c_3 => ?_) (fun c_3 => ?_)
          · skip
            refine lv_aload_n hx hb dX6_readTrack_124 rfl (lv_at hl 0 rfl) ?_
            refine va_get (D := D) (ci := 6) (v := .ref (a 2)) (C := RX6) (T := TX6) (N := 6) hx hb hts wsI_X6 hown hK hP 0 rfl rfl 2 (by decide) (hts _ w_fl_X6_15) (fun _ h9 => h9) rfl dX6_readTrack_125 ?_
            refine lv_iload_n hx hb dX6_readTrack_128 rfl (lv_at hl 1 rfl) ?_
            refine lv_iload_n hx hb dX6_readTrack_129 rfl (lv_at hl 2 rfl) ?_
            refine va_iast hx hb hK hP hD hS 2 0 rfl rfl (z_in5b c_1) dX6_readTrack_130 (fun H locs hP hD hS => ?_)
            have hP : va_P D vwCl (txtW cs a (upd (upd S 2 z.1) 3 (nI z.2.1)) (zU F 1 (upd (F 1) (tb (F 0) L q - 48).toNatClampNeg z.2.2))) H := hP
            have hD : va_D A (txtW cs a (upd (upd S 2 z.1) 3 (nI z.2.1)) (zU F 1 (upd (F 1) (tb (F 0) L q - 48).toNatClampNeg z.2.2))) := hD
            exact z_vret hx hb hr hlk hK hP hD hS dX6_readTrack_131 rfl (by unfold rtF rtA rtT; rw [if_pos c_1, if_pos c_1, if_pos c_1, hz, if_neg c_3, if_neg c_3]; first | done | rfl)
          · skip
            refine lv_aload_n hx hb dX6_readTrack_118 rfl (lv_at hl 0 rfl) ?_
            refine lv_bipush (v := 59) hx hb dX6_readTrack_119 (by decide) ?_
            refine z_callV (wn := (txtW cs a (upd (upd S 2 (psF (F 0) L z.2.1 59 z.1)) 3 (nI (psA (F 0) L z.2.1 59))) F)) ⟨hx, hb, hml, hown, hts⟩ zY_X6_passSign w_im_yX6_passSign w_se_yX6_passSign w_ml_X6_55 [.int 59] [] (c_X6_passSign l D cs a (upd (upd S 2 z.1) 3 (nI z.2.1)) F L z.2.1 59 hS0 hL rfl (by omega)) hE hK hA hP hD hS [0, 1, 2] rfl rfl rfl rfl 6 rfl rfl rfl rfl hl.1 (Nat.le_of_ble_eq_true rfl) ⟨Nat.le_of_ble_eq_true rfl, Nat.le_of_ble_eq_true rfl⟩ ⟨Nat.le_of_ble_eq_true rfl, Nat.le_of_ble_eq_true rfl⟩ dX6_readTrack_121 (fun H locs hP hD hS => ?_)
            refine lv_aload_n hx hb dX6_readTrack_124 rfl (lv_at hl 0 rfl) ?_
            refine va_get (D := D) (ci := 6) (v := .ref (a 2)) (C := RX6) (T := TX6) (N := 6) hx hb hts wsI_X6 hown hK hP 0 rfl rfl 2 (by decide) (hts _ w_fl_X6_15) (fun _ h9 => h9) rfl dX6_readTrack_125 ?_
            refine lv_iload_n hx hb dX6_readTrack_128 rfl (lv_at hl 1 rfl) ?_
            refine lv_iload_n hx hb dX6_readTrack_129 rfl (lv_at hl 2 rfl) ?_
            refine va_iast hx hb hK hP hD hS 2 0 rfl rfl (z_in5b c_1) dX6_readTrack_130 (fun H locs hP hD hS => ?_)
            have hP : va_P D vwCl (txtW cs a (upd (upd S 2 (psF (F 0) L z.2.1 59 z.1)) 3 (nI (psA (F 0) L z.2.1 59))) (zU F 1 (upd (F 1) (tb (F 0) L q - 48).toNatClampNeg z.2.2))) H := hP
            have hD : va_D A (txtW cs a (upd (upd S 2 (psF (F 0) L z.2.1 59 z.1)) 3 (nI (psA (F 0) L z.2.1 59))) (zU F 1 (upd (F 1) (tb (F 0) L q - 48).toNatClampNeg z.2.2))) := hD
            exact z_vret hx hb hr hlk hK hP hD hS dX6_readTrack_131 rfl (by unfold rtF rtA rtT; rw [if_pos c_1, if_pos c_1, if_pos c_1, hz, if_pos c_3, if_pos c_3]; first | done | rfl)
        · skip
          have h5 : j < n := Nat.lt_of_not_le (fun h => c_2 ((nI_leI (by omega) (by omega)).mpr h))
          refine lv_aload_n hx hb dX6_readTrack_58 rfl (lv_at hl 0 rfl) ?_
          refine va_get (D := D) (ci := 6) (v := .int z.1) (C := RX6) (T := TX6) (N := 6) hx hb hts wsI_X6 hown hK hP 0 rfl rfl 4 (by decide) (hts _ w_fl_X6_22) (fun _ h9 => h9) rfl dX6_readTrack_59 ?_
          refine lv_iconst (v := (-1)) hx hb dX6_readTrack_62 (by decide) ?_
          refine lv_icmp_ne (tgt := 110) hx hb dX6_readTrack_63 (by decide) (fun c_4 => ?_) (fun c_4 => ?_)
          · skip
            have hz : rtZ (F 0) L n q (S 2) = z := by rw [← h3]; exact rtL_out c_4
            refine lv_aload_n hx hb dX6_readTrack_110 rfl (lv_at hl 0 rfl) ?_
            refine va_get (D := D) (ci := 6) (v := .int z.1) (C := RX6) (T := TX6) (N := 6) hx hb hts wsI_X6 hown hK hP 0 rfl rfl 4 (by decide) (hts _ w_fl_X6_22) (fun _ h9 => h9) rfl dX6_readTrack_111 ?_
            refine lv_iconst (v := (-1)) hx hb dX6_readTrack_114 (by decide) ?_
            refine lv_icmp_ne (tgt := 124) hx hb dX6_readTrack_115 (by decide) (fun c_5 => ?_) (fun c_5 => ?_)
            · skip
              refine lv_aload_n hx hb dX6_readTrack_124 rfl (lv_at hl 0 rfl) ?_
              refine va_get (D := D) (ci := 6) (v := .ref (a 2)) (C := RX6) (T := TX6) (N := 6) hx hb hts wsI_X6 hown hK hP 0 rfl rfl 2 (by decide) (hts _ w_fl_X6_15) (fun _ h9 => h9) rfl dX6_readTrack_125 ?_
              refine lv_iload_n hx hb dX6_readTrack_128 rfl (lv_at hl 1 rfl) ?_
              refine lv_iload_n hx hb dX6_readTrack_129 rfl (lv_at hl 2 rfl) ?_
              refine va_iast hx hb hK hP hD hS 2 0 rfl rfl (z_in5b c_1) dX6_readTrack_130 (fun H locs hP hD hS => ?_)
              have hP : va_P D vwCl (txtW cs a (upd (upd S 2 z.1) 3 (nI z.2.1)) (zU F 1 (upd (F 1) (tb (F 0) L q - 48).toNatClampNeg z.2.2))) H := hP
              have hD : va_D A (txtW cs a (upd (upd S 2 z.1) 3 (nI z.2.1)) (zU F 1 (upd (F 1) (tb (F 0) L q - 48).toNatClampNeg z.2.2))) := hD
              exact z_vret hx hb hr hlk hK hP hD hS dX6_readTrack_131 rfl (by unfold rtF rtA rtT; rw [if_pos c_1, if_pos c_1, if_pos c_1, hz, if_neg c_5, if_neg c_5]; first | done | rfl)
            · skip
              refine lv_aload_n hx hb dX6_readTrack_118 rfl (lv_at hl 0 rfl) ?_
              refine lv_bipush (v := 59) hx hb dX6_readTrack_119 (by decide) ?_
              refine z_callV (wn := (txtW cs a (upd (upd S 2 (psF (F 0) L z.2.1 59 z.1)) 3 (nI (psA (F 0) L z.2.1 59))) F)) ⟨hx, hb, hml, hown, hts⟩ zY_X6_passSign w_im_yX6_passSign w_se_yX6_passSign w_ml_X6_55 [.int 59] [] (c_X6_passSign l D cs a (upd (upd S 2 z.1) 3 (nI z.2.1)) F L z.2.1 59 hS0 hL rfl (by omega)) hE hK hA hP hD hS [0, 1, 2] rfl rfl rfl rfl 6 rfl rfl rfl rfl hl.1 (Nat.le_of_ble_eq_true rfl) ⟨Nat.le_of_ble_eq_true rfl, Nat.le_of_ble_eq_true rfl⟩ ⟨Nat.le_of_ble_eq_true rfl, Nat.le_of_ble_eq_true rfl⟩ dX6_readTrack_121 (fun H locs hP hD hS => ?_)
              refine lv_aload_n hx hb dX6_readTrack_124 rfl (lv_at hl 0 rfl) ?_
              refine va_get (D := D) (ci := 6) (v := .ref (a 2)) (C := RX6) (T := TX6) (N := 6) hx hb hts wsI_X6 hown hK hP 0 rfl rfl 2 (by decide) (hts _ w_fl_X6_15) (fun _ h9 => h9) rfl dX6_readTrack_125 ?_
              refine lv_iload_n hx hb dX6_readTrack_128 rfl (lv_at hl 1 rfl) ?_
              refine lv_iload_n hx hb dX6_readTrack_129 rfl (lv_at hl 2 rfl) ?_
              refine va_iast hx hb hK hP hD hS 2 0 rfl rfl (z_in5b c_1) dX6_readTrack_130 (fun H locs hP hD hS => ?_)
              have hP : va_P D vwCl (txtW cs a (upd (upd S 2 (psF (F 0) L z.2.1 59 z.1)) 3 (nI (psA (F 0) L z.2.1 59))) (zU F 1 (upd (F 1) (tb (F 0) L q - 48).toNatClampNeg z.2.2))) H := hP
              have hD : va_D A (txtW cs a (upd (upd S 2 (psF (F 0) L z.2.1 59 z.1)) 3 (nI (psA (F 0) L z.2.1 59))) (zU F 1 (upd (F 1) (tb (F 0) L q - 48).toNatClampNeg z.2.2))) := hD
              exact z_vret hx hb hr hlk hK hP hD hS dX6_readTrack_131 rfl (by unfold rtF rtA rtT; rw [if_pos c_1, if_pos c_1, if_pos c_1, hz, if_pos c_5, if_pos c_5]; first | done | rfl)
          · skip
            refine lv_aload_n hx hb dX6_readTrack_66 rfl (lv_at hl 0 rfl) ?_
            refine lv_aload_n hx hb dX6_readTrack_67 rfl (lv_at hl 0 rfl) ?_
            refine va_get (D := D) (ci := 6) (v := .int (nI z.2.1)) (C := RX6) (T := TX6) (N := 6) hx hb hts wsI_X6 hown hK hP 0 rfl rfl 5 (by decide) (hts _ w_fl_X6_25) (fun _ h9 => h9) rfl dX6_readTrack_68 ?_
            refine z_callV (wn := (txtW cs a (upd (upd S 2 z.1) 3 (nI z.2.1)) F)) ⟨hx, hb, hml, hown, hts⟩ zY_X6_byteAt w_im_yX6_byteAt w_se_yX6_byteAt w_ml_X6_34 [.int (nI z.2.1)] [] (c_X6_byteAt l D cs a (upd (upd S 2 z.1) 3 (nI z.2.1)) F L z.2.1 hS0 hL (by omega)) hE hK hA hP hD hS [0, 1, 2] rfl rfl rfl rfl 6 rfl rfl rfl rfl hl.1 (Nat.le_of_ble_eq_true rfl) ⟨Nat.le_of_ble_eq_true rfl, Nat.le_of_ble_eq_true rfl⟩ ⟨Nat.le_of_ble_eq_true rfl, Nat.le_of_ble_eq_true rfl⟩ dX6_readTrack_71 (fun H locs hP hD hS => ?_)
            refine lv_bipush (v := 120) hx hb dX6_readTrack_74 (by decide) ?_
            refine lv_icmp_ne (tgt := 98) hx hb dX6_readTrack_76 (by decide) (fun c_6 => ?_) (fun c_6 => ?_)
            · skip
              refine lv_aload_n hx hb dX6_readTrack_98 rfl (lv_at hl 0 rfl) ?_
              refine lv_bipush (v := 46) hx hb dX6_readTrack_99 (by decide) ?_
              refine z_callV (wn := (txtW cs a (upd (upd S 2 (psF (F 0) L z.2.1 46 z.1)) 3 (nI (psA (F 0) L z.2.1 46))) F)) ⟨hx, hb, hml, hown, hts⟩ zY_X6_passSign w_im_yX6_passSign w_se_yX6_passSign w_ml_X6_55 [.int 46] [] (c_X6_passSign l D cs a (upd (upd S 2 z.1) 3 (nI z.2.1)) F L z.2.1 46 hS0 hL rfl (by omega)) hE hK hA hP hD hS [0, 1, 2] rfl rfl rfl rfl 6 rfl rfl rfl rfl hl.1 (Nat.le_of_ble_eq_true rfl) ⟨Nat.le_of_ble_eq_true rfl, Nat.le_of_ble_eq_true rfl⟩ ⟨Nat.le_of_ble_eq_true rfl, Nat.le_of_ble_eq_true rfl⟩ dX6_readTrack_101 (fun H locs hP hD hS => ?_)
              refine lv_iinc (v := nI (j + 1)) (lv' := [(3, .int (nI (j + 1))), (0, .ref (a 0)), (1, .int (tb (F 0) L q - 48)), (2, .int z.2.2)]) hx hb dX6_readTrack_104 hl (k := 3) rfl (show nI j + Int32.ofInt 1 = nI (j + 1) from nI_add j 1) (by decide) rfl (fun ls hl => ?_)
              refine lv_goto (tgt := 50) hx hb dX6_readTrack_107 (by decide) ?_
              have e : rtS (F 0) L j z = (psF (F 0) L z.2.1 46 z.1, psA (F 0) L z.2.1 46, z.2.2) := if_neg c_6
              have h6 := rtS_le (F 0) L j z
              rw [e] at h6
              dsimp only at h6
              exact ih (j + 1) (psF (F 0) L z.2.1 46 z.1, psA (F 0) L z.2.1 46, z.2.2) (by omega) (by omega) (by rw [← e, ← h3, show n - j = (n - (j + 1)) + 1 by omega]; exact (if_pos c_4).symm) (by dsimp only; omega) _ _ _ hP hD hS (lv_sub hl [1, 2, 3, 0] rfl)
            · skip
              refine lv_iload_n hx hb dX6_readTrack_79 rfl (lv_at hl 2 rfl) ?_
              refine lv_iconst (v := 1) hx hb dX6_readTrack_80 (by decide) ?_
              refine lv_iload_n hx hb dX6_readTrack_81 rfl (lv_at hl 3 rfl) ?_
              refine lv_ishl hx hb dX6_readTrack_82 ?_
              refine lv_ior hx hb dX6_readTrack_83 ?_
              refine lv_istore_n (lv' := [(2, .int (z.2.2 ||| (1 <<< ((nI j) &&& 31)))), (0, .ref (a 0)), (1, .int (tb (F 0) L q - 48)), (3, .int (nI j))]) hx hb dX6_readTrack_84 rfl hl (by decide) rfl (fun ls hl => ?_)
              refine lv_aload_n hx hb dX6_readTrack_85 rfl (lv_at hl 1 rfl) ?_
              refine lv_dup hx hb dX6_readTrack_86 rfl ?_
              refine va_get (D := D) (ci := 6) (v := .int (nI z.2.1)) (C := RX6) (T := TX6) (N := 6) hx hb hts wsI_X6 hown hK hP 0 rfl rfl 5 (by decide) (hts _ w_fl_X6_25) (fun _ h9 => h9) rfl dX6_readTrack_87 ?_
              refine lv_iconst (v := 1) hx hb dX6_readTrack_90 (by decide) ?_
              refine lv_iadd hx hb dX6_readTrack_91 ?_
              refine z_top (y := nI (z.2.1 + 1)) (nI_add z.2.1 1) ?_
              refine va_put (D := D) (ci := 6) (v := .int (nI (z.2.1 + 1))) (C := RX6) (T := TX6) (N := 6) hx hb hts wsI_X6 tyX6 tyX6_ok nmX6 hown hK hP hD hS 0 rfl rfl 5 (by decide) (hts _ w_fl_X6_25) (fun _ h9 => h9) rfl (tyX6_ok 5 (by decide)) rfl rfl (Nat.le_of_ble_eq_true rfl) dX6_readTrack_92 (fun H locs hP hD hS => ?_)
              have hP : va_P D vwCl (txtW cs a (upd (upd S 2 z.1) 3 (nI (z.2.1 + 1))) F) H := hP
              have hD : va_D A (txtW cs a (upd (upd S 2 z.1) 3 (nI (z.2.1 + 1))) F) := hD
              refine lv_goto (tgt := 104) hx hb dX6_readTrack_95 (by decide) ?_
              refine lv_iinc (v := nI (j + 1)) (lv' := [(3, .int (nI (j + 1))), (2, .int (z.2.2 ||| (1 <<< ((nI j) &&& 31)))), (0, .ref (a 0)), (1, .int (tb (F 0) L q - 48))]) hx hb dX6_readTrack_104 hl (k := 3) rfl (show nI j + Int32.ofInt 1 = nI (j + 1) from nI_add j 1) (by decide) rfl (fun ls hl => ?_)
              refine lv_goto (tgt := 50) hx hb dX6_readTrack_107 (by decide) ?_
              have e : rtS (F 0) L j z = (z.1, z.2.1 + 1, z.2.2 ||| (1 <<< (nI j &&& 31))) := if_pos c_6
              have h6 := rtS_le (F 0) L j z
              rw [e] at h6
              dsimp only at h6
              exact ih (j + 1) (z.1, z.2.1 + 1, z.2.2 ||| (1 <<< (nI j &&& 31))) (by omega) (by omega) (by rw [← e, ← h3, show n - j = (n - (j + 1)) + 1 by omega]; exact (if_pos c_4).symm) (by dsimp only; omega) _ _ _ hP hD hS (lv_sub hl [2, 3, 1, 0] rfl)
    exact lp50 (n + 1) 0 (psF (F 0) L (q + 1) 58 (S 2), psA (F 0) L (q + 1) 58, 0) (Nat.zero_le n) (by omega) rfl (by have := psA_le (F 0) L (q + 1) 58; dsimp only; omega) _ _ _ hP hD hS (lv_sub hl [3, 2, 1, 0] rfl)
  · skip
    have c_1 := bI_0.mp c_1
    refine lv_aload_n hx hb dX6_readTrack_21 rfl (lv_at hl 1 rfl) ?_
    refine lv_aload_n hx hb dX6_readTrack_22 rfl (lv_at hl 1 rfl) ?_
    refine va_get (D := D) (ci := 6) (v := .int (S 3)) (C := RX6) (T := TX6) (N := 6) hx hb hts wsI_X6 hown hK hP 0 rfl rfl 5 (by decide) (hts _ w_fl_X6_25) (fun _ h9 => h9) rfl dX6_readTrack_23 ?_
    refine z_top (y := nI q) hS3 ?_
    refine va_put (D := D) (ci := 6) (v := .int (nI q)) (C := RX6) (T := TX6) (N := 6) hx hb hts wsI_X6 tyX6 tyX6_ok nmX6 hown hK hP hD hS 0 rfl rfl 4 (by decide) (hts _ w_fl_X6_22) (fun _ h9 => h9) rfl (tyX6_ok 4 (by decide)) rfl rfl (Nat.le_of_ble_eq_true rfl) dX6_readTrack_26 (fun H locs hP hD hS => ?_)
    have hP : va_P D vwCl (txtW cs a (upd S 2 (nI q)) F) H := hP
    have hD : va_D A (txtW cs a (upd S 2 (nI q)) F) := hD
    exact z_vret hx hb hr hlk hK hP hD hS dX6_readTrack_29 rfl (by unfold rtF rtA rtT; rw [if_neg c_1, if_neg c_1, if_neg c_1]; show txtW cs a _ _ = txtW cs a (upd (upd S 2 (nI q)) 3 (nI q)) (zU F 1 (F 1)); rw [← hS3]; rfl)

set_option maxHeartbeats 4000000 in
set_option maxRecDepth 100000 in
theorem c_X6_read (l : Launch) (D : va_G) (cs : zCs) (a : Nat → Nat) (S : Nat → Int32) (F : Nat → Nat → Int32) (L n0 : Nat) (hS0 : S 0 = nI L) (hL : L ≤ 100) (hn : n0 ≤ 16) : zM l D cs yX6_read cX6_read 3 none 3 67 0 0 [.ref (a 0), .int (nI n0)] (txtW cs a S F) none (txtW cs a (upd (upd (upd S 1 (nI (rdn (F 0) L n0))) 2 ((rdZ (F 0) L n0).1)) 3 (nI (rdZ (F 0) L n0).2.1)) (zU F 1 ((rdZ (F 0) L n0).2.2))) := by
  refine zM.of (own := RX6) (by decide) (Nat.le_of_ble_eq_true rfl) rfl ?_
  intro pq eq s mq below meth cq A ls hx hb hr hml hown hts hlk hnm hE hK hA hP hD hS hl
  have hl : lv_has ls 3 [(0, .ref (a 0)), (1, .int (nI n0))] := hl
  refine lv_aload_n hx hb dX6_read_0 rfl (lv_at hl 0 rfl) ?_
  refine lv_iload_n hx hb dX6_read_1 rfl (lv_at hl 1 rfl) ?_
  refine va_put (D := D) (ci := 6) (v := .int (nI n0)) (C := RX6) (T := TX6) (N := 6) hx hb hts wsI_X6 tyX6 tyX6_ok nmX6 hown hK hP hD hS 0 rfl rfl 3 (by decide) (hts _ w_fl_X6_18) (fun _ h9 => h9) rfl (tyX6_ok 3 (by decide)) rfl rfl (Nat.le_of_ble_eq_true rfl) dX6_read_2 (fun H locs hP hD hS => ?_)
  have hP : va_P D vwCl (txtW cs a (upd S 1 (nI n0)) F) H := hP
  have hD : va_D A (txtW cs a (upd S 1 (nI n0)) F) := hD
  refine lv_aload_n hx hb dX6_read_5 rfl (lv_at hl 0 rfl) ?_
  refine lv_iconst (v := (-1)) hx hb dX6_read_6 (by decide) ?_
  refine va_put (D := D) (ci := 6) (v := .int (-1)) (C := RX6) (T := TX6) (N := 6) hx hb hts wsI_X6 tyX6 tyX6_ok nmX6 hown hK hP hD hS 0 rfl rfl 4 (by decide) (hts _ w_fl_X6_22) (fun _ h9 => h9) rfl (tyX6_ok 4 (by decide)) rfl rfl (Nat.le_of_ble_eq_true rfl) dX6_read_7 (fun H locs hP hD hS => ?_)
  have hP : va_P D vwCl (txtW cs a (upd (upd S 1 (nI n0)) 2 (-1)) F) H := hP
  have hD : va_D A (txtW cs a (upd (upd S 1 (nI n0)) 2 (-1)) F) := hD
  refine lv_aload_n hx hb dX6_read_10 rfl (lv_at hl 0 rfl) ?_
  refine lv_iconst (v := 0) hx hb dX6_read_11 (by decide) ?_
  refine va_put (D := D) (ci := 6) (v := .int 0) (C := RX6) (T := TX6) (N := 6) hx hb hts wsI_X6 tyX6 tyX6_ok nmX6 hown hK hP hD hS 0 rfl rfl 5 (by decide) (hts _ w_fl_X6_25) (fun _ h9 => h9) rfl (tyX6_ok 5 (by decide)) rfl rfl (Nat.le_of_ble_eq_true rfl) dX6_read_12 (fun H locs hP hD hS => ?_)
  have hP : va_P D vwCl (txtW cs a (upd (upd (upd S 1 (nI n0)) 2 (-1)) 3 0) F) H := hP
  have hD : va_D A (txtW cs a (upd (upd (upd S 1 (nI n0)) 2 (-1)) 3 0) F) := hD
  refine lv_aload_n hx hb dX6_read_15 rfl (lv_at hl 0 rfl) ?_
  refine va_get (D := D) (ci := 6) (v := .ref (a 2)) (C := RX6) (T := TX6) (N := 6) hx hb hts wsI_X6 hown hK hP 0 rfl rfl 2 (by decide) (hts _ w_fl_X6_15) (fun _ h9 => h9) rfl dX6_read_16 ?_
  refine lv_iconst (v := 0) hx hb dX6_read_19 (by decide) ?_
  refine z_callS (wn := (txtW cs a (upd (upd (upd S 1 (nI n0)) 2 (-1)) 3 0) (zU F 1 (fun _ => 0)))) ⟨hx, hb, hml, hown, hts⟩ zY_J7_fill_53178 w_st_yJ7_fill_53178 w_ml_X6_28 [.ref (a 2), .int 0] [] (c_J7_fill_53178 l D cs (a 2) 5 (F 1) 0 (by decide)) hE hK hA hP hD hS [2] rfl rfl rfl rfl rfl hl.1 (Nat.le_of_ble_eq_true rfl) ⟨Nat.le_of_ble_eq_true rfl, Nat.le_of_ble_eq_true rfl⟩ ⟨Nat.le_of_ble_eq_true rfl, Nat.le_of_ble_eq_true rfl⟩ dX6_read_20 (fun H locs hP hD hS => ?_)
  refine lv_aload_n hx hb dX6_read_23 rfl (lv_at hl 0 rfl) ?_
  have lp42 : ∀ (k : Nat) (i : Nat) (z : zR), (i ≤ 100) → (101 ≤ i + k) → (rdL (F 0) L (rdn (F 0) L n0) (100 - i) z = rdZ (F 0) L n0) → (z.2.1 ≤ 10 + 19 * i) → ∀ (H : Heap) (locs : List Loc) (ls : Array Slot), va_P D vwCl (txtW cs a (upd (upd (upd S 1 (nI (rdn (F 0) L n0))) 2 z.1) 3 (nI z.2.1)) (zU F 1 z.2.2)) H → va_D A (txtW cs a (upd (upd (upd S 1 (nI (rdn (F 0) L n0))) 2 z.1) 3 (nI z.2.1)) (zU F 1 z.2.2)) → va_S A s.heap H locs → lv_has ls 3 [(0, .ref (a 0)), (1, .int (nI n0)), (2, .int (nI i))] → W pq l eq ({ frames := 3, cells := 0, slots := 0, locals := 67 } : Room) s mq ([.ref (a 0), .int (nI n0)] : List Value).toArray below meth cq H locs 0 0 (MQ below (zQ D cs none (txtW cs a (upd (upd (upd S 1 (nI (rdn (F 0) L n0))) 2 ((rdZ (F 0) L n0).1)) 3 (nI (rdZ (F 0) L n0).2.1)) (zU F 1 ((rdZ (F 0) L n0).2.2))) A) ([.ref (a 0), .int (nI n0)] : List Value).toArray s 0 0 A) (F0 mq 42 ls []) := by
    intro k
    induction k with
    | zero =>
      intro i z h1 h2 h3 h4 H locs ls hP hD hS hl
      omega
    | succ k ih =>
      intro i z h1 h2 h3 h4 H locs ls hP hD hS hl
      refine lv_iload_n hx hb dX6_read_42 rfl (lv_at hl 2 rfl) ?_
      refine lv_bipush (v := 100) hx hb dX6_read_43 (by decide) ?_
      refine lv_icmp_ge (tgt := 77) hx hb dX6_read_45 (by decide) (fun c_1 => ?_) (fun c_1 => ?_)
      · skip
        have hz : rdZ (F 0) L n0 = z := by rw [← h3, show 100 - i = 0 by have := (nI_leI (a := 100) (by omega) (by omega)).mp c_1; omega]; rfl
        exact z_vret hx hb hr hlk hK hP hD hS dX6_read_77 rfl (by rw [hz])
      · skip
        have h5 : i < 100 := Nat.lt_of_not_le (fun h => c_1 ((nI_leI (a := 100) (by omega) (by omega)).mpr h))
        refine lv_aload_n hx hb dX6_read_48 rfl (lv_at hl 0 rfl) ?_
        refine va_get (D := D) (ci := 6) (v := .int z.1) (C := RX6) (T := TX6) (N := 6) hx hb hts wsI_X6 hown hK hP 0 rfl rfl 4 (by decide) (hts _ w_fl_X6_22) (fun _ h9 => h9) rfl dX6_read_49 ?_
        refine lv_iconst (v := (-1)) hx hb dX6_read_52 (by decide) ?_
        refine lv_icmp_ne (tgt := 77) hx hb dX6_read_53 (by decide) (fun c_2 => ?_) (fun c_2 => ?_)
        · skip
          have hz : rdZ (F 0) L n0 = z := by rw [← h3]; exact rdL_out (fun h => c_2 h.1)
          exact z_vret hx hb hr hlk hK hP hD hS dX6_read_77 rfl (by rw [hz])
        · skip
          refine lv_aload_n hx hb dX6_read_56 rfl (lv_at hl 0 rfl) ?_
          refine va_get (D := D) (ci := 6) (v := .int (nI z.2.1)) (C := RX6) (T := TX6) (N := 6) hx hb hts wsI_X6 hown hK hP 0 rfl rfl 5 (by decide) (hts _ w_fl_X6_25) (fun _ h9 => h9) rfl dX6_read_57 ?_
          refine lv_aload_n hx hb dX6_read_60 rfl (lv_at hl 0 rfl) ?_
          refine va_get (D := D) (ci := 6) (v := .int (S 0)) (C := RX6) (T := TX6) (N := 6) hx hb hts wsI_X6 hown hK hP 0 rfl rfl 1 (by decide) (hts _ w_fl_X6_41) (fun _ h9 => h9) rfl dX6_read_61 ?_
          refine z_top (y := nI L) hS0 ?_
          refine lv_icmp_ge (tgt := 77) hx hb dX6_read_64 (by decide) (fun c_3 => ?_) (fun c_3 => ?_)
          · skip
            have hz : rdZ (F 0) L n0 = z := by rw [← h3]; exact rdL_out (fun h => absurd ((nI_leI (by omega) (by omega)).mp c_3) (by omega))
            exact z_vret hx hb hr hlk hK hP hD hS dX6_read_77 rfl (by rw [hz])
          · skip
            have h7 : z.2.1 < L := Nat.lt_of_not_le (fun h => c_3 ((nI_leI (by omega) (by omega)).mpr h))
            refine lv_aload_n hx hb dX6_read_67 rfl (lv_at hl 0 rfl) ?_
            refine z_callV (wn := (txtW cs a (upd (upd (upd S 1 (nI (rdn (F 0) L n0))) 2 (rtF (F 0) L (rdn (F 0) L n0) z.2.1 z.1)) 3 (nI (rtA (F 0) L (rdn (F 0) L n0) z.2.1 z.1))) (zU F 1 (rtT (F 0) L (rdn (F 0) L n0) z.2.1 z.1 z.2.2)))) ⟨hx, hb, hml, hown, hts⟩ zY_X6_readTrack w_im_yX6_readTrack w_se_yX6_readTrack w_ml_X6_44 [] [] (c_X6_readTrack l D cs a (upd (upd (upd S 1 (nI (rdn (F 0) L n0))) 2 z.1) 3 (nI z.2.1)) (zU F 1 z.2.2) L (rdn (F 0) L n0) z.2.1 hS0 hL rfl (rdn_n (f := F 0) (L := L) hn).1 rfl (by omega)) hE hK hA hP hD hS [0, 1, 2] rfl rfl rfl rfl 6 rfl rfl rfl rfl hl.1 (Nat.le_of_ble_eq_true rfl) ⟨Nat.le_of_ble_eq_true rfl, Nat.le_of_ble_eq_true rfl⟩ ⟨Nat.le_of_ble_eq_true rfl, Nat.le_of_ble_eq_true rfl⟩ dX6_read_68 (fun H locs hP hD hS => ?_)
            refine lv_iinc (v := nI (i + 1)) (lv' := [(2, .int (nI (i + 1))), (0, .ref (a 0)), (1, .int (nI n0))]) hx hb dX6_read_71 hl (k := 2) rfl (show nI i + Int32.ofInt 1 = nI (i + 1) from nI_add i 1) (by decide) rfl (fun ls hl => ?_)
            refine lv_goto (tgt := 42) hx hb dX6_read_74 (by decide) ?_
            exact ih (i + 1) (rdS (F 0) L (rdn (F 0) L n0) z) (by omega) (by omega) (by rw [← h3, show 100 - i = (100 - (i + 1)) + 1 by omega]; exact (if_pos ⟨c_2, h7⟩).symm) (by have h8 := rtA_le (F 0) L (rdn (F 0) L n0) z.2.1 z.1; have h9 := (rdn_n (f := F 0) (L := L) hn).1; show rtA (F 0) L (rdn (F 0) L n0) z.2.1 z.1 ≤ _; omega) _ _ _ hP hD hS (lv_sub hl [1, 2, 0] rfl)
  refine lv_aload_n hx hb dX6_read_24 rfl (lv_at hl 0 rfl) ?_
  refine va_get (D := D) (ci := 6) (v := .int 0) (C := RX6) (T := TX6) (N := 6) hx hb hts wsI_X6 hown hK hP 0 rfl rfl 5 (by decide) (hts _ w_fl_X6_25) (fun _ h9 => h9) rfl dX6_read_25 ?_
  refine z_callV (wn := (txtW cs a (upd (upd (upd S 1 (nI n0)) 2 (-1)) 3 0) (zU F 1 (fun _ => 0)))) ⟨hx, hb, hml, hown, hts⟩ zY_X6_byteAt w_im_yX6_byteAt w_se_yX6_byteAt w_ml_X6_34 [.int 0] [] (c_X6_byteAt l D cs a (upd (upd (upd S 1 (nI n0)) 2 (-1)) 3 0) (zU F 1 (fun _ => 0)) L 0 hS0 hL (by omega)) hE hK hA hP hD hS [0, 1, 2] rfl rfl rfl rfl 6 rfl rfl rfl rfl hl.1 (Nat.le_of_ble_eq_true rfl) ⟨Nat.le_of_ble_eq_true rfl, Nat.le_of_ble_eq_true rfl⟩ ⟨Nat.le_of_ble_eq_true rfl, Nat.le_of_ble_eq_true rfl⟩ dX6_read_28 (fun H locs hP hD hS => ?_)
  refine lv_bipush (v := 110) hx hb dX6_read_31 (by decide) ?_
  refine lv_icmp_ne (tgt := 40) hx hb dX6_read_33 (by decide) (fun c_4 => ?_) (fun c_4 => ?_)
  · skip
    refine lv_iconst (v := 0) hx hb dX6_read_40 (by decide) ?_
    refine lv_istore_n (lv' := [(2, .int 0), (0, .ref (a 0)), (1, .int (nI n0))]) hx hb dX6_read_41 rfl hl (by decide) rfl (fun ls hl => ?_)
    have e : nI n0 = nI (rdn (F 0) L n0) := by rw [show rdn (F 0) L n0 = n0 from if_neg c_4]
    rw [e] at hP hD
    exact lp42 101 0 (-1, 0, fun _ => 0) (Nat.zero_le 100) (by omega) (by show rdL (F 0) L _ 100 _ = rdL (F 0) L _ 100 (rd0 (F 0) L); rw [show rd0 (F 0) L = _ from if_neg c_4]) (by dsimp only; omega) _ _ _ hP hD hS (lv_sub hl [1, 2, 0] rfl)
  · skip
    refine lv_aload_n hx hb dX6_read_36 rfl (lv_at hl 0 rfl) ?_
    refine z_callV (wn := (txtW cs a (upd (upd (upd S 1 (rsS (F 0) L (0 + 1) (nI n0))) 2 (rsF (F 0) L (0 + 1) (-1))) 3 (nI (rsA (F 0) L (0 + 1) 0))) (zU F 1 (fun _ => 0)))) ⟨hx, hb, hml, hown, hts⟩ zY_X6_readSteps w_im_yX6_readSteps w_se_yX6_readSteps w_ml_X6_38 [] [] (c_X6_readSteps l D cs a (upd (upd (upd S 1 (nI n0)) 2 (-1)) 3 0) (zU F 1 (fun _ => 0)) L 0 hS0 hL rfl (by omega)) hE hK hA hP hD hS [0, 1, 2] rfl rfl rfl rfl 6 rfl rfl rfl rfl hl.1 (Nat.le_of_ble_eq_true rfl) ⟨Nat.le_of_ble_eq_true rfl, Nat.le_of_ble_eq_true rfl⟩ ⟨Nat.le_of_ble_eq_true rfl, Nat.le_of_ble_eq_true rfl⟩ dX6_read_37 (fun H locs hP hD hS => ?_)
    refine lv_iconst (v := 0) hx hb dX6_read_40 (by decide) ?_
    refine lv_istore_n (lv' := [(2, .int 0), (0, .ref (a 0)), (1, .int (nI n0))]) hx hb dX6_read_41 rfl hl (by decide) rfl (fun ls hl => ?_)
    have e : rsS (F 0) L (0 + 1) (nI n0) = nI (rdn (F 0) L n0) := by have h := (rdn_n (f := F 0) (L := L) hn).2; rw [if_pos (show rdN (F 0) L from c_4)] at h; exact h
    rw [e] at hP hD
    exact lp42 101 0 (rsF (F 0) L (0 + 1) (-1), rsA (F 0) L (0 + 1) 0, fun _ => 0) (Nat.zero_le 100) (by omega) (by show rdL (F 0) L _ 100 _ = rdL (F 0) L _ 100 (rd0 (F 0) L); rw [show rd0 (F 0) L = _ from if_pos c_4]) (by have := rsA_le (F 0) L (0 + 1) 0 (by omega); dsimp only; omega) _ _ _ hP hD hS (lv_sub hl [1, 2, 0] rfl)

set_option maxHeartbeats 4000000 in
set_option maxRecDepth 100000 in
theorem c_X6_putLast (l : Launch) (D : va_G) (cs : zCs) (a : Nat → Nat) (S : Nat → Int32) (F : Nat → Nat → Int32) (L : Nat) (v : Int32) (hS0 : S 0 = nI L) (hL : L < 100) : zM l D cs yX6_putLast cX6_putLast 2 none 1 22 0 0 [.ref (a 0), .int v] (txtW cs a S F) none (txtW cs a (upd S 0 (nI (L + 1))) (zU F 0 (upd (F 0) L v))) := by
  refine zM.of (own := RX6) (by decide) (Nat.le_of_ble_eq_true rfl) rfl ?_
  intro pq eq s mq below meth cq A ls hx hb hr hml hown hts hlk hnm hE hK hA hP hD hS hl
  have hl : lv_has ls 2 [(0, .ref (a 0)), (1, .int v)] := hl
  refine lv_aload_n hx hb dX6_putLast_0 rfl (lv_at hl 0 rfl) ?_
  refine va_get (D := D) (ci := 6) (v := .int (S 0)) (C := RX6) (T := TX6) (N := 6) hx hb hts wsI_X6 hown hK hP 0 rfl rfl 1 (by decide) (hts _ w_fl_X6_41) (fun _ h9 => h9) rfl dX6_putLast_1 ?_
  refine z_top (y := nI L) hS0 ?_
  refine lv_iconst (v := 0) hx hb dX6_putLast_4 (by decide) ?_
  refine lv_bipush (v := 99) hx hb dX6_putLast_5 (by decide) ?_
  refine z_callSN (wn := (txtW cs a S F)) ⟨hx, hb, hml, hown, hts⟩ zY_X7_within w_st_yX7_within (List.mem_of_getElem? (i := 10) rfl) [.int (nI L), .int 0, .int 99] [] (c_X7_within l D cs (nI L) 0 99) hE hK hA hP hD hS [] rfl rfl rfl z_ins_nil rfl hl.1 (Nat.le_of_ble_eq_true rfl) ⟨Nat.le_of_ble_eq_true rfl, Nat.le_of_ble_eq_true rfl⟩ ⟨Nat.le_of_ble_eq_true rfl, Nat.le_of_ble_eq_true rfl⟩ dX6_putLast_7 (fun H locs hP hD hS => ?_)
  refine lv_if_eq (tgt := 33) hx hb dX6_putLast_10 (by decide) (fun c_1 => ?_) (fun c_1 => ?_)
  · skip
    have c_1 := bI_0.mp c_1
    exact absurd ⟨nI_pos' (by omega), (nI_leI (b := 99) (by omega) (by omega)).mpr (by omega)⟩ c_1
  · skip
    have c_1 := bI_n0 c_1
    refine lv_aload_n hx hb dX6_putLast_13 rfl (lv_at hl 0 rfl) ?_
    refine va_get (D := D) (ci := 6) (v := .ref (a 1)) (C := RX6) (T := TX6) (N := 6) hx hb hts wsI_X6 hown hK hP 0 rfl rfl 0 (by decide) (hts _ w_fl_X6_9) (fun _ h9 => h9) rfl dX6_putLast_14 ?_
    refine lv_aload_n hx hb dX6_putLast_17 rfl (lv_at hl 0 rfl) ?_
    refine va_get (D := D) (ci := 6) (v := .int (S 0)) (C := RX6) (T := TX6) (N := 6) hx hb hts wsI_X6 hown hK hP 0 rfl rfl 1 (by decide) (hts _ w_fl_X6_41) (fun _ h9 => h9) rfl dX6_putLast_18 ?_
    refine z_top (y := nI L) hS0 ?_
    refine lv_iload_n hx hb dX6_putLast_21 rfl (lv_at hl 1 rfl) ?_
    refine z_iast (k := L) hx hb hK hP hD hS 1 rfl (by omega) (by first | decide | omega) dX6_putLast_22 (fun H locs hP hD hS => ?_)
    have hP : va_P D vwCl (txtW cs a S (zU F 0 (upd (F 0) L v))) H := hP
    have hD : va_D A (txtW cs a S (zU F 0 (upd (F 0) L v))) := hD
    refine lv_aload_n hx hb dX6_putLast_23 rfl (lv_at hl 0 rfl) ?_
    refine lv_dup hx hb dX6_putLast_24 rfl ?_
    refine va_get (D := D) (ci := 6) (v := .int (S 0)) (C := RX6) (T := TX6) (N := 6) hx hb hts wsI_X6 hown hK hP 0 rfl rfl 1 (by decide) (hts _ w_fl_X6_41) (fun _ h9 => h9) rfl dX6_putLast_25 ?_
    refine z_top (y := nI L) hS0 ?_
    refine lv_iconst (v := 1) hx hb dX6_putLast_28 (by decide) ?_
    refine lv_iadd hx hb dX6_putLast_29 ?_
    refine z_top (y := nI (L + 1)) (nI_add L 1) ?_
    refine va_put (D := D) (ci := 6) (v := .int (nI (L + 1))) (C := RX6) (T := TX6) (N := 6) hx hb hts wsI_X6 tyX6 tyX6_ok nmX6 hown hK hP hD hS 0 rfl rfl 1 (by decide) (hts _ w_fl_X6_41) (fun _ h9 => h9) rfl (tyX6_ok 1 (by decide)) rfl rfl (Nat.le_of_ble_eq_true rfl) dX6_putLast_30 (fun H locs hP hD hS => ?_)
    have hP : va_P D vwCl (txtW cs a (upd S 0 (nI (L + 1))) (zU F 0 (upd (F 0) L v))) H := hP
    have hD : va_D A (txtW cs a (upd S 0 (nI (L + 1))) (zU F 0 (upd (F 0) L v))) := hD
    exact z_vret hx hb hr hlk hK hP hD hS dX6_putLast_33 rfl rfl
