theorem z_l1 {n : Nat} (h : n < 2 ^ 31) : (nI n).toInt64 - 1 = (nI n - 1).toInt64 := by
  cases n with
  | zero => decide
  | succ n =>
    rw [nI_pred, nI_l h, nI_l (by omega)]
    exact lN_sub (a := n + 1) (b := 1) (by omega)
abbrev rHas (f : Nat → Int32) (k : Nat) (st : Int32) : Prop := ((f (16 + k) >>> (st &&& 31)) &&& 1) = 1
def rCamsN (f : Nat → Int32) (k : Nat) : Nat → Int32
  | 0 => 0
  | s + 1 => rCamsN f k s + bI (rHas f k (nI s))
def rOff (f : Nat → Int32) : Nat → Int32 := if f 5 - f 6 ≤ 0 then f else upd (upd f 5 (f 5 - (f 5 - f 6))) 13 (f 13 + (f 5 - f 6))
abbrev rHolds (f : Nat → Int32) (g : Nat) : Prop := f (51 + 3 * g + 2) < f (21 + 6 * nN (f (51 + 3 * g + 1)))
def rmn (a b : Int32) : Int32 := if b ≤ a then b else a
def rpos (x : Int32) : Int32 := if 0 ≤ x then x else 0
def rMayL (f : Nat → Int32) (c : Nat) : Nat → Int32
  | 0 => 100 - f (21 + 6 * c)
  | g + 1 => if f (51 + 3 * g) = nI c ∧ rHolds f g then rmn (rpos (f (51 + 3 * g + 2) - f (21 + 6 * c))) (rMayL f c g) else rMayL f c g
def rMay (f : Nat → Int32) (c : Nat) : Int32 := rMayL f c (nN (f 8))
def rMd (f : Nat → Int32) (c : Nat) : Int32 := rmn (rmn (f (21 + 6 * c + 2)) (rMay f c)) (f 5 / f (21 + 6 * c + 1))
def rM1 (f : Nat → Int32) (c : Nat) (d : Int32) : Nat → Int32 := upd f (21 + 6 * c) (f (21 + 6 * c) + d)
def rM2 (f : Nat → Int32) (c : Nat) (d : Int32) : Nat → Int32 := upd f (21 + 6 * c + 4) (f (21 + 6 * c + 4) + f (21 + 6 * c + 1) * d)
def rM3 (f : Nat → Int32) (c : Nat) (d : Int32) : Nat → Int32 := upd f 5 (f 5 - f (21 + 6 * c + 1) * d)
def rM4 (f : Nat → Int32) (c : Nat) (d : Int32) : Nat → Int32 := upd f 14 (f 14 + f (21 + 6 * c + 1) * d)
def rMv (f : Nat → Int32) (c : Nat) : Nat → Int32 := if rHas f c (f 1) then rM4 (rM3 (rM2 (rM1 f c (rMd f c)) c (rMd f c)) c (rMd f c)) c (rMd f c) else upd f (21 + 6 * c) (f (21 + 6 * c) - rmn (f (21 + 6 * c + 2)) (f (21 + 6 * c)))
def rLx (f : Nat → Int32) (c : Nat) : Int32 := rmn (f (21 + 6 * c + 3)) (f 5)
def rL1 (f : Nat → Int32) (x : Int32) : Nat → Int32 := upd f 5 (f 5 - x)
def rL2 (f : Nat → Int32) (c : Nat) (x : Int32) : Nat → Int32 := upd f (21 + 6 * c + 5) (f (21 + 6 * c + 5) + x)
def rL3 (f : Nat → Int32) (x : Int32) : Nat → Int32 := upd f 15 (f 15 + x)
def rLk (f : Nat → Int32) (c : Nat) : Nat → Int32 := if rHas f c (f 1) ∧ ¬ f (21 + 6 * c) ≤ 0 then rL3 (rL2 (rL1 f (rLx f c)) c (rLx f c)) (rLx f c) else f
abbrev rAllN (f : Nat → Int32) (i : Nat) : Prop := ∀ j, j < i → (¬ rHas f j (f 1) ∨ f (21 + 6 * j) = 100)
def rA1 (f : Nat → Int32) : Nat → Int32 := upd f 12 (f 12 + f 7)
def rA2 (f : Nat → Int32) : Nat → Int32 := upd f 5 (f 5 + f 7)
def rA3 (f : Nat → Int32) : Nat → Int32 := upd f 2 (f 2 + 1)
def rT0 (f : Nat → Int32) : Nat → Int32 := rA3 (rOff (rA2 (rA1 f)))
abbrev rWent (f : Nat → Int32) : Prop := f 3 ≤ f 2 ∧ f 4 ≤ f 5
def rD1 (f : Nat → Int32) : Nat → Int32 := upd f 1 (f 1 + 1 - (f 1 + 1) / f 0 * f 0)
def rD2 (f : Nat → Int32) : Nat → Int32 := upd f 10 (f 10 + bI (f 1 = 0))
def rS1 (f : Nat → Int32) : Nat → Int32 := upd f 11 (f 11 + 1)
def rS2 (f : Nat → Int32) (a : Nat) : Nat → Int32 := upd f (143 + a) (f (143 + a) + 1)
def rH (f : Nat → Int32) : Nat → Int32 := upd f 2 (if f 2 < f 3 then f 2 else 0)
def rDr (f : Nat → Int32) : Nat → Int32 := rH (if rWent f then rD2 (rD1 f) else if f 3 ≤ f 2 then rS2 (rS1 f) (nN (f 1)) else f)
def rMvN (f : Nat → Int32) : Nat → Nat → Int32
  | 0 => f
  | i + 1 => rMv (rMvN f i) i
def rLkN (f : Nat → Int32) : Nat → Nat → Int32
  | 0 => f
  | i + 1 => rLk (rLkN f i) i
def rNtN (f : Nat → Int32) (a : Nat) : Nat → Nat → Int32
  | 0 => f
  | i + 1 => upd (rNtN f a i) (63 + 16 * i + a) (rNtN f a i (21 + 6 * i))
def rN5 (f : Nat → Int32) : Nat → Int32 := rNtN f (nN (f 1)) 5
def rT9 (f : Nat → Int32) : Nat → Int32 := upd f 9 (f 9 + 1)
def rTk (f : Nat → Int32) : Nat → Int32 := rT9 (rN5 (rLkN (rMvN (rDr (rT0 f)) 5) 5))
theorem rNt_1 (f : Nat → Int32) (a : Nat) : ∀ i, rNtN f a i 1 = f 1
  | 0 => rfl
  | i + 1 => (ex_upd (by omega)).trans (rNt_1 f a i)
theorem rOK_1 {f : Nat → Int32} {a : Nat} (h : rOK f) (ha : a < 16) : rOK (upd f 1 (nI a)) := by
  obtain ⟨⟨n, hn, en⟩, -, ⟨g, hg4, eg, ho⟩, hz⟩ := h
  refine ⟨⟨n, hn, (ex_upd (by omega)).trans en⟩, ⟨a, ha, if_pos rfl⟩, ⟨g, hg4, (ex_upd (by omega)).trans eg, fun j hj => ?_⟩, fun c hc5 => ?_⟩
  · obtain ⟨o, ho5, eo⟩ := ho j hj
    exact ⟨o, ho5, (ex_upd (by omega)).trans eo⟩
  · rw [ex_upd (by omega)]
    exact hz c hc5
theorem rOK_off {f : Nat → Int32} (h : rOK f) : rOK (rOff f) := by
  unfold rOff
  split
  · exact h
  · exact rOK_upd (rOK_upd h (by omega) (by omega) (by omega) (by intros; omega) (by intros; omega)) (by omega) (by omega) (by omega) (by intros; omega) (by intros; omega)
theorem rOK_T0 {f : Nat → Int32} (h : rOK f) : rOK (rT0 f) := by
  unfold rT0 rA3 rA2 rA1
  exact rOK_upd (rOK_off (rOK_upd (rOK_upd h (by omega) (by omega) (by omega) (by intros; omega) (by intros; omega)) (by omega) (by omega) (by omega) (by intros; omega) (by intros; omega))) (by omega) (by omega) (by omega) (by intros; omega) (by intros; omega)
theorem rD1_at {f : Nat → Int32} {n a : Nat} (hn : 2 ≤ n ∧ n ≤ 16) (en : f 0 = nI n) (ha : a < 16) (ea : f 1 = nI a) : f 1 + 1 - (f 1 + 1) / f 0 * f 0 = nI ((a + 1) % n) := by
  rw [ea, en, nI_1]
  exact pk_rem (by omega) (by omega) (by omega)
theorem rOK_dr {f : Nat → Int32} (h : rOK f) : rOK (rDr f) := by
  have h' := h
  obtain ⟨⟨n, hn, en⟩, ⟨a, ha, ea⟩, -, -⟩ := h'
  unfold rDr rH
  refine rOK_upd ?_ (by omega) (by omega) (by omega) (by intros; omega) (by intros; omega)
  split
  · refine rOK_upd ?_ (by omega) (by omega) (by omega) (by intros; omega) (by intros; omega)
    unfold rD1
    rw [rD1_at hn en ha ea]
    exact rOK_1 h (Nat.lt_of_lt_of_le (Nat.mod_lt _ (by omega)) hn.2)
  · split
    · unfold rS2 rS1
      exact rOK_upd (rOK_upd h (by omega) (by omega) (by omega) (by intros; omega) (by intros; omega)) (by omega) (by omega) (by omega) (by intros; omega) (by intros; omega)
    · exact h
theorem rOK_mv {f : Nat → Int32} {c : Nat} (hc : c < 5) (h : rOK f) : rOK (rMv f c) := by
  unfold rMv rM4 rM3 rM2 rM1
  split
  · exact rOK_upd (rOK_upd (rOK_upd (rOK_upd h (by omega) (by omega) (by omega) (by intros; omega) (by intros; omega)) (by omega) (by omega) (by omega) (by intros; omega) (by intros; omega)) (by omega) (by omega) (by omega) (by intros; omega) (by intros; omega)) (by omega) (by omega) (by omega) (by intros; omega) (by intros; omega)
  · exact rOK_upd h (by omega) (by omega) (by omega) (by intros; omega) (by intros; omega)
theorem rOK_lk {f : Nat → Int32} {c : Nat} (hc : c < 5) (h : rOK f) : rOK (rLk f c) := by
  unfold rLk rL3 rL2 rL1
  split
  · exact rOK_upd (rOK_upd (rOK_upd h (by omega) (by omega) (by omega) (by intros; omega) (by intros; omega)) (by omega) (by omega) (by omega) (by intros; omega) (by intros; omega)) (by omega) (by omega) (by omega) (by intros; omega) (by intros; omega)
  · exact h
theorem rOK_mvN {f : Nat → Int32} (h : rOK f) : ∀ {i : Nat}, i ≤ 5 → rOK (rMvN f i)
  | 0, _ => h
  | i + 1, hi => rOK_mv (by omega) (rOK_mvN h (by omega))
theorem rOK_lkN {f : Nat → Int32} (h : rOK f) : ∀ {i : Nat}, i ≤ 5 → rOK (rLkN f i)
  | 0, _ => h
  | i + 1, hi => rOK_lk (by omega) (rOK_lkN h (by omega))
theorem rOK_ntN {f : Nat → Int32} {a : Nat} (h : rOK f) : ∀ {i : Nat}, rOK (rNtN f a i)
  | 0 => h
  | i + 1 => rOK_upd (rOK_ntN h) (by omega) (by omega) (by omega) (by intros; omega) (by intros; omega)
theorem rOK_tk {f : Nat → Int32} (h : rOK f) : rOK (rTk f) := by
  unfold rTk rT9 rN5
  exact rOK_upd (rOK_ntN (rOK_lkN (rOK_mvN (rOK_dr (rOK_T0 h)) (by omega)) (by omega))) (by omega) (by omega) (by omega) (by intros; omega) (by intros; omega)
set_option maxHeartbeats 4000000 in
set_option maxRecDepth 100000 in
theorem c_X8_in (l : Launch) (D : va_G) (cs : zCs) (x lo hi : Int64)  : zM l D cs yX8_in cX8_in 6 (some FieldType.boolean) 0 0 0 0 [.long x, .long lo, .long hi] ([] : va_W) (some (.int (bI (lo ≤ x ∧ x ≤ hi)))) ([] : va_W) := by
  refine zM.of (own := RX8) (by decide) (Nat.le_of_ble_eq_true rfl) rfl ?_
  intro pq eq s mq below meth cq A ls hx hb hr hml hown hts hlk hnm hE hK hA hP hD hS hl
  have hl : lv_has ls 6 [(0, .long x), (2, .long lo), (4, .long hi)] := hl
  refine lv_lload_n hx hb dX8_in_0 rfl (lv_at hl 0 rfl) ?_
  refine lv_lload_n hx hb dX8_in_1 rfl (lv_at hl 1 rfl) ?_
  refine z_lcmp_lt (tgt := 17) hx hb dX8_in_2 dX8_in_3 (by decide) (fun c_1 => ?_) (fun c_1 => ?_)
  · skip
    refine lv_iconst (v := 0) hx hb dX8_in_17 (by decide) ?_
    exact z_zret hx hb hr hlk hK hP hD hS dX8_in_18 rfl (by rw [bI_f (fun h => absurd h.1 (Int64.not_le.mpr c_1))]) rfl
  · skip
    refine lv_lload_n hx hb dX8_in_6 rfl (lv_at hl 0 rfl) ?_
    refine lv_lload hx hb dX8_in_7 (lv_at hl 2 rfl) ?_
    refine z_lcmp_gt (tgt := 17) hx hb dX8_in_9 dX8_in_10 (by decide) (fun c_2 => ?_) (fun c_2 => ?_)
    · skip
      refine lv_iconst (v := 0) hx hb dX8_in_17 (by decide) ?_
      exact z_zret hx hb hr hlk hK hP hD hS dX8_in_18 rfl (by rw [bI_f (fun h => absurd h.2 (Int64.not_le.mpr c_2))]) rfl
    · skip
      refine lv_iconst (v := 1) hx hb dX8_in_13 (by decide) ?_
      refine lv_goto (tgt := 18) hx hb dX8_in_14 (by decide) ?_
      exact z_zret hx hb hr hlk hK hP hD hS dX8_in_18 rfl (by rw [bI_t ⟨Int64.not_lt.mp c_1, Int64.not_lt.mp c_2⟩]) rfl

set_option maxHeartbeats 4000000 in
set_option maxRecDepth 100000 in
theorem c_X8_isCylinder (l : Launch) (D : va_G) (cs : zCs) (x : Int32)  : zM l D cs yX8_isCylinder cX8_isCylinder 1 (some FieldType.boolean) 1 25 0 0 [.int x] ([] : va_W) (some (.int (bI (0 ≤ x ∧ x ≤ 4)))) ([] : va_W) := by
  refine zM.of (own := RX8) (by decide) (Nat.le_of_ble_eq_true rfl) rfl ?_
  intro pq eq s mq below meth cq A ls hx hb hr hml hown hts hlk hnm hE hK hA hP hD hS hl
  have hl : lv_has ls 1 [(0, .int x)] := hl
  refine lv_iload_n hx hb dX8_isCylinder_0 rfl (lv_at hl 0 rfl) ?_
  refine lv_i2l (v := x.toInt64) hx hb dX8_isCylinder_1 rfl ?_
  refine lv_lconst (v := 0) hx hb dX8_isCylinder_2 (by decide) ?_
  refine lv_ldc2 (v := 4) hx hb hown (hts _ w_ct_X8_38) dX8_isCylinder_3 ?_
  refine z_callS (wn := ([] : va_W)) ⟨hx, hb, hml, hown, hts⟩ zY_X8_in w_st_yX8_in w_ml_X8_40 [.long x.toInt64, .long 0, .long 4] [] (c_X8_in l D cs x.toInt64 0 4) hE hK hA hP hD hS [] rfl rfl rfl z_ins_nil rfl hl.1 (Nat.le_of_ble_eq_true rfl) ⟨Nat.le_of_ble_eq_true rfl, Nat.le_of_ble_eq_true rfl⟩ ⟨Nat.le_of_ble_eq_true rfl, Nat.le_of_ble_eq_true rfl⟩ dX8_isCylinder_6 (fun H locs hP hD hS => ?_)
  refine z_top (y := bI (0 ≤ x ∧ x ≤ 4)) (bI_congr (in64 (by decide) (by decide))) ?_
  exact z_zret hx hb hr hlk hK hP hD hS dX8_isCylinder_9 bI_nar rfl rfl

set_option maxHeartbeats 4000000 in
set_option maxRecDepth 100000 in
theorem c_X8_isStep (l : Launch) (D : va_G) (cs : zCs) (a : Nat → Nat) (V : Nat → Int32) (G : Nat → Nat → Int32) (x : Int32) (n : Nat) (h0 : G 0 0 = nI n) (hn : n < 1000) : zM l D cs yX8_isStep cX8_isStep 2 (some FieldType.boolean) 1 25 0 0 [.ref (a 0), .int x] (refW cs a V G) (some (.int (bI (0 ≤ x ∧ x ≤ (G 0) 0 - 1)))) (refW cs a V G) := by
  refine zM.of (own := RX8) (by decide) (Nat.le_of_ble_eq_true rfl) rfl ?_
  intro pq eq s mq below meth cq A ls hx hb hr hml hown hts hlk hnm hE hK hA hP hD hS hl
  have hl : lv_has ls 2 [(0, .ref (a 0)), (1, .int x)] := hl
  refine lv_iload_n hx hb dX8_isStep_0 rfl (lv_at hl 1 rfl) ?_
  refine lv_i2l (v := x.toInt64) hx hb dX8_isStep_1 rfl ?_
  refine lv_lconst (v := 0) hx hb dX8_isStep_2 (by decide) ?_
  refine lv_aload_n hx hb dX8_isStep_3 rfl (lv_at hl 0 rfl) ?_
  refine va_get (D := D) (ci := 8) (v := .ref (a 1)) (C := RX8) (T := TX8) (N := 13) hx hb hts wsI_X8 hown hK hP 0 rfl rfl 0 (by decide) (hts _ w_fl_X8_7) (fun _ h9 => h9) rfl dX8_isStep_4 ?_
  refine lv_iconst (v := 0) hx hb dX8_isStep_7 (by decide) ?_
  refine z_iald (k := 0) hx hb hK hP 1 rfl (by decide) (by first | decide | omega) dX8_isStep_8 ?_
  refine lv_i2l (v := ((G 0) 0).toInt64) hx hb dX8_isStep_9 rfl ?_
  refine lv_lconst (v := 1) hx hb dX8_isStep_10 (by decide) ?_
  refine lv_lsub hx hb dX8_isStep_11 ?_
  refine z_callS (wn := (refW cs a V G)) ⟨hx, hb, hml, hown, hts⟩ zY_X8_in w_st_yX8_in w_ml_X8_40 [.long x.toInt64, .long 0, .long ((((G 0) 0).toInt64) - 1)] [] (c_X8_in l D cs x.toInt64 0 ((((G 0) 0).toInt64) - 1)) hE hK hA hP hD hS [] rfl rfl rfl z_ins_nil rfl hl.1 (Nat.le_of_ble_eq_true rfl) ⟨Nat.le_of_ble_eq_true rfl, Nat.le_of_ble_eq_true rfl⟩ ⟨Nat.le_of_ble_eq_true rfl, Nat.le_of_ble_eq_true rfl⟩ dX8_isStep_12 (fun H locs hP hD hS => ?_)
  refine z_top (y := bI (0 ≤ x ∧ x ≤ (G 0) 0 - 1)) (bI_congr (in64 (by decide) (by rw [h0]; exact z_l1 (by omega)))) ?_
  exact z_zret hx hb hr hlk hK hP hD hS dX8_isStep_15 bI_nar rfl rfl

set_option maxHeartbeats 4000000 in
set_option maxRecDepth 100000 in
theorem c_X8_isGuard (l : Launch) (D : va_G) (cs : zCs) (a : Nat → Nat) (V : Nat → Int32) (G : Nat → Nat → Int32) (x : Int32) (n : Nat) (h8 : G 0 8 = nI n) (hn : n < 1000) : zM l D cs yX8_isGuard cX8_isGuard 2 (some FieldType.boolean) 1 25 0 0 [.ref (a 0), .int x] (refW cs a V G) (some (.int (bI (0 ≤ x ∧ x ≤ (G 0) 8 - 1)))) (refW cs a V G) := by
  refine zM.of (own := RX8) (by decide) (Nat.le_of_ble_eq_true rfl) rfl ?_
  intro pq eq s mq below meth cq A ls hx hb hr hml hown hts hlk hnm hE hK hA hP hD hS hl
  have hl : lv_has ls 2 [(0, .ref (a 0)), (1, .int x)] := hl
  refine lv_iload_n hx hb dX8_isGuard_0 rfl (lv_at hl 1 rfl) ?_
  refine lv_i2l (v := x.toInt64) hx hb dX8_isGuard_1 rfl ?_
  refine lv_lconst (v := 0) hx hb dX8_isGuard_2 (by decide) ?_
  refine lv_aload_n hx hb dX8_isGuard_3 rfl (lv_at hl 0 rfl) ?_
  refine va_get (D := D) (ci := 8) (v := .ref (a 1)) (C := RX8) (T := TX8) (N := 13) hx hb hts wsI_X8 hown hK hP 0 rfl rfl 0 (by decide) (hts _ w_fl_X8_7) (fun _ h9 => h9) rfl dX8_isGuard_4 ?_
  refine lv_bipush (v := 8) hx hb dX8_isGuard_7 (by decide) ?_
  refine z_iald (k := 8) hx hb hK hP 1 rfl (by decide) (by first | decide | omega) dX8_isGuard_9 ?_
  refine lv_i2l (v := ((G 0) 8).toInt64) hx hb dX8_isGuard_10 rfl ?_
  refine lv_lconst (v := 1) hx hb dX8_isGuard_11 (by decide) ?_
  refine lv_lsub hx hb dX8_isGuard_12 ?_
  refine z_callS (wn := (refW cs a V G)) ⟨hx, hb, hml, hown, hts⟩ zY_X8_in w_st_yX8_in w_ml_X8_40 [.long x.toInt64, .long 0, .long ((((G 0) 8).toInt64) - 1)] [] (c_X8_in l D cs x.toInt64 0 ((((G 0) 8).toInt64) - 1)) hE hK hA hP hD hS [] rfl rfl rfl z_ins_nil rfl hl.1 (Nat.le_of_ble_eq_true rfl) ⟨Nat.le_of_ble_eq_true rfl, Nat.le_of_ble_eq_true rfl⟩ ⟨Nat.le_of_ble_eq_true rfl, Nat.le_of_ble_eq_true rfl⟩ dX8_isGuard_13 (fun H locs hP hD hS => ?_)
  refine z_top (y := bI (0 ≤ x ∧ x ≤ (G 0) 8 - 1)) (bI_congr (in64 (by decide) (by rw [h8]; exact z_l1 (by omega)))) ?_
  exact z_zret hx hb hr hlk hK hP hD hS dX8_isGuard_16 bI_nar rfl rfl

set_option maxHeartbeats 4000000 in
set_option maxRecDepth 100000 in
theorem c_X8_thrown (l : Launch) (D : va_G) (cs : zCs) (a : Nat → Nat) (V : Nat → Int32) (G : Nat → Nat → Int32)  : zM l D cs yX8_thrown cX8_thrown 1 (some FieldType.int) 0 0 0 0 [.ref (a 0)] (refW cs a V G) (some (.int (V 1))) (refW cs a V G) := by
  refine zM.of (own := RX8) (by decide) (Nat.le_of_ble_eq_true rfl) rfl ?_
  intro pq eq s mq below meth cq A ls hx hb hr hml hown hts hlk hnm hE hK hA hP hD hS hl
  have hl : lv_has ls 1 [(0, .ref (a 0))] := hl
  refine lv_aload_n hx hb dX8_thrown_0 rfl (lv_at hl 0 rfl) ?_
  refine va_get (D := D) (ci := 8) (v := .int (V 1)) (C := RX8) (T := TX8) (N := 13) hx hb hts wsI_X8 hown hK hP 0 rfl rfl 4 (by decide) (hts _ w_fl_X8_31) (fun _ h9 => h9) rfl dX8_thrown_1 ?_
  exact z_iret hx hb hr hlk hK hP hD hS dX8_thrown_4 rfl rfl

set_option maxHeartbeats 4000000 in
set_option maxRecDepth 100000 in
theorem c_X8_fine (l : Launch) (D : va_G) (cs : zCs) (a : Nat → Nat) (V : Nat → Int32) (G : Nat → Nat → Int32) (x : Int32)  : zM l D cs yX8_fine cX8_fine 2 (some FieldType.int) 0 0 0 0 [.ref (a 0), .int x] (refW cs a V G) (some (.int x)) (refW cs a (upd V 1 0) G) := by
  refine zM.of (own := RX8) (by decide) (Nat.le_of_ble_eq_true rfl) rfl ?_
  intro pq eq s mq below meth cq A ls hx hb hr hml hown hts hlk hnm hE hK hA hP hD hS hl
  have hl : lv_has ls 2 [(0, .ref (a 0)), (1, .int x)] := hl
  refine lv_aload_n hx hb dX8_fine_0 rfl (lv_at hl 0 rfl) ?_
  refine lv_iconst (v := 0) hx hb dX8_fine_1 (by decide) ?_
  refine va_put (D := D) (ci := 8) (v := .int 0) (C := RX8) (T := TX8) (N := 13) hx hb hts wsI_X8 tyX8 tyX8_ok nmX8 hown hK hP hD hS 0 rfl rfl 4 (by decide) (hts _ w_fl_X8_31) (fun _ h9 => h9) rfl (tyX8_ok 4 (by decide)) rfl rfl (Nat.le_of_ble_eq_true rfl) dX8_fine_2 (fun H locs hP hD hS => ?_)
  have hP : va_P D vwCl (refW cs a (upd V 1 0) G) H := hP
  have hD : va_D A (refW cs a (upd V 1 0) G) := hD
  refine lv_iload_n hx hb dX8_fine_5 rfl (lv_at hl 1 rfl) ?_
  exact z_iret hx hb hr hlk hK hP hD hS dX8_fine_6 rfl rfl

set_option maxHeartbeats 4000000 in
set_option maxRecDepth 100000 in
theorem c_X8_throwing (l : Launch) (D : va_G) (cs : zCs) (a : Nat → Nat) (V : Nat → Int32) (G : Nat → Nat → Int32) (x : Int32)  : zM l D cs yX8_throwing cX8_throwing 2 (some FieldType.int) 0 0 0 0 [.ref (a 0), .int x] (refW cs a V G) (some (.int 0)) (refW cs a (upd V 1 x) G) := by
  refine zM.of (own := RX8) (by decide) (Nat.le_of_ble_eq_true rfl) rfl ?_
  intro pq eq s mq below meth cq A ls hx hb hr hml hown hts hlk hnm hE hK hA hP hD hS hl
  have hl : lv_has ls 2 [(0, .ref (a 0)), (1, .int x)] := hl
  refine lv_aload_n hx hb dX8_throwing_0 rfl (lv_at hl 0 rfl) ?_
  refine lv_iload_n hx hb dX8_throwing_1 rfl (lv_at hl 1 rfl) ?_
  refine va_put (D := D) (ci := 8) (v := .int x) (C := RX8) (T := TX8) (N := 13) hx hb hts wsI_X8 tyX8 tyX8_ok nmX8 hown hK hP hD hS 0 rfl rfl 4 (by decide) (hts _ w_fl_X8_31) (fun _ h9 => h9) rfl (tyX8_ok 4 (by decide)) rfl rfl (Nat.le_of_ble_eq_true rfl) dX8_throwing_2 (fun H locs hP hD hS => ?_)
  have hP : va_P D vwCl (refW cs a (upd V 1 x) G) H := hP
  have hD : va_D A (refW cs a (upd V 1 x) G) := hD
  refine lv_iconst (v := 0) hx hb dX8_throwing_5 (by decide) ?_
  exact z_iret hx hb hr hlk hK hP hD hS dX8_throwing_6 rfl rfl

set_option maxHeartbeats 4000000 in
set_option maxRecDepth 100000 in
theorem c_X8_out (l : Launch) (D : va_G) (cs : zCs) (a : Nat → Nat) (V : Nat → Int32) (G : Nat → Nat → Int32) (c : Nat) (hc : c < 5) : zM l D cs yX8_out cX8_out 2 (some FieldType.int) 0 0 0 0 [.ref (a 0), .int (nI c)] (refW cs a V G) (some (.int ((G 0) (21 + 6 * c)))) (refW cs a V G) := by
  refine zM.of (own := RX8) (by decide) (Nat.le_of_ble_eq_true rfl) rfl ?_
  intro pq eq s mq below meth cq A ls hx hb hr hml hown hts hlk hnm hE hK hA hP hD hS hl
  have hl : lv_has ls 2 [(0, .ref (a 0)), (1, .int (nI c))] := hl
  refine lv_aload_n hx hb dX8_out_0 rfl (lv_at hl 0 rfl) ?_
  refine va_get (D := D) (ci := 8) (v := .ref (a 1)) (C := RX8) (T := TX8) (N := 13) hx hb hts wsI_X8 hown hK hP 0 rfl rfl 0 (by decide) (hts _ w_fl_X8_7) (fun _ h9 => h9) rfl dX8_out_1 ?_
  refine lv_bipush (v := 21) hx hb dX8_out_4 (by decide) ?_
  refine lv_bipush (v := 6) hx hb dX8_out_6 (by decide) ?_
  refine lv_iload_n hx hb dX8_out_8 rfl (lv_at hl 1 rfl) ?_
  refine lv_imul hx hb dX8_out_9 ?_
  refine z_top (y := nI (6 * c)) (pk_mul 6 c) ?_
  refine lv_iadd hx hb dX8_out_10 ?_
  refine z_top (y := nI (21 + (6 * c))) (nI_add 21 (6 * c)) ?_
  refine z_iald (k := 21 + (6 * c)) hx hb hK hP 1 rfl (by omega) (by first | decide | omega) dX8_out_11 ?_
  exact z_iret hx hb hr hlk hK hP hD hS dX8_out_12 rfl rfl

set_option maxHeartbeats 4000000 in
set_option maxRecDepth 100000 in
theorem c_X8_hasCam (l : Launch) (D : va_G) (cs : zCs) (a : Nat → Nat) (V : Nat → Int32) (G : Nat → Nat → Int32) (k : Nat) (st : Int32) (hk : k < 5) : zM l D cs yX8_hasCam cX8_hasCam 3 (some FieldType.boolean) 0 0 0 0 [.ref (a 0), .int (nI k), .int st] (refW cs a V G) (some (.int (bI (rHas (G 0) k st)))) (refW cs a V G) := by
  refine zM.of (own := RX8) (by decide) (Nat.le_of_ble_eq_true rfl) rfl ?_
  intro pq eq s mq below meth cq A ls hx hb hr hml hown hts hlk hnm hE hK hA hP hD hS hl
  have hl : lv_has ls 3 [(0, .ref (a 0)), (1, .int (nI k)), (2, .int st)] := hl
  refine lv_aload_n hx hb dX8_hasCam_0 rfl (lv_at hl 0 rfl) ?_
  refine va_get (D := D) (ci := 8) (v := .ref (a 1)) (C := RX8) (T := TX8) (N := 13) hx hb hts wsI_X8 hown hK hP 0 rfl rfl 0 (by decide) (hts _ w_fl_X8_7) (fun _ h9 => h9) rfl dX8_hasCam_1 ?_
  refine lv_bipush (v := 16) hx hb dX8_hasCam_4 (by decide) ?_
  refine lv_iload_n hx hb dX8_hasCam_6 rfl (lv_at hl 1 rfl) ?_
  refine lv_iadd hx hb dX8_hasCam_7 ?_
  refine z_top (y := nI (16 + k)) (nI_add 16 k) ?_
  refine z_iald (k := 16 + k) hx hb hK hP 1 rfl (by omega) (by first | decide | omega) dX8_hasCam_8 ?_
  refine lv_iload_n hx hb dX8_hasCam_9 rfl (lv_at hl 2 rfl) ?_
  refine lv_ishr hx hb dX8_hasCam_10 ?_
  refine lv_iconst (v := 1) hx hb dX8_hasCam_11 (by decide) ?_
  refine lv_iand hx hb dX8_hasCam_12 ?_
  refine lv_iconst (v := 1) hx hb dX8_hasCam_13 (by decide) ?_
  refine lv_icmp_ne (tgt := 21) hx hb dX8_hasCam_14 (by decide) (fun c_1 => ?_) (fun c_1 => ?_)
  · skip
    refine lv_iconst (v := 0) hx hb dX8_hasCam_21 (by decide) ?_
    exact z_zret hx hb hr hlk hK hP hD hS dX8_hasCam_22 rfl (by rw [bI_f c_1]) rfl
  · skip
    refine lv_iconst (v := 1) hx hb dX8_hasCam_17 (by decide) ?_
    refine lv_goto (tgt := 22) hx hb dX8_hasCam_18 (by decide) ?_
    exact z_zret hx hb hr hlk hK hP hD hS dX8_hasCam_22 rfl (by rw [bI_t c_1]) rfl

set_option maxHeartbeats 4000000 in
set_option maxRecDepth 100000 in
theorem c_X8_camsOf (l : Launch) (D : va_G) (cs : zCs) (a : Nat → Nat) (V : Nat → Int32) (G : Nat → Nat → Int32) (k : Nat) (hk : k < 5) : zM l D cs yX8_camsOf cX8_camsOf 4 (some FieldType.int) 1 22 0 0 [.ref (a 0), .int (nI k)] (refW cs a V G) (some (.int (rCamsN (G 0) k 16))) (refW cs a V G) := by
  refine zM.of (own := RX8) (by decide) (Nat.le_of_ble_eq_true rfl) rfl ?_
  intro pq eq s mq below meth cq A ls hx hb hr hml hown hts hlk hnm hE hK hA hP hD hS hl
  have hl : lv_has ls 4 [(0, .ref (a 0)), (1, .int (nI k))] := hl
  refine lv_iconst (v := 0) hx hb dX8_camsOf_0 (by decide) ?_
  refine lv_istore_n (lv' := [(2, .int 0), (0, .ref (a 0)), (1, .int (nI k))]) hx hb dX8_camsOf_1 rfl hl (by decide) rfl (fun ls hl => ?_)
  refine lv_iconst (v := 0) hx hb dX8_camsOf_2 (by decide) ?_
  refine lv_istore_n (lv' := [(3, .int 0), (2, .int 0), (0, .ref (a 0)), (1, .int (nI k))]) hx hb dX8_camsOf_3 rfl hl (by decide) rfl (fun ls hl => ?_)
  have lp4 : ∀ (k9 : Nat) (i : Nat), (i ≤ 16) → (16 + 1 ≤ i + k9) → ∀ (H : Heap) (locs : List Loc) (ls : Array Slot), va_P D vwCl (refW cs a V G) H → va_D A (refW cs a V G) → va_S A s.heap H locs → lv_has ls 4 [(0, .ref (a 0)), (1, .int (nI k)), (2, .int (rCamsN (G 0) k i)), (3, .int (nI i))] → W pq l eq ({ frames := 1, cells := 0, slots := 0, locals := 22 } : Room) s mq ([.ref (a 0), .int (nI k)] : List Value).toArray below meth cq H locs 0 0 (MQ below (zQ D cs (some (.int (rCamsN (G 0) k 16))) (refW cs a V G) A) ([.ref (a 0), .int (nI k)] : List Value).toArray s 0 0 A) (F0 mq 4 ls []) := by
    intro k9
    induction k9 with
    | zero =>
      intro i hi1 hi2 H locs ls hP hD hS hl
      omega
    | succ k9 ih =>
      intro i hi1 hi2 H locs ls hP hD hS hl
      refine lv_iload_n hx hb dX8_camsOf_4 rfl (lv_at hl 3 rfl) ?_
      refine lv_bipush (v := 16) hx hb dX8_camsOf_5 (by decide) ?_
      refine lv_icmp_ge (tgt := 33) hx hb dX8_camsOf_7 (by decide) (fun c_1 => ?_) (fun c_1 => ?_)
      · skip
        refine lv_iload_n hx hb dX8_camsOf_33 rfl (lv_at hl 2 rfl) ?_
        exact z_iret hx hb hr hlk hK hP hD hS dX8_camsOf_34 (by rw [z_leK (n := 16) rfl (by omega) hi1 c_1]) rfl
      · skip
        have gi : i < 16 := z_geK (n := 16) rfl (by omega) hi1 c_1
        refine lv_iload_n hx hb dX8_camsOf_10 rfl (lv_at hl 2 rfl) ?_
        refine lv_aload_n hx hb dX8_camsOf_11 rfl (lv_at hl 0 rfl) ?_
        refine lv_iload_n hx hb dX8_camsOf_12 rfl (lv_at hl 1 rfl) ?_
        refine lv_iload_n hx hb dX8_camsOf_13 rfl (lv_at hl 3 rfl) ?_
        refine z_callV (wn := (refW cs a V G)) ⟨hx, hb, hml, hown, hts⟩ zY_X8_hasCam w_im_yX8_hasCam w_se_yX8_hasCam w_ml_X8_44 [.int (nI k), .int (nI i)] [.int (rCamsN (G 0) k i)] (c_X8_hasCam l D cs a V G k (nI i) hk) hE hK hA hP hD hS [0, 1, 2, 3, 4, 5, 6] rfl rfl rfl rfl 8 rfl rfl rfl rfl hl.1 (Nat.le_of_ble_eq_true rfl) ⟨Nat.le_of_ble_eq_true rfl, Nat.le_of_ble_eq_true rfl⟩ ⟨Nat.le_of_ble_eq_true rfl, Nat.le_of_ble_eq_true rfl⟩ dX8_camsOf_14 (fun H locs hP hD hS => ?_)
        refine lv_if_eq (tgt := 24) hx hb dX8_camsOf_17 (by decide) (fun c_2 => ?_) (fun c_2 => ?_)
        · skip
          have c_2 := bI_0.mp c_2
          refine lv_iconst (v := 0) hx hb dX8_camsOf_24 (by decide) ?_
          refine z_top (y := bI (rHas (G 0) k (nI i))) (bI_f c_2).symm ?_
          refine lv_iadd hx hb dX8_camsOf_25 ?_
          refine lv_istore_n (lv' := [(2, .int ((rCamsN (G 0) k i) + (bI (rHas (G 0) k (nI i))))), (0, .ref (a 0)), (1, .int (nI k)), (3, .int (nI i))]) hx hb dX8_camsOf_26 rfl hl (by decide) rfl (fun ls hl => ?_)
          refine lv_iinc (v := nI (i + 1)) (lv' := [(3, .int (nI (i + 1))), (2, .int ((rCamsN (G 0) k i) + (bI (rHas (G 0) k (nI i))))), (0, .ref (a 0)), (1, .int (nI k))]) hx hb dX8_camsOf_27 hl (k := 3) rfl (show nI i + Int32.ofInt 1 = nI (i + 1) from nI_add i 1) (by decide) rfl (fun ls hl => ?_)
          refine lv_goto (tgt := 4) hx hb dX8_camsOf_30 (by decide) ?_
          exact ih (i + 1) (by omega) (by omega) _ _ _ hP hD hS (lv_sub hl [2, 3, 1, 0] rfl)
        · skip
          have c_2 := bI_n0 c_2
          refine lv_iconst (v := 1) hx hb dX8_camsOf_20 (by decide) ?_
          refine lv_goto (tgt := 25) hx hb dX8_camsOf_21 (by decide) ?_
          refine z_top (y := bI (rHas (G 0) k (nI i))) (bI_t c_2).symm ?_
          refine lv_iadd hx hb dX8_camsOf_25 ?_
          refine lv_istore_n (lv' := [(2, .int ((rCamsN (G 0) k i) + (bI (rHas (G 0) k (nI i))))), (0, .ref (a 0)), (1, .int (nI k)), (3, .int (nI i))]) hx hb dX8_camsOf_26 rfl hl (by decide) rfl (fun ls hl => ?_)
          refine lv_iinc (v := nI (i + 1)) (lv' := [(3, .int (nI (i + 1))), (2, .int ((rCamsN (G 0) k i) + (bI (rHas (G 0) k (nI i))))), (0, .ref (a 0)), (1, .int (nI k))]) hx hb dX8_camsOf_27 hl (k := 3) rfl (show nI i + Int32.ofInt 1 = nI (i + 1) from nI_add i 1) (by decide) rfl (fun ls hl => ?_)
          refine lv_goto (tgt := 4) hx hb dX8_camsOf_30 (by decide) ?_
          exact ih (i + 1) (by omega) (by omega) _ _ _ hP hD hS (lv_sub hl [2, 3, 1, 0] rfl)
  exact lp4 (16 + 1) 0 (Nat.zero_le _) (by omega) _ _ _ hP hD hS (lv_sub hl [2, 3, 1, 0] rfl)

set_option maxHeartbeats 4000000 in
set_option maxRecDepth 100000 in
theorem c_X8_letsOff (l : Launch) (D : va_G) (cs : zCs) (a : Nat → Nat) (V : Nat → Int32) (G : Nat → Nat → Int32)  : zM l D cs yX8_letsOff cX8_letsOff 2 none 0 0 0 0 [.ref (a 0)] (refW cs a V G) none (refW cs a V (zU G 0 (rOff (G 0)))) := by
  refine zM.of (own := RX8) (by decide) (Nat.le_of_ble_eq_true rfl) rfl ?_
  intro pq eq s mq below meth cq A ls hx hb hr hml hown hts hlk hnm hE hK hA hP hD hS hl
  have hl : lv_has ls 2 [(0, .ref (a 0))] := hl
  refine lv_aload_n hx hb dX8_letsOff_0 rfl (lv_at hl 0 rfl) ?_
  refine va_get (D := D) (ci := 8) (v := .ref (a 1)) (C := RX8) (T := TX8) (N := 13) hx hb hts wsI_X8 hown hK hP 0 rfl rfl 0 (by decide) (hts _ w_fl_X8_7) (fun _ h9 => h9) rfl dX8_letsOff_1 ?_
  refine lv_iconst (v := 5) hx hb dX8_letsOff_4 (by decide) ?_
  refine z_iald (k := 5) hx hb hK hP 1 rfl (by decide) (by first | decide | omega) dX8_letsOff_5 ?_
  refine lv_aload_n hx hb dX8_letsOff_6 rfl (lv_at hl 0 rfl) ?_
  refine va_get (D := D) (ci := 8) (v := .ref (a 1)) (C := RX8) (T := TX8) (N := 13) hx hb hts wsI_X8 hown hK hP 0 rfl rfl 0 (by decide) (hts _ w_fl_X8_7) (fun _ h9 => h9) rfl dX8_letsOff_7 ?_
  refine lv_bipush (v := 6) hx hb dX8_letsOff_10 (by decide) ?_
  refine z_iald (k := 6) hx hb hK hP 1 rfl (by decide) (by first | decide | omega) dX8_letsOff_12 ?_
  refine lv_isub hx hb dX8_letsOff_13 ?_
  refine lv_istore_n (lv' := [(1, .int (((G 0) 5) - ((G 0) 6))), (0, .ref (a 0))]) hx hb dX8_letsOff_14 rfl hl (by decide) rfl (fun ls hl => ?_)
  refine lv_iload_n hx hb dX8_letsOff_15 rfl (lv_at hl 0 rfl) ?_
  refine lv_if_le (tgt := 40) hx hb dX8_letsOff_16 (by decide) (fun c_1 => ?_) (fun c_1 => ?_)
  · skip
    exact z_vret hx hb hr hlk hK hP hD hS dX8_letsOff_40 rfl (by unfold rOff; rw [if_pos c_1]; first | done | rfl)
  · skip
    refine lv_aload_n hx hb dX8_letsOff_19 rfl (lv_at hl 1 rfl) ?_
    refine va_get (D := D) (ci := 8) (v := .ref (a 1)) (C := RX8) (T := TX8) (N := 13) hx hb hts wsI_X8 hown hK hP 0 rfl rfl 0 (by decide) (hts _ w_fl_X8_7) (fun _ h9 => h9) rfl dX8_letsOff_20 ?_
    refine lv_iconst (v := 5) hx hb dX8_letsOff_23 (by decide) ?_
    refine lv_dup2_11 hx hb dX8_letsOff_24 rfl rfl ?_
    refine z_iald (k := 5) hx hb hK hP 1 rfl (by decide) (by first | decide | omega) dX8_letsOff_25 ?_
    refine lv_iload_n hx hb dX8_letsOff_26 rfl (lv_at hl 0 rfl) ?_
    refine lv_isub hx hb dX8_letsOff_27 ?_
    refine z_iast (k := 5) hx hb hK hP hD hS 1 rfl (by decide) (by first | decide | omega) dX8_letsOff_28 (fun H locs hP hD hS => ?_)
    have hP : va_P D vwCl (refW cs a V (zU G 0 (upd (G 0) 5 (((G 0) 5) - (((G 0) 5) - ((G 0) 6)))))) H := hP
    have hD : va_D A (refW cs a V (zU G 0 (upd (G 0) 5 (((G 0) 5) - (((G 0) 5) - ((G 0) 6)))))) := hD
    refine lv_aload_n hx hb dX8_letsOff_29 rfl (lv_at hl 1 rfl) ?_
    refine va_get (D := D) (ci := 8) (v := .ref (a 1)) (C := RX8) (T := TX8) (N := 13) hx hb hts wsI_X8 hown hK hP 0 rfl rfl 0 (by decide) (hts _ w_fl_X8_7) (fun _ h9 => h9) rfl dX8_letsOff_30 ?_
    refine lv_bipush (v := 13) hx hb dX8_letsOff_33 (by decide) ?_
    refine lv_dup2_11 hx hb dX8_letsOff_35 rfl rfl ?_
    refine z_iald (k := 13) hx hb hK hP 1 rfl (by decide) (by first | decide | omega) dX8_letsOff_36 ?_
    refine lv_iload_n hx hb dX8_letsOff_37 rfl (lv_at hl 0 rfl) ?_
    refine lv_iadd hx hb dX8_letsOff_38 ?_
    refine z_iast (k := 13) hx hb hK hP hD hS 1 rfl (by decide) (by first | decide | omega) dX8_letsOff_39 (fun H locs hP hD hS => ?_)
    have hP : va_P D vwCl (refW cs a V (zU G 0 (upd (upd (G 0) 5 (((G 0) 5) - (((G 0) 5) - ((G 0) 6)))) 13 (((upd (G 0) 5 (((G 0) 5) - (((G 0) 5) - ((G 0) 6)))) 13) + (((G 0) 5) - ((G 0) 6)))))) H := hP
    have hD : va_D A (refW cs a V (zU G 0 (upd (upd (G 0) 5 (((G 0) 5) - (((G 0) 5) - ((G 0) 6)))) 13 (((upd (G 0) 5 (((G 0) 5) - (((G 0) 5) - ((G 0) 6)))) 13) + (((G 0) 5) - ((G 0) 6)))))) := hD
    exact z_vret hx hb hr hlk hK hP hD hS dX8_letsOff_40 rfl (by unfold rOff; rw [if_neg c_1]; first | done | rfl)

set_option maxHeartbeats 4000000 in
set_option maxRecDepth 100000 in
theorem c_X8_holds (l : Launch) (D : va_G) (cs : zCs) (a : Nat → Nat) (V : Nat → Int32) (G : Nat → Nat → Int32) (g o : Nat) (hg : g < 4) (ho : o < 5) (eo : G 0 (51 + 3 * g + 1) = nI o) : zM l D cs yX8_holds cX8_holds 2 (some FieldType.boolean) 1 21 0 0 [.ref (a 0), .int (nI g)] (refW cs a V G) (some (.int (bI (rHolds (G 0) g)))) (refW cs a V G) := by
  refine zM.of (own := RX8) (by decide) (Nat.le_of_ble_eq_true rfl) rfl ?_
  intro pq eq s mq below meth cq A ls hx hb hr hml hown hts hlk hnm hE hK hA hP hD hS hl
  have hl : lv_has ls 2 [(0, .ref (a 0)), (1, .int (nI g))] := hl
  refine lv_aload_n hx hb dX8_holds_0 rfl (lv_at hl 0 rfl) ?_
  refine lv_aload_n hx hb dX8_holds_1 rfl (lv_at hl 0 rfl) ?_
  refine va_get (D := D) (ci := 8) (v := .ref (a 1)) (C := RX8) (T := TX8) (N := 13) hx hb hts wsI_X8 hown hK hP 0 rfl rfl 0 (by decide) (hts _ w_fl_X8_7) (fun _ h9 => h9) rfl dX8_holds_2 ?_
  refine lv_bipush (v := 51) hx hb dX8_holds_5 (by decide) ?_
  refine lv_iconst (v := 3) hx hb dX8_holds_7 (by decide) ?_
  refine lv_iload_n hx hb dX8_holds_8 rfl (lv_at hl 1 rfl) ?_
  refine lv_imul hx hb dX8_holds_9 ?_
  refine z_top (y := nI (3 * g)) (pk_mul 3 g) ?_
  refine lv_iadd hx hb dX8_holds_10 ?_
  refine z_top (y := nI (51 + (3 * g))) (nI_add 51 (3 * g)) ?_
  refine lv_iconst (v := 1) hx hb dX8_holds_11 (by decide) ?_
  refine lv_iadd hx hb dX8_holds_12 ?_
  refine z_top (y := nI ((51 + (3 * g)) + 1)) (nI_add (51 + (3 * g)) 1) ?_
  refine z_iald (k := (51 + (3 * g)) + 1) hx hb hK hP 1 rfl (by omega) (by first | decide | omega) dX8_holds_13 ?_
  refine z_top (y := nI o) eo ?_
  refine z_callV (wn := (refW cs a V G)) ⟨hx, hb, hml, hown, hts⟩ zY_X8_out w_im_yX8_out w_se_yX8_out w_ml_X8_76 [.int (nI o)] [] (c_X8_out l D cs a V G o ho) hE hK hA hP hD hS [0, 1, 2, 3, 4, 5, 6] rfl rfl rfl rfl 8 rfl rfl rfl rfl hl.1 (Nat.le_of_ble_eq_true rfl) ⟨Nat.le_of_ble_eq_true rfl, Nat.le_of_ble_eq_true rfl⟩ ⟨Nat.le_of_ble_eq_true rfl, Nat.le_of_ble_eq_true rfl⟩ dX8_holds_14 (fun H locs hP hD hS => ?_)
  refine lv_aload_n hx hb dX8_holds_17 rfl (lv_at hl 0 rfl) ?_
  refine va_get (D := D) (ci := 8) (v := .ref (a 1)) (C := RX8) (T := TX8) (N := 13) hx hb hts wsI_X8 hown hK hP 0 rfl rfl 0 (by decide) (hts _ w_fl_X8_7) (fun _ h9 => h9) rfl dX8_holds_18 ?_
  refine lv_bipush (v := 51) hx hb dX8_holds_21 (by decide) ?_
  refine lv_iconst (v := 3) hx hb dX8_holds_23 (by decide) ?_
  refine lv_iload_n hx hb dX8_holds_24 rfl (lv_at hl 1 rfl) ?_
  refine lv_imul hx hb dX8_holds_25 ?_
  refine z_top (y := nI (3 * g)) (pk_mul 3 g) ?_
  refine lv_iadd hx hb dX8_holds_26 ?_
  refine z_top (y := nI (51 + (3 * g))) (nI_add 51 (3 * g)) ?_
  refine lv_iconst (v := 2) hx hb dX8_holds_27 (by decide) ?_
  refine lv_iadd hx hb dX8_holds_28 ?_
  refine z_top (y := nI ((51 + (3 * g)) + 2)) (nI_add (51 + (3 * g)) 2) ?_
  refine z_iald (k := (51 + (3 * g)) + 2) hx hb hK hP 1 rfl (by omega) (by first | decide | omega) dX8_holds_29 ?_
  refine lv_icmp_le (tgt := 37) hx hb dX8_holds_30 (by decide) (fun c_1 => ?_) (fun c_1 => ?_)
  · skip
    refine lv_iconst (v := 0) hx hb dX8_holds_37 (by decide) ?_
    have hO : nN (G 0 (51 + 3 * g + 1)) = o := by rw [eo]; exact nN_nI (by omega)
    exact z_zret hx hb hr hlk hK hP hD hS dX8_holds_38 rfl (by rw [bI_f (by show ¬ (G 0 (51 + 3 * g + 2) < G 0 (21 + 6 * nN (G 0 (51 + 3 * g + 1)))); rw [hO]; exact Int32.not_lt.mpr c_1)]) rfl
  · skip
    refine lv_iconst (v := 1) hx hb dX8_holds_33 (by decide) ?_
    refine lv_goto (tgt := 38) hx hb dX8_holds_34 (by decide) ?_
    have hO : nN (G 0 (51 + 3 * g + 1)) = o := by rw [eo]; exact nN_nI (by omega)
    exact z_zret hx hb hr hlk hK hP hD hS dX8_holds_38 rfl (by rw [bI_t (by show G 0 (51 + 3 * g + 2) < G 0 (21 + 6 * nN (G 0 (51 + 3 * g + 1))); rw [hO]; exact Int32.not_le.mp c_1)]) rfl

set_option maxHeartbeats 4000000 in
set_option maxRecDepth 100000 in
theorem c_X8_mayMove (l : Launch) (D : va_G) (cs : zCs) (a : Nat → Nat) (V : Nat → Int32) (G : Nat → Nat → Int32) (c gn : Nat) (hc : c < 5) (hg4 : gn ≤ 4) (h8 : G 0 8 = nI gn) (ho : ∀ j, j < gn → ∃ o, o < 5 ∧ G 0 (51 + 3 * j + 1) = nI o) : zM l D cs yX8_mayMove cX8_mayMove 5 (some FieldType.int) 2 42 0 0 [.ref (a 0), .int (nI c)] (refW cs a V G) (some (.int (rMay (G 0) c))) (refW cs a V G) := by
  refine zM.of (own := RX8) (by decide) (Nat.le_of_ble_eq_true rfl) rfl ?_
  intro pq eq s mq below meth cq A ls hx hb hr hml hown hts hlk hnm hE hK hA hP hD hS hl
  have hl : lv_has ls 5 [(0, .ref (a 0)), (1, .int (nI c))] := hl
  refine lv_bipush (v := 100) hx hb dX8_mayMove_0 (by decide) ?_
  refine lv_aload_n hx hb dX8_mayMove_2 rfl (lv_at hl 0 rfl) ?_
  refine lv_iload_n hx hb dX8_mayMove_3 rfl (lv_at hl 1 rfl) ?_
  refine z_callV (wn := (refW cs a V G)) ⟨hx, hb, hml, hown, hts⟩ zY_X8_out w_im_yX8_out w_se_yX8_out w_ml_X8_76 [.int (nI c)] [.int 100] (c_X8_out l D cs a V G c hc) hE hK hA hP hD hS [0, 1, 2, 3, 4, 5, 6] rfl rfl rfl rfl 8 rfl rfl rfl rfl hl.1 (Nat.le_of_ble_eq_true rfl) ⟨Nat.le_of_ble_eq_true rfl, Nat.le_of_ble_eq_true rfl⟩ ⟨Nat.le_of_ble_eq_true rfl, Nat.le_of_ble_eq_true rfl⟩ dX8_mayMove_4 (fun H locs hP hD hS => ?_)
  refine lv_isub hx hb dX8_mayMove_7 ?_
  refine lv_istore_n (lv' := [(2, .int (100 - ((G 0) (21 + 6 * c)))), (0, .ref (a 0)), (1, .int (nI c))]) hx hb dX8_mayMove_8 rfl hl (by decide) rfl (fun ls hl => ?_)
  refine lv_iconst (v := 0) hx hb dX8_mayMove_9 (by decide) ?_
  refine lv_istore_n (lv' := [(3, .int 0), (2, .int (100 - ((G 0) (21 + 6 * c)))), (0, .ref (a 0)), (1, .int (nI c))]) hx hb dX8_mayMove_10 rfl hl (by decide) rfl (fun ls hl => ?_)
  have lp11 : ∀ (k : Nat) (g : Nat), (g ≤ gn) → (gn + 1 ≤ g + k) → ∀ (H : Heap) (locs : List Loc) (ls : Array Slot), va_P D vwCl (refW cs a V G) H → va_D A (refW cs a V G) → va_S A s.heap H locs → lv_has ls 5 [(0, .ref (a 0)), (1, .int (nI c)), (2, .int (rMayL (G 0) c g)), (3, .int (nI g))] → W pq l eq ({ frames := 2, cells := 0, slots := 0, locals := 42 } : Room) s mq ([.ref (a 0), .int (nI c)] : List Value).toArray below meth cq H locs 0 0 (MQ below (zQ D cs (some (.int (rMay (G 0) c))) (refW cs a V G) A) ([.ref (a 0), .int (nI c)] : List Value).toArray s 0 0 A) (F0 mq 11 ls []) := by
    intro k
    induction k with
    | zero =>
      intro g h1 h2 H locs ls hP hD hS hl
      omega
    | succ k ih =>
      intro g h1 h2 H locs ls hP hD hS hl
      refine lv_iload_n hx hb dX8_mayMove_11 rfl (lv_at hl 3 rfl) ?_
      refine lv_aload_n hx hb dX8_mayMove_12 rfl (lv_at hl 0 rfl) ?_
      refine va_get (D := D) (ci := 8) (v := .ref (a 1)) (C := RX8) (T := TX8) (N := 13) hx hb hts wsI_X8 hown hK hP 0 rfl rfl 0 (by decide) (hts _ w_fl_X8_7) (fun _ h9 => h9) rfl dX8_mayMove_13 ?_
      refine lv_bipush (v := 8) hx hb dX8_mayMove_16 (by decide) ?_
      refine z_iald (k := 8) hx hb hK hP 1 rfl (by decide) (by first | decide | omega) dX8_mayMove_18 ?_
      refine z_top (y := nI gn) h8 ?_
      refine lv_icmp_ge (tgt := 98) hx hb dX8_mayMove_19 (by decide) (fun c_1 => ?_) (fun c_1 => ?_)
      · skip
        refine lv_iload_n hx hb dX8_mayMove_98 rfl (lv_at hl 2 rfl) ?_
        have e8 : nN (G 0 8) = g := by rw [h8, nN_nI (by omega)]; have := (nI_leI (by omega) (by omega)).mp c_1; omega
        exact z_iret hx hb hr hlk hK hP hD hS dX8_mayMove_99 (by show some (Value.int (rMayL (G 0) c g)) = some (Value.int (rMayL (G 0) c (nN (G 0 8)))); rw [e8]) rfl
      · skip
        have h4 : g < gn := Nat.lt_of_not_le (fun h => c_1 ((nI_leI (by omega) (by omega)).mpr h))
        refine lv_aload_n hx hb dX8_mayMove_22 rfl (lv_at hl 0 rfl) ?_
        refine va_get (D := D) (ci := 8) (v := .ref (a 1)) (C := RX8) (T := TX8) (N := 13) hx hb hts wsI_X8 hown hK hP 0 rfl rfl 0 (by decide) (hts _ w_fl_X8_7) (fun _ h9 => h9) rfl dX8_mayMove_23 ?_
        refine lv_bipush (v := 51) hx hb dX8_mayMove_26 (by decide) ?_
        refine lv_iconst (v := 3) hx hb dX8_mayMove_28 (by decide) ?_
        refine lv_iload_n hx hb dX8_mayMove_29 rfl (lv_at hl 3 rfl) ?_
        refine lv_imul hx hb dX8_mayMove_30 ?_
        refine z_top (y := nI (3 * g)) (pk_mul 3 g) ?_
        refine lv_iadd hx hb dX8_mayMove_31 ?_
        refine z_top (y := nI (51 + (3 * g))) (nI_add 51 (3 * g)) ?_
        refine z_iald (k := 51 + (3 * g)) hx hb hK hP 1 rfl (by omega) (by first | decide | omega) dX8_mayMove_32 ?_
        refine lv_iload_n hx hb dX8_mayMove_33 rfl (lv_at hl 1 rfl) ?_
        refine lv_icmp_ne (tgt := 92) hx hb dX8_mayMove_34 (by decide) (fun c_2 => ?_) (fun c_2 => ?_)
        · skip
          refine lv_iinc (v := nI (g + 1)) (lv' := [(3, .int (nI (g + 1))), (0, .ref (a 0)), (1, .int (nI c)), (2, .int (rMayL (G 0) c g))]) hx hb dX8_mayMove_92 hl (k := 3) rfl (show nI g + Int32.ofInt 1 = nI (g + 1) from nI_add g 1) (by decide) rfl (fun ls hl => ?_)
          refine lv_goto (tgt := 11) hx hb dX8_mayMove_95 (by decide) ?_
          have e : rMayL (G 0) c (g + 1) = rMayL (G 0) c g := if_neg (fun h => c_2 h.1)
          rw [← e] at hl
          exact ih (g + 1) (by omega) (by omega) _ _ _ hP hD hS (lv_sub hl [1, 2, 3, 0] rfl)
        · skip
          refine lv_aload_n hx hb dX8_mayMove_37 rfl (lv_at hl 0 rfl) ?_
          refine lv_iload_n hx hb dX8_mayMove_38 rfl (lv_at hl 3 rfl) ?_
          obtain ⟨o, ho5, eo⟩ := ho g h4
          refine z_callV (wn := (refW cs a V G)) ⟨hx, hb, hml, hown, hts⟩ zY_X8_holds w_im_yX8_holds w_se_yX8_holds w_ml_X8_93 [.int (nI g)] [] (c_X8_holds l D cs a V G g o (by omega) ho5 eo) hE hK hA hP hD hS [0, 1, 2, 3, 4, 5, 6] rfl rfl rfl rfl 8 rfl rfl rfl rfl hl.1 (Nat.le_of_ble_eq_true rfl) ⟨Nat.le_of_ble_eq_true rfl, Nat.le_of_ble_eq_true rfl⟩ ⟨Nat.le_of_ble_eq_true rfl, Nat.le_of_ble_eq_true rfl⟩ dX8_mayMove_39 (fun H locs hP hD hS => ?_)
          refine lv_if_eq (tgt := 92) hx hb dX8_mayMove_42 (by decide) (fun c_3 => ?_) (fun c_3 => ?_)
          · skip
            have c_3 := bI_0.mp c_3
            refine lv_iinc (v := nI (g + 1)) (lv' := [(3, .int (nI (g + 1))), (0, .ref (a 0)), (1, .int (nI c)), (2, .int (rMayL (G 0) c g))]) hx hb dX8_mayMove_92 hl (k := 3) rfl (show nI g + Int32.ofInt 1 = nI (g + 1) from nI_add g 1) (by decide) rfl (fun ls hl => ?_)
            refine lv_goto (tgt := 11) hx hb dX8_mayMove_95 (by decide) ?_
            have e : rMayL (G 0) c (g + 1) = rMayL (G 0) c g := if_neg (fun h => c_3 h.2)
            rw [← e] at hl
            exact ih (g + 1) (by omega) (by omega) _ _ _ hP hD hS (lv_sub hl [1, 2, 3, 0] rfl)
          · skip
            have c_3 := bI_n0 c_3
            refine lv_aload_n hx hb dX8_mayMove_45 rfl (lv_at hl 0 rfl) ?_
            refine va_get (D := D) (ci := 8) (v := .ref (a 1)) (C := RX8) (T := TX8) (N := 13) hx hb hts wsI_X8 hown hK hP 0 rfl rfl 0 (by decide) (hts _ w_fl_X8_7) (fun _ h9 => h9) rfl dX8_mayMove_46 ?_
            refine lv_bipush (v := 51) hx hb dX8_mayMove_49 (by decide) ?_
            refine lv_iconst (v := 3) hx hb dX8_mayMove_51 (by decide) ?_
            refine lv_iload_n hx hb dX8_mayMove_52 rfl (lv_at hl 3 rfl) ?_
            refine lv_imul hx hb dX8_mayMove_53 ?_
            refine z_top (y := nI (3 * g)) (pk_mul 3 g) ?_
            refine lv_iadd hx hb dX8_mayMove_54 ?_
            refine z_top (y := nI (51 + (3 * g))) (nI_add 51 (3 * g)) ?_
            refine lv_iconst (v := 2) hx hb dX8_mayMove_55 (by decide) ?_
            refine lv_iadd hx hb dX8_mayMove_56 ?_
            refine z_top (y := nI ((51 + (3 * g)) + 2)) (nI_add (51 + (3 * g)) 2) ?_
            refine z_iald (k := (51 + (3 * g)) + 2) hx hb hK hP 1 rfl (by omega) (by first | decide | omega) dX8_mayMove_57 ?_
            refine lv_aload_n hx hb dX8_mayMove_58 rfl (lv_at hl 0 rfl) ?_
            refine lv_iload_n hx hb dX8_mayMove_59 rfl (lv_at hl 1 rfl) ?_
            refine z_callV (wn := (refW cs a V G)) ⟨hx, hb, hml, hown, hts⟩ zY_X8_out w_im_yX8_out w_se_yX8_out w_ml_X8_76 [.int (nI c)] [.int ((G 0) ((51 + (3 * g)) + 2))] (c_X8_out l D cs a V G c hc) hE hK hA hP hD hS [0, 1, 2, 3, 4, 5, 6] rfl rfl rfl rfl 8 rfl rfl rfl rfl hl.1 (Nat.le_of_ble_eq_true rfl) ⟨Nat.le_of_ble_eq_true rfl, Nat.le_of_ble_eq_true rfl⟩ ⟨Nat.le_of_ble_eq_true rfl, Nat.le_of_ble_eq_true rfl⟩ dX8_mayMove_60 (fun H locs hP hD hS => ?_)
            refine lv_isub hx hb dX8_mayMove_63 ?_
            refine lv_istore (lv' := [(4, .int (((G 0) ((51 + (3 * g)) + 2)) - ((G 0) (21 + 6 * c)))), (0, .ref (a 0)), (1, .int (nI c)), (2, .int (rMayL (G 0) c g)), (3, .int (nI g))]) hx hb dX8_mayMove_64 hl (by decide) rfl (fun ls hl => ?_)
            refine lv_iload hx hb dX8_mayMove_66 (lv_at hl 0 rfl) ?_
            refine lv_if_ge (tgt := 75) hx hb dX8_mayMove_68 (by decide) (fun c_4 => ?_) (fun c_4 => ?_)
            · skip
              refine lv_iload hx hb dX8_mayMove_75 (lv_at hl 0 rfl) ?_
              refine z_top (y := rpos ((G 0) (51 + 3 * g + 2) - (G 0) (21 + 6 * c))) ((if_pos c_4).symm) ?_
              refine lv_istore (lv' := [(4, .int (rpos ((G 0) (51 + 3 * g + 2) - (G 0) (21 + 6 * c)))), (0, .ref (a 0)), (1, .int (nI c)), (2, .int (rMayL (G 0) c g)), (3, .int (nI g))]) hx hb dX8_mayMove_77 hl (by decide) rfl (fun ls hl => ?_)
              refine lv_iload hx hb dX8_mayMove_79 (lv_at hl 0 rfl) ?_
              refine lv_iload_n hx hb dX8_mayMove_81 rfl (lv_at hl 3 rfl) ?_
              refine lv_icmp_ge (tgt := 90) hx hb dX8_mayMove_82 (by decide) (fun c_5 => ?_) (fun c_5 => ?_)
              · skip
                refine lv_iload_n hx hb dX8_mayMove_90 rfl (lv_at hl 3 rfl) ?_
                refine z_top (y := rmn (rpos ((G 0) (51 + 3 * g + 2) - (G 0) (21 + 6 * c))) (rMayL (G 0) c g)) ((if_pos c_5).symm) ?_
                refine lv_istore_n (lv' := [(2, .int (rmn (rpos ((G 0) (51 + 3 * g + 2) - (G 0) (21 + 6 * c))) (rMayL (G 0) c g))), (4, .int (rpos ((G 0) (51 + 3 * g + 2) - (G 0) (21 + 6 * c)))), (0, .ref (a 0)), (1, .int (nI c)), (3, .int (nI g))]) hx hb dX8_mayMove_91 rfl hl (by decide) rfl (fun ls hl => ?_)
                refine lv_iinc (v := nI (g + 1)) (lv' := [(3, .int (nI (g + 1))), (2, .int (rmn (rpos ((G 0) (51 + 3 * g + 2) - (G 0) (21 + 6 * c))) (rMayL (G 0) c g))), (4, .int (rpos ((G 0) (51 + 3 * g + 2) - (G 0) (21 + 6 * c)))), (0, .ref (a 0)), (1, .int (nI c))]) hx hb dX8_mayMove_92 hl (k := 4) rfl (show nI g + Int32.ofInt 1 = nI (g + 1) from nI_add g 1) (by decide) rfl (fun ls hl => ?_)
                refine lv_goto (tgt := 11) hx hb dX8_mayMove_95 (by decide) ?_
                have e : rMayL (G 0) c (g + 1) = rmn (rpos ((G 0) (51 + 3 * g + 2) - (G 0) (21 + 6 * c))) (rMayL (G 0) c g) := if_pos ⟨c_2, c_3⟩
                rw [← e] at hl
                exact ih (g + 1) (by omega) (by omega) _ _ _ hP hD hS (lv_sub hl [3, 4, 1, 0] rfl)
              · skip
                refine lv_iload hx hb dX8_mayMove_85 (lv_at hl 0 rfl) ?_
                refine lv_goto (tgt := 91) hx hb dX8_mayMove_87 (by decide) ?_
                refine z_top (y := rmn (rpos ((G 0) (51 + 3 * g + 2) - (G 0) (21 + 6 * c))) (rMayL (G 0) c g)) ((if_neg c_5).symm) ?_
                refine lv_istore_n (lv' := [(2, .int (rmn (rpos ((G 0) (51 + 3 * g + 2) - (G 0) (21 + 6 * c))) (rMayL (G 0) c g))), (4, .int (rpos ((G 0) (51 + 3 * g + 2) - (G 0) (21 + 6 * c)))), (0, .ref (a 0)), (1, .int (nI c)), (3, .int (nI g))]) hx hb dX8_mayMove_91 rfl hl (by decide) rfl (fun ls hl => ?_)
                refine lv_iinc (v := nI (g + 1)) (lv' := [(3, .int (nI (g + 1))), (2, .int (rmn (rpos ((G 0) (51 + 3 * g + 2) - (G 0) (21 + 6 * c))) (rMayL (G 0) c g))), (4, .int (rpos ((G 0) (51 + 3 * g + 2) - (G 0) (21 + 6 * c)))), (0, .ref (a 0)), (1, .int (nI c))]) hx hb dX8_mayMove_92 hl (k := 4) rfl (show nI g + Int32.ofInt 1 = nI (g + 1) from nI_add g 1) (by decide) rfl (fun ls hl => ?_)
                refine lv_goto (tgt := 11) hx hb dX8_mayMove_95 (by decide) ?_
                have e : rMayL (G 0) c (g + 1) = rmn (rpos ((G 0) (51 + 3 * g + 2) - (G 0) (21 + 6 * c))) (rMayL (G 0) c g) := if_pos ⟨c_2, c_3⟩
                rw [← e] at hl
                exact ih (g + 1) (by omega) (by omega) _ _ _ hP hD hS (lv_sub hl [3, 4, 1, 0] rfl)
            · skip
              refine lv_iconst (v := 0) hx hb dX8_mayMove_71 (by decide) ?_
              refine lv_goto (tgt := 77) hx hb dX8_mayMove_72 (by decide) ?_
              refine z_top (y := rpos ((G 0) (51 + 3 * g + 2) - (G 0) (21 + 6 * c))) ((if_neg c_4).symm) ?_
              refine lv_istore (lv' := [(4, .int (rpos ((G 0) (51 + 3 * g + 2) - (G 0) (21 + 6 * c)))), (0, .ref (a 0)), (1, .int (nI c)), (2, .int (rMayL (G 0) c g)), (3, .int (nI g))]) hx hb dX8_mayMove_77 hl (by decide) rfl (fun ls hl => ?_)
              refine lv_iload hx hb dX8_mayMove_79 (lv_at hl 0 rfl) ?_
              refine lv_iload_n hx hb dX8_mayMove_81 rfl (lv_at hl 3 rfl) ?_
              refine lv_icmp_ge (tgt := 90) hx hb dX8_mayMove_82 (by decide) (fun c_6 => ?_) (fun c_6 => ?_)
              · skip
                refine lv_iload_n hx hb dX8_mayMove_90 rfl (lv_at hl 3 rfl) ?_
                refine z_top (y := rmn (rpos ((G 0) (51 + 3 * g + 2) - (G 0) (21 + 6 * c))) (rMayL (G 0) c g)) ((if_pos c_6).symm) ?_
                refine lv_istore_n (lv' := [(2, .int (rmn (rpos ((G 0) (51 + 3 * g + 2) - (G 0) (21 + 6 * c))) (rMayL (G 0) c g))), (4, .int (rpos ((G 0) (51 + 3 * g + 2) - (G 0) (21 + 6 * c)))), (0, .ref (a 0)), (1, .int (nI c)), (3, .int (nI g))]) hx hb dX8_mayMove_91 rfl hl (by decide) rfl (fun ls hl => ?_)
                refine lv_iinc (v := nI (g + 1)) (lv' := [(3, .int (nI (g + 1))), (2, .int (rmn (rpos ((G 0) (51 + 3 * g + 2) - (G 0) (21 + 6 * c))) (rMayL (G 0) c g))), (4, .int (rpos ((G 0) (51 + 3 * g + 2) - (G 0) (21 + 6 * c)))), (0, .ref (a 0)), (1, .int (nI c))]) hx hb dX8_mayMove_92 hl (k := 4) rfl (show nI g + Int32.ofInt 1 = nI (g + 1) from nI_add g 1) (by decide) rfl (fun ls hl => ?_)
                refine lv_goto (tgt := 11) hx hb dX8_mayMove_95 (by decide) ?_
                have e : rMayL (G 0) c (g + 1) = rmn (rpos ((G 0) (51 + 3 * g + 2) - (G 0) (21 + 6 * c))) (rMayL (G 0) c g) := if_pos ⟨c_2, c_3⟩
                rw [← e] at hl
                exact ih (g + 1) (by omega) (by omega) _ _ _ hP hD hS (lv_sub hl [3, 4, 1, 0] rfl)
              · skip
                refine lv_iload hx hb dX8_mayMove_85 (lv_at hl 0 rfl) ?_
                refine lv_goto (tgt := 91) hx hb dX8_mayMove_87 (by decide) ?_
                refine z_top (y := rmn (rpos ((G 0) (51 + 3 * g + 2) - (G 0) (21 + 6 * c))) (rMayL (G 0) c g)) ((if_neg c_6).symm) ?_
                refine lv_istore_n (lv' := [(2, .int (rmn (rpos ((G 0) (51 + 3 * g + 2) - (G 0) (21 + 6 * c))) (rMayL (G 0) c g))), (4, .int (rpos ((G 0) (51 + 3 * g + 2) - (G 0) (21 + 6 * c)))), (0, .ref (a 0)), (1, .int (nI c)), (3, .int (nI g))]) hx hb dX8_mayMove_91 rfl hl (by decide) rfl (fun ls hl => ?_)
                refine lv_iinc (v := nI (g + 1)) (lv' := [(3, .int (nI (g + 1))), (2, .int (rmn (rpos ((G 0) (51 + 3 * g + 2) - (G 0) (21 + 6 * c))) (rMayL (G 0) c g))), (4, .int (rpos ((G 0) (51 + 3 * g + 2) - (G 0) (21 + 6 * c)))), (0, .ref (a 0)), (1, .int (nI c))]) hx hb dX8_mayMove_92 hl (k := 4) rfl (show nI g + Int32.ofInt 1 = nI (g + 1) from nI_add g 1) (by decide) rfl (fun ls hl => ?_)
                refine lv_goto (tgt := 11) hx hb dX8_mayMove_95 (by decide) ?_
                have e : rMayL (G 0) c (g + 1) = rmn (rpos ((G 0) (51 + 3 * g + 2) - (G 0) (21 + 6 * c))) (rMayL (G 0) c g) := if_pos ⟨c_2, c_3⟩
                rw [← e] at hl
                exact ih (g + 1) (by omega) (by omega) _ _ _ hP hD hS (lv_sub hl [3, 4, 1, 0] rfl)
  exact lp11 (gn + 1) 0 (Nat.zero_le _) (by omega) _ _ _ hP hD hS (lv_sub hl [2, 3, 1, 0] rfl)

set_option maxHeartbeats 4000000 in
set_option maxRecDepth 100000 in
theorem c_X8_moves (l : Launch) (D : va_G) (cs : zCs) (a : Nat → Nat) (V : Nat → Int32) (G : Nat → Nat → Int32) (c : Nat) (hc : c < 5) (hok : rOK (G 0)) : zM l D cs yX8_moves cX8_moves 6 none 3 66 0 0 [.ref (a 0), .int (nI c)] (refW cs a V G) none (refW cs a V (zU G 0 (rMv (G 0) c))) := by
  refine zM.of (own := RX8) (by decide) (Nat.le_of_ble_eq_true rfl) rfl ?_
  intro pq eq s mq below meth cq A ls hx hb hr hml hown hts hlk hnm hE hK hA hP hD hS hl
  have hl : lv_has ls 6 [(0, .ref (a 0)), (1, .int (nI c))] := hl
  obtain ⟨-, -, ⟨gn, hg4, h8, ho⟩, hz⟩ := id hok
  refine lv_bipush (v := 21) hx hb dX8_moves_0 (by decide) ?_
  refine lv_bipush (v := 6) hx hb dX8_moves_2 (by decide) ?_
  refine lv_iload_n hx hb dX8_moves_4 rfl (lv_at hl 1 rfl) ?_
  refine lv_imul hx hb dX8_moves_5 ?_
  refine z_top (y := nI (6 * c)) (pk_mul 6 c) ?_
  refine lv_iadd hx hb dX8_moves_6 ?_
  refine z_top (y := nI (21 + (6 * c))) (nI_add 21 (6 * c)) ?_
  refine lv_istore_n (lv' := [(2, .int (nI (21 + (6 * c)))), (0, .ref (a 0)), (1, .int (nI c))]) hx hb dX8_moves_7 rfl hl (by decide) rfl (fun ls hl => ?_)
  refine lv_aload_n hx hb dX8_moves_8 rfl (lv_at hl 1 rfl) ?_
  refine va_get (D := D) (ci := 8) (v := .ref (a 1)) (C := RX8) (T := TX8) (N := 13) hx hb hts wsI_X8 hown hK hP 0 rfl rfl 0 (by decide) (hts _ w_fl_X8_7) (fun _ h9 => h9) rfl dX8_moves_9 ?_
  refine lv_iload_n hx hb dX8_moves_12 rfl (lv_at hl 0 rfl) ?_
  refine lv_iconst (v := 2) hx hb dX8_moves_13 (by decide) ?_
  refine lv_iadd hx hb dX8_moves_14 ?_
  refine z_top (y := nI ((21 + (6 * c)) + 2)) (nI_add (21 + (6 * c)) 2) ?_
  refine z_iald (k := (21 + (6 * c)) + 2) hx hb hK hP 1 rfl (by omega) (by first | decide | omega) dX8_moves_15 ?_
  refine lv_istore_n (lv' := [(3, .int ((G 0) ((21 + (6 * c)) + 2))), (2, .int (nI (21 + (6 * c)))), (0, .ref (a 0)), (1, .int (nI c))]) hx hb dX8_moves_16 rfl hl (by decide) rfl (fun ls hl => ?_)
  refine lv_aload_n hx hb dX8_moves_17 rfl (lv_at hl 2 rfl) ?_
  refine lv_iload_n hx hb dX8_moves_18 rfl (lv_at hl 3 rfl) ?_
  refine lv_aload_n hx hb dX8_moves_19 rfl (lv_at hl 2 rfl) ?_
  refine va_get (D := D) (ci := 8) (v := .ref (a 1)) (C := RX8) (T := TX8) (N := 13) hx hb hts wsI_X8 hown hK hP 0 rfl rfl 0 (by decide) (hts _ w_fl_X8_7) (fun _ h9 => h9) rfl dX8_moves_20 ?_
  refine lv_iconst (v := 1) hx hb dX8_moves_23 (by decide) ?_
  refine z_iald (k := 1) hx hb hK hP 1 rfl (by decide) (by first | decide | omega) dX8_moves_24 ?_
  refine z_callV (wn := (refW cs a V G)) ⟨hx, hb, hml, hown, hts⟩ zY_X8_hasCam w_im_yX8_hasCam w_se_yX8_hasCam w_ml_X8_44 [.int (nI c), .int ((G 0) 1)] [] (c_X8_hasCam l D cs a V G c ((G 0) 1) hc) hE hK hA hP hD hS [0, 1, 2, 3, 4, 5, 6] rfl rfl rfl rfl 8 rfl rfl rfl rfl hl.1 (Nat.le_of_ble_eq_true rfl) ⟨Nat.le_of_ble_eq_true rfl, Nat.le_of_ble_eq_true rfl⟩ ⟨Nat.le_of_ble_eq_true rfl, Nat.le_of_ble_eq_true rfl⟩ dX8_moves_25 (fun H locs hP hD hS => ?_)
  refine lv_if_ne (tgt := 61) hx hb dX8_moves_28 (by decide) (fun c_1 => ?_) (fun c_1 => ?_)
  · skip
    have c_1 := bI_n0 c_1
    refine lv_aload_n hx hb dX8_moves_61 rfl (lv_at hl 2 rfl) ?_
    refine lv_iload_n hx hb dX8_moves_62 rfl (lv_at hl 3 rfl) ?_
    refine z_callV (wn := (refW cs a V G)) ⟨hx, hb, hml, hown, hts⟩ zY_X8_mayMove w_im_yX8_mayMove w_se_yX8_mayMove w_ml_X8_96 [.int (nI c)] [] (c_X8_mayMove l D cs a V G c gn hc hg4 h8 ho) hE hK hA hP hD hS [0, 1, 2, 3, 4, 5, 6] rfl rfl rfl rfl 8 rfl rfl rfl rfl hl.1 (Nat.le_of_ble_eq_true rfl) ⟨Nat.le_of_ble_eq_true rfl, Nat.le_of_ble_eq_true rfl⟩ ⟨Nat.le_of_ble_eq_true rfl, Nat.le_of_ble_eq_true rfl⟩ dX8_moves_63 (fun H locs hP hD hS => ?_)
    refine lv_istore (lv' := [(4, .int (rMay (G 0) c)), (3, .int ((G 0) ((21 + (6 * c)) + 2))), (2, .int (nI (21 + (6 * c)))), (0, .ref (a 0)), (1, .int (nI c))]) hx hb dX8_moves_66 hl (by decide) rfl (fun ls hl => ?_)
    refine lv_aload_n hx hb dX8_moves_68 rfl (lv_at hl 3 rfl) ?_
    refine va_get (D := D) (ci := 8) (v := .ref (a 1)) (C := RX8) (T := TX8) (N := 13) hx hb hts wsI_X8 hown hK hP 0 rfl rfl 0 (by decide) (hts _ w_fl_X8_7) (fun _ h9 => h9) rfl dX8_moves_69 ?_
    refine lv_iconst (v := 5) hx hb dX8_moves_72 (by decide) ?_
    refine z_iald (k := 5) hx hb hK hP 1 rfl (by decide) (by first | decide | omega) dX8_moves_73 ?_
    refine lv_aload_n hx hb dX8_moves_74 rfl (lv_at hl 3 rfl) ?_
    refine va_get (D := D) (ci := 8) (v := .ref (a 1)) (C := RX8) (T := TX8) (N := 13) hx hb hts wsI_X8 hown hK hP 0 rfl rfl 0 (by decide) (hts _ w_fl_X8_7) (fun _ h9 => h9) rfl dX8_moves_75 ?_
    refine lv_iload_n hx hb dX8_moves_78 rfl (lv_at hl 2 rfl) ?_
    refine lv_iconst (v := 1) hx hb dX8_moves_79 (by decide) ?_
    refine lv_iadd hx hb dX8_moves_80 ?_
    refine z_top (y := nI ((21 + (6 * c)) + 1)) (nI_add (21 + (6 * c)) 1) ?_
    refine z_iald (k := (21 + (6 * c)) + 1) hx hb hK hP 1 rfl (by omega) (by first | decide | omega) dX8_moves_81 ?_
    refine lv_idiv hx hb dX8_moves_82 (hz c hc) ?_
    refine lv_istore (lv' := [(5, .int (((G 0) 5) / ((G 0) ((21 + (6 * c)) + 1)))), (4, .int (rMay (G 0) c)), (3, .int ((G 0) ((21 + (6 * c)) + 2))), (2, .int (nI (21 + (6 * c)))), (0, .ref (a 0)), (1, .int (nI c))]) hx hb dX8_moves_83 hl (by decide) rfl (fun ls hl => ?_)
    refine lv_iload_n hx hb dX8_moves_85 rfl (lv_at hl 2 rfl) ?_
    refine lv_iload hx hb dX8_moves_86 (lv_at hl 1 rfl) ?_
    refine lv_icmp_ge (tgt := 95) hx hb dX8_moves_88 (by decide) (fun c_2 => ?_) (fun c_2 => ?_)
    · skip
      refine lv_iload hx hb dX8_moves_95 (lv_at hl 1 rfl) ?_
      refine z_top (y := rmn ((G 0) (21 + 6 * c + 2)) (rMay (G 0) c)) ((if_pos c_2).symm) ?_
      refine lv_istore_n (lv' := [(3, .int (rmn ((G 0) (21 + 6 * c + 2)) (rMay (G 0) c))), (5, .int (((G 0) 5) / ((G 0) ((21 + (6 * c)) + 1)))), (4, .int (rMay (G 0) c)), (2, .int (nI (21 + (6 * c)))), (0, .ref (a 0)), (1, .int (nI c))]) hx hb dX8_moves_97 rfl hl (by decide) rfl (fun ls hl => ?_)
      refine lv_iload_n hx hb dX8_moves_98 rfl (lv_at hl 0 rfl) ?_
      refine lv_iload hx hb dX8_moves_99 (lv_at hl 1 rfl) ?_
      refine lv_icmp_ge (tgt := 108) hx hb dX8_moves_101 (by decide) (fun c_3 => ?_) (fun c_3 => ?_)
      · skip
        refine lv_iload hx hb dX8_moves_108 (lv_at hl 1 rfl) ?_
        refine z_top (y := rmn (rmn ((G 0) (21 + 6 * c + 2)) (rMay (G 0) c)) ((G 0) 5 / (G 0) (21 + 6 * c + 1))) ((if_pos c_3).symm) ?_
        refine z_top (y := rMd (G 0) c) rfl ?_
        refine lv_istore_n (lv' := [(3, .int (rMd (G 0) c)), (5, .int (((G 0) 5) / ((G 0) ((21 + (6 * c)) + 1)))), (4, .int (rMay (G 0) c)), (2, .int (nI (21 + (6 * c)))), (0, .ref (a 0)), (1, .int (nI c))]) hx hb dX8_moves_110 rfl hl (by decide) rfl (fun ls hl => ?_)
        refine lv_aload_n hx hb dX8_moves_111 rfl (lv_at hl 4 rfl) ?_
        refine va_get (D := D) (ci := 8) (v := .ref (a 1)) (C := RX8) (T := TX8) (N := 13) hx hb hts wsI_X8 hown hK hP 0 rfl rfl 0 (by decide) (hts _ w_fl_X8_7) (fun _ h9 => h9) rfl dX8_moves_112 ?_
        refine lv_iload_n hx hb dX8_moves_115 rfl (lv_at hl 3 rfl) ?_
        refine lv_dup2_11 hx hb dX8_moves_116 rfl rfl ?_
        refine z_iald (k := 21 + (6 * c)) hx hb hK hP 1 rfl (by omega) (by first | decide | omega) dX8_moves_117 ?_
        refine lv_iload_n hx hb dX8_moves_118 rfl (lv_at hl 0 rfl) ?_
        refine lv_iadd hx hb dX8_moves_119 ?_
        refine z_iast (k := 21 + (6 * c)) hx hb hK hP hD hS 1 rfl (by omega) (by first | decide | omega) dX8_moves_120 (fun H locs hP hD hS => ?_)
        have hP : va_P D vwCl (refW cs a V (zU G 0 (upd (G 0) (21 + (6 * c)) (((G 0) (21 + (6 * c))) + (rMd (G 0) c))))) H := hP
        have hD : va_D A (refW cs a V (zU G 0 (upd (G 0) (21 + (6 * c)) (((G 0) (21 + (6 * c))) + (rMd (G 0) c))))) := hD
        have hP : va_P D vwCl (refW cs a V (zU G 0 (rM1 (G 0) c (rMd (G 0) c)))) H := hP
        have hD : va_D A (refW cs a V (zU G 0 (rM1 (G 0) c (rMd (G 0) c)))) := hD
        refine lv_aload_n hx hb dX8_moves_121 rfl (lv_at hl 4 rfl) ?_
        refine va_get (D := D) (ci := 8) (v := .ref (a 1)) (C := RX8) (T := TX8) (N := 13) hx hb hts wsI_X8 hown hK hP 0 rfl rfl 0 (by decide) (hts _ w_fl_X8_7) (fun _ h9 => h9) rfl dX8_moves_122 ?_
        refine lv_iload_n hx hb dX8_moves_125 rfl (lv_at hl 3 rfl) ?_
        refine lv_iconst (v := 4) hx hb dX8_moves_126 (by decide) ?_
        refine lv_iadd hx hb dX8_moves_127 ?_
        refine z_top (y := nI ((21 + (6 * c)) + 4)) (nI_add (21 + (6 * c)) 4) ?_
        refine lv_dup2_11 hx hb dX8_moves_128 rfl rfl ?_
        refine z_iald (k := (21 + (6 * c)) + 4) hx hb hK hP 1 rfl (by omega) (by first | decide | omega) dX8_moves_129 ?_
        refine lv_aload_n hx hb dX8_moves_130 rfl (lv_at hl 4 rfl) ?_
        refine va_get (D := D) (ci := 8) (v := .ref (a 1)) (C := RX8) (T := TX8) (N := 13) hx hb hts wsI_X8 hown hK hP 0 rfl rfl 0 (by decide) (hts _ w_fl_X8_7) (fun _ h9 => h9) rfl dX8_moves_131 ?_
        refine lv_iload_n hx hb dX8_moves_134 rfl (lv_at hl 3 rfl) ?_
        refine lv_iconst (v := 1) hx hb dX8_moves_135 (by decide) ?_
        refine lv_iadd hx hb dX8_moves_136 ?_
        refine z_top (y := nI ((21 + (6 * c)) + 1)) (nI_add (21 + (6 * c)) 1) ?_
        refine z_iald (k := (21 + (6 * c)) + 1) hx hb hK hP 1 rfl (by omega) (by first | decide | omega) dX8_moves_137 ?_
        refine lv_iload_n hx hb dX8_moves_138 rfl (lv_at hl 0 rfl) ?_
        refine lv_imul hx hb dX8_moves_139 ?_
        refine lv_iadd hx hb dX8_moves_140 ?_
        refine z_iast (k := (21 + (6 * c)) + 4) hx hb hK hP hD hS 1 rfl (by omega) (by first | decide | omega) dX8_moves_141 (fun H locs hP hD hS => ?_)
        have hP : va_P D vwCl (refW cs a V (zU G 0 (upd (rM1 (G 0) c (rMd (G 0) c)) ((21 + (6 * c)) + 4) (((rM1 (G 0) c (rMd (G 0) c)) ((21 + (6 * c)) + 4)) + (((rM1 (G 0) c (rMd (G 0) c)) ((21 + (6 * c)) + 1)) * (rMd (G 0) c)))))) H := hP
        have hD : va_D A (refW cs a V (zU G 0 (upd (rM1 (G 0) c (rMd (G 0) c)) ((21 + (6 * c)) + 4) (((rM1 (G 0) c (rMd (G 0) c)) ((21 + (6 * c)) + 4)) + (((rM1 (G 0) c (rMd (G 0) c)) ((21 + (6 * c)) + 1)) * (rMd (G 0) c)))))) := hD
        have hP : va_P D vwCl (refW cs a V (zU G 0 (rM2 (rM1 (G 0) c (rMd (G 0) c)) c (rMd (G 0) c)))) H := hP
        have hD : va_D A (refW cs a V (zU G 0 (rM2 (rM1 (G 0) c (rMd (G 0) c)) c (rMd (G 0) c)))) := hD
        refine lv_aload_n hx hb dX8_moves_142 rfl (lv_at hl 4 rfl) ?_
        refine va_get (D := D) (ci := 8) (v := .ref (a 1)) (C := RX8) (T := TX8) (N := 13) hx hb hts wsI_X8 hown hK hP 0 rfl rfl 0 (by decide) (hts _ w_fl_X8_7) (fun _ h9 => h9) rfl dX8_moves_143 ?_
        refine lv_iconst (v := 5) hx hb dX8_moves_146 (by decide) ?_
        refine lv_dup2_11 hx hb dX8_moves_147 rfl rfl ?_
        refine z_iald (k := 5) hx hb hK hP 1 rfl (by decide) (by first | decide | omega) dX8_moves_148 ?_
        refine lv_aload_n hx hb dX8_moves_149 rfl (lv_at hl 4 rfl) ?_
        refine va_get (D := D) (ci := 8) (v := .ref (a 1)) (C := RX8) (T := TX8) (N := 13) hx hb hts wsI_X8 hown hK hP 0 rfl rfl 0 (by decide) (hts _ w_fl_X8_7) (fun _ h9 => h9) rfl dX8_moves_150 ?_
        refine lv_iload_n hx hb dX8_moves_153 rfl (lv_at hl 3 rfl) ?_
        refine lv_iconst (v := 1) hx hb dX8_moves_154 (by decide) ?_
        refine lv_iadd hx hb dX8_moves_155 ?_
        refine z_top (y := nI ((21 + (6 * c)) + 1)) (nI_add (21 + (6 * c)) 1) ?_
        refine z_iald (k := (21 + (6 * c)) + 1) hx hb hK hP 1 rfl (by omega) (by first | decide | omega) dX8_moves_156 ?_
        refine lv_iload_n hx hb dX8_moves_157 rfl (lv_at hl 0 rfl) ?_
        refine lv_imul hx hb dX8_moves_158 ?_
        refine lv_isub hx hb dX8_moves_159 ?_
        refine z_iast (k := 5) hx hb hK hP hD hS 1 rfl (by decide) (by first | decide | omega) dX8_moves_160 (fun H locs hP hD hS => ?_)
        have hP : va_P D vwCl (refW cs a V (zU G 0 (upd (rM2 (rM1 (G 0) c (rMd (G 0) c)) c (rMd (G 0) c)) 5 (((rM2 (rM1 (G 0) c (rMd (G 0) c)) c (rMd (G 0) c)) 5) - (((rM2 (rM1 (G 0) c (rMd (G 0) c)) c (rMd (G 0) c)) ((21 + (6 * c)) + 1)) * (rMd (G 0) c)))))) H := hP
        have hD : va_D A (refW cs a V (zU G 0 (upd (rM2 (rM1 (G 0) c (rMd (G 0) c)) c (rMd (G 0) c)) 5 (((rM2 (rM1 (G 0) c (rMd (G 0) c)) c (rMd (G 0) c)) 5) - (((rM2 (rM1 (G 0) c (rMd (G 0) c)) c (rMd (G 0) c)) ((21 + (6 * c)) + 1)) * (rMd (G 0) c)))))) := hD
        have hP : va_P D vwCl (refW cs a V (zU G 0 (rM3 (rM2 (rM1 (G 0) c (rMd (G 0) c)) c (rMd (G 0) c)) c (rMd (G 0) c)))) H := hP
        have hD : va_D A (refW cs a V (zU G 0 (rM3 (rM2 (rM1 (G 0) c (rMd (G 0) c)) c (rMd (G 0) c)) c (rMd (G 0) c)))) := hD
        refine lv_aload_n hx hb dX8_moves_161 rfl (lv_at hl 4 rfl) ?_
        refine va_get (D := D) (ci := 8) (v := .ref (a 1)) (C := RX8) (T := TX8) (N := 13) hx hb hts wsI_X8 hown hK hP 0 rfl rfl 0 (by decide) (hts _ w_fl_X8_7) (fun _ h9 => h9) rfl dX8_moves_162 ?_
        refine lv_bipush (v := 14) hx hb dX8_moves_165 (by decide) ?_
        refine lv_dup2_11 hx hb dX8_moves_167 rfl rfl ?_
        refine z_iald (k := 14) hx hb hK hP 1 rfl (by decide) (by first | decide | omega) dX8_moves_168 ?_
        refine lv_aload_n hx hb dX8_moves_169 rfl (lv_at hl 4 rfl) ?_
        refine va_get (D := D) (ci := 8) (v := .ref (a 1)) (C := RX8) (T := TX8) (N := 13) hx hb hts wsI_X8 hown hK hP 0 rfl rfl 0 (by decide) (hts _ w_fl_X8_7) (fun _ h9 => h9) rfl dX8_moves_170 ?_
        refine lv_iload_n hx hb dX8_moves_173 rfl (lv_at hl 3 rfl) ?_
        refine lv_iconst (v := 1) hx hb dX8_moves_174 (by decide) ?_
        refine lv_iadd hx hb dX8_moves_175 ?_
        refine z_top (y := nI ((21 + (6 * c)) + 1)) (nI_add (21 + (6 * c)) 1) ?_
        refine z_iald (k := (21 + (6 * c)) + 1) hx hb hK hP 1 rfl (by omega) (by first | decide | omega) dX8_moves_176 ?_
        refine lv_iload_n hx hb dX8_moves_177 rfl (lv_at hl 0 rfl) ?_
        refine lv_imul hx hb dX8_moves_178 ?_
        refine lv_iadd hx hb dX8_moves_179 ?_
        refine z_iast (k := 14) hx hb hK hP hD hS 1 rfl (by decide) (by first | decide | omega) dX8_moves_180 (fun H locs hP hD hS => ?_)
        have hP : va_P D vwCl (refW cs a V (zU G 0 (upd (rM3 (rM2 (rM1 (G 0) c (rMd (G 0) c)) c (rMd (G 0) c)) c (rMd (G 0) c)) 14 (((rM3 (rM2 (rM1 (G 0) c (rMd (G 0) c)) c (rMd (G 0) c)) c (rMd (G 0) c)) 14) + (((rM3 (rM2 (rM1 (G 0) c (rMd (G 0) c)) c (rMd (G 0) c)) c (rMd (G 0) c)) ((21 + (6 * c)) + 1)) * (rMd (G 0) c)))))) H := hP
        have hD : va_D A (refW cs a V (zU G 0 (upd (rM3 (rM2 (rM1 (G 0) c (rMd (G 0) c)) c (rMd (G 0) c)) c (rMd (G 0) c)) 14 (((rM3 (rM2 (rM1 (G 0) c (rMd (G 0) c)) c (rMd (G 0) c)) c (rMd (G 0) c)) 14) + (((rM3 (rM2 (rM1 (G 0) c (rMd (G 0) c)) c (rMd (G 0) c)) c (rMd (G 0) c)) ((21 + (6 * c)) + 1)) * (rMd (G 0) c)))))) := hD
        have hP : va_P D vwCl (refW cs a V (zU G 0 (rM4 (rM3 (rM2 (rM1 (G 0) c (rMd (G 0) c)) c (rMd (G 0) c)) c (rMd (G 0) c)) c (rMd (G 0) c)))) H := hP
        have hD : va_D A (refW cs a V (zU G 0 (rM4 (rM3 (rM2 (rM1 (G 0) c (rMd (G 0) c)) c (rMd (G 0) c)) c (rMd (G 0) c)) c (rMd (G 0) c)))) := hD
        exact z_vret hx hb hr hlk hK hP hD hS dX8_moves_181 rfl (by unfold rMv; rw [if_pos c_1])
      · skip
        refine lv_iload_n hx hb dX8_moves_104 rfl (lv_at hl 0 rfl) ?_
        refine lv_goto (tgt := 110) hx hb dX8_moves_105 (by decide) ?_
        refine z_top (y := rmn (rmn ((G 0) (21 + 6 * c + 2)) (rMay (G 0) c)) ((G 0) 5 / (G 0) (21 + 6 * c + 1))) ((if_neg c_3).symm) ?_
        refine z_top (y := rMd (G 0) c) rfl ?_
        refine lv_istore_n (lv' := [(3, .int (rMd (G 0) c)), (5, .int (((G 0) 5) / ((G 0) ((21 + (6 * c)) + 1)))), (4, .int (rMay (G 0) c)), (2, .int (nI (21 + (6 * c)))), (0, .ref (a 0)), (1, .int (nI c))]) hx hb dX8_moves_110 rfl hl (by decide) rfl (fun ls hl => ?_)
        refine lv_aload_n hx hb dX8_moves_111 rfl (lv_at hl 4 rfl) ?_
        refine va_get (D := D) (ci := 8) (v := .ref (a 1)) (C := RX8) (T := TX8) (N := 13) hx hb hts wsI_X8 hown hK hP 0 rfl rfl 0 (by decide) (hts _ w_fl_X8_7) (fun _ h9 => h9) rfl dX8_moves_112 ?_
        refine lv_iload_n hx hb dX8_moves_115 rfl (lv_at hl 3 rfl) ?_
        refine lv_dup2_11 hx hb dX8_moves_116 rfl rfl ?_
        refine z_iald (k := 21 + (6 * c)) hx hb hK hP 1 rfl (by omega) (by first | decide | omega) dX8_moves_117 ?_
        refine lv_iload_n hx hb dX8_moves_118 rfl (lv_at hl 0 rfl) ?_
        refine lv_iadd hx hb dX8_moves_119 ?_
        refine z_iast (k := 21 + (6 * c)) hx hb hK hP hD hS 1 rfl (by omega) (by first | decide | omega) dX8_moves_120 (fun H locs hP hD hS => ?_)
        have hP : va_P D vwCl (refW cs a V (zU G 0 (upd (G 0) (21 + (6 * c)) (((G 0) (21 + (6 * c))) + (rMd (G 0) c))))) H := hP
        have hD : va_D A (refW cs a V (zU G 0 (upd (G 0) (21 + (6 * c)) (((G 0) (21 + (6 * c))) + (rMd (G 0) c))))) := hD
        have hP : va_P D vwCl (refW cs a V (zU G 0 (rM1 (G 0) c (rMd (G 0) c)))) H := hP
        have hD : va_D A (refW cs a V (zU G 0 (rM1 (G 0) c (rMd (G 0) c)))) := hD
        refine lv_aload_n hx hb dX8_moves_121 rfl (lv_at hl 4 rfl) ?_
        refine va_get (D := D) (ci := 8) (v := .ref (a 1)) (C := RX8) (T := TX8) (N := 13) hx hb hts wsI_X8 hown hK hP 0 rfl rfl 0 (by decide) (hts _ w_fl_X8_7) (fun _ h9 => h9) rfl dX8_moves_122 ?_
        refine lv_iload_n hx hb dX8_moves_125 rfl (lv_at hl 3 rfl) ?_
        refine lv_iconst (v := 4) hx hb dX8_moves_126 (by decide) ?_
        refine lv_iadd hx hb dX8_moves_127 ?_
        refine z_top (y := nI ((21 + (6 * c)) + 4)) (nI_add (21 + (6 * c)) 4) ?_
        refine lv_dup2_11 hx hb dX8_moves_128 rfl rfl ?_
        refine z_iald (k := (21 + (6 * c)) + 4) hx hb hK hP 1 rfl (by omega) (by first | decide | omega) dX8_moves_129 ?_
        refine lv_aload_n hx hb dX8_moves_130 rfl (lv_at hl 4 rfl) ?_
        refine va_get (D := D) (ci := 8) (v := .ref (a 1)) (C := RX8) (T := TX8) (N := 13) hx hb hts wsI_X8 hown hK hP 0 rfl rfl 0 (by decide) (hts _ w_fl_X8_7) (fun _ h9 => h9) rfl dX8_moves_131 ?_
        refine lv_iload_n hx hb dX8_moves_134 rfl (lv_at hl 3 rfl) ?_
        refine lv_iconst (v := 1) hx hb dX8_moves_135 (by decide) ?_
        refine lv_iadd hx hb dX8_moves_136 ?_
        refine z_top (y := nI ((21 + (6 * c)) + 1)) (nI_add (21 + (6 * c)) 1) ?_
        refine z_iald (k := (21 + (6 * c)) + 1) hx hb hK hP 1 rfl (by omega) (by first | decide | omega) dX8_moves_137 ?_
        refine lv_iload_n hx hb dX8_moves_138 rfl (lv_at hl 0 rfl) ?_
        refine lv_imul hx hb dX8_moves_139 ?_
        refine lv_iadd hx hb dX8_moves_140 ?_
        refine z_iast (k := (21 + (6 * c)) + 4) hx hb hK hP hD hS 1 rfl (by omega) (by first | decide | omega) dX8_moves_141 (fun H locs hP hD hS => ?_)
        have hP : va_P D vwCl (refW cs a V (zU G 0 (upd (rM1 (G 0) c (rMd (G 0) c)) ((21 + (6 * c)) + 4) (((rM1 (G 0) c (rMd (G 0) c)) ((21 + (6 * c)) + 4)) + (((rM1 (G 0) c (rMd (G 0) c)) ((21 + (6 * c)) + 1)) * (rMd (G 0) c)))))) H := hP
        have hD : va_D A (refW cs a V (zU G 0 (upd (rM1 (G 0) c (rMd (G 0) c)) ((21 + (6 * c)) + 4) (((rM1 (G 0) c (rMd (G 0) c)) ((21 + (6 * c)) + 4)) + (((rM1 (G 0) c (rMd (G 0) c)) ((21 + (6 * c)) + 1)) * (rMd (G 0) c)))))) := hD
        have hP : va_P D vwCl (refW cs a V (zU G 0 (rM2 (rM1 (G 0) c (rMd (G 0) c)) c (rMd (G 0) c)))) H := hP
        have hD : va_D A (refW cs a V (zU G 0 (rM2 (rM1 (G 0) c (rMd (G 0) c)) c (rMd (G 0) c)))) := hD
        refine lv_aload_n hx hb dX8_moves_142 rfl (lv_at hl 4 rfl) ?_
        refine va_get (D := D) (ci := 8) (v := .ref (a 1)) (C := RX8) (T := TX8) (N := 13) hx hb hts wsI_X8 hown hK hP 0 rfl rfl 0 (by decide) (hts _ w_fl_X8_7) (fun _ h9 => h9) rfl dX8_moves_143 ?_
        refine lv_iconst (v := 5) hx hb dX8_moves_146 (by decide) ?_
        refine lv_dup2_11 hx hb dX8_moves_147 rfl rfl ?_
        refine z_iald (k := 5) hx hb hK hP 1 rfl (by decide) (by first | decide | omega) dX8_moves_148 ?_
        refine lv_aload_n hx hb dX8_moves_149 rfl (lv_at hl 4 rfl) ?_
        refine va_get (D := D) (ci := 8) (v := .ref (a 1)) (C := RX8) (T := TX8) (N := 13) hx hb hts wsI_X8 hown hK hP 0 rfl rfl 0 (by decide) (hts _ w_fl_X8_7) (fun _ h9 => h9) rfl dX8_moves_150 ?_
        refine lv_iload_n hx hb dX8_moves_153 rfl (lv_at hl 3 rfl) ?_
        refine lv_iconst (v := 1) hx hb dX8_moves_154 (by decide) ?_
        refine lv_iadd hx hb dX8_moves_155 ?_
        refine z_top (y := nI ((21 + (6 * c)) + 1)) (nI_add (21 + (6 * c)) 1) ?_
        refine z_iald (k := (21 + (6 * c)) + 1) hx hb hK hP 1 rfl (by omega) (by first | decide | omega) dX8_moves_156 ?_
        refine lv_iload_n hx hb dX8_moves_157 rfl (lv_at hl 0 rfl) ?_
        refine lv_imul hx hb dX8_moves_158 ?_
        refine lv_isub hx hb dX8_moves_159 ?_
        refine z_iast (k := 5) hx hb hK hP hD hS 1 rfl (by decide) (by first | decide | omega) dX8_moves_160 (fun H locs hP hD hS => ?_)
        have hP : va_P D vwCl (refW cs a V (zU G 0 (upd (rM2 (rM1 (G 0) c (rMd (G 0) c)) c (rMd (G 0) c)) 5 (((rM2 (rM1 (G 0) c (rMd (G 0) c)) c (rMd (G 0) c)) 5) - (((rM2 (rM1 (G 0) c (rMd (G 0) c)) c (rMd (G 0) c)) ((21 + (6 * c)) + 1)) * (rMd (G 0) c)))))) H := hP
        have hD : va_D A (refW cs a V (zU G 0 (upd (rM2 (rM1 (G 0) c (rMd (G 0) c)) c (rMd (G 0) c)) 5 (((rM2 (rM1 (G 0) c (rMd (G 0) c)) c (rMd (G 0) c)) 5) - (((rM2 (rM1 (G 0) c (rMd (G 0) c)) c (rMd (G 0) c)) ((21 + (6 * c)) + 1)) * (rMd (G 0) c)))))) := hD
        have hP : va_P D vwCl (refW cs a V (zU G 0 (rM3 (rM2 (rM1 (G 0) c (rMd (G 0) c)) c (rMd (G 0) c)) c (rMd (G 0) c)))) H := hP
        have hD : va_D A (refW cs a V (zU G 0 (rM3 (rM2 (rM1 (G 0) c (rMd (G 0) c)) c (rMd (G 0) c)) c (rMd (G 0) c)))) := hD
        refine lv_aload_n hx hb dX8_moves_161 rfl (lv_at hl 4 rfl) ?_
        refine va_get (D := D) (ci := 8) (v := .ref (a 1)) (C := RX8) (T := TX8) (N := 13) hx hb hts wsI_X8 hown hK hP 0 rfl rfl 0 (by decide) (hts _ w_fl_X8_7) (fun _ h9 => h9) rfl dX8_moves_162 ?_
        refine lv_bipush (v := 14) hx hb dX8_moves_165 (by decide) ?_
        refine lv_dup2_11 hx hb dX8_moves_167 rfl rfl ?_
        refine z_iald (k := 14) hx hb hK hP 1 rfl (by decide) (by first | decide | omega) dX8_moves_168 ?_
        refine lv_aload_n hx hb dX8_moves_169 rfl (lv_at hl 4 rfl) ?_
        refine va_get (D := D) (ci := 8) (v := .ref (a 1)) (C := RX8) (T := TX8) (N := 13) hx hb hts wsI_X8 hown hK hP 0 rfl rfl 0 (by decide) (hts _ w_fl_X8_7) (fun _ h9 => h9) rfl dX8_moves_170 ?_
        refine lv_iload_n hx hb dX8_moves_173 rfl (lv_at hl 3 rfl) ?_
        refine lv_iconst (v := 1) hx hb dX8_moves_174 (by decide) ?_
        refine lv_iadd hx hb dX8_moves_175 ?_
        refine z_top (y := nI ((21 + (6 * c)) + 1)) (nI_add (21 + (6 * c)) 1) ?_
        refine z_iald (k := (21 + (6 * c)) + 1) hx hb hK hP 1 rfl (by omega) (by first | decide | omega) dX8_moves_176 ?_
        refine lv_iload_n hx hb dX8_moves_177 rfl (lv_at hl 0 rfl) ?_
        refine lv_imul hx hb dX8_moves_178 ?_
        refine lv_iadd hx hb dX8_moves_179 ?_
        refine z_iast (k := 14) hx hb hK hP hD hS 1 rfl (by decide) (by first | decide | omega) dX8_moves_180 (fun H locs hP hD hS => ?_)
        have hP : va_P D vwCl (refW cs a V (zU G 0 (upd (rM3 (rM2 (rM1 (G 0) c (rMd (G 0) c)) c (rMd (G 0) c)) c (rMd (G 0) c)) 14 (((rM3 (rM2 (rM1 (G 0) c (rMd (G 0) c)) c (rMd (G 0) c)) c (rMd (G 0) c)) 14) + (((rM3 (rM2 (rM1 (G 0) c (rMd (G 0) c)) c (rMd (G 0) c)) c (rMd (G 0) c)) ((21 + (6 * c)) + 1)) * (rMd (G 0) c)))))) H := hP
        have hD : va_D A (refW cs a V (zU G 0 (upd (rM3 (rM2 (rM1 (G 0) c (rMd (G 0) c)) c (rMd (G 0) c)) c (rMd (G 0) c)) 14 (((rM3 (rM2 (rM1 (G 0) c (rMd (G 0) c)) c (rMd (G 0) c)) c (rMd (G 0) c)) 14) + (((rM3 (rM2 (rM1 (G 0) c (rMd (G 0) c)) c (rMd (G 0) c)) c (rMd (G 0) c)) ((21 + (6 * c)) + 1)) * (rMd (G 0) c)))))) := hD
        have hP : va_P D vwCl (refW cs a V (zU G 0 (rM4 (rM3 (rM2 (rM1 (G 0) c (rMd (G 0) c)) c (rMd (G 0) c)) c (rMd (G 0) c)) c (rMd (G 0) c)))) H := hP
        have hD : va_D A (refW cs a V (zU G 0 (rM4 (rM3 (rM2 (rM1 (G 0) c (rMd (G 0) c)) c (rMd (G 0) c)) c (rMd (G 0) c)) c (rMd (G 0) c)))) := hD
        exact z_vret hx hb hr hlk hK hP hD hS dX8_moves_181 rfl (by unfold rMv; rw [if_pos c_1])
    · skip
      refine lv_iload_n hx hb dX8_moves_91 rfl (lv_at hl 2 rfl) ?_
      refine lv_goto (tgt := 97) hx hb dX8_moves_92 (by decide) ?_
      refine z_top (y := rmn ((G 0) (21 + 6 * c + 2)) (rMay (G 0) c)) ((if_neg c_2).symm) ?_
      refine lv_istore_n (lv' := [(3, .int (rmn ((G 0) (21 + 6 * c + 2)) (rMay (G 0) c))), (5, .int (((G 0) 5) / ((G 0) ((21 + (6 * c)) + 1)))), (4, .int (rMay (G 0) c)), (2, .int (nI (21 + (6 * c)))), (0, .ref (a 0)), (1, .int (nI c))]) hx hb dX8_moves_97 rfl hl (by decide) rfl (fun ls hl => ?_)
      refine lv_iload_n hx hb dX8_moves_98 rfl (lv_at hl 0 rfl) ?_
      refine lv_iload hx hb dX8_moves_99 (lv_at hl 1 rfl) ?_
      refine lv_icmp_ge (tgt := 108) hx hb dX8_moves_101 (by decide) (fun c_4 => ?_) (fun c_4 => ?_)
      · skip
        refine lv_iload hx hb dX8_moves_108 (lv_at hl 1 rfl) ?_
        refine z_top (y := rmn (rmn ((G 0) (21 + 6 * c + 2)) (rMay (G 0) c)) ((G 0) 5 / (G 0) (21 + 6 * c + 1))) ((if_pos c_4).symm) ?_
        refine z_top (y := rMd (G 0) c) rfl ?_
        refine lv_istore_n (lv' := [(3, .int (rMd (G 0) c)), (5, .int (((G 0) 5) / ((G 0) ((21 + (6 * c)) + 1)))), (4, .int (rMay (G 0) c)), (2, .int (nI (21 + (6 * c)))), (0, .ref (a 0)), (1, .int (nI c))]) hx hb dX8_moves_110 rfl hl (by decide) rfl (fun ls hl => ?_)
        refine lv_aload_n hx hb dX8_moves_111 rfl (lv_at hl 4 rfl) ?_
        refine va_get (D := D) (ci := 8) (v := .ref (a 1)) (C := RX8) (T := TX8) (N := 13) hx hb hts wsI_X8 hown hK hP 0 rfl rfl 0 (by decide) (hts _ w_fl_X8_7) (fun _ h9 => h9) rfl dX8_moves_112 ?_
        refine lv_iload_n hx hb dX8_moves_115 rfl (lv_at hl 3 rfl) ?_
        refine lv_dup2_11 hx hb dX8_moves_116 rfl rfl ?_
        refine z_iald (k := 21 + (6 * c)) hx hb hK hP 1 rfl (by omega) (by first | decide | omega) dX8_moves_117 ?_
        refine lv_iload_n hx hb dX8_moves_118 rfl (lv_at hl 0 rfl) ?_
        refine lv_iadd hx hb dX8_moves_119 ?_
        refine z_iast (k := 21 + (6 * c)) hx hb hK hP hD hS 1 rfl (by omega) (by first | decide | omega) dX8_moves_120 (fun H locs hP hD hS => ?_)
        have hP : va_P D vwCl (refW cs a V (zU G 0 (upd (G 0) (21 + (6 * c)) (((G 0) (21 + (6 * c))) + (rMd (G 0) c))))) H := hP
        have hD : va_D A (refW cs a V (zU G 0 (upd (G 0) (21 + (6 * c)) (((G 0) (21 + (6 * c))) + (rMd (G 0) c))))) := hD
        have hP : va_P D vwCl (refW cs a V (zU G 0 (rM1 (G 0) c (rMd (G 0) c)))) H := hP
        have hD : va_D A (refW cs a V (zU G 0 (rM1 (G 0) c (rMd (G 0) c)))) := hD
        refine lv_aload_n hx hb dX8_moves_121 rfl (lv_at hl 4 rfl) ?_
        refine va_get (D := D) (ci := 8) (v := .ref (a 1)) (C := RX8) (T := TX8) (N := 13) hx hb hts wsI_X8 hown hK hP 0 rfl rfl 0 (by decide) (hts _ w_fl_X8_7) (fun _ h9 => h9) rfl dX8_moves_122 ?_
        refine lv_iload_n hx hb dX8_moves_125 rfl (lv_at hl 3 rfl) ?_
        refine lv_iconst (v := 4) hx hb dX8_moves_126 (by decide) ?_
        refine lv_iadd hx hb dX8_moves_127 ?_
        refine z_top (y := nI ((21 + (6 * c)) + 4)) (nI_add (21 + (6 * c)) 4) ?_
        refine lv_dup2_11 hx hb dX8_moves_128 rfl rfl ?_
        refine z_iald (k := (21 + (6 * c)) + 4) hx hb hK hP 1 rfl (by omega) (by first | decide | omega) dX8_moves_129 ?_
        refine lv_aload_n hx hb dX8_moves_130 rfl (lv_at hl 4 rfl) ?_
        refine va_get (D := D) (ci := 8) (v := .ref (a 1)) (C := RX8) (T := TX8) (N := 13) hx hb hts wsI_X8 hown hK hP 0 rfl rfl 0 (by decide) (hts _ w_fl_X8_7) (fun _ h9 => h9) rfl dX8_moves_131 ?_
        refine lv_iload_n hx hb dX8_moves_134 rfl (lv_at hl 3 rfl) ?_
        refine lv_iconst (v := 1) hx hb dX8_moves_135 (by decide) ?_
        refine lv_iadd hx hb dX8_moves_136 ?_
        refine z_top (y := nI ((21 + (6 * c)) + 1)) (nI_add (21 + (6 * c)) 1) ?_
        refine z_iald (k := (21 + (6 * c)) + 1) hx hb hK hP 1 rfl (by omega) (by first | decide | omega) dX8_moves_137 ?_
        refine lv_iload_n hx hb dX8_moves_138 rfl (lv_at hl 0 rfl) ?_
        refine lv_imul hx hb dX8_moves_139 ?_
        refine lv_iadd hx hb dX8_moves_140 ?_
        refine z_iast (k := (21 + (6 * c)) + 4) hx hb hK hP hD hS 1 rfl (by omega) (by first | decide | omega) dX8_moves_141 (fun H locs hP hD hS => ?_)
        have hP : va_P D vwCl (refW cs a V (zU G 0 (upd (rM1 (G 0) c (rMd (G 0) c)) ((21 + (6 * c)) + 4) (((rM1 (G 0) c (rMd (G 0) c)) ((21 + (6 * c)) + 4)) + (((rM1 (G 0) c (rMd (G 0) c)) ((21 + (6 * c)) + 1)) * (rMd (G 0) c)))))) H := hP
        have hD : va_D A (refW cs a V (zU G 0 (upd (rM1 (G 0) c (rMd (G 0) c)) ((21 + (6 * c)) + 4) (((rM1 (G 0) c (rMd (G 0) c)) ((21 + (6 * c)) + 4)) + (((rM1 (G 0) c (rMd (G 0) c)) ((21 + (6 * c)) + 1)) * (rMd (G 0) c)))))) := hD
        have hP : va_P D vwCl (refW cs a V (zU G 0 (rM2 (rM1 (G 0) c (rMd (G 0) c)) c (rMd (G 0) c)))) H := hP
        have hD : va_D A (refW cs a V (zU G 0 (rM2 (rM1 (G 0) c (rMd (G 0) c)) c (rMd (G 0) c)))) := hD
        refine lv_aload_n hx hb dX8_moves_142 rfl (lv_at hl 4 rfl) ?_
        refine va_get (D := D) (ci := 8) (v := .ref (a 1)) (C := RX8) (T := TX8) (N := 13) hx hb hts wsI_X8 hown hK hP 0 rfl rfl 0 (by decide) (hts _ w_fl_X8_7) (fun _ h9 => h9) rfl dX8_moves_143 ?_
        refine lv_iconst (v := 5) hx hb dX8_moves_146 (by decide) ?_
        refine lv_dup2_11 hx hb dX8_moves_147 rfl rfl ?_
        refine z_iald (k := 5) hx hb hK hP 1 rfl (by decide) (by first | decide | omega) dX8_moves_148 ?_
        refine lv_aload_n hx hb dX8_moves_149 rfl (lv_at hl 4 rfl) ?_
        refine va_get (D := D) (ci := 8) (v := .ref (a 1)) (C := RX8) (T := TX8) (N := 13) hx hb hts wsI_X8 hown hK hP 0 rfl rfl 0 (by decide) (hts _ w_fl_X8_7) (fun _ h9 => h9) rfl dX8_moves_150 ?_
        refine lv_iload_n hx hb dX8_moves_153 rfl (lv_at hl 3 rfl) ?_
        refine lv_iconst (v := 1) hx hb dX8_moves_154 (by decide) ?_
        refine lv_iadd hx hb dX8_moves_155 ?_
        refine z_top (y := nI ((21 + (6 * c)) + 1)) (nI_add (21 + (6 * c)) 1) ?_
        refine z_iald (k := (21 + (6 * c)) + 1) hx hb hK hP 1 rfl (by omega) (by first | decide | omega) dX8_moves_156 ?_
        refine lv_iload_n hx hb dX8_moves_157 rfl (lv_at hl 0 rfl) ?_
        refine lv_imul hx hb dX8_moves_158 ?_
        refine lv_isub hx hb dX8_moves_159 ?_
        refine z_iast (k := 5) hx hb hK hP hD hS 1 rfl (by decide) (by first | decide | omega) dX8_moves_160 (fun H locs hP hD hS => ?_)
        have hP : va_P D vwCl (refW cs a V (zU G 0 (upd (rM2 (rM1 (G 0) c (rMd (G 0) c)) c (rMd (G 0) c)) 5 (((rM2 (rM1 (G 0) c (rMd (G 0) c)) c (rMd (G 0) c)) 5) - (((rM2 (rM1 (G 0) c (rMd (G 0) c)) c (rMd (G 0) c)) ((21 + (6 * c)) + 1)) * (rMd (G 0) c)))))) H := hP
        have hD : va_D A (refW cs a V (zU G 0 (upd (rM2 (rM1 (G 0) c (rMd (G 0) c)) c (rMd (G 0) c)) 5 (((rM2 (rM1 (G 0) c (rMd (G 0) c)) c (rMd (G 0) c)) 5) - (((rM2 (rM1 (G 0) c (rMd (G 0) c)) c (rMd (G 0) c)) ((21 + (6 * c)) + 1)) * (rMd (G 0) c)))))) := hD
        have hP : va_P D vwCl (refW cs a V (zU G 0 (rM3 (rM2 (rM1 (G 0) c (rMd (G 0) c)) c (rMd (G 0) c)) c (rMd (G 0) c)))) H := hP
        have hD : va_D A (refW cs a V (zU G 0 (rM3 (rM2 (rM1 (G 0) c (rMd (G 0) c)) c (rMd (G 0) c)) c (rMd (G 0) c)))) := hD
        refine lv_aload_n hx hb dX8_moves_161 rfl (lv_at hl 4 rfl) ?_
        refine va_get (D := D) (ci := 8) (v := .ref (a 1)) (C := RX8) (T := TX8) (N := 13) hx hb hts wsI_X8 hown hK hP 0 rfl rfl 0 (by decide) (hts _ w_fl_X8_7) (fun _ h9 => h9) rfl dX8_moves_162 ?_
        refine lv_bipush (v := 14) hx hb dX8_moves_165 (by decide) ?_
        refine lv_dup2_11 hx hb dX8_moves_167 rfl rfl ?_
        refine z_iald (k := 14) hx hb hK hP 1 rfl (by decide) (by first | decide | omega) dX8_moves_168 ?_
        refine lv_aload_n hx hb dX8_moves_169 rfl (lv_at hl 4 rfl) ?_
        refine va_get (D := D) (ci := 8) (v := .ref (a 1)) (C := RX8) (T := TX8) (N := 13) hx hb hts wsI_X8 hown hK hP 0 rfl rfl 0 (by decide) (hts _ w_fl_X8_7) (fun _ h9 => h9) rfl dX8_moves_170 ?_
        refine lv_iload_n hx hb dX8_moves_173 rfl (lv_at hl 3 rfl) ?_
        refine lv_iconst (v := 1) hx hb dX8_moves_174 (by decide) ?_
        refine lv_iadd hx hb dX8_moves_175 ?_
        refine z_top (y := nI ((21 + (6 * c)) + 1)) (nI_add (21 + (6 * c)) 1) ?_
        refine z_iald (k := (21 + (6 * c)) + 1) hx hb hK hP 1 rfl (by omega) (by first | decide | omega) dX8_moves_176 ?_
        refine lv_iload_n hx hb dX8_moves_177 rfl (lv_at hl 0 rfl) ?_
        refine lv_imul hx hb dX8_moves_178 ?_
        refine lv_iadd hx hb dX8_moves_179 ?_
        refine z_iast (k := 14) hx hb hK hP hD hS 1 rfl (by decide) (by first | decide | omega) dX8_moves_180 (fun H locs hP hD hS => ?_)
        have hP : va_P D vwCl (refW cs a V (zU G 0 (upd (rM3 (rM2 (rM1 (G 0) c (rMd (G 0) c)) c (rMd (G 0) c)) c (rMd (G 0) c)) 14 (((rM3 (rM2 (rM1 (G 0) c (rMd (G 0) c)) c (rMd (G 0) c)) c (rMd (G 0) c)) 14) + (((rM3 (rM2 (rM1 (G 0) c (rMd (G 0) c)) c (rMd (G 0) c)) c (rMd (G 0) c)) ((21 + (6 * c)) + 1)) * (rMd (G 0) c)))))) H := hP
        have hD : va_D A (refW cs a V (zU G 0 (upd (rM3 (rM2 (rM1 (G 0) c (rMd (G 0) c)) c (rMd (G 0) c)) c (rMd (G 0) c)) 14 (((rM3 (rM2 (rM1 (G 0) c (rMd (G 0) c)) c (rMd (G 0) c)) c (rMd (G 0) c)) 14) + (((rM3 (rM2 (rM1 (G 0) c (rMd (G 0) c)) c (rMd (G 0) c)) c (rMd (G 0) c)) ((21 + (6 * c)) + 1)) * (rMd (G 0) c)))))) := hD
        have hP : va_P D vwCl (refW cs a V (zU G 0 (rM4 (rM3 (rM2 (rM1 (G 0) c (rMd (G 0) c)) c (rMd (G 0) c)) c (rMd (G 0) c)) c (rMd (G 0) c)))) H := hP
        have hD : va_D A (refW cs a V (zU G 0 (rM4 (rM3 (rM2 (rM1 (G 0) c (rMd (G 0) c)) c (rMd (G 0) c)) c (rMd (G 0) c)) c (rMd (G 0) c)))) := hD
        exact z_vret hx hb hr hlk hK hP hD hS dX8_moves_181 rfl (by unfold rMv; rw [if_pos c_1])
      · skip
        refine lv_iload_n hx hb dX8_moves_104 rfl (lv_at hl 0 rfl) ?_
        refine lv_goto (tgt := 110) hx hb dX8_moves_105 (by decide) ?_
        refine z_top (y := rmn (rmn ((G 0) (21 + 6 * c + 2)) (rMay (G 0) c)) ((G 0) 5 / (G 0) (21 + 6 * c + 1))) ((if_neg c_4).symm) ?_
        refine z_top (y := rMd (G 0) c) rfl ?_
        refine lv_istore_n (lv' := [(3, .int (rMd (G 0) c)), (5, .int (((G 0) 5) / ((G 0) ((21 + (6 * c)) + 1)))), (4, .int (rMay (G 0) c)), (2, .int (nI (21 + (6 * c)))), (0, .ref (a 0)), (1, .int (nI c))]) hx hb dX8_moves_110 rfl hl (by decide) rfl (fun ls hl => ?_)
        refine lv_aload_n hx hb dX8_moves_111 rfl (lv_at hl 4 rfl) ?_
        refine va_get (D := D) (ci := 8) (v := .ref (a 1)) (C := RX8) (T := TX8) (N := 13) hx hb hts wsI_X8 hown hK hP 0 rfl rfl 0 (by decide) (hts _ w_fl_X8_7) (fun _ h9 => h9) rfl dX8_moves_112 ?_
        refine lv_iload_n hx hb dX8_moves_115 rfl (lv_at hl 3 rfl) ?_
        refine lv_dup2_11 hx hb dX8_moves_116 rfl rfl ?_
        refine z_iald (k := 21 + (6 * c)) hx hb hK hP 1 rfl (by omega) (by first | decide | omega) dX8_moves_117 ?_
        refine lv_iload_n hx hb dX8_moves_118 rfl (lv_at hl 0 rfl) ?_
        refine lv_iadd hx hb dX8_moves_119 ?_
        refine z_iast (k := 21 + (6 * c)) hx hb hK hP hD hS 1 rfl (by omega) (by first | decide | omega) dX8_moves_120 (fun H locs hP hD hS => ?_)
        have hP : va_P D vwCl (refW cs a V (zU G 0 (upd (G 0) (21 + (6 * c)) (((G 0) (21 + (6 * c))) + (rMd (G 0) c))))) H := hP
        have hD : va_D A (refW cs a V (zU G 0 (upd (G 0) (21 + (6 * c)) (((G 0) (21 + (6 * c))) + (rMd (G 0) c))))) := hD
        have hP : va_P D vwCl (refW cs a V (zU G 0 (rM1 (G 0) c (rMd (G 0) c)))) H := hP
        have hD : va_D A (refW cs a V (zU G 0 (rM1 (G 0) c (rMd (G 0) c)))) := hD
        refine lv_aload_n hx hb dX8_moves_121 rfl (lv_at hl 4 rfl) ?_
        refine va_get (D := D) (ci := 8) (v := .ref (a 1)) (C := RX8) (T := TX8) (N := 13) hx hb hts wsI_X8 hown hK hP 0 rfl rfl 0 (by decide) (hts _ w_fl_X8_7) (fun _ h9 => h9) rfl dX8_moves_122 ?_
        refine lv_iload_n hx hb dX8_moves_125 rfl (lv_at hl 3 rfl) ?_
        refine lv_iconst (v := 4) hx hb dX8_moves_126 (by decide) ?_
        refine lv_iadd hx hb dX8_moves_127 ?_
        refine z_top (y := nI ((21 + (6 * c)) + 4)) (nI_add (21 + (6 * c)) 4) ?_
        refine lv_dup2_11 hx hb dX8_moves_128 rfl rfl ?_
        refine z_iald (k := (21 + (6 * c)) + 4) hx hb hK hP 1 rfl (by omega) (by first | decide | omega) dX8_moves_129 ?_
        refine lv_aload_n hx hb dX8_moves_130 rfl (lv_at hl 4 rfl) ?_
        refine va_get (D := D) (ci := 8) (v := .ref (a 1)) (C := RX8) (T := TX8) (N := 13) hx hb hts wsI_X8 hown hK hP 0 rfl rfl 0 (by decide) (hts _ w_fl_X8_7) (fun _ h9 => h9) rfl dX8_moves_131 ?_
        refine lv_iload_n hx hb dX8_moves_134 rfl (lv_at hl 3 rfl) ?_
        refine lv_iconst (v := 1) hx hb dX8_moves_135 (by decide) ?_
        refine lv_iadd hx hb dX8_moves_136 ?_
        refine z_top (y := nI ((21 + (6 * c)) + 1)) (nI_add (21 + (6 * c)) 1) ?_
        refine z_iald (k := (21 + (6 * c)) + 1) hx hb hK hP 1 rfl (by omega) (by first | decide | omega) dX8_moves_137 ?_
        refine lv_iload_n hx hb dX8_moves_138 rfl (lv_at hl 0 rfl) ?_
        refine lv_imul hx hb dX8_moves_139 ?_
        refine lv_iadd hx hb dX8_moves_140 ?_
        refine z_iast (k := (21 + (6 * c)) + 4) hx hb hK hP hD hS 1 rfl (by omega) (by first | decide | omega) dX8_moves_141 (fun H locs hP hD hS => ?_)
        have hP : va_P D vwCl (refW cs a V (zU G 0 (upd (rM1 (G 0) c (rMd (G 0) c)) ((21 + (6 * c)) + 4) (((rM1 (G 0) c (rMd (G 0) c)) ((21 + (6 * c)) + 4)) + (((rM1 (G 0) c (rMd (G 0) c)) ((21 + (6 * c)) + 1)) * (rMd (G 0) c)))))) H := hP
        have hD : va_D A (refW cs a V (zU G 0 (upd (rM1 (G 0) c (rMd (G 0) c)) ((21 + (6 * c)) + 4) (((rM1 (G 0) c (rMd (G 0) c)) ((21 + (6 * c)) + 4)) + (((rM1 (G 0) c (rMd (G 0) c)) ((21 + (6 * c)) + 1)) * (rMd (G 0) c)))))) := hD
        have hP : va_P D vwCl (refW cs a V (zU G 0 (rM2 (rM1 (G 0) c (rMd (G 0) c)) c (rMd (G 0) c)))) H := hP
        have hD : va_D A (refW cs a V (zU G 0 (rM2 (rM1 (G 0) c (rMd (G 0) c)) c (rMd (G 0) c)))) := hD
        refine lv_aload_n hx hb dX8_moves_142 rfl (lv_at hl 4 rfl) ?_
        refine va_get (D := D) (ci := 8) (v := .ref (a 1)) (C := RX8) (T := TX8) (N := 13) hx hb hts wsI_X8 hown hK hP 0 rfl rfl 0 (by decide) (hts _ w_fl_X8_7) (fun _ h9 => h9) rfl dX8_moves_143 ?_
        refine lv_iconst (v := 5) hx hb dX8_moves_146 (by decide) ?_
        refine lv_dup2_11 hx hb dX8_moves_147 rfl rfl ?_
        refine z_iald (k := 5) hx hb hK hP 1 rfl (by decide) (by first | decide | omega) dX8_moves_148 ?_
        refine lv_aload_n hx hb dX8_moves_149 rfl (lv_at hl 4 rfl) ?_
        refine va_get (D := D) (ci := 8) (v := .ref (a 1)) (C := RX8) (T := TX8) (N := 13) hx hb hts wsI_X8 hown hK hP 0 rfl rfl 0 (by decide) (hts _ w_fl_X8_7) (fun _ h9 => h9) rfl dX8_moves_150 ?_
        refine lv_iload_n hx hb dX8_moves_153 rfl (lv_at hl 3 rfl) ?_
        refine lv_iconst (v := 1) hx hb dX8_moves_154 (by decide) ?_
        refine lv_iadd hx hb dX8_moves_155 ?_
        refine z_top (y := nI ((21 + (6 * c)) + 1)) (nI_add (21 + (6 * c)) 1) ?_
        refine z_iald (k := (21 + (6 * c)) + 1) hx hb hK hP 1 rfl (by omega) (by first | decide | omega) dX8_moves_156 ?_
        refine lv_iload_n hx hb dX8_moves_157 rfl (lv_at hl 0 rfl) ?_
        refine lv_imul hx hb dX8_moves_158 ?_
        refine lv_isub hx hb dX8_moves_159 ?_
        refine z_iast (k := 5) hx hb hK hP hD hS 1 rfl (by decide) (by first | decide | omega) dX8_moves_160 (fun H locs hP hD hS => ?_)
        have hP : va_P D vwCl (refW cs a V (zU G 0 (upd (rM2 (rM1 (G 0) c (rMd (G 0) c)) c (rMd (G 0) c)) 5 (((rM2 (rM1 (G 0) c (rMd (G 0) c)) c (rMd (G 0) c)) 5) - (((rM2 (rM1 (G 0) c (rMd (G 0) c)) c (rMd (G 0) c)) ((21 + (6 * c)) + 1)) * (rMd (G 0) c)))))) H := hP
        have hD : va_D A (refW cs a V (zU G 0 (upd (rM2 (rM1 (G 0) c (rMd (G 0) c)) c (rMd (G 0) c)) 5 (((rM2 (rM1 (G 0) c (rMd (G 0) c)) c (rMd (G 0) c)) 5) - (((rM2 (rM1 (G 0) c (rMd (G 0) c)) c (rMd (G 0) c)) ((21 + (6 * c)) + 1)) * (rMd (G 0) c)))))) := hD
        have hP : va_P D vwCl (refW cs a V (zU G 0 (rM3 (rM2 (rM1 (G 0) c (rMd (G 0) c)) c (rMd (G 0) c)) c (rMd (G 0) c)))) H := hP
        have hD : va_D A (refW cs a V (zU G 0 (rM3 (rM2 (rM1 (G 0) c (rMd (G 0) c)) c (rMd (G 0) c)) c (rMd (G 0) c)))) := hD
        refine lv_aload_n hx hb dX8_moves_161 rfl (lv_at hl 4 rfl) ?_
        refine va_get (D := D) (ci := 8) (v := .ref (a 1)) (C := RX8) (T := TX8) (N := 13) hx hb hts wsI_X8 hown hK hP 0 rfl rfl 0 (by decide) (hts _ w_fl_X8_7) (fun _ h9 => h9) rfl dX8_moves_162 ?_
        refine lv_bipush (v := 14) hx hb dX8_moves_165 (by decide) ?_
        refine lv_dup2_11 hx hb dX8_moves_167 rfl rfl ?_
        refine z_iald (k := 14) hx hb hK hP 1 rfl (by decide) (by first | decide | omega) dX8_moves_168 ?_
        refine lv_aload_n hx hb dX8_moves_169 rfl (lv_at hl 4 rfl) ?_
        refine va_get (D := D) (ci := 8) (v := .ref (a 1)) (C := RX8) (T := TX8) (N := 13) hx hb hts wsI_X8 hown hK hP 0 rfl rfl 0 (by decide) (hts _ w_fl_X8_7) (fun _ h9 => h9) rfl dX8_moves_170 ?_
        refine lv_iload_n hx hb dX8_moves_173 rfl (lv_at hl 3 rfl) ?_
        refine lv_iconst (v := 1) hx hb dX8_moves_174 (by decide) ?_
        refine lv_iadd hx hb dX8_moves_175 ?_
        refine z_top (y := nI ((21 + (6 * c)) + 1)) (nI_add (21 + (6 * c)) 1) ?_
        refine z_iald (k := (21 + (6 * c)) + 1) hx hb hK hP 1 rfl (by omega) (by first | decide | omega) dX8_moves_176 ?_
        refine lv_iload_n hx hb dX8_moves_177 rfl (lv_at hl 0 rfl) ?_
        refine lv_imul hx hb dX8_moves_178 ?_
        refine lv_iadd hx hb dX8_moves_179 ?_
        refine z_iast (k := 14) hx hb hK hP hD hS 1 rfl (by decide) (by first | decide | omega) dX8_moves_180 (fun H locs hP hD hS => ?_)
        have hP : va_P D vwCl (refW cs a V (zU G 0 (upd (rM3 (rM2 (rM1 (G 0) c (rMd (G 0) c)) c (rMd (G 0) c)) c (rMd (G 0) c)) 14 (((rM3 (rM2 (rM1 (G 0) c (rMd (G 0) c)) c (rMd (G 0) c)) c (rMd (G 0) c)) 14) + (((rM3 (rM2 (rM1 (G 0) c (rMd (G 0) c)) c (rMd (G 0) c)) c (rMd (G 0) c)) ((21 + (6 * c)) + 1)) * (rMd (G 0) c)))))) H := hP
        have hD : va_D A (refW cs a V (zU G 0 (upd (rM3 (rM2 (rM1 (G 0) c (rMd (G 0) c)) c (rMd (G 0) c)) c (rMd (G 0) c)) 14 (((rM3 (rM2 (rM1 (G 0) c (rMd (G 0) c)) c (rMd (G 0) c)) c (rMd (G 0) c)) 14) + (((rM3 (rM2 (rM1 (G 0) c (rMd (G 0) c)) c (rMd (G 0) c)) c (rMd (G 0) c)) ((21 + (6 * c)) + 1)) * (rMd (G 0) c)))))) := hD
        have hP : va_P D vwCl (refW cs a V (zU G 0 (rM4 (rM3 (rM2 (rM1 (G 0) c (rMd (G 0) c)) c (rMd (G 0) c)) c (rMd (G 0) c)) c (rMd (G 0) c)))) H := hP
        have hD : va_D A (refW cs a V (zU G 0 (rM4 (rM3 (rM2 (rM1 (G 0) c (rMd (G 0) c)) c (rMd (G 0) c)) c (rMd (G 0) c)) c (rMd (G 0) c)))) := hD
        exact z_vret hx hb hr hlk hK hP hD hS dX8_moves_181 rfl (by unfold rMv; rw [if_pos c_1])
  · skip
    have c_1 := bI_0.mp c_1
    refine lv_aload_n hx hb dX8_moves_31 rfl (lv_at hl 2 rfl) ?_
    refine va_get (D := D) (ci := 8) (v := .ref (a 1)) (C := RX8) (T := TX8) (N := 13) hx hb hts wsI_X8 hown hK hP 0 rfl rfl 0 (by decide) (hts _ w_fl_X8_7) (fun _ h9 => h9) rfl dX8_moves_32 ?_
    refine lv_iload_n hx hb dX8_moves_35 rfl (lv_at hl 1 rfl) ?_
    refine lv_dup2_11 hx hb dX8_moves_36 rfl rfl ?_
    refine z_iald (k := 21 + (6 * c)) hx hb hK hP 1 rfl (by omega) (by first | decide | omega) dX8_moves_37 ?_
    refine lv_iload_n hx hb dX8_moves_38 rfl (lv_at hl 0 rfl) ?_
    refine lv_aload_n hx hb dX8_moves_39 rfl (lv_at hl 2 rfl) ?_
    refine va_get (D := D) (ci := 8) (v := .ref (a 1)) (C := RX8) (T := TX8) (N := 13) hx hb hts wsI_X8 hown hK hP 0 rfl rfl 0 (by decide) (hts _ w_fl_X8_7) (fun _ h9 => h9) rfl dX8_moves_40 ?_
    refine lv_iload_n hx hb dX8_moves_43 rfl (lv_at hl 1 rfl) ?_
    refine z_iald (k := 21 + (6 * c)) hx hb hK hP 1 rfl (by omega) (by first | decide | omega) dX8_moves_44 ?_
    refine lv_icmp_ge (tgt := 52) hx hb dX8_moves_45 (by decide) (fun c_5 => ?_) (fun c_5 => ?_)
    · skip
      refine lv_aload_n hx hb dX8_moves_52 rfl (lv_at hl 2 rfl) ?_
      refine va_get (D := D) (ci := 8) (v := .ref (a 1)) (C := RX8) (T := TX8) (N := 13) hx hb hts wsI_X8 hown hK hP 0 rfl rfl 0 (by decide) (hts _ w_fl_X8_7) (fun _ h9 => h9) rfl dX8_moves_53 ?_
      refine lv_iload_n hx hb dX8_moves_56 rfl (lv_at hl 1 rfl) ?_
      refine z_iald (k := 21 + (6 * c)) hx hb hK hP 1 rfl (by omega) (by first | decide | omega) dX8_moves_57 ?_
      refine z_top (y := rmn ((G 0) (21 + 6 * c + 2)) ((G 0) (21 + 6 * c))) ((if_pos c_5).symm) ?_
      refine lv_isub hx hb dX8_moves_58 ?_
      refine z_iast (k := 21 + (6 * c)) hx hb hK hP hD hS 1 rfl (by omega) (by first | decide | omega) dX8_moves_59 (fun H locs hP hD hS => ?_)
      have hP : va_P D vwCl (refW cs a V (zU G 0 (upd (G 0) (21 + (6 * c)) (((G 0) (21 + (6 * c))) - (rmn ((G 0) (21 + 6 * c + 2)) ((G 0) (21 + 6 * c))))))) H := hP
      have hD : va_D A (refW cs a V (zU G 0 (upd (G 0) (21 + (6 * c)) (((G 0) (21 + (6 * c))) - (rmn ((G 0) (21 + 6 * c + 2)) ((G 0) (21 + 6 * c))))))) := hD
      exact z_vret hx hb hr hlk hK hP hD hS dX8_moves_60 rfl (by unfold rMv; rw [if_neg c_1])
    · skip
      refine lv_iload_n hx hb dX8_moves_48 rfl (lv_at hl 0 rfl) ?_
      refine lv_goto (tgt := 58) hx hb dX8_moves_49 (by decide) ?_
      refine z_top (y := rmn ((G 0) (21 + 6 * c + 2)) ((G 0) (21 + 6 * c))) ((if_neg c_5).symm) ?_
      refine lv_isub hx hb dX8_moves_58 ?_
      refine z_iast (k := 21 + (6 * c)) hx hb hK hP hD hS 1 rfl (by omega) (by first | decide | omega) dX8_moves_59 (fun H locs hP hD hS => ?_)
      have hP : va_P D vwCl (refW cs a V (zU G 0 (upd (G 0) (21 + (6 * c)) (((G 0) (21 + (6 * c))) - (rmn ((G 0) (21 + 6 * c + 2)) ((G 0) (21 + 6 * c))))))) H := hP
      have hD : va_D A (refW cs a V (zU G 0 (upd (G 0) (21 + (6 * c)) (((G 0) (21 + (6 * c))) - (rmn ((G 0) (21 + 6 * c + 2)) ((G 0) (21 + 6 * c))))))) := hD
      exact z_vret hx hb hr hlk hK hP hD hS dX8_moves_60 rfl (by unfold rMv; rw [if_neg c_1])

set_option maxHeartbeats 4000000 in
set_option maxRecDepth 100000 in
theorem c_X8_leaks (l : Launch) (D : va_G) (cs : zCs) (a : Nat → Nat) (V : Nat → Int32) (G : Nat → Nat → Int32) (c : Nat) (hc : c < 5) : zM l D cs yX8_leaks cX8_leaks 4 none 1 22 0 0 [.ref (a 0), .int (nI c)] (refW cs a V G) none (refW cs a V (zU G 0 (rLk (G 0) c))) := by
  refine zM.of (own := RX8) (by decide) (Nat.le_of_ble_eq_true rfl) rfl ?_
  intro pq eq s mq below meth cq A ls hx hb hr hml hown hts hlk hnm hE hK hA hP hD hS hl
  have hl : lv_has ls 4 [(0, .ref (a 0)), (1, .int (nI c))] := hl
  refine lv_bipush (v := 21) hx hb dX8_leaks_0 (by decide) ?_
  refine lv_bipush (v := 6) hx hb dX8_leaks_2 (by decide) ?_
  refine lv_iload_n hx hb dX8_leaks_4 rfl (lv_at hl 1 rfl) ?_
  refine lv_imul hx hb dX8_leaks_5 ?_
  refine z_top (y := nI (6 * c)) (pk_mul 6 c) ?_
  refine lv_iadd hx hb dX8_leaks_6 ?_
  refine z_top (y := nI (21 + (6 * c))) (nI_add 21 (6 * c)) ?_
  refine lv_istore_n (lv' := [(2, .int (nI (21 + (6 * c)))), (0, .ref (a 0)), (1, .int (nI c))]) hx hb dX8_leaks_7 rfl hl (by decide) rfl (fun ls hl => ?_)
  refine lv_aload_n hx hb dX8_leaks_8 rfl (lv_at hl 1 rfl) ?_
  refine lv_iload_n hx hb dX8_leaks_9 rfl (lv_at hl 2 rfl) ?_
  refine lv_aload_n hx hb dX8_leaks_10 rfl (lv_at hl 1 rfl) ?_
  refine va_get (D := D) (ci := 8) (v := .ref (a 1)) (C := RX8) (T := TX8) (N := 13) hx hb hts wsI_X8 hown hK hP 0 rfl rfl 0 (by decide) (hts _ w_fl_X8_7) (fun _ h9 => h9) rfl dX8_leaks_11 ?_
  refine lv_iconst (v := 1) hx hb dX8_leaks_14 (by decide) ?_
  refine z_iald (k := 1) hx hb hK hP 1 rfl (by decide) (by first | decide | omega) dX8_leaks_15 ?_
  refine z_callV (wn := (refW cs a V G)) ⟨hx, hb, hml, hown, hts⟩ zY_X8_hasCam w_im_yX8_hasCam w_se_yX8_hasCam w_ml_X8_44 [.int (nI c), .int ((G 0) 1)] [] (c_X8_hasCam l D cs a V G c ((G 0) 1) hc) hE hK hA hP hD hS [0, 1, 2, 3, 4, 5, 6] rfl rfl rfl rfl 8 rfl rfl rfl rfl hl.1 (Nat.le_of_ble_eq_true rfl) ⟨Nat.le_of_ble_eq_true rfl, Nat.le_of_ble_eq_true rfl⟩ ⟨Nat.le_of_ble_eq_true rfl, Nat.le_of_ble_eq_true rfl⟩ dX8_leaks_16 (fun H locs hP hD hS => ?_)
  refine lv_if_eq (tgt := 99) hx hb dX8_leaks_19 (by decide) (fun c_1 => ?_) (fun c_1 => ?_)
  · skip
    have c_1 := bI_0.mp c_1
    exact z_vret hx hb hr hlk hK hP hD hS dX8_leaks_99 rfl (by unfold rLk; rw [if_neg (fun h => c_1 h.1)]; first | done | rfl)
  · skip
    have c_1 := bI_n0 c_1
    refine lv_aload_n hx hb dX8_leaks_22 rfl (lv_at hl 1 rfl) ?_
    refine va_get (D := D) (ci := 8) (v := .ref (a 1)) (C := RX8) (T := TX8) (N := 13) hx hb hts wsI_X8 hown hK hP 0 rfl rfl 0 (by decide) (hts _ w_fl_X8_7) (fun _ h9 => h9) rfl dX8_leaks_23 ?_
    refine lv_iload_n hx hb dX8_leaks_26 rfl (lv_at hl 0 rfl) ?_
    refine z_iald (k := 21 + (6 * c)) hx hb hK hP 1 rfl (by omega) (by first | decide | omega) dX8_leaks_27 ?_
    refine lv_if_le (tgt := 99) hx hb dX8_leaks_28 (by decide) (fun c_2 => ?_) (fun c_2 => ?_)
    · skip
      exact z_vret hx hb hr hlk hK hP hD hS dX8_leaks_99 rfl (by unfold rLk; rw [if_neg (fun h => h.2 c_2)]; first | done | rfl)
    · skip
      refine lv_aload_n hx hb dX8_leaks_31 rfl (lv_at hl 1 rfl) ?_
      refine va_get (D := D) (ci := 8) (v := .ref (a 1)) (C := RX8) (T := TX8) (N := 13) hx hb hts wsI_X8 hown hK hP 0 rfl rfl 0 (by decide) (hts _ w_fl_X8_7) (fun _ h9 => h9) rfl dX8_leaks_32 ?_
      refine lv_iload_n hx hb dX8_leaks_35 rfl (lv_at hl 0 rfl) ?_
      refine lv_iconst (v := 3) hx hb dX8_leaks_36 (by decide) ?_
      refine lv_iadd hx hb dX8_leaks_37 ?_
      refine z_top (y := nI ((21 + (6 * c)) + 3)) (nI_add (21 + (6 * c)) 3) ?_
      refine z_iald (k := (21 + (6 * c)) + 3) hx hb hK hP 1 rfl (by omega) (by first | decide | omega) dX8_leaks_38 ?_
      refine lv_aload_n hx hb dX8_leaks_39 rfl (lv_at hl 1 rfl) ?_
      refine va_get (D := D) (ci := 8) (v := .ref (a 1)) (C := RX8) (T := TX8) (N := 13) hx hb hts wsI_X8 hown hK hP 0 rfl rfl 0 (by decide) (hts _ w_fl_X8_7) (fun _ h9 => h9) rfl dX8_leaks_40 ?_
      refine lv_iconst (v := 5) hx hb dX8_leaks_43 (by decide) ?_
      refine z_iald (k := 5) hx hb hK hP 1 rfl (by decide) (by first | decide | omega) dX8_leaks_44 ?_
      refine lv_icmp_ge (tgt := 59) hx hb dX8_leaks_45 (by decide) (fun c_3 => ?_) (fun c_3 => ?_)
      · skip
        refine lv_aload_n hx hb dX8_leaks_59 rfl (lv_at hl 1 rfl) ?_
        refine va_get (D := D) (ci := 8) (v := .ref (a 1)) (C := RX8) (T := TX8) (N := 13) hx hb hts wsI_X8 hown hK hP 0 rfl rfl 0 (by decide) (hts _ w_fl_X8_7) (fun _ h9 => h9) rfl dX8_leaks_60 ?_
        refine lv_iconst (v := 5) hx hb dX8_leaks_63 (by decide) ?_
        refine z_iald (k := 5) hx hb hK hP 1 rfl (by decide) (by first | decide | omega) dX8_leaks_64 ?_
        refine z_top (y := rLx (G 0) c) ((if_pos c_3).symm) ?_
        refine lv_istore_n (lv' := [(3, .int (rLx (G 0) c)), (2, .int (nI (21 + (6 * c)))), (0, .ref (a 0)), (1, .int (nI c))]) hx hb dX8_leaks_65 rfl hl (by decide) rfl (fun ls hl => ?_)
        refine lv_aload_n hx hb dX8_leaks_66 rfl (lv_at hl 2 rfl) ?_
        refine va_get (D := D) (ci := 8) (v := .ref (a 1)) (C := RX8) (T := TX8) (N := 13) hx hb hts wsI_X8 hown hK hP 0 rfl rfl 0 (by decide) (hts _ w_fl_X8_7) (fun _ h9 => h9) rfl dX8_leaks_67 ?_
        refine lv_iconst (v := 5) hx hb dX8_leaks_70 (by decide) ?_
        refine lv_dup2_11 hx hb dX8_leaks_71 rfl rfl ?_
        refine z_iald (k := 5) hx hb hK hP 1 rfl (by decide) (by first | decide | omega) dX8_leaks_72 ?_
        refine lv_iload_n hx hb dX8_leaks_73 rfl (lv_at hl 0 rfl) ?_
        refine lv_isub hx hb dX8_leaks_74 ?_
        refine z_iast (k := 5) hx hb hK hP hD hS 1 rfl (by decide) (by first | decide | omega) dX8_leaks_75 (fun H locs hP hD hS => ?_)
        have hP : va_P D vwCl (refW cs a V (zU G 0 (upd (G 0) 5 (((G 0) 5) - (rLx (G 0) c))))) H := hP
        have hD : va_D A (refW cs a V (zU G 0 (upd (G 0) 5 (((G 0) 5) - (rLx (G 0) c))))) := hD
        have hP : va_P D vwCl (refW cs a V (zU G 0 (rL1 (G 0) (rLx (G 0) c)))) H := hP
        have hD : va_D A (refW cs a V (zU G 0 (rL1 (G 0) (rLx (G 0) c)))) := hD
        refine lv_aload_n hx hb dX8_leaks_76 rfl (lv_at hl 2 rfl) ?_
        refine va_get (D := D) (ci := 8) (v := .ref (a 1)) (C := RX8) (T := TX8) (N := 13) hx hb hts wsI_X8 hown hK hP 0 rfl rfl 0 (by decide) (hts _ w_fl_X8_7) (fun _ h9 => h9) rfl dX8_leaks_77 ?_
        refine lv_iload_n hx hb dX8_leaks_80 rfl (lv_at hl 1 rfl) ?_
        refine lv_iconst (v := 5) hx hb dX8_leaks_81 (by decide) ?_
        refine lv_iadd hx hb dX8_leaks_82 ?_
        refine z_top (y := nI ((21 + (6 * c)) + 5)) (nI_add (21 + (6 * c)) 5) ?_
        refine lv_dup2_11 hx hb dX8_leaks_83 rfl rfl ?_
        refine z_iald (k := (21 + (6 * c)) + 5) hx hb hK hP 1 rfl (by omega) (by first | decide | omega) dX8_leaks_84 ?_
        refine lv_iload_n hx hb dX8_leaks_85 rfl (lv_at hl 0 rfl) ?_
        refine lv_iadd hx hb dX8_leaks_86 ?_
        refine z_iast (k := (21 + (6 * c)) + 5) hx hb hK hP hD hS 1 rfl (by omega) (by first | decide | omega) dX8_leaks_87 (fun H locs hP hD hS => ?_)
        have hP : va_P D vwCl (refW cs a V (zU G 0 (upd (rL1 (G 0) (rLx (G 0) c)) ((21 + (6 * c)) + 5) (((rL1 (G 0) (rLx (G 0) c)) ((21 + (6 * c)) + 5)) + (rLx (G 0) c))))) H := hP
        have hD : va_D A (refW cs a V (zU G 0 (upd (rL1 (G 0) (rLx (G 0) c)) ((21 + (6 * c)) + 5) (((rL1 (G 0) (rLx (G 0) c)) ((21 + (6 * c)) + 5)) + (rLx (G 0) c))))) := hD
        have hP : va_P D vwCl (refW cs a V (zU G 0 (rL2 (rL1 (G 0) (rLx (G 0) c)) c (rLx (G 0) c)))) H := hP
        have hD : va_D A (refW cs a V (zU G 0 (rL2 (rL1 (G 0) (rLx (G 0) c)) c (rLx (G 0) c)))) := hD
        refine lv_aload_n hx hb dX8_leaks_88 rfl (lv_at hl 2 rfl) ?_
        refine va_get (D := D) (ci := 8) (v := .ref (a 1)) (C := RX8) (T := TX8) (N := 13) hx hb hts wsI_X8 hown hK hP 0 rfl rfl 0 (by decide) (hts _ w_fl_X8_7) (fun _ h9 => h9) rfl dX8_leaks_89 ?_
        refine lv_bipush (v := 15) hx hb dX8_leaks_92 (by decide) ?_
        refine lv_dup2_11 hx hb dX8_leaks_94 rfl rfl ?_
        refine z_iald (k := 15) hx hb hK hP 1 rfl (by decide) (by first | decide | omega) dX8_leaks_95 ?_
        refine lv_iload_n hx hb dX8_leaks_96 rfl (lv_at hl 0 rfl) ?_
        refine lv_iadd hx hb dX8_leaks_97 ?_
        refine z_iast (k := 15) hx hb hK hP hD hS 1 rfl (by decide) (by first | decide | omega) dX8_leaks_98 (fun H locs hP hD hS => ?_)
        have hP : va_P D vwCl (refW cs a V (zU G 0 (upd (rL2 (rL1 (G 0) (rLx (G 0) c)) c (rLx (G 0) c)) 15 (((rL2 (rL1 (G 0) (rLx (G 0) c)) c (rLx (G 0) c)) 15) + (rLx (G 0) c))))) H := hP
        have hD : va_D A (refW cs a V (zU G 0 (upd (rL2 (rL1 (G 0) (rLx (G 0) c)) c (rLx (G 0) c)) 15 (((rL2 (rL1 (G 0) (rLx (G 0) c)) c (rLx (G 0) c)) 15) + (rLx (G 0) c))))) := hD
        have hP : va_P D vwCl (refW cs a V (zU G 0 (rL3 (rL2 (rL1 (G 0) (rLx (G 0) c)) c (rLx (G 0) c)) (rLx (G 0) c)))) H := hP
        have hD : va_D A (refW cs a V (zU G 0 (rL3 (rL2 (rL1 (G 0) (rLx (G 0) c)) c (rLx (G 0) c)) (rLx (G 0) c)))) := hD
        exact z_vret hx hb hr hlk hK hP hD hS dX8_leaks_99 rfl (by unfold rLk; rw [if_pos ⟨c_1, c_2⟩]; first | done | rfl)
      · skip
        refine lv_aload_n hx hb dX8_leaks_48 rfl (lv_at hl 1 rfl) ?_
        refine va_get (D := D) (ci := 8) (v := .ref (a 1)) (C := RX8) (T := TX8) (N := 13) hx hb hts wsI_X8 hown hK hP 0 rfl rfl 0 (by decide) (hts _ w_fl_X8_7) (fun _ h9 => h9) rfl dX8_leaks_49 ?_
        refine lv_iload_n hx hb dX8_leaks_52 rfl (lv_at hl 0 rfl) ?_
        refine lv_iconst (v := 3) hx hb dX8_leaks_53 (by decide) ?_
        refine lv_iadd hx hb dX8_leaks_54 ?_
        refine z_top (y := nI ((21 + (6 * c)) + 3)) (nI_add (21 + (6 * c)) 3) ?_
        refine z_iald (k := (21 + (6 * c)) + 3) hx hb hK hP 1 rfl (by omega) (by first | decide | omega) dX8_leaks_55 ?_
        refine lv_goto (tgt := 65) hx hb dX8_leaks_56 (by decide) ?_
        refine z_top (y := rLx (G 0) c) ((if_neg c_3).symm) ?_
        refine lv_istore_n (lv' := [(3, .int (rLx (G 0) c)), (2, .int (nI (21 + (6 * c)))), (0, .ref (a 0)), (1, .int (nI c))]) hx hb dX8_leaks_65 rfl hl (by decide) rfl (fun ls hl => ?_)
        refine lv_aload_n hx hb dX8_leaks_66 rfl (lv_at hl 2 rfl) ?_
        refine va_get (D := D) (ci := 8) (v := .ref (a 1)) (C := RX8) (T := TX8) (N := 13) hx hb hts wsI_X8 hown hK hP 0 rfl rfl 0 (by decide) (hts _ w_fl_X8_7) (fun _ h9 => h9) rfl dX8_leaks_67 ?_
        refine lv_iconst (v := 5) hx hb dX8_leaks_70 (by decide) ?_
        refine lv_dup2_11 hx hb dX8_leaks_71 rfl rfl ?_
        refine z_iald (k := 5) hx hb hK hP 1 rfl (by decide) (by first | decide | omega) dX8_leaks_72 ?_
        refine lv_iload_n hx hb dX8_leaks_73 rfl (lv_at hl 0 rfl) ?_
        refine lv_isub hx hb dX8_leaks_74 ?_
        refine z_iast (k := 5) hx hb hK hP hD hS 1 rfl (by decide) (by first | decide | omega) dX8_leaks_75 (fun H locs hP hD hS => ?_)
        have hP : va_P D vwCl (refW cs a V (zU G 0 (upd (G 0) 5 (((G 0) 5) - (rLx (G 0) c))))) H := hP
        have hD : va_D A (refW cs a V (zU G 0 (upd (G 0) 5 (((G 0) 5) - (rLx (G 0) c))))) := hD
        have hP : va_P D vwCl (refW cs a V (zU G 0 (rL1 (G 0) (rLx (G 0) c)))) H := hP
        have hD : va_D A (refW cs a V (zU G 0 (rL1 (G 0) (rLx (G 0) c)))) := hD
        refine lv_aload_n hx hb dX8_leaks_76 rfl (lv_at hl 2 rfl) ?_
        refine va_get (D := D) (ci := 8) (v := .ref (a 1)) (C := RX8) (T := TX8) (N := 13) hx hb hts wsI_X8 hown hK hP 0 rfl rfl 0 (by decide) (hts _ w_fl_X8_7) (fun _ h9 => h9) rfl dX8_leaks_77 ?_
        refine lv_iload_n hx hb dX8_leaks_80 rfl (lv_at hl 1 rfl) ?_
        refine lv_iconst (v := 5) hx hb dX8_leaks_81 (by decide) ?_
        refine lv_iadd hx hb dX8_leaks_82 ?_
        refine z_top (y := nI ((21 + (6 * c)) + 5)) (nI_add (21 + (6 * c)) 5) ?_
        refine lv_dup2_11 hx hb dX8_leaks_83 rfl rfl ?_
        refine z_iald (k := (21 + (6 * c)) + 5) hx hb hK hP 1 rfl (by omega) (by first | decide | omega) dX8_leaks_84 ?_
        refine lv_iload_n hx hb dX8_leaks_85 rfl (lv_at hl 0 rfl) ?_
        refine lv_iadd hx hb dX8_leaks_86 ?_
        refine z_iast (k := (21 + (6 * c)) + 5) hx hb hK hP hD hS 1 rfl (by omega) (by first | decide | omega) dX8_leaks_87 (fun H locs hP hD hS => ?_)
        have hP : va_P D vwCl (refW cs a V (zU G 0 (upd (rL1 (G 0) (rLx (G 0) c)) ((21 + (6 * c)) + 5) (((rL1 (G 0) (rLx (G 0) c)) ((21 + (6 * c)) + 5)) + (rLx (G 0) c))))) H := hP
        have hD : va_D A (refW cs a V (zU G 0 (upd (rL1 (G 0) (rLx (G 0) c)) ((21 + (6 * c)) + 5) (((rL1 (G 0) (rLx (G 0) c)) ((21 + (6 * c)) + 5)) + (rLx (G 0) c))))) := hD
        have hP : va_P D vwCl (refW cs a V (zU G 0 (rL2 (rL1 (G 0) (rLx (G 0) c)) c (rLx (G 0) c)))) H := hP
        have hD : va_D A (refW cs a V (zU G 0 (rL2 (rL1 (G 0) (rLx (G 0) c)) c (rLx (G 0) c)))) := hD
        refine lv_aload_n hx hb dX8_leaks_88 rfl (lv_at hl 2 rfl) ?_
        refine va_get (D := D) (ci := 8) (v := .ref (a 1)) (C := RX8) (T := TX8) (N := 13) hx hb hts wsI_X8 hown hK hP 0 rfl rfl 0 (by decide) (hts _ w_fl_X8_7) (fun _ h9 => h9) rfl dX8_leaks_89 ?_
        refine lv_bipush (v := 15) hx hb dX8_leaks_92 (by decide) ?_
        refine lv_dup2_11 hx hb dX8_leaks_94 rfl rfl ?_
        refine z_iald (k := 15) hx hb hK hP 1 rfl (by decide) (by first | decide | omega) dX8_leaks_95 ?_
        refine lv_iload_n hx hb dX8_leaks_96 rfl (lv_at hl 0 rfl) ?_
        refine lv_iadd hx hb dX8_leaks_97 ?_
        refine z_iast (k := 15) hx hb hK hP hD hS 1 rfl (by decide) (by first | decide | omega) dX8_leaks_98 (fun H locs hP hD hS => ?_)
        have hP : va_P D vwCl (refW cs a V (zU G 0 (upd (rL2 (rL1 (G 0) (rLx (G 0) c)) c (rLx (G 0) c)) 15 (((rL2 (rL1 (G 0) (rLx (G 0) c)) c (rLx (G 0) c)) 15) + (rLx (G 0) c))))) H := hP
        have hD : va_D A (refW cs a V (zU G 0 (upd (rL2 (rL1 (G 0) (rLx (G 0) c)) c (rLx (G 0) c)) 15 (((rL2 (rL1 (G 0) (rLx (G 0) c)) c (rLx (G 0) c)) 15) + (rLx (G 0) c))))) := hD
        have hP : va_P D vwCl (refW cs a V (zU G 0 (rL3 (rL2 (rL1 (G 0) (rLx (G 0) c)) c (rLx (G 0) c)) (rLx (G 0) c)))) H := hP
        have hD : va_D A (refW cs a V (zU G 0 (rL3 (rL2 (rL1 (G 0) (rLx (G 0) c)) c (rLx (G 0) c)) (rLx (G 0) c)))) := hD
        exact z_vret hx hb hr hlk hK hP hD hS dX8_leaks_99 rfl (by unfold rLk; rw [if_pos ⟨c_1, c_2⟩]; first | done | rfl)

set_option maxHeartbeats 4000000 in
set_option maxRecDepth 100000 in
theorem c_X8_areOut (l : Launch) (D : va_G) (cs : zCs) (a : Nat → Nat) (V : Nat → Int32) (G : Nat → Nat → Int32)  : zM l D cs yX8_areOut cX8_areOut 3 (some FieldType.boolean) 1 22 0 0 [.ref (a 0)] (refW cs a V G) (some (.int (bI (rAllN (G 0) 5)))) (refW cs a V G) := by
  refine zM.of (own := RX8) (by decide) (Nat.le_of_ble_eq_true rfl) rfl ?_
  intro pq eq s mq below meth cq A ls hx hb hr hml hown hts hlk hnm hE hK hA hP hD hS hl
  have hl : lv_has ls 3 [(0, .ref (a 0))] := hl
  refine lv_iconst (v := 1) hx hb dX8_areOut_0 (by decide) ?_
  refine lv_istore_n (lv' := [(1, .int 1), (0, .ref (a 0))]) hx hb dX8_areOut_1 rfl hl (by decide) rfl (fun ls hl => ?_)
  refine lv_iconst (v := 0) hx hb dX8_areOut_2 (by decide) ?_
  refine lv_istore_n (lv' := [(2, .int 0), (1, .int 1), (0, .ref (a 0))]) hx hb dX8_areOut_3 rfl hl (by decide) rfl (fun ls hl => ?_)
  have lp4 : ∀ (k : Nat) (i : Nat), (i ≤ 5) → (6 ≤ i + k) → ∀ (H : Heap) (locs : List Loc) (ls : Array Slot), va_P D vwCl (refW cs a V G) H → va_D A (refW cs a V G) → va_S A s.heap H locs → lv_has ls 3 [(0, .ref (a 0)), (1, .int (bI (rAllN (G 0) i))), (2, .int (nI i))] → W pq l eq ({ frames := 1, cells := 0, slots := 0, locals := 22 } : Room) s mq ([.ref (a 0)] : List Value).toArray below meth cq H locs 0 0 (MQ below (zQ D cs (some (.int (bI (rAllN (G 0) 5)))) (refW cs a V G) A) ([.ref (a 0)] : List Value).toArray s 0 0 A) (F0 mq 4 ls []) := by
    intro k
    induction k with
    | zero =>
      intro i h1 h2 H locs ls hP hD hS hl
      omega
    | succ k ih =>
      intro i h1 h2 H locs ls hP hD hS hl
      refine lv_iload_n hx hb dX8_areOut_4 rfl (lv_at hl 2 rfl) ?_
      refine lv_iconst (v := 5) hx hb dX8_areOut_5 (by decide) ?_
      refine lv_icmp_ge (tgt := 49) hx hb dX8_areOut_6 (by decide) (fun c_1 => ?_) (fun c_1 => ?_)
      · skip
        refine lv_iload_n hx hb dX8_areOut_49 rfl (lv_at hl 1 rfl) ?_
        exact z_zret hx hb hr hlk hK hP hD hS dX8_areOut_50 bI_nar (by rw [z_le5 h1 c_1]) rfl
      · skip
        have h4 : i < 5 := z_ge5 h1 c_1
        refine lv_iload_n hx hb dX8_areOut_9 rfl (lv_at hl 1 rfl) ?_
        refine lv_if_eq (tgt := 41) hx hb dX8_areOut_10 (by decide) (fun c_2 => ?_) (fun c_2 => ?_)
        · skip
          have c_2 := bI_0.mp c_2
          refine lv_iconst (v := 0) hx hb dX8_areOut_41 (by decide) ?_
          refine z_top (y := bI (rAllN (G 0) (i + 1))) (bI_f (fun h => c_2 (fun j hj => h j (by omega)))).symm ?_
          refine lv_istore_n (lv' := [(1, .int (bI (rAllN (G 0) (i + 1)))), (0, .ref (a 0)), (2, .int (nI i))]) hx hb dX8_areOut_42 rfl hl (by decide) rfl (fun ls hl => ?_)
          refine lv_iinc (v := nI (i + 1)) (lv' := [(2, .int (nI (i + 1))), (1, .int (bI (rAllN (G 0) (i + 1)))), (0, .ref (a 0))]) hx hb dX8_areOut_43 hl (k := 2) rfl (show nI i + Int32.ofInt 1 = nI (i + 1) from nI_add i 1) (by decide) rfl (fun ls hl => ?_)
          refine lv_goto (tgt := 4) hx hb dX8_areOut_46 (by decide) ?_
          exact ih (i + 1) (by omega) (by omega) _ _ _ hP hD hS (lv_sub hl [2, 1, 0] rfl)
        · skip
          have c_2 := bI_n0 c_2
          refine lv_aload_n hx hb dX8_areOut_13 rfl (lv_at hl 0 rfl) ?_
          refine lv_iload_n hx hb dX8_areOut_14 rfl (lv_at hl 2 rfl) ?_
          refine lv_aload_n hx hb dX8_areOut_15 rfl (lv_at hl 0 rfl) ?_
          refine va_get (D := D) (ci := 8) (v := .ref (a 1)) (C := RX8) (T := TX8) (N := 13) hx hb hts wsI_X8 hown hK hP 0 rfl rfl 0 (by decide) (hts _ w_fl_X8_7) (fun _ h9 => h9) rfl dX8_areOut_16 ?_
          refine lv_iconst (v := 1) hx hb dX8_areOut_19 (by decide) ?_
          refine z_iald (k := 1) hx hb hK hP 1 rfl (by decide) (by first | decide | omega) dX8_areOut_20 ?_
          refine z_callV (wn := (refW cs a V G)) ⟨hx, hb, hml, hown, hts⟩ zY_X8_hasCam w_im_yX8_hasCam w_se_yX8_hasCam w_ml_X8_44 [.int (nI i), .int ((G 0) 1)] [] (c_X8_hasCam l D cs a V G i ((G 0) 1) h4) hE hK hA hP hD hS [0, 1, 2, 3, 4, 5, 6] rfl rfl rfl rfl 8 rfl rfl rfl rfl hl.1 (Nat.le_of_ble_eq_true rfl) ⟨Nat.le_of_ble_eq_true rfl, Nat.le_of_ble_eq_true rfl⟩ ⟨Nat.le_of_ble_eq_true rfl, Nat.le_of_ble_eq_true rfl⟩ dX8_areOut_21 (fun H locs hP hD hS => ?_)
          refine lv_if_eq (tgt := 37) hx hb dX8_areOut_24 (by decide) (fun c_3 => ?_) (fun c_3 => ?_)
          · skip
            have c_3 := bI_0.mp c_3
            refine lv_iconst (v := 1) hx hb dX8_areOut_37 (by decide) ?_
            refine lv_goto (tgt := 42) hx hb dX8_areOut_38 (by decide) ?_
            refine z_top (y := bI (rAllN (G 0) (i + 1))) (bI_t (lt_s c_2 (Or.inl c_3))).symm ?_
            refine lv_istore_n (lv' := [(1, .int (bI (rAllN (G 0) (i + 1)))), (0, .ref (a 0)), (2, .int (nI i))]) hx hb dX8_areOut_42 rfl hl (by decide) rfl (fun ls hl => ?_)
            refine lv_iinc (v := nI (i + 1)) (lv' := [(2, .int (nI (i + 1))), (1, .int (bI (rAllN (G 0) (i + 1)))), (0, .ref (a 0))]) hx hb dX8_areOut_43 hl (k := 2) rfl (show nI i + Int32.ofInt 1 = nI (i + 1) from nI_add i 1) (by decide) rfl (fun ls hl => ?_)
            refine lv_goto (tgt := 4) hx hb dX8_areOut_46 (by decide) ?_
            exact ih (i + 1) (by omega) (by omega) _ _ _ hP hD hS (lv_sub hl [2, 1, 0] rfl)
          · skip
            have c_3 := bI_n0 c_3
            refine lv_aload_n hx hb dX8_areOut_27 rfl (lv_at hl 0 rfl) ?_
            refine lv_iload_n hx hb dX8_areOut_28 rfl (lv_at hl 2 rfl) ?_
            refine z_callV (wn := (refW cs a V G)) ⟨hx, hb, hml, hown, hts⟩ zY_X8_out w_im_yX8_out w_se_yX8_out w_ml_X8_76 [.int (nI i)] [] (c_X8_out l D cs a V G i h4) hE hK hA hP hD hS [0, 1, 2, 3, 4, 5, 6] rfl rfl rfl rfl 8 rfl rfl rfl rfl hl.1 (Nat.le_of_ble_eq_true rfl) ⟨Nat.le_of_ble_eq_true rfl, Nat.le_of_ble_eq_true rfl⟩ ⟨Nat.le_of_ble_eq_true rfl, Nat.le_of_ble_eq_true rfl⟩ dX8_areOut_29 (fun H locs hP hD hS => ?_)
            refine lv_bipush (v := 100) hx hb dX8_areOut_32 (by decide) ?_
            refine lv_icmp_ne (tgt := 41) hx hb dX8_areOut_34 (by decide) (fun c_4 => ?_) (fun c_4 => ?_)
            · skip
              refine lv_iconst (v := 0) hx hb dX8_areOut_41 (by decide) ?_
              refine z_top (y := bI (rAllN (G 0) (i + 1))) (bI_f (fun h => (h i (by omega)).elim (fun q => q c_3) c_4)).symm ?_
              refine lv_istore_n (lv' := [(1, .int (bI (rAllN (G 0) (i + 1)))), (0, .ref (a 0)), (2, .int (nI i))]) hx hb dX8_areOut_42 rfl hl (by decide) rfl (fun ls hl => ?_)
              refine lv_iinc (v := nI (i + 1)) (lv' := [(2, .int (nI (i + 1))), (1, .int (bI (rAllN (G 0) (i + 1)))), (0, .ref (a 0))]) hx hb dX8_areOut_43 hl (k := 2) rfl (show nI i + Int32.ofInt 1 = nI (i + 1) from nI_add i 1) (by decide) rfl (fun ls hl => ?_)
              refine lv_goto (tgt := 4) hx hb dX8_areOut_46 (by decide) ?_
              exact ih (i + 1) (by omega) (by omega) _ _ _ hP hD hS (lv_sub hl [2, 1, 0] rfl)
            · skip
              refine lv_iconst (v := 1) hx hb dX8_areOut_37 (by decide) ?_
              refine lv_goto (tgt := 42) hx hb dX8_areOut_38 (by decide) ?_
              refine z_top (y := bI (rAllN (G 0) (i + 1))) (bI_t (lt_s c_2 (Or.inr c_4))).symm ?_
              refine lv_istore_n (lv' := [(1, .int (bI (rAllN (G 0) (i + 1)))), (0, .ref (a 0)), (2, .int (nI i))]) hx hb dX8_areOut_42 rfl hl (by decide) rfl (fun ls hl => ?_)
              refine lv_iinc (v := nI (i + 1)) (lv' := [(2, .int (nI (i + 1))), (1, .int (bI (rAllN (G 0) (i + 1)))), (0, .ref (a 0))]) hx hb dX8_areOut_43 hl (k := 2) rfl (show nI i + Int32.ofInt 1 = nI (i + 1) from nI_add i 1) (by decide) rfl (fun ls hl => ?_)
              refine lv_goto (tgt := 4) hx hb dX8_areOut_46 (by decide) ?_
              exact ih (i + 1) (by omega) (by omega) _ _ _ hP hD hS (lv_sub hl [2, 1, 0] rfl)
  rw [show (1 : Int32) = bI (rAllN (G 0) 0) from (bI_t (fun j hj => absurd hj (Nat.not_lt_zero j))).symm] at hl
  exact lp4 6 0 (by decide) (by decide) _ _ _ hP hD hS (lv_sub hl [2, 1, 0] rfl)
