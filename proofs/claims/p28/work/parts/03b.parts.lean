def jb1 (x : Int32) : Int32 := x - ((x.toUInt32 >>> ((1 : Int32).toUInt32 &&& Int32.toUInt32 31)).toInt32 &&& 1431655765)
def jb2 (x : Int32) : Int32 := (x &&& 858993459) + ((x.toUInt32 >>> ((2 : Int32).toUInt32 &&& Int32.toUInt32 31)).toInt32 &&& 858993459)
def jb3 (x : Int32) : Int32 := (x + (x.toUInt32 >>> ((4 : Int32).toUInt32 &&& Int32.toUInt32 31)).toInt32) &&& 252645135
def jb4 (x : Int32) : Int32 := x + (x.toUInt32 >>> ((8 : Int32).toUInt32 &&& Int32.toUInt32 31)).toInt32
def jb5 (x : Int32) : Int32 := x + (x.toUInt32 >>> ((16 : Int32).toUInt32 &&& Int32.toUInt32 31)).toInt32
def jbc (x : Int32) : Int32 := jb5 (jb4 (jb3 (jb2 (jb1 x)))) &&& 63
theorem z_in4 {x : Int32} (h : 0 ≤ x ∧ x ≤ 3) : vp_in x 4 := vp_in_iff.mpr ⟨Int32.le_iff_toInt_le.mp h.1, by have := Int32.le_iff_toInt_le.mp h.2; have : (3 : Int32).toInt = 3 := (by decide); omega⟩
def toSh (F : Nat → Nat → Int32) (g : Nat) : Nat → Nat → Int32 := zU (zU (zU F 7 (upd (F 7) g (F 7 (g + 1)))) 8 (upd (F 8) g (F 8 (g + 1)))) 9 (upd (F 9) g (F 9 (g + 1)))
def toF : Nat → Nat → (Nat → Nat → Int32) → Nat → Nat → Int32
  | 0, _, F => F
  | k + 1, g, F => toF k (g + 1) (toSh F g)
set_option maxHeartbeats 4000000 in
set_option maxRecDepth 100000 in
theorem c_X7_copyRow (l : Launch) (D : va_G) (cs : zCs) (p0 q0 n : Nat) (f g : Nat → Int32) (hn : n < 2 ^ 31) : zM l D cs yX7_copyRow cX7_copyRow 2 none 1 64 0 0 [.ref p0, .ref q0] ([(p0, .inl (cs.1, n, .inl f))] ++ [(q0, .inl (cs.1, n, .inl g))]) none ([(p0, .inl (cs.1, n, .inl f))] ++ [(q0, .inl (cs.1, n, .inl f))]) := by
  refine zM.of (own := RX7) (by decide) (Nat.le_of_ble_eq_true rfl) rfl ?_
  intro pq eq s mq below meth cq A ls hx hb hr hml hown hts hlk hnm hE hK hA hP hD hS hl
  have hl : lv_has ls 2 [(0, .ref p0), (1, .ref q0)] := hl
  refine lv_aload_n hx hb dX7_copyRow_0 rfl (lv_at hl 0 rfl) ?_
  refine lv_iconst (v := 0) hx hb dX7_copyRow_1 (by decide) ?_
  refine lv_aload_n hx hb dX7_copyRow_2 rfl (lv_at hl 1 rfl) ?_
  refine lv_iconst (v := 0) hx hb dX7_copyRow_3 (by decide) ?_
  refine lv_aload_n hx hb dX7_copyRow_4 rfl (lv_at hl 0 rfl) ?_
  refine va_alen hx hb hK hP 0 0 rfl rfl (v := nI n) rfl dX7_copyRow_5 ?_
  refine lv_aload_n hx hb dX7_copyRow_6 rfl (lv_at hl 1 rfl) ?_
  refine va_alen hx hb hK hP 1 0 rfl rfl (v := nI n) rfl dX7_copyRow_7 ?_
  refine va_mmin hx hb (hml.trans hl.1.symm) hown (hts _ w_ml_X7_268) (hts _ w_st_Mmin) (hts _ w_in_J9) (hts _ w_co_Mmin) (Nat.le_of_ble_eq_true rfl) (Nat.le_of_ble_eq_true rfl) (Nat.le_of_ble_eq_true rfl) (Nat.le_of_ble_eq_true rfl) dX7_copyRow_8 ?_
  refine z_top (y := nI n) (by simp) ?_
  refine va_copyi hx hb (hml.trans hl.1.symm) hown (hts _ w_ml_X7_289) (hts _ w_na_arraycopyName) (hts _ w_st_arraycopyName) (hts _ w_in_J10) hK hP hD hS 0 1 0 0 rfl rfl rfl rfl rfl (by decide) (by decide) (nI_pos hn) (by rw [nI_clamp hn]; exact Nat.le_of_eq (Nat.zero_add n)) (by rw [nI_clamp hn]; exact Nat.le_of_eq (Nat.zero_add n)) (fun _ _ => rfl) (Nat.le_of_ble_eq_true rfl) (Nat.le_of_ble_eq_true rfl) dX7_copyRow_11 (fun H locs hP hD hS => ?_)
  have hP : va_P D vwCl [(p0, .inl (cs.1, n, .inl f)), (q0, .inl (cs.1, n, .inl f))] H := z_ext (w1 := [(p0, .inl (cs.1, n, .inl f))]) (w2 := []) (fun j hj => by rw [sb_cl0, nI_clamp hn, sb_cpy0 hj]) hP
  have hD : va_D A [(p0, .inl (cs.1, n, .inl f)), (q0, .inl (cs.1, n, .inl f))] := z_extD (w1 := [(p0, .inl (cs.1, n, .inl f))]) (w2 := []) hD
  exact z_vret hx hb hr hlk hK hP hD hS dX7_copyRow_14 rfl rfl

set_option maxHeartbeats 4000000 in
set_option maxRecDepth 100000 in
theorem c_J7_fill_53178 (l : Launch) (D : va_G) (cs : zCs) (p0 n : Nat) (f : Nat → Int32) (v : Int32) (hn : n < 2 ^ 31) : zM l D cs yJ7_fill_53178 cJ7_fill_53178 4 none 0 0 0 0 [.ref p0, .int v] [(p0, .inl (cs.1, n, .inl f))] none [(p0, .inl (cs.1, n, .inl (fun _ => v)))] := by
  refine zM.of (own := RJ7) (by decide) (Nat.le_of_ble_eq_true rfl) rfl ?_
  intro pq eq s mq below meth cq A ls hx hb hr hml hown hts hlk hnm hE hK hA hP hD hS hl
  have hl : lv_has ls 4 [(0, .ref p0), (1, .int v)] := hl
  refine lv_iconst (v := 0) hx hb dJ7_fill_53178_0 (by decide) ?_
  refine lv_istore_n (lv' := [(2, .int 0), (0, .ref p0), (1, .int v)]) hx hb dJ7_fill_53178_1 rfl hl (by decide) rfl (fun ls hl => ?_)
  refine lv_aload_n hx hb dJ7_fill_53178_2 rfl (lv_at hl 1 rfl) ?_
  refine va_alen hx hb hK hP 0 0 rfl rfl (v := nI n) rfl dJ7_fill_53178_3 ?_
  refine lv_istore_n (lv' := [(3, .int (nI n)), (2, .int 0), (0, .ref p0), (1, .int v)]) hx hb dJ7_fill_53178_4 rfl hl (by decide) rfl (fun ls hl => ?_)
  have lp5 : ∀ (k : Nat) (i : Nat) (g : Nat → Int32), (i ≤ n) → (∀ j : Nat, j < i → g j = v) → (n + 1 ≤ i + k) → ∀ (H : Heap) (locs : List Loc) (ls : Array Slot), va_P D vwCl [(p0, .inl (cs.1, n, .inl g))] H → va_D A [(p0, .inl (cs.1, n, .inl g))] → va_S A s.heap H locs → lv_has ls 4 [(0, .ref p0), (1, .int v), (2, .int (nI i)), (3, .int (nI n))] → W pq l eq ({ frames := 0, cells := 0, slots := 0, locals := 0 } : Room) s mq ([.ref p0, .int v] : List Value).toArray below meth cq H locs 0 0 (MQ below (zQ D cs none [(p0, .inl (cs.1, n, .inl (fun _ => v)))] A) ([.ref p0, .int v] : List Value).toArray s 0 0 A) (F0 mq 5 ls []) := by
    intro k
    induction k with
    | zero =>
      intro i g h1 h2 h3 H locs ls hP hD hS hl
      omega
    | succ k ih =>
      intro i g h1 h2 h3 H locs ls hP hD hS hl
      refine lv_iload_n hx hb dJ7_fill_53178_5 rfl (lv_at hl 2 rfl) ?_
      refine lv_iload_n hx hb dJ7_fill_53178_6 rfl (lv_at hl 3 rfl) ?_
      refine lv_icmp_ge (tgt := 20) hx hb dJ7_fill_53178_7 (by decide) (fun c_1 => ?_) (fun c_1 => ?_)
      · skip
        have hi : i = n := by have := c_1; have := (nI_leI hn (by omega)).mp this; omega
        subst hi
        have hP : va_P D vwCl [(p0, .inl (cs.1, i, .inl (fun _ => v)))] H := z_ext (w1 := []) (w2 := []) h2 hP
        have hD : va_D A [(p0, .inl (cs.1, i, .inl (fun _ => v)))] := z_extD (w1 := []) (w2 := []) hD
        exact z_vret hx hb hr hlk hK hP hD hS dJ7_fill_53178_20 rfl rfl
      · skip
        have h4 : i < n := Nat.lt_of_not_le (fun q => c_1 ((nI_leI hn (by omega)).mpr q))
        refine lv_aload_n hx hb dJ7_fill_53178_10 rfl (lv_at hl 0 rfl) ?_
        refine lv_iload_n hx hb dJ7_fill_53178_11 rfl (lv_at hl 2 rfl) ?_
        refine lv_iload_n hx hb dJ7_fill_53178_12 rfl (lv_at hl 1 rfl) ?_
        refine z_iast (k := i) hx hb hK hP hD hS 0 rfl h4 (by first | decide | omega) dJ7_fill_53178_13 (fun H locs hP hD hS => ?_)
        have hP : va_P D vwCl [(p0, .inl (cs.1, n, .inl (upd g i v)))] H := hP
        have hD : va_D A [(p0, .inl (cs.1, n, .inl (upd g i v)))] := hD
        refine lv_iinc (v := nI (i + 1)) (lv' := [(2, .int (nI (i + 1))), (0, .ref p0), (1, .int v), (3, .int (nI n))]) hx hb dJ7_fill_53178_14 hl (k := 2) rfl (show nI i + Int32.ofInt 1 = nI (i + 1) from nI_add i 1) (by decide) rfl (fun ls hl => ?_)
        refine lv_goto (tgt := 5) hx hb dJ7_fill_53178_17 (by decide) ?_
        exact ih (i + 1) (upd g i v) (by omega) (fun j hj => by by_cases h : j = i <;> simp [upd, h] <;> exact h2 j (by omega)) (by omega) _ _ _ hP hD hS (lv_sub hl [1, 2, 0, 3] rfl)
  exact lp5 (n + 1) 0 f (Nat.zero_le n) (fun j hj => absurd hj (Nat.not_lt_zero j)) (by omega) _ _ _ hP hD hS (lv_sub hl [2, 3, 1, 0] rfl)

set_option maxHeartbeats 4000000 in
set_option maxRecDepth 100000 in
theorem c_J6_bitCount_0f7a4 (l : Launch) (D : va_G) (cs : zCs) (x : Int32)  : zM l D cs yJ6_bitCount_0f7a4 cJ6_bitCount_0f7a4 1 (some FieldType.int) 0 0 0 0 [.int x] ([] : va_W) (some (.int (jbc x))) ([] : va_W) := by
  refine zM.of (own := RJ6) (by decide) (Nat.le_of_ble_eq_true rfl) rfl ?_
  intro pq eq s mq below meth cq A ls hx hb hr hml hown hts hlk hnm hE hK hA hP hD hS hl
  have hl : lv_has ls 1 [(0, .int x)] := hl
  refine lv_iload_n hx hb dJ6_bitCount_0f7a4_0 rfl (lv_at hl 0 rfl) ?_
  refine lv_iload_n hx hb dJ6_bitCount_0f7a4_1 rfl (lv_at hl 0 rfl) ?_
  refine lv_iconst (v := 1) hx hb dJ6_bitCount_0f7a4_2 (by decide) ?_
  refine lv_iushr (v := (x.toUInt32 >>> ((1 : Int32).toUInt32 &&& Int32.toUInt32 31)).toInt32) hx hb dJ6_bitCount_0f7a4_3 rfl ?_
  refine lv_ldcw (v := 1431655765) hx hb hown (hts _ w_ct_J6_265) dJ6_bitCount_0f7a4_4 ?_
  refine lv_iand hx hb dJ6_bitCount_0f7a4_7 ?_
  refine lv_isub hx hb dJ6_bitCount_0f7a4_8 ?_
  refine z_top (y := jb1 x) rfl ?_
  refine lv_istore_n (lv' := [(0, .int (jb1 x))]) hx hb dJ6_bitCount_0f7a4_9 rfl hl (by decide) rfl (fun ls hl => ?_)
  refine lv_iload_n hx hb dJ6_bitCount_0f7a4_10 rfl (lv_at hl 0 rfl) ?_
  refine lv_ldcw (v := 858993459) hx hb hown (hts _ w_ct_J6_266) dJ6_bitCount_0f7a4_11 ?_
  refine lv_iand hx hb dJ6_bitCount_0f7a4_14 ?_
  refine lv_iload_n hx hb dJ6_bitCount_0f7a4_15 rfl (lv_at hl 0 rfl) ?_
  refine lv_iconst (v := 2) hx hb dJ6_bitCount_0f7a4_16 (by decide) ?_
  refine lv_iushr (v := ((jb1 x).toUInt32 >>> ((2 : Int32).toUInt32 &&& Int32.toUInt32 31)).toInt32) hx hb dJ6_bitCount_0f7a4_17 rfl ?_
  refine lv_ldcw (v := 858993459) hx hb hown (hts _ w_ct_J6_266) dJ6_bitCount_0f7a4_18 ?_
  refine lv_iand hx hb dJ6_bitCount_0f7a4_21 ?_
  refine lv_iadd hx hb dJ6_bitCount_0f7a4_22 ?_
  refine z_top (y := jb2 (jb1 x)) rfl ?_
  refine lv_istore_n (lv' := [(0, .int (jb2 (jb1 x)))]) hx hb dJ6_bitCount_0f7a4_23 rfl hl (by decide) rfl (fun ls hl => ?_)
  refine lv_iload_n hx hb dJ6_bitCount_0f7a4_24 rfl (lv_at hl 0 rfl) ?_
  refine lv_iload_n hx hb dJ6_bitCount_0f7a4_25 rfl (lv_at hl 0 rfl) ?_
  refine lv_iconst (v := 4) hx hb dJ6_bitCount_0f7a4_26 (by decide) ?_
  refine lv_iushr (v := ((jb2 (jb1 x)).toUInt32 >>> ((4 : Int32).toUInt32 &&& Int32.toUInt32 31)).toInt32) hx hb dJ6_bitCount_0f7a4_27 rfl ?_
  refine lv_iadd hx hb dJ6_bitCount_0f7a4_28 ?_
  refine lv_ldcw (v := 252645135) hx hb hown (hts _ w_ct_J6_267) dJ6_bitCount_0f7a4_29 ?_
  refine lv_iand hx hb dJ6_bitCount_0f7a4_32 ?_
  refine z_top (y := jb3 (jb2 (jb1 x))) rfl ?_
  refine lv_istore_n (lv' := [(0, .int (jb3 (jb2 (jb1 x))))]) hx hb dJ6_bitCount_0f7a4_33 rfl hl (by decide) rfl (fun ls hl => ?_)
  refine lv_iload_n hx hb dJ6_bitCount_0f7a4_34 rfl (lv_at hl 0 rfl) ?_
  refine lv_iload_n hx hb dJ6_bitCount_0f7a4_35 rfl (lv_at hl 0 rfl) ?_
  refine lv_bipush (v := 8) hx hb dJ6_bitCount_0f7a4_36 (by decide) ?_
  refine lv_iushr (v := ((jb3 (jb2 (jb1 x))).toUInt32 >>> ((8 : Int32).toUInt32 &&& Int32.toUInt32 31)).toInt32) hx hb dJ6_bitCount_0f7a4_38 rfl ?_
  refine lv_iadd hx hb dJ6_bitCount_0f7a4_39 ?_
  refine z_top (y := jb4 (jb3 (jb2 (jb1 x)))) rfl ?_
  refine lv_istore_n (lv' := [(0, .int (jb4 (jb3 (jb2 (jb1 x)))))]) hx hb dJ6_bitCount_0f7a4_40 rfl hl (by decide) rfl (fun ls hl => ?_)
  refine lv_iload_n hx hb dJ6_bitCount_0f7a4_41 rfl (lv_at hl 0 rfl) ?_
  refine lv_iload_n hx hb dJ6_bitCount_0f7a4_42 rfl (lv_at hl 0 rfl) ?_
  refine lv_bipush (v := 16) hx hb dJ6_bitCount_0f7a4_43 (by decide) ?_
  refine lv_iushr (v := ((jb4 (jb3 (jb2 (jb1 x)))).toUInt32 >>> ((16 : Int32).toUInt32 &&& Int32.toUInt32 31)).toInt32) hx hb dJ6_bitCount_0f7a4_45 rfl ?_
  refine lv_iadd hx hb dJ6_bitCount_0f7a4_46 ?_
  refine z_top (y := jb5 (jb4 (jb3 (jb2 (jb1 x))))) rfl ?_
  refine lv_istore_n (lv' := [(0, .int (jb5 (jb4 (jb3 (jb2 (jb1 x))))))]) hx hb dJ6_bitCount_0f7a4_47 rfl hl (by decide) rfl (fun ls hl => ?_)
  refine lv_iload_n hx hb dJ6_bitCount_0f7a4_48 rfl (lv_at hl 0 rfl) ?_
  refine lv_bipush (v := 63) hx hb dJ6_bitCount_0f7a4_49 (by decide) ?_
  refine lv_iand hx hb dJ6_bitCount_0f7a4_51 ?_
  exact z_iret hx hb hr hlk hK hP hD hS dJ6_bitCount_0f7a4_52 rfl rfl

set_option maxHeartbeats 4000000 in
set_option maxRecDepth 100000 in
theorem c_X2_copyFrom (l : Launch) (D : va_G) (cs : zCs) (a b : Nat → Nat) (F G : Nat → Nat → Int32)  : zM l D cs yX2_copyFrom cX2_copyFrom 2 none 2 90 0 0 [.ref (a 3), .ref (b 3)] ((cylW cs a F) ++ (cylW cs b G)) none ((cylW cs a (zU (zU (zU (zU (zU (zU F 1 (G 1)) 2 (G 2)) 3 (G 3)) 4 (G 4)) 5 (G 5)) 6 (G 6))) ++ (cylW cs b G)) := by
  refine zM.of (own := RX2) (by decide) (Nat.le_of_ble_eq_true rfl) rfl ?_
  intro pq eq s mq below meth cq A ls hx hb hr hml hown hts hlk hnm hE hK hA hP hD hS hl
  have hl : lv_has ls 2 [(0, .ref (a 3)), (1, .ref (b 3))] := hl
  refine lv_aload_n hx hb dX2_copyFrom_0 rfl (lv_at hl 1 rfl) ?_
  refine va_get (D := D) (ci := 2) (v := .ref (b 4)) (C := RX2) (T := TX2) (N := 6) hx hb hts wsI_X2 hown hK hP 7 rfl rfl 0 (by decide) (hts _ w_fl_X2_9) (fun _ h9 => h9) rfl dX2_copyFrom_1 ?_
  refine lv_aload_n hx hb dX2_copyFrom_4 rfl (lv_at hl 0 rfl) ?_
  refine va_get (D := D) (ci := 2) (v := .ref (a 4)) (C := RX2) (T := TX2) (N := 6) hx hb hts wsI_X2 hown hK hP 0 rfl rfl 0 (by decide) (hts _ w_fl_X2_9) (fun _ h9 => h9) rfl dX2_copyFrom_5 ?_
  refine z_callSN (wn := ((cylW cs a (zU F 1 (G 1))) ++ (cylW cs b G))) ⟨hx, hb, hml, hown, hts⟩ zY_X7_copyRow w_st_yX7_copyRow (List.mem_of_getElem? (i := 6) rfl) [.ref (b 4), .ref (a 4)] [] (c_X7_copyRow l D cs (b 4) (a 4) 5 (G 1) (F 1) (by decide)) hE hK hA hP hD hS [8, 1] rfl rfl rfl rfl rfl hl.1 (Nat.le_of_ble_eq_true rfl) ⟨Nat.le_of_ble_eq_true rfl, Nat.le_of_ble_eq_true rfl⟩ ⟨Nat.le_of_ble_eq_true rfl, Nat.le_of_ble_eq_true rfl⟩ dX2_copyFrom_8 (fun H locs hP hD hS => ?_)
  refine lv_aload_n hx hb dX2_copyFrom_11 rfl (lv_at hl 1 rfl) ?_
  refine va_get (D := D) (ci := 2) (v := .ref (b 5)) (C := RX2) (T := TX2) (N := 6) hx hb hts wsI_X2 hown hK hP 7 rfl rfl 1 (by decide) (hts _ w_fl_X2_15) (fun _ h9 => h9) rfl dX2_copyFrom_12 ?_
  refine lv_aload_n hx hb dX2_copyFrom_15 rfl (lv_at hl 0 rfl) ?_
  refine va_get (D := D) (ci := 2) (v := .ref (a 5)) (C := RX2) (T := TX2) (N := 6) hx hb hts wsI_X2 hown hK hP 0 rfl rfl 1 (by decide) (hts _ w_fl_X2_15) (fun _ h9 => h9) rfl dX2_copyFrom_16 ?_
  refine z_callSN (wn := ((cylW cs a (zU (zU F 1 (G 1)) 2 (G 2))) ++ (cylW cs b G))) ⟨hx, hb, hml, hown, hts⟩ zY_X7_copyRow w_st_yX7_copyRow (List.mem_of_getElem? (i := 6) rfl) [.ref (b 5), .ref (a 5)] [] (c_X7_copyRow l D cs (b 5) (a 5) 5 (G 2) (F 2) (by decide)) hE hK hA hP hD hS [9, 2] rfl rfl rfl rfl rfl hl.1 (Nat.le_of_ble_eq_true rfl) ⟨Nat.le_of_ble_eq_true rfl, Nat.le_of_ble_eq_true rfl⟩ ⟨Nat.le_of_ble_eq_true rfl, Nat.le_of_ble_eq_true rfl⟩ dX2_copyFrom_19 (fun H locs hP hD hS => ?_)
  refine lv_aload_n hx hb dX2_copyFrom_22 rfl (lv_at hl 1 rfl) ?_
  refine va_get (D := D) (ci := 2) (v := .ref (b 6)) (C := RX2) (T := TX2) (N := 6) hx hb hts wsI_X2 hown hK hP 7 rfl rfl 2 (by decide) (hts _ w_fl_X2_18) (fun _ h9 => h9) rfl dX2_copyFrom_23 ?_
  refine lv_aload_n hx hb dX2_copyFrom_26 rfl (lv_at hl 0 rfl) ?_
  refine va_get (D := D) (ci := 2) (v := .ref (a 6)) (C := RX2) (T := TX2) (N := 6) hx hb hts wsI_X2 hown hK hP 0 rfl rfl 2 (by decide) (hts _ w_fl_X2_18) (fun _ h9 => h9) rfl dX2_copyFrom_27 ?_
  refine z_callSN (wn := ((cylW cs a (zU (zU (zU F 1 (G 1)) 2 (G 2)) 3 (G 3))) ++ (cylW cs b G))) ⟨hx, hb, hml, hown, hts⟩ zY_X7_copyRow w_st_yX7_copyRow (List.mem_of_getElem? (i := 6) rfl) [.ref (b 6), .ref (a 6)] [] (c_X7_copyRow l D cs (b 6) (a 6) 5 (G 3) (F 3) (by decide)) hE hK hA hP hD hS [10, 3] rfl rfl rfl rfl rfl hl.1 (Nat.le_of_ble_eq_true rfl) ⟨Nat.le_of_ble_eq_true rfl, Nat.le_of_ble_eq_true rfl⟩ ⟨Nat.le_of_ble_eq_true rfl, Nat.le_of_ble_eq_true rfl⟩ dX2_copyFrom_30 (fun H locs hP hD hS => ?_)
  refine lv_aload_n hx hb dX2_copyFrom_33 rfl (lv_at hl 1 rfl) ?_
  refine va_get (D := D) (ci := 2) (v := .ref (b 7)) (C := RX2) (T := TX2) (N := 6) hx hb hts wsI_X2 hown hK hP 7 rfl rfl 3 (by decide) (hts _ w_fl_X2_21) (fun _ h9 => h9) rfl dX2_copyFrom_34 ?_
  refine lv_aload_n hx hb dX2_copyFrom_37 rfl (lv_at hl 0 rfl) ?_
  refine va_get (D := D) (ci := 2) (v := .ref (a 7)) (C := RX2) (T := TX2) (N := 6) hx hb hts wsI_X2 hown hK hP 0 rfl rfl 3 (by decide) (hts _ w_fl_X2_21) (fun _ h9 => h9) rfl dX2_copyFrom_38 ?_
  refine z_callSN (wn := ((cylW cs a (zU (zU (zU (zU F 1 (G 1)) 2 (G 2)) 3 (G 3)) 4 (G 4))) ++ (cylW cs b G))) ⟨hx, hb, hml, hown, hts⟩ zY_X7_copyRow w_st_yX7_copyRow (List.mem_of_getElem? (i := 6) rfl) [.ref (b 7), .ref (a 7)] [] (c_X7_copyRow l D cs (b 7) (a 7) 5 (G 4) (F 4) (by decide)) hE hK hA hP hD hS [11, 4] rfl rfl rfl rfl rfl hl.1 (Nat.le_of_ble_eq_true rfl) ⟨Nat.le_of_ble_eq_true rfl, Nat.le_of_ble_eq_true rfl⟩ ⟨Nat.le_of_ble_eq_true rfl, Nat.le_of_ble_eq_true rfl⟩ dX2_copyFrom_41 (fun H locs hP hD hS => ?_)
  refine lv_aload_n hx hb dX2_copyFrom_44 rfl (lv_at hl 1 rfl) ?_
  refine va_get (D := D) (ci := 2) (v := .ref (b 8)) (C := RX2) (T := TX2) (N := 6) hx hb hts wsI_X2 hown hK hP 7 rfl rfl 4 (by decide) (hts _ w_fl_X2_24) (fun _ h9 => h9) rfl dX2_copyFrom_45 ?_
  refine lv_aload_n hx hb dX2_copyFrom_48 rfl (lv_at hl 0 rfl) ?_
  refine va_get (D := D) (ci := 2) (v := .ref (a 8)) (C := RX2) (T := TX2) (N := 6) hx hb hts wsI_X2 hown hK hP 0 rfl rfl 4 (by decide) (hts _ w_fl_X2_24) (fun _ h9 => h9) rfl dX2_copyFrom_49 ?_
  refine z_callSN (wn := ((cylW cs a (zU (zU (zU (zU (zU F 1 (G 1)) 2 (G 2)) 3 (G 3)) 4 (G 4)) 5 (G 5))) ++ (cylW cs b G))) ⟨hx, hb, hml, hown, hts⟩ zY_X7_copyRow w_st_yX7_copyRow (List.mem_of_getElem? (i := 6) rfl) [.ref (b 8), .ref (a 8)] [] (c_X7_copyRow l D cs (b 8) (a 8) 5 (G 5) (F 5) (by decide)) hE hK hA hP hD hS [12, 5] rfl rfl rfl rfl rfl hl.1 (Nat.le_of_ble_eq_true rfl) ⟨Nat.le_of_ble_eq_true rfl, Nat.le_of_ble_eq_true rfl⟩ ⟨Nat.le_of_ble_eq_true rfl, Nat.le_of_ble_eq_true rfl⟩ dX2_copyFrom_52 (fun H locs hP hD hS => ?_)
  refine lv_aload_n hx hb dX2_copyFrom_55 rfl (lv_at hl 1 rfl) ?_
  refine va_get (D := D) (ci := 2) (v := .ref (b 9)) (C := RX2) (T := TX2) (N := 6) hx hb hts wsI_X2 hown hK hP 7 rfl rfl 5 (by decide) (hts _ w_fl_X2_27) (fun _ h9 => h9) rfl dX2_copyFrom_56 ?_
  refine lv_aload_n hx hb dX2_copyFrom_59 rfl (lv_at hl 0 rfl) ?_
  refine va_get (D := D) (ci := 2) (v := .ref (a 9)) (C := RX2) (T := TX2) (N := 6) hx hb hts wsI_X2 hown hK hP 0 rfl rfl 5 (by decide) (hts _ w_fl_X2_27) (fun _ h9 => h9) rfl dX2_copyFrom_60 ?_
  refine z_callSN (wn := ((cylW cs a (zU (zU (zU (zU (zU (zU F 1 (G 1)) 2 (G 2)) 3 (G 3)) 4 (G 4)) 5 (G 5)) 6 (G 6))) ++ (cylW cs b G))) ⟨hx, hb, hml, hown, hts⟩ zY_X7_copyRow w_st_yX7_copyRow (List.mem_of_getElem? (i := 6) rfl) [.ref (b 9), .ref (a 9)] [] (c_X7_copyRow l D cs (b 9) (a 9) 5 (G 6) (F 6) (by decide)) hE hK hA hP hD hS [13, 6] rfl rfl rfl rfl rfl hl.1 (Nat.le_of_ble_eq_true rfl) ⟨Nat.le_of_ble_eq_true rfl, Nat.le_of_ble_eq_true rfl⟩ ⟨Nat.le_of_ble_eq_true rfl, Nat.le_of_ble_eq_true rfl⟩ dX2_copyFrom_63 (fun H locs hP hD hS => ?_)
  exact z_vret hx hb hr hlk hK hP hD hS dX2_copyFrom_66 rfl rfl

set_option maxHeartbeats 4000000 in
set_option maxRecDepth 100000 in
theorem c_X3_copyFrom (l : Launch) (D : va_G) (cs : zCs) (a b : Nat → Nat) (S V : Nat → Int32) (F G : Nat → Nat → Int32)  : zM l D cs yX3_copyFrom cX3_copyFrom 2 none 2 90 0 0 [.ref (a 10), .ref (b 10)] ((grdW cs a S F) ++ (grdW cs b V G)) none ((grdW cs a (upd S 8 (V 8)) (zU (zU (zU F 7 (G 7)) 8 (G 8)) 9 (G 9))) ++ (grdW cs b V G)) := by
  refine zM.of (own := RX3) (by decide) (Nat.le_of_ble_eq_true rfl) rfl ?_
  intro pq eq s mq below meth cq A ls hx hb hr hml hown hts hlk hnm hE hK hA hP hD hS hl
  have hl : lv_has ls 2 [(0, .ref (a 10)), (1, .ref (b 10))] := hl
  refine lv_aload_n hx hb dX3_copyFrom_0 rfl (lv_at hl 1 rfl) ?_
  refine va_get (D := D) (ci := 3) (v := .ref (b 11)) (C := RX3) (T := TX3) (N := 4) hx hb hts wsI_X3 hown hK hP 4 rfl rfl 0 (by decide) (hts _ w_fl_X3_9) (fun _ h9 => h9) rfl dX3_copyFrom_1 ?_
  refine lv_aload_n hx hb dX3_copyFrom_4 rfl (lv_at hl 0 rfl) ?_
  refine va_get (D := D) (ci := 3) (v := .ref (a 11)) (C := RX3) (T := TX3) (N := 4) hx hb hts wsI_X3 hown hK hP 0 rfl rfl 0 (by decide) (hts _ w_fl_X3_9) (fun _ h9 => h9) rfl dX3_copyFrom_5 ?_
  refine z_callSN (wn := ((grdW cs a S (zU F 7 (G 7))) ++ (grdW cs b V G))) ⟨hx, hb, hml, hown, hts⟩ zY_X7_copyRow w_st_yX7_copyRow (List.mem_of_getElem? (i := 7) rfl) [.ref (b 11), .ref (a 11)] [] (c_X7_copyRow l D cs (b 11) (a 11) 4 (G 7) (F 7) (by decide)) hE hK hA hP hD hS [5, 1] rfl rfl rfl rfl rfl hl.1 (Nat.le_of_ble_eq_true rfl) ⟨Nat.le_of_ble_eq_true rfl, Nat.le_of_ble_eq_true rfl⟩ ⟨Nat.le_of_ble_eq_true rfl, Nat.le_of_ble_eq_true rfl⟩ dX3_copyFrom_8 (fun H locs hP hD hS => ?_)
  refine lv_aload_n hx hb dX3_copyFrom_11 rfl (lv_at hl 1 rfl) ?_
  refine va_get (D := D) (ci := 3) (v := .ref (b 12)) (C := RX3) (T := TX3) (N := 4) hx hb hts wsI_X3 hown hK hP 4 rfl rfl 1 (by decide) (hts _ w_fl_X3_15) (fun _ h9 => h9) rfl dX3_copyFrom_12 ?_
  refine lv_aload_n hx hb dX3_copyFrom_15 rfl (lv_at hl 0 rfl) ?_
  refine va_get (D := D) (ci := 3) (v := .ref (a 12)) (C := RX3) (T := TX3) (N := 4) hx hb hts wsI_X3 hown hK hP 0 rfl rfl 1 (by decide) (hts _ w_fl_X3_15) (fun _ h9 => h9) rfl dX3_copyFrom_16 ?_
  refine z_callSN (wn := ((grdW cs a S (zU (zU F 7 (G 7)) 8 (G 8))) ++ (grdW cs b V G))) ⟨hx, hb, hml, hown, hts⟩ zY_X7_copyRow w_st_yX7_copyRow (List.mem_of_getElem? (i := 7) rfl) [.ref (b 12), .ref (a 12)] [] (c_X7_copyRow l D cs (b 12) (a 12) 4 (G 8) (F 8) (by decide)) hE hK hA hP hD hS [6, 2] rfl rfl rfl rfl rfl hl.1 (Nat.le_of_ble_eq_true rfl) ⟨Nat.le_of_ble_eq_true rfl, Nat.le_of_ble_eq_true rfl⟩ ⟨Nat.le_of_ble_eq_true rfl, Nat.le_of_ble_eq_true rfl⟩ dX3_copyFrom_19 (fun H locs hP hD hS => ?_)
  refine lv_aload_n hx hb dX3_copyFrom_22 rfl (lv_at hl 1 rfl) ?_
  refine va_get (D := D) (ci := 3) (v := .ref (b 13)) (C := RX3) (T := TX3) (N := 4) hx hb hts wsI_X3 hown hK hP 4 rfl rfl 2 (by decide) (hts _ w_fl_X3_18) (fun _ h9 => h9) rfl dX3_copyFrom_23 ?_
  refine lv_aload_n hx hb dX3_copyFrom_26 rfl (lv_at hl 0 rfl) ?_
  refine va_get (D := D) (ci := 3) (v := .ref (a 13)) (C := RX3) (T := TX3) (N := 4) hx hb hts wsI_X3 hown hK hP 0 rfl rfl 2 (by decide) (hts _ w_fl_X3_18) (fun _ h9 => h9) rfl dX3_copyFrom_27 ?_
  refine z_callSN (wn := ((grdW cs a S (zU (zU (zU F 7 (G 7)) 8 (G 8)) 9 (G 9))) ++ (grdW cs b V G))) ⟨hx, hb, hml, hown, hts⟩ zY_X7_copyRow w_st_yX7_copyRow (List.mem_of_getElem? (i := 7) rfl) [.ref (b 13), .ref (a 13)] [] (c_X7_copyRow l D cs (b 13) (a 13) 4 (G 9) (F 9) (by decide)) hE hK hA hP hD hS [7, 3] rfl rfl rfl rfl rfl hl.1 (Nat.le_of_ble_eq_true rfl) ⟨Nat.le_of_ble_eq_true rfl, Nat.le_of_ble_eq_true rfl⟩ ⟨Nat.le_of_ble_eq_true rfl, Nat.le_of_ble_eq_true rfl⟩ dX3_copyFrom_30 (fun H locs hP hD hS => ?_)
  refine lv_aload_n hx hb dX3_copyFrom_33 rfl (lv_at hl 0 rfl) ?_
  refine lv_aload_n hx hb dX3_copyFrom_34 rfl (lv_at hl 1 rfl) ?_
  refine va_get (D := D) (ci := 3) (v := .int (V 8)) (C := RX3) (T := TX3) (N := 4) hx hb hts wsI_X3 hown hK hP 4 rfl rfl 3 (by decide) (hts _ w_fl_X3_25) (fun _ h9 => h9) rfl dX3_copyFrom_35 ?_
  refine va_put (D := D) (ci := 3) (v := .int (V 8)) (C := RX3) (T := TX3) (N := 4) hx hb hts wsI_X3 tyX3 tyX3_ok nmX3 hown hK hP hD hS 0 rfl rfl 3 (by decide) (hts _ w_fl_X3_25) (fun _ h9 => h9) rfl (tyX3_ok 3 (by decide)) rfl rfl (Nat.le_of_ble_eq_true rfl) dX3_copyFrom_38 (fun H locs hP hD hS => ?_)
  have hP : va_P D vwCl ((grdW cs a (upd S 8 (V 8)) (zU (zU (zU F 7 (G 7)) 8 (G 8)) 9 (G 9))) ++ (grdW cs b V G)) H := hP
  have hD : va_D A ((grdW cs a (upd S 8 (V 8)) (zU (zU (zU F 7 (G 7)) 8 (G 8)) 9 (G 9))) ++ (grdW cs b V G)) := hD
  exact z_vret hx hb hr hlk hK hP hD hS dX3_copyFrom_41 rfl rfl

set_option maxHeartbeats 4000000 in
set_option maxRecDepth 100000 in
theorem c_X1_copyFrom (l : Launch) (D : va_G) (cs : zCs) (a b : Nat → Nat) (F G : Nat → Nat → Int32)  : zM l D cs yX1_copyFrom cX1_copyFrom 2 none 2 90 0 0 [.ref (a 14), .ref (b 14)] ((chtW cs a F) ++ (chtW cs b G)) none ((chtW cs a (zU (zU F 10 (G 10)) 11 (G 11))) ++ (chtW cs b G)) := by
  refine zM.of (own := RX1) (by decide) (Nat.le_of_ble_eq_true rfl) rfl ?_
  intro pq eq s mq below meth cq A ls hx hb hr hml hown hts hlk hnm hE hK hA hP hD hS hl
  have hl : lv_has ls 2 [(0, .ref (a 14)), (1, .ref (b 14))] := hl
  refine lv_aload_n hx hb dX1_copyFrom_0 rfl (lv_at hl 1 rfl) ?_
  refine va_get (D := D) (ci := 1) (v := .ref (b 15)) (C := RX1) (T := TX1) (N := 2) hx hb hts wsI_X1 hown hK hP 3 rfl rfl 0 (by decide) (hts _ w_fl_X1_9) (fun _ h9 => h9) rfl dX1_copyFrom_1 ?_
  refine lv_aload_n hx hb dX1_copyFrom_4 rfl (lv_at hl 0 rfl) ?_
  refine va_get (D := D) (ci := 1) (v := .ref (a 15)) (C := RX1) (T := TX1) (N := 2) hx hb hts wsI_X1 hown hK hP 0 rfl rfl 0 (by decide) (hts _ w_fl_X1_9) (fun _ h9 => h9) rfl dX1_copyFrom_5 ?_
  refine z_callSN (wn := ((chtW cs a (zU F 10 (G 10))) ++ (chtW cs b G))) ⟨hx, hb, hml, hown, hts⟩ zY_X7_copyRow w_st_yX7_copyRow (List.mem_of_getElem? (i := 8) rfl) [.ref (b 15), .ref (a 15)] [] (c_X7_copyRow l D cs (b 15) (a 15) 80 (G 10) (F 10) (by decide)) hE hK hA hP hD hS [4, 1] rfl rfl rfl rfl rfl hl.1 (Nat.le_of_ble_eq_true rfl) ⟨Nat.le_of_ble_eq_true rfl, Nat.le_of_ble_eq_true rfl⟩ ⟨Nat.le_of_ble_eq_true rfl, Nat.le_of_ble_eq_true rfl⟩ dX1_copyFrom_8 (fun H locs hP hD hS => ?_)
  refine lv_aload_n hx hb dX1_copyFrom_11 rfl (lv_at hl 1 rfl) ?_
  refine va_get (D := D) (ci := 1) (v := .ref (b 16)) (C := RX1) (T := TX1) (N := 2) hx hb hts wsI_X1 hown hK hP 3 rfl rfl 1 (by decide) (hts _ w_fl_X1_15) (fun _ h9 => h9) rfl dX1_copyFrom_12 ?_
  refine lv_aload_n hx hb dX1_copyFrom_15 rfl (lv_at hl 0 rfl) ?_
  refine va_get (D := D) (ci := 1) (v := .ref (a 16)) (C := RX1) (T := TX1) (N := 2) hx hb hts wsI_X1 hown hK hP 0 rfl rfl 1 (by decide) (hts _ w_fl_X1_15) (fun _ h9 => h9) rfl dX1_copyFrom_16 ?_
  refine z_callSN (wn := ((chtW cs a (zU (zU F 10 (G 10)) 11 (G 11))) ++ (chtW cs b G))) ⟨hx, hb, hml, hown, hts⟩ zY_X7_copyRow w_st_yX7_copyRow (List.mem_of_getElem? (i := 8) rfl) [.ref (b 16), .ref (a 16)] [] (c_X7_copyRow l D cs (b 16) (a 16) 16 (G 11) (F 11) (by decide)) hE hK hA hP hD hS [5, 2] rfl rfl rfl rfl rfl hl.1 (Nat.le_of_ble_eq_true rfl) ⟨Nat.le_of_ble_eq_true rfl, Nat.le_of_ble_eq_true rfl⟩ ⟨Nat.le_of_ble_eq_true rfl, Nat.le_of_ble_eq_true rfl⟩ dX1_copyFrom_19 (fun H locs hP hD hS => ?_)
  exact z_vret hx hb hr hlk hK hP hD hS dX1_copyFrom_22 rfl rfl

set_option maxHeartbeats 4000000 in
set_option maxRecDepth 100000 in
theorem c_X3_putLast (l : Launch) (D : va_G) (cs : zCs) (a : Nat → Nat) (S : Nat → Int32) (F : Nat → Nat → Int32) (x y z : Int32) (hc : 0 ≤ S 8 ∧ S 8 ≤ 3) : zM l D cs yX3_putLast cX3_putLast 4 (some FieldType.int) 1 22 0 0 [.ref (a 10), .int x, .int y, .int z] (grdW cs a S F) (some (.int ((S 8) + 1 - 1))) (grdW cs a (upd S 8 ((S 8) + 1)) (zU (zU (zU F 7 (upd (F 7) (S 8).toNatClampNeg x)) 8 (upd (F 8) (S 8).toNatClampNeg y)) 9 (upd (F 9) (S 8).toNatClampNeg z))) := by
  refine zM.of (own := RX3) (by decide) (Nat.le_of_ble_eq_true rfl) rfl ?_
  intro pq eq s mq below meth cq A ls hx hb hr hml hown hts hlk hnm hE hK hA hP hD hS hl
  have hl : lv_has ls 4 [(0, .ref (a 10)), (1, .int x), (2, .int y), (3, .int z)] := hl
  refine lv_aload_n hx hb dX3_putLast_0 rfl (lv_at hl 0 rfl) ?_
  refine va_get (D := D) (ci := 3) (v := .int (S 8)) (C := RX3) (T := TX3) (N := 4) hx hb hts wsI_X3 hown hK hP 0 rfl rfl 3 (by decide) (hts _ w_fl_X3_25) (fun _ h9 => h9) rfl dX3_putLast_1 ?_
  refine lv_iconst (v := 0) hx hb dX3_putLast_4 (by decide) ?_
  refine lv_iconst (v := 3) hx hb dX3_putLast_5 (by decide) ?_
  refine z_callSN (wn := (grdW cs a S F)) ⟨hx, hb, hml, hown, hts⟩ zY_X7_within w_st_yX7_within (List.mem_of_getElem? (i := 11) rfl) [.int (S 8), .int 0, .int 3] [] (c_X7_within l D cs (S 8) 0 3) hE hK hA hP hD hS [] rfl rfl rfl z_ins_nil rfl hl.1 (Nat.le_of_ble_eq_true rfl) ⟨Nat.le_of_ble_eq_true rfl, Nat.le_of_ble_eq_true rfl⟩ ⟨Nat.le_of_ble_eq_true rfl, Nat.le_of_ble_eq_true rfl⟩ dX3_putLast_6 (fun H locs hP hD hS => ?_)
  refine lv_if_ne (tgt := 14) hx hb dX3_putLast_9 (by decide) (fun c_1 => ?_) (fun c_1 => ?_)
  · skip
    have c_1 := bI_n0 c_1
    refine lv_aload_n hx hb dX3_putLast_14 rfl (lv_at hl 0 rfl) ?_
    refine va_get (D := D) (ci := 3) (v := .ref (a 11)) (C := RX3) (T := TX3) (N := 4) hx hb hts wsI_X3 hown hK hP 0 rfl rfl 0 (by decide) (hts _ w_fl_X3_9) (fun _ h9 => h9) rfl dX3_putLast_15 ?_
    refine lv_aload_n hx hb dX3_putLast_18 rfl (lv_at hl 0 rfl) ?_
    refine va_get (D := D) (ci := 3) (v := .int (S 8)) (C := RX3) (T := TX3) (N := 4) hx hb hts wsI_X3 hown hK hP 0 rfl rfl 3 (by decide) (hts _ w_fl_X3_25) (fun _ h9 => h9) rfl dX3_putLast_19 ?_
    refine lv_iload_n hx hb dX3_putLast_22 rfl (lv_at hl 1 rfl) ?_
    refine va_iast hx hb hK hP hD hS 1 0 rfl rfl (z_in4 hc) dX3_putLast_23 (fun H locs hP hD hS => ?_)
    have hP : va_P D vwCl (grdW cs a S (zU F 7 (upd (F 7) (S 8).toNatClampNeg x))) H := hP
    have hD : va_D A (grdW cs a S (zU F 7 (upd (F 7) (S 8).toNatClampNeg x))) := hD
    refine lv_aload_n hx hb dX3_putLast_24 rfl (lv_at hl 0 rfl) ?_
    refine va_get (D := D) (ci := 3) (v := .ref (a 12)) (C := RX3) (T := TX3) (N := 4) hx hb hts wsI_X3 hown hK hP 0 rfl rfl 1 (by decide) (hts _ w_fl_X3_15) (fun _ h9 => h9) rfl dX3_putLast_25 ?_
    refine lv_aload_n hx hb dX3_putLast_28 rfl (lv_at hl 0 rfl) ?_
    refine va_get (D := D) (ci := 3) (v := .int (S 8)) (C := RX3) (T := TX3) (N := 4) hx hb hts wsI_X3 hown hK hP 0 rfl rfl 3 (by decide) (hts _ w_fl_X3_25) (fun _ h9 => h9) rfl dX3_putLast_29 ?_
    refine lv_iload_n hx hb dX3_putLast_32 rfl (lv_at hl 2 rfl) ?_
    refine va_iast hx hb hK hP hD hS 2 0 rfl rfl (z_in4 hc) dX3_putLast_33 (fun H locs hP hD hS => ?_)
    have hP : va_P D vwCl (grdW cs a S (zU (zU F 7 (upd (F 7) (S 8).toNatClampNeg x)) 8 (upd (F 8) (S 8).toNatClampNeg y))) H := hP
    have hD : va_D A (grdW cs a S (zU (zU F 7 (upd (F 7) (S 8).toNatClampNeg x)) 8 (upd (F 8) (S 8).toNatClampNeg y))) := hD
    refine lv_aload_n hx hb dX3_putLast_34 rfl (lv_at hl 0 rfl) ?_
    refine va_get (D := D) (ci := 3) (v := .ref (a 13)) (C := RX3) (T := TX3) (N := 4) hx hb hts wsI_X3 hown hK hP 0 rfl rfl 2 (by decide) (hts _ w_fl_X3_18) (fun _ h9 => h9) rfl dX3_putLast_35 ?_
    refine lv_aload_n hx hb dX3_putLast_38 rfl (lv_at hl 0 rfl) ?_
    refine va_get (D := D) (ci := 3) (v := .int (S 8)) (C := RX3) (T := TX3) (N := 4) hx hb hts wsI_X3 hown hK hP 0 rfl rfl 3 (by decide) (hts _ w_fl_X3_25) (fun _ h9 => h9) rfl dX3_putLast_39 ?_
    refine lv_iload_n hx hb dX3_putLast_42 rfl (lv_at hl 3 rfl) ?_
    refine va_iast hx hb hK hP hD hS 3 0 rfl rfl (z_in4 hc) dX3_putLast_43 (fun H locs hP hD hS => ?_)
    have hP : va_P D vwCl (grdW cs a S (zU (zU (zU F 7 (upd (F 7) (S 8).toNatClampNeg x)) 8 (upd (F 8) (S 8).toNatClampNeg y)) 9 (upd (F 9) (S 8).toNatClampNeg z))) H := hP
    have hD : va_D A (grdW cs a S (zU (zU (zU F 7 (upd (F 7) (S 8).toNatClampNeg x)) 8 (upd (F 8) (S 8).toNatClampNeg y)) 9 (upd (F 9) (S 8).toNatClampNeg z))) := hD
    refine lv_aload_n hx hb dX3_putLast_44 rfl (lv_at hl 0 rfl) ?_
    refine lv_dup hx hb dX3_putLast_45 rfl ?_
    refine va_get (D := D) (ci := 3) (v := .int (S 8)) (C := RX3) (T := TX3) (N := 4) hx hb hts wsI_X3 hown hK hP 0 rfl rfl 3 (by decide) (hts _ w_fl_X3_25) (fun _ h9 => h9) rfl dX3_putLast_46 ?_
    refine lv_iconst (v := 1) hx hb dX3_putLast_49 (by decide) ?_
    refine lv_iadd hx hb dX3_putLast_50 ?_
    refine va_put (D := D) (ci := 3) (v := .int ((S 8) + 1)) (C := RX3) (T := TX3) (N := 4) hx hb hts wsI_X3 tyX3 tyX3_ok nmX3 hown hK hP hD hS 0 rfl rfl 3 (by decide) (hts _ w_fl_X3_25) (fun _ h9 => h9) rfl (tyX3_ok 3 (by decide)) rfl rfl (Nat.le_of_ble_eq_true rfl) dX3_putLast_51 (fun H locs hP hD hS => ?_)
    have hP : va_P D vwCl (grdW cs a (upd S 8 ((S 8) + 1)) (zU (zU (zU F 7 (upd (F 7) (S 8).toNatClampNeg x)) 8 (upd (F 8) (S 8).toNatClampNeg y)) 9 (upd (F 9) (S 8).toNatClampNeg z))) H := hP
    have hD : va_D A (grdW cs a (upd S 8 ((S 8) + 1)) (zU (zU (zU F 7 (upd (F 7) (S 8).toNatClampNeg x)) 8 (upd (F 8) (S 8).toNatClampNeg y)) 9 (upd (F 9) (S 8).toNatClampNeg z))) := hD
    refine lv_aload_n hx hb dX3_putLast_54 rfl (lv_at hl 0 rfl) ?_
    refine va_get (D := D) (ci := 3) (v := .int ((S 8) + 1)) (C := RX3) (T := TX3) (N := 4) hx hb hts wsI_X3 hown hK hP 0 rfl rfl 3 (by decide) (hts _ w_fl_X3_25) (fun _ h9 => h9) rfl dX3_putLast_55 ?_
    refine lv_iconst (v := 1) hx hb dX3_putLast_58 (by decide) ?_
    refine lv_isub hx hb dX3_putLast_59 ?_
    exact z_iret hx hb hr hlk hK hP hD hS dX3_putLast_60 rfl rfl
  · skip
    have c_1 := bI_0.mp c_1
    exact absurd hc c_1

set_option maxHeartbeats 4000000 in
set_option maxRecDepth 100000 in
theorem c_X3_takeOut (l : Launch) (D : va_G) (cs : zCs) (a : Nat → Nat) (S : Nat → Int32) (F : Nat → Nat → Int32) (g n : Nat) (hS8 : S 8 = nI n) (hg : g < n) (hn : n ≤ 4) : zM l D cs yX3_takeOut cX3_takeOut 3 none 1 22 0 0 [.ref (a 10), .int (nI g)] (grdW cs a S F) none (grdW cs a (upd S 8 (nI (n - 1))) (zU (zU (zU F 7 (toF (n - 1 - g) g F 7)) 8 (toF (n - 1 - g) g F 8)) 9 (toF (n - 1 - g) g F 9))) := by
  refine zM.of (own := RX3) (by decide) (Nat.le_of_ble_eq_true rfl) rfl ?_
  intro pq eq s mq below meth cq A ls hx hb hr hml hown hts hlk hnm hE hK hA hP hD hS hl
  have hl : lv_has ls 3 [(0, .ref (a 10)), (1, .int (nI g))] := hl
  refine lv_iload_n hx hb dX3_takeOut_0 rfl (lv_at hl 1 rfl) ?_
  refine lv_iconst (v := 0) hx hb dX3_takeOut_1 (by decide) ?_
  refine va_mmax hx hb (hml.trans hl.1.symm) hown (hts _ w_ml_X3_33) (hts _ w_st_Mmax) (hts _ w_in_J9) (hts _ w_co_Mmax) (Nat.le_of_ble_eq_true rfl) (Nat.le_of_ble_eq_true rfl) (Nat.le_of_ble_eq_true rfl) (Nat.le_of_ble_eq_true rfl) dX3_takeOut_2 ?_
  refine z_top (y := zmax (nI g) 0) rfl ?_
  refine z_top (y := nI g) (by unfold zmax; rw [if_neg (nI_pos (by omega))]) ?_
  refine lv_istore_n (lv' := [(2, .int (nI g)), (0, .ref (a 10)), (1, .int (nI g))]) hx hb dX3_takeOut_5 rfl hl (by decide) rfl (fun ls hl => ?_)
  have lp6 : ∀ (k : Nat) (i : Nat) (G : Nat → Nat → Int32), (i < n) → (n ≤ i + k) → (toF (n - 1 - i) i G = toF (n - 1 - g) g F) → ∀ (H : Heap) (locs : List Loc) (ls : Array Slot), va_P D vwCl (grdW cs a S G) H → va_D A (grdW cs a S G) → va_S A s.heap H locs → lv_has ls 3 [(0, .ref (a 10)), (2, .int (nI i))] → W pq l eq ({ frames := 1, cells := 0, slots := 0, locals := 22 } : Room) s mq ([.ref (a 10), .int (nI g)] : List Value).toArray below meth cq H locs 0 0 (MQ below (zQ D cs none (grdW cs a (upd S 8 (nI (n - 1))) (zU (zU (zU F 7 (toF (n - 1 - g) g F 7)) 8 (toF (n - 1 - g) g F 8)) 9 (toF (n - 1 - g) g F 9))) A) ([.ref (a 10), .int (nI g)] : List Value).toArray s 0 0 A) (F0 mq 6 ls []) := by
    intro k
    induction k with
    | zero =>
      intro i G h1 h2 h3 H locs ls hP hD hS hl
      omega
    | succ k ih =>
      intro i G h1 h2 h3 H locs ls hP hD hS hl
      refine lv_iload_n hx hb dX3_takeOut_6 rfl (lv_at hl 1 rfl) ?_
      refine lv_iconst (v := 1) hx hb dX3_takeOut_7 (by decide) ?_
      refine lv_iadd hx hb dX3_takeOut_8 ?_
      refine z_top (y := nI (i + 1)) (nI_add i 1) ?_
      refine lv_aload_n hx hb dX3_takeOut_9 rfl (lv_at hl 0 rfl) ?_
      refine va_get (D := D) (ci := 3) (v := .int (S 8)) (C := RX3) (T := TX3) (N := 4) hx hb hts wsI_X3 hown hK hP 0 rfl rfl 3 (by decide) (hts _ w_fl_X3_25) (fun _ h9 => h9) rfl dX3_takeOut_10 ?_
      refine z_top (y := nI n) hS8 ?_
      refine lv_icmp_ge (tgt := 71) hx hb dX3_takeOut_13 (by decide) (fun c_1 => ?_) (fun c_1 => ?_)
      · skip
        have h4 : n = i + 1 := by have := (nI_leI (by omega) (by omega)).mp c_1; omega
        refine lv_aload_n hx hb dX3_takeOut_71 rfl (lv_at hl 0 rfl) ?_
        refine lv_dup hx hb dX3_takeOut_72 rfl ?_
        refine va_get (D := D) (ci := 3) (v := .int (S 8)) (C := RX3) (T := TX3) (N := 4) hx hb hts wsI_X3 hown hK hP 0 rfl rfl 3 (by decide) (hts _ w_fl_X3_25) (fun _ h9 => h9) rfl dX3_takeOut_73 ?_
        refine lv_iconst (v := 1) hx hb dX3_takeOut_76 (by decide) ?_
        refine lv_isub hx hb dX3_takeOut_77 ?_
        refine va_put (D := D) (ci := 3) (v := .int ((S 8) - 1)) (C := RX3) (T := TX3) (N := 4) hx hb hts wsI_X3 tyX3 tyX3_ok nmX3 hown hK hP hD hS 0 rfl rfl 3 (by decide) (hts _ w_fl_X3_25) (fun _ h9 => h9) rfl (tyX3_ok 3 (by decide)) rfl rfl (Nat.le_of_ble_eq_true rfl) dX3_takeOut_78 (fun H locs hP hD hS => ?_)
        have hP : va_P D vwCl (grdW cs a (upd S 8 ((S 8) - 1)) G) H := hP
        have hD : va_D A (grdW cs a (upd S 8 ((S 8) - 1)) G) := hD
        have h6 : toF (n - 1 - g) g F = G := by rw [← h3, show n - 1 - i = 0 by omega]; rfl
        exact z_vret hx hb hr hlk hK hP hD hS dX3_takeOut_81 rfl (by rw [h6]; show grdW cs a (upd S 8 (S 8 - 1)) G = grdW cs a (upd S 8 (nI (n - 1))) (zU (zU (zU F 7 (G 7)) 8 (G 8)) 9 (G 9)); rw [hS8, h4, show nI (i + 1) - 1 = nI i from nI_pred i]; rfl)
      · skip
        have h4 : i + 1 < n := Nat.lt_of_not_le (fun q => c_1 ((nI_leI (by omega) (by omega)).mpr q))
        refine lv_iload_n hx hb dX3_takeOut_16 rfl (lv_at hl 1 rfl) ?_
        refine lv_iconst (v := 1) hx hb dX3_takeOut_17 (by decide) ?_
        refine lv_iadd hx hb dX3_takeOut_18 ?_
        refine z_top (y := nI (i + 1)) (nI_add i 1) ?_
        refine lv_iconst (v := 4) hx hb dX3_takeOut_19 (by decide) ?_
        refine lv_icmp_ge (tgt := 71) hx hb dX3_takeOut_20 (by decide) (fun c_2 => ?_) (fun c_2 => ?_)
        · skip
          exact absurd ((nI_leI (a := 4) (by omega) (by omega)).mp c_2) (by omega)
        · skip
          refine lv_aload_n hx hb dX3_takeOut_23 rfl (lv_at hl 0 rfl) ?_
          refine va_get (D := D) (ci := 3) (v := .ref (a 11)) (C := RX3) (T := TX3) (N := 4) hx hb hts wsI_X3 hown hK hP 0 rfl rfl 0 (by decide) (hts _ w_fl_X3_9) (fun _ h9 => h9) rfl dX3_takeOut_24 ?_
          refine lv_iload_n hx hb dX3_takeOut_27 rfl (lv_at hl 1 rfl) ?_
          refine lv_aload_n hx hb dX3_takeOut_28 rfl (lv_at hl 0 rfl) ?_
          refine va_get (D := D) (ci := 3) (v := .ref (a 11)) (C := RX3) (T := TX3) (N := 4) hx hb hts wsI_X3 hown hK hP 0 rfl rfl 0 (by decide) (hts _ w_fl_X3_9) (fun _ h9 => h9) rfl dX3_takeOut_29 ?_
          refine lv_iload_n hx hb dX3_takeOut_32 rfl (lv_at hl 1 rfl) ?_
          refine lv_iconst (v := 1) hx hb dX3_takeOut_33 (by decide) ?_
          refine lv_iadd hx hb dX3_takeOut_34 ?_
          refine z_top (y := nI (i + 1)) (nI_add i 1) ?_
          refine z_iald (k := i + 1) hx hb hK hP 1 rfl (by omega) (by first | decide | omega) dX3_takeOut_35 ?_
          refine z_iast (k := i) hx hb hK hP hD hS 1 rfl (by omega) (by first | decide | omega) dX3_takeOut_36 (fun H locs hP hD hS => ?_)
          have hP : va_P D vwCl (grdW cs a S (zU G 7 (upd (G 7) i ((G 7) (i + 1))))) H := hP
          have hD : va_D A (grdW cs a S (zU G 7 (upd (G 7) i ((G 7) (i + 1))))) := hD
          refine lv_aload_n hx hb dX3_takeOut_37 rfl (lv_at hl 0 rfl) ?_
          refine va_get (D := D) (ci := 3) (v := .ref (a 12)) (C := RX3) (T := TX3) (N := 4) hx hb hts wsI_X3 hown hK hP 0 rfl rfl 1 (by decide) (hts _ w_fl_X3_15) (fun _ h9 => h9) rfl dX3_takeOut_38 ?_
          refine lv_iload_n hx hb dX3_takeOut_41 rfl (lv_at hl 1 rfl) ?_
          refine lv_aload_n hx hb dX3_takeOut_42 rfl (lv_at hl 0 rfl) ?_
          refine va_get (D := D) (ci := 3) (v := .ref (a 12)) (C := RX3) (T := TX3) (N := 4) hx hb hts wsI_X3 hown hK hP 0 rfl rfl 1 (by decide) (hts _ w_fl_X3_15) (fun _ h9 => h9) rfl dX3_takeOut_43 ?_
          refine lv_iload_n hx hb dX3_takeOut_46 rfl (lv_at hl 1 rfl) ?_
          refine lv_iconst (v := 1) hx hb dX3_takeOut_47 (by decide) ?_
          refine lv_iadd hx hb dX3_takeOut_48 ?_
          refine z_top (y := nI (i + 1)) (nI_add i 1) ?_
          refine z_iald (k := i + 1) hx hb hK hP 2 rfl (by omega) (by first | decide | omega) dX3_takeOut_49 ?_
          refine z_iast (k := i) hx hb hK hP hD hS 2 rfl (by omega) (by first | decide | omega) dX3_takeOut_50 (fun H locs hP hD hS => ?_)
          have hP : va_P D vwCl (grdW cs a S (zU (zU G 7 (upd (G 7) i ((G 7) (i + 1)))) 8 (upd (G 8) i ((G 8) (i + 1))))) H := hP
          have hD : va_D A (grdW cs a S (zU (zU G 7 (upd (G 7) i ((G 7) (i + 1)))) 8 (upd (G 8) i ((G 8) (i + 1))))) := hD
          refine lv_aload_n hx hb dX3_takeOut_51 rfl (lv_at hl 0 rfl) ?_
          refine va_get (D := D) (ci := 3) (v := .ref (a 13)) (C := RX3) (T := TX3) (N := 4) hx hb hts wsI_X3 hown hK hP 0 rfl rfl 2 (by decide) (hts _ w_fl_X3_18) (fun _ h9 => h9) rfl dX3_takeOut_52 ?_
          refine lv_iload_n hx hb dX3_takeOut_55 rfl (lv_at hl 1 rfl) ?_
          refine lv_aload_n hx hb dX3_takeOut_56 rfl (lv_at hl 0 rfl) ?_
          refine va_get (D := D) (ci := 3) (v := .ref (a 13)) (C := RX3) (T := TX3) (N := 4) hx hb hts wsI_X3 hown hK hP 0 rfl rfl 2 (by decide) (hts _ w_fl_X3_18) (fun _ h9 => h9) rfl dX3_takeOut_57 ?_
          refine lv_iload_n hx hb dX3_takeOut_60 rfl (lv_at hl 1 rfl) ?_
          refine lv_iconst (v := 1) hx hb dX3_takeOut_61 (by decide) ?_
          refine lv_iadd hx hb dX3_takeOut_62 ?_
          refine z_top (y := nI (i + 1)) (nI_add i 1) ?_
          refine z_iald (k := i + 1) hx hb hK hP 3 rfl (by omega) (by first | decide | omega) dX3_takeOut_63 ?_
          refine z_iast (k := i) hx hb hK hP hD hS 3 rfl (by omega) (by first | decide | omega) dX3_takeOut_64 (fun H locs hP hD hS => ?_)
          have hP : va_P D vwCl (grdW cs a S (zU (zU (zU G 7 (upd (G 7) i ((G 7) (i + 1)))) 8 (upd (G 8) i ((G 8) (i + 1)))) 9 (upd (G 9) i ((G 9) (i + 1))))) H := hP
          have hD : va_D A (grdW cs a S (zU (zU (zU G 7 (upd (G 7) i ((G 7) (i + 1)))) 8 (upd (G 8) i ((G 8) (i + 1)))) 9 (upd (G 9) i ((G 9) (i + 1))))) := hD
          refine lv_iinc (v := nI (i + 1)) (lv' := [(2, .int (nI (i + 1))), (0, .ref (a 10))]) hx hb dX3_takeOut_65 hl (k := 1) rfl (show nI i + Int32.ofInt 1 = nI (i + 1) from nI_add i 1) (by decide) rfl (fun ls hl => ?_)
          refine lv_goto (tgt := 6) hx hb dX3_takeOut_68 (by decide) ?_
          exact ih (i + 1) (toSh G i) (by omega) (by omega) (by rw [← h3, show n - 1 - i = (n - 1 - (i + 1)) + 1 by omega]; rfl) _ _ _ hP hD hS (lv_sub hl [1, 0] rfl)
  exact lp6 n g F hg (by omega) rfl _ _ _ hP hD hS (lv_sub hl [1, 0] rfl)
