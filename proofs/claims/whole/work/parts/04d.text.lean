def hW (h : Int64) (v : Int32) : Int64 := 31 * h + v.toInt64
def hcI (S : Nat → Int32) (F : Nat → Nat → Int32) (c : Nat) (h : Int64) : Nat → Int64
  | 0 => h
  | j + 1 => hW (hcI S F c h j) (cylN S F c j)
def hcO (S : Nat → Int32) (F : Nat → Nat → Int32) (h : Int64) : Nat → Int64
  | 0 => h
  | c + 1 => hcI S F c (hcO S F h c) 8
def hgI (F : Nat → Nat → Int32) (g : Nat) (h : Int64) : Nat → Int64
  | 0 => h
  | j + 1 => hW (hgI F g h j) (grdN F g j)
def hgO (F : Nat → Nat → Int32) (h : Int64) : Nat → Int64
  | 0 => h
  | g + 1 => hgI F g (hgO F h g) 4
def hsI (F : Nat → Nat → Int32) (st : Nat) (h : Int64) : Nat → Int64
  | 0 => h
  | c + 1 => hW (hW (hsI F st h c) (bI (hasC F c (nI st)))) (chtAt F (nI c) (nI st))
def hsO (F : Nat → Nat → Int32) (h : Int64) : Nat → Int64
  | 0 => h
  | st + 1 => hsI F st (hW (hsO F h st) (chtSk F (nI st))) 5
def dgN (S : Nat → Int32) (h : Int64) : Nat → Int64
  | 0 => h
  | k + 1 => hW (dgN S h k) (S k)
def dgst (S : Nat → Int32) (F : Nat → Nat → Int32) (len ns : Nat → Int32) (n0 : Nat) : Int64 := hW (hW (hsO F (hgO F (hcO S F (dgN S (hW 3467 (len 0)) 16) 5) (rbgN (S 8))) n0) (tuR 1000 1 (S, F))) (ns 1)
def jsum (t : Nat → Int32) : Nat → Int32
  | 0 => 0
  | c + 1 => jsum t c + jbc (t c)
theorem z_geK {K : Int32} {n g : Nat} (hK : K = nI n) (hn : n < 2 ^ 31) (hg : g ≤ n) (h : ¬ K ≤ nI g) : g < n := Nat.lt_of_not_le (fun q => h (by rw [hK]; exact (nI_leI hn (by omega)).mpr q))
theorem z_leK {K : Int32} {n g : Nat} (hK : K = nI n) (hn : n < 2 ^ 31) (hg : g ≤ n) (h : K ≤ nI g) : g = n := by rw [hK] at h; have := (nI_leI hn (by omega)).mp h; omega
set_option maxHeartbeats 4000000 in
set_option maxRecDepth 100000 in
theorem c_X7_hashWith (l : Launch) (D : va_G) (cs : zCs) (h : Int64) (v : Int32)  : zM l D cs yX7_hashWith cX7_hashWith 3 (some FieldType.long) 0 0 0 0 [.long h, .int v] ([] : va_W) (some (.long (hW h v))) ([] : va_W) := by
  refine zM.of (own := RX7) (by decide) (Nat.le_of_ble_eq_true rfl) rfl ?_
  intro pq eq s mq below meth cq A ls hx hb hr hml hown hts hlk hnm hE hK hA hP hD hS hl
  have hl : lv_has ls 3 [(0, .long h), (2, .int v)] := hl
  refine lv_ldc2 (v := 31) hx hb hown (hts _ w_ct_X7_287) dX7_hashWith_0 ?_
  refine lv_lload_n hx hb dX7_hashWith_3 rfl (lv_at hl 0 rfl) ?_
  refine lv_lmul hx hb dX7_hashWith_4 ?_
  refine lv_iload_n hx hb dX7_hashWith_5 rfl (lv_at hl 1 rfl) ?_
  refine lv_i2l (v := v.toInt64) hx hb dX7_hashWith_6 rfl ?_
  refine lv_ladd hx hb dX7_hashWith_7 ?_
  exact z_lret hx hb hr hlk hK hP hD hS dX7_hashWith_8 rfl rfl

set_option maxHeartbeats 4000000 in
set_option maxRecDepth 100000 in
theorem c_X7_hashWithCylinders (l : Launch) (D : va_G) (cs : zCs) (ad : Nat → Nat → Nat) (S : Nat → Int32) (F : Nat → Nat → Int32) (h : Int64)  : zM l D cs yX7_hashWithCylinders cX7_hashWithCylinders 5 (some FieldType.long) 3 67 0 0 [.ref (ad 3 0), .long h] ((camW ad) ++ (macW cs (ad 0) S F)) (some (.long (hcO S F h 5))) ((camW ad) ++ (macW cs (ad 0) S F)) := by
  refine zM.of (own := RX7) (by decide) (Nat.le_of_ble_eq_true rfl) rfl ?_
  intro pq eq s mq below meth cq A ls hx hb hr hml hown hts hlk hnm hE hK hA hP hD hS hl
  have hl : lv_has ls 5 [(0, .ref (ad 3 0)), (1, .long h)] := hl
  refine lv_iconst (v := 0) hx hb dX7_hashWithCylinders_0 (by decide) ?_
  refine lv_istore_n (lv' := [(3, .int 0), (0, .ref (ad 3 0)), (1, .long h)]) hx hb dX7_hashWithCylinders_1 rfl hl (by decide) rfl (fun ls hl => ?_)
  have lp2 : ∀ (k : Nat) (c : Nat), (c ≤ 5) → (5 + 1 ≤ c + k) → ∀ (H : Heap) (locs : List Loc) (ls : Array Slot), va_P D vwCl ((camW ad) ++ (macW cs (ad 0) S F)) H → va_D A ((camW ad) ++ (macW cs (ad 0) S F)) → va_S A s.heap H locs → lv_has ls 5 [(0, .ref (ad 3 0)), (1, .long (hcO S F h c)), (3, .int (nI c))] → W pq l eq ({ frames := 3, cells := 0, slots := 0, locals := 67 } : Room) s mq ([.ref (ad 3 0), .long h] : List Value).toArray below meth cq H locs 0 0 (MQ below (zQ D cs (some (.long (hcO S F h 5))) ((camW ad) ++ (macW cs (ad 0) S F)) A) ([.ref (ad 3 0), .long h] : List Value).toArray s 0 0 A) (F0 mq 2 ls []) := by
    intro k
    induction k with
    | zero =>
      intro c hc1 hc2 H locs ls hP hD hS hl
      omega
    | succ k ih =>
      intro c hc1 hc2 H locs ls hP hD hS hl
      refine lv_iload_n hx hb dX7_hashWithCylinders_2 rfl (lv_at hl 2 rfl) ?_
      refine lv_iconst (v := 5) hx hb dX7_hashWithCylinders_3 (by decide) ?_
      refine lv_icmp_ge (tgt := 44) hx hb dX7_hashWithCylinders_4 (by decide) (fun c_1 => ?_) (fun c_1 => ?_)
      · skip
        have ec := z_leK (n := 5) rfl (by omega) hc1 c_1
        subst ec
        refine lv_lload_n hx hb dX7_hashWithCylinders_44 rfl (lv_at hl 1 rfl) ?_
        exact z_lret hx hb hr hlk hK hP hD hS dX7_hashWithCylinders_45 rfl rfl
      · skip
        have gc : c < 5 := z_geK (n := 5) rfl (by omega) hc1 c_1
        refine lv_iconst (v := 0) hx hb dX7_hashWithCylinders_7 (by decide) ?_
        refine lv_istore (lv' := [(4, .int 0), (0, .ref (ad 3 0)), (1, .long (hcO S F h c)), (3, .int (nI c))]) hx hb dX7_hashWithCylinders_8 hl (by decide) rfl (fun ls hl => ?_)
        have lp10 : ∀ (k2 : Nat) (j : Nat), (j ≤ 8) → (8 + 1 ≤ j + k2) → ∀ (H : Heap) (locs : List Loc) (ls : Array Slot), va_P D vwCl ((camW ad) ++ (macW cs (ad 0) S F)) H → va_D A ((camW ad) ++ (macW cs (ad 0) S F)) → va_S A s.heap H locs → lv_has ls 5 [(0, .ref (ad 3 0)), (1, .long (hcI S F c (hcO S F h c) j)), (3, .int (nI c)), (4, .int (nI j))] → W pq l eq ({ frames := 3, cells := 0, slots := 0, locals := 67 } : Room) s mq ([.ref (ad 3 0), .long h] : List Value).toArray below meth cq H locs 0 0 (MQ below (zQ D cs (some (.long (hcO S F h 5))) ((camW ad) ++ (macW cs (ad 0) S F)) A) ([.ref (ad 3 0), .long h] : List Value).toArray s 0 0 A) (F0 mq 10 ls []) := by
          intro k2
          induction k2 with
          | zero =>
            intro j hj1 hj2 H locs ls hP hD hS hl
            omega
          | succ k2 ih2 =>
            intro j hj1 hj2 H locs ls hP hD hS hl
            refine lv_iload hx hb dX7_hashWithCylinders_10 (lv_at hl 3 rfl) ?_
            refine lv_bipush (v := 8) hx hb dX7_hashWithCylinders_12 (by decide) ?_
            refine lv_icmp_ge (tgt := 38) hx hb dX7_hashWithCylinders_14 (by decide) (fun c_2 => ?_) (fun c_2 => ?_)
            · skip
              have ej := z_leK (n := 8) rfl (by omega) hj1 c_2
              subst ej
              refine lv_iinc (v := nI (c + 1)) (lv' := [(3, .int (nI (c + 1))), (0, .ref (ad 3 0)), (1, .long (hcI S F c (hcO S F h c) 8)), (4, .int (nI 8))]) hx hb dX7_hashWithCylinders_38 hl (k := 2) rfl (show nI c + Int32.ofInt 1 = nI (c + 1) from nI_add c 1) (by decide) rfl (fun ls hl => ?_)
              refine lv_goto (tgt := 2) hx hb dX7_hashWithCylinders_41 (by decide) ?_
              exact ih (c + 1) (by omega) (by omega) _ _ _ hP hD hS (lv_sub hl [1, 2, 0] rfl)
            · skip
              have gj : j < 8 := z_geK (n := 8) rfl (by omega) hj1 c_2
              refine lv_lload_n hx hb dX7_hashWithCylinders_17 rfl (lv_at hl 1 rfl) ?_
              refine lv_aload_n hx hb dX7_hashWithCylinders_18 rfl (lv_at hl 0 rfl) ?_
              refine va_get (D := D) (ci := 7) (v := .ref (ad 0 0)) (C := RX7) (T := TX7) (N := 5) hx hb hts wsI_X7 hown hK hP 0 rfl rfl 0 (by decide) (hts _ w_fl_X7_10) (fun _ h9 => h9) rfl dX7_hashWithCylinders_19 ?_
              refine lv_iload_n hx hb dX7_hashWithCylinders_22 rfl (lv_at hl 2 rfl) ?_
              refine lv_iload hx hb dX7_hashWithCylinders_23 (lv_at hl 3 rfl) ?_
              refine z_callV (wn := ((camW ad) ++ (macW cs (ad 0) S F))) ⟨hx, hb, hml, hown, hts⟩ zY_X5_cylinderNumber w_im_yX5_cylinderNumber w_se_yX5_cylinderNumber w_ml_X7_169 [.int (nI c), .int (nI j)] [.long (hcI S F c (hcO S F h c) j)] (c_X5_cylinderNumber l D cs (ad 0) S F c j gc gj) hE hK hA hP hD hS [1, 2, 3, 4, 5, 6, 7, 8, 9, 10, 11, 12, 13, 14, 15, 16, 17] rfl rfl rfl rfl 5 rfl rfl rfl rfl hl.1 (Nat.le_of_ble_eq_true rfl) ⟨Nat.le_of_ble_eq_true rfl, Nat.le_of_ble_eq_true rfl⟩ ⟨Nat.le_of_ble_eq_true rfl, Nat.le_of_ble_eq_true rfl⟩ dX7_hashWithCylinders_25 (fun H locs hP hD hS => ?_)
              refine z_callS (wn := ((camW ad) ++ (macW cs (ad 0) S F))) ⟨hx, hb, hml, hown, hts⟩ zY_X7_hashWith w_st_yX7_hashWith w_ml_X7_244 [.long (hcI S F c (hcO S F h c) j), .int (cylN S F c j)] [] (c_X7_hashWith l D cs (hcI S F c (hcO S F h c) j) (cylN S F c j)) hE hK hA hP hD hS [] rfl rfl rfl z_ins_nil rfl hl.1 (Nat.le_of_ble_eq_true rfl) ⟨Nat.le_of_ble_eq_true rfl, Nat.le_of_ble_eq_true rfl⟩ ⟨Nat.le_of_ble_eq_true rfl, Nat.le_of_ble_eq_true rfl⟩ dX7_hashWithCylinders_28 (fun H locs hP hD hS => ?_)
              refine lv_lstore_n (lv' := [(1, .long (hW (hcI S F c (hcO S F h c) j) (cylN S F c j))), (0, .ref (ad 3 0)), (3, .int (nI c)), (4, .int (nI j))]) hx hb dX7_hashWithCylinders_31 rfl hl (by decide) rfl (fun ls hl => ?_)
              refine lv_iinc (v := nI (j + 1)) (lv' := [(4, .int (nI (j + 1))), (1, .long (hW (hcI S F c (hcO S F h c) j) (cylN S F c j))), (0, .ref (ad 3 0)), (3, .int (nI c))]) hx hb dX7_hashWithCylinders_32 hl (k := 3) rfl (show nI j + Int32.ofInt 1 = nI (j + 1) from nI_add j 1) (by decide) rfl (fun ls hl => ?_)
              refine lv_goto (tgt := 10) hx hb dX7_hashWithCylinders_35 (by decide) ?_
              exact ih2 (j + 1) (by omega) (by omega) _ _ _ hP hD hS (lv_sub hl [2, 1, 3, 0] rfl)
        exact lp10 (8 + 1) 0 (Nat.zero_le _) (by omega) _ _ _ hP hD hS (lv_sub hl [1, 2, 3, 0] rfl)
  exact lp2 (5 + 1) 0 (Nat.zero_le _) (by omega) _ _ _ hP hD hS (lv_sub hl [1, 2, 0] rfl)

set_option maxHeartbeats 4000000 in
set_option maxRecDepth 100000 in
theorem c_X7_hashWithGuards (l : Launch) (D : va_G) (cs : zCs) (ad : Nat → Nat → Nat) (S : Nat → Int32) (F : Nat → Nat → Int32) (h : Int64)  : zM l D cs yX7_hashWithGuards cX7_hashWithGuards 5 (some FieldType.long) 2 44 0 0 [.ref (ad 3 0), .long h] ((camW ad) ++ (macW cs (ad 0) S F)) (some (.long (hgO F h (rbgN (S 8))))) ((camW ad) ++ (macW cs (ad 0) S F)) := by
  refine zM.of (own := RX7) (by decide) (Nat.le_of_ble_eq_true rfl) rfl ?_
  intro pq eq s mq below meth cq A ls hx hb hr hml hown hts hlk hnm hE hK hA hP hD hS hl
  have hl : lv_has ls 5 [(0, .ref (ad 3 0)), (1, .long h)] := hl
  refine lv_iconst (v := 0) hx hb dX7_hashWithGuards_0 (by decide) ?_
  refine lv_istore_n (lv' := [(3, .int 0), (0, .ref (ad 3 0)), (1, .long h)]) hx hb dX7_hashWithGuards_1 rfl hl (by decide) rfl (fun ls hl => ?_)
  have lp2 : ∀ (k : Nat) (g : Nat), (g ≤ rbgN (S 8)) → (5 ≤ g + k) → ∀ (H : Heap) (locs : List Loc) (ls : Array Slot), va_P D vwCl ((camW ad) ++ (macW cs (ad 0) S F)) H → va_D A ((camW ad) ++ (macW cs (ad 0) S F)) → va_S A s.heap H locs → lv_has ls 5 [(0, .ref (ad 3 0)), (1, .long (hgO F h g)), (3, .int (nI g))] → W pq l eq ({ frames := 2, cells := 0, slots := 0, locals := 44 } : Room) s mq ([.ref (ad 3 0), .long h] : List Value).toArray below meth cq H locs 0 0 (MQ below (zQ D cs (some (.long (hgO F h (rbgN (S 8))))) ((camW ad) ++ (macW cs (ad 0) S F)) A) ([.ref (ad 3 0), .long h] : List Value).toArray s 0 0 A) (F0 mq 2 ls []) := by
    intro k
    induction k with
    | zero =>
      intro g h1 h2 H locs ls hP hD hS hl
      have := rbgN_4 (S 8); omega
    | succ k ih =>
      intro g h1 h2 H locs ls hP hD hS hl
      refine lv_iload_n hx hb dX7_hashWithGuards_2 rfl (lv_at hl 2 rfl) ?_
      refine lv_aload_n hx hb dX7_hashWithGuards_3 rfl (lv_at hl 0 rfl) ?_
      refine va_get (D := D) (ci := 7) (v := .ref (ad 0 0)) (C := RX7) (T := TX7) (N := 5) hx hb hts wsI_X7 hown hK hP 0 rfl rfl 0 (by decide) (hts _ w_fl_X7_10) (fun _ h9 => h9) rfl dX7_hashWithGuards_4 ?_
      refine va_get (D := D) (ci := 5) (v := .ref (ad 0 10)) (C := RX5) (T := TX5) (N := 13) hx hb hts wsI_X5 hown hK hP 1 rfl rfl 11 (by decide) (hts _ w_fl_X7_116) (fun _ h9 => h9) rfl dX7_hashWithGuards_7 ?_
      refine va_get (D := D) (ci := 3) (v := .int (S 8)) (C := RX3) (T := TX3) (N := 4) hx hb hts wsI_X3 hown hK hP 11 rfl rfl 3 (by decide) (hts _ w_fl_X7_120) (fun _ h9 => h9) rfl dX7_hashWithGuards_10 ?_
      refine lv_icmp_ge (tgt := 57) hx hb dX7_hashWithGuards_13 (by decide) (fun c_1 => ?_) (fun c_1 => ?_)
      · skip
        have e9 : rbgN (S 8) = g := Nat.le_antisymm (rbgN_exit (by have := rbgN_4 (S 8); omega) c_1) h1
        refine lv_lload_n hx hb dX7_hashWithGuards_57 rfl (lv_at hl 1 rfl) ?_
        exact z_lret hx hb hr hlk hK hP hD hS dX7_hashWithGuards_58 (by rw [e9]) rfl
      · skip
        refine lv_iload_n hx hb dX7_hashWithGuards_16 rfl (lv_at hl 2 rfl) ?_
        refine lv_iconst (v := 4) hx hb dX7_hashWithGuards_17 (by decide) ?_
        refine lv_icmp_ge (tgt := 57) hx hb dX7_hashWithGuards_18 (by decide) (fun c_2 => ?_) (fun c_2 => ?_)
        · skip
          have e9 : rbgN (S 8) = g := by have := rbgN_4 (S 8); have := (nI_leI (a := 4) (by omega) (by omega)).mp c_2; omega
          refine lv_lload_n hx hb dX7_hashWithGuards_57 rfl (lv_at hl 1 rfl) ?_
          exact z_lret hx hb hr hlk hK hP hD hS dX7_hashWithGuards_58 (by rw [e9]) rfl
        · skip
          have gg : g < 4 := z_ge4 (by have := rbgN_4 (S 8); omega) c_2
          refine lv_iconst (v := 0) hx hb dX7_hashWithGuards_21 (by decide) ?_
          refine lv_istore (lv' := [(4, .int 0), (0, .ref (ad 3 0)), (1, .long (hgO F h g)), (3, .int (nI g))]) hx hb dX7_hashWithGuards_22 hl (by decide) rfl (fun ls hl => ?_)
          have lp24 : ∀ (k2 : Nat) (j : Nat), (j ≤ 4) → (4 + 1 ≤ j + k2) → ∀ (H : Heap) (locs : List Loc) (ls : Array Slot), va_P D vwCl ((camW ad) ++ (macW cs (ad 0) S F)) H → va_D A ((camW ad) ++ (macW cs (ad 0) S F)) → va_S A s.heap H locs → lv_has ls 5 [(0, .ref (ad 3 0)), (1, .long (hgI F g (hgO F h g) j)), (3, .int (nI g)), (4, .int (nI j))] → W pq l eq ({ frames := 2, cells := 0, slots := 0, locals := 44 } : Room) s mq ([.ref (ad 3 0), .long h] : List Value).toArray below meth cq H locs 0 0 (MQ below (zQ D cs (some (.long (hgO F h (rbgN (S 8))))) ((camW ad) ++ (macW cs (ad 0) S F)) A) ([.ref (ad 3 0), .long h] : List Value).toArray s 0 0 A) (F0 mq 24 ls []) := by
            intro k2
            induction k2 with
            | zero =>
              intro j hj1 hj2 H locs ls hP hD hS hl
              omega
            | succ k2 ih2 =>
              intro j hj1 hj2 H locs ls hP hD hS hl
              refine lv_iload hx hb dX7_hashWithGuards_24 (lv_at hl 3 rfl) ?_
              refine lv_iconst (v := 4) hx hb dX7_hashWithGuards_26 (by decide) ?_
              refine lv_icmp_ge (tgt := 51) hx hb dX7_hashWithGuards_27 (by decide) (fun c_3 => ?_) (fun c_3 => ?_)
              · skip
                have ej := z_leK (n := 4) rfl (by omega) hj1 c_3
                subst ej
                refine lv_iinc (v := nI (g + 1)) (lv' := [(3, .int (nI (g + 1))), (0, .ref (ad 3 0)), (1, .long (hgI F g (hgO F h g) 4)), (4, .int (nI 4))]) hx hb dX7_hashWithGuards_51 hl (k := 2) rfl (show nI g + Int32.ofInt 1 = nI (g + 1) from nI_add g 1) (by decide) rfl (fun ls hl => ?_)
                refine lv_goto (tgt := 2) hx hb dX7_hashWithGuards_54 (by decide) ?_
                exact ih (g + 1) (rbgN_go (by have := rbgN_4 (S 8); omega) c_1 gg) (by omega) _ _ _ hP hD hS (lv_sub hl [1, 2, 0] rfl)
              · skip
                have gj : j < 4 := z_geK (n := 4) rfl (by omega) hj1 c_3
                refine lv_lload_n hx hb dX7_hashWithGuards_30 rfl (lv_at hl 1 rfl) ?_
                refine lv_aload_n hx hb dX7_hashWithGuards_31 rfl (lv_at hl 0 rfl) ?_
                refine va_get (D := D) (ci := 7) (v := .ref (ad 0 0)) (C := RX7) (T := TX7) (N := 5) hx hb hts wsI_X7 hown hK hP 0 rfl rfl 0 (by decide) (hts _ w_fl_X7_10) (fun _ h9 => h9) rfl dX7_hashWithGuards_32 ?_
                refine lv_iload_n hx hb dX7_hashWithGuards_35 rfl (lv_at hl 2 rfl) ?_
                refine lv_iload hx hb dX7_hashWithGuards_36 (lv_at hl 3 rfl) ?_
                refine z_callV (wn := ((camW ad) ++ (macW cs (ad 0) S F))) ⟨hx, hb, hml, hown, hts⟩ zY_X5_guardNumber w_im_yX5_guardNumber w_se_yX5_guardNumber w_ml_X7_173 [.int (nI g), .int (nI j)] [.long (hgI F g (hgO F h g) j)] (c_X5_guardNumber l D cs (ad 0) S F g j gg gj) hE hK hA hP hD hS [1, 2, 3, 4, 5, 6, 7, 8, 9, 10, 11, 12, 13, 14, 15, 16, 17] rfl rfl rfl rfl 5 rfl rfl rfl rfl hl.1 (Nat.le_of_ble_eq_true rfl) ⟨Nat.le_of_ble_eq_true rfl, Nat.le_of_ble_eq_true rfl⟩ ⟨Nat.le_of_ble_eq_true rfl, Nat.le_of_ble_eq_true rfl⟩ dX7_hashWithGuards_38 (fun H locs hP hD hS => ?_)
                refine z_callS (wn := ((camW ad) ++ (macW cs (ad 0) S F))) ⟨hx, hb, hml, hown, hts⟩ zY_X7_hashWith w_st_yX7_hashWith w_ml_X7_244 [.long (hgI F g (hgO F h g) j), .int (grdN F g j)] [] (c_X7_hashWith l D cs (hgI F g (hgO F h g) j) (grdN F g j)) hE hK hA hP hD hS [] rfl rfl rfl z_ins_nil rfl hl.1 (Nat.le_of_ble_eq_true rfl) ⟨Nat.le_of_ble_eq_true rfl, Nat.le_of_ble_eq_true rfl⟩ ⟨Nat.le_of_ble_eq_true rfl, Nat.le_of_ble_eq_true rfl⟩ dX7_hashWithGuards_41 (fun H locs hP hD hS => ?_)
                refine lv_lstore_n (lv' := [(1, .long (hW (hgI F g (hgO F h g) j) (grdN F g j))), (0, .ref (ad 3 0)), (3, .int (nI g)), (4, .int (nI j))]) hx hb dX7_hashWithGuards_44 rfl hl (by decide) rfl (fun ls hl => ?_)
                refine lv_iinc (v := nI (j + 1)) (lv' := [(4, .int (nI (j + 1))), (1, .long (hW (hgI F g (hgO F h g) j) (grdN F g j))), (0, .ref (ad 3 0)), (3, .int (nI g))]) hx hb dX7_hashWithGuards_45 hl (k := 3) rfl (show nI j + Int32.ofInt 1 = nI (j + 1) from nI_add j 1) (by decide) rfl (fun ls hl => ?_)
                refine lv_goto (tgt := 24) hx hb dX7_hashWithGuards_48 (by decide) ?_
                exact ih2 (j + 1) (by omega) (by omega) _ _ _ hP hD hS (lv_sub hl [2, 1, 3, 0] rfl)
          exact lp24 (4 + 1) 0 (Nat.zero_le _) (by omega) _ _ _ hP hD hS (lv_sub hl [1, 2, 3, 0] rfl)
  exact lp2 5 0 (Nat.zero_le _) (by omega) _ _ _ hP hD hS (lv_sub hl [1, 2, 0] rfl)

set_option maxHeartbeats 4000000 in
set_option maxRecDepth 100000 in
theorem c_X7_hashWithSteps (l : Launch) (D : va_G) (cs : zCs) (ad : Nat → Nat → Nat) (S : Nat → Int32) (F : Nat → Nat → Int32) (h : Int64) (ns : Nat) (hS0 : S 0 = nI ns) (h16 : ns ≤ 16) : zM l D cs yX7_hashWithSteps cX7_hashWithSteps 5 (some FieldType.long) 2 45 0 0 [.ref (ad 3 0), .long h] ((camW ad) ++ (macW cs (ad 0) S F)) (some (.long (hsO F h ns))) ((camW ad) ++ (macW cs (ad 0) S F)) := by
  refine zM.of (own := RX7) (by decide) (Nat.le_of_ble_eq_true rfl) rfl ?_
  intro pq eq s mq below meth cq A ls hx hb hr hml hown hts hlk hnm hE hK hA hP hD hS hl
  have hl : lv_has ls 5 [(0, .ref (ad 3 0)), (1, .long h)] := hl
  refine lv_iconst (v := 0) hx hb dX7_hashWithSteps_0 (by decide) ?_
  refine lv_istore_n (lv' := [(3, .int 0), (0, .ref (ad 3 0)), (1, .long h)]) hx hb dX7_hashWithSteps_1 rfl hl (by decide) rfl (fun ls hl => ?_)
  have lp2 : ∀ (k : Nat) (st : Nat), (st ≤ ns) → (ns + 1 ≤ st + k) → ∀ (H : Heap) (locs : List Loc) (ls : Array Slot), va_P D vwCl ((camW ad) ++ (macW cs (ad 0) S F)) H → va_D A ((camW ad) ++ (macW cs (ad 0) S F)) → va_S A s.heap H locs → lv_has ls 5 [(0, .ref (ad 3 0)), (1, .long (hsO F h st)), (3, .int (nI st))] → W pq l eq ({ frames := 2, cells := 0, slots := 0, locals := 45 } : Room) s mq ([.ref (ad 3 0), .long h] : List Value).toArray below meth cq H locs 0 0 (MQ below (zQ D cs (some (.long (hsO F h ns))) ((camW ad) ++ (macW cs (ad 0) S F)) A) ([.ref (ad 3 0), .long h] : List Value).toArray s 0 0 A) (F0 mq 2 ls []) := by
    intro k
    induction k with
    | zero =>
      intro st hst1 hst2 H locs ls hP hD hS hl
      omega
    | succ k ih =>
      intro st hst1 hst2 H locs ls hP hD hS hl
      refine lv_iload_n hx hb dX7_hashWithSteps_2 rfl (lv_at hl 2 rfl) ?_
      refine lv_aload_n hx hb dX7_hashWithSteps_3 rfl (lv_at hl 0 rfl) ?_
      refine va_get (D := D) (ci := 7) (v := .ref (ad 0 0)) (C := RX7) (T := TX7) (N := 5) hx hb hts wsI_X7 hown hK hP 0 rfl rfl 0 (by decide) (hts _ w_fl_X7_10) (fun _ h9 => h9) rfl dX7_hashWithSteps_4 ?_
      refine va_get (D := D) (ci := 5) (v := .int (S 0)) (C := RX5) (T := TX5) (N := 13) hx hb hts wsI_X5 hown hK hP 1 rfl rfl 0 (by decide) (hts _ w_fl_X7_223) (fun _ h9 => h9) rfl dX7_hashWithSteps_7 ?_
      refine z_top (y := nI ns) hS0 ?_
      refine lv_icmp_ge (tgt := 91) hx hb dX7_hashWithSteps_10 (by decide) (fun c_1 => ?_) (fun c_1 => ?_)
      · skip
        refine lv_lload_n hx hb dX7_hashWithSteps_91 rfl (lv_at hl 1 rfl) ?_
        exact z_lret hx hb hr hlk hK hP hD hS dX7_hashWithSteps_92 (by rw [z_leK (n := ns) rfl (by omega) hst1 c_1]) rfl
      · skip
        have gst : st < ns := z_geK (n := ns) rfl (by omega) hst1 c_1
        refine lv_lload_n hx hb dX7_hashWithSteps_13 rfl (lv_at hl 1 rfl) ?_
        refine lv_aload_n hx hb dX7_hashWithSteps_14 rfl (lv_at hl 0 rfl) ?_
        refine va_get (D := D) (ci := 7) (v := .ref (ad 0 0)) (C := RX7) (T := TX7) (N := 5) hx hb hts wsI_X7 hown hK hP 0 rfl rfl 0 (by decide) (hts _ w_fl_X7_10) (fun _ h9 => h9) rfl dX7_hashWithSteps_15 ?_
        refine va_get (D := D) (ci := 5) (v := .ref (ad 0 14)) (C := RX5) (T := TX5) (N := 13) hx hb hts wsI_X5 hown hK hP 1 rfl rfl 12 (by decide) (hts _ w_fl_X7_179) (fun _ h9 => h9) rfl dX7_hashWithSteps_18 ?_
        refine lv_iload_n hx hb dX7_hashWithSteps_21 rfl (lv_at hl 2 rfl) ?_
        refine z_callV (wn := ((camW ad) ++ (macW cs (ad 0) S F))) ⟨hx, hb, hml, hown, hts⟩ zY_X1_skipsAt w_im_yX1_skipsAt w_se_yX1_skipsAt w_ml_X7_188 [.int (nI st)] [.long (hsO F h st)] (c_X1_skipsAt l D cs (ad 0) F (nI st)) hE hK hA hP hD hS [15, 16, 17] rfl rfl rfl rfl 1 rfl rfl rfl rfl hl.1 (Nat.le_of_ble_eq_true rfl) ⟨Nat.le_of_ble_eq_true rfl, Nat.le_of_ble_eq_true rfl⟩ ⟨Nat.le_of_ble_eq_true rfl, Nat.le_of_ble_eq_true rfl⟩ dX7_hashWithSteps_22 (fun H locs hP hD hS => ?_)
        refine z_callS (wn := ((camW ad) ++ (macW cs (ad 0) S F))) ⟨hx, hb, hml, hown, hts⟩ zY_X7_hashWith w_st_yX7_hashWith w_ml_X7_244 [.long (hsO F h st), .int (chtSk F (nI st))] [] (c_X7_hashWith l D cs (hsO F h st) (chtSk F (nI st))) hE hK hA hP hD hS [] rfl rfl rfl z_ins_nil rfl hl.1 (Nat.le_of_ble_eq_true rfl) ⟨Nat.le_of_ble_eq_true rfl, Nat.le_of_ble_eq_true rfl⟩ ⟨Nat.le_of_ble_eq_true rfl, Nat.le_of_ble_eq_true rfl⟩ dX7_hashWithSteps_25 (fun H locs hP hD hS => ?_)
        refine lv_lstore_n (lv' := [(1, .long (hW (hsO F h st) (chtSk F (nI st)))), (0, .ref (ad 3 0)), (3, .int (nI st))]) hx hb dX7_hashWithSteps_28 rfl hl (by decide) rfl (fun ls hl => ?_)
        refine lv_iconst (v := 0) hx hb dX7_hashWithSteps_29 (by decide) ?_
        refine lv_istore (lv' := [(4, .int 0), (1, .long (hW (hsO F h st) (chtSk F (nI st)))), (0, .ref (ad 3 0)), (3, .int (nI st))]) hx hb dX7_hashWithSteps_30 hl (by decide) rfl (fun ls hl => ?_)
        have lp32 : ∀ (k2 : Nat) (c : Nat), (c ≤ 5) → (5 + 1 ≤ c + k2) → ∀ (H : Heap) (locs : List Loc) (ls : Array Slot), va_P D vwCl ((camW ad) ++ (macW cs (ad 0) S F)) H → va_D A ((camW ad) ++ (macW cs (ad 0) S F)) → va_S A s.heap H locs → lv_has ls 5 [(0, .ref (ad 3 0)), (1, .long (hsI F st (hW (hsO F h st) (chtSk F (nI st))) c)), (3, .int (nI st)), (4, .int (nI c))] → W pq l eq ({ frames := 2, cells := 0, slots := 0, locals := 45 } : Room) s mq ([.ref (ad 3 0), .long h] : List Value).toArray below meth cq H locs 0 0 (MQ below (zQ D cs (some (.long (hsO F h ns))) ((camW ad) ++ (macW cs (ad 0) S F)) A) ([.ref (ad 3 0), .long h] : List Value).toArray s 0 0 A) (F0 mq 32 ls []) := by
          intro k2
          induction k2 with
          | zero =>
            intro c hc1 hc2 H locs ls hP hD hS hl
            omega
          | succ k2 ih2 =>
            intro c hc1 hc2 H locs ls hP hD hS hl
            refine lv_iload hx hb dX7_hashWithSteps_32 (lv_at hl 3 rfl) ?_
            refine lv_iconst (v := 5) hx hb dX7_hashWithSteps_34 (by decide) ?_
            refine lv_icmp_ge (tgt := 85) hx hb dX7_hashWithSteps_35 (by decide) (fun c_2 => ?_) (fun c_2 => ?_)
            · skip
              have ec := z_leK (n := 5) rfl (by omega) hc1 c_2
              subst ec
              refine lv_iinc (v := nI (st + 1)) (lv' := [(3, .int (nI (st + 1))), (0, .ref (ad 3 0)), (1, .long (hsI F st (hW (hsO F h st) (chtSk F (nI st))) 5)), (4, .int (nI 5))]) hx hb dX7_hashWithSteps_85 hl (k := 2) rfl (show nI st + Int32.ofInt 1 = nI (st + 1) from nI_add st 1) (by decide) rfl (fun ls hl => ?_)
              refine lv_goto (tgt := 2) hx hb dX7_hashWithSteps_88 (by decide) ?_
              exact ih (st + 1) (by omega) (by omega) _ _ _ hP hD hS (lv_sub hl [1, 2, 0] rfl)
            · skip
              have gc : c < 5 := z_geK (n := 5) rfl (by omega) hc1 c_2
              refine lv_lload_n hx hb dX7_hashWithSteps_38 rfl (lv_at hl 1 rfl) ?_
              refine lv_aload_n hx hb dX7_hashWithSteps_39 rfl (lv_at hl 0 rfl) ?_
              refine va_get (D := D) (ci := 7) (v := .ref (ad 0 0)) (C := RX7) (T := TX7) (N := 5) hx hb hts wsI_X7 hown hK hP 0 rfl rfl 0 (by decide) (hts _ w_fl_X7_10) (fun _ h9 => h9) rfl dX7_hashWithSteps_40 ?_
              refine lv_iload hx hb dX7_hashWithSteps_43 (lv_at hl 3 rfl) ?_
              refine lv_iload_n hx hb dX7_hashWithSteps_45 rfl (lv_at hl 2 rfl) ?_
              refine z_callV (wn := ((camW ad) ++ (macW cs (ad 0) S F))) ⟨hx, hb, hml, hown, hts⟩ zY_X5_hasCam w_im_yX5_hasCam w_se_yX5_hasCam w_ml_X7_161 [.int (nI c), .int (nI st)] [.long (hsI F st (hW (hsO F h st) (chtSk F (nI st))) c)] (c_X5_hasCam l D cs (ad 0) S F c (nI st) gc) hE hK hA hP hD hS [1, 2, 3, 4, 5, 6, 7, 8, 9, 10, 11, 12, 13, 14, 15, 16, 17] rfl rfl rfl rfl 5 rfl rfl rfl rfl hl.1 (Nat.le_of_ble_eq_true rfl) ⟨Nat.le_of_ble_eq_true rfl, Nat.le_of_ble_eq_true rfl⟩ ⟨Nat.le_of_ble_eq_true rfl, Nat.le_of_ble_eq_true rfl⟩ dX7_hashWithSteps_46 (fun H locs hP hD hS => ?_)
              refine lv_if_eq (tgt := 56) hx hb dX7_hashWithSteps_49 (by decide) (fun c_3 => ?_) (fun c_3 => ?_)
              · skip
                have c_3 := bI_0.mp c_3
                refine lv_iconst (v := 0) hx hb dX7_hashWithSteps_56 (by decide) ?_
                refine z_top (y := bI (hasC F c (nI st))) (bI_f c_3).symm ?_
                refine z_callS (wn := ((camW ad) ++ (macW cs (ad 0) S F))) ⟨hx, hb, hml, hown, hts⟩ zY_X7_hashWith w_st_yX7_hashWith w_ml_X7_244 [.long (hsI F st (hW (hsO F h st) (chtSk F (nI st))) c), .int (bI (hasC F c (nI st)))] [] (c_X7_hashWith l D cs (hsI F st (hW (hsO F h st) (chtSk F (nI st))) c) (bI (hasC F c (nI st)))) hE hK hA hP hD hS [] rfl rfl rfl z_ins_nil rfl hl.1 (Nat.le_of_ble_eq_true rfl) ⟨Nat.le_of_ble_eq_true rfl, Nat.le_of_ble_eq_true rfl⟩ ⟨Nat.le_of_ble_eq_true rfl, Nat.le_of_ble_eq_true rfl⟩ dX7_hashWithSteps_57 (fun H locs hP hD hS => ?_)
                refine lv_lstore_n (lv' := [(1, .long (hW (hsI F st (hW (hsO F h st) (chtSk F (nI st))) c) (bI (hasC F c (nI st))))), (0, .ref (ad 3 0)), (3, .int (nI st)), (4, .int (nI c))]) hx hb dX7_hashWithSteps_60 rfl hl (by decide) rfl (fun ls hl => ?_)
                refine lv_lload_n hx hb dX7_hashWithSteps_61 rfl (lv_at hl 0 rfl) ?_
                refine lv_aload_n hx hb dX7_hashWithSteps_62 rfl (lv_at hl 1 rfl) ?_
                refine va_get (D := D) (ci := 7) (v := .ref (ad 0 0)) (C := RX7) (T := TX7) (N := 5) hx hb hts wsI_X7 hown hK hP 0 rfl rfl 0 (by decide) (hts _ w_fl_X7_10) (fun _ h9 => h9) rfl dX7_hashWithSteps_63 ?_
                refine va_get (D := D) (ci := 5) (v := .ref (ad 0 14)) (C := RX5) (T := TX5) (N := 13) hx hb hts wsI_X5 hown hK hP 1 rfl rfl 12 (by decide) (hts _ w_fl_X7_179) (fun _ h9 => h9) rfl dX7_hashWithSteps_66 ?_
                refine lv_iload hx hb dX7_hashWithSteps_69 (lv_at hl 3 rfl) ?_
                refine lv_iload_n hx hb dX7_hashWithSteps_71 rfl (lv_at hl 2 rfl) ?_
                refine z_callV (wn := ((camW ad) ++ (macW cs (ad 0) S F))) ⟨hx, hb, hml, hown, hts⟩ zY_X1_outAt w_im_yX1_outAt w_se_yX1_outAt w_ml_X7_183 [.int (nI c), .int (nI st)] [.long (hW (hsI F st (hW (hsO F h st) (chtSk F (nI st))) c) (bI (hasC F c (nI st))))] (c_X1_outAt l D cs (ad 0) F (nI c) (nI st)) hE hK hA hP hD hS [15, 16, 17] rfl rfl rfl rfl 1 rfl rfl rfl rfl hl.1 (Nat.le_of_ble_eq_true rfl) ⟨Nat.le_of_ble_eq_true rfl, Nat.le_of_ble_eq_true rfl⟩ ⟨Nat.le_of_ble_eq_true rfl, Nat.le_of_ble_eq_true rfl⟩ dX7_hashWithSteps_72 (fun H locs hP hD hS => ?_)
                refine z_callS (wn := ((camW ad) ++ (macW cs (ad 0) S F))) ⟨hx, hb, hml, hown, hts⟩ zY_X7_hashWith w_st_yX7_hashWith w_ml_X7_244 [.long (hW (hsI F st (hW (hsO F h st) (chtSk F (nI st))) c) (bI (hasC F c (nI st)))), .int (chtAt F (nI c) (nI st))] [] (c_X7_hashWith l D cs (hW (hsI F st (hW (hsO F h st) (chtSk F (nI st))) c) (bI (hasC F c (nI st)))) (chtAt F (nI c) (nI st))) hE hK hA hP hD hS [] rfl rfl rfl z_ins_nil rfl hl.1 (Nat.le_of_ble_eq_true rfl) ⟨Nat.le_of_ble_eq_true rfl, Nat.le_of_ble_eq_true rfl⟩ ⟨Nat.le_of_ble_eq_true rfl, Nat.le_of_ble_eq_true rfl⟩ dX7_hashWithSteps_75 (fun H locs hP hD hS => ?_)
                refine lv_lstore_n (lv' := [(1, .long (hW (hW (hsI F st (hW (hsO F h st) (chtSk F (nI st))) c) (bI (hasC F c (nI st)))) (chtAt F (nI c) (nI st)))), (0, .ref (ad 3 0)), (3, .int (nI st)), (4, .int (nI c))]) hx hb dX7_hashWithSteps_78 rfl hl (by decide) rfl (fun ls hl => ?_)
                refine lv_iinc (v := nI (c + 1)) (lv' := [(4, .int (nI (c + 1))), (1, .long (hW (hW (hsI F st (hW (hsO F h st) (chtSk F (nI st))) c) (bI (hasC F c (nI st)))) (chtAt F (nI c) (nI st)))), (0, .ref (ad 3 0)), (3, .int (nI st))]) hx hb dX7_hashWithSteps_79 hl (k := 3) rfl (show nI c + Int32.ofInt 1 = nI (c + 1) from nI_add c 1) (by decide) rfl (fun ls hl => ?_)
                refine lv_goto (tgt := 32) hx hb dX7_hashWithSteps_82 (by decide) ?_
                exact ih2 (c + 1) (by omega) (by omega) _ _ _ hP hD hS (lv_sub hl [2, 1, 3, 0] rfl)
              · skip
                have c_3 := bI_n0 c_3
                refine lv_iconst (v := 1) hx hb dX7_hashWithSteps_52 (by decide) ?_
                refine lv_goto (tgt := 57) hx hb dX7_hashWithSteps_53 (by decide) ?_
                refine z_top (y := bI (hasC F c (nI st))) (bI_t c_3).symm ?_
                refine z_callS (wn := ((camW ad) ++ (macW cs (ad 0) S F))) ⟨hx, hb, hml, hown, hts⟩ zY_X7_hashWith w_st_yX7_hashWith w_ml_X7_244 [.long (hsI F st (hW (hsO F h st) (chtSk F (nI st))) c), .int (bI (hasC F c (nI st)))] [] (c_X7_hashWith l D cs (hsI F st (hW (hsO F h st) (chtSk F (nI st))) c) (bI (hasC F c (nI st)))) hE hK hA hP hD hS [] rfl rfl rfl z_ins_nil rfl hl.1 (Nat.le_of_ble_eq_true rfl) ⟨Nat.le_of_ble_eq_true rfl, Nat.le_of_ble_eq_true rfl⟩ ⟨Nat.le_of_ble_eq_true rfl, Nat.le_of_ble_eq_true rfl⟩ dX7_hashWithSteps_57 (fun H locs hP hD hS => ?_)
                refine lv_lstore_n (lv' := [(1, .long (hW (hsI F st (hW (hsO F h st) (chtSk F (nI st))) c) (bI (hasC F c (nI st))))), (0, .ref (ad 3 0)), (3, .int (nI st)), (4, .int (nI c))]) hx hb dX7_hashWithSteps_60 rfl hl (by decide) rfl (fun ls hl => ?_)
                refine lv_lload_n hx hb dX7_hashWithSteps_61 rfl (lv_at hl 0 rfl) ?_
                refine lv_aload_n hx hb dX7_hashWithSteps_62 rfl (lv_at hl 1 rfl) ?_
                refine va_get (D := D) (ci := 7) (v := .ref (ad 0 0)) (C := RX7) (T := TX7) (N := 5) hx hb hts wsI_X7 hown hK hP 0 rfl rfl 0 (by decide) (hts _ w_fl_X7_10) (fun _ h9 => h9) rfl dX7_hashWithSteps_63 ?_
                refine va_get (D := D) (ci := 5) (v := .ref (ad 0 14)) (C := RX5) (T := TX5) (N := 13) hx hb hts wsI_X5 hown hK hP 1 rfl rfl 12 (by decide) (hts _ w_fl_X7_179) (fun _ h9 => h9) rfl dX7_hashWithSteps_66 ?_
                refine lv_iload hx hb dX7_hashWithSteps_69 (lv_at hl 3 rfl) ?_
                refine lv_iload_n hx hb dX7_hashWithSteps_71 rfl (lv_at hl 2 rfl) ?_
                refine z_callV (wn := ((camW ad) ++ (macW cs (ad 0) S F))) ⟨hx, hb, hml, hown, hts⟩ zY_X1_outAt w_im_yX1_outAt w_se_yX1_outAt w_ml_X7_183 [.int (nI c), .int (nI st)] [.long (hW (hsI F st (hW (hsO F h st) (chtSk F (nI st))) c) (bI (hasC F c (nI st))))] (c_X1_outAt l D cs (ad 0) F (nI c) (nI st)) hE hK hA hP hD hS [15, 16, 17] rfl rfl rfl rfl 1 rfl rfl rfl rfl hl.1 (Nat.le_of_ble_eq_true rfl) ⟨Nat.le_of_ble_eq_true rfl, Nat.le_of_ble_eq_true rfl⟩ ⟨Nat.le_of_ble_eq_true rfl, Nat.le_of_ble_eq_true rfl⟩ dX7_hashWithSteps_72 (fun H locs hP hD hS => ?_)
                refine z_callS (wn := ((camW ad) ++ (macW cs (ad 0) S F))) ⟨hx, hb, hml, hown, hts⟩ zY_X7_hashWith w_st_yX7_hashWith w_ml_X7_244 [.long (hW (hsI F st (hW (hsO F h st) (chtSk F (nI st))) c) (bI (hasC F c (nI st)))), .int (chtAt F (nI c) (nI st))] [] (c_X7_hashWith l D cs (hW (hsI F st (hW (hsO F h st) (chtSk F (nI st))) c) (bI (hasC F c (nI st)))) (chtAt F (nI c) (nI st))) hE hK hA hP hD hS [] rfl rfl rfl z_ins_nil rfl hl.1 (Nat.le_of_ble_eq_true rfl) ⟨Nat.le_of_ble_eq_true rfl, Nat.le_of_ble_eq_true rfl⟩ ⟨Nat.le_of_ble_eq_true rfl, Nat.le_of_ble_eq_true rfl⟩ dX7_hashWithSteps_75 (fun H locs hP hD hS => ?_)
                refine lv_lstore_n (lv' := [(1, .long (hW (hW (hsI F st (hW (hsO F h st) (chtSk F (nI st))) c) (bI (hasC F c (nI st)))) (chtAt F (nI c) (nI st)))), (0, .ref (ad 3 0)), (3, .int (nI st)), (4, .int (nI c))]) hx hb dX7_hashWithSteps_78 rfl hl (by decide) rfl (fun ls hl => ?_)
                refine lv_iinc (v := nI (c + 1)) (lv' := [(4, .int (nI (c + 1))), (1, .long (hW (hW (hsI F st (hW (hsO F h st) (chtSk F (nI st))) c) (bI (hasC F c (nI st)))) (chtAt F (nI c) (nI st)))), (0, .ref (ad 3 0)), (3, .int (nI st))]) hx hb dX7_hashWithSteps_79 hl (k := 3) rfl (show nI c + Int32.ofInt 1 = nI (c + 1) from nI_add c 1) (by decide) rfl (fun ls hl => ?_)
                refine lv_goto (tgt := 32) hx hb dX7_hashWithSteps_82 (by decide) ?_
                exact ih2 (c + 1) (by omega) (by omega) _ _ _ hP hD hS (lv_sub hl [2, 1, 3, 0] rfl)
        exact lp32 (5 + 1) 0 (Nat.zero_le _) (by omega) _ _ _ hP hD hS (lv_sub hl [2, 1, 3, 0] rfl)
  exact lp2 (ns + 1) 0 (Nat.zero_le _) (by omega) _ _ _ hP hD hS (lv_sub hl [1, 2, 0] rfl)

set_option maxHeartbeats 4000000 in
set_option maxRecDepth 100000 in
theorem c_X7_digest (l : Launch) (D : va_G) (cs : zCs) (ad : Nat → Nat → Nat) (S : Nat → Int32) (F : Nat → Nat → Int32) (TS : Nat → Int32) (TF : Nat → Nat → Int32) (HS X : Nat → Int32) (B : Nat → Nat → Int32) (kd : Nat → Nat → Nat) (ns : Nat) (hS0 : S 0 = nI ns) (h16 : ns ≤ 16) : zM l D cs yX7_digest cX7_digest 4 (some FieldType.long) 6 152 0 0 [.ref (ad 3 0)] ((camW ad) ++ (macW cs (ad 0) S F) ++ (macW cs (ad 1) TS TF) ++ (hisW cs (ad 4) kd HS) ++ (txtW cs (ad 5) X B)) (some (.long (dgst S F X HS ns))) ((camW ad) ++ (macW cs (ad 0) S F) ++ (macW cs (ad 1) ((tuP 1000 (S, F)).1) ((tuP 1000 (S, F)).2)) ++ (hisW cs (ad 4) kd HS) ++ (txtW cs (ad 5) X B)) := by
  refine zM.of (own := RX7) (by decide) (Nat.le_of_ble_eq_true rfl) rfl ?_
  intro pq eq s mq below meth cq A ls hx hb hr hml hown hts hlk hnm hE hK hA hP hD hS hl
  have hl : lv_has ls 4 [(0, .ref (ad 3 0))] := hl
  refine lv_ldc2 (v := 3467) hx hb hown (hts _ w_ct_X7_242) dX7_digest_0 ?_
  refine lv_aload_n hx hb dX7_digest_3 rfl (lv_at hl 0 rfl) ?_
  refine va_get (D := D) (ci := 7) (v := .ref (ad 5 0)) (C := RX7) (T := TX7) (N := 5) hx hb hts wsI_X7 hown hK hP 0 rfl rfl 2 (by decide) (hts _ w_fl_X7_26) (fun _ h9 => h9) rfl dX7_digest_4 ?_
  refine va_get (D := D) (ci := 6) (v := .int (X 0)) (C := RX6) (T := TX6) (N := 6) hx hb hts wsI_X6 hown hK hP 37 rfl rfl 1 (by decide) (hts _ w_fl_X7_216) (fun _ h9 => h9) rfl dX7_digest_7 ?_
  refine z_callS (wn := ((camW ad) ++ (macW cs (ad 0) S F) ++ (macW cs (ad 1) TS TF) ++ (hisW cs (ad 4) kd HS) ++ (txtW cs (ad 5) X B))) ⟨hx, hb, hml, hown, hts⟩ zY_X7_hashWith w_st_yX7_hashWith w_ml_X7_244 [.long 3467, .int (X 0)] [] (c_X7_hashWith l D cs 3467 (X 0)) hE hK hA hP hD hS [] rfl rfl rfl z_ins_nil rfl hl.1 (Nat.le_of_ble_eq_true rfl) ⟨Nat.le_of_ble_eq_true rfl, Nat.le_of_ble_eq_true rfl⟩ ⟨Nat.le_of_ble_eq_true rfl, Nat.le_of_ble_eq_true rfl⟩ dX7_digest_10 (fun H locs hP hD hS => ?_)
  refine lv_lstore_n (lv' := [(1, .long (hW 3467 (X 0))), (0, .ref (ad 3 0))]) hx hb dX7_digest_13 rfl hl (by decide) rfl (fun ls hl => ?_)
  refine lv_iconst (v := 0) hx hb dX7_digest_14 (by decide) ?_
  refine lv_istore_n (lv' := [(3, .int 0), (1, .long (hW 3467 (X 0))), (0, .ref (ad 3 0))]) hx hb dX7_digest_15 rfl hl (by decide) rfl (fun ls hl => ?_)
  have lp16 : ∀ (k : Nat) (i : Nat), (i ≤ 16) → (16 + 1 ≤ i + k) → ∀ (H : Heap) (locs : List Loc) (ls : Array Slot), va_P D vwCl ((camW ad) ++ (macW cs (ad 0) S F) ++ (macW cs (ad 1) TS TF) ++ (hisW cs (ad 4) kd HS) ++ (txtW cs (ad 5) X B)) H → va_D A ((camW ad) ++ (macW cs (ad 0) S F) ++ (macW cs (ad 1) TS TF) ++ (hisW cs (ad 4) kd HS) ++ (txtW cs (ad 5) X B)) → va_S A s.heap H locs → lv_has ls 4 [(0, .ref (ad 3 0)), (1, .long (dgN S (hW 3467 (X 0)) i)), (3, .int (nI i))] → W pq l eq ({ frames := 6, cells := 0, slots := 0, locals := 152 } : Room) s mq ([.ref (ad 3 0)] : List Value).toArray below meth cq H locs 0 0 (MQ below (zQ D cs (some (.long (dgst S F X HS ns))) ((camW ad) ++ (macW cs (ad 0) S F) ++ (macW cs (ad 1) ((tuP 1000 (S, F)).1) ((tuP 1000 (S, F)).2)) ++ (hisW cs (ad 4) kd HS) ++ (txtW cs (ad 5) X B)) A) ([.ref (ad 3 0)] : List Value).toArray s 0 0 A) (F0 mq 16 ls []) := by
    intro k
    induction k with
    | zero =>
      intro i hi1 hi2 H locs ls hP hD hS hl
      omega
    | succ k ih =>
      intro i hi1 hi2 H locs ls hP hD hS hl
      refine lv_iload_n hx hb dX7_digest_16 rfl (lv_at hl 2 rfl) ?_
      refine lv_bipush (v := 16) hx hb dX7_digest_17 (by decide) ?_
      refine lv_icmp_ge (tgt := 41) hx hb dX7_digest_19 (by decide) (fun c_1 => ?_) (fun c_1 => ?_)
      · skip
        have ei := z_leK (n := 16) rfl (by omega) hi1 c_1
        subst ei
        refine lv_aload_n hx hb dX7_digest_41 rfl (lv_at hl 0 rfl) ?_
        refine lv_lload_n hx hb dX7_digest_42 rfl (lv_at hl 1 rfl) ?_
        refine z_callV (wn := ((camW ad) ++ (macW cs (ad 0) S F) ++ (macW cs (ad 1) TS TF) ++ (hisW cs (ad 4) kd HS) ++ (txtW cs (ad 5) X B))) ⟨hx, hb, hml, hown, hts⟩ zY_X7_hashWithCylinders w_im_yX7_hashWithCylinders w_se_yX7_hashWithCylinders w_ml_X7_248 [.long (dgN S (hW 3467 (X 0)) 16)] [] (c_X7_hashWithCylinders l D cs ad S F (dgN S (hW 3467 (X 0)) 16)) hE hK hA hP hD hS [0, 1, 2, 3, 4, 5, 6, 7, 8, 9, 10, 11, 12, 13, 14, 15, 16, 17] rfl rfl rfl rfl 7 rfl rfl rfl rfl hl.1 (Nat.le_of_ble_eq_true rfl) ⟨Nat.le_of_ble_eq_true rfl, Nat.le_of_ble_eq_true rfl⟩ ⟨Nat.le_of_ble_eq_true rfl, Nat.le_of_ble_eq_true rfl⟩ dX7_digest_43 (fun H locs hP hD hS => ?_)
        refine lv_lstore_n (lv' := [(1, .long (hcO S F (dgN S (hW 3467 (X 0)) 16) 5)), (0, .ref (ad 3 0)), (3, .int (nI 16))]) hx hb dX7_digest_46 rfl hl (by decide) rfl (fun ls hl => ?_)
        refine lv_aload_n hx hb dX7_digest_47 rfl (lv_at hl 1 rfl) ?_
        refine lv_lload_n hx hb dX7_digest_48 rfl (lv_at hl 0 rfl) ?_
        refine z_callV (wn := ((camW ad) ++ (macW cs (ad 0) S F) ++ (macW cs (ad 1) TS TF) ++ (hisW cs (ad 4) kd HS) ++ (txtW cs (ad 5) X B))) ⟨hx, hb, hml, hown, hts⟩ zY_X7_hashWithGuards w_im_yX7_hashWithGuards w_se_yX7_hashWithGuards w_ml_X7_252 [.long (hcO S F (dgN S (hW 3467 (X 0)) 16) 5)] [] (c_X7_hashWithGuards l D cs ad S F (hcO S F (dgN S (hW 3467 (X 0)) 16) 5)) hE hK hA hP hD hS [0, 1, 2, 3, 4, 5, 6, 7, 8, 9, 10, 11, 12, 13, 14, 15, 16, 17] rfl rfl rfl rfl 7 rfl rfl rfl rfl hl.1 (Nat.le_of_ble_eq_true rfl) ⟨Nat.le_of_ble_eq_true rfl, Nat.le_of_ble_eq_true rfl⟩ ⟨Nat.le_of_ble_eq_true rfl, Nat.le_of_ble_eq_true rfl⟩ dX7_digest_49 (fun H locs hP hD hS => ?_)
        refine lv_lstore_n (lv' := [(1, .long (hgO F (hcO S F (dgN S (hW 3467 (X 0)) 16) 5) (rbgN (S 8)))), (0, .ref (ad 3 0)), (3, .int (nI 16))]) hx hb dX7_digest_52 rfl hl (by decide) rfl (fun ls hl => ?_)
        refine lv_aload_n hx hb dX7_digest_53 rfl (lv_at hl 1 rfl) ?_
        refine lv_lload_n hx hb dX7_digest_54 rfl (lv_at hl 0 rfl) ?_
        refine z_callV (wn := ((camW ad) ++ (macW cs (ad 0) S F) ++ (macW cs (ad 1) TS TF) ++ (hisW cs (ad 4) kd HS) ++ (txtW cs (ad 5) X B))) ⟨hx, hb, hml, hown, hts⟩ zY_X7_hashWithSteps w_im_yX7_hashWithSteps w_se_yX7_hashWithSteps w_ml_X7_255 [.long (hgO F (hcO S F (dgN S (hW 3467 (X 0)) 16) 5) (rbgN (S 8)))] [] (c_X7_hashWithSteps l D cs ad S F (hgO F (hcO S F (dgN S (hW 3467 (X 0)) 16) 5) (rbgN (S 8))) ns hS0 h16) hE hK hA hP hD hS [0, 1, 2, 3, 4, 5, 6, 7, 8, 9, 10, 11, 12, 13, 14, 15, 16, 17] rfl rfl rfl rfl 7 rfl rfl rfl rfl hl.1 (Nat.le_of_ble_eq_true rfl) ⟨Nat.le_of_ble_eq_true rfl, Nat.le_of_ble_eq_true rfl⟩ ⟨Nat.le_of_ble_eq_true rfl, Nat.le_of_ble_eq_true rfl⟩ dX7_digest_55 (fun H locs hP hD hS => ?_)
        refine lv_lstore_n (lv' := [(1, .long (hsO F (hgO F (hcO S F (dgN S (hW 3467 (X 0)) 16) 5) (rbgN (S 8))) ns)), (0, .ref (ad 3 0)), (3, .int (nI 16))]) hx hb dX7_digest_58 rfl hl (by decide) rfl (fun ls hl => ?_)
        refine lv_lload_n hx hb dX7_digest_59 rfl (lv_at hl 0 rfl) ?_
        refine lv_aload_n hx hb dX7_digest_60 rfl (lv_at hl 1 rfl) ?_
        refine z_callV (wn := ((camW ad) ++ (macW cs (ad 0) S F) ++ (macW cs (ad 1) ((tuP 1000 (S, F)).1) ((tuP 1000 (S, F)).2)) ++ (hisW cs (ad 4) kd HS) ++ (txtW cs (ad 5) X B))) ⟨hx, hb, hml, hown, hts⟩ zY_X7_ticksToCycle w_im_yX7_ticksToCycle w_se_yX7_ticksToCycle w_ml_X7_258 [] [.long (hsO F (hgO F (hcO S F (dgN S (hW 3467 (X 0)) 16) 5) (rbgN (S 8))) ns)] (c_X7_ticksToCycle l D cs ad S F TS TF) hE hK hA hP hD hS [0, 1, 2, 3, 4, 5, 6, 7, 8, 9, 10, 11, 12, 13, 14, 15, 16, 17, 18, 19, 20, 21, 22, 23, 24, 25, 26, 27, 28, 29, 30, 31, 32, 33, 34] rfl rfl rfl rfl 7 rfl rfl rfl rfl hl.1 (Nat.le_of_ble_eq_true rfl) ⟨Nat.le_of_ble_eq_true rfl, Nat.le_of_ble_eq_true rfl⟩ ⟨Nat.le_of_ble_eq_true rfl, Nat.le_of_ble_eq_true rfl⟩ dX7_digest_61 (fun H locs hP hD hS => ?_)
        refine z_callS (wn := ((camW ad) ++ (macW cs (ad 0) S F) ++ (macW cs (ad 1) ((tuP 1000 (S, F)).1) ((tuP 1000 (S, F)).2)) ++ (hisW cs (ad 4) kd HS) ++ (txtW cs (ad 5) X B))) ⟨hx, hb, hml, hown, hts⟩ zY_X7_hashWith w_st_yX7_hashWith w_ml_X7_244 [.long (hsO F (hgO F (hcO S F (dgN S (hW 3467 (X 0)) 16) 5) (rbgN (S 8))) ns), .int (tuR 1000 1 (S, F))] [] (c_X7_hashWith l D cs (hsO F (hgO F (hcO S F (dgN S (hW 3467 (X 0)) 16) 5) (rbgN (S 8))) ns) (tuR 1000 1 (S, F))) hE hK hA hP hD hS [] rfl rfl rfl z_ins_nil rfl hl.1 (Nat.le_of_ble_eq_true rfl) ⟨Nat.le_of_ble_eq_true rfl, Nat.le_of_ble_eq_true rfl⟩ ⟨Nat.le_of_ble_eq_true rfl, Nat.le_of_ble_eq_true rfl⟩ dX7_digest_64 (fun H locs hP hD hS => ?_)
        refine lv_lstore_n (lv' := [(1, .long (hW (hsO F (hgO F (hcO S F (dgN S (hW 3467 (X 0)) 16) 5) (rbgN (S 8))) ns) (tuR 1000 1 (S, F)))), (0, .ref (ad 3 0)), (3, .int (nI 16))]) hx hb dX7_digest_67 rfl hl (by decide) rfl (fun ls hl => ?_)
        refine lv_lload_n hx hb dX7_digest_68 rfl (lv_at hl 0 rfl) ?_
        refine lv_aload_n hx hb dX7_digest_69 rfl (lv_at hl 1 rfl) ?_
        refine va_get (D := D) (ci := 7) (v := .ref (ad 4 0)) (C := RX7) (T := TX7) (N := 5) hx hb hts wsI_X7 hown hK hP 0 rfl rfl 1 (by decide) (hts _ w_fl_X7_19) (fun _ h9 => h9) rfl dX7_digest_70 ?_
        refine va_get (D := D) (ci := 4) (v := .int (HS 1)) (C := RX4) (T := TX4) (N := 3) hx hb hts wsI_X4 hown hK hP 35 rfl rfl 2 (by decide) (hts _ w_fl_X7_236) (fun _ h9 => h9) rfl dX7_digest_73 ?_
        refine z_callS (wn := ((camW ad) ++ (macW cs (ad 0) S F) ++ (macW cs (ad 1) ((tuP 1000 (S, F)).1) ((tuP 1000 (S, F)).2)) ++ (hisW cs (ad 4) kd HS) ++ (txtW cs (ad 5) X B))) ⟨hx, hb, hml, hown, hts⟩ zY_X7_hashWith w_st_yX7_hashWith w_ml_X7_244 [.long (hW (hsO F (hgO F (hcO S F (dgN S (hW 3467 (X 0)) 16) 5) (rbgN (S 8))) ns) (tuR 1000 1 (S, F))), .int (HS 1)] [] (c_X7_hashWith l D cs (hW (hsO F (hgO F (hcO S F (dgN S (hW 3467 (X 0)) 16) 5) (rbgN (S 8))) ns) (tuR 1000 1 (S, F))) (HS 1)) hE hK hA hP hD hS [] rfl rfl rfl z_ins_nil rfl hl.1 (Nat.le_of_ble_eq_true rfl) ⟨Nat.le_of_ble_eq_true rfl, Nat.le_of_ble_eq_true rfl⟩ ⟨Nat.le_of_ble_eq_true rfl, Nat.le_of_ble_eq_true rfl⟩ dX7_digest_76 (fun H locs hP hD hS => ?_)
        exact z_lret hx hb hr hlk hK hP hD hS dX7_digest_79 rfl rfl
      · skip
        have gi : i < 16 := z_geK (n := 16) rfl (by omega) hi1 c_1
        refine lv_lload_n hx hb dX7_digest_22 rfl (lv_at hl 1 rfl) ?_
        refine lv_aload_n hx hb dX7_digest_23 rfl (lv_at hl 0 rfl) ?_
        refine va_get (D := D) (ci := 7) (v := .ref (ad 0 0)) (C := RX7) (T := TX7) (N := 5) hx hb hts wsI_X7 hown hK hP 0 rfl rfl 0 (by decide) (hts _ w_fl_X7_10) (fun _ h9 => h9) rfl dX7_digest_24 ?_
        refine lv_iload_n hx hb dX7_digest_27 rfl (lv_at hl 2 rfl) ?_
        refine z_callV (wn := ((camW ad) ++ (macW cs (ad 0) S F) ++ (macW cs (ad 1) TS TF) ++ (hisW cs (ad 4) kd HS) ++ (txtW cs (ad 5) X B))) ⟨hx, hb, hml, hown, hts⟩ zY_X5_number w_im_yX5_number w_se_yX5_number w_ml_X7_176 [.int (nI i)] [.long (dgN S (hW 3467 (X 0)) i)] (c_X5_number l D cs (ad 0) S F i gi) hE hK hA hP hD hS [1, 2, 3, 4, 5, 6, 7, 8, 9, 10, 11, 12, 13, 14, 15, 16, 17] rfl rfl rfl rfl 5 rfl rfl rfl rfl hl.1 (Nat.le_of_ble_eq_true rfl) ⟨Nat.le_of_ble_eq_true rfl, Nat.le_of_ble_eq_true rfl⟩ ⟨Nat.le_of_ble_eq_true rfl, Nat.le_of_ble_eq_true rfl⟩ dX7_digest_28 (fun H locs hP hD hS => ?_)
        refine z_callS (wn := ((camW ad) ++ (macW cs (ad 0) S F) ++ (macW cs (ad 1) TS TF) ++ (hisW cs (ad 4) kd HS) ++ (txtW cs (ad 5) X B))) ⟨hx, hb, hml, hown, hts⟩ zY_X7_hashWith w_st_yX7_hashWith w_ml_X7_244 [.long (dgN S (hW 3467 (X 0)) i), .int (S i)] [] (c_X7_hashWith l D cs (dgN S (hW 3467 (X 0)) i) (S i)) hE hK hA hP hD hS [] rfl rfl rfl z_ins_nil rfl hl.1 (Nat.le_of_ble_eq_true rfl) ⟨Nat.le_of_ble_eq_true rfl, Nat.le_of_ble_eq_true rfl⟩ ⟨Nat.le_of_ble_eq_true rfl, Nat.le_of_ble_eq_true rfl⟩ dX7_digest_31 (fun H locs hP hD hS => ?_)
        refine lv_lstore_n (lv' := [(1, .long (hW (dgN S (hW 3467 (X 0)) i) (S i))), (0, .ref (ad 3 0)), (3, .int (nI i))]) hx hb dX7_digest_34 rfl hl (by decide) rfl (fun ls hl => ?_)
        refine lv_iinc (v := nI (i + 1)) (lv' := [(3, .int (nI (i + 1))), (1, .long (hW (dgN S (hW 3467 (X 0)) i) (S i))), (0, .ref (ad 3 0))]) hx hb dX7_digest_35 hl (k := 2) rfl (show nI i + Int32.ofInt 1 = nI (i + 1) from nI_add i 1) (by decide) rfl (fun ls hl => ?_)
        refine lv_goto (tgt := 16) hx hb dX7_digest_38 (by decide) ?_
        exact ih (i + 1) (by omega) (by omega) _ _ _ hP hD hS (lv_sub hl [2, 1, 0] rfl)
  exact lp16 (16 + 1) 0 (Nat.zero_le _) (by omega) _ _ _ hP hD hS (lv_sub hl [2, 1, 0] rfl)

set_option maxHeartbeats 4000000 in
set_option maxRecDepth 100000 in
theorem c_X7_useful (l : Launch) (D : va_G) (cs : zCs) (ad : Nat → Nat → Nat) (S : Nat → Int32) (F : Nat → Nat → Int32) (hm : ¬ S 12 ≤ 0) (hz : vf_n64 (FP.ddiv (FP.i2d (S 14)) (FP.i2d (S 12)))) : zM l D cs yX7_useful cX7_useful 1 (some FieldType.double) 0 0 0 0 [.ref (ad 3 0)] ((camW ad) ++ (macW cs (ad 0) S F)) (some (.double (FP.ddiv (FP.i2d (S 14)) (FP.i2d (S 12))))) ((camW ad) ++ (macW cs (ad 0) S F)) := by
  refine zM.of (own := RX7) (by decide) (Nat.le_of_ble_eq_true rfl) rfl ?_
  intro pq eq s mq below meth cq A ls hx hb hr hml hown hts hlk hnm hE hK hA hP hD hS hl
  have hl : lv_has ls 1 [(0, .ref (ad 3 0))] := hl
  refine lv_aload_n hx hb dX7_useful_0 rfl (lv_at hl 0 rfl) ?_
  refine va_get (D := D) (ci := 7) (v := .ref (ad 0 0)) (C := RX7) (T := TX7) (N := 5) hx hb hts wsI_X7 hown hK hP 0 rfl rfl 0 (by decide) (hts _ w_fl_X7_10) (fun _ h9 => h9) rfl dX7_useful_1 ?_
  refine va_get (D := D) (ci := 5) (v := .ref (ad 0 2)) (C := RX5) (T := TX5) (N := 13) hx hb hts wsI_X5 hown hK hP 1 rfl rfl 9 (by decide) (hts _ w_fl_X7_96) (fun _ h9 => h9) rfl dX7_useful_4 ?_
  refine va_get (D := D) (ci := 0) (v := .int (S 12)) (C := RX0) (T := TX0) (N := 7) hx hb hts wsI_X0 hown hK hP 3 rfl rfl 3 (by decide) (hts _ w_fl_X7_208) (fun _ h9 => h9) rfl dX7_useful_7 ?_
  refine lv_if_le (tgt := 39) hx hb dX7_useful_10 (by decide) (fun c_1 => ?_) (fun c_1 => ?_)
  · skip
    exact absurd c_1 hm
  · skip
    refine lv_aload_n hx hb dX7_useful_13 rfl (lv_at hl 0 rfl) ?_
    refine va_get (D := D) (ci := 7) (v := .ref (ad 0 0)) (C := RX7) (T := TX7) (N := 5) hx hb hts wsI_X7 hown hK hP 0 rfl rfl 0 (by decide) (hts _ w_fl_X7_10) (fun _ h9 => h9) rfl dX7_useful_14 ?_
    refine va_get (D := D) (ci := 5) (v := .ref (ad 0 2)) (C := RX5) (T := TX5) (N := 13) hx hb hts wsI_X5 hown hK hP 1 rfl rfl 9 (by decide) (hts _ w_fl_X7_96) (fun _ h9 => h9) rfl dX7_useful_17 ?_
    refine va_get (D := D) (ci := 0) (v := .int (S 14)) (C := RX0) (T := TX0) (N := 7) hx hb hts wsI_X0 hown hK hP 3 rfl rfl 5 (by decide) (hts _ w_fl_X7_211) (fun _ h9 => h9) rfl dX7_useful_20 ?_
    refine lv_i2d hx hb dX7_useful_23 ?_
    refine lv_aload_n hx hb dX7_useful_24 rfl (lv_at hl 0 rfl) ?_
    refine va_get (D := D) (ci := 7) (v := .ref (ad 0 0)) (C := RX7) (T := TX7) (N := 5) hx hb hts wsI_X7 hown hK hP 0 rfl rfl 0 (by decide) (hts _ w_fl_X7_10) (fun _ h9 => h9) rfl dX7_useful_25 ?_
    refine va_get (D := D) (ci := 5) (v := .ref (ad 0 2)) (C := RX5) (T := TX5) (N := 13) hx hb hts wsI_X5 hown hK hP 1 rfl rfl 9 (by decide) (hts _ w_fl_X7_96) (fun _ h9 => h9) rfl dX7_useful_28 ?_
    refine va_get (D := D) (ci := 0) (v := .int (S 12)) (C := RX0) (T := TX0) (N := 7) hx hb hts wsI_X0 hown hK hP 3 rfl rfl 3 (by decide) (hts _ w_fl_X7_208) (fun _ h9 => h9) rfl dX7_useful_31 ?_
    refine lv_i2d hx hb dX7_useful_34 ?_
    refine lv_ddiv hx hb dX7_useful_35 hz ?_
    refine lv_goto (tgt := 40) hx hb dX7_useful_36 (by decide) ?_
    exact z_dret hx hb hr hlk hK hP hD hS dX7_useful_40 rfl rfl

set_option maxHeartbeats 4000000 in
set_option maxRecDepth 100000 in
theorem c_X7_append (l : Launch) (D : va_G) (cs : zCs) (hfl : l.stackTraces = false) (ad : Nat → Nat → Nat) (X : Nat → Int32) (B : Nat → Nat → Int32) (L : Nat) (v : Int32) (hX0 : X 0 = nI L) (hL : L ≤ 100) : zMx l D cs yX7_append cX7_append 2 (some FieldType.int) 6 82 1 6 [.ref (ad 3 0), .int v] ((camW ad) ++ (txtW cs (ad 5) X B)) (exT (0 ≤ v ∧ v ≤ 127) zIA (exT (nI L < 100) zIS none)) (some (.int (nI (L + 1)))) ((camW ad) ++ (txtW cs (ad 5) (upd X 0 (nI (L + 1))) (zU B 0 (upd (B 0) L v)))) := by
  refine zMx.of (own := RX7) (by decide) (Nat.le_of_ble_eq_true rfl) rfl ?_
  intro pq eq s mq below meth cq A ls hx hb hr hml hown hts hlk htab hE hK hA hP hD hS hl
  have hl : lv_has ls 2 [(0, .ref (ad 3 0)), (1, .int v)] := hl
  refine lv_iload_n hx hb dX7_append_0 rfl (lv_at hl 1 rfl) ?_
  refine lv_iconst (v := 0) hx hb dX7_append_1 (by decide) ?_
  refine lv_bipush (v := 127) hx hb dX7_append_2 (by decide) ?_
  refine z_callS (wn := ((camW ad) ++ (txtW cs (ad 5) X B))) ⟨hx, hb, hml, hown, hts⟩ zY_X7_within w_st_yX7_within w_ml_X7_55 [.int v, .int 0, .int 127] [] (c_X7_within l D cs v 0 127) hE hK hA hP hD hS [] rfl rfl rfl z_ins_nil rfl hl.1 (Nat.le_of_ble_eq_true rfl) ⟨Nat.le_of_ble_eq_true rfl, Nat.le_of_ble_eq_true rfl⟩ ⟨Nat.le_of_ble_eq_true rfl, Nat.le_of_ble_eq_true rfl⟩ dX7_append_4 (fun H locs hP hD hS => ?_)
  refine lv_if_ne (tgt := 20) hx hb dX7_append_7 (by decide) (fun c_1 => ?_) (fun c_1 => ?_)
  · skip
    have c_1 := bI_n0 c_1
    refine lv_aload_n hx hb dX7_append_20 rfl (lv_at hl 0 rfl) ?_
    refine va_get (D := D) (ci := 7) (v := .ref (ad 5 0)) (C := RX7) (T := TX7) (N := 5) hx hb hts wsI_X7 hown hK hP 0 rfl rfl 2 (by decide) (hts _ w_fl_X7_26) (fun _ h9 => h9) rfl dX7_append_21 ?_
    refine va_get (D := D) (ci := 6) (v := .int (X 0)) (C := RX6) (T := TX6) (N := 6) hx hb hts wsI_X6 hown hK hP 1 rfl rfl 1 (by decide) (hts _ w_fl_X7_216) (fun _ h9 => h9) rfl dX7_append_24 ?_
    refine z_top (y := nI L) hX0 ?_
    refine lv_bipush (v := 100) hx hb dX7_append_27 (by decide) ?_
    refine lv_icmp_lt (tgt := 42) hx hb dX7_append_29 (by decide) (fun c_2 => ?_) (fun c_2 => ?_)
    · skip
      refine lv_aload_n hx hb dX7_append_42 rfl (lv_at hl 0 rfl) ?_
      refine va_get (D := D) (ci := 7) (v := .ref (ad 5 0)) (C := RX7) (T := TX7) (N := 5) hx hb hts wsI_X7 hown hK hP 0 rfl rfl 2 (by decide) (hts _ w_fl_X7_26) (fun _ h9 => h9) rfl dX7_append_43 ?_
      refine lv_iload_n hx hb dX7_append_46 rfl (lv_at hl 1 rfl) ?_
      refine z_callV (wn := ((camW ad) ++ (txtW cs (ad 5) (upd X 0 (nI (L + 1))) (zU B 0 (upd (B 0) L v))))) ⟨hx, hb, hml, hown, hts⟩ zY_X6_putLast w_im_yX6_putLast w_se_yX6_putLast w_ml_X7_221 [.int v] [] (c_X6_putLast l D cs (ad 5) X B L v hX0 ((nI_ltI (b := 100) (by omega) (by omega)).mp c_2)) hE hK hA hP hD hS [1, 2, 3] rfl rfl rfl rfl 6 rfl rfl rfl rfl hl.1 (Nat.le_of_ble_eq_true rfl) ⟨Nat.le_of_ble_eq_true rfl, Nat.le_of_ble_eq_true rfl⟩ ⟨Nat.le_of_ble_eq_true rfl, Nat.le_of_ble_eq_true rfl⟩ dX7_append_47 (fun H locs hP hD hS => ?_)
      refine lv_aload_n hx hb dX7_append_50 rfl (lv_at hl 0 rfl) ?_
      refine va_get (D := D) (ci := 7) (v := .ref (ad 5 0)) (C := RX7) (T := TX7) (N := 5) hx hb hts wsI_X7 hown hK hP 0 rfl rfl 2 (by decide) (hts _ w_fl_X7_26) (fun _ h9 => h9) rfl dX7_append_51 ?_
      refine va_get (D := D) (ci := 6) (v := .int (nI (L + 1))) (C := RX6) (T := TX6) (N := 6) hx hb hts wsI_X6 hown hK hP 1 rfl rfl 1 (by decide) (hts _ w_fl_X7_216) (fun _ h9 => h9) rfl dX7_append_54 ?_
      exact z_iretX hx hb hr hlk hK hP hD hS dX7_append_57 (by rw [exT_t c_1, exT_t c_2]) (Nat.le_of_ble_eq_true rfl) (Nat.le_of_ble_eq_true rfl) rfl rfl
    · skip
      exact z_throw hx hb hfl hml hown hts hlk htab hE hK hP hD hS hl.1 zThr_IS (List.mem_of_getElem? (i := 12) rfl) dX7_append_32 dX7_append_35 dX7_append_36 dX7_append_38 dX7_append_41 ⟨Nat.le_of_ble_eq_true rfl, Nat.le_of_ble_eq_true rfl, Nat.le_of_ble_eq_true rfl, Nat.le_of_ble_eq_true rfl⟩ (Nat.le_of_ble_eq_true rfl) (Nat.le_of_ble_eq_true rfl) (by rw [exT_t c_1]; exact exT_f (fun h => c_2 h)) rfl
  · skip
    have c_1 := bI_0.mp c_1
    exact z_throw hx hb hfl hml hown hts hlk htab hE hK hP hD hS hl.1 zThr_IA (List.mem_of_getElem? (i := 11) rfl) dX7_append_10 dX7_append_13 dX7_append_14 dX7_append_16 dX7_append_19 ⟨Nat.le_of_ble_eq_true rfl, Nat.le_of_ble_eq_true rfl, Nat.le_of_ble_eq_true rfl, Nat.le_of_ble_eq_true rfl⟩ (Nat.le_of_ble_eq_true rfl) (Nat.le_of_ble_eq_true rfl) (by exact exT_f (fun h => c_1 h)) rfl

set_option maxHeartbeats 4000000 in
set_option maxRecDepth 100000 in
theorem c_X7_clearText (l : Launch) (D : va_G) (cs : zCs) (ad : Nat → Nat → Nat) (X : Nat → Int32) (B : Nat → Nat → Int32)  : zM l D cs yX7_clearText cX7_clearText 2 (some FieldType.int) 0 0 0 0 [.ref (ad 3 0)] ((camW ad) ++ (txtW cs (ad 5) X B)) (some (.int (X 0))) ((camW ad) ++ (txtW cs (ad 5) (upd X 0 0) B)) := by
  refine zM.of (own := RX7) (by decide) (Nat.le_of_ble_eq_true rfl) rfl ?_
  intro pq eq s mq below meth cq A ls hx hb hr hml hown hts hlk hnm hE hK hA hP hD hS hl
  have hl : lv_has ls 2 [(0, .ref (ad 3 0))] := hl
  refine lv_aload_n hx hb dX7_clearText_0 rfl (lv_at hl 0 rfl) ?_
  refine va_get (D := D) (ci := 7) (v := .ref (ad 5 0)) (C := RX7) (T := TX7) (N := 5) hx hb hts wsI_X7 hown hK hP 0 rfl rfl 2 (by decide) (hts _ w_fl_X7_26) (fun _ h9 => h9) rfl dX7_clearText_1 ?_
  refine va_get (D := D) (ci := 6) (v := .int (X 0)) (C := RX6) (T := TX6) (N := 6) hx hb hts wsI_X6 hown hK hP 1 rfl rfl 1 (by decide) (hts _ w_fl_X7_216) (fun _ h9 => h9) rfl dX7_clearText_4 ?_
  refine lv_istore_n (lv' := [(1, .int (X 0)), (0, .ref (ad 3 0))]) hx hb dX7_clearText_7 rfl hl (by decide) rfl (fun ls hl => ?_)
  refine lv_aload_n hx hb dX7_clearText_8 rfl (lv_at hl 1 rfl) ?_
  refine va_get (D := D) (ci := 7) (v := .ref (ad 5 0)) (C := RX7) (T := TX7) (N := 5) hx hb hts wsI_X7 hown hK hP 0 rfl rfl 2 (by decide) (hts _ w_fl_X7_26) (fun _ h9 => h9) rfl dX7_clearText_9 ?_
  refine lv_iconst (v := 0) hx hb dX7_clearText_12 (by decide) ?_
  refine va_put (D := D) (ci := 6) (v := .int 0) (C := RX6) (T := TX6) (N := 6) hx hb hts wsI_X6 tyX6 tyX6_ok nmX6 hown hK hP hD hS 1 rfl rfl 1 (by decide) (hts _ w_fl_X7_216) (fun _ h9 => h9) rfl (tyX6_ok 1 (by decide)) rfl rfl (Nat.le_of_ble_eq_true rfl) dX7_clearText_13 (fun H locs hP hD hS => ?_)
  have hP : va_P D vwCl ((camW ad) ++ (txtW cs (ad 5) (upd X 0 0) B)) H := hP
  have hD : va_D A ((camW ad) ++ (txtW cs (ad 5) (upd X 0 0) B)) := hD
  refine lv_iload_n hx hb dX7_clearText_16 rfl (lv_at hl 0 rfl) ?_
  exact z_iret hx hb hr hlk hK hP hD hS dX7_clearText_17 rfl rfl

set_option maxHeartbeats 4000000 in
set_option maxRecDepth 100000 in
theorem c_X7_parse_bad (l : Launch) (D : va_G) (cs : zCs) (ad : Nat → Nat → Nat) (S : Nat → Int32) (F : Nat → Nat → Int32) (X : Nat → Int32) (B : Nat → Nat → Int32) (L n0 : Nat) (hX0 : X 0 = nI L) (hL : L ≤ 100) (hS0 : S 0 = nI n0) (h16 : n0 ≤ 16) (hbad : ¬ (rdZ (B 0) L n0).1 = -1) : zM l D cs yX7_parse cX7_parse 3 (some FieldType.int) 5 154 0 0 [.ref (ad 3 0)] ((camW ad) ++ (macW cs (ad 0) S F) ++ (txtW cs (ad 5) X B)) (some (.int ((-10) - (rdZ (B 0) L n0).1))) ((camW ad) ++ (macW cs (ad 0) S F) ++ (txtW cs (ad 5) (upd (upd (upd X 1 (nI (rdn (B 0) L n0))) 2 ((rdZ (B 0) L n0).1)) 3 (nI (rdZ (B 0) L n0).2.1)) (zU B 1 ((rdZ (B 0) L n0).2.2)))) := by
  refine zM.of (own := RX7) (by decide) (Nat.le_of_ble_eq_true rfl) rfl ?_
  intro pq eq s mq below meth cq A ls hx hb hr hml hown hts hlk hnm hE hK hA hP hD hS hl
  have hl : lv_has ls 3 [(0, .ref (ad 3 0))] := hl
  refine lv_aload_n hx hb dX7_parse_0 rfl (lv_at hl 0 rfl) ?_
  refine va_get (D := D) (ci := 7) (v := .ref (ad 5 0)) (C := RX7) (T := TX7) (N := 5) hx hb hts wsI_X7 hown hK hP 0 rfl rfl 2 (by decide) (hts _ w_fl_X7_26) (fun _ h9 => h9) rfl dX7_parse_1 ?_
  refine lv_aload_n hx hb dX7_parse_4 rfl (lv_at hl 0 rfl) ?_
  refine va_get (D := D) (ci := 7) (v := .ref (ad 0 0)) (C := RX7) (T := TX7) (N := 5) hx hb hts wsI_X7 hown hK hP 0 rfl rfl 0 (by decide) (hts _ w_fl_X7_10) (fun _ h9 => h9) rfl dX7_parse_5 ?_
  refine va_get (D := D) (ci := 5) (v := .int (S 0)) (C := RX5) (T := TX5) (N := 13) hx hb hts wsI_X5 hown hK hP 1 rfl rfl 0 (by decide) (hts _ w_fl_X7_223) (fun _ h9 => h9) rfl dX7_parse_8 ?_
  refine z_top (y := nI n0) hS0 ?_
  refine z_callV (wn := ((camW ad) ++ (macW cs (ad 0) S F) ++ (txtW cs (ad 5) (upd (upd (upd X 1 (nI (rdn (B 0) L n0))) 2 ((rdZ (B 0) L n0).1)) 3 (nI (rdZ (B 0) L n0).2.1)) (zU B 1 ((rdZ (B 0) L n0).2.2))))) ⟨hx, hb, hml, hown, hts⟩ zY_X6_read w_im_yX6_read w_se_yX6_read w_ml_X7_226 [.int (nI n0)] [] (c_X6_read l D cs (ad 5) X B L n0 hX0 hL h16) hE hK hA hP hD hS [18, 19, 20] rfl rfl rfl rfl 6 rfl rfl rfl rfl hl.1 (Nat.le_of_ble_eq_true rfl) ⟨Nat.le_of_ble_eq_true rfl, Nat.le_of_ble_eq_true rfl⟩ ⟨Nat.le_of_ble_eq_true rfl, Nat.le_of_ble_eq_true rfl⟩ dX7_parse_11 (fun H locs hP hD hS => ?_)
  refine lv_aload_n hx hb dX7_parse_14 rfl (lv_at hl 0 rfl) ?_
  refine va_get (D := D) (ci := 7) (v := .ref (ad 5 0)) (C := RX7) (T := TX7) (N := 5) hx hb hts wsI_X7 hown hK hP 0 rfl rfl 2 (by decide) (hts _ w_fl_X7_26) (fun _ h9 => h9) rfl dX7_parse_15 ?_
  refine va_get (D := D) (ci := 6) (v := .int ((rdZ (B 0) L n0).1)) (C := RX6) (T := TX6) (N := 6) hx hb hts wsI_X6 hown hK hP 18 rfl rfl 4 (by decide) (hts _ w_fl_X7_229) (fun _ h9 => h9) rfl dX7_parse_18 ?_
  refine lv_iconst (v := (-1)) hx hb dX7_parse_21 (by decide) ?_
  refine lv_icmp_eq (tgt := 36) hx hb dX7_parse_22 (by decide) (fun c_1 => ?_) (fun c_1 => ?_)
  · skip
    exact absurd c_1 hbad
  · skip
    refine lv_bipush (v := (-10)) hx hb dX7_parse_25 (by decide) ?_
    refine lv_aload_n hx hb dX7_parse_27 rfl (lv_at hl 0 rfl) ?_
    refine va_get (D := D) (ci := 7) (v := .ref (ad 5 0)) (C := RX7) (T := TX7) (N := 5) hx hb hts wsI_X7 hown hK hP 0 rfl rfl 2 (by decide) (hts _ w_fl_X7_26) (fun _ h9 => h9) rfl dX7_parse_28 ?_
    refine va_get (D := D) (ci := 6) (v := .int ((rdZ (B 0) L n0).1)) (C := RX6) (T := TX6) (N := 6) hx hb hts wsI_X6 hown hK hP 18 rfl rfl 4 (by decide) (hts _ w_fl_X7_229) (fun _ h9 => h9) rfl dX7_parse_31 ?_
    refine lv_isub hx hb dX7_parse_34 ?_
    exact z_iret hx hb hr hlk hK hP hD hS dX7_parse_35 rfl rfl

set_option maxHeartbeats 4000000 in
set_option maxRecDepth 100000 in
theorem c_X7_parse_ok (l : Launch) (D : va_G) (cs : zCs) (ad : Nat → Nat → Nat) (S : Nat → Int32) (F : Nat → Nat → Int32) (X : Nat → Int32) (B : Nat → Nat → Int32) (kd : Nat → Nat → Nat) (HS : Nat → Int32) (KS : Nat → Nat → Int32) (KF : Nat → Nat → Nat → Int32) (p n : Nat) (L n0 : Nat) (hX0 : X 0 = nI L) (hL : L ≤ 100) (hS0 : S 0 = nI n0) (h16 : n0 ≤ 16) (hp : HS 0 = nI p) (hp4 : p < 4) (hn : HS 1 = nI n) (hn4 : n ≤ 4) (hok : (rdZ (B 0) L n0).1 = -1) : zM l D cs yX7_parse cX7_parse 3 (some FieldType.int) 5 154 0 0 [.ref (ad 3 0)] ((camW ad) ++ (macW cs (ad 0) S F) ++ (txtW cs (ad 5) X B) ++ (hisW cs (ad 4) kd HS) ++ (macW cs (kd 0) (KS 0) (KF 0)) ++ (macW cs (kd 1) (KS 1) (KF 1)) ++ (macW cs (kd 2) (KS 2) (KF 2)) ++ (macW cs (kd 3) (KS 3) (KF 3))) (some (.int (jsum (rdZ (B 0) L n0).2.2 5))) ((camW ad) ++ (macW cs (ad 0) (upd (upd (upd S 0 (nI (rdn (B 0) L n0))) 1 0) 2 0) (zU (zU (zU F 0 ((rdZ (B 0) L n0).2.2)) 10 (fun _ => -1)) 11 (fun _ => 0))) ++ (txtW cs (ad 5) (upd (upd (upd X 1 (nI (rdn (B 0) L n0))) 2 ((rdZ (B 0) L n0).1)) 3 (nI (rdZ (B 0) L n0).2.1)) (zU B 1 ((rdZ (B 0) L n0).2.2))) ++ (hisW cs (ad 4) kd (upd (upd HS 0 (nI (hNx p))) 1 (nI (min (n + 1) 4)))) ++ (macW cs (kd 0) (kup KS (hNx p) S 0) (kup KF (hNx p) F 0)) ++ (macW cs (kd 1) (kup KS (hNx p) S 1) (kup KF (hNx p) F 1)) ++ (macW cs (kd 2) (kup KS (hNx p) S 2) (kup KF (hNx p) F 2)) ++ (macW cs (kd 3) (kup KS (hNx p) S 3) (kup KF (hNx p) F 3))) := by
  refine zM.of (own := RX7) (by decide) (Nat.le_of_ble_eq_true rfl) rfl ?_
  intro pq eq s mq below meth cq A ls hx hb hr hml hown hts hlk hnm hE hK hA hP hD hS hl
  have hl : lv_has ls 3 [(0, .ref (ad 3 0))] := hl
  refine lv_aload_n hx hb dX7_parse_0 rfl (lv_at hl 0 rfl) ?_
  refine va_get (D := D) (ci := 7) (v := .ref (ad 5 0)) (C := RX7) (T := TX7) (N := 5) hx hb hts wsI_X7 hown hK hP 0 rfl rfl 2 (by decide) (hts _ w_fl_X7_26) (fun _ h9 => h9) rfl dX7_parse_1 ?_
  refine lv_aload_n hx hb dX7_parse_4 rfl (lv_at hl 0 rfl) ?_
  refine va_get (D := D) (ci := 7) (v := .ref (ad 0 0)) (C := RX7) (T := TX7) (N := 5) hx hb hts wsI_X7 hown hK hP 0 rfl rfl 0 (by decide) (hts _ w_fl_X7_10) (fun _ h9 => h9) rfl dX7_parse_5 ?_
  refine va_get (D := D) (ci := 5) (v := .int (S 0)) (C := RX5) (T := TX5) (N := 13) hx hb hts wsI_X5 hown hK hP 1 rfl rfl 0 (by decide) (hts _ w_fl_X7_223) (fun _ h9 => h9) rfl dX7_parse_8 ?_
  refine z_top (y := nI n0) hS0 ?_
  refine z_callV (wn := ((camW ad) ++ (macW cs (ad 0) S F) ++ (txtW cs (ad 5) (upd (upd (upd X 1 (nI (rdn (B 0) L n0))) 2 ((rdZ (B 0) L n0).1)) 3 (nI (rdZ (B 0) L n0).2.1)) (zU B 1 ((rdZ (B 0) L n0).2.2))) ++ (hisW cs (ad 4) kd HS) ++ (macW cs (kd 0) (KS 0) (KF 0)) ++ (macW cs (kd 1) (KS 1) (KF 1)) ++ (macW cs (kd 2) (KS 2) (KF 2)) ++ (macW cs (kd 3) (KS 3) (KF 3)))) ⟨hx, hb, hml, hown, hts⟩ zY_X6_read w_im_yX6_read w_se_yX6_read w_ml_X7_226 [.int (nI n0)] [] (c_X6_read l D cs (ad 5) X B L n0 hX0 hL h16) hE hK hA hP hD hS [18, 19, 20] rfl rfl rfl rfl 6 rfl rfl rfl rfl hl.1 (Nat.le_of_ble_eq_true rfl) ⟨Nat.le_of_ble_eq_true rfl, Nat.le_of_ble_eq_true rfl⟩ ⟨Nat.le_of_ble_eq_true rfl, Nat.le_of_ble_eq_true rfl⟩ dX7_parse_11 (fun H locs hP hD hS => ?_)
  refine lv_aload_n hx hb dX7_parse_14 rfl (lv_at hl 0 rfl) ?_
  refine va_get (D := D) (ci := 7) (v := .ref (ad 5 0)) (C := RX7) (T := TX7) (N := 5) hx hb hts wsI_X7 hown hK hP 0 rfl rfl 2 (by decide) (hts _ w_fl_X7_26) (fun _ h9 => h9) rfl dX7_parse_15 ?_
  refine va_get (D := D) (ci := 6) (v := .int ((rdZ (B 0) L n0).1)) (C := RX6) (T := TX6) (N := 6) hx hb hts wsI_X6 hown hK hP 18 rfl rfl 4 (by decide) (hts _ w_fl_X7_229) (fun _ h9 => h9) rfl dX7_parse_18 ?_
  refine lv_iconst (v := (-1)) hx hb dX7_parse_21 (by decide) ?_
  refine lv_icmp_eq (tgt := 36) hx hb dX7_parse_22 (by decide) (fun c_1 => ?_) (fun c_1 => ?_)
  · skip
    refine lv_aload_n hx hb dX7_parse_36 rfl (lv_at hl 0 rfl) ?_
    refine va_get (D := D) (ci := 7) (v := .ref (ad 4 0)) (C := RX7) (T := TX7) (N := 5) hx hb hts wsI_X7 hown hK hP 0 rfl rfl 1 (by decide) (hts _ w_fl_X7_19) (fun _ h9 => h9) rfl dX7_parse_37 ?_
    refine lv_aload_n hx hb dX7_parse_40 rfl (lv_at hl 0 rfl) ?_
    refine va_get (D := D) (ci := 7) (v := .ref (ad 0 0)) (C := RX7) (T := TX7) (N := 5) hx hb hts wsI_X7 hown hK hP 0 rfl rfl 0 (by decide) (hts _ w_fl_X7_10) (fun _ h9 => h9) rfl dX7_parse_41 ?_
    refine z_callV (wn := ((camW ad) ++ (macW cs (ad 0) S F) ++ (txtW cs (ad 5) (upd (upd (upd X 1 (nI (rdn (B 0) L n0))) 2 ((rdZ (B 0) L n0).1)) 3 (nI (rdZ (B 0) L n0).2.1)) (zU B 1 ((rdZ (B 0) L n0).2.2))) ++ (hisW cs (ad 4) kd (upd (upd HS 0 (nI (hNx p))) 1 (nI (min (n + 1) 4)))) ++ (macW cs (kd 0) (kup KS (hNx p) S 0) (kup KF (hNx p) F 0)) ++ (macW cs (kd 1) (kup KS (hNx p) S 1) (kup KF (hNx p) F 1)) ++ (macW cs (kd 2) (kup KS (hNx p) S 2) (kup KF (hNx p) F 2)) ++ (macW cs (kd 3) (kup KS (hNx p) S 3) (kup KF (hNx p) F 3)))) ⟨hx, hb, hml, hown, hts⟩ zY_X4_save w_im_yX4_save w_se_yX4_save w_ml_X7_43 [.ref (ad 0 0)] [] (c_X4_save l D cs (ad 4) (ad 0) kd HS KS KF S F p n hp hp4 hn hn4) hE hK hA hP hD hS [21, 22, 23, 24, 25, 26, 27, 28, 29, 30, 31, 32, 33, 34, 35, 36, 37, 38, 39, 40, 41, 42, 43, 44, 45, 46, 47, 48, 49, 50, 51, 52, 53, 54, 55, 56, 57, 58, 59, 60, 61, 62, 63, 64, 65, 66, 67, 68, 69, 70, 71, 72, 73, 74, 75, 76, 77, 78, 79, 80, 81, 82, 83, 84, 85, 86, 87, 88, 89, 90, 1, 2, 3, 4, 5, 6, 7, 8, 9, 10, 11, 12, 13, 14, 15, 16, 17] rfl rfl rfl rfl 4 rfl rfl rfl rfl hl.1 (Nat.le_of_ble_eq_true rfl) ⟨Nat.le_of_ble_eq_true rfl, Nat.le_of_ble_eq_true rfl⟩ ⟨Nat.le_of_ble_eq_true rfl, Nat.le_of_ble_eq_true rfl⟩ dX7_parse_44 (fun H locs hP hD hS => ?_)
    refine lv_aload_n hx hb dX7_parse_47 rfl (lv_at hl 0 rfl) ?_
    refine va_get (D := D) (ci := 7) (v := .ref (ad 0 0)) (C := RX7) (T := TX7) (N := 5) hx hb hts wsI_X7 hown hK hP 0 rfl rfl 0 (by decide) (hts _ w_fl_X7_10) (fun _ h9 => h9) rfl dX7_parse_48 ?_
    refine lv_aload_n hx hb dX7_parse_51 rfl (lv_at hl 0 rfl) ?_
    refine va_get (D := D) (ci := 7) (v := .ref (ad 5 0)) (C := RX7) (T := TX7) (N := 5) hx hb hts wsI_X7 hown hK hP 0 rfl rfl 2 (by decide) (hts _ w_fl_X7_26) (fun _ h9 => h9) rfl dX7_parse_52 ?_
    refine z_callV (wn := ((camW ad) ++ (macW cs (ad 0) (upd (upd (upd S 0 (nI (rdn (B 0) L n0))) 1 0) 2 0) (zU (zU (zU F 0 ((rdZ (B 0) L n0).2.2)) 10 (fun _ => -1)) 11 (fun _ => 0))) ++ (txtW cs (ad 5) (upd (upd (upd X 1 (nI (rdn (B 0) L n0))) 2 ((rdZ (B 0) L n0).1)) 3 (nI (rdZ (B 0) L n0).2.1)) (zU B 1 ((rdZ (B 0) L n0).2.2))) ++ (hisW cs (ad 4) kd (upd (upd HS 0 (nI (hNx p))) 1 (nI (min (n + 1) 4)))) ++ (macW cs (kd 0) (kup KS (hNx p) S 0) (kup KF (hNx p) F 0)) ++ (macW cs (kd 1) (kup KS (hNx p) S 1) (kup KF (hNx p) F 1)) ++ (macW cs (kd 2) (kup KS (hNx p) S 2) (kup KF (hNx p) F 2)) ++ (macW cs (kd 3) (kup KS (hNx p) S 3) (kup KF (hNx p) F 3)))) ⟨hx, hb, hml, hown, hts⟩ zY_X5_takeTracks w_im_yX5_takeTracks w_se_yX5_takeTracks w_ml_X7_232 [.ref (ad 5 0)] [] (c_X5_takeTracks l D cs (ad 0) (ad 5) S (upd (upd (upd X 1 (nI (rdn (B 0) L n0))) 2 ((rdZ (B 0) L n0).1)) 3 (nI (rdZ (B 0) L n0).2.1)) F (zU B 1 ((rdZ (B 0) L n0).2.2))) hE hK hA hP hD hS [1, 2, 3, 4, 5, 6, 7, 8, 9, 10, 11, 12, 13, 14, 15, 16, 17, 18, 19, 20] rfl rfl rfl rfl 5 rfl rfl rfl rfl hl.1 (Nat.le_of_ble_eq_true rfl) ⟨Nat.le_of_ble_eq_true rfl, Nat.le_of_ble_eq_true rfl⟩ ⟨Nat.le_of_ble_eq_true rfl, Nat.le_of_ble_eq_true rfl⟩ dX7_parse_55 (fun H locs hP hD hS => ?_)
    refine lv_iconst (v := 0) hx hb dX7_parse_58 (by decide) ?_
    refine lv_istore_n (lv' := [(1, .int 0), (0, .ref (ad 3 0))]) hx hb dX7_parse_59 rfl hl (by decide) rfl (fun ls hl => ?_)
    refine lv_iconst (v := 0) hx hb dX7_parse_60 (by decide) ?_
    refine lv_istore_n (lv' := [(2, .int 0), (1, .int 0), (0, .ref (ad 3 0))]) hx hb dX7_parse_61 rfl hl (by decide) rfl (fun ls hl => ?_)
    have lp62 : ∀ (k : Nat) (i : Nat), (i ≤ 5) → (5 + 1 ≤ i + k) → ∀ (H : Heap) (locs : List Loc) (ls : Array Slot), va_P D vwCl ((camW ad) ++ (macW cs (ad 0) (upd (upd (upd S 0 (nI (rdn (B 0) L n0))) 1 0) 2 0) (zU (zU (zU F 0 ((rdZ (B 0) L n0).2.2)) 10 (fun _ => -1)) 11 (fun _ => 0))) ++ (txtW cs (ad 5) (upd (upd (upd X 1 (nI (rdn (B 0) L n0))) 2 ((rdZ (B 0) L n0).1)) 3 (nI (rdZ (B 0) L n0).2.1)) (zU B 1 ((rdZ (B 0) L n0).2.2))) ++ (hisW cs (ad 4) kd (upd (upd HS 0 (nI (hNx p))) 1 (nI (min (n + 1) 4)))) ++ (macW cs (kd 0) (kup KS (hNx p) S 0) (kup KF (hNx p) F 0)) ++ (macW cs (kd 1) (kup KS (hNx p) S 1) (kup KF (hNx p) F 1)) ++ (macW cs (kd 2) (kup KS (hNx p) S 2) (kup KF (hNx p) F 2)) ++ (macW cs (kd 3) (kup KS (hNx p) S 3) (kup KF (hNx p) F 3))) H → va_D A ((camW ad) ++ (macW cs (ad 0) (upd (upd (upd S 0 (nI (rdn (B 0) L n0))) 1 0) 2 0) (zU (zU (zU F 0 ((rdZ (B 0) L n0).2.2)) 10 (fun _ => -1)) 11 (fun _ => 0))) ++ (txtW cs (ad 5) (upd (upd (upd X 1 (nI (rdn (B 0) L n0))) 2 ((rdZ (B 0) L n0).1)) 3 (nI (rdZ (B 0) L n0).2.1)) (zU B 1 ((rdZ (B 0) L n0).2.2))) ++ (hisW cs (ad 4) kd (upd (upd HS 0 (nI (hNx p))) 1 (nI (min (n + 1) 4)))) ++ (macW cs (kd 0) (kup KS (hNx p) S 0) (kup KF (hNx p) F 0)) ++ (macW cs (kd 1) (kup KS (hNx p) S 1) (kup KF (hNx p) F 1)) ++ (macW cs (kd 2) (kup KS (hNx p) S 2) (kup KF (hNx p) F 2)) ++ (macW cs (kd 3) (kup KS (hNx p) S 3) (kup KF (hNx p) F 3))) → va_S A s.heap H locs → lv_has ls 3 [(0, .ref (ad 3 0)), (1, .int (jsum (rdZ (B 0) L n0).2.2 i)), (2, .int (nI i))] → W pq l eq ({ frames := 5, cells := 0, slots := 0, locals := 154 } : Room) s mq ([.ref (ad 3 0)] : List Value).toArray below meth cq H locs 0 0 (MQ below (zQ D cs (some (.int (jsum (rdZ (B 0) L n0).2.2 5))) ((camW ad) ++ (macW cs (ad 0) (upd (upd (upd S 0 (nI (rdn (B 0) L n0))) 1 0) 2 0) (zU (zU (zU F 0 ((rdZ (B 0) L n0).2.2)) 10 (fun _ => -1)) 11 (fun _ => 0))) ++ (txtW cs (ad 5) (upd (upd (upd X 1 (nI (rdn (B 0) L n0))) 2 ((rdZ (B 0) L n0).1)) 3 (nI (rdZ (B 0) L n0).2.1)) (zU B 1 ((rdZ (B 0) L n0).2.2))) ++ (hisW cs (ad 4) kd (upd (upd HS 0 (nI (hNx p))) 1 (nI (min (n + 1) 4)))) ++ (macW cs (kd 0) (kup KS (hNx p) S 0) (kup KF (hNx p) F 0)) ++ (macW cs (kd 1) (kup KS (hNx p) S 1) (kup KF (hNx p) F 1)) ++ (macW cs (kd 2) (kup KS (hNx p) S 2) (kup KF (hNx p) F 2)) ++ (macW cs (kd 3) (kup KS (hNx p) S 3) (kup KF (hNx p) F 3))) A) ([.ref (ad 3 0)] : List Value).toArray s 0 0 A) (F0 mq 62 ls []) := by
      intro k
      induction k with
      | zero =>
        intro i hi1 hi2 H locs ls hP hD hS hl
        omega
      | succ k ih =>
        intro i hi1 hi2 H locs ls hP hD hS hl
        refine lv_iload_n hx hb dX7_parse_62 rfl (lv_at hl 2 rfl) ?_
        refine lv_iconst (v := 5) hx hb dX7_parse_63 (by decide) ?_
        refine lv_icmp_ge (tgt := 84) hx hb dX7_parse_64 (by decide) (fun c_2 => ?_) (fun c_2 => ?_)
        · skip
          refine lv_iload_n hx hb dX7_parse_84 rfl (lv_at hl 1 rfl) ?_
          exact z_iret hx hb hr hlk hK hP hD hS dX7_parse_85 (by rw [z_leK (n := 5) rfl (by omega) hi1 c_2]) rfl
        · skip
          have gi : i < 5 := z_geK (n := 5) rfl (by omega) hi1 c_2
          refine lv_iload_n hx hb dX7_parse_67 rfl (lv_at hl 1 rfl) ?_
          refine lv_aload_n hx hb dX7_parse_68 rfl (lv_at hl 0 rfl) ?_
          refine va_get (D := D) (ci := 7) (v := .ref (ad 0 0)) (C := RX7) (T := TX7) (N := 5) hx hb hts wsI_X7 hown hK hP 0 rfl rfl 0 (by decide) (hts _ w_fl_X7_10) (fun _ h9 => h9) rfl dX7_parse_69 ?_
          refine lv_iload_n hx hb dX7_parse_72 rfl (lv_at hl 2 rfl) ?_
          refine z_callV (wn := ((camW ad) ++ (macW cs (ad 0) (upd (upd (upd S 0 (nI (rdn (B 0) L n0))) 1 0) 2 0) (zU (zU (zU F 0 ((rdZ (B 0) L n0).2.2)) 10 (fun _ => -1)) 11 (fun _ => 0))) ++ (txtW cs (ad 5) (upd (upd (upd X 1 (nI (rdn (B 0) L n0))) 2 ((rdZ (B 0) L n0).1)) 3 (nI (rdZ (B 0) L n0).2.1)) (zU B 1 ((rdZ (B 0) L n0).2.2))) ++ (hisW cs (ad 4) kd (upd (upd HS 0 (nI (hNx p))) 1 (nI (min (n + 1) 4)))) ++ (macW cs (kd 0) (kup KS (hNx p) S 0) (kup KF (hNx p) F 0)) ++ (macW cs (kd 1) (kup KS (hNx p) S 1) (kup KF (hNx p) F 1)) ++ (macW cs (kd 2) (kup KS (hNx p) S 2) (kup KF (hNx p) F 2)) ++ (macW cs (kd 3) (kup KS (hNx p) S 3) (kup KF (hNx p) F 3)))) ⟨hx, hb, hml, hown, hts⟩ zY_X5_camsOf w_im_yX5_camsOf w_se_yX5_camsOf w_ml_X7_51 [.int (nI i)] [.int (jsum (rdZ (B 0) L n0).2.2 i)] (c_X5_camsOf l D cs (ad 0) (upd (upd (upd S 0 (nI (rdn (B 0) L n0))) 1 0) 2 0) (zU (zU (zU F 0 ((rdZ (B 0) L n0).2.2)) 10 (fun _ => -1)) 11 (fun _ => 0)) i gi) hE hK hA hP hD hS [1, 2, 3, 4, 5, 6, 7, 8, 9, 10, 11, 12, 13, 14, 15, 16, 17] rfl rfl rfl rfl 5 rfl rfl rfl rfl hl.1 (Nat.le_of_ble_eq_true rfl) ⟨Nat.le_of_ble_eq_true rfl, Nat.le_of_ble_eq_true rfl⟩ ⟨Nat.le_of_ble_eq_true rfl, Nat.le_of_ble_eq_true rfl⟩ dX7_parse_73 (fun H locs hP hD hS => ?_)
          refine lv_iadd hx hb dX7_parse_76 ?_
          refine lv_istore_n (lv' := [(1, .int ((jsum (rdZ (B 0) L n0).2.2 i) + (jbc ((rdZ (B 0) L n0).2.2 i)))), (0, .ref (ad 3 0)), (2, .int (nI i))]) hx hb dX7_parse_77 rfl hl (by decide) rfl (fun ls hl => ?_)
          refine lv_iinc (v := nI (i + 1)) (lv' := [(2, .int (nI (i + 1))), (1, .int ((jsum (rdZ (B 0) L n0).2.2 i) + (jbc ((rdZ (B 0) L n0).2.2 i)))), (0, .ref (ad 3 0))]) hx hb dX7_parse_78 hl (k := 2) rfl (show nI i + Int32.ofInt 1 = nI (i + 1) from nI_add i 1) (by decide) rfl (fun ls hl => ?_)
          refine lv_goto (tgt := 62) hx hb dX7_parse_81 (by decide) ?_
          exact ih (i + 1) (by omega) (by omega) _ _ _ hP hD hS (lv_sub hl [2, 1, 0] rfl)
    exact lp62 (5 + 1) 0 (Nat.zero_le _) (by omega) _ _ _ hP hD hS (lv_sub hl [2, 1, 0] rfl)
  · skip
    exact absurd hok c_1

set_option maxHeartbeats 4000000 in
set_option maxRecDepth 100000 in
theorem c_X7_undo (l : Launch) (D : va_G) (cs : zCs) (hfl : l.stackTraces = false) (ad : Nat → Nat → Nat) (S : Nat → Int32) (F : Nat → Nat → Int32) (kd : Nat → Nat → Nat) (HS : Nat → Int32) (KS : Nat → Nat → Int32) (KF : Nat → Nat → Nat → Int32) (p n : Nat) (hp : HS 0 = nI p) (hp4 : p < 4) (hn : HS 1 = nI n) (hn4 : n ≤ 4) : zMx l D cs yX7_undo cX7_undo 1 (some FieldType.int) 6 154 1 6 [.ref (ad 3 0)] ((camW ad) ++ (macW cs (ad 0) S F) ++ (hisW cs (ad 4) kd HS) ++ (macW cs (kd 0) (KS 0) (KF 0)) ++ (macW cs (kd 1) (KS 1) (KF 1)) ++ (macW cs (kd 2) (KS 2) (KF 2)) ++ (macW cs (kd 3) (KS 3) (KF 3))) (exT (¬ nI n = 0) zIS none) (some (.int (nI (n - 1)))) ((camW ad) ++ (macW cs (ad 0) (KS p) (KF p)) ++ (hisW cs (ad 4) kd (upd (upd HS 0 (nI (hPv p))) 1 (nI (n - 1)))) ++ (macW cs (kd 0) (KS 0) (KF 0)) ++ (macW cs (kd 1) (KS 1) (KF 1)) ++ (macW cs (kd 2) (KS 2) (KF 2)) ++ (macW cs (kd 3) (KS 3) (KF 3))) := by
  refine zMx.of (own := RX7) (by decide) (Nat.le_of_ble_eq_true rfl) rfl ?_
  intro pq eq s mq below meth cq A ls hx hb hr hml hown hts hlk htab hE hK hA hP hD hS hl
  have hl : lv_has ls 1 [(0, .ref (ad 3 0))] := hl
  refine lv_aload_n hx hb dX7_undo_0 rfl (lv_at hl 0 rfl) ?_
  refine va_get (D := D) (ci := 7) (v := .ref (ad 4 0)) (C := RX7) (T := TX7) (N := 5) hx hb hts wsI_X7 hown hK hP 0 rfl rfl 1 (by decide) (hts _ w_fl_X7_19) (fun _ h9 => h9) rfl dX7_undo_1 ?_
  refine va_get (D := D) (ci := 4) (v := .int (HS 1)) (C := RX4) (T := TX4) (N := 3) hx hb hts wsI_X4 hown hK hP 18 rfl rfl 2 (by decide) (hts _ w_fl_X7_236) (fun _ h9 => h9) rfl dX7_undo_4 ?_
  refine z_top (y := nI n) hn ?_
  refine lv_if_ne (tgt := 20) hx hb dX7_undo_7 (by decide) (fun c_1 => ?_) (fun c_1 => ?_)
  · skip
    refine lv_aload_n hx hb dX7_undo_20 rfl (lv_at hl 0 rfl) ?_
    refine va_get (D := D) (ci := 7) (v := .ref (ad 4 0)) (C := RX7) (T := TX7) (N := 5) hx hb hts wsI_X7 hown hK hP 0 rfl rfl 1 (by decide) (hts _ w_fl_X7_19) (fun _ h9 => h9) rfl dX7_undo_21 ?_
    refine lv_aload_n hx hb dX7_undo_24 rfl (lv_at hl 0 rfl) ?_
    refine va_get (D := D) (ci := 7) (v := .ref (ad 0 0)) (C := RX7) (T := TX7) (N := 5) hx hb hts wsI_X7 hown hK hP 0 rfl rfl 0 (by decide) (hts _ w_fl_X7_10) (fun _ h9 => h9) rfl dX7_undo_25 ?_
    refine z_callV (wn := ((camW ad) ++ (macW cs (ad 0) (KS p) (KF p)) ++ (hisW cs (ad 4) kd (upd (upd HS 0 (nI (hPv p))) 1 (nI (n - 1)))) ++ (macW cs (kd 0) (KS 0) (KF 0)) ++ (macW cs (kd 1) (KS 1) (KF 1)) ++ (macW cs (kd 2) (KS 2) (KF 2)) ++ (macW cs (kd 3) (KS 3) (KF 3)))) ⟨hx, hb, hml, hown, hts⟩ zY_X4_restore w_im_yX4_restore w_se_yX4_restore w_ml_X7_239 [.ref (ad 0 0)] [] (c_X4_restore l D cs (ad 4) (ad 0) kd HS KS KF S F p n hp hp4 hn hn4 (Nat.pos_of_ne_zero (fun h => c_1 (by rw [h]; rfl)))) hE hK hA hP hD hS [18, 19, 20, 21, 22, 23, 24, 25, 26, 27, 28, 29, 30, 31, 32, 33, 34, 35, 36, 37, 38, 39, 40, 41, 42, 43, 44, 45, 46, 47, 48, 49, 50, 51, 52, 53, 54, 55, 56, 57, 58, 59, 60, 61, 62, 63, 64, 65, 66, 67, 68, 69, 70, 71, 72, 73, 74, 75, 76, 77, 78, 79, 80, 81, 82, 83, 84, 85, 86, 87, 1, 2, 3, 4, 5, 6, 7, 8, 9, 10, 11, 12, 13, 14, 15, 16, 17] rfl rfl rfl rfl 4 rfl rfl rfl rfl hl.1 (Nat.le_of_ble_eq_true rfl) ⟨Nat.le_of_ble_eq_true rfl, Nat.le_of_ble_eq_true rfl⟩ ⟨Nat.le_of_ble_eq_true rfl, Nat.le_of_ble_eq_true rfl⟩ dX7_undo_28 (fun H locs hP hD hS => ?_)
    refine lv_aload_n hx hb dX7_undo_31 rfl (lv_at hl 0 rfl) ?_
    refine va_get (D := D) (ci := 7) (v := .ref (ad 4 0)) (C := RX7) (T := TX7) (N := 5) hx hb hts wsI_X7 hown hK hP 0 rfl rfl 1 (by decide) (hts _ w_fl_X7_19) (fun _ h9 => h9) rfl dX7_undo_32 ?_
    refine va_get (D := D) (ci := 4) (v := .int (nI (n - 1))) (C := RX4) (T := TX4) (N := 3) hx hb hts wsI_X4 hown hK hP 18 rfl rfl 2 (by decide) (hts _ w_fl_X7_236) (fun _ h9 => h9) rfl dX7_undo_35 ?_
    exact z_iretX hx hb hr hlk hK hP hD hS dX7_undo_38 (by rw [exT_t c_1]) (Nat.le_of_ble_eq_true rfl) (Nat.le_of_ble_eq_true rfl) rfl rfl
  · skip
    exact z_throw hx hb hfl hml hown hts hlk htab hE hK hP hD hS hl.1 zThr_IS (List.mem_of_getElem? (i := 13) rfl) dX7_undo_10 dX7_undo_13 dX7_undo_14 dX7_undo_16 dX7_undo_19 ⟨Nat.le_of_ble_eq_true rfl, Nat.le_of_ble_eq_true rfl, Nat.le_of_ble_eq_true rfl, Nat.le_of_ble_eq_true rfl⟩ (Nat.le_of_ble_eq_true rfl) (Nat.le_of_ble_eq_true rfl) (by exact exT_f (fun h => h c_1)) rfl
