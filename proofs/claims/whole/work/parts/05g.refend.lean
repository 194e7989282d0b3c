def jsR (f t : Nat → Int32) : Nat → Int32
  | 0 => 0
  | i + 1 => jsR f t i + rCamsN (cpF 16 f t (i + 1)) i 16
def rpsF (f t : Nat → Int32) (m : Nat) : Nat → Int32 := emF (upd (upd (upd (cpF 16 f t 5) 0 (nI m)) 1 0) 2 0)
theorem zU0_self {G : Nat → Nat → Int32} {g1 : Nat → Int32} : zU (zU G 0 (G 0)) 1 g1 = zU G 1 g1 := by rw [zU_self]
def rhsI (f : Nat → Int32) (st : Nat) (h : Int64) : Nat → Int64
  | 0 => h
  | c + 1 => hW (hW (rhsI f st h c) (bI (rHas f c (nI st)))) (f (63 + 16 * c + st))
def rhsO (f : Nat → Int32) (h : Int64) : Nat → Int64
  | 0 => h
  | st + 1 => rhsI f st (hW (rhsO f h st) (f (143 + st))) 5
def rdgC (f : Nat → Int32) (h : Int64) : Nat → Int64
  | 0 => h
  | j + 1 => hW (rdgC f h j) (rcyl f (j / 8) (j % 8))
def rdgG (f : Nat → Int32) (h : Int64) : Nat → Int64
  | 0 => h
  | j + 1 => hW (rdgG f h j) (rgrd f (j / 4) (j % 4))
def rdig (q : zTq) (n0 gn : Nat) (len sv : Int32) : Int64 := hW (hW (rhsO q.1 (rdgG q.1 (rdgC q.1 (dgN q.1 (107477 + len.toInt64) 16) 40) (4 * gn)) n0) (rtcR q)) sv
set_option maxHeartbeats 4000000 in
set_option maxRecDepth 100000 in
theorem c_X8_readsText (l : Launch) (D : va_G) (cs : zCs) (a : Nat → Nat) (V : Nat → Int32) (G : Nat → Nat → Int32) (L n0 : Nat) (h4 : V 4 = nI L) (hL : L ≤ 100) (h0 : G 0 0 = nI n0) (h16 : n0 ≤ 16) : zM l D cs yX8_readsText cX8_readsText 2 (some FieldType.boolean) 3 64 0 0 [.ref (a 0)] (refW cs a V G) (some (.int (bI ((rwZ (G 4) L n0).1 = 1)))) (refW cs a (upd (upd V 5 (nI (rwZ (G 4) L n0).2.1)) 6 (nI (rtm (G 4) L n0))) (zU G 5 ((rwZ (G 4) L n0).2.2))) := by
  refine zM.of (own := RX8) (by decide) (Nat.le_of_ble_eq_true rfl) rfl ?_
  intro pq eq s mq below meth cq A ls hx hb hr hml hown hts hlk hnm hE hK hA hP hD hS hl
  have hl : lv_has ls 2 [(0, .ref (a 0))] := hl
  have hm16 := (rt0_n (f := G 4) (L := L) h16).2
  refine lv_aload_n hx hb dX8_readsText_0 rfl (lv_at hl 0 rfl) ?_
  refine lv_iconst (v := 0) hx hb dX8_readsText_1 (by decide) ?_
  refine va_put (D := D) (ci := 8) (v := .int 0) (C := RX8) (T := TX8) (N := 13) hx hb hts wsI_X8 tyX8 tyX8_ok nmX8 hown hK hP hD hS 0 rfl rfl 10 (by decide) (hts _ w_fl_X8_160) (fun _ h9 => h9) rfl (tyX8_ok 10 (by decide)) rfl rfl (Nat.le_of_ble_eq_true rfl) dX8_readsText_2 (fun H locs hP hD hS => ?_)
  have hP : va_P D vwCl (refW cs a (upd V 5 0) G) H := hP
  have hD : va_D A (refW cs a (upd V 5 0) G) := hD
  refine lv_aload_n hx hb dX8_readsText_5 rfl (lv_at hl 0 rfl) ?_
  refine lv_aload_n hx hb dX8_readsText_6 rfl (lv_at hl 0 rfl) ?_
  refine va_get (D := D) (ci := 8) (v := .ref (a 1)) (C := RX8) (T := TX8) (N := 13) hx hb hts wsI_X8 hown hK hP 0 rfl rfl 0 (by decide) (hts _ w_fl_X8_7) (fun _ h9 => h9) rfl dX8_readsText_7 ?_
  refine lv_iconst (v := 0) hx hb dX8_readsText_10 (by decide) ?_
  refine z_iald (k := 0) hx hb hK hP 1 rfl (by decide) (by first | decide | omega) dX8_readsText_11 ?_
  refine z_top (y := nI n0) h0 ?_
  refine va_put (D := D) (ci := 8) (v := .int (nI n0)) (C := RX8) (T := TX8) (N := 13) hx hb hts wsI_X8 tyX8 tyX8_ok nmX8 hown hK hP hD hS 0 rfl rfl 12 (by decide) (hts _ w_fl_X8_174) (fun _ h9 => h9) rfl (tyX8_ok 12 (by decide)) rfl rfl (Nat.le_of_ble_eq_true rfl) dX8_readsText_12 (fun H locs hP hD hS => ?_)
  have hP : va_P D vwCl (refW cs a (upd (upd V 5 0) 6 (nI n0)) G) H := hP
  have hD : va_D A (refW cs a (upd (upd V 5 0) 6 (nI n0)) G) := hD
  refine lv_iconst (v := 0) hx hb dX8_readsText_15 (by decide) ?_
  refine lv_istore_n (lv' := [(1, .int 0), (0, .ref (a 0))]) hx hb dX8_readsText_16 rfl hl (by decide) rfl (fun ls hl => ?_)
  have lp17 : ∀ (k : Nat) (i : Nat), (i ≤ 5) → (5 + 1 ≤ i + k) → ∀ (H : Heap) (locs : List Loc) (ls : Array Slot), va_P D vwCl (refW cs a (upd (upd V 5 0) 6 (nI n0)) (zU G 5 (cpF 0 (G 5) (fun _ => 0) i))) H → va_D A (refW cs a (upd (upd V 5 0) 6 (nI n0)) (zU G 5 (cpF 0 (G 5) (fun _ => 0) i))) → va_S A s.heap H locs → lv_has ls 2 [(0, .ref (a 0)), (1, .int (nI i))] → W pq l eq ({ frames := 3, cells := 0, slots := 0, locals := 64 } : Room) s mq ([.ref (a 0)] : List Value).toArray below meth cq H locs 0 0 (MQ below (zQ D cs (some (.int (bI ((rwZ (G 4) L n0).1 = 1)))) (refW cs a (upd (upd V 5 (nI (rwZ (G 4) L n0).2.1)) 6 (nI (rtm (G 4) L n0))) (zU G 5 ((rwZ (G 4) L n0).2.2))) A) ([.ref (a 0)] : List Value).toArray s 0 0 A) (F0 mq 17 ls []) := by
    intro k
    induction k with
    | zero =>
      intro i hi1 hi2 H locs ls hP hD hS hl
      omega
    | succ k ih =>
      intro i hi1 hi2 H locs ls hP hD hS hl
      refine lv_iload_n hx hb dX8_readsText_17 rfl (lv_at hl 1 rfl) ?_
      refine lv_iconst (v := 5) hx hb dX8_readsText_18 (by decide) ?_
      refine lv_icmp_ge (tgt := 35) hx hb dX8_readsText_19 (by decide) (fun c_1 => ?_) (fun c_1 => ?_)
      · skip
        have ei := z_leK (n := 5) rfl (by omega) hi1 c_1
        subst ei
        have hP := z_extR5 (g := fun _ => 0) hP (fun j hj => cp_in0 (g := G 5) (f := fun _ => 0) hj)
        rw [zU_zU] at hP
        have hD : va_D A (refW cs a (upd (upd V 5 0) 6 (nI n0)) (zU G 5 (fun _ => 0))) := z_extDR hD
        have lp57 : ∀ (k5 : Nat) (z : zKt), (rwL (G 4) L (rtm (G 4) L n0) k5 z = (rwZ (G 4) L n0)) → (z.1 = 0 ∨ 102 ≤ z.2.1 + k5) → (1 ≤ k5) → (z.2.1 ≤ 200) → (z.1 = 0 ∨ z.1 = 1) → ∀ (H : Heap) (locs : List Loc) (ls : Array Slot), va_P D vwCl (refW cs a (upd (upd V 5 (nI z.2.1)) 6 (nI (rtm (G 4) L n0))) (zU G 5 z.2.2)) H → va_D A (refW cs a (upd (upd V 5 (nI z.2.1)) 6 (nI (rtm (G 4) L n0))) (zU G 5 z.2.2)) → va_S A s.heap H locs → lv_has ls 2 [(0, .ref (a 0)), (1, .int z.1)] → W pq l eq ({ frames := 3, cells := 0, slots := 0, locals := 64 } : Room) s mq ([.ref (a 0)] : List Value).toArray below meth cq H locs 0 0 (MQ below (zQ D cs (some (.int (bI ((rwZ (G 4) L n0).1 = 1)))) (refW cs a (upd (upd V 5 (nI (rwZ (G 4) L n0).2.1)) 6 (nI (rtm (G 4) L n0))) (zU G 5 ((rwZ (G 4) L n0).2.2))) A) ([.ref (a 0)] : List Value).toArray s 0 0 A) (F0 mq 57 ls []) := by
          intro k5
          induction k5 with
          | zero =>
            intro z h2 h3 hk1 h5 h6 H locs ls hP hD hS hl
            omega
          | succ k5 ih5 =>
            intro z h2 h3 hk1 h5 h6 H locs ls hP hD hS hl
            refine lv_iload_n hx hb dX8_readsText_57 rfl (lv_at hl 1 rfl) ?_
            refine lv_if_eq (tgt := 80) hx hb dX8_readsText_58 (by decide) (fun c_2 => ?_) (fun c_2 => ?_)
            · skip
              have eZ : (rwZ (G 4) L n0) = z := by rw [← h2]; exact if_pos c_2
              refine lv_iload_n hx hb dX8_readsText_80 rfl (lv_at hl 1 rfl) ?_
              refine z_top (y := bI (z.1 = 1)) (z_b01 h6) ?_
              exact z_zret hx hb hr hlk hK hP hD hS dX8_readsText_81 bI_nar (by rw [eZ]) (by rw [eZ])
            · skip
              refine lv_aload_n hx hb dX8_readsText_61 rfl (lv_at hl 0 rfl) ?_
              refine va_get (D := D) (ci := 8) (v := .int (nI z.2.1)) (C := RX8) (T := TX8) (N := 13) hx hb hts wsI_X8 hown hK hP 0 rfl rfl 10 (by decide) (hts _ w_fl_X8_160) (fun _ h9 => h9) rfl dX8_readsText_62 ?_
              refine lv_aload_n hx hb dX8_readsText_65 rfl (lv_at hl 0 rfl) ?_
              refine va_get (D := D) (ci := 8) (v := .int (V 4)) (C := RX8) (T := TX8) (N := 13) hx hb hts wsI_X8 hown hK hP 0 rfl rfl 9 (by decide) (hts _ w_fl_X8_157) (fun _ h9 => h9) rfl dX8_readsText_66 ?_
              refine z_top (y := nI L) h4 ?_
              refine lv_icmp_ge (tgt := 80) hx hb dX8_readsText_69 (by decide) (fun c_3 => ?_) (fun c_3 => ?_)
              · skip
                have h7 : ¬ z.2.1 < L := fun h => absurd ((nI_leI (by omega) (by omega)).mp c_3) (by omega)
                have eZ : (rwZ (G 4) L n0) = z := by rw [← h2]; exact (if_neg c_2).trans (if_neg h7)
                refine lv_iload_n hx hb dX8_readsText_80 rfl (lv_at hl 1 rfl) ?_
                refine z_top (y := bI (z.1 = 1)) (z_b01 h6) ?_
                exact z_zret hx hb hr hlk hK hP hD hS dX8_readsText_81 bI_nar (by rw [eZ]) (by rw [eZ])
              · skip
                have h7 : z.2.1 < L := Nat.lt_of_not_le (fun h => c_3 ((nI_leI (by omega) (by omega)).mpr h))
                refine lv_aload_n hx hb dX8_readsText_72 rfl (lv_at hl 0 rfl) ?_
                refine z_callV (wn := (refW cs a (upd (upd V 5 (nI (rkR (G 4) L (rtm (G 4) L n0) z.2.1 z.2.2).2.1)) 6 (nI (rtm (G 4) L n0))) (zU G 5 ((rkR (G 4) L (rtm (G 4) L n0) z.2.1 z.2.2).2.2)))) ⟨hx, hb, hml, hown, hts⟩ zY_X8_readsTrack w_im_yX8_readsTrack w_se_yX8_readsTrack w_ml_X8_185 [] [] (c_X8_readsTrack l D cs a (upd (upd V 5 (nI z.2.1)) 6 (nI (rtm (G 4) L n0))) (zU G 5 z.2.2) z.2.1 L (rtm (G 4) L n0) rfl h4 rfl hL hm16 (by omega)) hE hK hA hP hD hS [0, 1, 2, 3, 4, 5, 6] rfl rfl rfl rfl 8 rfl rfl rfl rfl hl.1 (Nat.le_of_ble_eq_true rfl) ⟨Nat.le_of_ble_eq_true rfl, Nat.le_of_ble_eq_true rfl⟩ ⟨Nat.le_of_ble_eq_true rfl, Nat.le_of_ble_eq_true rfl⟩ dX8_readsText_73 (fun H locs hP hD hS => ?_)
                refine lv_istore_n (lv' := [(1, .int ((rkR (G 4) L (rtm (G 4) L n0) z.2.1 z.2.2).1)), (0, .ref (a 0))]) hx hb dX8_readsText_76 rfl hl (by decide) rfl (fun ls hl => ?_)
                refine lv_goto (tgt := 57) hx hb dX8_readsText_77 (by decide) ?_
                exact ih5 (rkR (G 4) L (rtm (G 4) L n0) z.2.1 z.2.2) (by rw [← h2]; exact ((if_neg c_2).trans (if_pos h7)).symm) (by by_cases h9 : (rkR (G 4) L (rtm (G 4) L n0) z.2.1 z.2.2).1 = 0; exact Or.inl h9; exact Or.inr (by have h8 := rkR_up h9; have h9 := h3.resolve_left c_2; omega)) (by have h9 := h3.resolve_left c_2; omega) (by have h8 := rkR_le (f := G 4) (L := L) (m := (rtm (G 4) L n0)) (p := z.2.1) (t := z.2.2); omega) rkR_01 _ _ _ hP hD hS (lv_sub hl [1, 0] rfl)
        refine lv_aload_n hx hb dX8_readsText_35 rfl (lv_at hl 0 rfl) ?_
        refine lv_bipush (v := 110) hx hb dX8_readsText_36 (by decide) ?_
        refine z_callV (wn := (refW cs a (upd (upd V 5 (nI (psA (G 4) L 0 110))) 6 (nI n0)) (zU G 5 (fun _ => 0)))) ⟨hx, hb, hml, hown, hts⟩ zY_X8_passesByte w_im_yX8_passesByte w_se_yX8_passesByte w_ml_X8_177 [.int 110] [] (c_X8_passesByte l D cs a (upd (upd V 5 0) 6 (nI n0)) (zU G 5 (fun _ => 0)) 0 L 110 rfl h4 hL (by omega)) hE hK hA hP hD hS [0, 1, 2, 3, 4, 5, 6] rfl rfl rfl rfl 8 rfl rfl rfl rfl hl.1 (Nat.le_of_ble_eq_true rfl) ⟨Nat.le_of_ble_eq_true rfl, Nat.le_of_ble_eq_true rfl⟩ ⟨Nat.le_of_ble_eq_true rfl, Nat.le_of_ble_eq_true rfl⟩ dX8_readsText_38 (fun H locs hP hD hS => ?_)
        refine lv_if_eq (tgt := 51) hx hb dX8_readsText_41 (by decide) (fun c_4 => ?_) (fun c_4 => ?_)
        · skip
          have c_4 := bI_0.mp c_4
          refine lv_iconst (v := 1) hx hb dX8_readsText_51 (by decide) ?_
          refine lv_goto (tgt := 56) hx hb dX8_readsText_52 (by decide) ?_
          refine lv_istore_n (lv' := [(1, .int 1), (0, .ref (a 0))]) hx hb dX8_readsText_56 rfl hl (by decide) rfl (fun ls hl => ?_)
          have eT : (rt0 (G 4) L n0) = (1, 0, nI n0) := if_neg c_4
          have eM : nI n0 = nI (rtm (G 4) L n0) := by rw [← (rt0_n (f := G 4) (L := L) h16).1, eT]
          rw [show psA (G 4) L 0 110 = 0 from if_neg c_4, eM] at hP hD
          exact lp57 102 (1, 0, fun _ => 0) (by unfold rwZ; rw [eT]) (Or.inr (by dsimp only; omega)) (by decide) (by show 0 ≤ 200; omega) (Or.inr rfl) _ _ _ hP hD hS (lv_sub hl [1, 0] rfl)
        · skip
          have c_4 := bI_n0 c_4
          rw [show psA (G 4) L 0 110 = 1 from if_pos c_4] at hP hD
          refine lv_aload_n hx hb dX8_readsText_44 rfl (lv_at hl 0 rfl) ?_
          refine z_callV (wn := (refW cs a (upd (upd V 5 (nI (rzR (G 4) L 1 (nI n0)).2.1)) 6 ((rzR (G 4) L 1 (nI n0)).2.2)) (zU G 5 (fun _ => 0)))) ⟨hx, hb, hml, hown, hts⟩ zY_X8_readsSteps w_im_yX8_readsSteps w_se_yX8_readsSteps w_ml_X8_182 [] [] (c_X8_readsSteps l D cs a (upd (upd V 5 (nI 1)) 6 (nI n0)) (zU G 5 (fun _ => 0)) 1 L rfl h4 hL (by omega)) hE hK hA hP hD hS [0, 1, 2, 3, 4, 5, 6] rfl rfl rfl rfl 8 rfl rfl rfl rfl hl.1 (Nat.le_of_ble_eq_true rfl) ⟨Nat.le_of_ble_eq_true rfl, Nat.le_of_ble_eq_true rfl⟩ ⟨Nat.le_of_ble_eq_true rfl, Nat.le_of_ble_eq_true rfl⟩ dX8_readsText_45 (fun H locs hP hD hS => ?_)
          refine lv_if_eq (tgt := 55) hx hb dX8_readsText_48 (by decide) (fun c_5 => ?_) (fun c_5 => ?_)
          · skip
            refine lv_iconst (v := 0) hx hb dX8_readsText_55 (by decide) ?_
            refine z_top (y := if (rzR (G 4) L 1 (nI n0)).1 = 0 then 0 else 1) (if_pos c_5).symm ?_
            refine lv_istore_n (lv' := [(1, .int (if (rzR (G 4) L 1 (nI n0)).1 = 0 then 0 else 1)), (0, .ref (a 0))]) hx hb dX8_readsText_56 rfl hl (by decide) rfl (fun ls hl => ?_)
            have eT : (rt0 (G 4) L n0) = ((if (rzR (G 4) L 1 (nI n0)).1 = 0 then 0 else 1 : Int32), (rzR (G 4) L 1 (nI n0)).2) := if_pos c_4
            have eM : (rzR (G 4) L 1 (nI n0)).2.2 = nI (rtm (G 4) L n0) := by rw [← (rt0_n (f := G 4) (L := L) h16).1, eT]
            rw [eM] at hP hD
            have hz9 := rzR_le (f := G 4) (L := L) (p := 1) (st := nI n0)
            exact lp57 102 ((if (rzR (G 4) L 1 (nI n0)).1 = 0 then 0 else 1 : Int32), (rzR (G 4) L 1 (nI n0)).2.1, fun _ => 0) (by unfold rwZ; rw [eT]) (Or.inr (by dsimp only; omega)) (by decide) (by dsimp only; omega) (by by_cases h9 : (rzR (G 4) L 1 (nI n0)).1 = 0; exact Or.inl (if_pos h9); exact Or.inr (if_neg h9)) _ _ _ hP hD hS (lv_sub hl [1, 0] rfl)
          · skip
            refine lv_iconst (v := 1) hx hb dX8_readsText_51 (by decide) ?_
            refine lv_goto (tgt := 56) hx hb dX8_readsText_52 (by decide) ?_
            refine z_top (y := if (rzR (G 4) L 1 (nI n0)).1 = 0 then 0 else 1) (if_neg c_5).symm ?_
            refine lv_istore_n (lv' := [(1, .int (if (rzR (G 4) L 1 (nI n0)).1 = 0 then 0 else 1)), (0, .ref (a 0))]) hx hb dX8_readsText_56 rfl hl (by decide) rfl (fun ls hl => ?_)
            have eT : (rt0 (G 4) L n0) = ((if (rzR (G 4) L 1 (nI n0)).1 = 0 then 0 else 1 : Int32), (rzR (G 4) L 1 (nI n0)).2) := if_pos c_4
            have eM : (rzR (G 4) L 1 (nI n0)).2.2 = nI (rtm (G 4) L n0) := by rw [← (rt0_n (f := G 4) (L := L) h16).1, eT]
            rw [eM] at hP hD
            have hz9 := rzR_le (f := G 4) (L := L) (p := 1) (st := nI n0)
            exact lp57 102 ((if (rzR (G 4) L 1 (nI n0)).1 = 0 then 0 else 1 : Int32), (rzR (G 4) L 1 (nI n0)).2.1, fun _ => 0) (by unfold rwZ; rw [eT]) (Or.inr (by dsimp only; omega)) (by decide) (by dsimp only; omega) (by by_cases h9 : (rzR (G 4) L 1 (nI n0)).1 = 0; exact Or.inl (if_pos h9); exact Or.inr (if_neg h9)) _ _ _ hP hD hS (lv_sub hl [1, 0] rfl)
      · skip
        have gi : i < 5 := z_geK (n := 5) rfl (by omega) hi1 c_1
        refine lv_aload_n hx hb dX8_readsText_22 rfl (lv_at hl 0 rfl) ?_
        refine va_get (D := D) (ci := 8) (v := .ref (a 6)) (C := RX8) (T := TX8) (N := 13) hx hb hts wsI_X8 hown hK hP 0 rfl rfl 11 (by decide) (hts _ w_fl_X8_25) (fun _ h9 => h9) rfl dX8_readsText_23 ?_
        refine lv_iload_n hx hb dX8_readsText_26 rfl (lv_at hl 1 rfl) ?_
        refine lv_iconst (v := 0) hx hb dX8_readsText_27 (by decide) ?_
        refine z_iast (k := i) hx hb hK hP hD hS 6 rfl (by omega) (by first | decide | omega) dX8_readsText_28 (fun H locs hP hD hS => ?_)
        have hP : va_P D vwCl (refW cs a (upd (upd V 5 0) 6 (nI n0)) (zU G 5 (upd (cpF 0 (G 5) (fun _ => 0) i) i 0))) H := hP
        have hD : va_D A (refW cs a (upd (upd V 5 0) 6 (nI n0)) (zU G 5 (upd (cpF 0 (G 5) (fun _ => 0) i) i 0))) := hD
        refine lv_iinc (v := nI (i + 1)) (lv' := [(1, .int (nI (i + 1))), (0, .ref (a 0))]) hx hb dX8_readsText_29 hl (k := 1) rfl (show nI i + Int32.ofInt 1 = nI (i + 1) from nI_add i 1) (by decide) rfl (fun ls hl => ?_)
        refine lv_goto (tgt := 17) hx hb dX8_readsText_32 (by decide) ?_
        rw [cp_s0 (by rfl)] at hP hD
        exact ih (i + 1) (by omega) (by omega) _ _ _ hP hD hS (lv_sub hl [1, 0] rfl)
  have hP := z_eqP (w2 := (refW cs a (upd (upd V 5 0) 6 (nI n0)) (zU G 5 (cpF 0 (G 5) (fun _ => 0) 0)))) (by rw [cp_0, zU_self]; first | done | rfl) hP
  have hD : va_D A (refW cs a (upd (upd V 5 0) 6 (nI n0)) (zU G 5 (cpF 0 (G 5) (fun _ => 0) 0))) := z_eqD (by rw [cp_0, zU_self]; first | done | rfl) hD
  exact lp17 (5 + 1) 0 (Nat.zero_le _) (by omega) _ _ _ hP hD hS (lv_sub hl [1, 0] rfl)

set_option maxHeartbeats 4000000 in
set_option maxRecDepth 100000 in
theorem c_X8_parse_bad (l : Launch) (D : va_G) (cs : zCs) (a : Nat → Nat) (V : Nat → Int32) (G : Nat → Nat → Int32) (L n0 : Nat) (h4 : V 4 = nI L) (hL : L ≤ 100) (h0 : G 0 0 = nI n0) (h16 : n0 ≤ 16) (hbad : ¬ (rwZ (G 4) L n0).1 = 1) : zM l D cs yX8_parse cX8_parse 3 (some FieldType.int) 4 85 0 0 [.ref (a 0)] (refW cs a V G) (some (.int ((-10) - nI (rwZ (G 4) L n0).2.1))) (refW cs a (upd (upd (upd V 1 0) 5 (nI (rwZ (G 4) L n0).2.1)) 6 (nI (rtm (G 4) L n0))) (zU G 5 ((rwZ (G 4) L n0).2.2))) := by
  refine zM.of (own := RX8) (by decide) (Nat.le_of_ble_eq_true rfl) rfl ?_
  intro pq eq s mq below meth cq A ls hx hb hr hml hown hts hlk hnm hE hK hA hP hD hS hl
  have hl : lv_has ls 3 [(0, .ref (a 0))] := hl
  refine lv_aload_n hx hb dX8_parse_0 rfl (lv_at hl 0 rfl) ?_
  refine z_callV (wn := (refW cs a (upd (upd V 5 (nI (rwZ (G 4) L n0).2.1)) 6 (nI (rtm (G 4) L n0))) (zU G 5 ((rwZ (G 4) L n0).2.2)))) ⟨hx, hb, hml, hown, hts⟩ zY_X8_readsText w_im_yX8_readsText w_se_yX8_readsText w_ml_X8_188 [] [] (c_X8_readsText l D cs a V G L n0 h4 hL h0 h16) hE hK hA hP hD hS [0, 1, 2, 3, 4, 5, 6] rfl rfl rfl rfl 8 rfl rfl rfl rfl hl.1 (Nat.le_of_ble_eq_true rfl) ⟨Nat.le_of_ble_eq_true rfl, Nat.le_of_ble_eq_true rfl⟩ ⟨Nat.le_of_ble_eq_true rfl, Nat.le_of_ble_eq_true rfl⟩ dX8_parse_1 (fun H locs hP hD hS => ?_)
  refine lv_if_ne (tgt := 19) hx hb dX8_parse_4 (by decide) (fun c_1 => ?_) (fun c_1 => ?_)
  · skip
    have c_1 := bI_n0 c_1
    exact absurd c_1 hbad
  · skip
    have c_1 := bI_0.mp c_1
    refine lv_aload_n hx hb dX8_parse_7 rfl (lv_at hl 0 rfl) ?_
    refine lv_bipush (v := (-10)) hx hb dX8_parse_8 (by decide) ?_
    refine lv_aload_n hx hb dX8_parse_10 rfl (lv_at hl 0 rfl) ?_
    refine va_get (D := D) (ci := 8) (v := .int (nI (rwZ (G 4) L n0).2.1)) (C := RX8) (T := TX8) (N := 13) hx hb hts wsI_X8 hown hK hP 0 rfl rfl 10 (by decide) (hts _ w_fl_X8_160) (fun _ h9 => h9) rfl dX8_parse_11 ?_
    refine lv_isub hx hb dX8_parse_14 ?_
    refine z_callV (wn := (refW cs a (upd (upd (upd V 1 0) 5 (nI (rwZ (G 4) L n0).2.1)) 6 (nI (rtm (G 4) L n0))) (zU G 5 ((rwZ (G 4) L n0).2.2)))) ⟨hx, hb, hml, hown, hts⟩ zY_X8_fine w_im_yX8_fine w_se_yX8_fine w_ml_X8_65 [.int ((-10) - (nI (rwZ (G 4) L n0).2.1))] [] (c_X8_fine l D cs a (upd (upd V 5 (nI (rwZ (G 4) L n0).2.1)) 6 (nI (rtm (G 4) L n0))) (zU G 5 ((rwZ (G 4) L n0).2.2)) ((-10) - (nI (rwZ (G 4) L n0).2.1))) hE hK hA hP hD hS [0, 1, 2, 3, 4, 5, 6] rfl rfl rfl rfl 8 rfl rfl rfl rfl hl.1 (Nat.le_of_ble_eq_true rfl) ⟨Nat.le_of_ble_eq_true rfl, Nat.le_of_ble_eq_true rfl⟩ ⟨Nat.le_of_ble_eq_true rfl, Nat.le_of_ble_eq_true rfl⟩ dX8_parse_15 (fun H locs hP hD hS => ?_)
    exact z_iret hx hb hr hlk hK hP hD hS dX8_parse_18 rfl rfl

set_option maxHeartbeats 4000000 in
set_option maxRecDepth 100000 in
theorem c_X8_parse_ok (l : Launch) (D : va_G) (cs : zCs) (a : Nat → Nat) (V : Nat → Int32) (G : Nat → Nat → Int32) (sn : Nat) (L n0 : Nat) (hsn : V 0 = nI sn) (hs4 : sn ≤ 4) (h4 : V 4 = nI L) (hL : L ≤ 100) (h0 : G 0 0 = nI n0) (h16 : n0 ≤ 16) (hgood : (rwZ (G 4) L n0).1 = 1) : zM l D cs yX8_parse cX8_parse 3 (some FieldType.int) 4 85 0 0 [.ref (a 0)] (refW cs a V G) (some (.int (jsR (G 0) ((rwZ (G 4) L n0).2.2) 5))) (refW cs a (upd (upd (upd (upd V 0 (nI (min (sn + 1) 4))) 1 0) 5 (nI (rwZ (G 4) L n0).2.1)) 6 (nI (rtm (G 4) L n0))) (zU (zU (zU G 0 (rpsF (G 0) ((rwZ (G 4) L n0).2.2) (rtm (G 4) L n0))) 1 (svF sn (G 1) (G 0))) 5 ((rwZ (G 4) L n0).2.2))) := by
  refine zM.of (own := RX8) (by decide) (Nat.le_of_ble_eq_true rfl) rfl ?_
  intro pq eq s mq below meth cq A ls hx hb hr hml hown hts hlk hnm hE hK hA hP hD hS hl
  have hl : lv_has ls 3 [(0, .ref (a 0))] := hl
  refine lv_aload_n hx hb dX8_parse_0 rfl (lv_at hl 0 rfl) ?_
  refine z_callV (wn := (refW cs a (upd (upd V 5 (nI (rwZ (G 4) L n0).2.1)) 6 (nI (rtm (G 4) L n0))) (zU G 5 ((rwZ (G 4) L n0).2.2)))) ⟨hx, hb, hml, hown, hts⟩ zY_X8_readsText w_im_yX8_readsText w_se_yX8_readsText w_ml_X8_188 [] [] (c_X8_readsText l D cs a V G L n0 h4 hL h0 h16) hE hK hA hP hD hS [0, 1, 2, 3, 4, 5, 6] rfl rfl rfl rfl 8 rfl rfl rfl rfl hl.1 (Nat.le_of_ble_eq_true rfl) ⟨Nat.le_of_ble_eq_true rfl, Nat.le_of_ble_eq_true rfl⟩ ⟨Nat.le_of_ble_eq_true rfl, Nat.le_of_ble_eq_true rfl⟩ dX8_parse_1 (fun H locs hP hD hS => ?_)
  refine lv_if_ne (tgt := 19) hx hb dX8_parse_4 (by decide) (fun c_1 => ?_) (fun c_1 => ?_)
  · skip
    have c_1 := bI_n0 c_1
    refine lv_aload_n hx hb dX8_parse_19 rfl (lv_at hl 0 rfl) ?_
    refine z_callV (wn := (refW cs a (upd (upd (upd V 0 (nI (min (sn + 1) 4))) 5 (nI (rwZ (G 4) L n0).2.1)) 6 (nI (rtm (G 4) L n0))) (zU (zU G 1 (svF sn (G 1) (G 0))) 5 ((rwZ (G 4) L n0).2.2)))) ⟨hx, hb, hml, hown, hts⟩ zY_X8_save w_im_yX8_save w_se_yX8_save w_ml_X8_59 [] [] (c_X8_save l D cs a (upd (upd V 5 (nI (rwZ (G 4) L n0).2.1)) 6 (nI (rtm (G 4) L n0))) (zU G 5 ((rwZ (G 4) L n0).2.2)) sn hsn hs4) hE hK hA hP hD hS [0, 1, 2, 3, 4, 5, 6] rfl rfl rfl rfl 8 rfl rfl rfl rfl hl.1 (Nat.le_of_ble_eq_true rfl) ⟨Nat.le_of_ble_eq_true rfl, Nat.le_of_ble_eq_true rfl⟩ ⟨Nat.le_of_ble_eq_true rfl, Nat.le_of_ble_eq_true rfl⟩ dX8_parse_20 (fun H locs hP hD hS => ?_)
    refine lv_iconst (v := 0) hx hb dX8_parse_23 (by decide) ?_
    refine lv_istore_n (lv' := [(1, .int 0), (0, .ref (a 0))]) hx hb dX8_parse_24 rfl hl (by decide) rfl (fun ls hl => ?_)
    refine lv_iconst (v := 0) hx hb dX8_parse_25 (by decide) ?_
    refine lv_istore_n (lv' := [(2, .int 0), (1, .int 0), (0, .ref (a 0))]) hx hb dX8_parse_26 rfl hl (by decide) rfl (fun ls hl => ?_)
    have lp27 : ∀ (k : Nat) (i : Nat), (i ≤ 5) → (5 + 1 ≤ i + k) → ∀ (H : Heap) (locs : List Loc) (ls : Array Slot), va_P D vwCl (refW cs a (upd (upd (upd V 0 (nI (min (sn + 1) 4))) 5 (nI (rwZ (G 4) L n0).2.1)) 6 (nI (rtm (G 4) L n0))) (zU (zU (zU G 0 (cpF 16 (G 0) ((rwZ (G 4) L n0).2.2) i)) 1 (svF sn (G 1) (G 0))) 5 ((rwZ (G 4) L n0).2.2))) H → va_D A (refW cs a (upd (upd (upd V 0 (nI (min (sn + 1) 4))) 5 (nI (rwZ (G 4) L n0).2.1)) 6 (nI (rtm (G 4) L n0))) (zU (zU (zU G 0 (cpF 16 (G 0) ((rwZ (G 4) L n0).2.2) i)) 1 (svF sn (G 1) (G 0))) 5 ((rwZ (G 4) L n0).2.2))) → va_S A s.heap H locs → lv_has ls 3 [(0, .ref (a 0)), (1, .int (jsR (G 0) ((rwZ (G 4) L n0).2.2) i)), (2, .int (nI i))] → W pq l eq ({ frames := 4, cells := 0, slots := 0, locals := 85 } : Room) s mq ([.ref (a 0)] : List Value).toArray below meth cq H locs 0 0 (MQ below (zQ D cs (some (.int (jsR (G 0) ((rwZ (G 4) L n0).2.2) 5))) (refW cs a (upd (upd (upd (upd V 0 (nI (min (sn + 1) 4))) 1 0) 5 (nI (rwZ (G 4) L n0).2.1)) 6 (nI (rtm (G 4) L n0))) (zU (zU (zU G 0 (rpsF (G 0) ((rwZ (G 4) L n0).2.2) (rtm (G 4) L n0))) 1 (svF sn (G 1) (G 0))) 5 ((rwZ (G 4) L n0).2.2))) A) ([.ref (a 0)] : List Value).toArray s 0 0 A) (F0 mq 27 ls []) := by
      intro k
      induction k with
      | zero =>
        intro i hi1 hi2 H locs ls hP hD hS hl
        omega
      | succ k ih =>
        intro i hi1 hi2 H locs ls hP hD hS hl
        refine lv_iload_n hx hb dX8_parse_27 rfl (lv_at hl 2 rfl) ?_
        refine lv_iconst (v := 5) hx hb dX8_parse_28 (by decide) ?_
        refine lv_icmp_ge (tgt := 61) hx hb dX8_parse_29 (by decide) (fun c_2 => ?_) (fun c_2 => ?_)
        · skip
          have ei := z_leK (n := 5) rfl (by omega) hi1 c_2
          subst ei
          refine lv_aload_n hx hb dX8_parse_61 rfl (lv_at hl 0 rfl) ?_
          refine va_get (D := D) (ci := 8) (v := .ref (a 1)) (C := RX8) (T := TX8) (N := 13) hx hb hts wsI_X8 hown hK hP 0 rfl rfl 0 (by decide) (hts _ w_fl_X8_7) (fun _ h9 => h9) rfl dX8_parse_62 ?_
          refine lv_iconst (v := 0) hx hb dX8_parse_65 (by decide) ?_
          refine lv_aload_n hx hb dX8_parse_66 rfl (lv_at hl 0 rfl) ?_
          refine va_get (D := D) (ci := 8) (v := .int (nI (rtm (G 4) L n0))) (C := RX8) (T := TX8) (N := 13) hx hb hts wsI_X8 hown hK hP 0 rfl rfl 12 (by decide) (hts _ w_fl_X8_174) (fun _ h9 => h9) rfl dX8_parse_67 ?_
          refine z_iast (k := 0) hx hb hK hP hD hS 1 rfl (by decide) (by first | decide | omega) dX8_parse_70 (fun H locs hP hD hS => ?_)
          have hP : va_P D vwCl (refW cs a (upd (upd (upd V 0 (nI (min (sn + 1) 4))) 5 (nI (rwZ (G 4) L n0).2.1)) 6 (nI (rtm (G 4) L n0))) (zU (zU (zU G 0 (upd (cpF 16 (G 0) ((rwZ (G 4) L n0).2.2) 5) 0 (nI (rtm (G 4) L n0)))) 1 (svF sn (G 1) (G 0))) 5 ((rwZ (G 4) L n0).2.2))) H := hP
          have hD : va_D A (refW cs a (upd (upd (upd V 0 (nI (min (sn + 1) 4))) 5 (nI (rwZ (G 4) L n0).2.1)) 6 (nI (rtm (G 4) L n0))) (zU (zU (zU G 0 (upd (cpF 16 (G 0) ((rwZ (G 4) L n0).2.2) 5) 0 (nI (rtm (G 4) L n0)))) 1 (svF sn (G 1) (G 0))) 5 ((rwZ (G 4) L n0).2.2))) := hD
          refine lv_aload_n hx hb dX8_parse_71 rfl (lv_at hl 0 rfl) ?_
          refine va_get (D := D) (ci := 8) (v := .ref (a 1)) (C := RX8) (T := TX8) (N := 13) hx hb hts wsI_X8 hown hK hP 0 rfl rfl 0 (by decide) (hts _ w_fl_X8_7) (fun _ h9 => h9) rfl dX8_parse_72 ?_
          refine lv_iconst (v := 1) hx hb dX8_parse_75 (by decide) ?_
          refine lv_iconst (v := 0) hx hb dX8_parse_76 (by decide) ?_
          refine z_iast (k := 1) hx hb hK hP hD hS 1 rfl (by decide) (by first | decide | omega) dX8_parse_77 (fun H locs hP hD hS => ?_)
          have hP : va_P D vwCl (refW cs a (upd (upd (upd V 0 (nI (min (sn + 1) 4))) 5 (nI (rwZ (G 4) L n0).2.1)) 6 (nI (rtm (G 4) L n0))) (zU (zU (zU G 0 (upd (upd (cpF 16 (G 0) ((rwZ (G 4) L n0).2.2) 5) 0 (nI (rtm (G 4) L n0))) 1 0)) 1 (svF sn (G 1) (G 0))) 5 ((rwZ (G 4) L n0).2.2))) H := hP
          have hD : va_D A (refW cs a (upd (upd (upd V 0 (nI (min (sn + 1) 4))) 5 (nI (rwZ (G 4) L n0).2.1)) 6 (nI (rtm (G 4) L n0))) (zU (zU (zU G 0 (upd (upd (cpF 16 (G 0) ((rwZ (G 4) L n0).2.2) 5) 0 (nI (rtm (G 4) L n0))) 1 0)) 1 (svF sn (G 1) (G 0))) 5 ((rwZ (G 4) L n0).2.2))) := hD
          refine lv_aload_n hx hb dX8_parse_78 rfl (lv_at hl 0 rfl) ?_
          refine va_get (D := D) (ci := 8) (v := .ref (a 1)) (C := RX8) (T := TX8) (N := 13) hx hb hts wsI_X8 hown hK hP 0 rfl rfl 0 (by decide) (hts _ w_fl_X8_7) (fun _ h9 => h9) rfl dX8_parse_79 ?_
          refine lv_iconst (v := 2) hx hb dX8_parse_82 (by decide) ?_
          refine lv_iconst (v := 0) hx hb dX8_parse_83 (by decide) ?_
          refine z_iast (k := 2) hx hb hK hP hD hS 1 rfl (by decide) (by first | decide | omega) dX8_parse_84 (fun H locs hP hD hS => ?_)
          have hP : va_P D vwCl (refW cs a (upd (upd (upd V 0 (nI (min (sn + 1) 4))) 5 (nI (rwZ (G 4) L n0).2.1)) 6 (nI (rtm (G 4) L n0))) (zU (zU (zU G 0 (upd (upd (upd (cpF 16 (G 0) ((rwZ (G 4) L n0).2.2) 5) 0 (nI (rtm (G 4) L n0))) 1 0) 2 0)) 1 (svF sn (G 1) (G 0))) 5 ((rwZ (G 4) L n0).2.2))) H := hP
          have hD : va_D A (refW cs a (upd (upd (upd V 0 (nI (min (sn + 1) 4))) 5 (nI (rwZ (G 4) L n0).2.1)) 6 (nI (rtm (G 4) L n0))) (zU (zU (zU G 0 (upd (upd (upd (cpF 16 (G 0) ((rwZ (G 4) L n0).2.2) 5) 0 (nI (rtm (G 4) L n0))) 1 0) 2 0)) 1 (svF sn (G 1) (G 0))) 5 ((rwZ (G 4) L n0).2.2))) := hD
          refine lv_aload_n hx hb dX8_parse_85 rfl (lv_at hl 0 rfl) ?_
          refine z_callV (wn := (refW cs a (upd (upd (upd V 0 (nI (min (sn + 1) 4))) 5 (nI (rwZ (G 4) L n0).2.1)) 6 (nI (rtm (G 4) L n0))) (zU (zU (zU G 0 (emF (upd (upd (upd (cpF 16 (G 0) ((rwZ (G 4) L n0).2.2) 5) 0 (nI (rtm (G 4) L n0))) 1 0) 2 0))) 1 (svF sn (G 1) (G 0))) 5 ((rwZ (G 4) L n0).2.2)))) ⟨hx, hb, hml, hown, hts⟩ zY_X8_empties w_im_yX8_empties w_se_yX8_empties w_ml_X8_28 [] [] (c_X8_empties l D cs a (upd (upd (upd V 0 (nI (min (sn + 1) 4))) 5 (nI (rwZ (G 4) L n0).2.1)) 6 (nI (rtm (G 4) L n0))) (zU (zU (zU G 0 (upd (upd (upd (cpF 16 (G 0) ((rwZ (G 4) L n0).2.2) 5) 0 (nI (rtm (G 4) L n0))) 1 0) 2 0)) 1 (svF sn (G 1) (G 0))) 5 ((rwZ (G 4) L n0).2.2))) hE hK hA hP hD hS [0, 1, 2, 3, 4, 5, 6] rfl rfl rfl rfl 8 rfl rfl rfl rfl hl.1 (Nat.le_of_ble_eq_true rfl) ⟨Nat.le_of_ble_eq_true rfl, Nat.le_of_ble_eq_true rfl⟩ ⟨Nat.le_of_ble_eq_true rfl, Nat.le_of_ble_eq_true rfl⟩ dX8_parse_86 (fun H locs hP hD hS => ?_)
          refine lv_aload_n hx hb dX8_parse_89 rfl (lv_at hl 0 rfl) ?_
          refine lv_iload_n hx hb dX8_parse_90 rfl (lv_at hl 1 rfl) ?_
          refine z_callV (wn := (refW cs a (upd (upd (upd (upd V 0 (nI (min (sn + 1) 4))) 1 0) 5 (nI (rwZ (G 4) L n0).2.1)) 6 (nI (rtm (G 4) L n0))) (zU (zU (zU G 0 (emF (upd (upd (upd (cpF 16 (G 0) ((rwZ (G 4) L n0).2.2) 5) 0 (nI (rtm (G 4) L n0))) 1 0) 2 0))) 1 (svF sn (G 1) (G 0))) 5 ((rwZ (G 4) L n0).2.2)))) ⟨hx, hb, hml, hown, hts⟩ zY_X8_fine w_im_yX8_fine w_se_yX8_fine w_ml_X8_65 [.int (jsR (G 0) ((rwZ (G 4) L n0).2.2) 5)] [] (c_X8_fine l D cs a (upd (upd (upd V 0 (nI (min (sn + 1) 4))) 5 (nI (rwZ (G 4) L n0).2.1)) 6 (nI (rtm (G 4) L n0))) (zU (zU (zU G 0 (emF (upd (upd (upd (cpF 16 (G 0) ((rwZ (G 4) L n0).2.2) 5) 0 (nI (rtm (G 4) L n0))) 1 0) 2 0))) 1 (svF sn (G 1) (G 0))) 5 ((rwZ (G 4) L n0).2.2)) (jsR (G 0) ((rwZ (G 4) L n0).2.2) 5)) hE hK hA hP hD hS [0, 1, 2, 3, 4, 5, 6] rfl rfl rfl rfl 8 rfl rfl rfl rfl hl.1 (Nat.le_of_ble_eq_true rfl) ⟨Nat.le_of_ble_eq_true rfl, Nat.le_of_ble_eq_true rfl⟩ ⟨Nat.le_of_ble_eq_true rfl, Nat.le_of_ble_eq_true rfl⟩ dX8_parse_91 (fun H locs hP hD hS => ?_)
          exact z_iret hx hb hr hlk hK hP hD hS dX8_parse_94 rfl rfl
        · skip
          have gi : i < 5 := z_geK (n := 5) rfl (by omega) hi1 c_2
          refine lv_aload_n hx hb dX8_parse_32 rfl (lv_at hl 0 rfl) ?_
          refine va_get (D := D) (ci := 8) (v := .ref (a 1)) (C := RX8) (T := TX8) (N := 13) hx hb hts wsI_X8 hown hK hP 0 rfl rfl 0 (by decide) (hts _ w_fl_X8_7) (fun _ h9 => h9) rfl dX8_parse_33 ?_
          refine lv_bipush (v := 16) hx hb dX8_parse_36 (by decide) ?_
          refine lv_iload_n hx hb dX8_parse_38 rfl (lv_at hl 2 rfl) ?_
          refine lv_iadd hx hb dX8_parse_39 ?_
          refine z_top (y := nI (16 + i)) (nI_add 16 i) ?_
          refine lv_aload_n hx hb dX8_parse_40 rfl (lv_at hl 0 rfl) ?_
          refine va_get (D := D) (ci := 8) (v := .ref (a 6)) (C := RX8) (T := TX8) (N := 13) hx hb hts wsI_X8 hown hK hP 0 rfl rfl 11 (by decide) (hts _ w_fl_X8_25) (fun _ h9 => h9) rfl dX8_parse_41 ?_
          refine lv_iload_n hx hb dX8_parse_44 rfl (lv_at hl 2 rfl) ?_
          refine z_iald (k := i) hx hb hK hP 6 rfl (by omega) (by first | decide | omega) dX8_parse_45 ?_
          refine z_iast (k := 16 + i) hx hb hK hP hD hS 1 rfl (by omega) (by first | decide | omega) dX8_parse_46 (fun H locs hP hD hS => ?_)
          have hP : va_P D vwCl (refW cs a (upd (upd (upd V 0 (nI (min (sn + 1) 4))) 5 (nI (rwZ (G 4) L n0).2.1)) 6 (nI (rtm (G 4) L n0))) (zU (zU (zU G 0 (upd (cpF 16 (G 0) ((rwZ (G 4) L n0).2.2) i) (16 + i) (((rwZ (G 4) L n0).2.2) i))) 1 (svF sn (G 1) (G 0))) 5 ((rwZ (G 4) L n0).2.2))) H := hP
          have hD : va_D A (refW cs a (upd (upd (upd V 0 (nI (min (sn + 1) 4))) 5 (nI (rwZ (G 4) L n0).2.1)) 6 (nI (rtm (G 4) L n0))) (zU (zU (zU G 0 (upd (cpF 16 (G 0) ((rwZ (G 4) L n0).2.2) i) (16 + i) (((rwZ (G 4) L n0).2.2) i))) 1 (svF sn (G 1) (G 0))) 5 ((rwZ (G 4) L n0).2.2))) := hD
          rw [cp_s rfl] at hP hD
          refine lv_iload_n hx hb dX8_parse_47 rfl (lv_at hl 1 rfl) ?_
          refine lv_aload_n hx hb dX8_parse_48 rfl (lv_at hl 0 rfl) ?_
          refine lv_iload_n hx hb dX8_parse_49 rfl (lv_at hl 2 rfl) ?_
          refine z_callV (wn := (refW cs a (upd (upd (upd V 0 (nI (min (sn + 1) 4))) 5 (nI (rwZ (G 4) L n0).2.1)) 6 (nI (rtm (G 4) L n0))) (zU (zU (zU G 0 (cpF 16 (G 0) ((rwZ (G 4) L n0).2.2) (i + 1))) 1 (svF sn (G 1) (G 0))) 5 ((rwZ (G 4) L n0).2.2)))) ⟨hx, hb, hml, hown, hts⟩ zY_X8_camsOf w_im_yX8_camsOf w_se_yX8_camsOf w_ml_X8_62 [.int (nI i)] [.int (jsR (G 0) ((rwZ (G 4) L n0).2.2) i)] (c_X8_camsOf l D cs a (upd (upd (upd V 0 (nI (min (sn + 1) 4))) 5 (nI (rwZ (G 4) L n0).2.1)) 6 (nI (rtm (G 4) L n0))) (zU (zU (zU G 0 (cpF 16 (G 0) ((rwZ (G 4) L n0).2.2) (i + 1))) 1 (svF sn (G 1) (G 0))) 5 ((rwZ (G 4) L n0).2.2)) i gi) hE hK hA hP hD hS [0, 1, 2, 3, 4, 5, 6] rfl rfl rfl rfl 8 rfl rfl rfl rfl hl.1 (Nat.le_of_ble_eq_true rfl) ⟨Nat.le_of_ble_eq_true rfl, Nat.le_of_ble_eq_true rfl⟩ ⟨Nat.le_of_ble_eq_true rfl, Nat.le_of_ble_eq_true rfl⟩ dX8_parse_50 (fun H locs hP hD hS => ?_)
          refine lv_iadd hx hb dX8_parse_53 ?_
          refine lv_istore_n (lv' := [(1, .int ((jsR (G 0) ((rwZ (G 4) L n0).2.2) i) + (rCamsN (cpF 16 (G 0) ((rwZ (G 4) L n0).2.2) (i + 1)) i 16))), (0, .ref (a 0)), (2, .int (nI i))]) hx hb dX8_parse_54 rfl hl (by decide) rfl (fun ls hl => ?_)
          refine lv_iinc (v := nI (i + 1)) (lv' := [(2, .int (nI (i + 1))), (1, .int ((jsR (G 0) ((rwZ (G 4) L n0).2.2) i) + (rCamsN (cpF 16 (G 0) ((rwZ (G 4) L n0).2.2) (i + 1)) i 16))), (0, .ref (a 0))]) hx hb dX8_parse_55 hl (k := 2) rfl (show nI i + Int32.ofInt 1 = nI (i + 1) from nI_add i 1) (by decide) rfl (fun ls hl => ?_)
          refine lv_goto (tgt := 27) hx hb dX8_parse_58 (by decide) ?_
          exact ih (i + 1) (by omega) (by omega) _ _ _ hP hD hS (lv_sub hl [2, 1, 0] rfl)
    have hP := z_eqP (w2 := (refW cs a (upd (upd (upd V 0 (nI (min (sn + 1) 4))) 5 (nI (rwZ (G 4) L n0).2.1)) 6 (nI (rtm (G 4) L n0))) (zU (zU (zU G 0 (cpF 16 (G 0) ((rwZ (G 4) L n0).2.2) 0)) 1 (svF sn (G 1) (G 0))) 5 ((rwZ (G 4) L n0).2.2)))) (by rw [cp_0, zU0_self]; first | done | rfl) hP
    have hD : va_D A (refW cs a (upd (upd (upd V 0 (nI (min (sn + 1) 4))) 5 (nI (rwZ (G 4) L n0).2.1)) 6 (nI (rtm (G 4) L n0))) (zU (zU (zU G 0 (cpF 16 (G 0) ((rwZ (G 4) L n0).2.2) 0)) 1 (svF sn (G 1) (G 0))) 5 ((rwZ (G 4) L n0).2.2))) := z_eqD (by rw [cp_0, zU0_self]; first | done | rfl) hD
    exact lp27 (5 + 1) 0 (Nat.zero_le _) (by omega) _ _ _ hP hD hS (lv_sub hl [2, 1, 0] rfl)
  · skip
    have c_1 := bI_0.mp c_1
    exact absurd hgood c_1

set_option maxHeartbeats 4000000 in
set_option maxRecDepth 100000 in
theorem c_X8_undo_t1 (l : Launch) (D : va_G) (cs : zCs) (a : Nat → Nat) (V : Nat → Int32) (G : Nat → Nat → Int32) (sn : Nat) (hsn : V 0 = nI sn) (hs4 : sn ≤ 4) (hbad : ¬ (¬ nI sn = 0)) : zM l D cs yX8_undo cX8_undo 2 (some FieldType.int) 1 21 0 0 [.ref (a 0)] (refW cs a V G) (some (.int 0)) (refW cs a (upd V 1 1) G) := by
  refine zM.of (own := RX8) (by decide) (Nat.le_of_ble_eq_true rfl) rfl ?_
  intro pq eq s mq below meth cq A ls hx hb hr hml hown hts hlk hnm hE hK hA hP hD hS hl
  have hl : lv_has ls 2 [(0, .ref (a 0))] := hl
  refine lv_aload_n hx hb dX8_undo_0 rfl (lv_at hl 0 rfl) ?_
  refine va_get (D := D) (ci := 8) (v := .int (V 0)) (C := RX8) (T := TX8) (N := 13) hx hb hts wsI_X8 hown hK hP 0 rfl rfl 3 (by decide) (hts _ w_fl_X8_35) (fun _ h9 => h9) rfl dX8_undo_1 ?_
  refine z_top (y := nI sn) hsn ?_
  refine lv_if_ne (tgt := 13) hx hb dX8_undo_4 (by decide) (fun c_1 => ?_) (fun c_1 => ?_)
  · skip
    exact absurd c_1 hbad
  · skip
    refine lv_aload_n hx hb dX8_undo_7 rfl (lv_at hl 0 rfl) ?_
    refine lv_iconst (v := 1) hx hb dX8_undo_8 (by decide) ?_
    refine z_callV (wn := (refW cs a (upd V 1 1) G)) ⟨hx, hb, hml, hown, hts⟩ zY_X8_throwing w_im_yX8_throwing w_se_yX8_throwing w_ml_X8_55 [.int 1] [] (c_X8_throwing l D cs a V G 1) hE hK hA hP hD hS [0, 1, 2, 3, 4, 5, 6] rfl rfl rfl rfl 8 rfl rfl rfl rfl hl.1 (Nat.le_of_ble_eq_true rfl) ⟨Nat.le_of_ble_eq_true rfl, Nat.le_of_ble_eq_true rfl⟩ ⟨Nat.le_of_ble_eq_true rfl, Nat.le_of_ble_eq_true rfl⟩ dX8_undo_9 (fun H locs hP hD hS => ?_)
    exact z_iret hx hb hr hlk hK hP hD hS dX8_undo_12 rfl rfl

set_option maxHeartbeats 4000000 in
set_option maxRecDepth 100000 in
theorem c_X8_undo_ok (l : Launch) (D : va_G) (cs : zCs) (a : Nat → Nat) (V : Nat → Int32) (G : Nat → Nat → Int32) (sn : Nat) (hsn : V 0 = nI sn) (hs4 : sn ≤ 4) (q0 : ¬ nI sn = 0) : zM l D cs yX8_undo cX8_undo 2 (some FieldType.int) 1 21 0 0 [.ref (a 0)] (refW cs a V G) (some (.int (nI (sn - 1)))) (refW cs a (upd (upd V 0 (nI (sn - 1))) 1 0) (zU G 0 (fun j => (G 1) (159 * (sn - 1) + j)))) := by
  refine zM.of (own := RX8) (by decide) (Nat.le_of_ble_eq_true rfl) rfl ?_
  intro pq eq s mq below meth cq A ls hx hb hr hml hown hts hlk hnm hE hK hA hP hD hS hl
  have hl : lv_has ls 2 [(0, .ref (a 0))] := hl
  have hs1 : 1 ≤ sn := Nat.pos_of_ne_zero (fun h => q0 (by rw [h]; rfl))
  refine lv_aload_n hx hb dX8_undo_0 rfl (lv_at hl 0 rfl) ?_
  refine va_get (D := D) (ci := 8) (v := .int (V 0)) (C := RX8) (T := TX8) (N := 13) hx hb hts wsI_X8 hown hK hP 0 rfl rfl 3 (by decide) (hts _ w_fl_X8_35) (fun _ h9 => h9) rfl dX8_undo_1 ?_
  refine z_top (y := nI sn) hsn ?_
  refine lv_if_ne (tgt := 13) hx hb dX8_undo_4 (by decide) (fun c_1 => ?_) (fun c_1 => ?_)
  · skip
    refine lv_aload_n hx hb dX8_undo_13 rfl (lv_at hl 0 rfl) ?_
    refine lv_dup hx hb dX8_undo_14 rfl ?_
    refine va_get (D := D) (ci := 8) (v := .int (V 0)) (C := RX8) (T := TX8) (N := 13) hx hb hts wsI_X8 hown hK hP 0 rfl rfl 3 (by decide) (hts _ w_fl_X8_35) (fun _ h9 => h9) rfl dX8_undo_15 ?_
    refine z_top (y := nI sn) hsn ?_
    refine lv_iconst (v := 1) hx hb dX8_undo_18 (by decide) ?_
    refine lv_isub hx hb dX8_undo_19 ?_
    refine z_top (y := nI (sn - 1)) (pk_sub (b := 1) hs1) ?_
    refine va_put (D := D) (ci := 8) (v := .int (nI (sn - 1))) (C := RX8) (T := TX8) (N := 13) hx hb hts wsI_X8 tyX8 tyX8_ok nmX8 hown hK hP hD hS 0 rfl rfl 3 (by decide) (hts _ w_fl_X8_35) (fun _ h9 => h9) rfl (tyX8_ok 3 (by decide)) rfl rfl (Nat.le_of_ble_eq_true rfl) dX8_undo_20 (fun H locs hP hD hS => ?_)
    have hP : va_P D vwCl (refW cs a (upd V 0 (nI (sn - 1))) G) H := hP
    have hD : va_D A (refW cs a (upd V 0 (nI (sn - 1))) G) := hD
    refine lv_iconst (v := 0) hx hb dX8_undo_23 (by decide) ?_
    refine lv_istore_n (lv' := [(1, .int 0), (0, .ref (a 0))]) hx hb dX8_undo_24 rfl hl (by decide) rfl (fun ls hl => ?_)
    have lp25 : ∀ (k : Nat) (i : Nat), (i ≤ 159) → (159 + 1 ≤ i + k) → ∀ (H : Heap) (locs : List Loc) (ls : Array Slot), va_P D vwCl (refW cs a (upd V 0 (nI (sn - 1))) (zU G 0 (cpF 0 (G 0) (fun j => (G 1) (159 * (sn - 1) + j)) i))) H → va_D A (refW cs a (upd V 0 (nI (sn - 1))) (zU G 0 (cpF 0 (G 0) (fun j => (G 1) (159 * (sn - 1) + j)) i))) → va_S A s.heap H locs → lv_has ls 2 [(0, .ref (a 0)), (1, .int (nI i))] → W pq l eq ({ frames := 1, cells := 0, slots := 0, locals := 21 } : Room) s mq ([.ref (a 0)] : List Value).toArray below meth cq H locs 0 0 (MQ below (zQ D cs (some (.int (nI (sn - 1)))) (refW cs a (upd (upd V 0 (nI (sn - 1))) 1 0) (zU G 0 (fun j => (G 1) (159 * (sn - 1) + j)))) A) ([.ref (a 0)] : List Value).toArray s 0 0 A) (F0 mq 25 ls []) := by
      intro k
      induction k with
      | zero =>
        intro i hi1 hi2 H locs ls hP hD hS hl
        omega
      | succ k ih =>
        intro i hi1 hi2 H locs ls hP hD hS hl
        refine lv_iload_n hx hb dX8_undo_25 rfl (lv_at hl 1 rfl) ?_
        refine lv_sipush (v := 159) hx hb dX8_undo_26 (by decide) ?_
        refine lv_icmp_ge (tgt := 59) hx hb dX8_undo_29 (by decide) (fun c_2 => ?_) (fun c_2 => ?_)
        · skip
          have ei := z_leK (n := 159) rfl (by omega) hi1 c_2
          subst ei
          have hP := z_extR0 (g := fun j => (G 1) (159 * (sn - 1) + j)) hP (fun j hj => cp_in0 (g := G 0) (f := fun j => (G 1) (159 * (sn - 1) + j)) hj)
          rw [zU_zU] at hP
          have hD : va_D A (refW cs a (upd V 0 (nI (sn - 1))) (zU G 0 (fun j => (G 1) (159 * (sn - 1) + j)))) := z_extDR hD
          refine lv_aload_n hx hb dX8_undo_59 rfl (lv_at hl 0 rfl) ?_
          refine lv_aload_n hx hb dX8_undo_60 rfl (lv_at hl 0 rfl) ?_
          refine va_get (D := D) (ci := 8) (v := .int (nI (sn - 1))) (C := RX8) (T := TX8) (N := 13) hx hb hts wsI_X8 hown hK hP 0 rfl rfl 3 (by decide) (hts _ w_fl_X8_35) (fun _ h9 => h9) rfl dX8_undo_61 ?_
          refine z_callV (wn := (refW cs a (upd (upd V 0 (nI (sn - 1))) 1 0) (zU G 0 (fun j => (G 1) (159 * (sn - 1) + j))))) ⟨hx, hb, hml, hown, hts⟩ zY_X8_fine w_im_yX8_fine w_se_yX8_fine w_ml_X8_65 [.int (nI (sn - 1))] [] (c_X8_fine l D cs a (upd V 0 (nI (sn - 1))) (zU G 0 (fun j => (G 1) (159 * (sn - 1) + j))) (nI (sn - 1))) hE hK hA hP hD hS [0, 1, 2, 3, 4, 5, 6] rfl rfl rfl rfl 8 rfl rfl rfl rfl hl.1 (Nat.le_of_ble_eq_true rfl) ⟨Nat.le_of_ble_eq_true rfl, Nat.le_of_ble_eq_true rfl⟩ ⟨Nat.le_of_ble_eq_true rfl, Nat.le_of_ble_eq_true rfl⟩ dX8_undo_64 (fun H locs hP hD hS => ?_)
          exact z_iret hx hb hr hlk hK hP hD hS dX8_undo_67 rfl rfl
        · skip
          have gi : i < 159 := z_geK (n := 159) rfl (by omega) hi1 c_2
          refine lv_aload_n hx hb dX8_undo_32 rfl (lv_at hl 0 rfl) ?_
          refine va_get (D := D) (ci := 8) (v := .ref (a 1)) (C := RX8) (T := TX8) (N := 13) hx hb hts wsI_X8 hown hK hP 0 rfl rfl 0 (by decide) (hts _ w_fl_X8_7) (fun _ h9 => h9) rfl dX8_undo_33 ?_
          refine lv_iload_n hx hb dX8_undo_36 rfl (lv_at hl 1 rfl) ?_
          refine lv_aload_n hx hb dX8_undo_37 rfl (lv_at hl 0 rfl) ?_
          refine va_get (D := D) (ci := 8) (v := .ref (a 2)) (C := RX8) (T := TX8) (N := 13) hx hb hts wsI_X8 hown hK hP 0 rfl rfl 1 (by decide) (hts _ w_fl_X8_13) (fun _ h9 => h9) rfl dX8_undo_38 ?_
          refine lv_sipush (v := 159) hx hb dX8_undo_41 (by decide) ?_
          refine lv_aload_n hx hb dX8_undo_44 rfl (lv_at hl 0 rfl) ?_
          refine va_get (D := D) (ci := 8) (v := .int (nI (sn - 1))) (C := RX8) (T := TX8) (N := 13) hx hb hts wsI_X8 hown hK hP 0 rfl rfl 3 (by decide) (hts _ w_fl_X8_35) (fun _ h9 => h9) rfl dX8_undo_45 ?_
          refine lv_imul hx hb dX8_undo_48 ?_
          refine z_top (y := nI (159 * (sn - 1))) (pk_mul 159 (sn - 1)) ?_
          refine lv_iload_n hx hb dX8_undo_49 rfl (lv_at hl 1 rfl) ?_
          refine lv_iadd hx hb dX8_undo_50 ?_
          refine z_top (y := nI ((159 * (sn - 1)) + i)) (nI_add (159 * (sn - 1)) i) ?_
          refine z_iald (k := (159 * (sn - 1)) + i) hx hb hK hP 2 rfl (by omega) (by first | decide | omega) dX8_undo_51 ?_
          refine z_iast (k := i) hx hb hK hP hD hS 1 rfl (by omega) (by first | decide | omega) dX8_undo_52 (fun H locs hP hD hS => ?_)
          have hP : va_P D vwCl (refW cs a (upd V 0 (nI (sn - 1))) (zU G 0 (upd (cpF 0 (G 0) (fun j => (G 1) (159 * (sn - 1) + j)) i) i ((G 1) ((159 * (sn - 1)) + i))))) H := hP
          have hD : va_D A (refW cs a (upd V 0 (nI (sn - 1))) (zU G 0 (upd (cpF 0 (G 0) (fun j => (G 1) (159 * (sn - 1) + j)) i) i ((G 1) ((159 * (sn - 1)) + i))))) := hD
          refine lv_iinc (v := nI (i + 1)) (lv' := [(1, .int (nI (i + 1))), (0, .ref (a 0))]) hx hb dX8_undo_53 hl (k := 1) rfl (show nI i + Int32.ofInt 1 = nI (i + 1) from nI_add i 1) (by decide) rfl (fun ls hl => ?_)
          refine lv_goto (tgt := 25) hx hb dX8_undo_56 (by decide) ?_
          rw [cp_s0 (by rfl)] at hP hD
          exact ih (i + 1) (by omega) (by omega) _ _ _ hP hD hS (lv_sub hl [1, 0] rfl)
    have hP := z_eqP (w2 := (refW cs a (upd V 0 (nI (sn - 1))) (zU G 0 (cpF 0 (G 0) (fun j => (G 1) (159 * (sn - 1) + j)) 0)))) (by rw [cp_0, zU_self]; first | done | rfl) hP
    have hD : va_D A (refW cs a (upd V 0 (nI (sn - 1))) (zU G 0 (cpF 0 (G 0) (fun j => (G 1) (159 * (sn - 1) + j)) 0))) := z_eqD (by rw [cp_0, zU_self]; first | done | rfl) hD
    exact lp25 (159 + 1) 0 (Nat.zero_le _) (by omega) _ _ _ hP hD hS (lv_sub hl [1, 0] rfl)
  · skip
    exact absurd c_1 q0

set_option maxHeartbeats 4000000 in
set_option maxRecDepth 100000 in
theorem c_X8_hashSteps (l : Launch) (D : va_G) (cs : zCs) (a : Nat → Nat) (V : Nat → Int32) (G : Nat → Nat → Int32) (h : Int64) (n0 : Nat) (h0 : G 0 0 = nI n0) (h16 : n0 ≤ 16) : zM l D cs yX8_hashSteps cX8_hashSteps 7 (some FieldType.long) 1 22 0 0 [.ref (a 0), .long h] (refW cs a V G) (some (.long (rhsO (G 0) h n0))) (refW cs a V G) := by
  refine zM.of (own := RX8) (by decide) (Nat.le_of_ble_eq_true rfl) rfl ?_
  intro pq eq s mq below meth cq A ls hx hb hr hml hown hts hlk hnm hE hK hA hP hD hS hl
  have hl : lv_has ls 7 [(0, .ref (a 0)), (1, .long h)] := hl
  refine lv_lload_n hx hb dX8_hashSteps_0 rfl (lv_at hl 1 rfl) ?_
  refine lv_lstore_n (lv' := [(3, .long h), (0, .ref (a 0)), (1, .long h)]) hx hb dX8_hashSteps_1 rfl hl (by decide) rfl (fun ls hl => ?_)
  refine lv_iconst (v := 0) hx hb dX8_hashSteps_2 (by decide) ?_
  refine lv_istore (lv' := [(5, .int 0), (3, .long h), (0, .ref (a 0)), (1, .long h)]) hx hb dX8_hashSteps_3 hl (by decide) rfl (fun ls hl => ?_)
  have lp5 : ∀ (k : Nat) (st : Nat), (st ≤ n0) → (n0 + 1 ≤ st + k) → ∀ (H : Heap) (locs : List Loc) (ls : Array Slot), va_P D vwCl (refW cs a V G) H → va_D A (refW cs a V G) → va_S A s.heap H locs → lv_has ls 7 [(0, .ref (a 0)), (1, .long h), (3, .long (rhsO (G 0) h st)), (5, .int (nI st))] → W pq l eq ({ frames := 1, cells := 0, slots := 0, locals := 22 } : Room) s mq ([.ref (a 0), .long h] : List Value).toArray below meth cq H locs 0 0 (MQ below (zQ D cs (some (.long (rhsO (G 0) h n0))) (refW cs a V G) A) ([.ref (a 0), .long h] : List Value).toArray s 0 0 A) (F0 mq 5 ls []) := by
    intro k
    induction k with
    | zero =>
      intro st hst1 hst2 H locs ls hP hD hS hl
      omega
    | succ k ih =>
      intro st hst1 hst2 H locs ls hP hD hS hl
      refine lv_iload hx hb dX8_hashSteps_5 (lv_at hl 3 rfl) ?_
      refine lv_aload_n hx hb dX8_hashSteps_7 rfl (lv_at hl 0 rfl) ?_
      refine va_get (D := D) (ci := 8) (v := .ref (a 1)) (C := RX8) (T := TX8) (N := 13) hx hb hts wsI_X8 hown hK hP 0 rfl rfl 0 (by decide) (hts _ w_fl_X8_7) (fun _ h9 => h9) rfl dX8_hashSteps_8 ?_
      refine lv_iconst (v := 0) hx hb dX8_hashSteps_11 (by decide) ?_
      refine z_iald (k := 0) hx hb hK hP 1 rfl (by decide) (by first | decide | omega) dX8_hashSteps_12 ?_
      refine z_top (y := nI n0) h0 ?_
      refine lv_icmp_ge (tgt := 102) hx hb dX8_hashSteps_13 (by decide) (fun c_1 => ?_) (fun c_1 => ?_)
      · skip
        refine lv_lload_n hx hb dX8_hashSteps_102 rfl (lv_at hl 2 rfl) ?_
        exact z_lret hx hb hr hlk hK hP hD hS dX8_hashSteps_103 (by rw [z_leK (n := n0) rfl (by omega) hst1 c_1]) rfl
      · skip
        have gst : st < n0 := z_geK (n := n0) rfl (by omega) hst1 c_1
        refine lv_ldc2 (v := 31) hx hb hown (hts _ w_ct_X8_191) dX8_hashSteps_16 ?_
        refine lv_lload_n hx hb dX8_hashSteps_19 rfl (lv_at hl 2 rfl) ?_
        refine lv_lmul hx hb dX8_hashSteps_20 ?_
        refine lv_aload_n hx hb dX8_hashSteps_21 rfl (lv_at hl 0 rfl) ?_
        refine va_get (D := D) (ci := 8) (v := .ref (a 1)) (C := RX8) (T := TX8) (N := 13) hx hb hts wsI_X8 hown hK hP 0 rfl rfl 0 (by decide) (hts _ w_fl_X8_7) (fun _ h9 => h9) rfl dX8_hashSteps_22 ?_
        refine lv_sipush (v := 143) hx hb dX8_hashSteps_25 (by decide) ?_
        refine lv_iload hx hb dX8_hashSteps_28 (lv_at hl 3 rfl) ?_
        refine lv_iadd hx hb dX8_hashSteps_30 ?_
        refine z_top (y := nI (143 + st)) (nI_add 143 st) ?_
        refine z_iald (k := 143 + st) hx hb hK hP 1 rfl (by omega) (by first | decide | omega) dX8_hashSteps_31 ?_
        refine lv_i2l (v := ((G 0) (143 + st)).toInt64) hx hb dX8_hashSteps_32 rfl ?_
        refine lv_ladd hx hb dX8_hashSteps_33 ?_
        refine lv_lstore_n (lv' := [(3, .long ((31 * (rhsO (G 0) h st)) + (((G 0) (143 + st)).toInt64))), (0, .ref (a 0)), (1, .long h), (5, .int (nI st))]) hx hb dX8_hashSteps_34 rfl hl (by decide) rfl (fun ls hl => ?_)
        refine lv_iconst (v := 0) hx hb dX8_hashSteps_35 (by decide) ?_
        refine lv_istore (lv' := [(6, .int 0), (3, .long ((31 * (rhsO (G 0) h st)) + (((G 0) (143 + st)).toInt64))), (0, .ref (a 0)), (1, .long h), (5, .int (nI st))]) hx hb dX8_hashSteps_36 hl (by decide) rfl (fun ls hl => ?_)
        have lp38 : ∀ (k2 : Nat) (c : Nat), (c ≤ 5) → (5 + 1 ≤ c + k2) → ∀ (H : Heap) (locs : List Loc) (ls : Array Slot), va_P D vwCl (refW cs a V G) H → va_D A (refW cs a V G) → va_S A s.heap H locs → lv_has ls 7 [(0, .ref (a 0)), (1, .long h), (3, .long (rhsI (G 0) st (hW (rhsO (G 0) h st) ((G 0) (143 + st))) c)), (5, .int (nI st)), (6, .int (nI c))] → W pq l eq ({ frames := 1, cells := 0, slots := 0, locals := 22 } : Room) s mq ([.ref (a 0), .long h] : List Value).toArray below meth cq H locs 0 0 (MQ below (zQ D cs (some (.long (rhsO (G 0) h n0))) (refW cs a V G) A) ([.ref (a 0), .long h] : List Value).toArray s 0 0 A) (F0 mq 38 ls []) := by
          intro k2
          induction k2 with
          | zero =>
            intro c hc1 hc2 H locs ls hP hD hS hl
            omega
          | succ k2 ih2 =>
            intro c hc1 hc2 H locs ls hP hD hS hl
            refine lv_iload hx hb dX8_hashSteps_38 (lv_at hl 4 rfl) ?_
            refine lv_iconst (v := 5) hx hb dX8_hashSteps_40 (by decide) ?_
            refine lv_icmp_ge (tgt := 96) hx hb dX8_hashSteps_41 (by decide) (fun c_2 => ?_) (fun c_2 => ?_)
            · skip
              have ec := z_leK (n := 5) rfl (by omega) hc1 c_2
              subst ec
              refine lv_iinc (v := nI (st + 1)) (lv' := [(5, .int (nI (st + 1))), (0, .ref (a 0)), (1, .long h), (3, .long (rhsI (G 0) st (hW (rhsO (G 0) h st) ((G 0) (143 + st))) 5)), (6, .int (nI 5))]) hx hb dX8_hashSteps_96 hl (k := 3) rfl (show nI st + Int32.ofInt 1 = nI (st + 1) from nI_add st 1) (by decide) rfl (fun ls hl => ?_)
              refine lv_goto (tgt := 5) hx hb dX8_hashSteps_99 (by decide) ?_
              exact ih (st + 1) (by omega) (by omega) _ _ _ hP hD hS (lv_sub hl [1, 2, 3, 0] rfl)
            · skip
              have gc : c < 5 := z_geK (n := 5) rfl (by omega) hc1 c_2
              refine lv_ldc2 (v := 31) hx hb hown (hts _ w_ct_X8_191) dX8_hashSteps_44 ?_
              refine lv_ldc2 (v := 31) hx hb hown (hts _ w_ct_X8_191) dX8_hashSteps_47 ?_
              refine lv_lload_n hx hb dX8_hashSteps_50 rfl (lv_at hl 2 rfl) ?_
              refine lv_lmul hx hb dX8_hashSteps_51 ?_
              refine lv_aload_n hx hb dX8_hashSteps_52 rfl (lv_at hl 0 rfl) ?_
              refine lv_iload hx hb dX8_hashSteps_53 (lv_at hl 4 rfl) ?_
              refine lv_iload hx hb dX8_hashSteps_55 (lv_at hl 3 rfl) ?_
              refine z_callV (wn := (refW cs a V G)) ⟨hx, hb, hml, hown, hts⟩ zY_X8_hasCam w_im_yX8_hasCam w_se_yX8_hasCam w_ml_X8_44 [.int (nI c), .int (nI st)] [.long (31 * (rhsI (G 0) st (hW (rhsO (G 0) h st) ((G 0) (143 + st))) c)), .long 31] (c_X8_hasCam l D cs a V G c (nI st) gc) hE hK hA hP hD hS [0, 1, 2, 3, 4, 5, 6] rfl rfl rfl rfl 8 rfl rfl rfl rfl hl.1 (Nat.le_of_ble_eq_true rfl) ⟨Nat.le_of_ble_eq_true rfl, Nat.le_of_ble_eq_true rfl⟩ ⟨Nat.le_of_ble_eq_true rfl, Nat.le_of_ble_eq_true rfl⟩ dX8_hashSteps_57 (fun H locs hP hD hS => ?_)
              refine lv_if_eq (tgt := 67) hx hb dX8_hashSteps_60 (by decide) (fun c_3 => ?_) (fun c_3 => ?_)
              · skip
                have c_3 := bI_0.mp c_3
                refine lv_iconst (v := 0) hx hb dX8_hashSteps_67 (by decide) ?_
                refine z_top (y := bI (rHas (G 0) c (nI st))) (bI_f c_3).symm ?_
                refine lv_i2l (v := (bI (rHas (G 0) c (nI st))).toInt64) hx hb dX8_hashSteps_68 rfl ?_
                refine lv_ladd hx hb dX8_hashSteps_69 ?_
                refine lv_lmul hx hb dX8_hashSteps_70 ?_
                refine lv_aload_n hx hb dX8_hashSteps_71 rfl (lv_at hl 0 rfl) ?_
                refine va_get (D := D) (ci := 8) (v := .ref (a 1)) (C := RX8) (T := TX8) (N := 13) hx hb hts wsI_X8 hown hK hP 0 rfl rfl 0 (by decide) (hts _ w_fl_X8_7) (fun _ h9 => h9) rfl dX8_hashSteps_72 ?_
                refine lv_bipush (v := 63) hx hb dX8_hashSteps_75 (by decide) ?_
                refine lv_bipush (v := 16) hx hb dX8_hashSteps_77 (by decide) ?_
                refine lv_iload hx hb dX8_hashSteps_79 (lv_at hl 4 rfl) ?_
                refine lv_imul hx hb dX8_hashSteps_81 ?_
                refine z_top (y := nI (16 * c)) (pk_mul 16 c) ?_
                refine lv_iadd hx hb dX8_hashSteps_82 ?_
                refine z_top (y := nI (63 + (16 * c))) (nI_add 63 (16 * c)) ?_
                refine lv_iload hx hb dX8_hashSteps_83 (lv_at hl 3 rfl) ?_
                refine lv_iadd hx hb dX8_hashSteps_85 ?_
                refine z_top (y := nI ((63 + (16 * c)) + st)) (nI_add (63 + (16 * c)) st) ?_
                refine z_iald (k := (63 + (16 * c)) + st) hx hb hK hP 1 rfl (by omega) (by first | decide | omega) dX8_hashSteps_86 ?_
                refine lv_i2l (v := ((G 0) ((63 + (16 * c)) + st)).toInt64) hx hb dX8_hashSteps_87 rfl ?_
                refine lv_ladd hx hb dX8_hashSteps_88 ?_
                refine lv_lstore_n (lv' := [(3, .long ((31 * ((31 * (rhsI (G 0) st (hW (rhsO (G 0) h st) ((G 0) (143 + st))) c)) + ((bI (rHas (G 0) c (nI st))).toInt64))) + (((G 0) ((63 + (16 * c)) + st)).toInt64))), (0, .ref (a 0)), (1, .long h), (5, .int (nI st)), (6, .int (nI c))]) hx hb dX8_hashSteps_89 rfl hl (by decide) rfl (fun ls hl => ?_)
                refine lv_iinc (v := nI (c + 1)) (lv' := [(6, .int (nI (c + 1))), (3, .long ((31 * ((31 * (rhsI (G 0) st (hW (rhsO (G 0) h st) ((G 0) (143 + st))) c)) + ((bI (rHas (G 0) c (nI st))).toInt64))) + (((G 0) ((63 + (16 * c)) + st)).toInt64))), (0, .ref (a 0)), (1, .long h), (5, .int (nI st))]) hx hb dX8_hashSteps_90 hl (k := 4) rfl (show nI c + Int32.ofInt 1 = nI (c + 1) from nI_add c 1) (by decide) rfl (fun ls hl => ?_)
                refine lv_goto (tgt := 38) hx hb dX8_hashSteps_93 (by decide) ?_
                exact ih2 (c + 1) (by omega) (by omega) _ _ _ hP hD hS (lv_sub hl [2, 3, 1, 4, 0] rfl)
              · skip
                have c_3 := bI_n0 c_3
                refine lv_iconst (v := 1) hx hb dX8_hashSteps_63 (by decide) ?_
                refine lv_goto (tgt := 68) hx hb dX8_hashSteps_64 (by decide) ?_
                refine z_top (y := bI (rHas (G 0) c (nI st))) (bI_t c_3).symm ?_
                refine lv_i2l (v := (bI (rHas (G 0) c (nI st))).toInt64) hx hb dX8_hashSteps_68 rfl ?_
                refine lv_ladd hx hb dX8_hashSteps_69 ?_
                refine lv_lmul hx hb dX8_hashSteps_70 ?_
                refine lv_aload_n hx hb dX8_hashSteps_71 rfl (lv_at hl 0 rfl) ?_
                refine va_get (D := D) (ci := 8) (v := .ref (a 1)) (C := RX8) (T := TX8) (N := 13) hx hb hts wsI_X8 hown hK hP 0 rfl rfl 0 (by decide) (hts _ w_fl_X8_7) (fun _ h9 => h9) rfl dX8_hashSteps_72 ?_
                refine lv_bipush (v := 63) hx hb dX8_hashSteps_75 (by decide) ?_
                refine lv_bipush (v := 16) hx hb dX8_hashSteps_77 (by decide) ?_
                refine lv_iload hx hb dX8_hashSteps_79 (lv_at hl 4 rfl) ?_
                refine lv_imul hx hb dX8_hashSteps_81 ?_
                refine z_top (y := nI (16 * c)) (pk_mul 16 c) ?_
                refine lv_iadd hx hb dX8_hashSteps_82 ?_
                refine z_top (y := nI (63 + (16 * c))) (nI_add 63 (16 * c)) ?_
                refine lv_iload hx hb dX8_hashSteps_83 (lv_at hl 3 rfl) ?_
                refine lv_iadd hx hb dX8_hashSteps_85 ?_
                refine z_top (y := nI ((63 + (16 * c)) + st)) (nI_add (63 + (16 * c)) st) ?_
                refine z_iald (k := (63 + (16 * c)) + st) hx hb hK hP 1 rfl (by omega) (by first | decide | omega) dX8_hashSteps_86 ?_
                refine lv_i2l (v := ((G 0) ((63 + (16 * c)) + st)).toInt64) hx hb dX8_hashSteps_87 rfl ?_
                refine lv_ladd hx hb dX8_hashSteps_88 ?_
                refine lv_lstore_n (lv' := [(3, .long ((31 * ((31 * (rhsI (G 0) st (hW (rhsO (G 0) h st) ((G 0) (143 + st))) c)) + ((bI (rHas (G 0) c (nI st))).toInt64))) + (((G 0) ((63 + (16 * c)) + st)).toInt64))), (0, .ref (a 0)), (1, .long h), (5, .int (nI st)), (6, .int (nI c))]) hx hb dX8_hashSteps_89 rfl hl (by decide) rfl (fun ls hl => ?_)
                refine lv_iinc (v := nI (c + 1)) (lv' := [(6, .int (nI (c + 1))), (3, .long ((31 * ((31 * (rhsI (G 0) st (hW (rhsO (G 0) h st) ((G 0) (143 + st))) c)) + ((bI (rHas (G 0) c (nI st))).toInt64))) + (((G 0) ((63 + (16 * c)) + st)).toInt64))), (0, .ref (a 0)), (1, .long h), (5, .int (nI st))]) hx hb dX8_hashSteps_90 hl (k := 4) rfl (show nI c + Int32.ofInt 1 = nI (c + 1) from nI_add c 1) (by decide) rfl (fun ls hl => ?_)
                refine lv_goto (tgt := 38) hx hb dX8_hashSteps_93 (by decide) ?_
                exact ih2 (c + 1) (by omega) (by omega) _ _ _ hP hD hS (lv_sub hl [2, 3, 1, 4, 0] rfl)
        exact lp38 (5 + 1) 0 (Nat.zero_le _) (by omega) _ _ _ hP hD hS (lv_sub hl [2, 3, 1, 4, 0] rfl)
  exact lp5 (n0 + 1) 0 (Nat.zero_le _) (by omega) _ _ _ hP hD hS (lv_sub hl [2, 3, 1, 0] rfl)

set_option maxHeartbeats 4000000 in
set_option maxRecDepth 100000 in
theorem c_X8_digest (l : Launch) (D : va_G) (cs : zCs) (a : Nat → Nat) (V : Nat → Int32) (G : Nat → Nat → Int32) (n0 gn : Nat) (hok : rOK (G 0)) (h0 : G 0 0 = nI n0) (h16 : n0 ≤ 16) (h8 : G 0 8 = nI gn) (hg4 : gn ≤ 4) (ho : ∀ j, j < gn → ∃ o, o < 5 ∧ G 0 (51 + 3 * j + 1) = nI o) : zM l D cs yX8_digest cX8_digest 4 (some FieldType.long) 7 156 0 0 [.ref (a 0)] (refW cs a V G) (some (.long (rdig ((G 0), V 2, V 3) n0 gn (V 4) (V 0)))) (refW cs a (upd (upd (upd V 1 0) 2 ((rpsQ 1000 ((G 0), V 2, V 3)).2.1)) 3 ((rpsQ 1000 ((G 0), V 2, V 3)).2.2)) (zU (zU G 0 (G 0)) 2 (G 0))) := by
  refine zM.of (own := RX8) (by decide) (Nat.le_of_ble_eq_true rfl) rfl ?_
  intro pq eq s mq below meth cq A ls hx hb hr hml hown hts hlk hnm hE hK hA hP hD hS hl
  have hl : lv_has ls 4 [(0, .ref (a 0))] := hl
  refine lv_aload_n hx hb dX8_digest_0 rfl (lv_at hl 0 rfl) ?_
  refine lv_iconst (v := 0) hx hb dX8_digest_1 (by decide) ?_
  refine va_put (D := D) (ci := 8) (v := .int 0) (C := RX8) (T := TX8) (N := 13) hx hb hts wsI_X8 tyX8 tyX8_ok nmX8 hown hK hP hD hS 0 rfl rfl 4 (by decide) (hts _ w_fl_X8_31) (fun _ h9 => h9) rfl (tyX8_ok 4 (by decide)) rfl rfl (Nat.le_of_ble_eq_true rfl) dX8_digest_2 (fun H locs hP hD hS => ?_)
  have hP : va_P D vwCl (refW cs a (upd V 1 0) G) H := hP
  have hD : va_D A (refW cs a (upd V 1 0) G) := hD
  refine lv_ldc2 (v := 107477) hx hb hown (hts _ w_ct_X8_193) dX8_digest_5 ?_
  refine lv_aload_n hx hb dX8_digest_8 rfl (lv_at hl 0 rfl) ?_
  refine va_get (D := D) (ci := 8) (v := .int (V 4)) (C := RX8) (T := TX8) (N := 13) hx hb hts wsI_X8 hown hK hP 0 rfl rfl 9 (by decide) (hts _ w_fl_X8_157) (fun _ h9 => h9) rfl dX8_digest_9 ?_
  refine lv_i2l (v := (V 4).toInt64) hx hb dX8_digest_12 rfl ?_
  refine lv_ladd hx hb dX8_digest_13 ?_
  refine lv_lstore_n (lv' := [(1, .long (107477 + ((V 4).toInt64))), (0, .ref (a 0))]) hx hb dX8_digest_14 rfl hl (by decide) rfl (fun ls hl => ?_)
  refine lv_iconst (v := 0) hx hb dX8_digest_15 (by decide) ?_
  refine lv_istore_n (lv' := [(3, .int 0), (1, .long (107477 + ((V 4).toInt64))), (0, .ref (a 0))]) hx hb dX8_digest_16 rfl hl (by decide) rfl (fun ls hl => ?_)
  have lp17 : ∀ (k : Nat) (i : Nat), (i ≤ 16) → (16 + 1 ≤ i + k) → ∀ (H : Heap) (locs : List Loc) (ls : Array Slot), va_P D vwCl (refW cs a (upd V 1 0) G) H → va_D A (refW cs a (upd V 1 0) G) → va_S A s.heap H locs → lv_has ls 4 [(0, .ref (a 0)), (1, .long (dgN (G 0) (107477 + (V 4).toInt64) i)), (3, .int (nI i))] → W pq l eq ({ frames := 7, cells := 0, slots := 0, locals := 156 } : Room) s mq ([.ref (a 0)] : List Value).toArray below meth cq H locs 0 0 (MQ below (zQ D cs (some (.long (rdig ((G 0), V 2, V 3) n0 gn (V 4) (V 0)))) (refW cs a (upd (upd (upd V 1 0) 2 ((rpsQ 1000 ((G 0), V 2, V 3)).2.1)) 3 ((rpsQ 1000 ((G 0), V 2, V 3)).2.2)) (zU (zU G 0 (G 0)) 2 (G 0))) A) ([.ref (a 0)] : List Value).toArray s 0 0 A) (F0 mq 17 ls []) := by
    intro k
    induction k with
    | zero =>
      intro i hi1 hi2 H locs ls hP hD hS hl
      omega
    | succ k ih =>
      intro i hi1 hi2 H locs ls hP hD hS hl
      refine lv_iload_n hx hb dX8_digest_17 rfl (lv_at hl 2 rfl) ?_
      refine lv_bipush (v := 16) hx hb dX8_digest_18 (by decide) ?_
      refine lv_icmp_ge (tgt := 43) hx hb dX8_digest_20 (by decide) (fun c_1 => ?_) (fun c_1 => ?_)
      · skip
        have ei := z_leK (n := 16) rfl (by omega) hi1 c_1
        subst ei
        refine lv_iconst (v := 0) hx hb dX8_digest_43 (by decide) ?_
        refine lv_istore_n (lv' := [(3, .int 0), (0, .ref (a 0)), (1, .long (dgN (G 0) (107477 + (V 4).toInt64) 16))]) hx hb dX8_digest_44 rfl hl (by decide) rfl (fun ls hl => ?_)
        have lp45 : ∀ (k2 : Nat) (j : Nat), (j ≤ 40) → (40 + 1 ≤ j + k2) → ∀ (H : Heap) (locs : List Loc) (ls : Array Slot), va_P D vwCl (refW cs a (upd V 1 0) G) H → va_D A (refW cs a (upd V 1 0) G) → va_S A s.heap H locs → lv_has ls 4 [(0, .ref (a 0)), (1, .long (rdgC (G 0) (dgN (G 0) (107477 + (V 4).toInt64) 16) j)), (3, .int (nI j))] → W pq l eq ({ frames := 7, cells := 0, slots := 0, locals := 156 } : Room) s mq ([.ref (a 0)] : List Value).toArray below meth cq H locs 0 0 (MQ below (zQ D cs (some (.long (rdig ((G 0), V 2, V 3) n0 gn (V 4) (V 0)))) (refW cs a (upd (upd (upd V 1 0) 2 ((rpsQ 1000 ((G 0), V 2, V 3)).2.1)) 3 ((rpsQ 1000 ((G 0), V 2, V 3)).2.2)) (zU (zU G 0 (G 0)) 2 (G 0))) A) ([.ref (a 0)] : List Value).toArray s 0 0 A) (F0 mq 45 ls []) := by
          intro k2
          induction k2 with
          | zero =>
            intro j hj1 hj2 H locs ls hP hD hS hl
            omega
          | succ k2 ih2 =>
            intro j hj1 hj2 H locs ls hP hD hS hl
            refine lv_iload_n hx hb dX8_digest_45 rfl (lv_at hl 2 rfl) ?_
            refine lv_bipush (v := 40) hx hb dX8_digest_46 (by decide) ?_
            refine lv_icmp_ge (tgt := 77) hx hb dX8_digest_48 (by decide) (fun c_2 => ?_) (fun c_2 => ?_)
            · skip
              have ej := z_leK (n := 40) rfl (by omega) hj1 c_2
              subst ej
              refine lv_iconst (v := 0) hx hb dX8_digest_77 (by decide) ?_
              refine lv_istore_n (lv' := [(3, .int 0), (0, .ref (a 0)), (1, .long (rdgC (G 0) (dgN (G 0) (107477 + (V 4).toInt64) 16) 40))]) hx hb dX8_digest_78 rfl hl (by decide) rfl (fun ls hl => ?_)
              have lp79 : ∀ (k3 : Nat) (g : Nat), (g ≤ 4 * gn) → (4 * gn + 1 ≤ g + k3) → ∀ (H : Heap) (locs : List Loc) (ls : Array Slot), va_P D vwCl (refW cs a (upd V 1 0) G) H → va_D A (refW cs a (upd V 1 0) G) → va_S A s.heap H locs → lv_has ls 4 [(0, .ref (a 0)), (1, .long (rdgG (G 0) (rdgC (G 0) (dgN (G 0) (107477 + (V 4).toInt64) 16) 40) g)), (3, .int (nI g))] → W pq l eq ({ frames := 7, cells := 0, slots := 0, locals := 156 } : Room) s mq ([.ref (a 0)] : List Value).toArray below meth cq H locs 0 0 (MQ below (zQ D cs (some (.long (rdig ((G 0), V 2, V 3) n0 gn (V 4) (V 0)))) (refW cs a (upd (upd (upd V 1 0) 2 ((rpsQ 1000 ((G 0), V 2, V 3)).2.1)) 3 ((rpsQ 1000 ((G 0), V 2, V 3)).2.2)) (zU (zU G 0 (G 0)) 2 (G 0))) A) ([.ref (a 0)] : List Value).toArray s 0 0 A) (F0 mq 79 ls []) := by
                intro k3
                induction k3 with
                | zero =>
                  intro g hg1 hg2 H locs ls hP hD hS hl
                  omega
                | succ k3 ih3 =>
                  intro g hg1 hg2 H locs ls hP hD hS hl
                  refine lv_iload_n hx hb dX8_digest_79 rfl (lv_at hl 2 rfl) ?_
                  refine lv_iconst (v := 4) hx hb dX8_digest_80 (by decide) ?_
                  refine lv_aload_n hx hb dX8_digest_81 rfl (lv_at hl 0 rfl) ?_
                  refine va_get (D := D) (ci := 8) (v := .ref (a 1)) (C := RX8) (T := TX8) (N := 13) hx hb hts wsI_X8 hown hK hP 0 rfl rfl 0 (by decide) (hts _ w_fl_X8_7) (fun _ h9 => h9) rfl dX8_digest_82 ?_
                  refine lv_bipush (v := 8) hx hb dX8_digest_85 (by decide) ?_
                  refine z_iald (k := 8) hx hb hK hP 1 rfl (by decide) (by first | decide | omega) dX8_digest_87 ?_
                  refine z_top (y := nI gn) h8 ?_
                  refine lv_imul hx hb dX8_digest_88 ?_
                  refine z_top (y := nI (4 * gn)) (pk_mul 4 gn) ?_
                  refine lv_icmp_ge (tgt := 116) hx hb dX8_digest_89 (by decide) (fun c_3 => ?_) (fun c_3 => ?_)
                  · skip
                    have eg := z_leK (n := (4 * gn)) rfl (by omega) hg1 c_3
                    subst eg
                    refine lv_ldc2 (v := 31) hx hb hown (hts _ w_ct_X8_191) dX8_digest_116 ?_
                    refine lv_ldc2 (v := 31) hx hb hown (hts _ w_ct_X8_191) dX8_digest_119 ?_
                    refine lv_aload_n hx hb dX8_digest_122 rfl (lv_at hl 0 rfl) ?_
                    refine lv_lload_n hx hb dX8_digest_123 rfl (lv_at hl 1 rfl) ?_
                    refine z_callV (wn := (refW cs a (upd V 1 0) G)) ⟨hx, hb, hml, hown, hts⟩ zY_X8_hashSteps w_im_yX8_hashSteps w_se_yX8_hashSteps w_ml_X8_195 [.long (rdgG (G 0) (rdgC (G 0) (dgN (G 0) (107477 + (V 4).toInt64) 16) 40) (4 * gn))] [.long 31, .long 31] (c_X8_hashSteps l D cs a (upd V 1 0) G (rdgG (G 0) (rdgC (G 0) (dgN (G 0) (107477 + (V 4).toInt64) 16) 40) (4 * gn)) n0 h0 h16) hE hK hA hP hD hS [0, 1, 2, 3, 4, 5, 6] rfl rfl rfl rfl 8 rfl rfl rfl rfl hl.1 (Nat.le_of_ble_eq_true rfl) ⟨Nat.le_of_ble_eq_true rfl, Nat.le_of_ble_eq_true rfl⟩ ⟨Nat.le_of_ble_eq_true rfl, Nat.le_of_ble_eq_true rfl⟩ dX8_digest_124 (fun H locs hP hD hS => ?_)
                    refine lv_lmul hx hb dX8_digest_127 ?_
                    refine lv_aload_n hx hb dX8_digest_128 rfl (lv_at hl 0 rfl) ?_
                    refine z_callV (wn := (refW cs a (upd (upd (upd V 1 0) 2 ((rpsQ 1000 ((G 0), V 2, V 3)).2.1)) 3 ((rpsQ 1000 ((G 0), V 2, V 3)).2.2)) (zU (zU G 0 (G 0)) 2 (G 0)))) ⟨hx, hb, hml, hown, hts⟩ zY_X8_toCycle w_im_yX8_toCycle w_se_yX8_toCycle w_ml_X8_143 [] [.long (31 * (rhsO (G 0) (rdgG (G 0) (rdgC (G 0) (dgN (G 0) (107477 + (V 4).toInt64) 16) 40) (4 * gn)) n0)), .long 31] (c_X8_toCycle l D cs a (upd V 1 0) G hok) hE hK hA hP hD hS [0, 1, 2, 3, 4, 5, 6] rfl rfl rfl rfl 8 rfl rfl rfl rfl hl.1 (Nat.le_of_ble_eq_true rfl) ⟨Nat.le_of_ble_eq_true rfl, Nat.le_of_ble_eq_true rfl⟩ ⟨Nat.le_of_ble_eq_true rfl, Nat.le_of_ble_eq_true rfl⟩ dX8_digest_129 (fun H locs hP hD hS => ?_)
                    refine lv_i2l (v := (rtcR ((G 0), V 2, V 3)).toInt64) hx hb dX8_digest_132 rfl ?_
                    refine lv_ladd hx hb dX8_digest_133 ?_
                    refine lv_lmul hx hb dX8_digest_134 ?_
                    refine lv_aload_n hx hb dX8_digest_135 rfl (lv_at hl 0 rfl) ?_
                    refine va_get (D := D) (ci := 8) (v := .int (V 0)) (C := RX8) (T := TX8) (N := 13) hx hb hts wsI_X8 hown hK hP 0 rfl rfl 3 (by decide) (hts _ w_fl_X8_35) (fun _ h9 => h9) rfl dX8_digest_136 ?_
                    refine lv_i2l (v := (V 0).toInt64) hx hb dX8_digest_139 rfl ?_
                    refine lv_ladd hx hb dX8_digest_140 ?_
                    exact z_lret hx hb hr hlk hK hP hD hS dX8_digest_141 rfl rfl
                  · skip
                    have gg : g < 4 * gn := z_geK (n := 4 * gn) rfl (by omega) hg1 c_3
                    refine lv_ldc2 (v := 31) hx hb hown (hts _ w_ct_X8_191) dX8_digest_92 ?_
                    refine lv_lload_n hx hb dX8_digest_95 rfl (lv_at hl 1 rfl) ?_
                    refine lv_lmul hx hb dX8_digest_96 ?_
                    refine lv_aload_n hx hb dX8_digest_97 rfl (lv_at hl 0 rfl) ?_
                    refine lv_iload_n hx hb dX8_digest_98 rfl (lv_at hl 2 rfl) ?_
                    refine lv_iconst (v := 4) hx hb dX8_digest_99 (by decide) ?_
                    refine lv_idiv hx hb dX8_digest_100 (by decide) ?_
                    refine z_top (y := nI (g / 4)) (pk_div (d := 4) (by omega) (by decide) (by decide)) ?_
                    refine lv_iload_n hx hb dX8_digest_101 rfl (lv_at hl 2 rfl) ?_
                    refine lv_iconst (v := 4) hx hb dX8_digest_102 (by decide) ?_
                    refine lv_irem hx hb dX8_digest_103 (by decide) ?_
                    refine z_top (y := nI (g % 4)) (pk_rem (d := 4) (by omega) (by decide) (by decide)) ?_
                    obtain ⟨o, ho5, eo⟩ := ho (g / 4) (by omega)
                    refine z_callV (wn := (refW cs a (upd V 1 0) G)) ⟨hx, hb, hml, hown, hts⟩ zY_X8_guardOf w_im_yX8_guardOf w_se_yX8_guardOf w_ml_X8_129 [.int (nI (g / 4)), .int (nI (g % 4))] [.long (31 * (rdgG (G 0) (rdgC (G 0) (dgN (G 0) (107477 + (V 4).toInt64) 16) 40) g))] (c_X8_guardOf l D cs a (upd V 1 0) G (g / 4) o (g % 4) (by omega) (by omega) ho5 eo) hE hK hA hP hD hS [0, 1, 2, 3, 4, 5, 6] rfl rfl rfl rfl 8 rfl rfl rfl rfl hl.1 (Nat.le_of_ble_eq_true rfl) ⟨Nat.le_of_ble_eq_true rfl, Nat.le_of_ble_eq_true rfl⟩ ⟨Nat.le_of_ble_eq_true rfl, Nat.le_of_ble_eq_true rfl⟩ dX8_digest_104 (fun H locs hP hD hS => ?_)
                    refine lv_i2l (v := (rgrd (G 0) (g / 4) (g % 4)).toInt64) hx hb dX8_digest_107 rfl ?_
                    refine lv_ladd hx hb dX8_digest_108 ?_
                    refine lv_lstore_n (lv' := [(1, .long ((31 * (rdgG (G 0) (rdgC (G 0) (dgN (G 0) (107477 + (V 4).toInt64) 16) 40) g)) + ((rgrd (G 0) (g / 4) (g % 4)).toInt64))), (0, .ref (a 0)), (3, .int (nI g))]) hx hb dX8_digest_109 rfl hl (by decide) rfl (fun ls hl => ?_)
                    refine lv_iinc (v := nI (g + 1)) (lv' := [(3, .int (nI (g + 1))), (1, .long ((31 * (rdgG (G 0) (rdgC (G 0) (dgN (G 0) (107477 + (V 4).toInt64) 16) 40) g)) + ((rgrd (G 0) (g / 4) (g % 4)).toInt64))), (0, .ref (a 0))]) hx hb dX8_digest_110 hl (k := 2) rfl (show nI g + Int32.ofInt 1 = nI (g + 1) from nI_add g 1) (by decide) rfl (fun ls hl => ?_)
                    refine lv_goto (tgt := 79) hx hb dX8_digest_113 (by decide) ?_
                    exact ih3 (g + 1) (by omega) (by omega) _ _ _ hP hD hS (lv_sub hl [2, 1, 0] rfl)
              exact lp79 (4 * gn + 1) 0 (Nat.zero_le _) (by omega) _ _ _ hP hD hS (lv_sub hl [1, 2, 0] rfl)
            · skip
              have gj : j < 40 := z_geK (n := 40) rfl (by omega) hj1 c_2
              refine lv_ldc2 (v := 31) hx hb hown (hts _ w_ct_X8_191) dX8_digest_51 ?_
              refine lv_lload_n hx hb dX8_digest_54 rfl (lv_at hl 1 rfl) ?_
              refine lv_lmul hx hb dX8_digest_55 ?_
              refine lv_aload_n hx hb dX8_digest_56 rfl (lv_at hl 0 rfl) ?_
              refine lv_iload_n hx hb dX8_digest_57 rfl (lv_at hl 2 rfl) ?_
              refine lv_bipush (v := 8) hx hb dX8_digest_58 (by decide) ?_
              refine lv_idiv hx hb dX8_digest_60 (by decide) ?_
              refine z_top (y := nI (j / 8)) (pk_div (d := 8) (by omega) (by decide) (by decide)) ?_
              refine lv_iload_n hx hb dX8_digest_61 rfl (lv_at hl 2 rfl) ?_
              refine lv_bipush (v := 8) hx hb dX8_digest_62 (by decide) ?_
              refine lv_irem hx hb dX8_digest_64 (by decide) ?_
              refine z_top (y := nI (j % 8)) (pk_rem (d := 8) (by omega) (by decide) (by decide)) ?_
              refine z_callV (wn := (refW cs a (upd V 1 0) G)) ⟨hx, hb, hml, hown, hts⟩ zY_X8_cylinderOf w_im_yX8_cylinderOf w_se_yX8_cylinderOf w_ml_X8_123 [.int (nI (j / 8)), .int (nI (j % 8))] [.long (31 * (rdgC (G 0) (dgN (G 0) (107477 + (V 4).toInt64) 16) j))] (c_X8_cylinderOf l D cs a (upd V 1 0) G (j / 8) (j % 8) (by omega) (by omega) hok) hE hK hA hP hD hS [0, 1, 2, 3, 4, 5, 6] rfl rfl rfl rfl 8 rfl rfl rfl rfl hl.1 (Nat.le_of_ble_eq_true rfl) ⟨Nat.le_of_ble_eq_true rfl, Nat.le_of_ble_eq_true rfl⟩ ⟨Nat.le_of_ble_eq_true rfl, Nat.le_of_ble_eq_true rfl⟩ dX8_digest_65 (fun H locs hP hD hS => ?_)
              refine lv_i2l (v := (rcyl (G 0) (j / 8) (j % 8)).toInt64) hx hb dX8_digest_68 rfl ?_
              refine lv_ladd hx hb dX8_digest_69 ?_
              refine lv_lstore_n (lv' := [(1, .long ((31 * (rdgC (G 0) (dgN (G 0) (107477 + (V 4).toInt64) 16) j)) + ((rcyl (G 0) (j / 8) (j % 8)).toInt64))), (0, .ref (a 0)), (3, .int (nI j))]) hx hb dX8_digest_70 rfl hl (by decide) rfl (fun ls hl => ?_)
              refine lv_iinc (v := nI (j + 1)) (lv' := [(3, .int (nI (j + 1))), (1, .long ((31 * (rdgC (G 0) (dgN (G 0) (107477 + (V 4).toInt64) 16) j)) + ((rcyl (G 0) (j / 8) (j % 8)).toInt64))), (0, .ref (a 0))]) hx hb dX8_digest_71 hl (k := 2) rfl (show nI j + Int32.ofInt 1 = nI (j + 1) from nI_add j 1) (by decide) rfl (fun ls hl => ?_)
              refine lv_goto (tgt := 45) hx hb dX8_digest_74 (by decide) ?_
              exact ih2 (j + 1) (by omega) (by omega) _ _ _ hP hD hS (lv_sub hl [2, 1, 0] rfl)
        exact lp45 (40 + 1) 0 (Nat.zero_le _) (by omega) _ _ _ hP hD hS (lv_sub hl [1, 2, 0] rfl)
      · skip
        have gi : i < 16 := z_geK (n := 16) rfl (by omega) hi1 c_1
        refine lv_ldc2 (v := 31) hx hb hown (hts _ w_ct_X8_191) dX8_digest_23 ?_
        refine lv_lload_n hx hb dX8_digest_26 rfl (lv_at hl 1 rfl) ?_
        refine lv_lmul hx hb dX8_digest_27 ?_
        refine lv_aload_n hx hb dX8_digest_28 rfl (lv_at hl 0 rfl) ?_
        refine va_get (D := D) (ci := 8) (v := .ref (a 1)) (C := RX8) (T := TX8) (N := 13) hx hb hts wsI_X8 hown hK hP 0 rfl rfl 0 (by decide) (hts _ w_fl_X8_7) (fun _ h9 => h9) rfl dX8_digest_29 ?_
        refine lv_iload_n hx hb dX8_digest_32 rfl (lv_at hl 2 rfl) ?_
        refine z_iald (k := i) hx hb hK hP 1 rfl (by omega) (by first | decide | omega) dX8_digest_33 ?_
        refine lv_i2l (v := ((G 0) i).toInt64) hx hb dX8_digest_34 rfl ?_
        refine lv_ladd hx hb dX8_digest_35 ?_
        refine lv_lstore_n (lv' := [(1, .long ((31 * (dgN (G 0) (107477 + (V 4).toInt64) i)) + (((G 0) i).toInt64))), (0, .ref (a 0)), (3, .int (nI i))]) hx hb dX8_digest_36 rfl hl (by decide) rfl (fun ls hl => ?_)
        refine lv_iinc (v := nI (i + 1)) (lv' := [(3, .int (nI (i + 1))), (1, .long ((31 * (dgN (G 0) (107477 + (V 4).toInt64) i)) + (((G 0) i).toInt64))), (0, .ref (a 0))]) hx hb dX8_digest_37 hl (k := 2) rfl (show nI i + Int32.ofInt 1 = nI (i + 1) from nI_add i 1) (by decide) rfl (fun ls hl => ?_)
        refine lv_goto (tgt := 17) hx hb dX8_digest_40 (by decide) ?_
        exact ih (i + 1) (by omega) (by omega) _ _ _ hP hD hS (lv_sub hl [2, 1, 0] rfl)
  exact lp17 (16 + 1) 0 (Nat.zero_le _) (by omega) _ _ _ hP hD hS (lv_sub hl [2, 1, 0] rfl)

set_option maxHeartbeats 4000000 in
set_option maxRecDepth 100000 in
theorem c_X8_append_t1 (l : Launch) (D : va_G) (cs : zCs) (a : Nat → Nat) (V : Nat → Int32) (G : Nat → Nat → Int32) (v : Int32) (L : Nat) (h4 : V 4 = nI L) (hL : L ≤ 100) (hbad : ¬ (0 ≤ v ∧ v ≤ 127)) : zM l D cs yX8_append cX8_append 2 (some FieldType.int) 1 25 0 0 [.ref (a 0), .int v] (refW cs a V G) (some (.int 0)) (refW cs a (upd V 1 1) G) := by
  refine zM.of (own := RX8) (by decide) (Nat.le_of_ble_eq_true rfl) rfl ?_
  intro pq eq s mq below meth cq A ls hx hb hr hml hown hts hlk hnm hE hK hA hP hD hS hl
  have hl : lv_has ls 2 [(0, .ref (a 0)), (1, .int v)] := hl
  refine lv_iload_n hx hb dX8_append_0 rfl (lv_at hl 1 rfl) ?_
  refine lv_i2l (v := v.toInt64) hx hb dX8_append_1 rfl ?_
  refine lv_lconst (v := 0) hx hb dX8_append_2 (by decide) ?_
  refine lv_ldc2 (v := 127) hx hb hown (hts _ w_ct_X8_155) dX8_append_3 ?_
  refine z_callS (wn := (refW cs a V G)) ⟨hx, hb, hml, hown, hts⟩ zY_X8_in w_st_yX8_in w_ml_X8_40 [.long v.toInt64, .long 0, .long 127] [] (c_X8_in l D cs v.toInt64 0 127) hE hK hA hP hD hS [] rfl rfl rfl z_ins_nil rfl hl.1 (Nat.le_of_ble_eq_true rfl) ⟨Nat.le_of_ble_eq_true rfl, Nat.le_of_ble_eq_true rfl⟩ ⟨Nat.le_of_ble_eq_true rfl, Nat.le_of_ble_eq_true rfl⟩ dX8_append_6 (fun H locs hP hD hS => ?_)
  refine z_top (y := bI (0 ≤ v ∧ v ≤ 127)) (bI_congr (in64 (by decide) (by decide))) ?_
  refine lv_if_ne (tgt := 18) hx hb dX8_append_9 (by decide) (fun c_1 => ?_) (fun c_1 => ?_)
  · skip
    have c_1 := bI_n0 c_1
    exact absurd c_1 hbad
  · skip
    have c_1 := bI_0.mp c_1
    refine lv_aload_n hx hb dX8_append_12 rfl (lv_at hl 0 rfl) ?_
    refine lv_iconst (v := 1) hx hb dX8_append_13 (by decide) ?_
    refine z_callV (wn := (refW cs a (upd V 1 1) G)) ⟨hx, hb, hml, hown, hts⟩ zY_X8_throwing w_im_yX8_throwing w_se_yX8_throwing w_ml_X8_55 [.int 1] [] (c_X8_throwing l D cs a V G 1) hE hK hA hP hD hS [0, 1, 2, 3, 4, 5, 6] rfl rfl rfl rfl 8 rfl rfl rfl rfl hl.1 (Nat.le_of_ble_eq_true rfl) ⟨Nat.le_of_ble_eq_true rfl, Nat.le_of_ble_eq_true rfl⟩ ⟨Nat.le_of_ble_eq_true rfl, Nat.le_of_ble_eq_true rfl⟩ dX8_append_14 (fun H locs hP hD hS => ?_)
    exact z_iret hx hb hr hlk hK hP hD hS dX8_append_17 rfl rfl

set_option maxHeartbeats 4000000 in
set_option maxRecDepth 100000 in
theorem c_X8_append_t2 (l : Launch) (D : va_G) (cs : zCs) (a : Nat → Nat) (V : Nat → Int32) (G : Nat → Nat → Int32) (v : Int32) (L : Nat) (h4 : V 4 = nI L) (hL : L ≤ 100) (q0 : 0 ≤ v ∧ v ≤ 127) (hbad : ¬ (¬ nI L = 100)) : zM l D cs yX8_append cX8_append 2 (some FieldType.int) 1 25 0 0 [.ref (a 0), .int v] (refW cs a V G) (some (.int 0)) (refW cs a (upd V 1 2) G) := by
  refine zM.of (own := RX8) (by decide) (Nat.le_of_ble_eq_true rfl) rfl ?_
  intro pq eq s mq below meth cq A ls hx hb hr hml hown hts hlk hnm hE hK hA hP hD hS hl
  have hl : lv_has ls 2 [(0, .ref (a 0)), (1, .int v)] := hl
  refine lv_iload_n hx hb dX8_append_0 rfl (lv_at hl 1 rfl) ?_
  refine lv_i2l (v := v.toInt64) hx hb dX8_append_1 rfl ?_
  refine lv_lconst (v := 0) hx hb dX8_append_2 (by decide) ?_
  refine lv_ldc2 (v := 127) hx hb hown (hts _ w_ct_X8_155) dX8_append_3 ?_
  refine z_callS (wn := (refW cs a V G)) ⟨hx, hb, hml, hown, hts⟩ zY_X8_in w_st_yX8_in w_ml_X8_40 [.long v.toInt64, .long 0, .long 127] [] (c_X8_in l D cs v.toInt64 0 127) hE hK hA hP hD hS [] rfl rfl rfl z_ins_nil rfl hl.1 (Nat.le_of_ble_eq_true rfl) ⟨Nat.le_of_ble_eq_true rfl, Nat.le_of_ble_eq_true rfl⟩ ⟨Nat.le_of_ble_eq_true rfl, Nat.le_of_ble_eq_true rfl⟩ dX8_append_6 (fun H locs hP hD hS => ?_)
  refine z_top (y := bI (0 ≤ v ∧ v ≤ 127)) (bI_congr (in64 (by decide) (by decide))) ?_
  refine lv_if_ne (tgt := 18) hx hb dX8_append_9 (by decide) (fun c_1 => ?_) (fun c_1 => ?_)
  · skip
    have c_1 := bI_n0 c_1
    refine lv_aload_n hx hb dX8_append_18 rfl (lv_at hl 0 rfl) ?_
    refine va_get (D := D) (ci := 8) (v := .int (V 4)) (C := RX8) (T := TX8) (N := 13) hx hb hts wsI_X8 hown hK hP 0 rfl rfl 9 (by decide) (hts _ w_fl_X8_157) (fun _ h9 => h9) rfl dX8_append_19 ?_
    refine z_top (y := nI L) h4 ?_
    refine lv_bipush (v := 100) hx hb dX8_append_22 (by decide) ?_
    refine lv_icmp_ne (tgt := 33) hx hb dX8_append_24 (by decide) (fun c_2 => ?_) (fun c_2 => ?_)
    · skip
      exact absurd c_2 hbad
    · skip
      refine lv_aload_n hx hb dX8_append_27 rfl (lv_at hl 0 rfl) ?_
      refine lv_iconst (v := 2) hx hb dX8_append_28 (by decide) ?_
      refine z_callV (wn := (refW cs a (upd V 1 2) G)) ⟨hx, hb, hml, hown, hts⟩ zY_X8_throwing w_im_yX8_throwing w_se_yX8_throwing w_ml_X8_55 [.int 2] [] (c_X8_throwing l D cs a V G 2) hE hK hA hP hD hS [0, 1, 2, 3, 4, 5, 6] rfl rfl rfl rfl 8 rfl rfl rfl rfl hl.1 (Nat.le_of_ble_eq_true rfl) ⟨Nat.le_of_ble_eq_true rfl, Nat.le_of_ble_eq_true rfl⟩ ⟨Nat.le_of_ble_eq_true rfl, Nat.le_of_ble_eq_true rfl⟩ dX8_append_29 (fun H locs hP hD hS => ?_)
      exact z_iret hx hb hr hlk hK hP hD hS dX8_append_32 rfl rfl
  · skip
    have c_1 := bI_0.mp c_1
    exact absurd q0 c_1

set_option maxHeartbeats 4000000 in
set_option maxRecDepth 100000 in
theorem c_X8_append_ok (l : Launch) (D : va_G) (cs : zCs) (a : Nat → Nat) (V : Nat → Int32) (G : Nat → Nat → Int32) (v : Int32) (L : Nat) (h4 : V 4 = nI L) (hL : L ≤ 100) (q0 : 0 ≤ v ∧ v ≤ 127) (q1 : ¬ nI L = 100) : zM l D cs yX8_append cX8_append 2 (some FieldType.int) 1 25 0 0 [.ref (a 0), .int v] (refW cs a V G) (some (.int (nI (L + 1)))) (refW cs a (upd (upd V 1 0) 4 (nI (L + 1))) (zU G 4 (upd (G 4) L v))) := by
  refine zM.of (own := RX8) (by decide) (Nat.le_of_ble_eq_true rfl) rfl ?_
  intro pq eq s mq below meth cq A ls hx hb hr hml hown hts hlk hnm hE hK hA hP hD hS hl
  have hl : lv_has ls 2 [(0, .ref (a 0)), (1, .int v)] := hl
  have hL1 : L < 100 := Nat.lt_of_le_of_ne hL (fun h => q1 (by rw [h]; rfl))
  refine lv_iload_n hx hb dX8_append_0 rfl (lv_at hl 1 rfl) ?_
  refine lv_i2l (v := v.toInt64) hx hb dX8_append_1 rfl ?_
  refine lv_lconst (v := 0) hx hb dX8_append_2 (by decide) ?_
  refine lv_ldc2 (v := 127) hx hb hown (hts _ w_ct_X8_155) dX8_append_3 ?_
  refine z_callS (wn := (refW cs a V G)) ⟨hx, hb, hml, hown, hts⟩ zY_X8_in w_st_yX8_in w_ml_X8_40 [.long v.toInt64, .long 0, .long 127] [] (c_X8_in l D cs v.toInt64 0 127) hE hK hA hP hD hS [] rfl rfl rfl z_ins_nil rfl hl.1 (Nat.le_of_ble_eq_true rfl) ⟨Nat.le_of_ble_eq_true rfl, Nat.le_of_ble_eq_true rfl⟩ ⟨Nat.le_of_ble_eq_true rfl, Nat.le_of_ble_eq_true rfl⟩ dX8_append_6 (fun H locs hP hD hS => ?_)
  refine z_top (y := bI (0 ≤ v ∧ v ≤ 127)) (bI_congr (in64 (by decide) (by decide))) ?_
  refine lv_if_ne (tgt := 18) hx hb dX8_append_9 (by decide) (fun c_1 => ?_) (fun c_1 => ?_)
  · skip
    have c_1 := bI_n0 c_1
    refine lv_aload_n hx hb dX8_append_18 rfl (lv_at hl 0 rfl) ?_
    refine va_get (D := D) (ci := 8) (v := .int (V 4)) (C := RX8) (T := TX8) (N := 13) hx hb hts wsI_X8 hown hK hP 0 rfl rfl 9 (by decide) (hts _ w_fl_X8_157) (fun _ h9 => h9) rfl dX8_append_19 ?_
    refine z_top (y := nI L) h4 ?_
    refine lv_bipush (v := 100) hx hb dX8_append_22 (by decide) ?_
    refine lv_icmp_ne (tgt := 33) hx hb dX8_append_24 (by decide) (fun c_2 => ?_) (fun c_2 => ?_)
    · skip
      refine lv_aload_n hx hb dX8_append_33 rfl (lv_at hl 0 rfl) ?_
      refine va_get (D := D) (ci := 8) (v := .ref (a 5)) (C := RX8) (T := TX8) (N := 13) hx hb hts wsI_X8 hown hK hP 0 rfl rfl 8 (by decide) (hts _ w_fl_X8_22) (fun _ h9 => h9) rfl dX8_append_34 ?_
      refine lv_aload_n hx hb dX8_append_37 rfl (lv_at hl 0 rfl) ?_
      refine va_get (D := D) (ci := 8) (v := .int (V 4)) (C := RX8) (T := TX8) (N := 13) hx hb hts wsI_X8 hown hK hP 0 rfl rfl 9 (by decide) (hts _ w_fl_X8_157) (fun _ h9 => h9) rfl dX8_append_38 ?_
      refine z_top (y := nI L) h4 ?_
      refine lv_iload_n hx hb dX8_append_41 rfl (lv_at hl 1 rfl) ?_
      refine z_iast (k := L) hx hb hK hP hD hS 5 rfl (by omega) (by first | decide | omega) dX8_append_42 (fun H locs hP hD hS => ?_)
      have hP : va_P D vwCl (refW cs a V (zU G 4 (upd (G 4) L v))) H := hP
      have hD : va_D A (refW cs a V (zU G 4 (upd (G 4) L v))) := hD
      refine lv_aload_n hx hb dX8_append_43 rfl (lv_at hl 0 rfl) ?_
      refine lv_dup hx hb dX8_append_44 rfl ?_
      refine va_get (D := D) (ci := 8) (v := .int (V 4)) (C := RX8) (T := TX8) (N := 13) hx hb hts wsI_X8 hown hK hP 0 rfl rfl 9 (by decide) (hts _ w_fl_X8_157) (fun _ h9 => h9) rfl dX8_append_45 ?_
      refine z_top (y := nI L) h4 ?_
      refine lv_iconst (v := 1) hx hb dX8_append_48 (by decide) ?_
      refine lv_iadd hx hb dX8_append_49 ?_
      refine z_top (y := nI (L + 1)) (nI_add L 1) ?_
      refine va_put (D := D) (ci := 8) (v := .int (nI (L + 1))) (C := RX8) (T := TX8) (N := 13) hx hb hts wsI_X8 tyX8 tyX8_ok nmX8 hown hK hP hD hS 0 rfl rfl 9 (by decide) (hts _ w_fl_X8_157) (fun _ h9 => h9) rfl (tyX8_ok 9 (by decide)) rfl rfl (Nat.le_of_ble_eq_true rfl) dX8_append_50 (fun H locs hP hD hS => ?_)
      have hP : va_P D vwCl (refW cs a (upd V 4 (nI (L + 1))) (zU G 4 (upd (G 4) L v))) H := hP
      have hD : va_D A (refW cs a (upd V 4 (nI (L + 1))) (zU G 4 (upd (G 4) L v))) := hD
      refine lv_aload_n hx hb dX8_append_53 rfl (lv_at hl 0 rfl) ?_
      refine lv_aload_n hx hb dX8_append_54 rfl (lv_at hl 0 rfl) ?_
      refine va_get (D := D) (ci := 8) (v := .int (nI (L + 1))) (C := RX8) (T := TX8) (N := 13) hx hb hts wsI_X8 hown hK hP 0 rfl rfl 9 (by decide) (hts _ w_fl_X8_157) (fun _ h9 => h9) rfl dX8_append_55 ?_
      refine z_callV (wn := (refW cs a (upd (upd V 1 0) 4 (nI (L + 1))) (zU G 4 (upd (G 4) L v)))) ⟨hx, hb, hml, hown, hts⟩ zY_X8_fine w_im_yX8_fine w_se_yX8_fine w_ml_X8_65 [.int (nI (L + 1))] [] (c_X8_fine l D cs a (upd V 4 (nI (L + 1))) (zU G 4 (upd (G 4) L v)) (nI (L + 1))) hE hK hA hP hD hS [0, 1, 2, 3, 4, 5, 6] rfl rfl rfl rfl 8 rfl rfl rfl rfl hl.1 (Nat.le_of_ble_eq_true rfl) ⟨Nat.le_of_ble_eq_true rfl, Nat.le_of_ble_eq_true rfl⟩ ⟨Nat.le_of_ble_eq_true rfl, Nat.le_of_ble_eq_true rfl⟩ dX8_append_58 (fun H locs hP hD hS => ?_)
      exact z_iret hx hb hr hlk hK hP hD hS dX8_append_61 rfl rfl
    · skip
      exact absurd c_2 q1
  · skip
    have c_1 := bI_0.mp c_1
    exact absurd q0 c_1

set_option maxHeartbeats 4000000 in
set_option maxRecDepth 100000 in
theorem c_X8_clearText (l : Launch) (D : va_G) (cs : zCs) (a : Nat → Nat) (V : Nat → Int32) (G : Nat → Nat → Int32)  : zM l D cs yX8_clearText cX8_clearText 2 (some FieldType.int) 1 21 0 0 [.ref (a 0)] (refW cs a V G) (some (.int (V 4))) (refW cs a (upd (upd V 1 0) 4 0) G) := by
  refine zM.of (own := RX8) (by decide) (Nat.le_of_ble_eq_true rfl) rfl ?_
  intro pq eq s mq below meth cq A ls hx hb hr hml hown hts hlk hnm hE hK hA hP hD hS hl
  have hl : lv_has ls 2 [(0, .ref (a 0))] := hl
  refine lv_aload_n hx hb dX8_clearText_0 rfl (lv_at hl 0 rfl) ?_
  refine va_get (D := D) (ci := 8) (v := .int (V 4)) (C := RX8) (T := TX8) (N := 13) hx hb hts wsI_X8 hown hK hP 0 rfl rfl 9 (by decide) (hts _ w_fl_X8_157) (fun _ h9 => h9) rfl dX8_clearText_1 ?_
  refine lv_istore_n (lv' := [(1, .int (V 4)), (0, .ref (a 0))]) hx hb dX8_clearText_4 rfl hl (by decide) rfl (fun ls hl => ?_)
  refine lv_aload_n hx hb dX8_clearText_5 rfl (lv_at hl 1 rfl) ?_
  refine lv_iconst (v := 0) hx hb dX8_clearText_6 (by decide) ?_
  refine va_put (D := D) (ci := 8) (v := .int 0) (C := RX8) (T := TX8) (N := 13) hx hb hts wsI_X8 tyX8 tyX8_ok nmX8 hown hK hP hD hS 0 rfl rfl 9 (by decide) (hts _ w_fl_X8_157) (fun _ h9 => h9) rfl (tyX8_ok 9 (by decide)) rfl rfl (Nat.le_of_ble_eq_true rfl) dX8_clearText_7 (fun H locs hP hD hS => ?_)
  have hP : va_P D vwCl (refW cs a (upd V 4 0) G) H := hP
  have hD : va_D A (refW cs a (upd V 4 0) G) := hD
  refine lv_aload_n hx hb dX8_clearText_10 rfl (lv_at hl 1 rfl) ?_
  refine lv_iload_n hx hb dX8_clearText_11 rfl (lv_at hl 0 rfl) ?_
  refine z_callV (wn := (refW cs a (upd (upd V 1 0) 4 0) G)) ⟨hx, hb, hml, hown, hts⟩ zY_X8_fine w_im_yX8_fine w_se_yX8_fine w_ml_X8_65 [.int (V 4)] [] (c_X8_fine l D cs a (upd V 4 0) G (V 4)) hE hK hA hP hD hS [0, 1, 2, 3, 4, 5, 6] rfl rfl rfl rfl 8 rfl rfl rfl rfl hl.1 (Nat.le_of_ble_eq_true rfl) ⟨Nat.le_of_ble_eq_true rfl, Nat.le_of_ble_eq_true rfl⟩ ⟨Nat.le_of_ble_eq_true rfl, Nat.le_of_ble_eq_true rfl⟩ dX8_clearText_12 (fun H locs hP hD hS => ?_)
  exact z_iret hx hb hr hlk hK hP hD hS dX8_clearText_15 rfl rfl
