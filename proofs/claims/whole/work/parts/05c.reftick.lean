
set_option maxHeartbeats 4000000 in
set_option maxRecDepth 100000 in
theorem c_X8_tick (l : Launch) (D : va_G) (cs : zCs) (a : Nat → Nat) (V : Nat → Int32) (G : Nat → Nat → Int32) (hok : rOK (G 0)) : zM l D cs yX8_tick cX8_tick 2 none 4 91 0 0 [.ref (a 0)] (refW cs a V G) none (refW cs a (upd (upd V 2 (bI (rWent (rT0 (G 0))))) 3 (bI (rAllN (rT0 (G 0)) 5))) (zU G 0 (rTk (G 0)))) := by
  refine zM.of (own := RX8) (by decide) (Nat.le_of_ble_eq_true rfl) rfl ?_
  intro pq eq s mq below meth cq A ls hx hb hr hml hown hts hlk hnm hE hK hA hP hD hS hl
  have hl : lv_has ls 2 [(0, .ref (a 0))] := hl
  have hok1 := rOK_T0 hok
  have hok2 := rOK_dr hok1
  obtain ⟨⟨n0, hn0, en⟩, ⟨at0, ha0, ea⟩, -, -⟩ := id hok1
  refine lv_aload_n hx hb dX8_tick_0 rfl (lv_at hl 0 rfl) ?_
  refine va_get (D := D) (ci := 8) (v := .ref (a 1)) (C := RX8) (T := TX8) (N := 13) hx hb hts wsI_X8 hown hK hP 0 rfl rfl 0 (by decide) (hts _ w_fl_X8_7) (fun _ h9 => h9) rfl dX8_tick_1 ?_
  refine lv_bipush (v := 12) hx hb dX8_tick_4 (by decide) ?_
  refine lv_dup2_11 hx hb dX8_tick_6 rfl rfl ?_
  refine z_iald (k := 12) hx hb hK hP 1 rfl (by decide) (by first | decide | omega) dX8_tick_7 ?_
  refine lv_aload_n hx hb dX8_tick_8 rfl (lv_at hl 0 rfl) ?_
  refine va_get (D := D) (ci := 8) (v := .ref (a 1)) (C := RX8) (T := TX8) (N := 13) hx hb hts wsI_X8 hown hK hP 0 rfl rfl 0 (by decide) (hts _ w_fl_X8_7) (fun _ h9 => h9) rfl dX8_tick_9 ?_
  refine lv_bipush (v := 7) hx hb dX8_tick_12 (by decide) ?_
  refine z_iald (k := 7) hx hb hK hP 1 rfl (by decide) (by first | decide | omega) dX8_tick_14 ?_
  refine lv_iadd hx hb dX8_tick_15 ?_
  refine z_iast (k := 12) hx hb hK hP hD hS 1 rfl (by decide) (by first | decide | omega) dX8_tick_16 (fun H locs hP hD hS => ?_)
  have hP : va_P D vwCl (refW cs a V (zU G 0 (upd (G 0) 12 (((G 0) 12) + ((G 0) 7))))) H := hP
  have hD : va_D A (refW cs a V (zU G 0 (upd (G 0) 12 (((G 0) 12) + ((G 0) 7))))) := hD
  have hP : va_P D vwCl (refW cs a V (zU G 0 (rA1 (G 0)))) H := hP
  have hD : va_D A (refW cs a V (zU G 0 (rA1 (G 0)))) := hD
  refine lv_aload_n hx hb dX8_tick_17 rfl (lv_at hl 0 rfl) ?_
  refine va_get (D := D) (ci := 8) (v := .ref (a 1)) (C := RX8) (T := TX8) (N := 13) hx hb hts wsI_X8 hown hK hP 0 rfl rfl 0 (by decide) (hts _ w_fl_X8_7) (fun _ h9 => h9) rfl dX8_tick_18 ?_
  refine lv_iconst (v := 5) hx hb dX8_tick_21 (by decide) ?_
  refine lv_dup2_11 hx hb dX8_tick_22 rfl rfl ?_
  refine z_iald (k := 5) hx hb hK hP 1 rfl (by decide) (by first | decide | omega) dX8_tick_23 ?_
  refine lv_aload_n hx hb dX8_tick_24 rfl (lv_at hl 0 rfl) ?_
  refine va_get (D := D) (ci := 8) (v := .ref (a 1)) (C := RX8) (T := TX8) (N := 13) hx hb hts wsI_X8 hown hK hP 0 rfl rfl 0 (by decide) (hts _ w_fl_X8_7) (fun _ h9 => h9) rfl dX8_tick_25 ?_
  refine lv_bipush (v := 7) hx hb dX8_tick_28 (by decide) ?_
  refine z_iald (k := 7) hx hb hK hP 1 rfl (by decide) (by first | decide | omega) dX8_tick_30 ?_
  refine lv_iadd hx hb dX8_tick_31 ?_
  refine z_iast (k := 5) hx hb hK hP hD hS 1 rfl (by decide) (by first | decide | omega) dX8_tick_32 (fun H locs hP hD hS => ?_)
  have hP : va_P D vwCl (refW cs a V (zU G 0 (upd (rA1 (G 0)) 5 (((rA1 (G 0)) 5) + ((rA1 (G 0)) 7))))) H := hP
  have hD : va_D A (refW cs a V (zU G 0 (upd (rA1 (G 0)) 5 (((rA1 (G 0)) 5) + ((rA1 (G 0)) 7))))) := hD
  have hP : va_P D vwCl (refW cs a V (zU G 0 (rA2 (rA1 (G 0))))) H := hP
  have hD : va_D A (refW cs a V (zU G 0 (rA2 (rA1 (G 0))))) := hD
  refine lv_aload_n hx hb dX8_tick_33 rfl (lv_at hl 0 rfl) ?_
  refine z_callV (wn := (refW cs a V (zU G 0 (rOff (rA2 (rA1 (G 0))))))) ⟨hx, hb, hml, hown, hts⟩ zY_X8_letsOff w_im_yX8_letsOff w_se_yX8_letsOff w_ml_X8_85 [] [] (c_X8_letsOff l D cs a V (zU G 0 (rA2 (rA1 (G 0))))) hE hK hA hP hD hS [0, 1, 2, 3, 4, 5, 6] rfl rfl rfl rfl 8 rfl rfl rfl rfl hl.1 (Nat.le_of_ble_eq_true rfl) ⟨Nat.le_of_ble_eq_true rfl, Nat.le_of_ble_eq_true rfl⟩ ⟨Nat.le_of_ble_eq_true rfl, Nat.le_of_ble_eq_true rfl⟩ dX8_tick_34 (fun H locs hP hD hS => ?_)
  refine lv_aload_n hx hb dX8_tick_37 rfl (lv_at hl 0 rfl) ?_
  refine va_get (D := D) (ci := 8) (v := .ref (a 1)) (C := RX8) (T := TX8) (N := 13) hx hb hts wsI_X8 hown hK hP 0 rfl rfl 0 (by decide) (hts _ w_fl_X8_7) (fun _ h9 => h9) rfl dX8_tick_38 ?_
  refine lv_iconst (v := 2) hx hb dX8_tick_41 (by decide) ?_
  refine lv_dup2_11 hx hb dX8_tick_42 rfl rfl ?_
  refine z_iald (k := 2) hx hb hK hP 1 rfl (by decide) (by first | decide | omega) dX8_tick_43 ?_
  refine lv_iconst (v := 1) hx hb dX8_tick_44 (by decide) ?_
  refine lv_iadd hx hb dX8_tick_45 ?_
  refine z_iast (k := 2) hx hb hK hP hD hS 1 rfl (by decide) (by first | decide | omega) dX8_tick_46 (fun H locs hP hD hS => ?_)
  have hP : va_P D vwCl (refW cs a V (zU G 0 (upd (rOff (rA2 (rA1 (G 0)))) 2 (((rOff (rA2 (rA1 (G 0)))) 2) + 1)))) H := hP
  have hD : va_D A (refW cs a V (zU G 0 (upd (rOff (rA2 (rA1 (G 0)))) 2 (((rOff (rA2 (rA1 (G 0)))) 2) + 1)))) := hD
  have hP : va_P D vwCl (refW cs a V (zU G 0 (rT0 (G 0)))) H := hP
  have hD : va_D A (refW cs a V (zU G 0 (rT0 (G 0)))) := hD
  refine lv_aload_n hx hb dX8_tick_47 rfl (lv_at hl 0 rfl) ?_
  have jn83 : ∀ (H : Heap) (locs : List Loc) (ls : Array Slot), va_P D vwCl (refW cs a V (zU G 0 (rT0 (G 0)))) H → va_D A (refW cs a V (zU G 0 (rT0 (G 0)))) → va_S A s.heap H locs → lv_has ls 2 [(0, .ref (a 0))] → W pq l eq ({ frames := 4, cells := 0, slots := 0, locals := 91 } : Room) s mq ([.ref (a 0)] : List Value).toArray below meth cq H locs 0 0 (MQ below (zQ D cs none (refW cs a (upd (upd V 2 (bI (rWent (rT0 (G 0))))) 3 (bI (rAllN (rT0 (G 0)) 5))) (zU G 0 (rTk (G 0)))) A) ([.ref (a 0)] : List Value).toArray s 0 0 A) (F0 mq 83 ls [.int (bI (rWent (rT0 (G 0)))), .ref (a 0)]) := by
    intro   H locs ls hP hD hS hl
    refine va_put (D := D) (ci := 8) (v := .int (bI (rWent (rT0 (G 0))))) (C := RX8) (T := TX8) (N := 13) hx hb hts wsI_X8 tyX8 tyX8_ok nmX8 hown hK hP hD hS 0 rfl rfl 5 (by decide) (hts _ w_fl_X8_99) (fun _ h9 => h9) rfl (tyX8_ok 5 (by decide)) bI_nar bI_fit (Nat.le_of_ble_eq_true rfl) dX8_tick_83 (fun H locs hP hD hS => ?_)
    have hP : va_P D vwCl (refW cs a (upd V 2 (bI (rWent (rT0 (G 0))))) (zU G 0 (rT0 (G 0)))) H := hP
    have hD : va_D A (refW cs a (upd V 2 (bI (rWent (rT0 (G 0))))) (zU G 0 (rT0 (G 0)))) := hD
    refine lv_aload_n hx hb dX8_tick_86 rfl (lv_at hl 0 rfl) ?_
    refine lv_aload_n hx hb dX8_tick_87 rfl (lv_at hl 0 rfl) ?_
    refine z_callV (wn := (refW cs a (upd V 2 (bI (rWent (rT0 (G 0))))) (zU G 0 (rT0 (G 0))))) ⟨hx, hb, hml, hown, hts⟩ zY_X8_areOut w_im_yX8_areOut w_se_yX8_areOut w_ml_X8_103 [] [.ref (a 0)] (c_X8_areOut l D cs a (upd V 2 (bI (rWent (rT0 (G 0))))) (zU G 0 (rT0 (G 0)))) hE hK hA hP hD hS [0, 1, 2, 3, 4, 5, 6] rfl rfl rfl rfl 8 rfl rfl rfl rfl hl.1 (Nat.le_of_ble_eq_true rfl) ⟨Nat.le_of_ble_eq_true rfl, Nat.le_of_ble_eq_true rfl⟩ ⟨Nat.le_of_ble_eq_true rfl, Nat.le_of_ble_eq_true rfl⟩ dX8_tick_88 (fun H locs hP hD hS => ?_)
    refine va_put (D := D) (ci := 8) (v := .int (bI (rAllN (rT0 (G 0)) 5))) (C := RX8) (T := TX8) (N := 13) hx hb hts wsI_X8 tyX8 tyX8_ok nmX8 hown hK hP hD hS 0 rfl rfl 6 (by decide) (hts _ w_fl_X8_107) (fun _ h9 => h9) rfl (tyX8_ok 6 (by decide)) bI_nar bI_fit (Nat.le_of_ble_eq_true rfl) dX8_tick_91 (fun H locs hP hD hS => ?_)
    have hP : va_P D vwCl (refW cs a (upd (upd V 2 (bI (rWent (rT0 (G 0))))) 3 (bI (rAllN (rT0 (G 0)) 5))) (zU G 0 (rT0 (G 0)))) H := hP
    have hD : va_D A (refW cs a (upd (upd V 2 (bI (rWent (rT0 (G 0))))) 3 (bI (rAllN (rT0 (G 0)) 5))) (zU G 0 (rT0 (G 0)))) := hD
    have jn225 : ∀ (H : Heap) (locs : List Loc) (ls : Array Slot), va_P D vwCl (refW cs a (upd (upd V 2 (bI (rWent (rT0 (G 0))))) 3 (bI (rAllN (rT0 (G 0)) 5))) (zU G 0 (rDr (rT0 (G 0))))) H → va_D A (refW cs a (upd (upd V 2 (bI (rWent (rT0 (G 0))))) 3 (bI (rAllN (rT0 (G 0)) 5))) (zU G 0 (rDr (rT0 (G 0))))) → va_S A s.heap H locs → lv_has ls 2 [(0, .ref (a 0))] → W pq l eq ({ frames := 4, cells := 0, slots := 0, locals := 91 } : Room) s mq ([.ref (a 0)] : List Value).toArray below meth cq H locs 0 0 (MQ below (zQ D cs none (refW cs a (upd (upd V 2 (bI (rWent (rT0 (G 0))))) 3 (bI (rAllN (rT0 (G 0)) 5))) (zU G 0 (rTk (G 0)))) A) ([.ref (a 0)] : List Value).toArray s 0 0 A) (F0 mq 225 ls []) := by
      intro   H locs ls hP hD hS hl
      refine lv_iconst (v := 0) hx hb dX8_tick_225 (by decide) ?_
      refine lv_istore_n (lv' := [(1, .int 0), (0, .ref (a 0))]) hx hb dX8_tick_226 rfl hl (by decide) rfl (fun ls hl => ?_)
      have lp227 : ∀ (k : Nat) (i : Nat), (i ≤ 5) → (6 ≤ i + k) → ∀ (H : Heap) (locs : List Loc) (ls : Array Slot), va_P D vwCl (refW cs a (upd (upd V 2 (bI (rWent (rT0 (G 0))))) 3 (bI (rAllN (rT0 (G 0)) 5))) (zU G 0 (rMvN (rDr (rT0 (G 0))) i))) H → va_D A (refW cs a (upd (upd V 2 (bI (rWent (rT0 (G 0))))) 3 (bI (rAllN (rT0 (G 0)) 5))) (zU G 0 (rMvN (rDr (rT0 (G 0))) i))) → va_S A s.heap H locs → lv_has ls 2 [(0, .ref (a 0)), (1, .int (nI i))] → W pq l eq ({ frames := 4, cells := 0, slots := 0, locals := 91 } : Room) s mq ([.ref (a 0)] : List Value).toArray below meth cq H locs 0 0 (MQ below (zQ D cs none (refW cs a (upd (upd V 2 (bI (rWent (rT0 (G 0))))) 3 (bI (rAllN (rT0 (G 0)) 5))) (zU G 0 (rTk (G 0)))) A) ([.ref (a 0)] : List Value).toArray s 0 0 A) (F0 mq 227 ls []) := by
        intro k
        induction k with
        | zero =>
          intro i h1 h2 H locs ls hP hD hS hl
          omega
        | succ k ih =>
          intro i h1 h2 H locs ls hP hD hS hl
          refine lv_iload_n hx hb dX8_tick_227 rfl (lv_at hl 1 rfl) ?_
          refine lv_iconst (v := 5) hx hb dX8_tick_228 (by decide) ?_
          refine lv_icmp_ge (tgt := 243) hx hb dX8_tick_229 (by decide) (fun c_1 => ?_) (fun c_1 => ?_)
          · skip
            have h5 := z_le5 h1 c_1
            subst h5
            refine lv_iconst (v := 0) hx hb dX8_tick_243 (by decide) ?_
            refine lv_istore_n (lv' := [(1, .int 0), (0, .ref (a 0))]) hx hb dX8_tick_244 rfl hl (by decide) rfl (fun ls hl => ?_)
            have lp245 : ∀ (k : Nat) (j : Nat), (j ≤ 5) → (6 ≤ j + k) → ∀ (H : Heap) (locs : List Loc) (ls : Array Slot), va_P D vwCl (refW cs a (upd (upd V 2 (bI (rWent (rT0 (G 0))))) 3 (bI (rAllN (rT0 (G 0)) 5))) (zU G 0 (rLkN (rMvN (rDr (rT0 (G 0))) 5) j))) H → va_D A (refW cs a (upd (upd V 2 (bI (rWent (rT0 (G 0))))) 3 (bI (rAllN (rT0 (G 0)) 5))) (zU G 0 (rLkN (rMvN (rDr (rT0 (G 0))) 5) j))) → va_S A s.heap H locs → lv_has ls 2 [(0, .ref (a 0)), (1, .int (nI j))] → W pq l eq ({ frames := 4, cells := 0, slots := 0, locals := 91 } : Room) s mq ([.ref (a 0)] : List Value).toArray below meth cq H locs 0 0 (MQ below (zQ D cs none (refW cs a (upd (upd V 2 (bI (rWent (rT0 (G 0))))) 3 (bI (rAllN (rT0 (G 0)) 5))) (zU G 0 (rTk (G 0)))) A) ([.ref (a 0)] : List Value).toArray s 0 0 A) (F0 mq 245 ls []) := by
              intro k
              induction k with
              | zero =>
                intro j h1 h2 H locs ls hP hD hS hl
                omega
              | succ k ih =>
                intro j h1 h2 H locs ls hP hD hS hl
                refine lv_iload_n hx hb dX8_tick_245 rfl (lv_at hl 1 rfl) ?_
                refine lv_iconst (v := 5) hx hb dX8_tick_246 (by decide) ?_
                refine lv_icmp_ge (tgt := 261) hx hb dX8_tick_247 (by decide) (fun c_2 => ?_) (fun c_2 => ?_)
                · skip
                  have h5 := z_le5 h1 c_2
                  subst h5
                  obtain ⟨-, ⟨a1, ha1, ea1⟩, -, -⟩ := rOK_lkN (rOK_mvN hok2 (Nat.le_refl 5)) (Nat.le_refl 5)
                  refine lv_iconst (v := 0) hx hb dX8_tick_261 (by decide) ?_
                  refine lv_istore_n (lv' := [(1, .int 0), (0, .ref (a 0))]) hx hb dX8_tick_262 rfl hl (by decide) rfl (fun ls hl => ?_)
                  have lp263 : ∀ (k : Nat) (h : Nat), (h ≤ 5) → (6 ≤ h + k) → ∀ (H : Heap) (locs : List Loc) (ls : Array Slot), va_P D vwCl (refW cs a (upd (upd V 2 (bI (rWent (rT0 (G 0))))) 3 (bI (rAllN (rT0 (G 0)) 5))) (zU G 0 (rNtN (rLkN (rMvN (rDr (rT0 (G 0))) 5) 5) a1 h))) H → va_D A (refW cs a (upd (upd V 2 (bI (rWent (rT0 (G 0))))) 3 (bI (rAllN (rT0 (G 0)) 5))) (zU G 0 (rNtN (rLkN (rMvN (rDr (rT0 (G 0))) 5) 5) a1 h))) → va_S A s.heap H locs → lv_has ls 2 [(0, .ref (a 0)), (1, .int (nI h))] → W pq l eq ({ frames := 4, cells := 0, slots := 0, locals := 91 } : Room) s mq ([.ref (a 0)] : List Value).toArray below meth cq H locs 0 0 (MQ below (zQ D cs none (refW cs a (upd (upd V 2 (bI (rWent (rT0 (G 0))))) 3 (bI (rAllN (rT0 (G 0)) 5))) (zU G 0 (rTk (G 0)))) A) ([.ref (a 0)] : List Value).toArray s 0 0 A) (F0 mq 263 ls []) := by
                    intro k
                    induction k with
                    | zero =>
                      intro h h1 h2 H locs ls hP hD hS hl
                      omega
                    | succ k ih =>
                      intro h h1 h2 H locs ls hP hD hS hl
                      refine lv_iload_n hx hb dX8_tick_263 rfl (lv_at hl 1 rfl) ?_
                      refine lv_iconst (v := 5) hx hb dX8_tick_264 (by decide) ?_
                      refine lv_icmp_ge (tgt := 298) hx hb dX8_tick_265 (by decide) (fun c_3 => ?_) (fun c_3 => ?_)
                      · skip
                        have h5 := z_le5 h1 c_3
                        subst h5
                        have e7 : rNtN (rLkN (rMvN (rDr (rT0 (G 0))) 5) 5) a1 5 = rN5 (rLkN (rMvN (rDr (rT0 (G 0))) 5) 5) := by unfold rN5; rw [ea1, nN_nI (by omega)]
                        rw [e7] at hP hD
                        refine lv_aload_n hx hb dX8_tick_298 rfl (lv_at hl 0 rfl) ?_
                        refine va_get (D := D) (ci := 8) (v := .ref (a 1)) (C := RX8) (T := TX8) (N := 13) hx hb hts wsI_X8 hown hK hP 0 rfl rfl 0 (by decide) (hts _ w_fl_X8_7) (fun _ h9 => h9) rfl dX8_tick_299 ?_
                        refine lv_bipush (v := 9) hx hb dX8_tick_302 (by decide) ?_
                        refine lv_dup2_11 hx hb dX8_tick_304 rfl rfl ?_
                        refine z_iald (k := 9) hx hb hK hP 1 rfl (by decide) (by first | decide | omega) dX8_tick_305 ?_
                        refine lv_iconst (v := 1) hx hb dX8_tick_306 (by decide) ?_
                        refine lv_iadd hx hb dX8_tick_307 ?_
                        refine z_iast (k := 9) hx hb hK hP hD hS 1 rfl (by decide) (by first | decide | omega) dX8_tick_308 (fun H locs hP hD hS => ?_)
                        have hP : va_P D vwCl (refW cs a (upd (upd V 2 (bI (rWent (rT0 (G 0))))) 3 (bI (rAllN (rT0 (G 0)) 5))) (zU G 0 (upd (rN5 (rLkN (rMvN (rDr (rT0 (G 0))) 5) 5)) 9 (((rN5 (rLkN (rMvN (rDr (rT0 (G 0))) 5) 5)) 9) + 1)))) H := hP
                        have hD : va_D A (refW cs a (upd (upd V 2 (bI (rWent (rT0 (G 0))))) 3 (bI (rAllN (rT0 (G 0)) 5))) (zU G 0 (upd (rN5 (rLkN (rMvN (rDr (rT0 (G 0))) 5) 5)) 9 (((rN5 (rLkN (rMvN (rDr (rT0 (G 0))) 5) 5)) 9) + 1)))) := hD
                        exact z_vret hx hb hr hlk hK hP hD hS dX8_tick_309 rfl rfl
                      · skip
                        have h4 : h < 5 := z_ge5 h1 c_3
                        refine lv_aload_n hx hb dX8_tick_268 rfl (lv_at hl 0 rfl) ?_
                        refine va_get (D := D) (ci := 8) (v := .ref (a 1)) (C := RX8) (T := TX8) (N := 13) hx hb hts wsI_X8 hown hK hP 0 rfl rfl 0 (by decide) (hts _ w_fl_X8_7) (fun _ h9 => h9) rfl dX8_tick_269 ?_
                        refine lv_bipush (v := 63) hx hb dX8_tick_272 (by decide) ?_
                        refine lv_bipush (v := 16) hx hb dX8_tick_274 (by decide) ?_
                        refine lv_iload_n hx hb dX8_tick_276 rfl (lv_at hl 1 rfl) ?_
                        refine lv_imul hx hb dX8_tick_277 ?_
                        refine z_top (y := nI (16 * h)) (pk_mul 16 h) ?_
                        refine lv_iadd hx hb dX8_tick_278 ?_
                        refine z_top (y := nI (63 + (16 * h))) (nI_add 63 (16 * h)) ?_
                        refine lv_aload_n hx hb dX8_tick_279 rfl (lv_at hl 0 rfl) ?_
                        refine va_get (D := D) (ci := 8) (v := .ref (a 1)) (C := RX8) (T := TX8) (N := 13) hx hb hts wsI_X8 hown hK hP 0 rfl rfl 0 (by decide) (hts _ w_fl_X8_7) (fun _ h9 => h9) rfl dX8_tick_280 ?_
                        refine lv_iconst (v := 1) hx hb dX8_tick_283 (by decide) ?_
                        refine z_iald (k := 1) hx hb hK hP 1 rfl (by decide) (by first | decide | omega) dX8_tick_284 ?_
                        refine z_top (y := nI a1) ((rNt_1 _ _ _).trans ea1) ?_
                        refine lv_iadd hx hb dX8_tick_285 ?_
                        refine z_top (y := nI ((63 + (16 * h)) + a1)) (nI_add (63 + (16 * h)) a1) ?_
                        refine lv_aload_n hx hb dX8_tick_286 rfl (lv_at hl 0 rfl) ?_
                        refine lv_iload_n hx hb dX8_tick_287 rfl (lv_at hl 1 rfl) ?_
                        refine z_callV (wn := (refW cs a (upd (upd V 2 (bI (rWent (rT0 (G 0))))) 3 (bI (rAllN (rT0 (G 0)) 5))) (zU G 0 (rNtN (rLkN (rMvN (rDr (rT0 (G 0))) 5) 5) a1 h)))) ⟨hx, hb, hml, hown, hts⟩ zY_X8_out w_im_yX8_out w_se_yX8_out w_ml_X8_76 [.int (nI h)] [.int (nI ((63 + (16 * h)) + a1)), .ref (a 1)] (c_X8_out l D cs a (upd (upd V 2 (bI (rWent (rT0 (G 0))))) 3 (bI (rAllN (rT0 (G 0)) 5))) (zU G 0 (rNtN (rLkN (rMvN (rDr (rT0 (G 0))) 5) 5) a1 h)) h h4) hE hK hA hP hD hS [0, 1, 2, 3, 4, 5, 6] rfl rfl rfl rfl 8 rfl rfl rfl rfl hl.1 (Nat.le_of_ble_eq_true rfl) ⟨Nat.le_of_ble_eq_true rfl, Nat.le_of_ble_eq_true rfl⟩ ⟨Nat.le_of_ble_eq_true rfl, Nat.le_of_ble_eq_true rfl⟩ dX8_tick_288 (fun H locs hP hD hS => ?_)
                        refine z_iast (k := (63 + (16 * h)) + a1) hx hb hK hP hD hS 1 rfl (by omega) (by first | decide | omega) dX8_tick_291 (fun H locs hP hD hS => ?_)
                        have hP : va_P D vwCl (refW cs a (upd (upd V 2 (bI (rWent (rT0 (G 0))))) 3 (bI (rAllN (rT0 (G 0)) 5))) (zU G 0 (upd (rNtN (rLkN (rMvN (rDr (rT0 (G 0))) 5) 5) a1 h) ((63 + (16 * h)) + a1) ((rNtN (rLkN (rMvN (rDr (rT0 (G 0))) 5) 5) a1 h) (21 + 6 * h))))) H := hP
                        have hD : va_D A (refW cs a (upd (upd V 2 (bI (rWent (rT0 (G 0))))) 3 (bI (rAllN (rT0 (G 0)) 5))) (zU G 0 (upd (rNtN (rLkN (rMvN (rDr (rT0 (G 0))) 5) 5) a1 h) ((63 + (16 * h)) + a1) ((rNtN (rLkN (rMvN (rDr (rT0 (G 0))) 5) 5) a1 h) (21 + 6 * h))))) := hD
                        refine lv_iinc (v := nI (h + 1)) (lv' := [(1, .int (nI (h + 1))), (0, .ref (a 0))]) hx hb dX8_tick_292 hl (k := 1) rfl (show nI h + Int32.ofInt 1 = nI (h + 1) from nI_add h 1) (by decide) rfl (fun ls hl => ?_)
                        refine lv_goto (tgt := 263) hx hb dX8_tick_295 (by decide) ?_
                        exact ih (h + 1) (by omega) (by omega) _ _ _ hP hD hS (lv_sub hl [1, 0] rfl)
                  exact lp263 6 0 (by decide) (by decide) _ _ _ hP hD hS (lv_sub hl [1, 0] rfl)
                · skip
                  have h4 : j < 5 := z_ge5 h1 c_2
                  refine lv_aload_n hx hb dX8_tick_250 rfl (lv_at hl 0 rfl) ?_
                  refine lv_iload_n hx hb dX8_tick_251 rfl (lv_at hl 1 rfl) ?_
                  refine z_callV (wn := (refW cs a (upd (upd V 2 (bI (rWent (rT0 (G 0))))) 3 (bI (rAllN (rT0 (G 0)) 5))) (zU G 0 (rLk (rLkN (rMvN (rDr (rT0 (G 0))) 5) j) j)))) ⟨hx, hb, hml, hown, hts⟩ zY_X8_leaks w_im_yX8_leaks w_se_yX8_leaks w_ml_X8_114 [.int (nI j)] [] (c_X8_leaks l D cs a (upd (upd V 2 (bI (rWent (rT0 (G 0))))) 3 (bI (rAllN (rT0 (G 0)) 5))) (zU G 0 (rLkN (rMvN (rDr (rT0 (G 0))) 5) j)) j h4) hE hK hA hP hD hS [0, 1, 2, 3, 4, 5, 6] rfl rfl rfl rfl 8 rfl rfl rfl rfl hl.1 (Nat.le_of_ble_eq_true rfl) ⟨Nat.le_of_ble_eq_true rfl, Nat.le_of_ble_eq_true rfl⟩ ⟨Nat.le_of_ble_eq_true rfl, Nat.le_of_ble_eq_true rfl⟩ dX8_tick_252 (fun H locs hP hD hS => ?_)
                  refine lv_iinc (v := nI (j + 1)) (lv' := [(1, .int (nI (j + 1))), (0, .ref (a 0))]) hx hb dX8_tick_255 hl (k := 1) rfl (show nI j + Int32.ofInt 1 = nI (j + 1) from nI_add j 1) (by decide) rfl (fun ls hl => ?_)
                  refine lv_goto (tgt := 245) hx hb dX8_tick_258 (by decide) ?_
                  exact ih (j + 1) (by omega) (by omega) _ _ _ hP hD hS (lv_sub hl [1, 0] rfl)
            exact lp245 6 0 (by decide) (by decide) _ _ _ hP hD hS (lv_sub hl [1, 0] rfl)
          · skip
            have h4 : i < 5 := z_ge5 h1 c_1
            refine lv_aload_n hx hb dX8_tick_232 rfl (lv_at hl 0 rfl) ?_
            refine lv_iload_n hx hb dX8_tick_233 rfl (lv_at hl 1 rfl) ?_
            refine z_callV (wn := (refW cs a (upd (upd V 2 (bI (rWent (rT0 (G 0))))) 3 (bI (rAllN (rT0 (G 0)) 5))) (zU G 0 (rMv (rMvN (rDr (rT0 (G 0))) i) i)))) ⟨hx, hb, hml, hown, hts⟩ zY_X8_moves w_im_yX8_moves w_se_yX8_moves w_ml_X8_110 [.int (nI i)] [] (c_X8_moves l D cs a (upd (upd V 2 (bI (rWent (rT0 (G 0))))) 3 (bI (rAllN (rT0 (G 0)) 5))) (zU G 0 (rMvN (rDr (rT0 (G 0))) i)) i h4 (rOK_mvN hok2 (by omega))) hE hK hA hP hD hS [0, 1, 2, 3, 4, 5, 6] rfl rfl rfl rfl 8 rfl rfl rfl rfl hl.1 (Nat.le_of_ble_eq_true rfl) ⟨Nat.le_of_ble_eq_true rfl, Nat.le_of_ble_eq_true rfl⟩ ⟨Nat.le_of_ble_eq_true rfl, Nat.le_of_ble_eq_true rfl⟩ dX8_tick_234 (fun H locs hP hD hS => ?_)
            refine lv_iinc (v := nI (i + 1)) (lv' := [(1, .int (nI (i + 1))), (0, .ref (a 0))]) hx hb dX8_tick_237 hl (k := 1) rfl (show nI i + Int32.ofInt 1 = nI (i + 1) from nI_add i 1) (by decide) rfl (fun ls hl => ?_)
            refine lv_goto (tgt := 227) hx hb dX8_tick_240 (by decide) ?_
            exact ih (i + 1) (by omega) (by omega) _ _ _ hP hD hS (lv_sub hl [1, 0] rfl)
      exact lp227 6 0 (by decide) (by decide) _ _ _ hP hD hS (lv_sub hl [1, 0] rfl)
    refine lv_aload_n hx hb dX8_tick_94 rfl (lv_at hl 0 rfl) ?_
    refine va_get (D := D) (ci := 8) (v := .int (bI (rWent (rT0 (G 0))))) (C := RX8) (T := TX8) (N := 13) hx hb hts wsI_X8 hown hK hP 0 rfl rfl 5 (by decide) (hts _ w_fl_X8_99) (fun _ h9 => h9) rfl dX8_tick_95 ?_
    refine lv_if_eq (tgt := 149) hx hb dX8_tick_98 (by decide) (fun c_4 => ?_) (fun c_4 => ?_)
    · skip
      have c_4 := bI_0.mp c_4
      refine lv_aload_n hx hb dX8_tick_149 rfl (lv_at hl 0 rfl) ?_
      refine va_get (D := D) (ci := 8) (v := .ref (a 1)) (C := RX8) (T := TX8) (N := 13) hx hb hts wsI_X8 hown hK hP 0 rfl rfl 0 (by decide) (hts _ w_fl_X8_7) (fun _ h9 => h9) rfl dX8_tick_150 ?_
      refine lv_iconst (v := 2) hx hb dX8_tick_153 (by decide) ?_
      refine z_iald (k := 2) hx hb hK hP 1 rfl (by decide) (by first | decide | omega) dX8_tick_154 ?_
      refine lv_aload_n hx hb dX8_tick_155 rfl (lv_at hl 0 rfl) ?_
      refine va_get (D := D) (ci := 8) (v := .ref (a 1)) (C := RX8) (T := TX8) (N := 13) hx hb hts wsI_X8 hown hK hP 0 rfl rfl 0 (by decide) (hts _ w_fl_X8_7) (fun _ h9 => h9) rfl dX8_tick_156 ?_
      refine lv_iconst (v := 3) hx hb dX8_tick_159 (by decide) ?_
      refine z_iald (k := 3) hx hb hK hP 1 rfl (by decide) (by first | decide | omega) dX8_tick_160 ?_
      refine lv_icmp_lt (tgt := 194) hx hb dX8_tick_161 (by decide) (fun c_5 => ?_) (fun c_5 => ?_)
      · skip
        refine lv_aload_n hx hb dX8_tick_194 rfl (lv_at hl 0 rfl) ?_
        refine va_get (D := D) (ci := 8) (v := .ref (a 1)) (C := RX8) (T := TX8) (N := 13) hx hb hts wsI_X8 hown hK hP 0 rfl rfl 0 (by decide) (hts _ w_fl_X8_7) (fun _ h9 => h9) rfl dX8_tick_195 ?_
        refine lv_iconst (v := 2) hx hb dX8_tick_198 (by decide) ?_
        refine lv_aload_n hx hb dX8_tick_199 rfl (lv_at hl 0 rfl) ?_
        refine va_get (D := D) (ci := 8) (v := .ref (a 1)) (C := RX8) (T := TX8) (N := 13) hx hb hts wsI_X8 hown hK hP 0 rfl rfl 0 (by decide) (hts _ w_fl_X8_7) (fun _ h9 => h9) rfl dX8_tick_200 ?_
        refine lv_iconst (v := 2) hx hb dX8_tick_203 (by decide) ?_
        refine z_iald (k := 2) hx hb hK hP 1 rfl (by decide) (by first | decide | omega) dX8_tick_204 ?_
        refine lv_aload_n hx hb dX8_tick_205 rfl (lv_at hl 0 rfl) ?_
        refine va_get (D := D) (ci := 8) (v := .ref (a 1)) (C := RX8) (T := TX8) (N := 13) hx hb hts wsI_X8 hown hK hP 0 rfl rfl 0 (by decide) (hts _ w_fl_X8_7) (fun _ h9 => h9) rfl dX8_tick_206 ?_
        refine lv_iconst (v := 3) hx hb dX8_tick_209 (by decide) ?_
        refine z_iald (k := 3) hx hb hK hP 1 rfl (by decide) (by first | decide | omega) dX8_tick_210 ?_
        refine lv_icmp_lt (tgt := 218) hx hb dX8_tick_211 (by decide) (fun c_6 => ?_) (fun c_6 => ?_)
        · skip
          refine lv_aload_n hx hb dX8_tick_218 rfl (lv_at hl 0 rfl) ?_
          refine va_get (D := D) (ci := 8) (v := .ref (a 1)) (C := RX8) (T := TX8) (N := 13) hx hb hts wsI_X8 hown hK hP 0 rfl rfl 0 (by decide) (hts _ w_fl_X8_7) (fun _ h9 => h9) rfl dX8_tick_219 ?_
          refine lv_iconst (v := 2) hx hb dX8_tick_222 (by decide) ?_
          refine z_iald (k := 2) hx hb hK hP 1 rfl (by decide) (by first | decide | omega) dX8_tick_223 ?_
          refine z_top (y := if (rT0 (G 0)) 2 < (rT0 (G 0)) 3 then (rT0 (G 0)) 2 else 0) ((if_pos c_6).symm) ?_
          refine z_iast (k := 2) hx hb hK hP hD hS 1 rfl (by decide) (by first | decide | omega) dX8_tick_224 (fun H locs hP hD hS => ?_)
          have hP : va_P D vwCl (refW cs a (upd (upd V 2 (bI (rWent (rT0 (G 0))))) 3 (bI (rAllN (rT0 (G 0)) 5))) (zU G 0 (upd (rT0 (G 0)) 2 (if (rT0 (G 0)) 2 < (rT0 (G 0)) 3 then (rT0 (G 0)) 2 else 0)))) H := hP
          have hD : va_D A (refW cs a (upd (upd V 2 (bI (rWent (rT0 (G 0))))) 3 (bI (rAllN (rT0 (G 0)) 5))) (zU G 0 (upd (rT0 (G 0)) 2 (if (rT0 (G 0)) 2 < (rT0 (G 0)) 3 then (rT0 (G 0)) 2 else 0)))) := hD
          have hP : va_P D vwCl (refW cs a (upd (upd V 2 (bI (rWent (rT0 (G 0))))) 3 (bI (rAllN (rT0 (G 0)) 5))) (zU G 0 (rH (rT0 (G 0))))) H := hP
          have hD : va_D A (refW cs a (upd (upd V 2 (bI (rWent (rT0 (G 0))))) 3 (bI (rAllN (rT0 (G 0)) 5))) (zU G 0 (rH (rT0 (G 0))))) := hD
          have e1 : rDr (rT0 (G 0)) = rH (rT0 (G 0)) := congrArg rH ((if_neg c_4).trans (if_neg (show ¬ (rT0 (G 0)) 3 ≤ (rT0 (G 0)) 2 from Int32.not_le.mpr c_5)))
          rw [← e1] at hP hD
          exact jn225   _ _ _ hP hD hS (lv_sub hl [0] rfl)
        · skip
          refine lv_iconst (v := 0) hx hb dX8_tick_214 (by decide) ?_
          refine lv_goto (tgt := 224) hx hb dX8_tick_215 (by decide) ?_
          refine z_top (y := if (rT0 (G 0)) 2 < (rT0 (G 0)) 3 then (rT0 (G 0)) 2 else 0) ((if_neg c_6).symm) ?_
          refine z_iast (k := 2) hx hb hK hP hD hS 1 rfl (by decide) (by first | decide | omega) dX8_tick_224 (fun H locs hP hD hS => ?_)
          have hP : va_P D vwCl (refW cs a (upd (upd V 2 (bI (rWent (rT0 (G 0))))) 3 (bI (rAllN (rT0 (G 0)) 5))) (zU G 0 (upd (rT0 (G 0)) 2 (if (rT0 (G 0)) 2 < (rT0 (G 0)) 3 then (rT0 (G 0)) 2 else 0)))) H := hP
          have hD : va_D A (refW cs a (upd (upd V 2 (bI (rWent (rT0 (G 0))))) 3 (bI (rAllN (rT0 (G 0)) 5))) (zU G 0 (upd (rT0 (G 0)) 2 (if (rT0 (G 0)) 2 < (rT0 (G 0)) 3 then (rT0 (G 0)) 2 else 0)))) := hD
          have hP : va_P D vwCl (refW cs a (upd (upd V 2 (bI (rWent (rT0 (G 0))))) 3 (bI (rAllN (rT0 (G 0)) 5))) (zU G 0 (rH (rT0 (G 0))))) H := hP
          have hD : va_D A (refW cs a (upd (upd V 2 (bI (rWent (rT0 (G 0))))) 3 (bI (rAllN (rT0 (G 0)) 5))) (zU G 0 (rH (rT0 (G 0))))) := hD
          have e1 : rDr (rT0 (G 0)) = rH (rT0 (G 0)) := congrArg rH ((if_neg c_4).trans (if_neg (show ¬ (rT0 (G 0)) 3 ≤ (rT0 (G 0)) 2 from Int32.not_le.mpr c_5)))
          rw [← e1] at hP hD
          exact jn225   _ _ _ hP hD hS (lv_sub hl [0] rfl)
      · skip
        refine lv_aload_n hx hb dX8_tick_164 rfl (lv_at hl 0 rfl) ?_
        refine va_get (D := D) (ci := 8) (v := .ref (a 1)) (C := RX8) (T := TX8) (N := 13) hx hb hts wsI_X8 hown hK hP 0 rfl rfl 0 (by decide) (hts _ w_fl_X8_7) (fun _ h9 => h9) rfl dX8_tick_165 ?_
        refine lv_bipush (v := 11) hx hb dX8_tick_168 (by decide) ?_
        refine lv_dup2_11 hx hb dX8_tick_170 rfl rfl ?_
        refine z_iald (k := 11) hx hb hK hP 1 rfl (by decide) (by first | decide | omega) dX8_tick_171 ?_
        refine lv_iconst (v := 1) hx hb dX8_tick_172 (by decide) ?_
        refine lv_iadd hx hb dX8_tick_173 ?_
        refine z_iast (k := 11) hx hb hK hP hD hS 1 rfl (by decide) (by first | decide | omega) dX8_tick_174 (fun H locs hP hD hS => ?_)
        have hP : va_P D vwCl (refW cs a (upd (upd V 2 (bI (rWent (rT0 (G 0))))) 3 (bI (rAllN (rT0 (G 0)) 5))) (zU G 0 (upd (rT0 (G 0)) 11 (((rT0 (G 0)) 11) + 1)))) H := hP
        have hD : va_D A (refW cs a (upd (upd V 2 (bI (rWent (rT0 (G 0))))) 3 (bI (rAllN (rT0 (G 0)) 5))) (zU G 0 (upd (rT0 (G 0)) 11 (((rT0 (G 0)) 11) + 1)))) := hD
        have hP : va_P D vwCl (refW cs a (upd (upd V 2 (bI (rWent (rT0 (G 0))))) 3 (bI (rAllN (rT0 (G 0)) 5))) (zU G 0 (rS1 (rT0 (G 0))))) H := hP
        have hD : va_D A (refW cs a (upd (upd V 2 (bI (rWent (rT0 (G 0))))) 3 (bI (rAllN (rT0 (G 0)) 5))) (zU G 0 (rS1 (rT0 (G 0))))) := hD
        refine lv_aload_n hx hb dX8_tick_175 rfl (lv_at hl 0 rfl) ?_
        refine va_get (D := D) (ci := 8) (v := .ref (a 1)) (C := RX8) (T := TX8) (N := 13) hx hb hts wsI_X8 hown hK hP 0 rfl rfl 0 (by decide) (hts _ w_fl_X8_7) (fun _ h9 => h9) rfl dX8_tick_176 ?_
        refine lv_sipush (v := 143) hx hb dX8_tick_179 (by decide) ?_
        refine lv_aload_n hx hb dX8_tick_182 rfl (lv_at hl 0 rfl) ?_
        refine va_get (D := D) (ci := 8) (v := .ref (a 1)) (C := RX8) (T := TX8) (N := 13) hx hb hts wsI_X8 hown hK hP 0 rfl rfl 0 (by decide) (hts _ w_fl_X8_7) (fun _ h9 => h9) rfl dX8_tick_183 ?_
        refine lv_iconst (v := 1) hx hb dX8_tick_186 (by decide) ?_
        refine z_iald (k := 1) hx hb hK hP 1 rfl (by decide) (by first | decide | omega) dX8_tick_187 ?_
        refine z_top (y := nI at0) ea ?_
        refine lv_iadd hx hb dX8_tick_188 ?_
        refine z_top (y := nI (143 + at0)) (nI_add 143 at0) ?_
        refine lv_dup2_11 hx hb dX8_tick_189 rfl rfl ?_
        refine z_iald (k := 143 + at0) hx hb hK hP 1 rfl (by omega) (by first | decide | omega) dX8_tick_190 ?_
        refine lv_iconst (v := 1) hx hb dX8_tick_191 (by decide) ?_
        refine lv_iadd hx hb dX8_tick_192 ?_
        refine z_iast (k := 143 + at0) hx hb hK hP hD hS 1 rfl (by omega) (by first | decide | omega) dX8_tick_193 (fun H locs hP hD hS => ?_)
        have hP : va_P D vwCl (refW cs a (upd (upd V 2 (bI (rWent (rT0 (G 0))))) 3 (bI (rAllN (rT0 (G 0)) 5))) (zU G 0 (upd (rS1 (rT0 (G 0))) (143 + at0) (((rS1 (rT0 (G 0))) (143 + at0)) + 1)))) H := hP
        have hD : va_D A (refW cs a (upd (upd V 2 (bI (rWent (rT0 (G 0))))) 3 (bI (rAllN (rT0 (G 0)) 5))) (zU G 0 (upd (rS1 (rT0 (G 0))) (143 + at0) (((rS1 (rT0 (G 0))) (143 + at0)) + 1)))) := hD
        have hP : va_P D vwCl (refW cs a (upd (upd V 2 (bI (rWent (rT0 (G 0))))) 3 (bI (rAllN (rT0 (G 0)) 5))) (zU G 0 (rS2 (rS1 (rT0 (G 0))) at0))) H := hP
        have hD : va_D A (refW cs a (upd (upd V 2 (bI (rWent (rT0 (G 0))))) 3 (bI (rAllN (rT0 (G 0)) 5))) (zU G 0 (rS2 (rS1 (rT0 (G 0))) at0))) := hD
        rw [show at0 = nN ((rT0 (G 0)) 1) by rw [ea]; exact (nN_nI (by omega)).symm] at hP hD
        have hP : va_P D vwCl (refW cs a (upd (upd V 2 (bI (rWent (rT0 (G 0))))) 3 (bI (rAllN (rT0 (G 0)) 5))) (zU G 0 (rS2 (rS1 (rT0 (G 0))) (nN ((rT0 (G 0)) 1))))) H := hP
        have hD : va_D A (refW cs a (upd (upd V 2 (bI (rWent (rT0 (G 0))))) 3 (bI (rAllN (rT0 (G 0)) 5))) (zU G 0 (rS2 (rS1 (rT0 (G 0))) (nN ((rT0 (G 0)) 1))))) := hD
        refine lv_aload_n hx hb dX8_tick_194 rfl (lv_at hl 0 rfl) ?_
        refine va_get (D := D) (ci := 8) (v := .ref (a 1)) (C := RX8) (T := TX8) (N := 13) hx hb hts wsI_X8 hown hK hP 0 rfl rfl 0 (by decide) (hts _ w_fl_X8_7) (fun _ h9 => h9) rfl dX8_tick_195 ?_
        refine lv_iconst (v := 2) hx hb dX8_tick_198 (by decide) ?_
        refine lv_aload_n hx hb dX8_tick_199 rfl (lv_at hl 0 rfl) ?_
        refine va_get (D := D) (ci := 8) (v := .ref (a 1)) (C := RX8) (T := TX8) (N := 13) hx hb hts wsI_X8 hown hK hP 0 rfl rfl 0 (by decide) (hts _ w_fl_X8_7) (fun _ h9 => h9) rfl dX8_tick_200 ?_
        refine lv_iconst (v := 2) hx hb dX8_tick_203 (by decide) ?_
        refine z_iald (k := 2) hx hb hK hP 1 rfl (by decide) (by first | decide | omega) dX8_tick_204 ?_
        refine lv_aload_n hx hb dX8_tick_205 rfl (lv_at hl 0 rfl) ?_
        refine va_get (D := D) (ci := 8) (v := .ref (a 1)) (C := RX8) (T := TX8) (N := 13) hx hb hts wsI_X8 hown hK hP 0 rfl rfl 0 (by decide) (hts _ w_fl_X8_7) (fun _ h9 => h9) rfl dX8_tick_206 ?_
        refine lv_iconst (v := 3) hx hb dX8_tick_209 (by decide) ?_
        refine z_iald (k := 3) hx hb hK hP 1 rfl (by decide) (by first | decide | omega) dX8_tick_210 ?_
        refine lv_icmp_lt (tgt := 218) hx hb dX8_tick_211 (by decide) (fun c_7 => ?_) (fun c_7 => ?_)
        · skip
          refine lv_aload_n hx hb dX8_tick_218 rfl (lv_at hl 0 rfl) ?_
          refine va_get (D := D) (ci := 8) (v := .ref (a 1)) (C := RX8) (T := TX8) (N := 13) hx hb hts wsI_X8 hown hK hP 0 rfl rfl 0 (by decide) (hts _ w_fl_X8_7) (fun _ h9 => h9) rfl dX8_tick_219 ?_
          refine lv_iconst (v := 2) hx hb dX8_tick_222 (by decide) ?_
          refine z_iald (k := 2) hx hb hK hP 1 rfl (by decide) (by first | decide | omega) dX8_tick_223 ?_
          refine z_top (y := if (rS2 (rS1 (rT0 (G 0))) (nN ((rT0 (G 0)) 1))) 2 < (rS2 (rS1 (rT0 (G 0))) (nN ((rT0 (G 0)) 1))) 3 then (rS2 (rS1 (rT0 (G 0))) (nN ((rT0 (G 0)) 1))) 2 else 0) ((if_pos c_7).symm) ?_
          refine z_iast (k := 2) hx hb hK hP hD hS 1 rfl (by decide) (by first | decide | omega) dX8_tick_224 (fun H locs hP hD hS => ?_)
          have hP : va_P D vwCl (refW cs a (upd (upd V 2 (bI (rWent (rT0 (G 0))))) 3 (bI (rAllN (rT0 (G 0)) 5))) (zU G 0 (upd (rS2 (rS1 (rT0 (G 0))) (nN ((rT0 (G 0)) 1))) 2 (if (rS2 (rS1 (rT0 (G 0))) (nN ((rT0 (G 0)) 1))) 2 < (rS2 (rS1 (rT0 (G 0))) (nN ((rT0 (G 0)) 1))) 3 then (rS2 (rS1 (rT0 (G 0))) (nN ((rT0 (G 0)) 1))) 2 else 0)))) H := hP
          have hD : va_D A (refW cs a (upd (upd V 2 (bI (rWent (rT0 (G 0))))) 3 (bI (rAllN (rT0 (G 0)) 5))) (zU G 0 (upd (rS2 (rS1 (rT0 (G 0))) (nN ((rT0 (G 0)) 1))) 2 (if (rS2 (rS1 (rT0 (G 0))) (nN ((rT0 (G 0)) 1))) 2 < (rS2 (rS1 (rT0 (G 0))) (nN ((rT0 (G 0)) 1))) 3 then (rS2 (rS1 (rT0 (G 0))) (nN ((rT0 (G 0)) 1))) 2 else 0)))) := hD
          have hP : va_P D vwCl (refW cs a (upd (upd V 2 (bI (rWent (rT0 (G 0))))) 3 (bI (rAllN (rT0 (G 0)) 5))) (zU G 0 (rH (rS2 (rS1 (rT0 (G 0))) (nN ((rT0 (G 0)) 1)))))) H := hP
          have hD : va_D A (refW cs a (upd (upd V 2 (bI (rWent (rT0 (G 0))))) 3 (bI (rAllN (rT0 (G 0)) 5))) (zU G 0 (rH (rS2 (rS1 (rT0 (G 0))) (nN ((rT0 (G 0)) 1)))))) := hD
          have e1 : rDr (rT0 (G 0)) = rH (rS2 (rS1 (rT0 (G 0))) (nN ((rT0 (G 0)) 1))) := congrArg rH ((if_neg c_4).trans (if_pos (show (rT0 (G 0)) 3 ≤ (rT0 (G 0)) 2 from Int32.not_lt.mp c_5)))
          rw [← e1] at hP hD
          exact jn225   _ _ _ hP hD hS (lv_sub hl [0] rfl)
        · skip
          refine lv_iconst (v := 0) hx hb dX8_tick_214 (by decide) ?_
          refine lv_goto (tgt := 224) hx hb dX8_tick_215 (by decide) ?_
          refine z_top (y := if (rS2 (rS1 (rT0 (G 0))) (nN ((rT0 (G 0)) 1))) 2 < (rS2 (rS1 (rT0 (G 0))) (nN ((rT0 (G 0)) 1))) 3 then (rS2 (rS1 (rT0 (G 0))) (nN ((rT0 (G 0)) 1))) 2 else 0) ((if_neg c_7).symm) ?_
          refine z_iast (k := 2) hx hb hK hP hD hS 1 rfl (by decide) (by first | decide | omega) dX8_tick_224 (fun H locs hP hD hS => ?_)
          have hP : va_P D vwCl (refW cs a (upd (upd V 2 (bI (rWent (rT0 (G 0))))) 3 (bI (rAllN (rT0 (G 0)) 5))) (zU G 0 (upd (rS2 (rS1 (rT0 (G 0))) (nN ((rT0 (G 0)) 1))) 2 (if (rS2 (rS1 (rT0 (G 0))) (nN ((rT0 (G 0)) 1))) 2 < (rS2 (rS1 (rT0 (G 0))) (nN ((rT0 (G 0)) 1))) 3 then (rS2 (rS1 (rT0 (G 0))) (nN ((rT0 (G 0)) 1))) 2 else 0)))) H := hP
          have hD : va_D A (refW cs a (upd (upd V 2 (bI (rWent (rT0 (G 0))))) 3 (bI (rAllN (rT0 (G 0)) 5))) (zU G 0 (upd (rS2 (rS1 (rT0 (G 0))) (nN ((rT0 (G 0)) 1))) 2 (if (rS2 (rS1 (rT0 (G 0))) (nN ((rT0 (G 0)) 1))) 2 < (rS2 (rS1 (rT0 (G 0))) (nN ((rT0 (G 0)) 1))) 3 then (rS2 (rS1 (rT0 (G 0))) (nN ((rT0 (G 0)) 1))) 2 else 0)))) := hD
          have hP : va_P D vwCl (refW cs a (upd (upd V 2 (bI (rWent (rT0 (G 0))))) 3 (bI (rAllN (rT0 (G 0)) 5))) (zU G 0 (rH (rS2 (rS1 (rT0 (G 0))) (nN ((rT0 (G 0)) 1)))))) H := hP
          have hD : va_D A (refW cs a (upd (upd V 2 (bI (rWent (rT0 (G 0))))) 3 (bI (rAllN (rT0 (G 0)) 5))) (zU G 0 (rH (rS2 (rS1 (rT0 (G 0))) (nN ((rT0 (G 0)) 1)))))) := hD
          have e1 : rDr (rT0 (G 0)) = rH (rS2 (rS1 (rT0 (G 0))) (nN ((rT0 (G 0)) 1))) := congrArg rH ((if_neg c_4).trans (if_pos (show (rT0 (G 0)) 3 ≤ (rT0 (G 0)) 2 from Int32.not_lt.mp c_5)))
          rw [← e1] at hP hD
          exact jn225   _ _ _ hP hD hS (lv_sub hl [0] rfl)
    · skip
      have c_4 := bI_n0 c_4
      refine lv_aload_n hx hb dX8_tick_101 rfl (lv_at hl 0 rfl) ?_
      refine va_get (D := D) (ci := 8) (v := .ref (a 1)) (C := RX8) (T := TX8) (N := 13) hx hb hts wsI_X8 hown hK hP 0 rfl rfl 0 (by decide) (hts _ w_fl_X8_7) (fun _ h9 => h9) rfl dX8_tick_102 ?_
      refine lv_iconst (v := 1) hx hb dX8_tick_105 (by decide) ?_
      refine lv_aload_n hx hb dX8_tick_106 rfl (lv_at hl 0 rfl) ?_
      refine va_get (D := D) (ci := 8) (v := .ref (a 1)) (C := RX8) (T := TX8) (N := 13) hx hb hts wsI_X8 hown hK hP 0 rfl rfl 0 (by decide) (hts _ w_fl_X8_7) (fun _ h9 => h9) rfl dX8_tick_107 ?_
      refine lv_iconst (v := 1) hx hb dX8_tick_110 (by decide) ?_
      refine z_iald (k := 1) hx hb hK hP 1 rfl (by decide) (by first | decide | omega) dX8_tick_111 ?_
      refine lv_iconst (v := 1) hx hb dX8_tick_112 (by decide) ?_
      refine lv_iadd hx hb dX8_tick_113 ?_
      refine lv_aload_n hx hb dX8_tick_114 rfl (lv_at hl 0 rfl) ?_
      refine va_get (D := D) (ci := 8) (v := .ref (a 1)) (C := RX8) (T := TX8) (N := 13) hx hb hts wsI_X8 hown hK hP 0 rfl rfl 0 (by decide) (hts _ w_fl_X8_7) (fun _ h9 => h9) rfl dX8_tick_115 ?_
      refine lv_iconst (v := 0) hx hb dX8_tick_118 (by decide) ?_
      refine z_iald (k := 0) hx hb hK hP 1 rfl (by decide) (by first | decide | omega) dX8_tick_119 ?_
      refine lv_irem hx hb dX8_tick_120 (by show ¬ rT0 (G 0) 0 = 0; rw [en]; exact nI_ne0 (by omega) (by omega)) ?_
      refine z_iast (k := 1) hx hb hK hP hD hS 1 rfl (by decide) (by first | decide | omega) dX8_tick_121 (fun H locs hP hD hS => ?_)
      have hP : va_P D vwCl (refW cs a (upd (upd V 2 (bI (rWent (rT0 (G 0))))) 3 (bI (rAllN (rT0 (G 0)) 5))) (zU G 0 (upd (rT0 (G 0)) 1 ((((rT0 (G 0)) 1) + 1) - (((rT0 (G 0)) 1) + 1) / ((rT0 (G 0)) 0) * ((rT0 (G 0)) 0))))) H := hP
      have hD : va_D A (refW cs a (upd (upd V 2 (bI (rWent (rT0 (G 0))))) 3 (bI (rAllN (rT0 (G 0)) 5))) (zU G 0 (upd (rT0 (G 0)) 1 ((((rT0 (G 0)) 1) + 1) - (((rT0 (G 0)) 1) + 1) / ((rT0 (G 0)) 0) * ((rT0 (G 0)) 0))))) := hD
      have hP : va_P D vwCl (refW cs a (upd (upd V 2 (bI (rWent (rT0 (G 0))))) 3 (bI (rAllN (rT0 (G 0)) 5))) (zU G 0 (rD1 (rT0 (G 0))))) H := hP
      have hD : va_D A (refW cs a (upd (upd V 2 (bI (rWent (rT0 (G 0))))) 3 (bI (rAllN (rT0 (G 0)) 5))) (zU G 0 (rD1 (rT0 (G 0))))) := hD
      refine lv_aload_n hx hb dX8_tick_122 rfl (lv_at hl 0 rfl) ?_
      refine va_get (D := D) (ci := 8) (v := .ref (a 1)) (C := RX8) (T := TX8) (N := 13) hx hb hts wsI_X8 hown hK hP 0 rfl rfl 0 (by decide) (hts _ w_fl_X8_7) (fun _ h9 => h9) rfl dX8_tick_123 ?_
      refine lv_bipush (v := 10) hx hb dX8_tick_126 (by decide) ?_
      refine lv_dup2_11 hx hb dX8_tick_128 rfl rfl ?_
      refine z_iald (k := 10) hx hb hK hP 1 rfl (by decide) (by first | decide | omega) dX8_tick_129 ?_
      refine lv_aload_n hx hb dX8_tick_130 rfl (lv_at hl 0 rfl) ?_
      refine va_get (D := D) (ci := 8) (v := .ref (a 1)) (C := RX8) (T := TX8) (N := 13) hx hb hts wsI_X8 hown hK hP 0 rfl rfl 0 (by decide) (hts _ w_fl_X8_7) (fun _ h9 => h9) rfl dX8_tick_131 ?_
      refine lv_iconst (v := 1) hx hb dX8_tick_134 (by decide) ?_
      refine z_iald (k := 1) hx hb hK hP 1 rfl (by decide) (by first | decide | omega) dX8_tick_135 ?_
      refine lv_if_ne (tgt := 143) hx hb dX8_tick_136 (by decide) (fun c_8 => ?_) (fun c_8 => ?_)
      · skip
        refine lv_iconst (v := 0) hx hb dX8_tick_143 (by decide) ?_
        refine z_top (y := bI ((rD1 (rT0 (G 0))) 1 = 0)) (bI_f c_8).symm ?_
        refine lv_iadd hx hb dX8_tick_144 ?_
        refine z_iast (k := 10) hx hb hK hP hD hS 1 rfl (by decide) (by first | decide | omega) dX8_tick_145 (fun H locs hP hD hS => ?_)
        have hP : va_P D vwCl (refW cs a (upd (upd V 2 (bI (rWent (rT0 (G 0))))) 3 (bI (rAllN (rT0 (G 0)) 5))) (zU G 0 (upd (rD1 (rT0 (G 0))) 10 (((rD1 (rT0 (G 0))) 10) + (bI ((rD1 (rT0 (G 0))) 1 = 0)))))) H := hP
        have hD : va_D A (refW cs a (upd (upd V 2 (bI (rWent (rT0 (G 0))))) 3 (bI (rAllN (rT0 (G 0)) 5))) (zU G 0 (upd (rD1 (rT0 (G 0))) 10 (((rD1 (rT0 (G 0))) 10) + (bI ((rD1 (rT0 (G 0))) 1 = 0)))))) := hD
        have hP : va_P D vwCl (refW cs a (upd (upd V 2 (bI (rWent (rT0 (G 0))))) 3 (bI (rAllN (rT0 (G 0)) 5))) (zU G 0 (rD2 (rD1 (rT0 (G 0)))))) H := hP
        have hD : va_D A (refW cs a (upd (upd V 2 (bI (rWent (rT0 (G 0))))) 3 (bI (rAllN (rT0 (G 0)) 5))) (zU G 0 (rD2 (rD1 (rT0 (G 0)))))) := hD
        refine lv_goto (tgt := 194) hx hb dX8_tick_146 (by decide) ?_
        refine lv_aload_n hx hb dX8_tick_194 rfl (lv_at hl 0 rfl) ?_
        refine va_get (D := D) (ci := 8) (v := .ref (a 1)) (C := RX8) (T := TX8) (N := 13) hx hb hts wsI_X8 hown hK hP 0 rfl rfl 0 (by decide) (hts _ w_fl_X8_7) (fun _ h9 => h9) rfl dX8_tick_195 ?_
        refine lv_iconst (v := 2) hx hb dX8_tick_198 (by decide) ?_
        refine lv_aload_n hx hb dX8_tick_199 rfl (lv_at hl 0 rfl) ?_
        refine va_get (D := D) (ci := 8) (v := .ref (a 1)) (C := RX8) (T := TX8) (N := 13) hx hb hts wsI_X8 hown hK hP 0 rfl rfl 0 (by decide) (hts _ w_fl_X8_7) (fun _ h9 => h9) rfl dX8_tick_200 ?_
        refine lv_iconst (v := 2) hx hb dX8_tick_203 (by decide) ?_
        refine z_iald (k := 2) hx hb hK hP 1 rfl (by decide) (by first | decide | omega) dX8_tick_204 ?_
        refine lv_aload_n hx hb dX8_tick_205 rfl (lv_at hl 0 rfl) ?_
        refine va_get (D := D) (ci := 8) (v := .ref (a 1)) (C := RX8) (T := TX8) (N := 13) hx hb hts wsI_X8 hown hK hP 0 rfl rfl 0 (by decide) (hts _ w_fl_X8_7) (fun _ h9 => h9) rfl dX8_tick_206 ?_
        refine lv_iconst (v := 3) hx hb dX8_tick_209 (by decide) ?_
        refine z_iald (k := 3) hx hb hK hP 1 rfl (by decide) (by first | decide | omega) dX8_tick_210 ?_
        refine lv_icmp_lt (tgt := 218) hx hb dX8_tick_211 (by decide) (fun c_9 => ?_) (fun c_9 => ?_)
        · skip
          refine lv_aload_n hx hb dX8_tick_218 rfl (lv_at hl 0 rfl) ?_
          refine va_get (D := D) (ci := 8) (v := .ref (a 1)) (C := RX8) (T := TX8) (N := 13) hx hb hts wsI_X8 hown hK hP 0 rfl rfl 0 (by decide) (hts _ w_fl_X8_7) (fun _ h9 => h9) rfl dX8_tick_219 ?_
          refine lv_iconst (v := 2) hx hb dX8_tick_222 (by decide) ?_
          refine z_iald (k := 2) hx hb hK hP 1 rfl (by decide) (by first | decide | omega) dX8_tick_223 ?_
          refine z_top (y := if (rD2 (rD1 (rT0 (G 0)))) 2 < (rD2 (rD1 (rT0 (G 0)))) 3 then (rD2 (rD1 (rT0 (G 0)))) 2 else 0) ((if_pos c_9).symm) ?_
          refine z_iast (k := 2) hx hb hK hP hD hS 1 rfl (by decide) (by first | decide | omega) dX8_tick_224 (fun H locs hP hD hS => ?_)
          have hP : va_P D vwCl (refW cs a (upd (upd V 2 (bI (rWent (rT0 (G 0))))) 3 (bI (rAllN (rT0 (G 0)) 5))) (zU G 0 (upd (rD2 (rD1 (rT0 (G 0)))) 2 (if (rD2 (rD1 (rT0 (G 0)))) 2 < (rD2 (rD1 (rT0 (G 0)))) 3 then (rD2 (rD1 (rT0 (G 0)))) 2 else 0)))) H := hP
          have hD : va_D A (refW cs a (upd (upd V 2 (bI (rWent (rT0 (G 0))))) 3 (bI (rAllN (rT0 (G 0)) 5))) (zU G 0 (upd (rD2 (rD1 (rT0 (G 0)))) 2 (if (rD2 (rD1 (rT0 (G 0)))) 2 < (rD2 (rD1 (rT0 (G 0)))) 3 then (rD2 (rD1 (rT0 (G 0)))) 2 else 0)))) := hD
          have hP : va_P D vwCl (refW cs a (upd (upd V 2 (bI (rWent (rT0 (G 0))))) 3 (bI (rAllN (rT0 (G 0)) 5))) (zU G 0 (rH (rD2 (rD1 (rT0 (G 0))))))) H := hP
          have hD : va_D A (refW cs a (upd (upd V 2 (bI (rWent (rT0 (G 0))))) 3 (bI (rAllN (rT0 (G 0)) 5))) (zU G 0 (rH (rD2 (rD1 (rT0 (G 0))))))) := hD
          have e1 : rDr (rT0 (G 0)) = rH (rD2 (rD1 (rT0 (G 0)))) := congrArg rH (if_pos c_4)
          rw [← e1] at hP hD
          exact jn225   _ _ _ hP hD hS (lv_sub hl [0] rfl)
        · skip
          refine lv_iconst (v := 0) hx hb dX8_tick_214 (by decide) ?_
          refine lv_goto (tgt := 224) hx hb dX8_tick_215 (by decide) ?_
          refine z_top (y := if (rD2 (rD1 (rT0 (G 0)))) 2 < (rD2 (rD1 (rT0 (G 0)))) 3 then (rD2 (rD1 (rT0 (G 0)))) 2 else 0) ((if_neg c_9).symm) ?_
          refine z_iast (k := 2) hx hb hK hP hD hS 1 rfl (by decide) (by first | decide | omega) dX8_tick_224 (fun H locs hP hD hS => ?_)
          have hP : va_P D vwCl (refW cs a (upd (upd V 2 (bI (rWent (rT0 (G 0))))) 3 (bI (rAllN (rT0 (G 0)) 5))) (zU G 0 (upd (rD2 (rD1 (rT0 (G 0)))) 2 (if (rD2 (rD1 (rT0 (G 0)))) 2 < (rD2 (rD1 (rT0 (G 0)))) 3 then (rD2 (rD1 (rT0 (G 0)))) 2 else 0)))) H := hP
          have hD : va_D A (refW cs a (upd (upd V 2 (bI (rWent (rT0 (G 0))))) 3 (bI (rAllN (rT0 (G 0)) 5))) (zU G 0 (upd (rD2 (rD1 (rT0 (G 0)))) 2 (if (rD2 (rD1 (rT0 (G 0)))) 2 < (rD2 (rD1 (rT0 (G 0)))) 3 then (rD2 (rD1 (rT0 (G 0)))) 2 else 0)))) := hD
          have hP : va_P D vwCl (refW cs a (upd (upd V 2 (bI (rWent (rT0 (G 0))))) 3 (bI (rAllN (rT0 (G 0)) 5))) (zU G 0 (rH (rD2 (rD1 (rT0 (G 0))))))) H := hP
          have hD : va_D A (refW cs a (upd (upd V 2 (bI (rWent (rT0 (G 0))))) 3 (bI (rAllN (rT0 (G 0)) 5))) (zU G 0 (rH (rD2 (rD1 (rT0 (G 0))))))) := hD
          have e1 : rDr (rT0 (G 0)) = rH (rD2 (rD1 (rT0 (G 0)))) := congrArg rH (if_pos c_4)
          rw [← e1] at hP hD
          exact jn225   _ _ _ hP hD hS (lv_sub hl [0] rfl)
      · skip
        refine lv_iconst (v := 1) hx hb dX8_tick_139 (by decide) ?_
        refine lv_goto (tgt := 144) hx hb dX8_tick_140 (by decide) ?_
        refine z_top (y := bI ((rD1 (rT0 (G 0))) 1 = 0)) (bI_t c_8).symm ?_
        refine lv_iadd hx hb dX8_tick_144 ?_
        refine z_iast (k := 10) hx hb hK hP hD hS 1 rfl (by decide) (by first | decide | omega) dX8_tick_145 (fun H locs hP hD hS => ?_)
        have hP : va_P D vwCl (refW cs a (upd (upd V 2 (bI (rWent (rT0 (G 0))))) 3 (bI (rAllN (rT0 (G 0)) 5))) (zU G 0 (upd (rD1 (rT0 (G 0))) 10 (((rD1 (rT0 (G 0))) 10) + (bI ((rD1 (rT0 (G 0))) 1 = 0)))))) H := hP
        have hD : va_D A (refW cs a (upd (upd V 2 (bI (rWent (rT0 (G 0))))) 3 (bI (rAllN (rT0 (G 0)) 5))) (zU G 0 (upd (rD1 (rT0 (G 0))) 10 (((rD1 (rT0 (G 0))) 10) + (bI ((rD1 (rT0 (G 0))) 1 = 0)))))) := hD
        have hP : va_P D vwCl (refW cs a (upd (upd V 2 (bI (rWent (rT0 (G 0))))) 3 (bI (rAllN (rT0 (G 0)) 5))) (zU G 0 (rD2 (rD1 (rT0 (G 0)))))) H := hP
        have hD : va_D A (refW cs a (upd (upd V 2 (bI (rWent (rT0 (G 0))))) 3 (bI (rAllN (rT0 (G 0)) 5))) (zU G 0 (rD2 (rD1 (rT0 (G 0)))))) := hD
        refine lv_goto (tgt := 194) hx hb dX8_tick_146 (by decide) ?_
        refine lv_aload_n hx hb dX8_tick_194 rfl (lv_at hl 0 rfl) ?_
        refine va_get (D := D) (ci := 8) (v := .ref (a 1)) (C := RX8) (T := TX8) (N := 13) hx hb hts wsI_X8 hown hK hP 0 rfl rfl 0 (by decide) (hts _ w_fl_X8_7) (fun _ h9 => h9) rfl dX8_tick_195 ?_
        refine lv_iconst (v := 2) hx hb dX8_tick_198 (by decide) ?_
        refine lv_aload_n hx hb dX8_tick_199 rfl (lv_at hl 0 rfl) ?_
        refine va_get (D := D) (ci := 8) (v := .ref (a 1)) (C := RX8) (T := TX8) (N := 13) hx hb hts wsI_X8 hown hK hP 0 rfl rfl 0 (by decide) (hts _ w_fl_X8_7) (fun _ h9 => h9) rfl dX8_tick_200 ?_
        refine lv_iconst (v := 2) hx hb dX8_tick_203 (by decide) ?_
        refine z_iald (k := 2) hx hb hK hP 1 rfl (by decide) (by first | decide | omega) dX8_tick_204 ?_
        refine lv_aload_n hx hb dX8_tick_205 rfl (lv_at hl 0 rfl) ?_
        refine va_get (D := D) (ci := 8) (v := .ref (a 1)) (C := RX8) (T := TX8) (N := 13) hx hb hts wsI_X8 hown hK hP 0 rfl rfl 0 (by decide) (hts _ w_fl_X8_7) (fun _ h9 => h9) rfl dX8_tick_206 ?_
        refine lv_iconst (v := 3) hx hb dX8_tick_209 (by decide) ?_
        refine z_iald (k := 3) hx hb hK hP 1 rfl (by decide) (by first | decide | omega) dX8_tick_210 ?_
        refine lv_icmp_lt (tgt := 218) hx hb dX8_tick_211 (by decide) (fun c_10 => ?_) (fun c_10 => ?_)
        · skip
          refine lv_aload_n hx hb dX8_tick_218 rfl (lv_at hl 0 rfl) ?_
          refine va_get (D := D) (ci := 8) (v := .ref (a 1)) (C := RX8) (T := TX8) (N := 13) hx hb hts wsI_X8 hown hK hP 0 rfl rfl 0 (by decide) (hts _ w_fl_X8_7) (fun _ h9 => h9) rfl dX8_tick_219 ?_
          refine lv_iconst (v := 2) hx hb dX8_tick_222 (by decide) ?_
          refine z_iald (k := 2) hx hb hK hP 1 rfl (by decide) (by first | decide | omega) dX8_tick_223 ?_
          refine z_top (y := if (rD2 (rD1 (rT0 (G 0)))) 2 < (rD2 (rD1 (rT0 (G 0)))) 3 then (rD2 (rD1 (rT0 (G 0)))) 2 else 0) ((if_pos c_10).symm) ?_
          refine z_iast (k := 2) hx hb hK hP hD hS 1 rfl (by decide) (by first | decide | omega) dX8_tick_224 (fun H locs hP hD hS => ?_)
          have hP : va_P D vwCl (refW cs a (upd (upd V 2 (bI (rWent (rT0 (G 0))))) 3 (bI (rAllN (rT0 (G 0)) 5))) (zU G 0 (upd (rD2 (rD1 (rT0 (G 0)))) 2 (if (rD2 (rD1 (rT0 (G 0)))) 2 < (rD2 (rD1 (rT0 (G 0)))) 3 then (rD2 (rD1 (rT0 (G 0)))) 2 else 0)))) H := hP
          have hD : va_D A (refW cs a (upd (upd V 2 (bI (rWent (rT0 (G 0))))) 3 (bI (rAllN (rT0 (G 0)) 5))) (zU G 0 (upd (rD2 (rD1 (rT0 (G 0)))) 2 (if (rD2 (rD1 (rT0 (G 0)))) 2 < (rD2 (rD1 (rT0 (G 0)))) 3 then (rD2 (rD1 (rT0 (G 0)))) 2 else 0)))) := hD
          have hP : va_P D vwCl (refW cs a (upd (upd V 2 (bI (rWent (rT0 (G 0))))) 3 (bI (rAllN (rT0 (G 0)) 5))) (zU G 0 (rH (rD2 (rD1 (rT0 (G 0))))))) H := hP
          have hD : va_D A (refW cs a (upd (upd V 2 (bI (rWent (rT0 (G 0))))) 3 (bI (rAllN (rT0 (G 0)) 5))) (zU G 0 (rH (rD2 (rD1 (rT0 (G 0))))))) := hD
          have e1 : rDr (rT0 (G 0)) = rH (rD2 (rD1 (rT0 (G 0)))) := congrArg rH (if_pos c_4)
          rw [← e1] at hP hD
          exact jn225   _ _ _ hP hD hS (lv_sub hl [0] rfl)
        · skip
          refine lv_iconst (v := 0) hx hb dX8_tick_214 (by decide) ?_
          refine lv_goto (tgt := 224) hx hb dX8_tick_215 (by decide) ?_
          refine z_top (y := if (rD2 (rD1 (rT0 (G 0)))) 2 < (rD2 (rD1 (rT0 (G 0)))) 3 then (rD2 (rD1 (rT0 (G 0)))) 2 else 0) ((if_neg c_10).symm) ?_
          refine z_iast (k := 2) hx hb hK hP hD hS 1 rfl (by decide) (by first | decide | omega) dX8_tick_224 (fun H locs hP hD hS => ?_)
          have hP : va_P D vwCl (refW cs a (upd (upd V 2 (bI (rWent (rT0 (G 0))))) 3 (bI (rAllN (rT0 (G 0)) 5))) (zU G 0 (upd (rD2 (rD1 (rT0 (G 0)))) 2 (if (rD2 (rD1 (rT0 (G 0)))) 2 < (rD2 (rD1 (rT0 (G 0)))) 3 then (rD2 (rD1 (rT0 (G 0)))) 2 else 0)))) H := hP
          have hD : va_D A (refW cs a (upd (upd V 2 (bI (rWent (rT0 (G 0))))) 3 (bI (rAllN (rT0 (G 0)) 5))) (zU G 0 (upd (rD2 (rD1 (rT0 (G 0)))) 2 (if (rD2 (rD1 (rT0 (G 0)))) 2 < (rD2 (rD1 (rT0 (G 0)))) 3 then (rD2 (rD1 (rT0 (G 0)))) 2 else 0)))) := hD
          have hP : va_P D vwCl (refW cs a (upd (upd V 2 (bI (rWent (rT0 (G 0))))) 3 (bI (rAllN (rT0 (G 0)) 5))) (zU G 0 (rH (rD2 (rD1 (rT0 (G 0))))))) H := hP
          have hD : va_D A (refW cs a (upd (upd V 2 (bI (rWent (rT0 (G 0))))) 3 (bI (rAllN (rT0 (G 0)) 5))) (zU G 0 (rH (rD2 (rD1 (rT0 (G 0))))))) := hD
          have e1 : rDr (rT0 (G 0)) = rH (rD2 (rD1 (rT0 (G 0)))) := congrArg rH (if_pos c_4)
          rw [← e1] at hP hD
          exact jn225   _ _ _ hP hD hS (lv_sub hl [0] rfl)
  refine lv_aload_n hx hb dX8_tick_48 rfl (lv_at hl 0 rfl) ?_
  refine va_get (D := D) (ci := 8) (v := .ref (a 1)) (C := RX8) (T := TX8) (N := 13) hx hb hts wsI_X8 hown hK hP 0 rfl rfl 0 (by decide) (hts _ w_fl_X8_7) (fun _ h9 => h9) rfl dX8_tick_49 ?_
  refine lv_iconst (v := 2) hx hb dX8_tick_52 (by decide) ?_
  refine z_iald (k := 2) hx hb hK hP 1 rfl (by decide) (by first | decide | omega) dX8_tick_53 ?_
  refine lv_aload_n hx hb dX8_tick_54 rfl (lv_at hl 0 rfl) ?_
  refine va_get (D := D) (ci := 8) (v := .ref (a 1)) (C := RX8) (T := TX8) (N := 13) hx hb hts wsI_X8 hown hK hP 0 rfl rfl 0 (by decide) (hts _ w_fl_X8_7) (fun _ h9 => h9) rfl dX8_tick_55 ?_
  refine lv_iconst (v := 3) hx hb dX8_tick_58 (by decide) ?_
  refine z_iald (k := 3) hx hb hK hP 1 rfl (by decide) (by first | decide | omega) dX8_tick_59 ?_
  refine lv_icmp_lt (tgt := 82) hx hb dX8_tick_60 (by decide) (fun c_11 => ?_) (fun c_11 => ?_)
  · skip
    refine lv_iconst (v := 0) hx hb dX8_tick_82 (by decide) ?_
    refine z_top (y := bI (rWent (rT0 (G 0)))) (bI_f (fun h => absurd h.1 (Int32.not_le.mpr c_11))).symm ?_
    exact jn83   _ _ _ hP hD hS (lv_sub hl [0] rfl)
  · skip
    refine lv_aload_n hx hb dX8_tick_63 rfl (lv_at hl 0 rfl) ?_
    refine va_get (D := D) (ci := 8) (v := .ref (a 1)) (C := RX8) (T := TX8) (N := 13) hx hb hts wsI_X8 hown hK hP 0 rfl rfl 0 (by decide) (hts _ w_fl_X8_7) (fun _ h9 => h9) rfl dX8_tick_64 ?_
    refine lv_iconst (v := 5) hx hb dX8_tick_67 (by decide) ?_
    refine z_iald (k := 5) hx hb hK hP 1 rfl (by decide) (by first | decide | omega) dX8_tick_68 ?_
    refine lv_aload_n hx hb dX8_tick_69 rfl (lv_at hl 0 rfl) ?_
    refine va_get (D := D) (ci := 8) (v := .ref (a 1)) (C := RX8) (T := TX8) (N := 13) hx hb hts wsI_X8 hown hK hP 0 rfl rfl 0 (by decide) (hts _ w_fl_X8_7) (fun _ h9 => h9) rfl dX8_tick_70 ?_
    refine lv_iconst (v := 4) hx hb dX8_tick_73 (by decide) ?_
    refine z_iald (k := 4) hx hb hK hP 1 rfl (by decide) (by first | decide | omega) dX8_tick_74 ?_
    refine lv_icmp_lt (tgt := 82) hx hb dX8_tick_75 (by decide) (fun c_12 => ?_) (fun c_12 => ?_)
    · skip
      refine lv_iconst (v := 0) hx hb dX8_tick_82 (by decide) ?_
      refine z_top (y := bI (rWent (rT0 (G 0)))) (bI_f (fun h => absurd h.2 (Int32.not_le.mpr c_12))).symm ?_
      exact jn83   _ _ _ hP hD hS (lv_sub hl [0] rfl)
    · skip
      refine lv_iconst (v := 1) hx hb dX8_tick_78 (by decide) ?_
      refine lv_goto (tgt := 83) hx hb dX8_tick_79 (by decide) ?_
      refine z_top (y := bI (rWent (rT0 (G 0)))) (bI_t ⟨Int32.not_lt.mp c_11, Int32.not_lt.mp c_12⟩).symm ?_
      exact jn83   _ _ _ hP hD hS (lv_sub hl [0] rfl)
