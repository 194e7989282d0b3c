set_option maxHeartbeats 4000000 in
set_option maxRecDepth 100000 in
theorem law_cam {pq : Program} (l : Launch) {eq : Env} {s : State} {mq : MethodId} {below : List Frame} {meth : Method} {cq : Code} {A : Nat → Prop} {D : va_G} {cs : zCs} {b Ls i : Nat} {xs : Nat → Int32} {H : Heap} {locs : List Loc} {ls : Array Slot} {cells slots : Nat} {Q : State → Prop} {ad kd : Nat → Nat → Nat} {a : Nat → Nat} {ou : Nat} {S : Nat → Int32} {F : Nat → Nat → Int32} {TS : Nat → Int32} {TF : Nat → Nat → Int32} {ES : Nat → Int32} {EF : Nat → Nat → Int32} {HS : Nat → Int32} {KS : Nat → Nat → Int32} {KF : Nat → Nat → Nat → Int32} {X : Nat → Int32} {B : Nat → Nat → Int32} {V : Nat → Int32} {G : Nat → Nat → Int32} {OL : Nat → Int64} {p n L : Nat} (hfl : l.stackTraces = false) (hx : pq.tables.exec = Jvm.exec) (hb : cq.code = cL_law) (hml : cq.maxLocals = 9) (hown : s.vm.findClass RL = some mq.cls) (hts : ∀ w ∈ wsG, w.before #[Value.ref b] s = true) (hXs : va_X b Ls xs s s.heap) (hbl : b < s.heap.size) (hbA : ¬ A b) (hE : zE A s) (hK : va_K D vwCl (zT cs) s) (hA : ∀ q : Nat, s.heap.size ≤ q → A q) (hLs : Ls ≤ 2560) (hi : i + 5 ≤ Ls) (hce : cells + 3 ≤ 601024) (hsl : slots + 18 ≤ 7293034) (hR : lwR S F HS KS KF X B V G p n L) (hP : va_P D vwCl ((camW ad) ++ (macW cs (ad 0) S F) ++ (macW cs (ad 1) TS TF) ++ (macW cs (ad 2) ES EF) ++ (hisW cs (ad 4) kd HS) ++ (macW cs (kd 0) (KS 0) (KF 0)) ++ (macW cs (kd 1) (KS 1) (KF 1)) ++ (macW cs (kd 2) (KS 2) (KF 2)) ++ (macW cs (kd 3) (KS 3) (KF 3)) ++ (txtW cs (ad 5) X B) ++ (refW cs a V G) ++ [(ou, .inl (cs.2.1, 1, .inr (.inl OL)))]) H) (hD : va_D A ((camW ad) ++ (macW cs (ad 0) S F) ++ (macW cs (ad 1) TS TF) ++ (macW cs (ad 2) ES EF) ++ (hisW cs (ad 4) kd HS) ++ (macW cs (kd 0) (KS 0) (KF 0)) ++ (macW cs (kd 1) (KS 1) (KF 1)) ++ (macW cs (kd 2) (KS 2) (KF 2)) ++ (macW cs (kd 3) (KS 3) (KF 3)) ++ (txtW cs (ad 5) X B) ++ (refW cs a V G) ++ [(ou, .inl (cs.2.1, 1, .inr (.inl OL)))])) (hS : va_S A s.heap H locs) (hl : lv_has ls 9 [(0, .ref b), (1, .ref (ad 3 0)), (2, .ref (a 0)), (3, .ref ou), (4, .int (nI i))]) (kk : ∀ (w : va_W), lwI cs ad kd a ou w → ∀ (H : Heap) (locs : List Loc) (ls : Array Slot), va_P D vwCl w H → va_D A w → va_S A s.heap H locs → lv_has ls 9 [(0, .ref b), (1, .ref (ad 3 0)), (2, .ref (a 0)), (3, .ref ou), (4, .int (nI i))] → W pq l eq room_1 s mq #[Value.ref b] below meth cq H locs (cells + 3) (slots + 18) Q (F0 mq 1447 ls [])) : W pq l eq room_1 s mq #[Value.ref b] below meth cq H locs cells slots Q (F0 mq 724 ls []) := by
  obtain ⟨⟨hp, hp4, hn, hn4, hsn⟩, hag, hrg, hX0, hL, h4, hGB, htx⟩ := id hR
  have e0 : G 0 0 = S 0 := agr_s hag (by omega)
  have e8 : G 0 8 = S 8 := agr_s hag (by omega)
  have e9 : G 0 9 = S 9 := agr_s hag (by omega)
  obtain ⟨hn2, hn16, hS0⟩ := lw_n0 hag
  obtain ⟨hg4, hS8, ez⟩ := lw_n8 hag
  have h0 : G 0 0 = nI (nN (S 0)) := e0.trans hS0
  have h8 : G 0 8 = nI (nN (S 8)) := e8.trans hS8
  have hok : rOK (G 0) := r_ok hag
  have ho : ∀ j, j < nN (S 8) → ∃ o, o < 5 ∧ G 0 (51 + 3 * j + 1) = nI o := lw_ho hag
  refine lv_aload_n hx hb dL_law_724 rfl (lv_at hl 1 rfl) ?_
  refine lv_aload_n hx hb dL_law_725 rfl (lv_at hl 0 rfl) ?_
  refine lv_iload hx hb dL_law_726 (lv_at hl 4 rfl) ?_
  refine lv_iconst (v := 1) hx hb dL_law_728 (by decide) ?_
  refine lv_iadd hx hb dL_law_729 ?_
  refine z_top (y := nI (i + 1)) (nI_add i 1) ?_
  refine z_scr (k := i + 1) hx hb hXs hbl hbA hS (by omega) hLs dL_law_730 ?_
  refine lv_aload_n hx hb dL_law_731 rfl (lv_at hl 0 rfl) ?_
  refine lv_iload hx hb dL_law_732 (lv_at hl 4 rfl) ?_
  refine lv_iconst (v := 2) hx hb dL_law_734 (by decide) ?_
  refine lv_iadd hx hb dL_law_735 ?_
  refine z_top (y := nI (i + 2)) (nI_add i 2) ?_
  refine z_scr (k := i + 2) hx hb hXs hbl hbA hS (by omega) hLs dL_law_736 ?_
  refine lv_aload_n hx hb dL_law_737 rfl (lv_at hl 3 rfl) ?_
  by_cases w0 : 0 ≤ (xs (i + 1)) ∧ (xs (i + 1)) ≤ 4
  · skip
    by_cases w1 : 0 ≤ (xs (i + 2)) ∧ (xs (i + 2)) ≤ (S 0) - 1
    · skip
      obtain ⟨hP, hD⟩ := zp_6 hP hD
      refine z_lawH ⟨hx, hb, hml, hown, hts⟩ zYw_cam w_st_yL_cam w_ml_L_114 [.ref (ad 3 0), .int (xs (i + 1)), .int (xs (i + 2)), .ref ou] [] (c_L_cam_ok l D cs hfl ad S F (xs (i + 1)) (xs (i + 2)) ou OL (by rw [exT_t w0, exT_t w1])) hE hK hA hP hD hS (z_la (z_la rfl (z_lm _ _ _ _ _ _)) (z_lo _ _ _ _)) rfl hl.1 (Nat.le_of_ble_eq_true rfl) ⟨Nat.le_of_ble_eq_true rfl, Nat.le_of_ble_eq_true rfl⟩ ⟨by show _ ≤ 601024; omega, by show _ ≤ 7293034; omega⟩ dL_law_738 (fun H locs hP hD hS => ?_)
      refine lv_istore (lv' := [(5, .int 0), (0, .ref b), (1, .ref (ad 3 0)), (2, .ref (a 0)), (3, .ref ou), (4, .int (nI i))]) hx hb dL_law_741 hl (by decide) rfl (fun ls hl => ?_)
      refine lv_aload_n hx hb dL_law_743 rfl (lv_at hl 3 rfl) ?_
      refine lv_aload_n hx hb dL_law_744 rfl (lv_at hl 1 rfl) ?_
      refine lv_iload hx hb dL_law_745 (lv_at hl 5 rfl) ?_
      refine lv_iconst (v := 1) hx hb dL_law_747 (by decide) ?_
      refine lv_iadd hx hb dL_law_748 ?_
      refine z_top (y := nI (i + 1)) (nI_add i 1) ?_
      refine z_scr (k := i + 1) hx hb hXs hbl hbA hS (by omega) hLs dL_law_749 ?_
      refine lv_aload_n hx hb dL_law_750 rfl (lv_at hl 1 rfl) ?_
      refine lv_iload hx hb dL_law_751 (lv_at hl 5 rfl) ?_
      refine lv_iconst (v := 2) hx hb dL_law_753 (by decide) ?_
      refine lv_iadd hx hb dL_law_754 ?_
      refine z_top (y := nI (i + 2)) (nI_add i 2) ?_
      refine z_scr (k := i + 2) hx hb hXs hbl hbA hS (by omega) hLs dL_law_755 ?_
      obtain ⟨hP, hD⟩ := zp_7 hP hD
      refine z_lawV ⟨hx, hb, hml, hown, hts⟩ zY_X8_cam w_im_yX8_cam w_se_yX8_cam w_ml_L_116 [.int (xs (i + 1)), .int (xs (i + 2))] [] (c_X8_cam_ok l D cs a V G (nN (S 0)) (xs (i + 1)) (xs (i + 2)) h0 hn16 w0 (by rw [e0]; exact w1)) hE hK hA hP hD hS (z_lr _ _ _ _ _ _) 8 rfl rfl rfl rfl hl.1 (Nat.le_of_ble_eq_true rfl) ⟨Nat.le_of_ble_eq_true rfl, Nat.le_of_ble_eq_true rfl⟩ ⟨by show _ ≤ 601024; omega, by show _ ≤ 7293034; omega⟩ dL_law_756 (fun H locs hP hD hS => ?_)
      refine lv_istore (lv' := [(6, .int (bI (rHas (G 0) (nN (xs (i + 1))) (xs (i + 2))))), (5, .int 0), (0, .ref b), (1, .ref (ad 3 0)), (2, .ref (a 0)), (3, .ref ou), (4, .int (nI i))]) hx hb dL_law_759 hl (by decide) rfl (fun ls hl => ?_)
      refine lv_aload_n hx hb dL_law_761 rfl (lv_at hl 4 rfl) ?_
      refine z_lawV ⟨hx, hb, hml, hown, hts⟩ zY_X8_thrown w_im_yX8_thrown w_se_yX8_thrown w_ml_L_86 [] [] (c_X8_thrown l D cs a ((upd V 1 0)) G) hE hK hA hP hD hS (z_lr _ _ _ _ _ _) 8 rfl rfl rfl rfl hl.1 (Nat.le_of_ble_eq_true rfl) ⟨Nat.le_of_ble_eq_true rfl, Nat.le_of_ble_eq_true rfl⟩ ⟨by show _ ≤ 601024; omega, by show _ ≤ 7293034; omega⟩ dL_law_762 (fun H locs hP hD hS => ?_)
      refine z_top (y := 0) rfl ?_
      refine lv_iload hx hb dL_law_765 (lv_at hl 1 rfl) ?_
      refine lv_icmp_eq (tgt := 772) hx hb dL_law_767 (by decide) (fun c_1 => ?_) (fun c_1 => ?_)
      · skip
        refine lv_iload hx hb dL_law_772 (lv_at hl 1 rfl) ?_
        refine lv_if_ne (tgt := 796) hx hb dL_law_774 (by decide) (fun c_2 => ?_) (fun c_2 => ?_)
        · skip
          first | exact absurd c_2 (by decide) | exact absurd (by decide) c_2 | exact absurd rfl c_2
        · skip
          refine lv_aload_n hx hb dL_law_777 rfl (lv_at hl 5 rfl) ?_
          refine lv_iconst (v := 0) hx hb dL_law_778 (by decide) ?_
          obtain ⟨hP, hD⟩ := zp_3 hP hD
          refine z_lout (q0 := 0) (v := (bI (hasC F (nN (xs (i + 1))) (xs (i + 2)))).toInt64) hx hb hK hP rfl dL_law_779 rfl ?_
          refine lv_iload hx hb dL_law_780 (lv_at hl 0 rfl) ?_
          refine lv_if_eq (tgt := 789) hx hb dL_law_782 (by decide) (fun c_3 => ?_) (fun c_3 => ?_)
          · skip
            refine lv_lconst (v := 0) hx hb dL_law_789 (by decide) ?_
            refine z_lcmp_eq (tgt := 796) hx hb dL_law_790 dL_law_791 (by decide) (fun c_4 => ?_) (fun c_4 => ?_)
            · skip
              refine lv_goto (tgt := 1447) hx hb dL_law_796 (by decide) ?_
              obtain ⟨hP, hD⟩ := zp_4 hP hD
              refine W.widen (k := cells + 3) (n := slots + 18) (by omega) (by omega) ?_
              exact kk _ ⟨S, F, TS, TF, ES, EF, HS, KS, KF, X, B, (upd V 1 0), G, (vp_updL OL 0 (bI (hasC F (nN (xs (i + 1))) (xs (i + 2)))).toInt64), p, n, L, rfl, (lwR_v hR rfl rfl)⟩ _ _ _ hP hD hS (lv_sub hl [2, 3, 4, 5, 6] rfl)
            · exact absurd (lw_b0 (r_has hag (lw_wh w0 rfl) _) c_3) c_4
          · skip
            refine lv_lconst (v := 1) hx hb dL_law_785 (by decide) ?_
            refine lv_goto (tgt := 790) hx hb dL_law_786 (by decide) ?_
            refine z_lcmp_eq (tgt := 796) hx hb dL_law_790 dL_law_791 (by decide) (fun c_5 => ?_) (fun c_5 => ?_)
            · skip
              refine lv_goto (tgt := 1447) hx hb dL_law_796 (by decide) ?_
              obtain ⟨hP, hD⟩ := zp_4 hP hD
              refine W.widen (k := cells + 3) (n := slots + 18) (by omega) (by omega) ?_
              exact kk _ ⟨S, F, TS, TF, ES, EF, HS, KS, KF, X, B, (upd V 1 0), G, (vp_updL OL 0 (bI (hasC F (nN (xs (i + 1))) (xs (i + 2)))).toInt64), p, n, L, rfl, (lwR_v hR rfl rfl)⟩ _ _ _ hP hD hS (lv_sub hl [2, 3, 4, 5, 6] rfl)
            · exact absurd (lw_b1 (r_has hag (lw_wh w0 rfl) _) c_3) c_5
      · skip
        first | exact absurd c_1 (by decide) | exact absurd (by decide) c_1 | exact absurd rfl c_1
    · skip
      obtain ⟨hP, hD⟩ := zp_6 hP hD
      refine z_lawH ⟨hx, hb, hml, hown, hts⟩ zYw_cam w_st_yL_cam w_ml_L_114 [.ref (ad 3 0), .int (xs (i + 1)), .int (xs (i + 2)), .ref ou] [] (c_L_cam_e1 l D cs hfl ad S F (xs (i + 1)) (xs (i + 2)) ou OL (by rw [exT_t w0, exT_f w1])) hE hK hA hP hD hS (z_la (z_la rfl (z_lm _ _ _ _ _ _)) (z_lo _ _ _ _)) rfl hl.1 (Nat.le_of_ble_eq_true rfl) ⟨Nat.le_of_ble_eq_true rfl, Nat.le_of_ble_eq_true rfl⟩ ⟨by show _ ≤ 601024; omega, by show _ ≤ 7293034; omega⟩ dL_law_738 (fun H locs hP hD hS => ?_)
      refine lv_istore (lv' := [(5, .int 1), (0, .ref b), (1, .ref (ad 3 0)), (2, .ref (a 0)), (3, .ref ou), (4, .int (nI i))]) hx hb dL_law_741 hl (by decide) rfl (fun ls hl => ?_)
      refine lv_aload_n hx hb dL_law_743 rfl (lv_at hl 3 rfl) ?_
      refine lv_aload_n hx hb dL_law_744 rfl (lv_at hl 1 rfl) ?_
      refine lv_iload hx hb dL_law_745 (lv_at hl 5 rfl) ?_
      refine lv_iconst (v := 1) hx hb dL_law_747 (by decide) ?_
      refine lv_iadd hx hb dL_law_748 ?_
      refine z_top (y := nI (i + 1)) (nI_add i 1) ?_
      refine z_scr (k := i + 1) hx hb hXs hbl hbA hS (by omega) hLs dL_law_749 ?_
      refine lv_aload_n hx hb dL_law_750 rfl (lv_at hl 1 rfl) ?_
      refine lv_iload hx hb dL_law_751 (lv_at hl 5 rfl) ?_
      refine lv_iconst (v := 2) hx hb dL_law_753 (by decide) ?_
      refine lv_iadd hx hb dL_law_754 ?_
      refine z_top (y := nI (i + 2)) (nI_add i 2) ?_
      refine z_scr (k := i + 2) hx hb hXs hbl hbA hS (by omega) hLs dL_law_755 ?_
      obtain ⟨hP, hD⟩ := zp_7 hP hD
      refine z_lawV ⟨hx, hb, hml, hown, hts⟩ zY_X8_cam w_im_yX8_cam w_se_yX8_cam w_ml_L_116 [.int (xs (i + 1)), .int (xs (i + 2))] [] (c_X8_cam_t1 l D cs a V G (nN (S 0)) (xs (i + 1)) (xs (i + 2)) h0 hn16 (fun z => w1 (by rw [← e0]; exact z.2))) hE hK hA hP hD hS (z_lr _ _ _ _ _ _) 8 rfl rfl rfl rfl hl.1 (Nat.le_of_ble_eq_true rfl) ⟨Nat.le_of_ble_eq_true rfl, Nat.le_of_ble_eq_true rfl⟩ ⟨by show _ ≤ 601024; omega, by show _ ≤ 7293034; omega⟩ dL_law_756 (fun H locs hP hD hS => ?_)
      refine lv_istore (lv' := [(6, .int 0), (5, .int 1), (0, .ref b), (1, .ref (ad 3 0)), (2, .ref (a 0)), (3, .ref ou), (4, .int (nI i))]) hx hb dL_law_759 hl (by decide) rfl (fun ls hl => ?_)
      refine lv_aload_n hx hb dL_law_761 rfl (lv_at hl 4 rfl) ?_
      refine z_lawV ⟨hx, hb, hml, hown, hts⟩ zY_X8_thrown w_im_yX8_thrown w_se_yX8_thrown w_ml_L_86 [] [] (c_X8_thrown l D cs a ((upd V 1 1)) G) hE hK hA hP hD hS (z_lr _ _ _ _ _ _) 8 rfl rfl rfl rfl hl.1 (Nat.le_of_ble_eq_true rfl) ⟨Nat.le_of_ble_eq_true rfl, Nat.le_of_ble_eq_true rfl⟩ ⟨by show _ ≤ 601024; omega, by show _ ≤ 7293034; omega⟩ dL_law_762 (fun H locs hP hD hS => ?_)
      refine z_top (y := 1) rfl ?_
      refine lv_iload hx hb dL_law_765 (lv_at hl 1 rfl) ?_
      refine lv_icmp_eq (tgt := 772) hx hb dL_law_767 (by decide) (fun c_6 => ?_) (fun c_6 => ?_)
      · skip
        refine lv_iload hx hb dL_law_772 (lv_at hl 1 rfl) ?_
        refine lv_if_ne (tgt := 796) hx hb dL_law_774 (by decide) (fun c_7 => ?_) (fun c_7 => ?_)
        · skip
          refine lv_goto (tgt := 1447) hx hb dL_law_796 (by decide) ?_
          obtain ⟨hP, hD⟩ := zp_5 hP hD
          refine W.widen (k := cells + 3) (n := slots + 18) (by omega) (by omega) ?_
          exact kk _ ⟨S, F, TS, TF, ES, EF, HS, KS, KF, X, B, (upd V 1 1), G, OL, p, n, L, rfl, (lwR_v hR rfl rfl)⟩ _ _ _ hP hD hS (lv_sub hl [2, 3, 4, 5, 6] rfl)
        · skip
          first | exact absurd c_7 (by decide) | exact absurd (by decide) c_7 | exact absurd rfl c_7
      · skip
        first | exact absurd c_6 (by decide) | exact absurd (by decide) c_6 | exact absurd rfl c_6
  · skip
    obtain ⟨hP, hD⟩ := zp_6 hP hD
    refine z_lawH ⟨hx, hb, hml, hown, hts⟩ zYw_cam w_st_yL_cam w_ml_L_114 [.ref (ad 3 0), .int (xs (i + 1)), .int (xs (i + 2)), .ref ou] [] (c_L_cam_e1 l D cs hfl ad S F (xs (i + 1)) (xs (i + 2)) ou OL (by rw [exT_f w0])) hE hK hA hP hD hS (z_la (z_la rfl (z_lm _ _ _ _ _ _)) (z_lo _ _ _ _)) rfl hl.1 (Nat.le_of_ble_eq_true rfl) ⟨Nat.le_of_ble_eq_true rfl, Nat.le_of_ble_eq_true rfl⟩ ⟨by show _ ≤ 601024; omega, by show _ ≤ 7293034; omega⟩ dL_law_738 (fun H locs hP hD hS => ?_)
    refine lv_istore (lv' := [(5, .int 1), (0, .ref b), (1, .ref (ad 3 0)), (2, .ref (a 0)), (3, .ref ou), (4, .int (nI i))]) hx hb dL_law_741 hl (by decide) rfl (fun ls hl => ?_)
    refine lv_aload_n hx hb dL_law_743 rfl (lv_at hl 3 rfl) ?_
    refine lv_aload_n hx hb dL_law_744 rfl (lv_at hl 1 rfl) ?_
    refine lv_iload hx hb dL_law_745 (lv_at hl 5 rfl) ?_
    refine lv_iconst (v := 1) hx hb dL_law_747 (by decide) ?_
    refine lv_iadd hx hb dL_law_748 ?_
    refine z_top (y := nI (i + 1)) (nI_add i 1) ?_
    refine z_scr (k := i + 1) hx hb hXs hbl hbA hS (by omega) hLs dL_law_749 ?_
    refine lv_aload_n hx hb dL_law_750 rfl (lv_at hl 1 rfl) ?_
    refine lv_iload hx hb dL_law_751 (lv_at hl 5 rfl) ?_
    refine lv_iconst (v := 2) hx hb dL_law_753 (by decide) ?_
    refine lv_iadd hx hb dL_law_754 ?_
    refine z_top (y := nI (i + 2)) (nI_add i 2) ?_
    refine z_scr (k := i + 2) hx hb hXs hbl hbA hS (by omega) hLs dL_law_755 ?_
    obtain ⟨hP, hD⟩ := zp_7 hP hD
    refine z_lawV ⟨hx, hb, hml, hown, hts⟩ zY_X8_cam w_im_yX8_cam w_se_yX8_cam w_ml_L_116 [.int (xs (i + 1)), .int (xs (i + 2))] [] (c_X8_cam_t1 l D cs a V G (nN (S 0)) (xs (i + 1)) (xs (i + 2)) h0 hn16 (fun z => w0 z.1)) hE hK hA hP hD hS (z_lr _ _ _ _ _ _) 8 rfl rfl rfl rfl hl.1 (Nat.le_of_ble_eq_true rfl) ⟨Nat.le_of_ble_eq_true rfl, Nat.le_of_ble_eq_true rfl⟩ ⟨by show _ ≤ 601024; omega, by show _ ≤ 7293034; omega⟩ dL_law_756 (fun H locs hP hD hS => ?_)
    refine lv_istore (lv' := [(6, .int 0), (5, .int 1), (0, .ref b), (1, .ref (ad 3 0)), (2, .ref (a 0)), (3, .ref ou), (4, .int (nI i))]) hx hb dL_law_759 hl (by decide) rfl (fun ls hl => ?_)
    refine lv_aload_n hx hb dL_law_761 rfl (lv_at hl 4 rfl) ?_
    refine z_lawV ⟨hx, hb, hml, hown, hts⟩ zY_X8_thrown w_im_yX8_thrown w_se_yX8_thrown w_ml_L_86 [] [] (c_X8_thrown l D cs a ((upd V 1 1)) G) hE hK hA hP hD hS (z_lr _ _ _ _ _ _) 8 rfl rfl rfl rfl hl.1 (Nat.le_of_ble_eq_true rfl) ⟨Nat.le_of_ble_eq_true rfl, Nat.le_of_ble_eq_true rfl⟩ ⟨by show _ ≤ 601024; omega, by show _ ≤ 7293034; omega⟩ dL_law_762 (fun H locs hP hD hS => ?_)
    refine z_top (y := 1) rfl ?_
    refine lv_iload hx hb dL_law_765 (lv_at hl 1 rfl) ?_
    refine lv_icmp_eq (tgt := 772) hx hb dL_law_767 (by decide) (fun c_8 => ?_) (fun c_8 => ?_)
    · skip
      refine lv_iload hx hb dL_law_772 (lv_at hl 1 rfl) ?_
      refine lv_if_ne (tgt := 796) hx hb dL_law_774 (by decide) (fun c_9 => ?_) (fun c_9 => ?_)
      · skip
        refine lv_goto (tgt := 1447) hx hb dL_law_796 (by decide) ?_
        obtain ⟨hP, hD⟩ := zp_5 hP hD
        refine W.widen (k := cells + 3) (n := slots + 18) (by omega) (by omega) ?_
        exact kk _ ⟨S, F, TS, TF, ES, EF, HS, KS, KF, X, B, (upd V 1 1), G, OL, p, n, L, rfl, (lwR_v hR rfl rfl)⟩ _ _ _ hP hD hS (lv_sub hl [2, 3, 4, 5, 6] rfl)
      · skip
        first | exact absurd c_9 (by decide) | exact absurd (by decide) c_9 | exact absurd rfl c_9
    · skip
      first | exact absurd c_8 (by decide) | exact absurd (by decide) c_8 | exact absurd rfl c_8

set_option maxHeartbeats 4000000 in
set_option maxRecDepth 100000 in
theorem law_cylinder {pq : Program} (l : Launch) {eq : Env} {s : State} {mq : MethodId} {below : List Frame} {meth : Method} {cq : Code} {A : Nat → Prop} {D : va_G} {cs : zCs} {b Ls i : Nat} {xs : Nat → Int32} {H : Heap} {locs : List Loc} {ls : Array Slot} {cells slots : Nat} {Q : State → Prop} {ad kd : Nat → Nat → Nat} {a : Nat → Nat} {ou : Nat} {S : Nat → Int32} {F : Nat → Nat → Int32} {TS : Nat → Int32} {TF : Nat → Nat → Int32} {ES : Nat → Int32} {EF : Nat → Nat → Int32} {HS : Nat → Int32} {KS : Nat → Nat → Int32} {KF : Nat → Nat → Nat → Int32} {X : Nat → Int32} {B : Nat → Nat → Int32} {V : Nat → Int32} {G : Nat → Nat → Int32} {OL : Nat → Int64} {p n L : Nat} (hfl : l.stackTraces = false) (hx : pq.tables.exec = Jvm.exec) (hb : cq.code = cL_law) (hml : cq.maxLocals = 9) (hown : s.vm.findClass RL = some mq.cls) (hts : ∀ w ∈ wsG, w.before #[Value.ref b] s = true) (hXs : va_X b Ls xs s s.heap) (hbl : b < s.heap.size) (hbA : ¬ A b) (hE : zE A s) (hK : va_K D vwCl (zT cs) s) (hA : ∀ q : Nat, s.heap.size ≤ q → A q) (hLs : Ls ≤ 2560) (hi : i + 5 ≤ Ls) (hce : cells + 3 ≤ 601024) (hsl : slots + 18 ≤ 7293034) (hR : lwR S F HS KS KF X B V G p n L) (hP : va_P D vwCl ((camW ad) ++ (macW cs (ad 0) S F) ++ (macW cs (ad 1) TS TF) ++ (macW cs (ad 2) ES EF) ++ (hisW cs (ad 4) kd HS) ++ (macW cs (kd 0) (KS 0) (KF 0)) ++ (macW cs (kd 1) (KS 1) (KF 1)) ++ (macW cs (kd 2) (KS 2) (KF 2)) ++ (macW cs (kd 3) (KS 3) (KF 3)) ++ (txtW cs (ad 5) X B) ++ (refW cs a V G) ++ [(ou, .inl (cs.2.1, 1, .inr (.inl OL)))]) H) (hD : va_D A ((camW ad) ++ (macW cs (ad 0) S F) ++ (macW cs (ad 1) TS TF) ++ (macW cs (ad 2) ES EF) ++ (hisW cs (ad 4) kd HS) ++ (macW cs (kd 0) (KS 0) (KF 0)) ++ (macW cs (kd 1) (KS 1) (KF 1)) ++ (macW cs (kd 2) (KS 2) (KF 2)) ++ (macW cs (kd 3) (KS 3) (KF 3)) ++ (txtW cs (ad 5) X B) ++ (refW cs a V G) ++ [(ou, .inl (cs.2.1, 1, .inr (.inl OL)))])) (hS : va_S A s.heap H locs) (hl : lv_has ls 9 [(0, .ref b), (1, .ref (ad 3 0)), (2, .ref (a 0)), (3, .ref ou), (4, .int (nI i))]) (kk : ∀ (w : va_W), lwI cs ad kd a ou w → ∀ (H : Heap) (locs : List Loc) (ls : Array Slot), va_P D vwCl w H → va_D A w → va_S A s.heap H locs → lv_has ls 9 [(0, .ref b), (1, .ref (ad 3 0)), (2, .ref (a 0)), (3, .ref ou), (4, .int (nI i))] → W pq l eq room_1 s mq #[Value.ref b] below meth cq H locs (cells + 3) (slots + 18) Q (F0 mq 1447 ls [])) : W pq l eq room_1 s mq #[Value.ref b] below meth cq H locs cells slots Q (F0 mq 799 ls []) := by
  obtain ⟨⟨hp, hp4, hn, hn4, hsn⟩, hag, hrg, hX0, hL, h4, hGB, htx⟩ := id hR
  have e0 : G 0 0 = S 0 := agr_s hag (by omega)
  have e8 : G 0 8 = S 8 := agr_s hag (by omega)
  have e9 : G 0 9 = S 9 := agr_s hag (by omega)
  obtain ⟨hn2, hn16, hS0⟩ := lw_n0 hag
  obtain ⟨hg4, hS8, ez⟩ := lw_n8 hag
  have h0 : G 0 0 = nI (nN (S 0)) := e0.trans hS0
  have h8 : G 0 8 = nI (nN (S 8)) := e8.trans hS8
  have hok : rOK (G 0) := r_ok hag
  have ho : ∀ j, j < nN (S 8) → ∃ o, o < 5 ∧ G 0 (51 + 3 * j + 1) = nI o := lw_ho hag
  refine lv_aload_n hx hb dL_law_799 rfl (lv_at hl 1 rfl) ?_
  refine lv_aload_n hx hb dL_law_800 rfl (lv_at hl 0 rfl) ?_
  refine lv_iload hx hb dL_law_801 (lv_at hl 4 rfl) ?_
  refine lv_iconst (v := 1) hx hb dL_law_803 (by decide) ?_
  refine lv_iadd hx hb dL_law_804 ?_
  refine z_top (y := nI (i + 1)) (nI_add i 1) ?_
  refine z_scr (k := i + 1) hx hb hXs hbl hbA hS (by omega) hLs dL_law_805 ?_
  refine lv_aload_n hx hb dL_law_806 rfl (lv_at hl 0 rfl) ?_
  refine lv_iload hx hb dL_law_807 (lv_at hl 4 rfl) ?_
  refine lv_iconst (v := 2) hx hb dL_law_809 (by decide) ?_
  refine lv_iadd hx hb dL_law_810 ?_
  refine z_top (y := nI (i + 2)) (nI_add i 2) ?_
  refine z_scr (k := i + 2) hx hb hXs hbl hbA hS (by omega) hLs dL_law_811 ?_
  refine lv_aload_n hx hb dL_law_812 rfl (lv_at hl 3 rfl) ?_
  by_cases w0 : 0 ≤ (xs (i + 1)) ∧ (xs (i + 1)) ≤ 4
  · skip
    by_cases w1 : 0 ≤ (xs (i + 2)) ∧ (xs (i + 2)) ≤ 8 - 1
    · skip
      obtain ⟨hP, hD⟩ := zp_6 hP hD
      refine z_lawH ⟨hx, hb, hml, hown, hts⟩ zYw_cylinder w_st_yL_cylinder w_ml_L_117 [.ref (ad 3 0), .int (xs (i + 1)), .int (xs (i + 2)), .ref ou] [] (c_L_cylinder_ok l D cs hfl ad S F (xs (i + 1)) (xs (i + 2)) ou OL (by rw [exT_t w0, exT_t w1])) hE hK hA hP hD hS (z_la (z_la rfl (z_lm _ _ _ _ _ _)) (z_lo _ _ _ _)) rfl hl.1 (Nat.le_of_ble_eq_true rfl) ⟨Nat.le_of_ble_eq_true rfl, Nat.le_of_ble_eq_true rfl⟩ ⟨by show _ ≤ 601024; omega, by show _ ≤ 7293034; omega⟩ dL_law_813 (fun H locs hP hD hS => ?_)
      refine lv_istore (lv' := [(5, .int 0), (0, .ref b), (1, .ref (ad 3 0)), (2, .ref (a 0)), (3, .ref ou), (4, .int (nI i))]) hx hb dL_law_816 hl (by decide) rfl (fun ls hl => ?_)
      refine lv_aload_n hx hb dL_law_818 rfl (lv_at hl 3 rfl) ?_
      refine lv_aload_n hx hb dL_law_819 rfl (lv_at hl 1 rfl) ?_
      refine lv_iload hx hb dL_law_820 (lv_at hl 5 rfl) ?_
      refine lv_iconst (v := 1) hx hb dL_law_822 (by decide) ?_
      refine lv_iadd hx hb dL_law_823 ?_
      refine z_top (y := nI (i + 1)) (nI_add i 1) ?_
      refine z_scr (k := i + 1) hx hb hXs hbl hbA hS (by omega) hLs dL_law_824 ?_
      refine lv_aload_n hx hb dL_law_825 rfl (lv_at hl 1 rfl) ?_
      refine lv_iload hx hb dL_law_826 (lv_at hl 5 rfl) ?_
      refine lv_iconst (v := 2) hx hb dL_law_828 (by decide) ?_
      refine lv_iadd hx hb dL_law_829 ?_
      refine z_top (y := nI (i + 2)) (nI_add i 2) ?_
      refine z_scr (k := i + 2) hx hb hXs hbl hbA hS (by omega) hLs dL_law_830 ?_
      obtain ⟨hP, hD⟩ := zp_7 hP hD
      refine z_lawV ⟨hx, hb, hml, hown, hts⟩ zY_X8_cylinder w_im_yX8_cylinder w_se_yX8_cylinder w_ml_L_119 [.int (xs (i + 1)), .int (xs (i + 2))] [] (c_X8_cylinder_ok l D cs a V G (xs (i + 1)) (xs (i + 2)) hok w0 w1) hE hK hA hP hD hS (z_lr _ _ _ _ _ _) 8 rfl rfl rfl rfl hl.1 (Nat.le_of_ble_eq_true rfl) ⟨Nat.le_of_ble_eq_true rfl, Nat.le_of_ble_eq_true rfl⟩ ⟨by show _ ≤ 601024; omega, by show _ ≤ 7293034; omega⟩ dL_law_831 (fun H locs hP hD hS => ?_)
      refine lv_istore (lv' := [(6, .int (rcyl (G 0) (nN (xs (i + 1))) (nN (xs (i + 2))))), (5, .int 0), (0, .ref b), (1, .ref (ad 3 0)), (2, .ref (a 0)), (3, .ref ou), (4, .int (nI i))]) hx hb dL_law_834 hl (by decide) rfl (fun ls hl => ?_)
      refine lv_aload_n hx hb dL_law_836 rfl (lv_at hl 4 rfl) ?_
      refine z_lawV ⟨hx, hb, hml, hown, hts⟩ zY_X8_thrown w_im_yX8_thrown w_se_yX8_thrown w_ml_L_86 [] [] (c_X8_thrown l D cs a ((upd V 1 0)) G) hE hK hA hP hD hS (z_lr _ _ _ _ _ _) 8 rfl rfl rfl rfl hl.1 (Nat.le_of_ble_eq_true rfl) ⟨Nat.le_of_ble_eq_true rfl, Nat.le_of_ble_eq_true rfl⟩ ⟨by show _ ≤ 601024; omega, by show _ ≤ 7293034; omega⟩ dL_law_837 (fun H locs hP hD hS => ?_)
      refine z_top (y := 0) rfl ?_
      refine lv_iload hx hb dL_law_840 (lv_at hl 1 rfl) ?_
      refine lv_icmp_eq (tgt := 847) hx hb dL_law_842 (by decide) (fun c_1 => ?_) (fun c_1 => ?_)
      · skip
        refine lv_iload hx hb dL_law_847 (lv_at hl 1 rfl) ?_
        refine lv_if_ne (tgt := 864) hx hb dL_law_849 (by decide) (fun c_2 => ?_) (fun c_2 => ?_)
        · skip
          first | exact absurd c_2 (by decide) | exact absurd (by decide) c_2 | exact absurd rfl c_2
        · skip
          refine lv_aload_n hx hb dL_law_852 rfl (lv_at hl 5 rfl) ?_
          refine lv_iconst (v := 0) hx hb dL_law_853 (by decide) ?_
          obtain ⟨hP, hD⟩ := zp_3 hP hD
          refine z_lout (q0 := 0) (v := (cylN S F (nN (xs (i + 1))) (nN (xs (i + 2)))).toInt64) hx hb hK hP rfl dL_law_854 rfl ?_
          refine lv_iload hx hb dL_law_855 (lv_at hl 0 rfl) ?_
          refine lv_i2l (v := (rcyl (G 0) (nN (xs (i + 1))) (nN (xs (i + 2)))).toInt64) hx hb dL_law_857 rfl ?_
          refine z_lcmp_eq (tgt := 864) hx hb dL_law_858 dL_law_859 (by decide) (fun c_3 => ?_) (fun c_3 => ?_)
          · skip
            refine lv_goto (tgt := 1447) hx hb dL_law_864 (by decide) ?_
            obtain ⟨hP, hD⟩ := zp_4 hP hD
            refine W.widen (k := cells + 3) (n := slots + 18) (by omega) (by omega) ?_
            exact kk _ ⟨S, F, TS, TF, ES, EF, HS, KS, KF, X, B, (upd V 1 0), G, (vp_updL OL 0 (cylN S F (nN (xs (i + 1))) (nN (xs (i + 2)))).toInt64), p, n, L, rfl, (lwR_v hR rfl rfl)⟩ _ _ _ hP hD hS (lv_sub hl [2, 3, 4, 5, 6] rfl)
          · exact absurd (congrArg Int32.toInt64 ((r_cyl hag (lw_wh w0 rfl) (lw_wh w1 rfl)).symm)) c_3
      · skip
        first | exact absurd c_1 (by decide) | exact absurd (by decide) c_1 | exact absurd rfl c_1
    · skip
      obtain ⟨hP, hD⟩ := zp_6 hP hD
      refine z_lawH ⟨hx, hb, hml, hown, hts⟩ zYw_cylinder w_st_yL_cylinder w_ml_L_117 [.ref (ad 3 0), .int (xs (i + 1)), .int (xs (i + 2)), .ref ou] [] (c_L_cylinder_e2 l D cs hfl ad S F (xs (i + 1)) (xs (i + 2)) ou OL (by rw [exT_t w0, exT_f w1])) hE hK hA hP hD hS (z_la (z_la rfl (z_lm _ _ _ _ _ _)) (z_lo _ _ _ _)) rfl hl.1 (Nat.le_of_ble_eq_true rfl) ⟨Nat.le_of_ble_eq_true rfl, Nat.le_of_ble_eq_true rfl⟩ ⟨by show _ ≤ 601024; omega, by show _ ≤ 7293034; omega⟩ dL_law_813 (fun H locs hP hD hS => ?_)
      refine lv_istore (lv' := [(5, .int 2), (0, .ref b), (1, .ref (ad 3 0)), (2, .ref (a 0)), (3, .ref ou), (4, .int (nI i))]) hx hb dL_law_816 hl (by decide) rfl (fun ls hl => ?_)
      refine lv_aload_n hx hb dL_law_818 rfl (lv_at hl 3 rfl) ?_
      refine lv_aload_n hx hb dL_law_819 rfl (lv_at hl 1 rfl) ?_
      refine lv_iload hx hb dL_law_820 (lv_at hl 5 rfl) ?_
      refine lv_iconst (v := 1) hx hb dL_law_822 (by decide) ?_
      refine lv_iadd hx hb dL_law_823 ?_
      refine z_top (y := nI (i + 1)) (nI_add i 1) ?_
      refine z_scr (k := i + 1) hx hb hXs hbl hbA hS (by omega) hLs dL_law_824 ?_
      refine lv_aload_n hx hb dL_law_825 rfl (lv_at hl 1 rfl) ?_
      refine lv_iload hx hb dL_law_826 (lv_at hl 5 rfl) ?_
      refine lv_iconst (v := 2) hx hb dL_law_828 (by decide) ?_
      refine lv_iadd hx hb dL_law_829 ?_
      refine z_top (y := nI (i + 2)) (nI_add i 2) ?_
      refine z_scr (k := i + 2) hx hb hXs hbl hbA hS (by omega) hLs dL_law_830 ?_
      obtain ⟨hP, hD⟩ := zp_7 hP hD
      refine z_lawV ⟨hx, hb, hml, hown, hts⟩ zY_X8_cylinder w_im_yX8_cylinder w_se_yX8_cylinder w_ml_L_119 [.int (xs (i + 1)), .int (xs (i + 2))] [] (c_X8_cylinder_t2 l D cs a V G (xs (i + 1)) (xs (i + 2)) hok w0 w1) hE hK hA hP hD hS (z_lr _ _ _ _ _ _) 8 rfl rfl rfl rfl hl.1 (Nat.le_of_ble_eq_true rfl) ⟨Nat.le_of_ble_eq_true rfl, Nat.le_of_ble_eq_true rfl⟩ ⟨by show _ ≤ 601024; omega, by show _ ≤ 7293034; omega⟩ dL_law_831 (fun H locs hP hD hS => ?_)
      refine lv_istore (lv' := [(6, .int 0), (5, .int 2), (0, .ref b), (1, .ref (ad 3 0)), (2, .ref (a 0)), (3, .ref ou), (4, .int (nI i))]) hx hb dL_law_834 hl (by decide) rfl (fun ls hl => ?_)
      refine lv_aload_n hx hb dL_law_836 rfl (lv_at hl 4 rfl) ?_
      refine z_lawV ⟨hx, hb, hml, hown, hts⟩ zY_X8_thrown w_im_yX8_thrown w_se_yX8_thrown w_ml_L_86 [] [] (c_X8_thrown l D cs a ((upd V 1 2)) G) hE hK hA hP hD hS (z_lr _ _ _ _ _ _) 8 rfl rfl rfl rfl hl.1 (Nat.le_of_ble_eq_true rfl) ⟨Nat.le_of_ble_eq_true rfl, Nat.le_of_ble_eq_true rfl⟩ ⟨by show _ ≤ 601024; omega, by show _ ≤ 7293034; omega⟩ dL_law_837 (fun H locs hP hD hS => ?_)
      refine z_top (y := 2) rfl ?_
      refine lv_iload hx hb dL_law_840 (lv_at hl 1 rfl) ?_
      refine lv_icmp_eq (tgt := 847) hx hb dL_law_842 (by decide) (fun c_4 => ?_) (fun c_4 => ?_)
      · skip
        refine lv_iload hx hb dL_law_847 (lv_at hl 1 rfl) ?_
        refine lv_if_ne (tgt := 864) hx hb dL_law_849 (by decide) (fun c_5 => ?_) (fun c_5 => ?_)
        · skip
          refine lv_goto (tgt := 1447) hx hb dL_law_864 (by decide) ?_
          obtain ⟨hP, hD⟩ := zp_5 hP hD
          refine W.widen (k := cells + 3) (n := slots + 18) (by omega) (by omega) ?_
          exact kk _ ⟨S, F, TS, TF, ES, EF, HS, KS, KF, X, B, (upd V 1 2), G, OL, p, n, L, rfl, (lwR_v hR rfl rfl)⟩ _ _ _ hP hD hS (lv_sub hl [2, 3, 4, 5, 6] rfl)
        · skip
          first | exact absurd c_5 (by decide) | exact absurd (by decide) c_5 | exact absurd rfl c_5
      · skip
        first | exact absurd c_4 (by decide) | exact absurd (by decide) c_4 | exact absurd rfl c_4
  · skip
    obtain ⟨hP, hD⟩ := zp_6 hP hD
    refine z_lawH ⟨hx, hb, hml, hown, hts⟩ zYw_cylinder w_st_yL_cylinder w_ml_L_117 [.ref (ad 3 0), .int (xs (i + 1)), .int (xs (i + 2)), .ref ou] [] (c_L_cylinder_e1 l D cs hfl ad S F (xs (i + 1)) (xs (i + 2)) ou OL (by rw [exT_f w0])) hE hK hA hP hD hS (z_la (z_la rfl (z_lm _ _ _ _ _ _)) (z_lo _ _ _ _)) rfl hl.1 (Nat.le_of_ble_eq_true rfl) ⟨Nat.le_of_ble_eq_true rfl, Nat.le_of_ble_eq_true rfl⟩ ⟨by show _ ≤ 601024; omega, by show _ ≤ 7293034; omega⟩ dL_law_813 (fun H locs hP hD hS => ?_)
    refine lv_istore (lv' := [(5, .int 1), (0, .ref b), (1, .ref (ad 3 0)), (2, .ref (a 0)), (3, .ref ou), (4, .int (nI i))]) hx hb dL_law_816 hl (by decide) rfl (fun ls hl => ?_)
    refine lv_aload_n hx hb dL_law_818 rfl (lv_at hl 3 rfl) ?_
    refine lv_aload_n hx hb dL_law_819 rfl (lv_at hl 1 rfl) ?_
    refine lv_iload hx hb dL_law_820 (lv_at hl 5 rfl) ?_
    refine lv_iconst (v := 1) hx hb dL_law_822 (by decide) ?_
    refine lv_iadd hx hb dL_law_823 ?_
    refine z_top (y := nI (i + 1)) (nI_add i 1) ?_
    refine z_scr (k := i + 1) hx hb hXs hbl hbA hS (by omega) hLs dL_law_824 ?_
    refine lv_aload_n hx hb dL_law_825 rfl (lv_at hl 1 rfl) ?_
    refine lv_iload hx hb dL_law_826 (lv_at hl 5 rfl) ?_
    refine lv_iconst (v := 2) hx hb dL_law_828 (by decide) ?_
    refine lv_iadd hx hb dL_law_829 ?_
    refine z_top (y := nI (i + 2)) (nI_add i 2) ?_
    refine z_scr (k := i + 2) hx hb hXs hbl hbA hS (by omega) hLs dL_law_830 ?_
    obtain ⟨hP, hD⟩ := zp_7 hP hD
    refine z_lawV ⟨hx, hb, hml, hown, hts⟩ zY_X8_cylinder w_im_yX8_cylinder w_se_yX8_cylinder w_ml_L_119 [.int (xs (i + 1)), .int (xs (i + 2))] [] (c_X8_cylinder_t1 l D cs a V G (xs (i + 1)) (xs (i + 2)) hok w0) hE hK hA hP hD hS (z_lr _ _ _ _ _ _) 8 rfl rfl rfl rfl hl.1 (Nat.le_of_ble_eq_true rfl) ⟨Nat.le_of_ble_eq_true rfl, Nat.le_of_ble_eq_true rfl⟩ ⟨by show _ ≤ 601024; omega, by show _ ≤ 7293034; omega⟩ dL_law_831 (fun H locs hP hD hS => ?_)
    refine lv_istore (lv' := [(6, .int 0), (5, .int 1), (0, .ref b), (1, .ref (ad 3 0)), (2, .ref (a 0)), (3, .ref ou), (4, .int (nI i))]) hx hb dL_law_834 hl (by decide) rfl (fun ls hl => ?_)
    refine lv_aload_n hx hb dL_law_836 rfl (lv_at hl 4 rfl) ?_
    refine z_lawV ⟨hx, hb, hml, hown, hts⟩ zY_X8_thrown w_im_yX8_thrown w_se_yX8_thrown w_ml_L_86 [] [] (c_X8_thrown l D cs a ((upd V 1 1)) G) hE hK hA hP hD hS (z_lr _ _ _ _ _ _) 8 rfl rfl rfl rfl hl.1 (Nat.le_of_ble_eq_true rfl) ⟨Nat.le_of_ble_eq_true rfl, Nat.le_of_ble_eq_true rfl⟩ ⟨by show _ ≤ 601024; omega, by show _ ≤ 7293034; omega⟩ dL_law_837 (fun H locs hP hD hS => ?_)
    refine z_top (y := 1) rfl ?_
    refine lv_iload hx hb dL_law_840 (lv_at hl 1 rfl) ?_
    refine lv_icmp_eq (tgt := 847) hx hb dL_law_842 (by decide) (fun c_6 => ?_) (fun c_6 => ?_)
    · skip
      refine lv_iload hx hb dL_law_847 (lv_at hl 1 rfl) ?_
      refine lv_if_ne (tgt := 864) hx hb dL_law_849 (by decide) (fun c_7 => ?_) (fun c_7 => ?_)
      · skip
        refine lv_goto (tgt := 1447) hx hb dL_law_864 (by decide) ?_
        obtain ⟨hP, hD⟩ := zp_5 hP hD
        refine W.widen (k := cells + 3) (n := slots + 18) (by omega) (by omega) ?_
        exact kk _ ⟨S, F, TS, TF, ES, EF, HS, KS, KF, X, B, (upd V 1 1), G, OL, p, n, L, rfl, (lwR_v hR rfl rfl)⟩ _ _ _ hP hD hS (lv_sub hl [2, 3, 4, 5, 6] rfl)
      · skip
        first | exact absurd c_7 (by decide) | exact absurd (by decide) c_7 | exact absurd rfl c_7
    · skip
      first | exact absurd c_6 (by decide) | exact absurd (by decide) c_6 | exact absurd rfl c_6

set_option maxHeartbeats 4000000 in
set_option maxRecDepth 100000 in
theorem law_guard {pq : Program} (l : Launch) {eq : Env} {s : State} {mq : MethodId} {below : List Frame} {meth : Method} {cq : Code} {A : Nat → Prop} {D : va_G} {cs : zCs} {b Ls i : Nat} {xs : Nat → Int32} {H : Heap} {locs : List Loc} {ls : Array Slot} {cells slots : Nat} {Q : State → Prop} {ad kd : Nat → Nat → Nat} {a : Nat → Nat} {ou : Nat} {S : Nat → Int32} {F : Nat → Nat → Int32} {TS : Nat → Int32} {TF : Nat → Nat → Int32} {ES : Nat → Int32} {EF : Nat → Nat → Int32} {HS : Nat → Int32} {KS : Nat → Nat → Int32} {KF : Nat → Nat → Nat → Int32} {X : Nat → Int32} {B : Nat → Nat → Int32} {V : Nat → Int32} {G : Nat → Nat → Int32} {OL : Nat → Int64} {p n L : Nat} (hfl : l.stackTraces = false) (hx : pq.tables.exec = Jvm.exec) (hb : cq.code = cL_law) (hml : cq.maxLocals = 9) (hown : s.vm.findClass RL = some mq.cls) (hts : ∀ w ∈ wsG, w.before #[Value.ref b] s = true) (hXs : va_X b Ls xs s s.heap) (hbl : b < s.heap.size) (hbA : ¬ A b) (hE : zE A s) (hK : va_K D vwCl (zT cs) s) (hA : ∀ q : Nat, s.heap.size ≤ q → A q) (hLs : Ls ≤ 2560) (hi : i + 5 ≤ Ls) (hce : cells + 3 ≤ 601024) (hsl : slots + 18 ≤ 7293034) (hR : lwR S F HS KS KF X B V G p n L) (hP : va_P D vwCl ((camW ad) ++ (macW cs (ad 0) S F) ++ (macW cs (ad 1) TS TF) ++ (macW cs (ad 2) ES EF) ++ (hisW cs (ad 4) kd HS) ++ (macW cs (kd 0) (KS 0) (KF 0)) ++ (macW cs (kd 1) (KS 1) (KF 1)) ++ (macW cs (kd 2) (KS 2) (KF 2)) ++ (macW cs (kd 3) (KS 3) (KF 3)) ++ (txtW cs (ad 5) X B) ++ (refW cs a V G) ++ [(ou, .inl (cs.2.1, 1, .inr (.inl OL)))]) H) (hD : va_D A ((camW ad) ++ (macW cs (ad 0) S F) ++ (macW cs (ad 1) TS TF) ++ (macW cs (ad 2) ES EF) ++ (hisW cs (ad 4) kd HS) ++ (macW cs (kd 0) (KS 0) (KF 0)) ++ (macW cs (kd 1) (KS 1) (KF 1)) ++ (macW cs (kd 2) (KS 2) (KF 2)) ++ (macW cs (kd 3) (KS 3) (KF 3)) ++ (txtW cs (ad 5) X B) ++ (refW cs a V G) ++ [(ou, .inl (cs.2.1, 1, .inr (.inl OL)))])) (hS : va_S A s.heap H locs) (hl : lv_has ls 9 [(0, .ref b), (1, .ref (ad 3 0)), (2, .ref (a 0)), (3, .ref ou), (4, .int (nI i))]) (kk : ∀ (w : va_W), lwI cs ad kd a ou w → ∀ (H : Heap) (locs : List Loc) (ls : Array Slot), va_P D vwCl w H → va_D A w → va_S A s.heap H locs → lv_has ls 9 [(0, .ref b), (1, .ref (ad 3 0)), (2, .ref (a 0)), (3, .ref ou), (4, .int (nI i))] → W pq l eq room_1 s mq #[Value.ref b] below meth cq H locs (cells + 3) (slots + 18) Q (F0 mq 1447 ls [])) : W pq l eq room_1 s mq #[Value.ref b] below meth cq H locs cells slots Q (F0 mq 867 ls []) := by
  obtain ⟨⟨hp, hp4, hn, hn4, hsn⟩, hag, hrg, hX0, hL, h4, hGB, htx⟩ := id hR
  have e0 : G 0 0 = S 0 := agr_s hag (by omega)
  have e8 : G 0 8 = S 8 := agr_s hag (by omega)
  have e9 : G 0 9 = S 9 := agr_s hag (by omega)
  obtain ⟨hn2, hn16, hS0⟩ := lw_n0 hag
  obtain ⟨hg4, hS8, ez⟩ := lw_n8 hag
  have h0 : G 0 0 = nI (nN (S 0)) := e0.trans hS0
  have h8 : G 0 8 = nI (nN (S 8)) := e8.trans hS8
  have hok : rOK (G 0) := r_ok hag
  have ho : ∀ j, j < nN (S 8) → ∃ o, o < 5 ∧ G 0 (51 + 3 * j + 1) = nI o := lw_ho hag
  refine lv_aload_n hx hb dL_law_867 rfl (lv_at hl 1 rfl) ?_
  refine lv_aload_n hx hb dL_law_868 rfl (lv_at hl 0 rfl) ?_
  refine lv_iload hx hb dL_law_869 (lv_at hl 4 rfl) ?_
  refine lv_iconst (v := 1) hx hb dL_law_871 (by decide) ?_
  refine lv_iadd hx hb dL_law_872 ?_
  refine z_top (y := nI (i + 1)) (nI_add i 1) ?_
  refine z_scr (k := i + 1) hx hb hXs hbl hbA hS (by omega) hLs dL_law_873 ?_
  refine lv_aload_n hx hb dL_law_874 rfl (lv_at hl 0 rfl) ?_
  refine lv_iload hx hb dL_law_875 (lv_at hl 4 rfl) ?_
  refine lv_iconst (v := 2) hx hb dL_law_877 (by decide) ?_
  refine lv_iadd hx hb dL_law_878 ?_
  refine z_top (y := nI (i + 2)) (nI_add i 2) ?_
  refine z_scr (k := i + 2) hx hb hXs hbl hbA hS (by omega) hLs dL_law_879 ?_
  refine lv_aload_n hx hb dL_law_880 rfl (lv_at hl 3 rfl) ?_
  by_cases w0 : 0 ≤ (xs (i + 1)) ∧ (xs (i + 1)) ≤ zmin (S 8) 4 - 1
  · skip
    by_cases w1 : 0 ≤ (xs (i + 2)) ∧ (xs (i + 2)) ≤ 4 - 1
    · skip
      obtain ⟨hP, hD⟩ := zp_6 hP hD
      refine z_lawH ⟨hx, hb, hml, hown, hts⟩ zYw_guard w_st_yL_guard w_ml_L_120 [.ref (ad 3 0), .int (xs (i + 1)), .int (xs (i + 2)), .ref ou] [] (c_L_guard_ok l D cs hfl ad S F (xs (i + 1)) (xs (i + 2)) (nN (S 8)) ou OL hS8 hg4 (by rw [exT_t w0, exT_t w1])) hE hK hA hP hD hS (z_la (z_la rfl (z_lm _ _ _ _ _ _)) (z_lo _ _ _ _)) rfl hl.1 (Nat.le_of_ble_eq_true rfl) ⟨Nat.le_of_ble_eq_true rfl, Nat.le_of_ble_eq_true rfl⟩ ⟨by show _ ≤ 601024; omega, by show _ ≤ 7293034; omega⟩ dL_law_881 (fun H locs hP hD hS => ?_)
      refine lv_istore (lv' := [(5, .int 0), (0, .ref b), (1, .ref (ad 3 0)), (2, .ref (a 0)), (3, .ref ou), (4, .int (nI i))]) hx hb dL_law_884 hl (by decide) rfl (fun ls hl => ?_)
      refine lv_aload_n hx hb dL_law_886 rfl (lv_at hl 3 rfl) ?_
      refine lv_aload_n hx hb dL_law_887 rfl (lv_at hl 1 rfl) ?_
      refine lv_iload hx hb dL_law_888 (lv_at hl 5 rfl) ?_
      refine lv_iconst (v := 1) hx hb dL_law_890 (by decide) ?_
      refine lv_iadd hx hb dL_law_891 ?_
      refine z_top (y := nI (i + 1)) (nI_add i 1) ?_
      refine z_scr (k := i + 1) hx hb hXs hbl hbA hS (by omega) hLs dL_law_892 ?_
      refine lv_aload_n hx hb dL_law_893 rfl (lv_at hl 1 rfl) ?_
      refine lv_iload hx hb dL_law_894 (lv_at hl 5 rfl) ?_
      refine lv_iconst (v := 2) hx hb dL_law_896 (by decide) ?_
      refine lv_iadd hx hb dL_law_897 ?_
      refine z_top (y := nI (i + 2)) (nI_add i 2) ?_
      refine z_scr (k := i + 2) hx hb hXs hbl hbA hS (by omega) hLs dL_law_898 ?_
      obtain ⟨hP, hD⟩ := zp_7 hP hD
      refine z_lawV ⟨hx, hb, hml, hown, hts⟩ zY_X8_guard w_im_yX8_guard w_se_yX8_guard w_ml_L_122 [.int (xs (i + 1)), .int (xs (i + 2))] [] (c_X8_guard_ok l D cs a V G (xs (i + 1)) (xs (i + 2)) (nN (S 8)) h8 hg4 ho (by rw [e8]; exact lw_gz ez w0) w1) hE hK hA hP hD hS (z_lr _ _ _ _ _ _) 8 rfl rfl rfl rfl hl.1 (Nat.le_of_ble_eq_true rfl) ⟨Nat.le_of_ble_eq_true rfl, Nat.le_of_ble_eq_true rfl⟩ ⟨by show _ ≤ 601024; omega, by show _ ≤ 7293034; omega⟩ dL_law_899 (fun H locs hP hD hS => ?_)
      refine lv_istore (lv' := [(6, .int (rgrd (G 0) (nN (xs (i + 1))) (nN (xs (i + 2))))), (5, .int 0), (0, .ref b), (1, .ref (ad 3 0)), (2, .ref (a 0)), (3, .ref ou), (4, .int (nI i))]) hx hb dL_law_902 hl (by decide) rfl (fun ls hl => ?_)
      refine lv_aload_n hx hb dL_law_904 rfl (lv_at hl 4 rfl) ?_
      refine z_lawV ⟨hx, hb, hml, hown, hts⟩ zY_X8_thrown w_im_yX8_thrown w_se_yX8_thrown w_ml_L_86 [] [] (c_X8_thrown l D cs a ((upd V 1 0)) G) hE hK hA hP hD hS (z_lr _ _ _ _ _ _) 8 rfl rfl rfl rfl hl.1 (Nat.le_of_ble_eq_true rfl) ⟨Nat.le_of_ble_eq_true rfl, Nat.le_of_ble_eq_true rfl⟩ ⟨by show _ ≤ 601024; omega, by show _ ≤ 7293034; omega⟩ dL_law_905 (fun H locs hP hD hS => ?_)
      refine z_top (y := 0) rfl ?_
      refine lv_iload hx hb dL_law_908 (lv_at hl 1 rfl) ?_
      refine lv_icmp_eq (tgt := 915) hx hb dL_law_910 (by decide) (fun c_1 => ?_) (fun c_1 => ?_)
      · skip
        refine lv_iload hx hb dL_law_915 (lv_at hl 1 rfl) ?_
        refine lv_if_ne (tgt := 932) hx hb dL_law_917 (by decide) (fun c_2 => ?_) (fun c_2 => ?_)
        · skip
          first | exact absurd c_2 (by decide) | exact absurd (by decide) c_2 | exact absurd rfl c_2
        · skip
          refine lv_aload_n hx hb dL_law_920 rfl (lv_at hl 5 rfl) ?_
          refine lv_iconst (v := 0) hx hb dL_law_921 (by decide) ?_
          obtain ⟨hP, hD⟩ := zp_3 hP hD
          refine z_lout (q0 := 0) (v := (grdN F (nN (xs (i + 1))) (nN (xs (i + 2)))).toInt64) hx hb hK hP rfl dL_law_922 rfl ?_
          refine lv_iload hx hb dL_law_923 (lv_at hl 0 rfl) ?_
          refine lv_i2l (v := (rgrd (G 0) (nN (xs (i + 1))) (nN (xs (i + 2)))).toInt64) hx hb dL_law_925 rfl ?_
          refine z_lcmp_eq (tgt := 932) hx hb dL_law_926 dL_law_927 (by decide) (fun c_3 => ?_) (fun c_3 => ?_)
          · skip
            refine lv_goto (tgt := 1447) hx hb dL_law_932 (by decide) ?_
            obtain ⟨hP, hD⟩ := zp_4 hP hD
            refine W.widen (k := cells + 3) (n := slots + 18) (by omega) (by omega) ?_
            exact kk _ ⟨S, F, TS, TF, ES, EF, HS, KS, KF, X, B, (upd V 1 0), G, (vp_updL OL 0 (grdN F (nN (xs (i + 1))) (nN (xs (i + 2)))).toInt64), p, n, L, rfl, (lwR_v hR rfl rfl)⟩ _ _ _ hP hD hS (lv_sub hl [2, 3, 4, 5, 6] rfl)
          · exact absurd (congrArg Int32.toInt64 ((r_grd hag (lw_gk hag (lw_gz ez w0)).2 (lw_gk hag (lw_gz ez w0)).1 (lw_wh w1 rfl)).symm)) c_3
      · skip
        first | exact absurd c_1 (by decide) | exact absurd (by decide) c_1 | exact absurd rfl c_1
    · skip
      obtain ⟨hP, hD⟩ := zp_6 hP hD
      refine z_lawH ⟨hx, hb, hml, hown, hts⟩ zYw_guard w_st_yL_guard w_ml_L_120 [.ref (ad 3 0), .int (xs (i + 1)), .int (xs (i + 2)), .ref ou] [] (c_L_guard_e2 l D cs hfl ad S F (xs (i + 1)) (xs (i + 2)) (nN (S 8)) ou OL hS8 hg4 (by rw [exT_t w0, exT_f w1])) hE hK hA hP hD hS (z_la (z_la rfl (z_lm _ _ _ _ _ _)) (z_lo _ _ _ _)) rfl hl.1 (Nat.le_of_ble_eq_true rfl) ⟨Nat.le_of_ble_eq_true rfl, Nat.le_of_ble_eq_true rfl⟩ ⟨by show _ ≤ 601024; omega, by show _ ≤ 7293034; omega⟩ dL_law_881 (fun H locs hP hD hS => ?_)
      refine lv_istore (lv' := [(5, .int 2), (0, .ref b), (1, .ref (ad 3 0)), (2, .ref (a 0)), (3, .ref ou), (4, .int (nI i))]) hx hb dL_law_884 hl (by decide) rfl (fun ls hl => ?_)
      refine lv_aload_n hx hb dL_law_886 rfl (lv_at hl 3 rfl) ?_
      refine lv_aload_n hx hb dL_law_887 rfl (lv_at hl 1 rfl) ?_
      refine lv_iload hx hb dL_law_888 (lv_at hl 5 rfl) ?_
      refine lv_iconst (v := 1) hx hb dL_law_890 (by decide) ?_
      refine lv_iadd hx hb dL_law_891 ?_
      refine z_top (y := nI (i + 1)) (nI_add i 1) ?_
      refine z_scr (k := i + 1) hx hb hXs hbl hbA hS (by omega) hLs dL_law_892 ?_
      refine lv_aload_n hx hb dL_law_893 rfl (lv_at hl 1 rfl) ?_
      refine lv_iload hx hb dL_law_894 (lv_at hl 5 rfl) ?_
      refine lv_iconst (v := 2) hx hb dL_law_896 (by decide) ?_
      refine lv_iadd hx hb dL_law_897 ?_
      refine z_top (y := nI (i + 2)) (nI_add i 2) ?_
      refine z_scr (k := i + 2) hx hb hXs hbl hbA hS (by omega) hLs dL_law_898 ?_
      obtain ⟨hP, hD⟩ := zp_7 hP hD
      refine z_lawV ⟨hx, hb, hml, hown, hts⟩ zY_X8_guard w_im_yX8_guard w_se_yX8_guard w_ml_L_122 [.int (xs (i + 1)), .int (xs (i + 2))] [] (c_X8_guard_t2 l D cs a V G (xs (i + 1)) (xs (i + 2)) (nN (S 8)) h8 hg4 ho (by rw [e8]; exact lw_gz ez w0) w1) hE hK hA hP hD hS (z_lr _ _ _ _ _ _) 8 rfl rfl rfl rfl hl.1 (Nat.le_of_ble_eq_true rfl) ⟨Nat.le_of_ble_eq_true rfl, Nat.le_of_ble_eq_true rfl⟩ ⟨by show _ ≤ 601024; omega, by show _ ≤ 7293034; omega⟩ dL_law_899 (fun H locs hP hD hS => ?_)
      refine lv_istore (lv' := [(6, .int 0), (5, .int 2), (0, .ref b), (1, .ref (ad 3 0)), (2, .ref (a 0)), (3, .ref ou), (4, .int (nI i))]) hx hb dL_law_902 hl (by decide) rfl (fun ls hl => ?_)
      refine lv_aload_n hx hb dL_law_904 rfl (lv_at hl 4 rfl) ?_
      refine z_lawV ⟨hx, hb, hml, hown, hts⟩ zY_X8_thrown w_im_yX8_thrown w_se_yX8_thrown w_ml_L_86 [] [] (c_X8_thrown l D cs a ((upd V 1 2)) G) hE hK hA hP hD hS (z_lr _ _ _ _ _ _) 8 rfl rfl rfl rfl hl.1 (Nat.le_of_ble_eq_true rfl) ⟨Nat.le_of_ble_eq_true rfl, Nat.le_of_ble_eq_true rfl⟩ ⟨by show _ ≤ 601024; omega, by show _ ≤ 7293034; omega⟩ dL_law_905 (fun H locs hP hD hS => ?_)
      refine z_top (y := 2) rfl ?_
      refine lv_iload hx hb dL_law_908 (lv_at hl 1 rfl) ?_
      refine lv_icmp_eq (tgt := 915) hx hb dL_law_910 (by decide) (fun c_4 => ?_) (fun c_4 => ?_)
      · skip
        refine lv_iload hx hb dL_law_915 (lv_at hl 1 rfl) ?_
        refine lv_if_ne (tgt := 932) hx hb dL_law_917 (by decide) (fun c_5 => ?_) (fun c_5 => ?_)
        · skip
          refine lv_goto (tgt := 1447) hx hb dL_law_932 (by decide) ?_
          obtain ⟨hP, hD⟩ := zp_5 hP hD
          refine W.widen (k := cells + 3) (n := slots + 18) (by omega) (by omega) ?_
          exact kk _ ⟨S, F, TS, TF, ES, EF, HS, KS, KF, X, B, (upd V 1 2), G, OL, p, n, L, rfl, (lwR_v hR rfl rfl)⟩ _ _ _ hP hD hS (lv_sub hl [2, 3, 4, 5, 6] rfl)
        · skip
          first | exact absurd c_5 (by decide) | exact absurd (by decide) c_5 | exact absurd rfl c_5
      · skip
        first | exact absurd c_4 (by decide) | exact absurd (by decide) c_4 | exact absurd rfl c_4
  · skip
    obtain ⟨hP, hD⟩ := zp_6 hP hD
    refine z_lawH ⟨hx, hb, hml, hown, hts⟩ zYw_guard w_st_yL_guard w_ml_L_120 [.ref (ad 3 0), .int (xs (i + 1)), .int (xs (i + 2)), .ref ou] [] (c_L_guard_e1 l D cs hfl ad S F (xs (i + 1)) (xs (i + 2)) (nN (S 8)) ou OL hS8 hg4 (by rw [exT_f w0])) hE hK hA hP hD hS (z_la (z_la rfl (z_lm _ _ _ _ _ _)) (z_lo _ _ _ _)) rfl hl.1 (Nat.le_of_ble_eq_true rfl) ⟨Nat.le_of_ble_eq_true rfl, Nat.le_of_ble_eq_true rfl⟩ ⟨by show _ ≤ 601024; omega, by show _ ≤ 7293034; omega⟩ dL_law_881 (fun H locs hP hD hS => ?_)
    refine lv_istore (lv' := [(5, .int 1), (0, .ref b), (1, .ref (ad 3 0)), (2, .ref (a 0)), (3, .ref ou), (4, .int (nI i))]) hx hb dL_law_884 hl (by decide) rfl (fun ls hl => ?_)
    refine lv_aload_n hx hb dL_law_886 rfl (lv_at hl 3 rfl) ?_
    refine lv_aload_n hx hb dL_law_887 rfl (lv_at hl 1 rfl) ?_
    refine lv_iload hx hb dL_law_888 (lv_at hl 5 rfl) ?_
    refine lv_iconst (v := 1) hx hb dL_law_890 (by decide) ?_
    refine lv_iadd hx hb dL_law_891 ?_
    refine z_top (y := nI (i + 1)) (nI_add i 1) ?_
    refine z_scr (k := i + 1) hx hb hXs hbl hbA hS (by omega) hLs dL_law_892 ?_
    refine lv_aload_n hx hb dL_law_893 rfl (lv_at hl 1 rfl) ?_
    refine lv_iload hx hb dL_law_894 (lv_at hl 5 rfl) ?_
    refine lv_iconst (v := 2) hx hb dL_law_896 (by decide) ?_
    refine lv_iadd hx hb dL_law_897 ?_
    refine z_top (y := nI (i + 2)) (nI_add i 2) ?_
    refine z_scr (k := i + 2) hx hb hXs hbl hbA hS (by omega) hLs dL_law_898 ?_
    obtain ⟨hP, hD⟩ := zp_7 hP hD
    refine z_lawV ⟨hx, hb, hml, hown, hts⟩ zY_X8_guard w_im_yX8_guard w_se_yX8_guard w_ml_L_122 [.int (xs (i + 1)), .int (xs (i + 2))] [] (c_X8_guard_t1 l D cs a V G (xs (i + 1)) (xs (i + 2)) (nN (S 8)) h8 hg4 ho (fun z => w0 (by rw [ez, ← e8]; exact z))) hE hK hA hP hD hS (z_lr _ _ _ _ _ _) 8 rfl rfl rfl rfl hl.1 (Nat.le_of_ble_eq_true rfl) ⟨Nat.le_of_ble_eq_true rfl, Nat.le_of_ble_eq_true rfl⟩ ⟨by show _ ≤ 601024; omega, by show _ ≤ 7293034; omega⟩ dL_law_899 (fun H locs hP hD hS => ?_)
    refine lv_istore (lv' := [(6, .int 0), (5, .int 1), (0, .ref b), (1, .ref (ad 3 0)), (2, .ref (a 0)), (3, .ref ou), (4, .int (nI i))]) hx hb dL_law_902 hl (by decide) rfl (fun ls hl => ?_)
    refine lv_aload_n hx hb dL_law_904 rfl (lv_at hl 4 rfl) ?_
    refine z_lawV ⟨hx, hb, hml, hown, hts⟩ zY_X8_thrown w_im_yX8_thrown w_se_yX8_thrown w_ml_L_86 [] [] (c_X8_thrown l D cs a ((upd V 1 1)) G) hE hK hA hP hD hS (z_lr _ _ _ _ _ _) 8 rfl rfl rfl rfl hl.1 (Nat.le_of_ble_eq_true rfl) ⟨Nat.le_of_ble_eq_true rfl, Nat.le_of_ble_eq_true rfl⟩ ⟨by show _ ≤ 601024; omega, by show _ ≤ 7293034; omega⟩ dL_law_905 (fun H locs hP hD hS => ?_)
    refine z_top (y := 1) rfl ?_
    refine lv_iload hx hb dL_law_908 (lv_at hl 1 rfl) ?_
    refine lv_icmp_eq (tgt := 915) hx hb dL_law_910 (by decide) (fun c_6 => ?_) (fun c_6 => ?_)
    · skip
      refine lv_iload hx hb dL_law_915 (lv_at hl 1 rfl) ?_
      refine lv_if_ne (tgt := 932) hx hb dL_law_917 (by decide) (fun c_7 => ?_) (fun c_7 => ?_)
      · skip
        refine lv_goto (tgt := 1447) hx hb dL_law_932 (by decide) ?_
        obtain ⟨hP, hD⟩ := zp_5 hP hD
        refine W.widen (k := cells + 3) (n := slots + 18) (by omega) (by omega) ?_
        exact kk _ ⟨S, F, TS, TF, ES, EF, HS, KS, KF, X, B, (upd V 1 1), G, OL, p, n, L, rfl, (lwR_v hR rfl rfl)⟩ _ _ _ hP hD hS (lv_sub hl [2, 3, 4, 5, 6] rfl)
      · skip
        first | exact absurd c_7 (by decide) | exact absurd (by decide) c_7 | exact absurd rfl c_7
    · skip
      first | exact absurd c_6 (by decide) | exact absurd (by decide) c_6 | exact absurd rfl c_6

set_option maxHeartbeats 4000000 in
set_option maxRecDepth 100000 in
theorem law_value {pq : Program} (l : Launch) {eq : Env} {s : State} {mq : MethodId} {below : List Frame} {meth : Method} {cq : Code} {A : Nat → Prop} {D : va_G} {cs : zCs} {b Ls i : Nat} {xs : Nat → Int32} {H : Heap} {locs : List Loc} {ls : Array Slot} {cells slots : Nat} {Q : State → Prop} {ad kd : Nat → Nat → Nat} {a : Nat → Nat} {ou : Nat} {S : Nat → Int32} {F : Nat → Nat → Int32} {TS : Nat → Int32} {TF : Nat → Nat → Int32} {ES : Nat → Int32} {EF : Nat → Nat → Int32} {HS : Nat → Int32} {KS : Nat → Nat → Int32} {KF : Nat → Nat → Nat → Int32} {X : Nat → Int32} {B : Nat → Nat → Int32} {V : Nat → Int32} {G : Nat → Nat → Int32} {OL : Nat → Int64} {p n L : Nat} (hfl : l.stackTraces = false) (hx : pq.tables.exec = Jvm.exec) (hb : cq.code = cL_law) (hml : cq.maxLocals = 9) (hown : s.vm.findClass RL = some mq.cls) (hts : ∀ w ∈ wsG, w.before #[Value.ref b] s = true) (hXs : va_X b Ls xs s s.heap) (hbl : b < s.heap.size) (hbA : ¬ A b) (hE : zE A s) (hK : va_K D vwCl (zT cs) s) (hA : ∀ q : Nat, s.heap.size ≤ q → A q) (hLs : Ls ≤ 2560) (hi : i + 5 ≤ Ls) (hce : cells + 3 ≤ 601024) (hsl : slots + 18 ≤ 7293034) (hR : lwR S F HS KS KF X B V G p n L) (hP : va_P D vwCl ((camW ad) ++ (macW cs (ad 0) S F) ++ (macW cs (ad 1) TS TF) ++ (macW cs (ad 2) ES EF) ++ (hisW cs (ad 4) kd HS) ++ (macW cs (kd 0) (KS 0) (KF 0)) ++ (macW cs (kd 1) (KS 1) (KF 1)) ++ (macW cs (kd 2) (KS 2) (KF 2)) ++ (macW cs (kd 3) (KS 3) (KF 3)) ++ (txtW cs (ad 5) X B) ++ (refW cs a V G) ++ [(ou, .inl (cs.2.1, 1, .inr (.inl OL)))]) H) (hD : va_D A ((camW ad) ++ (macW cs (ad 0) S F) ++ (macW cs (ad 1) TS TF) ++ (macW cs (ad 2) ES EF) ++ (hisW cs (ad 4) kd HS) ++ (macW cs (kd 0) (KS 0) (KF 0)) ++ (macW cs (kd 1) (KS 1) (KF 1)) ++ (macW cs (kd 2) (KS 2) (KF 2)) ++ (macW cs (kd 3) (KS 3) (KF 3)) ++ (txtW cs (ad 5) X B) ++ (refW cs a V G) ++ [(ou, .inl (cs.2.1, 1, .inr (.inl OL)))])) (hS : va_S A s.heap H locs) (hl : lv_has ls 9 [(0, .ref b), (1, .ref (ad 3 0)), (2, .ref (a 0)), (3, .ref ou), (4, .int (nI i))]) (kk : ∀ (w : va_W), lwI cs ad kd a ou w → ∀ (H : Heap) (locs : List Loc) (ls : Array Slot), va_P D vwCl w H → va_D A w → va_S A s.heap H locs → lv_has ls 9 [(0, .ref b), (1, .ref (ad 3 0)), (2, .ref (a 0)), (3, .ref ou), (4, .int (nI i))] → W pq l eq room_1 s mq #[Value.ref b] below meth cq H locs (cells + 3) (slots + 18) Q (F0 mq 1447 ls [])) : W pq l eq room_1 s mq #[Value.ref b] below meth cq H locs cells slots Q (F0 mq 935 ls []) := by
  obtain ⟨⟨hp, hp4, hn, hn4, hsn⟩, hag, hrg, hX0, hL, h4, hGB, htx⟩ := id hR
  have e0 : G 0 0 = S 0 := agr_s hag (by omega)
  have e8 : G 0 8 = S 8 := agr_s hag (by omega)
  have e9 : G 0 9 = S 9 := agr_s hag (by omega)
  obtain ⟨hn2, hn16, hS0⟩ := lw_n0 hag
  obtain ⟨hg4, hS8, ez⟩ := lw_n8 hag
  have h0 : G 0 0 = nI (nN (S 0)) := e0.trans hS0
  have h8 : G 0 8 = nI (nN (S 8)) := e8.trans hS8
  have hok : rOK (G 0) := r_ok hag
  have ho : ∀ j, j < nN (S 8) → ∃ o, o < 5 ∧ G 0 (51 + 3 * j + 1) = nI o := lw_ho hag
  refine lv_aload_n hx hb dL_law_935 rfl (lv_at hl 1 rfl) ?_
  refine lv_aload_n hx hb dL_law_936 rfl (lv_at hl 0 rfl) ?_
  refine lv_iload hx hb dL_law_937 (lv_at hl 4 rfl) ?_
  refine lv_iconst (v := 1) hx hb dL_law_939 (by decide) ?_
  refine lv_iadd hx hb dL_law_940 ?_
  refine z_top (y := nI (i + 1)) (nI_add i 1) ?_
  refine z_scr (k := i + 1) hx hb hXs hbl hbA hS (by omega) hLs dL_law_941 ?_
  refine lv_aload_n hx hb dL_law_942 rfl (lv_at hl 3 rfl) ?_
  by_cases w0 : 0 ≤ (xs (i + 1)) ∧ (xs (i + 1)) ≤ 16 - 1
  · skip
    obtain ⟨hP, hD⟩ := zp_6 hP hD
    refine z_lawH ⟨hx, hb, hml, hown, hts⟩ zYw_value w_st_yL_value w_ml_L_123 [.ref (ad 3 0), .int (xs (i + 1)), .ref ou] [] (c_L_value_ok l D cs hfl ad S F (xs (i + 1)) ou OL (by rw [exT_t w0])) hE hK hA hP hD hS (z_la (z_la rfl (z_lm _ _ _ _ _ _)) (z_lo _ _ _ _)) rfl hl.1 (Nat.le_of_ble_eq_true rfl) ⟨Nat.le_of_ble_eq_true rfl, Nat.le_of_ble_eq_true rfl⟩ ⟨by show _ ≤ 601024; omega, by show _ ≤ 7293034; omega⟩ dL_law_943 (fun H locs hP hD hS => ?_)
    refine lv_istore (lv' := [(5, .int 0), (0, .ref b), (1, .ref (ad 3 0)), (2, .ref (a 0)), (3, .ref ou), (4, .int (nI i))]) hx hb dL_law_946 hl (by decide) rfl (fun ls hl => ?_)
    refine lv_aload_n hx hb dL_law_948 rfl (lv_at hl 3 rfl) ?_
    refine lv_aload_n hx hb dL_law_949 rfl (lv_at hl 1 rfl) ?_
    refine lv_iload hx hb dL_law_950 (lv_at hl 5 rfl) ?_
    refine lv_iconst (v := 1) hx hb dL_law_952 (by decide) ?_
    refine lv_iadd hx hb dL_law_953 ?_
    refine z_top (y := nI (i + 1)) (nI_add i 1) ?_
    refine z_scr (k := i + 1) hx hb hXs hbl hbA hS (by omega) hLs dL_law_954 ?_
    obtain ⟨hP, hD⟩ := zp_7 hP hD
    refine z_lawV ⟨hx, hb, hml, hown, hts⟩ zY_X8_value w_im_yX8_value w_se_yX8_value w_ml_L_125 [.int (xs (i + 1))] [] (c_X8_value_ok l D cs a V G (xs (i + 1)) w0) hE hK hA hP hD hS (z_lr _ _ _ _ _ _) 8 rfl rfl rfl rfl hl.1 (Nat.le_of_ble_eq_true rfl) ⟨Nat.le_of_ble_eq_true rfl, Nat.le_of_ble_eq_true rfl⟩ ⟨by show _ ≤ 601024; omega, by show _ ≤ 7293034; omega⟩ dL_law_955 (fun H locs hP hD hS => ?_)
    refine lv_istore (lv' := [(6, .int ((G 0) (nN (xs (i + 1))))), (5, .int 0), (0, .ref b), (1, .ref (ad 3 0)), (2, .ref (a 0)), (3, .ref ou), (4, .int (nI i))]) hx hb dL_law_958 hl (by decide) rfl (fun ls hl => ?_)
    refine lv_aload_n hx hb dL_law_960 rfl (lv_at hl 4 rfl) ?_
    refine z_lawV ⟨hx, hb, hml, hown, hts⟩ zY_X8_thrown w_im_yX8_thrown w_se_yX8_thrown w_ml_L_86 [] [] (c_X8_thrown l D cs a ((upd V 1 0)) G) hE hK hA hP hD hS (z_lr _ _ _ _ _ _) 8 rfl rfl rfl rfl hl.1 (Nat.le_of_ble_eq_true rfl) ⟨Nat.le_of_ble_eq_true rfl, Nat.le_of_ble_eq_true rfl⟩ ⟨by show _ ≤ 601024; omega, by show _ ≤ 7293034; omega⟩ dL_law_961 (fun H locs hP hD hS => ?_)
    refine z_top (y := 0) rfl ?_
    refine lv_iload hx hb dL_law_964 (lv_at hl 1 rfl) ?_
    refine lv_icmp_eq (tgt := 971) hx hb dL_law_966 (by decide) (fun c_1 => ?_) (fun c_1 => ?_)
    · skip
      refine lv_iload hx hb dL_law_971 (lv_at hl 1 rfl) ?_
      refine lv_if_ne (tgt := 988) hx hb dL_law_973 (by decide) (fun c_2 => ?_) (fun c_2 => ?_)
      · skip
        first | exact absurd c_2 (by decide) | exact absurd (by decide) c_2 | exact absurd rfl c_2
      · skip
        refine lv_aload_n hx hb dL_law_976 rfl (lv_at hl 5 rfl) ?_
        refine lv_iconst (v := 0) hx hb dL_law_977 (by decide) ?_
        obtain ⟨hP, hD⟩ := zp_3 hP hD
        refine z_lout (q0 := 0) (v := (S (nN (xs (i + 1)))).toInt64) hx hb hK hP rfl dL_law_978 rfl ?_
        refine lv_iload hx hb dL_law_979 (lv_at hl 0 rfl) ?_
        refine lv_i2l (v := ((G 0) (nN (xs (i + 1)))).toInt64) hx hb dL_law_981 rfl ?_
        refine z_lcmp_eq (tgt := 988) hx hb dL_law_982 dL_law_983 (by decide) (fun c_3 => ?_) (fun c_3 => ?_)
        · skip
          refine lv_goto (tgt := 1447) hx hb dL_law_988 (by decide) ?_
          obtain ⟨hP, hD⟩ := zp_4 hP hD
          refine W.widen (k := cells + 3) (n := slots + 18) (by omega) (by omega) ?_
          exact kk _ ⟨S, F, TS, TF, ES, EF, HS, KS, KF, X, B, (upd V 1 0), G, (vp_updL OL 0 (S (nN (xs (i + 1)))).toInt64), p, n, L, rfl, (lwR_v hR rfl rfl)⟩ _ _ _ hP hD hS (lv_sub hl [2, 3, 4, 5, 6] rfl)
        · exact absurd (congrArg Int32.toInt64 ((agr_s hag (lw_wh w0 rfl)).symm)) c_3
    · skip
      first | exact absurd c_1 (by decide) | exact absurd (by decide) c_1 | exact absurd rfl c_1
  · skip
    obtain ⟨hP, hD⟩ := zp_6 hP hD
    refine z_lawH ⟨hx, hb, hml, hown, hts⟩ zYw_value w_st_yL_value w_ml_L_123 [.ref (ad 3 0), .int (xs (i + 1)), .ref ou] [] (c_L_value_e1 l D cs hfl ad S F (xs (i + 1)) ou OL (by rw [exT_f w0])) hE hK hA hP hD hS (z_la (z_la rfl (z_lm _ _ _ _ _ _)) (z_lo _ _ _ _)) rfl hl.1 (Nat.le_of_ble_eq_true rfl) ⟨Nat.le_of_ble_eq_true rfl, Nat.le_of_ble_eq_true rfl⟩ ⟨by show _ ≤ 601024; omega, by show _ ≤ 7293034; omega⟩ dL_law_943 (fun H locs hP hD hS => ?_)
    refine lv_istore (lv' := [(5, .int 1), (0, .ref b), (1, .ref (ad 3 0)), (2, .ref (a 0)), (3, .ref ou), (4, .int (nI i))]) hx hb dL_law_946 hl (by decide) rfl (fun ls hl => ?_)
    refine lv_aload_n hx hb dL_law_948 rfl (lv_at hl 3 rfl) ?_
    refine lv_aload_n hx hb dL_law_949 rfl (lv_at hl 1 rfl) ?_
    refine lv_iload hx hb dL_law_950 (lv_at hl 5 rfl) ?_
    refine lv_iconst (v := 1) hx hb dL_law_952 (by decide) ?_
    refine lv_iadd hx hb dL_law_953 ?_
    refine z_top (y := nI (i + 1)) (nI_add i 1) ?_
    refine z_scr (k := i + 1) hx hb hXs hbl hbA hS (by omega) hLs dL_law_954 ?_
    obtain ⟨hP, hD⟩ := zp_7 hP hD
    refine z_lawV ⟨hx, hb, hml, hown, hts⟩ zY_X8_value w_im_yX8_value w_se_yX8_value w_ml_L_125 [.int (xs (i + 1))] [] (c_X8_value_t1 l D cs a V G (xs (i + 1)) w0) hE hK hA hP hD hS (z_lr _ _ _ _ _ _) 8 rfl rfl rfl rfl hl.1 (Nat.le_of_ble_eq_true rfl) ⟨Nat.le_of_ble_eq_true rfl, Nat.le_of_ble_eq_true rfl⟩ ⟨by show _ ≤ 601024; omega, by show _ ≤ 7293034; omega⟩ dL_law_955 (fun H locs hP hD hS => ?_)
    refine lv_istore (lv' := [(6, .int 0), (5, .int 1), (0, .ref b), (1, .ref (ad 3 0)), (2, .ref (a 0)), (3, .ref ou), (4, .int (nI i))]) hx hb dL_law_958 hl (by decide) rfl (fun ls hl => ?_)
    refine lv_aload_n hx hb dL_law_960 rfl (lv_at hl 4 rfl) ?_
    refine z_lawV ⟨hx, hb, hml, hown, hts⟩ zY_X8_thrown w_im_yX8_thrown w_se_yX8_thrown w_ml_L_86 [] [] (c_X8_thrown l D cs a ((upd V 1 1)) G) hE hK hA hP hD hS (z_lr _ _ _ _ _ _) 8 rfl rfl rfl rfl hl.1 (Nat.le_of_ble_eq_true rfl) ⟨Nat.le_of_ble_eq_true rfl, Nat.le_of_ble_eq_true rfl⟩ ⟨by show _ ≤ 601024; omega, by show _ ≤ 7293034; omega⟩ dL_law_961 (fun H locs hP hD hS => ?_)
    refine z_top (y := 1) rfl ?_
    refine lv_iload hx hb dL_law_964 (lv_at hl 1 rfl) ?_
    refine lv_icmp_eq (tgt := 971) hx hb dL_law_966 (by decide) (fun c_4 => ?_) (fun c_4 => ?_)
    · skip
      refine lv_iload hx hb dL_law_971 (lv_at hl 1 rfl) ?_
      refine lv_if_ne (tgt := 988) hx hb dL_law_973 (by decide) (fun c_5 => ?_) (fun c_5 => ?_)
      · skip
        refine lv_goto (tgt := 1447) hx hb dL_law_988 (by decide) ?_
        obtain ⟨hP, hD⟩ := zp_5 hP hD
        refine W.widen (k := cells + 3) (n := slots + 18) (by omega) (by omega) ?_
        exact kk _ ⟨S, F, TS, TF, ES, EF, HS, KS, KF, X, B, (upd V 1 1), G, OL, p, n, L, rfl, (lwR_v hR rfl rfl)⟩ _ _ _ hP hD hS (lv_sub hl [2, 3, 4, 5, 6] rfl)
      · skip
        first | exact absurd c_5 (by decide) | exact absurd (by decide) c_5 | exact absurd rfl c_5
    · skip
      first | exact absurd c_4 (by decide) | exact absurd (by decide) c_4 | exact absurd rfl c_4

set_option maxHeartbeats 4000000 in
set_option maxRecDepth 100000 in
theorem law_chart {pq : Program} (l : Launch) {eq : Env} {s : State} {mq : MethodId} {below : List Frame} {meth : Method} {cq : Code} {A : Nat → Prop} {D : va_G} {cs : zCs} {b Ls i : Nat} {xs : Nat → Int32} {H : Heap} {locs : List Loc} {ls : Array Slot} {cells slots : Nat} {Q : State → Prop} {ad kd : Nat → Nat → Nat} {a : Nat → Nat} {ou : Nat} {S : Nat → Int32} {F : Nat → Nat → Int32} {TS : Nat → Int32} {TF : Nat → Nat → Int32} {ES : Nat → Int32} {EF : Nat → Nat → Int32} {HS : Nat → Int32} {KS : Nat → Nat → Int32} {KF : Nat → Nat → Nat → Int32} {X : Nat → Int32} {B : Nat → Nat → Int32} {V : Nat → Int32} {G : Nat → Nat → Int32} {OL : Nat → Int64} {p n L : Nat} (hfl : l.stackTraces = false) (hx : pq.tables.exec = Jvm.exec) (hb : cq.code = cL_law) (hml : cq.maxLocals = 9) (hown : s.vm.findClass RL = some mq.cls) (hts : ∀ w ∈ wsG, w.before #[Value.ref b] s = true) (hXs : va_X b Ls xs s s.heap) (hbl : b < s.heap.size) (hbA : ¬ A b) (hE : zE A s) (hK : va_K D vwCl (zT cs) s) (hA : ∀ q : Nat, s.heap.size ≤ q → A q) (hLs : Ls ≤ 2560) (hi : i + 5 ≤ Ls) (hce : cells + 3 ≤ 601024) (hsl : slots + 18 ≤ 7293034) (hR : lwR S F HS KS KF X B V G p n L) (hP : va_P D vwCl ((camW ad) ++ (macW cs (ad 0) S F) ++ (macW cs (ad 1) TS TF) ++ (macW cs (ad 2) ES EF) ++ (hisW cs (ad 4) kd HS) ++ (macW cs (kd 0) (KS 0) (KF 0)) ++ (macW cs (kd 1) (KS 1) (KF 1)) ++ (macW cs (kd 2) (KS 2) (KF 2)) ++ (macW cs (kd 3) (KS 3) (KF 3)) ++ (txtW cs (ad 5) X B) ++ (refW cs a V G) ++ [(ou, .inl (cs.2.1, 1, .inr (.inl OL)))]) H) (hD : va_D A ((camW ad) ++ (macW cs (ad 0) S F) ++ (macW cs (ad 1) TS TF) ++ (macW cs (ad 2) ES EF) ++ (hisW cs (ad 4) kd HS) ++ (macW cs (kd 0) (KS 0) (KF 0)) ++ (macW cs (kd 1) (KS 1) (KF 1)) ++ (macW cs (kd 2) (KS 2) (KF 2)) ++ (macW cs (kd 3) (KS 3) (KF 3)) ++ (txtW cs (ad 5) X B) ++ (refW cs a V G) ++ [(ou, .inl (cs.2.1, 1, .inr (.inl OL)))])) (hS : va_S A s.heap H locs) (hl : lv_has ls 9 [(0, .ref b), (1, .ref (ad 3 0)), (2, .ref (a 0)), (3, .ref ou), (4, .int (nI i))]) (kk : ∀ (w : va_W), lwI cs ad kd a ou w → ∀ (H : Heap) (locs : List Loc) (ls : Array Slot), va_P D vwCl w H → va_D A w → va_S A s.heap H locs → lv_has ls 9 [(0, .ref b), (1, .ref (ad 3 0)), (2, .ref (a 0)), (3, .ref ou), (4, .int (nI i))] → W pq l eq room_1 s mq #[Value.ref b] below meth cq H locs (cells + 3) (slots + 18) Q (F0 mq 1447 ls [])) : W pq l eq room_1 s mq #[Value.ref b] below meth cq H locs cells slots Q (F0 mq 991 ls []) := by
  obtain ⟨⟨hp, hp4, hn, hn4, hsn⟩, hag, hrg, hX0, hL, h4, hGB, htx⟩ := id hR
  have e0 : G 0 0 = S 0 := agr_s hag (by omega)
  have e8 : G 0 8 = S 8 := agr_s hag (by omega)
  have e9 : G 0 9 = S 9 := agr_s hag (by omega)
  obtain ⟨hn2, hn16, hS0⟩ := lw_n0 hag
  obtain ⟨hg4, hS8, ez⟩ := lw_n8 hag
  have h0 : G 0 0 = nI (nN (S 0)) := e0.trans hS0
  have h8 : G 0 8 = nI (nN (S 8)) := e8.trans hS8
  have hok : rOK (G 0) := r_ok hag
  have ho : ∀ j, j < nN (S 8) → ∃ o, o < 5 ∧ G 0 (51 + 3 * j + 1) = nI o := lw_ho hag
  refine lv_aload_n hx hb dL_law_991 rfl (lv_at hl 1 rfl) ?_
  refine lv_aload_n hx hb dL_law_992 rfl (lv_at hl 0 rfl) ?_
  refine lv_iload hx hb dL_law_993 (lv_at hl 4 rfl) ?_
  refine lv_iconst (v := 1) hx hb dL_law_995 (by decide) ?_
  refine lv_iadd hx hb dL_law_996 ?_
  refine z_top (y := nI (i + 1)) (nI_add i 1) ?_
  refine z_scr (k := i + 1) hx hb hXs hbl hbA hS (by omega) hLs dL_law_997 ?_
  refine lv_aload_n hx hb dL_law_998 rfl (lv_at hl 0 rfl) ?_
  refine lv_iload hx hb dL_law_999 (lv_at hl 4 rfl) ?_
  refine lv_iconst (v := 2) hx hb dL_law_1001 (by decide) ?_
  refine lv_iadd hx hb dL_law_1002 ?_
  refine z_top (y := nI (i + 2)) (nI_add i 2) ?_
  refine z_scr (k := i + 2) hx hb hXs hbl hbA hS (by omega) hLs dL_law_1003 ?_
  refine lv_aload_n hx hb dL_law_1004 rfl (lv_at hl 3 rfl) ?_
  by_cases w0 : 0 ≤ (xs (i + 1)) ∧ (xs (i + 1)) ≤ 4
  · skip
    by_cases w1 : 0 ≤ (xs (i + 2)) ∧ (xs (i + 2)) ≤ (S 0) - 1
    · skip
      obtain ⟨hP, hD⟩ := zp_6 hP hD
      refine z_lawH ⟨hx, hb, hml, hown, hts⟩ zYw_chart w_st_yL_chart w_ml_L_126 [.ref (ad 3 0), .int (xs (i + 1)), .int (xs (i + 2)), .ref ou] [] (c_L_chart_ok l D cs hfl ad S F (xs (i + 1)) (xs (i + 2)) ou OL (by rw [exT_t w0, exT_t w1])) hE hK hA hP hD hS (z_la (z_la rfl (z_lm _ _ _ _ _ _)) (z_lo _ _ _ _)) rfl hl.1 (Nat.le_of_ble_eq_true rfl) ⟨Nat.le_of_ble_eq_true rfl, Nat.le_of_ble_eq_true rfl⟩ ⟨by show _ ≤ 601024; omega, by show _ ≤ 7293034; omega⟩ dL_law_1005 (fun H locs hP hD hS => ?_)
      refine lv_istore (lv' := [(5, .int 0), (0, .ref b), (1, .ref (ad 3 0)), (2, .ref (a 0)), (3, .ref ou), (4, .int (nI i))]) hx hb dL_law_1008 hl (by decide) rfl (fun ls hl => ?_)
      refine lv_aload_n hx hb dL_law_1010 rfl (lv_at hl 3 rfl) ?_
      refine lv_aload_n hx hb dL_law_1011 rfl (lv_at hl 1 rfl) ?_
      refine lv_iload hx hb dL_law_1012 (lv_at hl 5 rfl) ?_
      refine lv_iconst (v := 1) hx hb dL_law_1014 (by decide) ?_
      refine lv_iadd hx hb dL_law_1015 ?_
      refine z_top (y := nI (i + 1)) (nI_add i 1) ?_
      refine z_scr (k := i + 1) hx hb hXs hbl hbA hS (by omega) hLs dL_law_1016 ?_
      refine lv_aload_n hx hb dL_law_1017 rfl (lv_at hl 1 rfl) ?_
      refine lv_iload hx hb dL_law_1018 (lv_at hl 5 rfl) ?_
      refine lv_iconst (v := 2) hx hb dL_law_1020 (by decide) ?_
      refine lv_iadd hx hb dL_law_1021 ?_
      refine z_top (y := nI (i + 2)) (nI_add i 2) ?_
      refine z_scr (k := i + 2) hx hb hXs hbl hbA hS (by omega) hLs dL_law_1022 ?_
      obtain ⟨hP, hD⟩ := zp_7 hP hD
      refine z_lawV ⟨hx, hb, hml, hown, hts⟩ zY_X8_chart w_im_yX8_chart w_se_yX8_chart w_ml_L_128 [.int (xs (i + 1)), .int (xs (i + 2))] [] (c_X8_chart_ok l D cs a V G (nN (S 0)) (xs (i + 1)) (xs (i + 2)) h0 hn16 w0 (by rw [e0]; exact w1)) hE hK hA hP hD hS (z_lr _ _ _ _ _ _) 8 rfl rfl rfl rfl hl.1 (Nat.le_of_ble_eq_true rfl) ⟨Nat.le_of_ble_eq_true rfl, Nat.le_of_ble_eq_true rfl⟩ ⟨by show _ ≤ 601024; omega, by show _ ≤ 7293034; omega⟩ dL_law_1023 (fun H locs hP hD hS => ?_)
      refine lv_istore (lv' := [(6, .int ((G 0) (63 + 16 * nN (xs (i + 1)) + nN (xs (i + 2))))), (5, .int 0), (0, .ref b), (1, .ref (ad 3 0)), (2, .ref (a 0)), (3, .ref ou), (4, .int (nI i))]) hx hb dL_law_1026 hl (by decide) rfl (fun ls hl => ?_)
      refine lv_aload_n hx hb dL_law_1028 rfl (lv_at hl 4 rfl) ?_
      refine z_lawV ⟨hx, hb, hml, hown, hts⟩ zY_X8_thrown w_im_yX8_thrown w_se_yX8_thrown w_ml_L_86 [] [] (c_X8_thrown l D cs a ((upd V 1 0)) G) hE hK hA hP hD hS (z_lr _ _ _ _ _ _) 8 rfl rfl rfl rfl hl.1 (Nat.le_of_ble_eq_true rfl) ⟨Nat.le_of_ble_eq_true rfl, Nat.le_of_ble_eq_true rfl⟩ ⟨by show _ ≤ 601024; omega, by show _ ≤ 7293034; omega⟩ dL_law_1029 (fun H locs hP hD hS => ?_)
      refine z_top (y := 0) rfl ?_
      refine lv_iload hx hb dL_law_1032 (lv_at hl 1 rfl) ?_
      refine lv_icmp_eq (tgt := 1039) hx hb dL_law_1034 (by decide) (fun c_1 => ?_) (fun c_1 => ?_)
      · skip
        refine lv_iload hx hb dL_law_1039 (lv_at hl 1 rfl) ?_
        refine lv_if_ne (tgt := 1056) hx hb dL_law_1041 (by decide) (fun c_2 => ?_) (fun c_2 => ?_)
        · skip
          first | exact absurd c_2 (by decide) | exact absurd (by decide) c_2 | exact absurd rfl c_2
        · skip
          refine lv_aload_n hx hb dL_law_1044 rfl (lv_at hl 5 rfl) ?_
          refine lv_iconst (v := 0) hx hb dL_law_1045 (by decide) ?_
          obtain ⟨hP, hD⟩ := zp_3 hP hD
          refine z_lout (q0 := 0) (v := (chtAt F (xs (i + 1)) (xs (i + 2))).toInt64) hx hb hK hP rfl dL_law_1046 rfl ?_
          refine lv_iload hx hb dL_law_1047 (lv_at hl 0 rfl) ?_
          refine lv_i2l (v := ((G 0) (63 + 16 * nN (xs (i + 1)) + nN (xs (i + 2)))).toInt64) hx hb dL_law_1049 rfl ?_
          refine z_lcmp_eq (tgt := 1056) hx hb dL_law_1050 dL_law_1051 (by decide) (fun c_3 => ?_) (fun c_3 => ?_)
          · skip
            refine lv_goto (tgt := 1447) hx hb dL_law_1056 (by decide) ?_
            obtain ⟨hP, hD⟩ := zp_4 hP hD
            refine W.widen (k := cells + 3) (n := slots + 18) (by omega) (by omega) ?_
            exact kk _ ⟨S, F, TS, TF, ES, EF, HS, KS, KF, X, B, (upd V 1 0), G, (vp_updL OL 0 (chtAt F (xs (i + 1)) (xs (i + 2))).toInt64), p, n, L, rfl, (lwR_v hR rfl rfl)⟩ _ _ _ hP hD hS (lv_sub hl [2, 3, 4, 5, 6] rfl)
          · exact absurd (congrArg Int32.toInt64 ((r_cht hag w0 w1).symm)) c_3
      · skip
        first | exact absurd c_1 (by decide) | exact absurd (by decide) c_1 | exact absurd rfl c_1
    · skip
      obtain ⟨hP, hD⟩ := zp_6 hP hD
      refine z_lawH ⟨hx, hb, hml, hown, hts⟩ zYw_chart w_st_yL_chart w_ml_L_126 [.ref (ad 3 0), .int (xs (i + 1)), .int (xs (i + 2)), .ref ou] [] (c_L_chart_e1 l D cs hfl ad S F (xs (i + 1)) (xs (i + 2)) ou OL (by rw [exT_t w0, exT_f w1])) hE hK hA hP hD hS (z_la (z_la rfl (z_lm _ _ _ _ _ _)) (z_lo _ _ _ _)) rfl hl.1 (Nat.le_of_ble_eq_true rfl) ⟨Nat.le_of_ble_eq_true rfl, Nat.le_of_ble_eq_true rfl⟩ ⟨by show _ ≤ 601024; omega, by show _ ≤ 7293034; omega⟩ dL_law_1005 (fun H locs hP hD hS => ?_)
      refine lv_istore (lv' := [(5, .int 1), (0, .ref b), (1, .ref (ad 3 0)), (2, .ref (a 0)), (3, .ref ou), (4, .int (nI i))]) hx hb dL_law_1008 hl (by decide) rfl (fun ls hl => ?_)
      refine lv_aload_n hx hb dL_law_1010 rfl (lv_at hl 3 rfl) ?_
      refine lv_aload_n hx hb dL_law_1011 rfl (lv_at hl 1 rfl) ?_
      refine lv_iload hx hb dL_law_1012 (lv_at hl 5 rfl) ?_
      refine lv_iconst (v := 1) hx hb dL_law_1014 (by decide) ?_
      refine lv_iadd hx hb dL_law_1015 ?_
      refine z_top (y := nI (i + 1)) (nI_add i 1) ?_
      refine z_scr (k := i + 1) hx hb hXs hbl hbA hS (by omega) hLs dL_law_1016 ?_
      refine lv_aload_n hx hb dL_law_1017 rfl (lv_at hl 1 rfl) ?_
      refine lv_iload hx hb dL_law_1018 (lv_at hl 5 rfl) ?_
      refine lv_iconst (v := 2) hx hb dL_law_1020 (by decide) ?_
      refine lv_iadd hx hb dL_law_1021 ?_
      refine z_top (y := nI (i + 2)) (nI_add i 2) ?_
      refine z_scr (k := i + 2) hx hb hXs hbl hbA hS (by omega) hLs dL_law_1022 ?_
      obtain ⟨hP, hD⟩ := zp_7 hP hD
      refine z_lawV ⟨hx, hb, hml, hown, hts⟩ zY_X8_chart w_im_yX8_chart w_se_yX8_chart w_ml_L_128 [.int (xs (i + 1)), .int (xs (i + 2))] [] (c_X8_chart_t1 l D cs a V G (nN (S 0)) (xs (i + 1)) (xs (i + 2)) h0 hn16 (fun z => w1 (by rw [← e0]; exact z.2))) hE hK hA hP hD hS (z_lr _ _ _ _ _ _) 8 rfl rfl rfl rfl hl.1 (Nat.le_of_ble_eq_true rfl) ⟨Nat.le_of_ble_eq_true rfl, Nat.le_of_ble_eq_true rfl⟩ ⟨by show _ ≤ 601024; omega, by show _ ≤ 7293034; omega⟩ dL_law_1023 (fun H locs hP hD hS => ?_)
      refine lv_istore (lv' := [(6, .int 0), (5, .int 1), (0, .ref b), (1, .ref (ad 3 0)), (2, .ref (a 0)), (3, .ref ou), (4, .int (nI i))]) hx hb dL_law_1026 hl (by decide) rfl (fun ls hl => ?_)
      refine lv_aload_n hx hb dL_law_1028 rfl (lv_at hl 4 rfl) ?_
      refine z_lawV ⟨hx, hb, hml, hown, hts⟩ zY_X8_thrown w_im_yX8_thrown w_se_yX8_thrown w_ml_L_86 [] [] (c_X8_thrown l D cs a ((upd V 1 1)) G) hE hK hA hP hD hS (z_lr _ _ _ _ _ _) 8 rfl rfl rfl rfl hl.1 (Nat.le_of_ble_eq_true rfl) ⟨Nat.le_of_ble_eq_true rfl, Nat.le_of_ble_eq_true rfl⟩ ⟨by show _ ≤ 601024; omega, by show _ ≤ 7293034; omega⟩ dL_law_1029 (fun H locs hP hD hS => ?_)
      refine z_top (y := 1) rfl ?_
      refine lv_iload hx hb dL_law_1032 (lv_at hl 1 rfl) ?_
      refine lv_icmp_eq (tgt := 1039) hx hb dL_law_1034 (by decide) (fun c_4 => ?_) (fun c_4 => ?_)
      · skip
        refine lv_iload hx hb dL_law_1039 (lv_at hl 1 rfl) ?_
        refine lv_if_ne (tgt := 1056) hx hb dL_law_1041 (by decide) (fun c_5 => ?_) (fun c_5 => ?_)
        · skip
          refine lv_goto (tgt := 1447) hx hb dL_law_1056 (by decide) ?_
          obtain ⟨hP, hD⟩ := zp_5 hP hD
          refine W.widen (k := cells + 3) (n := slots + 18) (by omega) (by omega) ?_
          exact kk _ ⟨S, F, TS, TF, ES, EF, HS, KS, KF, X, B, (upd V 1 1), G, OL, p, n, L, rfl, (lwR_v hR rfl rfl)⟩ _ _ _ hP hD hS (lv_sub hl [2, 3, 4, 5, 6] rfl)
        · skip
          first | exact absurd c_5 (by decide) | exact absurd (by decide) c_5 | exact absurd rfl c_5
      · skip
        first | exact absurd c_4 (by decide) | exact absurd (by decide) c_4 | exact absurd rfl c_4
  · skip
    obtain ⟨hP, hD⟩ := zp_6 hP hD
    refine z_lawH ⟨hx, hb, hml, hown, hts⟩ zYw_chart w_st_yL_chart w_ml_L_126 [.ref (ad 3 0), .int (xs (i + 1)), .int (xs (i + 2)), .ref ou] [] (c_L_chart_e1 l D cs hfl ad S F (xs (i + 1)) (xs (i + 2)) ou OL (by rw [exT_f w0])) hE hK hA hP hD hS (z_la (z_la rfl (z_lm _ _ _ _ _ _)) (z_lo _ _ _ _)) rfl hl.1 (Nat.le_of_ble_eq_true rfl) ⟨Nat.le_of_ble_eq_true rfl, Nat.le_of_ble_eq_true rfl⟩ ⟨by show _ ≤ 601024; omega, by show _ ≤ 7293034; omega⟩ dL_law_1005 (fun H locs hP hD hS => ?_)
    refine lv_istore (lv' := [(5, .int 1), (0, .ref b), (1, .ref (ad 3 0)), (2, .ref (a 0)), (3, .ref ou), (4, .int (nI i))]) hx hb dL_law_1008 hl (by decide) rfl (fun ls hl => ?_)
    refine lv_aload_n hx hb dL_law_1010 rfl (lv_at hl 3 rfl) ?_
    refine lv_aload_n hx hb dL_law_1011 rfl (lv_at hl 1 rfl) ?_
    refine lv_iload hx hb dL_law_1012 (lv_at hl 5 rfl) ?_
    refine lv_iconst (v := 1) hx hb dL_law_1014 (by decide) ?_
    refine lv_iadd hx hb dL_law_1015 ?_
    refine z_top (y := nI (i + 1)) (nI_add i 1) ?_
    refine z_scr (k := i + 1) hx hb hXs hbl hbA hS (by omega) hLs dL_law_1016 ?_
    refine lv_aload_n hx hb dL_law_1017 rfl (lv_at hl 1 rfl) ?_
    refine lv_iload hx hb dL_law_1018 (lv_at hl 5 rfl) ?_
    refine lv_iconst (v := 2) hx hb dL_law_1020 (by decide) ?_
    refine lv_iadd hx hb dL_law_1021 ?_
    refine z_top (y := nI (i + 2)) (nI_add i 2) ?_
    refine z_scr (k := i + 2) hx hb hXs hbl hbA hS (by omega) hLs dL_law_1022 ?_
    obtain ⟨hP, hD⟩ := zp_7 hP hD
    refine z_lawV ⟨hx, hb, hml, hown, hts⟩ zY_X8_chart w_im_yX8_chart w_se_yX8_chart w_ml_L_128 [.int (xs (i + 1)), .int (xs (i + 2))] [] (c_X8_chart_t1 l D cs a V G (nN (S 0)) (xs (i + 1)) (xs (i + 2)) h0 hn16 (fun z => w0 z.1)) hE hK hA hP hD hS (z_lr _ _ _ _ _ _) 8 rfl rfl rfl rfl hl.1 (Nat.le_of_ble_eq_true rfl) ⟨Nat.le_of_ble_eq_true rfl, Nat.le_of_ble_eq_true rfl⟩ ⟨by show _ ≤ 601024; omega, by show _ ≤ 7293034; omega⟩ dL_law_1023 (fun H locs hP hD hS => ?_)
    refine lv_istore (lv' := [(6, .int 0), (5, .int 1), (0, .ref b), (1, .ref (ad 3 0)), (2, .ref (a 0)), (3, .ref ou), (4, .int (nI i))]) hx hb dL_law_1026 hl (by decide) rfl (fun ls hl => ?_)
    refine lv_aload_n hx hb dL_law_1028 rfl (lv_at hl 4 rfl) ?_
    refine z_lawV ⟨hx, hb, hml, hown, hts⟩ zY_X8_thrown w_im_yX8_thrown w_se_yX8_thrown w_ml_L_86 [] [] (c_X8_thrown l D cs a ((upd V 1 1)) G) hE hK hA hP hD hS (z_lr _ _ _ _ _ _) 8 rfl rfl rfl rfl hl.1 (Nat.le_of_ble_eq_true rfl) ⟨Nat.le_of_ble_eq_true rfl, Nat.le_of_ble_eq_true rfl⟩ ⟨by show _ ≤ 601024; omega, by show _ ≤ 7293034; omega⟩ dL_law_1029 (fun H locs hP hD hS => ?_)
    refine z_top (y := 1) rfl ?_
    refine lv_iload hx hb dL_law_1032 (lv_at hl 1 rfl) ?_
    refine lv_icmp_eq (tgt := 1039) hx hb dL_law_1034 (by decide) (fun c_6 => ?_) (fun c_6 => ?_)
    · skip
      refine lv_iload hx hb dL_law_1039 (lv_at hl 1 rfl) ?_
      refine lv_if_ne (tgt := 1056) hx hb dL_law_1041 (by decide) (fun c_7 => ?_) (fun c_7 => ?_)
      · skip
        refine lv_goto (tgt := 1447) hx hb dL_law_1056 (by decide) ?_
        obtain ⟨hP, hD⟩ := zp_5 hP hD
        refine W.widen (k := cells + 3) (n := slots + 18) (by omega) (by omega) ?_
        exact kk _ ⟨S, F, TS, TF, ES, EF, HS, KS, KF, X, B, (upd V 1 1), G, OL, p, n, L, rfl, (lwR_v hR rfl rfl)⟩ _ _ _ hP hD hS (lv_sub hl [2, 3, 4, 5, 6] rfl)
      · skip
        first | exact absurd c_7 (by decide) | exact absurd (by decide) c_7 | exact absurd rfl c_7
    · skip
      first | exact absurd c_6 (by decide) | exact absurd (by decide) c_6 | exact absurd rfl c_6

set_option maxHeartbeats 4000000 in
set_option maxRecDepth 100000 in
theorem law_skips {pq : Program} (l : Launch) {eq : Env} {s : State} {mq : MethodId} {below : List Frame} {meth : Method} {cq : Code} {A : Nat → Prop} {D : va_G} {cs : zCs} {b Ls i : Nat} {xs : Nat → Int32} {H : Heap} {locs : List Loc} {ls : Array Slot} {cells slots : Nat} {Q : State → Prop} {ad kd : Nat → Nat → Nat} {a : Nat → Nat} {ou : Nat} {S : Nat → Int32} {F : Nat → Nat → Int32} {TS : Nat → Int32} {TF : Nat → Nat → Int32} {ES : Nat → Int32} {EF : Nat → Nat → Int32} {HS : Nat → Int32} {KS : Nat → Nat → Int32} {KF : Nat → Nat → Nat → Int32} {X : Nat → Int32} {B : Nat → Nat → Int32} {V : Nat → Int32} {G : Nat → Nat → Int32} {OL : Nat → Int64} {p n L : Nat} (hfl : l.stackTraces = false) (hx : pq.tables.exec = Jvm.exec) (hb : cq.code = cL_law) (hml : cq.maxLocals = 9) (hown : s.vm.findClass RL = some mq.cls) (hts : ∀ w ∈ wsG, w.before #[Value.ref b] s = true) (hXs : va_X b Ls xs s s.heap) (hbl : b < s.heap.size) (hbA : ¬ A b) (hE : zE A s) (hK : va_K D vwCl (zT cs) s) (hA : ∀ q : Nat, s.heap.size ≤ q → A q) (hLs : Ls ≤ 2560) (hi : i + 5 ≤ Ls) (hce : cells + 3 ≤ 601024) (hsl : slots + 18 ≤ 7293034) (hR : lwR S F HS KS KF X B V G p n L) (hP : va_P D vwCl ((camW ad) ++ (macW cs (ad 0) S F) ++ (macW cs (ad 1) TS TF) ++ (macW cs (ad 2) ES EF) ++ (hisW cs (ad 4) kd HS) ++ (macW cs (kd 0) (KS 0) (KF 0)) ++ (macW cs (kd 1) (KS 1) (KF 1)) ++ (macW cs (kd 2) (KS 2) (KF 2)) ++ (macW cs (kd 3) (KS 3) (KF 3)) ++ (txtW cs (ad 5) X B) ++ (refW cs a V G) ++ [(ou, .inl (cs.2.1, 1, .inr (.inl OL)))]) H) (hD : va_D A ((camW ad) ++ (macW cs (ad 0) S F) ++ (macW cs (ad 1) TS TF) ++ (macW cs (ad 2) ES EF) ++ (hisW cs (ad 4) kd HS) ++ (macW cs (kd 0) (KS 0) (KF 0)) ++ (macW cs (kd 1) (KS 1) (KF 1)) ++ (macW cs (kd 2) (KS 2) (KF 2)) ++ (macW cs (kd 3) (KS 3) (KF 3)) ++ (txtW cs (ad 5) X B) ++ (refW cs a V G) ++ [(ou, .inl (cs.2.1, 1, .inr (.inl OL)))])) (hS : va_S A s.heap H locs) (hl : lv_has ls 9 [(0, .ref b), (1, .ref (ad 3 0)), (2, .ref (a 0)), (3, .ref ou), (4, .int (nI i))]) (kk : ∀ (w : va_W), lwI cs ad kd a ou w → ∀ (H : Heap) (locs : List Loc) (ls : Array Slot), va_P D vwCl w H → va_D A w → va_S A s.heap H locs → lv_has ls 9 [(0, .ref b), (1, .ref (ad 3 0)), (2, .ref (a 0)), (3, .ref ou), (4, .int (nI i))] → W pq l eq room_1 s mq #[Value.ref b] below meth cq H locs (cells + 3) (slots + 18) Q (F0 mq 1447 ls [])) : W pq l eq room_1 s mq #[Value.ref b] below meth cq H locs cells slots Q (F0 mq 1059 ls []) := by
  obtain ⟨⟨hp, hp4, hn, hn4, hsn⟩, hag, hrg, hX0, hL, h4, hGB, htx⟩ := id hR
  have e0 : G 0 0 = S 0 := agr_s hag (by omega)
  have e8 : G 0 8 = S 8 := agr_s hag (by omega)
  have e9 : G 0 9 = S 9 := agr_s hag (by omega)
  obtain ⟨hn2, hn16, hS0⟩ := lw_n0 hag
  obtain ⟨hg4, hS8, ez⟩ := lw_n8 hag
  have h0 : G 0 0 = nI (nN (S 0)) := e0.trans hS0
  have h8 : G 0 8 = nI (nN (S 8)) := e8.trans hS8
  have hok : rOK (G 0) := r_ok hag
  have ho : ∀ j, j < nN (S 8) → ∃ o, o < 5 ∧ G 0 (51 + 3 * j + 1) = nI o := lw_ho hag
  refine lv_aload_n hx hb dL_law_1059 rfl (lv_at hl 1 rfl) ?_
  refine lv_aload_n hx hb dL_law_1060 rfl (lv_at hl 0 rfl) ?_
  refine lv_iload hx hb dL_law_1061 (lv_at hl 4 rfl) ?_
  refine lv_iconst (v := 1) hx hb dL_law_1063 (by decide) ?_
  refine lv_iadd hx hb dL_law_1064 ?_
  refine z_top (y := nI (i + 1)) (nI_add i 1) ?_
  refine z_scr (k := i + 1) hx hb hXs hbl hbA hS (by omega) hLs dL_law_1065 ?_
  refine lv_aload_n hx hb dL_law_1066 rfl (lv_at hl 3 rfl) ?_
  by_cases w0 : 0 ≤ (xs (i + 1)) ∧ (xs (i + 1)) ≤ (S 0) - 1
  · skip
    obtain ⟨hP, hD⟩ := zp_6 hP hD
    refine z_lawH ⟨hx, hb, hml, hown, hts⟩ zYw_skips w_st_yL_skips w_ml_L_129 [.ref (ad 3 0), .int (xs (i + 1)), .ref ou] [] (c_L_skips_ok l D cs hfl ad S F (xs (i + 1)) ou OL (by rw [exT_t w0])) hE hK hA hP hD hS (z_la (z_la rfl (z_lm _ _ _ _ _ _)) (z_lo _ _ _ _)) rfl hl.1 (Nat.le_of_ble_eq_true rfl) ⟨Nat.le_of_ble_eq_true rfl, Nat.le_of_ble_eq_true rfl⟩ ⟨by show _ ≤ 601024; omega, by show _ ≤ 7293034; omega⟩ dL_law_1067 (fun H locs hP hD hS => ?_)
    refine lv_istore (lv' := [(5, .int 0), (0, .ref b), (1, .ref (ad 3 0)), (2, .ref (a 0)), (3, .ref ou), (4, .int (nI i))]) hx hb dL_law_1070 hl (by decide) rfl (fun ls hl => ?_)
    refine lv_aload_n hx hb dL_law_1072 rfl (lv_at hl 3 rfl) ?_
    refine lv_aload_n hx hb dL_law_1073 rfl (lv_at hl 1 rfl) ?_
    refine lv_iload hx hb dL_law_1074 (lv_at hl 5 rfl) ?_
    refine lv_iconst (v := 1) hx hb dL_law_1076 (by decide) ?_
    refine lv_iadd hx hb dL_law_1077 ?_
    refine z_top (y := nI (i + 1)) (nI_add i 1) ?_
    refine z_scr (k := i + 1) hx hb hXs hbl hbA hS (by omega) hLs dL_law_1078 ?_
    obtain ⟨hP, hD⟩ := zp_7 hP hD
    refine z_lawV ⟨hx, hb, hml, hown, hts⟩ zY_X8_skips w_im_yX8_skips w_se_yX8_skips w_ml_L_131 [.int (xs (i + 1))] [] (c_X8_skips_ok l D cs a V G (nN (S 0)) (xs (i + 1)) h0 hn16 (by rw [e0]; exact w0)) hE hK hA hP hD hS (z_lr _ _ _ _ _ _) 8 rfl rfl rfl rfl hl.1 (Nat.le_of_ble_eq_true rfl) ⟨Nat.le_of_ble_eq_true rfl, Nat.le_of_ble_eq_true rfl⟩ ⟨by show _ ≤ 601024; omega, by show _ ≤ 7293034; omega⟩ dL_law_1079 (fun H locs hP hD hS => ?_)
    refine lv_istore (lv' := [(6, .int ((G 0) (143 + nN (xs (i + 1))))), (5, .int 0), (0, .ref b), (1, .ref (ad 3 0)), (2, .ref (a 0)), (3, .ref ou), (4, .int (nI i))]) hx hb dL_law_1082 hl (by decide) rfl (fun ls hl => ?_)
    refine lv_aload_n hx hb dL_law_1084 rfl (lv_at hl 4 rfl) ?_
    refine z_lawV ⟨hx, hb, hml, hown, hts⟩ zY_X8_thrown w_im_yX8_thrown w_se_yX8_thrown w_ml_L_86 [] [] (c_X8_thrown l D cs a ((upd V 1 0)) G) hE hK hA hP hD hS (z_lr _ _ _ _ _ _) 8 rfl rfl rfl rfl hl.1 (Nat.le_of_ble_eq_true rfl) ⟨Nat.le_of_ble_eq_true rfl, Nat.le_of_ble_eq_true rfl⟩ ⟨by show _ ≤ 601024; omega, by show _ ≤ 7293034; omega⟩ dL_law_1085 (fun H locs hP hD hS => ?_)
    refine z_top (y := 0) rfl ?_
    refine lv_iload hx hb dL_law_1088 (lv_at hl 1 rfl) ?_
    refine lv_icmp_eq (tgt := 1095) hx hb dL_law_1090 (by decide) (fun c_1 => ?_) (fun c_1 => ?_)
    · skip
      refine lv_iload hx hb dL_law_1095 (lv_at hl 1 rfl) ?_
      refine lv_if_ne (tgt := 1112) hx hb dL_law_1097 (by decide) (fun c_2 => ?_) (fun c_2 => ?_)
      · skip
        first | exact absurd c_2 (by decide) | exact absurd (by decide) c_2 | exact absurd rfl c_2
      · skip
        refine lv_aload_n hx hb dL_law_1100 rfl (lv_at hl 5 rfl) ?_
        refine lv_iconst (v := 0) hx hb dL_law_1101 (by decide) ?_
        obtain ⟨hP, hD⟩ := zp_3 hP hD
        refine z_lout (q0 := 0) (v := (chtSk F (xs (i + 1))).toInt64) hx hb hK hP rfl dL_law_1102 rfl ?_
        refine lv_iload hx hb dL_law_1103 (lv_at hl 0 rfl) ?_
        refine lv_i2l (v := ((G 0) (143 + nN (xs (i + 1)))).toInt64) hx hb dL_law_1105 rfl ?_
        refine z_lcmp_eq (tgt := 1112) hx hb dL_law_1106 dL_law_1107 (by decide) (fun c_3 => ?_) (fun c_3 => ?_)
        · skip
          refine lv_goto (tgt := 1447) hx hb dL_law_1112 (by decide) ?_
          obtain ⟨hP, hD⟩ := zp_4 hP hD
          refine W.widen (k := cells + 3) (n := slots + 18) (by omega) (by omega) ?_
          exact kk _ ⟨S, F, TS, TF, ES, EF, HS, KS, KF, X, B, (upd V 1 0), G, (vp_updL OL 0 (chtSk F (xs (i + 1))).toInt64), p, n, L, rfl, (lwR_v hR rfl rfl)⟩ _ _ _ hP hD hS (lv_sub hl [2, 3, 4, 5, 6] rfl)
        · exact absurd (congrArg Int32.toInt64 ((r_sk hag w0).symm)) c_3
    · skip
      first | exact absurd c_1 (by decide) | exact absurd (by decide) c_1 | exact absurd rfl c_1
  · skip
    obtain ⟨hP, hD⟩ := zp_6 hP hD
    refine z_lawH ⟨hx, hb, hml, hown, hts⟩ zYw_skips w_st_yL_skips w_ml_L_129 [.ref (ad 3 0), .int (xs (i + 1)), .ref ou] [] (c_L_skips_e1 l D cs hfl ad S F (xs (i + 1)) ou OL (by rw [exT_f w0])) hE hK hA hP hD hS (z_la (z_la rfl (z_lm _ _ _ _ _ _)) (z_lo _ _ _ _)) rfl hl.1 (Nat.le_of_ble_eq_true rfl) ⟨Nat.le_of_ble_eq_true rfl, Nat.le_of_ble_eq_true rfl⟩ ⟨by show _ ≤ 601024; omega, by show _ ≤ 7293034; omega⟩ dL_law_1067 (fun H locs hP hD hS => ?_)
    refine lv_istore (lv' := [(5, .int 1), (0, .ref b), (1, .ref (ad 3 0)), (2, .ref (a 0)), (3, .ref ou), (4, .int (nI i))]) hx hb dL_law_1070 hl (by decide) rfl (fun ls hl => ?_)
    refine lv_aload_n hx hb dL_law_1072 rfl (lv_at hl 3 rfl) ?_
    refine lv_aload_n hx hb dL_law_1073 rfl (lv_at hl 1 rfl) ?_
    refine lv_iload hx hb dL_law_1074 (lv_at hl 5 rfl) ?_
    refine lv_iconst (v := 1) hx hb dL_law_1076 (by decide) ?_
    refine lv_iadd hx hb dL_law_1077 ?_
    refine z_top (y := nI (i + 1)) (nI_add i 1) ?_
    refine z_scr (k := i + 1) hx hb hXs hbl hbA hS (by omega) hLs dL_law_1078 ?_
    obtain ⟨hP, hD⟩ := zp_7 hP hD
    refine z_lawV ⟨hx, hb, hml, hown, hts⟩ zY_X8_skips w_im_yX8_skips w_se_yX8_skips w_ml_L_131 [.int (xs (i + 1))] [] (c_X8_skips_t1 l D cs a V G (nN (S 0)) (xs (i + 1)) h0 hn16 (fun z => w0 (by rw [← e0]; exact z))) hE hK hA hP hD hS (z_lr _ _ _ _ _ _) 8 rfl rfl rfl rfl hl.1 (Nat.le_of_ble_eq_true rfl) ⟨Nat.le_of_ble_eq_true rfl, Nat.le_of_ble_eq_true rfl⟩ ⟨by show _ ≤ 601024; omega, by show _ ≤ 7293034; omega⟩ dL_law_1079 (fun H locs hP hD hS => ?_)
    refine lv_istore (lv' := [(6, .int 0), (5, .int 1), (0, .ref b), (1, .ref (ad 3 0)), (2, .ref (a 0)), (3, .ref ou), (4, .int (nI i))]) hx hb dL_law_1082 hl (by decide) rfl (fun ls hl => ?_)
    refine lv_aload_n hx hb dL_law_1084 rfl (lv_at hl 4 rfl) ?_
    refine z_lawV ⟨hx, hb, hml, hown, hts⟩ zY_X8_thrown w_im_yX8_thrown w_se_yX8_thrown w_ml_L_86 [] [] (c_X8_thrown l D cs a ((upd V 1 1)) G) hE hK hA hP hD hS (z_lr _ _ _ _ _ _) 8 rfl rfl rfl rfl hl.1 (Nat.le_of_ble_eq_true rfl) ⟨Nat.le_of_ble_eq_true rfl, Nat.le_of_ble_eq_true rfl⟩ ⟨by show _ ≤ 601024; omega, by show _ ≤ 7293034; omega⟩ dL_law_1085 (fun H locs hP hD hS => ?_)
    refine z_top (y := 1) rfl ?_
    refine lv_iload hx hb dL_law_1088 (lv_at hl 1 rfl) ?_
    refine lv_icmp_eq (tgt := 1095) hx hb dL_law_1090 (by decide) (fun c_4 => ?_) (fun c_4 => ?_)
    · skip
      refine lv_iload hx hb dL_law_1095 (lv_at hl 1 rfl) ?_
      refine lv_if_ne (tgt := 1112) hx hb dL_law_1097 (by decide) (fun c_5 => ?_) (fun c_5 => ?_)
      · skip
        refine lv_goto (tgt := 1447) hx hb dL_law_1112 (by decide) ?_
        obtain ⟨hP, hD⟩ := zp_5 hP hD
        refine W.widen (k := cells + 3) (n := slots + 18) (by omega) (by omega) ?_
        exact kk _ ⟨S, F, TS, TF, ES, EF, HS, KS, KF, X, B, (upd V 1 1), G, OL, p, n, L, rfl, (lwR_v hR rfl rfl)⟩ _ _ _ hP hD hS (lv_sub hl [2, 3, 4, 5, 6] rfl)
      · skip
        first | exact absurd c_5 (by decide) | exact absurd (by decide) c_5 | exact absurd rfl c_5
    · skip
      first | exact absurd c_4 (by decide) | exact absurd (by decide) c_4 | exact absurd rfl c_4

set_option maxHeartbeats 4000000 in
set_option maxRecDepth 100000 in
theorem law_ticksToOut {pq : Program} (l : Launch) {eq : Env} {s : State} {mq : MethodId} {below : List Frame} {meth : Method} {cq : Code} {A : Nat → Prop} {D : va_G} {cs : zCs} {b Ls i : Nat} {xs : Nat → Int32} {H : Heap} {locs : List Loc} {ls : Array Slot} {cells slots : Nat} {Q : State → Prop} {ad kd : Nat → Nat → Nat} {a : Nat → Nat} {ou : Nat} {S : Nat → Int32} {F : Nat → Nat → Int32} {TS : Nat → Int32} {TF : Nat → Nat → Int32} {ES : Nat → Int32} {EF : Nat → Nat → Int32} {HS : Nat → Int32} {KS : Nat → Nat → Int32} {KF : Nat → Nat → Nat → Int32} {X : Nat → Int32} {B : Nat → Nat → Int32} {V : Nat → Int32} {G : Nat → Nat → Int32} {OL : Nat → Int64} {p n L : Nat} (hfl : l.stackTraces = false) (hx : pq.tables.exec = Jvm.exec) (hb : cq.code = cL_law) (hml : cq.maxLocals = 9) (hown : s.vm.findClass RL = some mq.cls) (hts : ∀ w ∈ wsG, w.before #[Value.ref b] s = true) (hXs : va_X b Ls xs s s.heap) (hbl : b < s.heap.size) (hbA : ¬ A b) (hE : zE A s) (hK : va_K D vwCl (zT cs) s) (hA : ∀ q : Nat, s.heap.size ≤ q → A q) (hLs : Ls ≤ 2560) (hi : i + 5 ≤ Ls) (hce : cells + 3 ≤ 601024) (hsl : slots + 18 ≤ 7293034) (hR : lwR S F HS KS KF X B V G p n L) (hP : va_P D vwCl ((camW ad) ++ (macW cs (ad 0) S F) ++ (macW cs (ad 1) TS TF) ++ (macW cs (ad 2) ES EF) ++ (hisW cs (ad 4) kd HS) ++ (macW cs (kd 0) (KS 0) (KF 0)) ++ (macW cs (kd 1) (KS 1) (KF 1)) ++ (macW cs (kd 2) (KS 2) (KF 2)) ++ (macW cs (kd 3) (KS 3) (KF 3)) ++ (txtW cs (ad 5) X B) ++ (refW cs a V G) ++ [(ou, .inl (cs.2.1, 1, .inr (.inl OL)))]) H) (hD : va_D A ((camW ad) ++ (macW cs (ad 0) S F) ++ (macW cs (ad 1) TS TF) ++ (macW cs (ad 2) ES EF) ++ (hisW cs (ad 4) kd HS) ++ (macW cs (kd 0) (KS 0) (KF 0)) ++ (macW cs (kd 1) (KS 1) (KF 1)) ++ (macW cs (kd 2) (KS 2) (KF 2)) ++ (macW cs (kd 3) (KS 3) (KF 3)) ++ (txtW cs (ad 5) X B) ++ (refW cs a V G) ++ [(ou, .inl (cs.2.1, 1, .inr (.inl OL)))])) (hS : va_S A s.heap H locs) (hl : lv_has ls 9 [(0, .ref b), (1, .ref (ad 3 0)), (2, .ref (a 0)), (3, .ref ou), (4, .int (nI i))]) (kk : ∀ (w : va_W), lwI cs ad kd a ou w → ∀ (H : Heap) (locs : List Loc) (ls : Array Slot), va_P D vwCl w H → va_D A w → va_S A s.heap H locs → lv_has ls 9 [(0, .ref b), (1, .ref (ad 3 0)), (2, .ref (a 0)), (3, .ref ou), (4, .int (nI i))] → W pq l eq room_1 s mq #[Value.ref b] below meth cq H locs (cells + 3) (slots + 18) Q (F0 mq 1447 ls [])) : W pq l eq room_1 s mq #[Value.ref b] below meth cq H locs cells slots Q (F0 mq 1115 ls []) := by
  obtain ⟨⟨hp, hp4, hn, hn4, hsn⟩, hag, hrg, hX0, hL, h4, hGB, htx⟩ := id hR
  have e0 : G 0 0 = S 0 := agr_s hag (by omega)
  have e8 : G 0 8 = S 8 := agr_s hag (by omega)
  have e9 : G 0 9 = S 9 := agr_s hag (by omega)
  obtain ⟨hn2, hn16, hS0⟩ := lw_n0 hag
  obtain ⟨hg4, hS8, ez⟩ := lw_n8 hag
  have h0 : G 0 0 = nI (nN (S 0)) := e0.trans hS0
  have h8 : G 0 8 = nI (nN (S 8)) := e8.trans hS8
  have hok : rOK (G 0) := r_ok hag
  have ho : ∀ j, j < nN (S 8) → ∃ o, o < 5 ∧ G 0 (51 + 3 * j + 1) = nI o := lw_ho hag
  refine lv_aload_n hx hb dL_law_1115 rfl (lv_at hl 1 rfl) ?_
  refine lv_aload_n hx hb dL_law_1116 rfl (lv_at hl 0 rfl) ?_
  refine lv_iload hx hb dL_law_1117 (lv_at hl 4 rfl) ?_
  refine lv_iconst (v := 1) hx hb dL_law_1119 (by decide) ?_
  refine lv_iadd hx hb dL_law_1120 ?_
  refine z_top (y := nI (i + 1)) (nI_add i 1) ?_
  refine z_scr (k := i + 1) hx hb hXs hbl hbA hS (by omega) hLs dL_law_1121 ?_
  refine lv_aload_n hx hb dL_law_1122 rfl (lv_at hl 3 rfl) ?_
  by_cases w0 : 0 ≤ (xs (i + 1)) ∧ (xs (i + 1)) ≤ 4
  · skip
    obtain ⟨hP, hD⟩ := zp_8 hP hD
    refine z_lawH ⟨hx, hb, hml, hown, hts⟩ zYw_ticksToOut w_st_yL_ticksToOut w_ml_L_132 [.ref (ad 3 0), .int (xs (i + 1)), .ref ou] [] (c_L_ticksToOut_ok l D cs hfl ad S F TS TF (xs (i + 1)) ou OL (by rw [exT_t w0])) hE hK hA hP hD hS (z_la (z_la (z_la rfl (z_lm _ _ _ _ _ _)) (z_lm _ _ _ _ _ _)) (z_lo _ _ _ _)) rfl hl.1 (Nat.le_of_ble_eq_true rfl) ⟨Nat.le_of_ble_eq_true rfl, Nat.le_of_ble_eq_true rfl⟩ ⟨by show _ ≤ 601024; omega, by show _ ≤ 7293034; omega⟩ dL_law_1123 (fun H locs hP hD hS => ?_)
    refine lv_istore (lv' := [(5, .int 0), (0, .ref b), (1, .ref (ad 3 0)), (2, .ref (a 0)), (3, .ref ou), (4, .int (nI i))]) hx hb dL_law_1126 hl (by decide) rfl (fun ls hl => ?_)
    refine lv_aload_n hx hb dL_law_1128 rfl (lv_at hl 3 rfl) ?_
    refine lv_aload_n hx hb dL_law_1129 rfl (lv_at hl 1 rfl) ?_
    refine lv_iload hx hb dL_law_1130 (lv_at hl 5 rfl) ?_
    refine lv_iconst (v := 1) hx hb dL_law_1132 (by decide) ?_
    refine lv_iadd hx hb dL_law_1133 ?_
    refine z_top (y := nI (i + 1)) (nI_add i 1) ?_
    refine z_scr (k := i + 1) hx hb hXs hbl hbA hS (by omega) hLs dL_law_1134 ?_
    obtain ⟨hP, hD⟩ := zp_9 hP hD
    refine z_lawV ⟨hx, hb, hml, hown, hts⟩ zY_X8_ticksToOut w_im_yX8_ticksToOut w_se_yX8_ticksToOut w_ml_L_134 [.int (xs (i + 1))] [] (c_X8_ticksToOut_ok l D cs a V G (xs (i + 1)) hok w0) hE hK hA hP hD hS (z_lr _ _ _ _ _ _) 8 rfl rfl rfl rfl hl.1 (Nat.le_of_ble_eq_true rfl) ⟨Nat.le_of_ble_eq_true rfl, Nat.le_of_ble_eq_true rfl⟩ ⟨by show _ ≤ 601024; omega, by show _ ≤ 7293034; omega⟩ dL_law_1135 (fun H locs hP hD hS => ?_)
    refine lv_istore (lv' := [(6, .int (rtoA (nN (xs (i + 1))) (rtoT (nN (xs (i + 1))) 500 0 ((G 0), V 2, V 3)))), (5, .int 0), (0, .ref b), (1, .ref (ad 3 0)), (2, .ref (a 0)), (3, .ref ou), (4, .int (nI i))]) hx hb dL_law_1138 hl (by decide) rfl (fun ls hl => ?_)
    refine lv_aload_n hx hb dL_law_1140 rfl (lv_at hl 4 rfl) ?_
    refine z_lawV ⟨hx, hb, hml, hown, hts⟩ zY_X8_thrown w_im_yX8_thrown w_se_yX8_thrown w_ml_L_86 [] [] (c_X8_thrown l D cs a ((upd (upd (upd V 1 0) 2 ((rtoT (nN (xs (i + 1))) 500 0 ((G 0), V 2, V 3)).2.2.1)) 3 ((rtoT (nN (xs (i + 1))) 500 0 ((G 0), V 2, V 3)).2.2.2))) ((zU (zU G 0 (G 0)) 2 (G 0)))) hE hK hA hP hD hS (z_lr _ _ _ _ _ _) 8 rfl rfl rfl rfl hl.1 (Nat.le_of_ble_eq_true rfl) ⟨Nat.le_of_ble_eq_true rfl, Nat.le_of_ble_eq_true rfl⟩ ⟨by show _ ≤ 601024; omega, by show _ ≤ 7293034; omega⟩ dL_law_1141 (fun H locs hP hD hS => ?_)
    refine z_top (y := 0) rfl ?_
    refine lv_iload hx hb dL_law_1144 (lv_at hl 1 rfl) ?_
    refine lv_icmp_eq (tgt := 1151) hx hb dL_law_1146 (by decide) (fun c_1 => ?_) (fun c_1 => ?_)
    · skip
      refine lv_iload hx hb dL_law_1151 (lv_at hl 1 rfl) ?_
      refine lv_if_ne (tgt := 1168) hx hb dL_law_1153 (by decide) (fun c_2 => ?_) (fun c_2 => ?_)
      · skip
        first | exact absurd c_2 (by decide) | exact absurd (by decide) c_2 | exact absurd rfl c_2
      · skip
        refine lv_aload_n hx hb dL_law_1156 rfl (lv_at hl 5 rfl) ?_
        refine lv_iconst (v := 0) hx hb dL_law_1157 (by decide) ?_
        obtain ⟨hP, hD⟩ := zp_3 hP hD
        refine z_lout (q0 := 0) (v := (toR (nN (xs (i + 1))) 501 0 (S, F)).toInt64) hx hb hK hP rfl dL_law_1158 rfl ?_
        refine lv_iload hx hb dL_law_1159 (lv_at hl 0 rfl) ?_
        refine lv_i2l (v := (rtoA (nN (xs (i + 1))) (rtoT (nN (xs (i + 1))) 500 0 ((G 0), V 2, V 3))).toInt64) hx hb dL_law_1161 rfl ?_
        refine z_lcmp_eq (tgt := 1168) hx hb dL_law_1162 dL_law_1163 (by decide) (fun c_3 => ?_) (fun c_3 => ?_)
        · skip
          refine lv_goto (tgt := 1447) hx hb dL_law_1168 (by decide) ?_
          obtain ⟨hP, hD⟩ := zp_4 hP hD
          refine W.widen (k := cells + 3) (n := slots + 18) (by omega) (by omega) ?_
          exact kk _ ⟨S, F, ((toP (nN (xs (i + 1))) 501 (S, F)).1), ((toP (nN (xs (i + 1))) 501 (S, F)).2), ES, EF, HS, KS, KF, X, B, (upd (upd (upd V 1 0) 2 ((rtoT (nN (xs (i + 1))) 500 0 ((G 0), V 2, V 3)).2.2.1)) 3 ((rtoT (nN (xs (i + 1))) 500 0 ((G 0), V 2, V 3)).2.2.2)), (zU (zU G 0 (G 0)) 2 (G 0)), (vp_updL OL 0 (toR (nN (xs (i + 1))) 501 0 (S, F)).toInt64), p, n, L, rfl, (lwR_g hR rfl rfl rfl rfl rfl rfl rfl)⟩ _ _ _ hP hD hS (lv_sub hl [2, 3, 4, 5, 6] rfl)
        · exact absurd (congrArg Int32.toInt64 (q_to (lw_wh w0 rfl) 500 0 (S, F) ((G 0), V 2, V 3) 100000 hag (by decide))) c_3
    · skip
      first | exact absurd c_1 (by decide) | exact absurd (by decide) c_1 | exact absurd rfl c_1
  · skip
    obtain ⟨hP, hD⟩ := zp_8 hP hD
    refine z_lawH ⟨hx, hb, hml, hown, hts⟩ zYw_ticksToOut w_st_yL_ticksToOut w_ml_L_132 [.ref (ad 3 0), .int (xs (i + 1)), .ref ou] [] (c_L_ticksToOut_e1 l D cs hfl ad S F TS TF (xs (i + 1)) ou OL (by rw [exT_f w0])) hE hK hA hP hD hS (z_la (z_la (z_la rfl (z_lm _ _ _ _ _ _)) (z_lm _ _ _ _ _ _)) (z_lo _ _ _ _)) rfl hl.1 (Nat.le_of_ble_eq_true rfl) ⟨Nat.le_of_ble_eq_true rfl, Nat.le_of_ble_eq_true rfl⟩ ⟨by show _ ≤ 601024; omega, by show _ ≤ 7293034; omega⟩ dL_law_1123 (fun H locs hP hD hS => ?_)
    refine lv_istore (lv' := [(5, .int 1), (0, .ref b), (1, .ref (ad 3 0)), (2, .ref (a 0)), (3, .ref ou), (4, .int (nI i))]) hx hb dL_law_1126 hl (by decide) rfl (fun ls hl => ?_)
    refine lv_aload_n hx hb dL_law_1128 rfl (lv_at hl 3 rfl) ?_
    refine lv_aload_n hx hb dL_law_1129 rfl (lv_at hl 1 rfl) ?_
    refine lv_iload hx hb dL_law_1130 (lv_at hl 5 rfl) ?_
    refine lv_iconst (v := 1) hx hb dL_law_1132 (by decide) ?_
    refine lv_iadd hx hb dL_law_1133 ?_
    refine z_top (y := nI (i + 1)) (nI_add i 1) ?_
    refine z_scr (k := i + 1) hx hb hXs hbl hbA hS (by omega) hLs dL_law_1134 ?_
    obtain ⟨hP, hD⟩ := zp_9 hP hD
    refine z_lawV ⟨hx, hb, hml, hown, hts⟩ zY_X8_ticksToOut w_im_yX8_ticksToOut w_se_yX8_ticksToOut w_ml_L_134 [.int (xs (i + 1))] [] (c_X8_ticksToOut_t1 l D cs a V G (xs (i + 1)) hok w0) hE hK hA hP hD hS (z_lr _ _ _ _ _ _) 8 rfl rfl rfl rfl hl.1 (Nat.le_of_ble_eq_true rfl) ⟨Nat.le_of_ble_eq_true rfl, Nat.le_of_ble_eq_true rfl⟩ ⟨by show _ ≤ 601024; omega, by show _ ≤ 7293034; omega⟩ dL_law_1135 (fun H locs hP hD hS => ?_)
    refine lv_istore (lv' := [(6, .int 0), (5, .int 1), (0, .ref b), (1, .ref (ad 3 0)), (2, .ref (a 0)), (3, .ref ou), (4, .int (nI i))]) hx hb dL_law_1138 hl (by decide) rfl (fun ls hl => ?_)
    refine lv_aload_n hx hb dL_law_1140 rfl (lv_at hl 4 rfl) ?_
    refine z_lawV ⟨hx, hb, hml, hown, hts⟩ zY_X8_thrown w_im_yX8_thrown w_se_yX8_thrown w_ml_L_86 [] [] (c_X8_thrown l D cs a ((upd V 1 1)) G) hE hK hA hP hD hS (z_lr _ _ _ _ _ _) 8 rfl rfl rfl rfl hl.1 (Nat.le_of_ble_eq_true rfl) ⟨Nat.le_of_ble_eq_true rfl, Nat.le_of_ble_eq_true rfl⟩ ⟨by show _ ≤ 601024; omega, by show _ ≤ 7293034; omega⟩ dL_law_1141 (fun H locs hP hD hS => ?_)
    refine z_top (y := 1) rfl ?_
    refine lv_iload hx hb dL_law_1144 (lv_at hl 1 rfl) ?_
    refine lv_icmp_eq (tgt := 1151) hx hb dL_law_1146 (by decide) (fun c_4 => ?_) (fun c_4 => ?_)
    · skip
      refine lv_iload hx hb dL_law_1151 (lv_at hl 1 rfl) ?_
      refine lv_if_ne (tgt := 1168) hx hb dL_law_1153 (by decide) (fun c_5 => ?_) (fun c_5 => ?_)
      · skip
        refine lv_goto (tgt := 1447) hx hb dL_law_1168 (by decide) ?_
        obtain ⟨hP, hD⟩ := zp_5 hP hD
        refine W.widen (k := cells + 3) (n := slots + 18) (by omega) (by omega) ?_
        exact kk _ ⟨S, F, TS, TF, ES, EF, HS, KS, KF, X, B, (upd V 1 1), G, OL, p, n, L, rfl, (lwR_v hR rfl rfl)⟩ _ _ _ hP hD hS (lv_sub hl [2, 3, 4, 5, 6] rfl)
      · skip
        first | exact absurd c_5 (by decide) | exact absurd (by decide) c_5 | exact absurd rfl c_5
    · skip
      first | exact absurd c_4 (by decide) | exact absurd (by decide) c_4 | exact absurd rfl c_4

set_option maxHeartbeats 4000000 in
set_option maxRecDepth 100000 in
theorem law_ticksToCycle {pq : Program} (l : Launch) {eq : Env} {s : State} {mq : MethodId} {below : List Frame} {meth : Method} {cq : Code} {A : Nat → Prop} {D : va_G} {cs : zCs} {b Ls i : Nat} {xs : Nat → Int32} {H : Heap} {locs : List Loc} {ls : Array Slot} {cells slots : Nat} {Q : State → Prop} {ad kd : Nat → Nat → Nat} {a : Nat → Nat} {ou : Nat} {S : Nat → Int32} {F : Nat → Nat → Int32} {TS : Nat → Int32} {TF : Nat → Nat → Int32} {ES : Nat → Int32} {EF : Nat → Nat → Int32} {HS : Nat → Int32} {KS : Nat → Nat → Int32} {KF : Nat → Nat → Nat → Int32} {X : Nat → Int32} {B : Nat → Nat → Int32} {V : Nat → Int32} {G : Nat → Nat → Int32} {OL : Nat → Int64} {p n L : Nat} (hfl : l.stackTraces = false) (hx : pq.tables.exec = Jvm.exec) (hb : cq.code = cL_law) (hml : cq.maxLocals = 9) (hown : s.vm.findClass RL = some mq.cls) (hts : ∀ w ∈ wsG, w.before #[Value.ref b] s = true) (hXs : va_X b Ls xs s s.heap) (hbl : b < s.heap.size) (hbA : ¬ A b) (hE : zE A s) (hK : va_K D vwCl (zT cs) s) (hA : ∀ q : Nat, s.heap.size ≤ q → A q) (hLs : Ls ≤ 2560) (hi : i + 5 ≤ Ls) (hce : cells + 3 ≤ 601024) (hsl : slots + 18 ≤ 7293034) (hR : lwR S F HS KS KF X B V G p n L) (hP : va_P D vwCl ((camW ad) ++ (macW cs (ad 0) S F) ++ (macW cs (ad 1) TS TF) ++ (macW cs (ad 2) ES EF) ++ (hisW cs (ad 4) kd HS) ++ (macW cs (kd 0) (KS 0) (KF 0)) ++ (macW cs (kd 1) (KS 1) (KF 1)) ++ (macW cs (kd 2) (KS 2) (KF 2)) ++ (macW cs (kd 3) (KS 3) (KF 3)) ++ (txtW cs (ad 5) X B) ++ (refW cs a V G) ++ [(ou, .inl (cs.2.1, 1, .inr (.inl OL)))]) H) (hD : va_D A ((camW ad) ++ (macW cs (ad 0) S F) ++ (macW cs (ad 1) TS TF) ++ (macW cs (ad 2) ES EF) ++ (hisW cs (ad 4) kd HS) ++ (macW cs (kd 0) (KS 0) (KF 0)) ++ (macW cs (kd 1) (KS 1) (KF 1)) ++ (macW cs (kd 2) (KS 2) (KF 2)) ++ (macW cs (kd 3) (KS 3) (KF 3)) ++ (txtW cs (ad 5) X B) ++ (refW cs a V G) ++ [(ou, .inl (cs.2.1, 1, .inr (.inl OL)))])) (hS : va_S A s.heap H locs) (hl : lv_has ls 9 [(0, .ref b), (1, .ref (ad 3 0)), (2, .ref (a 0)), (3, .ref ou), (4, .int (nI i))]) (kk : ∀ (w : va_W), lwI cs ad kd a ou w → ∀ (H : Heap) (locs : List Loc) (ls : Array Slot), va_P D vwCl w H → va_D A w → va_S A s.heap H locs → lv_has ls 9 [(0, .ref b), (1, .ref (ad 3 0)), (2, .ref (a 0)), (3, .ref ou), (4, .int (nI i))] → W pq l eq room_1 s mq #[Value.ref b] below meth cq H locs (cells + 3) (slots + 18) Q (F0 mq 1447 ls [])) : W pq l eq room_1 s mq #[Value.ref b] below meth cq H locs cells slots Q (F0 mq 1171 ls []) := by
  obtain ⟨⟨hp, hp4, hn, hn4, hsn⟩, hag, hrg, hX0, hL, h4, hGB, htx⟩ := id hR
  have e0 : G 0 0 = S 0 := agr_s hag (by omega)
  have e8 : G 0 8 = S 8 := agr_s hag (by omega)
  have e9 : G 0 9 = S 9 := agr_s hag (by omega)
  obtain ⟨hn2, hn16, hS0⟩ := lw_n0 hag
  obtain ⟨hg4, hS8, ez⟩ := lw_n8 hag
  have h0 : G 0 0 = nI (nN (S 0)) := e0.trans hS0
  have h8 : G 0 8 = nI (nN (S 8)) := e8.trans hS8
  have hok : rOK (G 0) := r_ok hag
  have ho : ∀ j, j < nN (S 8) → ∃ o, o < 5 ∧ G 0 (51 + 3 * j + 1) = nI o := lw_ho hag
  refine lv_aload_n hx hb dL_law_1171 rfl (lv_at hl 1 rfl) ?_
  obtain ⟨hP, hD⟩ := zp_10 hP hD
  refine z_lawV ⟨hx, hb, hml, hown, hts⟩ zY_X7_ticksToCycle w_im_yX7_ticksToCycle w_se_yX7_ticksToCycle w_ml_L_135 [] [] (c_X7_ticksToCycle l D cs ad S F TS TF) hE hK hA hP hD hS (z_la (z_la rfl (z_lm _ _ _ _ _ _)) (z_lm _ _ _ _ _ _)) 7 rfl rfl rfl rfl hl.1 (Nat.le_of_ble_eq_true rfl) ⟨Nat.le_of_ble_eq_true rfl, Nat.le_of_ble_eq_true rfl⟩ ⟨by show _ ≤ 601024; omega, by show _ ≤ 7293034; omega⟩ dL_law_1172 (fun H locs hP hD hS => ?_)
  refine lv_aload_n hx hb dL_law_1175 rfl (lv_at hl 2 rfl) ?_
  obtain ⟨hP, hD⟩ := zp_11 hP hD
  refine z_lawV ⟨hx, hb, hml, hown, hts⟩ zY_X8_ticksToCycle w_im_yX8_ticksToCycle w_se_yX8_ticksToCycle w_ml_L_138 [] [.int (tuR 1000 1 (S, F))] (c_X8_ticksToCycle l D cs a V G hok) hE hK hA hP hD hS (z_lr _ _ _ _ _ _) 8 rfl rfl rfl rfl hl.1 (Nat.le_of_ble_eq_true rfl) ⟨Nat.le_of_ble_eq_true rfl, Nat.le_of_ble_eq_true rfl⟩ ⟨by show _ ≤ 601024; omega, by show _ ≤ 7293034; omega⟩ dL_law_1176 (fun H locs hP hD hS => ?_)
  refine lv_icmp_eq (tgt := 1447) hx hb dL_law_1179 (by decide) (fun c_1 => ?_) (fun c_1 => ?_)
  · skip
    obtain ⟨hP, hD⟩ := zp_5 hP hD
    refine W.widen (k := cells + 3) (n := slots + 18) (by omega) (by omega) ?_
    exact kk _ ⟨S, F, ((tuP 1000 (S, F)).1), ((tuP 1000 (S, F)).2), ES, EF, HS, KS, KF, X, B, (upd (upd (upd V 1 0) 2 ((rpsQ 1000 ((G 0), V 2, V 3)).2.1)) 3 ((rpsQ 1000 ((G 0), V 2, V 3)).2.2)), (zU (zU G 0 (G 0)) 2 (G 0)), OL, p, n, L, rfl, (lwR_g hR rfl rfl rfl rfl rfl rfl rfl)⟩ _ _ _ hP hD hS (lv_sub hl [0, 1, 2, 3, 4] rfl)
  · exact absurd (q_tc (q := ((G 0), V 2, V 3)) hag (by decide)) c_1

set_option maxHeartbeats 4000000 in
set_option maxRecDepth 100000 in
theorem law_leastCompressor {pq : Program} (l : Launch) {eq : Env} {s : State} {mq : MethodId} {below : List Frame} {meth : Method} {cq : Code} {A : Nat → Prop} {D : va_G} {cs : zCs} {b Ls i : Nat} {xs : Nat → Int32} {H : Heap} {locs : List Loc} {ls : Array Slot} {cells slots : Nat} {Q : State → Prop} {ad kd : Nat → Nat → Nat} {a : Nat → Nat} {ou : Nat} {S : Nat → Int32} {F : Nat → Nat → Int32} {TS : Nat → Int32} {TF : Nat → Nat → Int32} {ES : Nat → Int32} {EF : Nat → Nat → Int32} {HS : Nat → Int32} {KS : Nat → Nat → Int32} {KF : Nat → Nat → Nat → Int32} {X : Nat → Int32} {B : Nat → Nat → Int32} {V : Nat → Int32} {G : Nat → Nat → Int32} {OL : Nat → Int64} {p n L : Nat} (hfl : l.stackTraces = false) (hx : pq.tables.exec = Jvm.exec) (hb : cq.code = cL_law) (hml : cq.maxLocals = 9) (hown : s.vm.findClass RL = some mq.cls) (hts : ∀ w ∈ wsG, w.before #[Value.ref b] s = true) (hXs : va_X b Ls xs s s.heap) (hbl : b < s.heap.size) (hbA : ¬ A b) (hE : zE A s) (hK : va_K D vwCl (zT cs) s) (hA : ∀ q : Nat, s.heap.size ≤ q → A q) (hLs : Ls ≤ 2560) (hi : i + 5 ≤ Ls) (hce : cells + 3 ≤ 601024) (hsl : slots + 18 ≤ 7293034) (hR : lwR S F HS KS KF X B V G p n L) (hP : va_P D vwCl ((camW ad) ++ (macW cs (ad 0) S F) ++ (macW cs (ad 1) TS TF) ++ (macW cs (ad 2) ES EF) ++ (hisW cs (ad 4) kd HS) ++ (macW cs (kd 0) (KS 0) (KF 0)) ++ (macW cs (kd 1) (KS 1) (KF 1)) ++ (macW cs (kd 2) (KS 2) (KF 2)) ++ (macW cs (kd 3) (KS 3) (KF 3)) ++ (txtW cs (ad 5) X B) ++ (refW cs a V G) ++ [(ou, .inl (cs.2.1, 1, .inr (.inl OL)))]) H) (hD : va_D A ((camW ad) ++ (macW cs (ad 0) S F) ++ (macW cs (ad 1) TS TF) ++ (macW cs (ad 2) ES EF) ++ (hisW cs (ad 4) kd HS) ++ (macW cs (kd 0) (KS 0) (KF 0)) ++ (macW cs (kd 1) (KS 1) (KF 1)) ++ (macW cs (kd 2) (KS 2) (KF 2)) ++ (macW cs (kd 3) (KS 3) (KF 3)) ++ (txtW cs (ad 5) X B) ++ (refW cs a V G) ++ [(ou, .inl (cs.2.1, 1, .inr (.inl OL)))])) (hS : va_S A s.heap H locs) (hl : lv_has ls 9 [(0, .ref b), (1, .ref (ad 3 0)), (2, .ref (a 0)), (3, .ref ou), (4, .int (nI i))]) (kk : ∀ (w : va_W), lwI cs ad kd a ou w → ∀ (H : Heap) (locs : List Loc) (ls : Array Slot), va_P D vwCl w H → va_D A w → va_S A s.heap H locs → lv_has ls 9 [(0, .ref b), (1, .ref (ad 3 0)), (2, .ref (a 0)), (3, .ref ou), (4, .int (nI i))] → W pq l eq room_1 s mq #[Value.ref b] below meth cq H locs (cells + 3) (slots + 18) Q (F0 mq 1447 ls [])) : W pq l eq room_1 s mq #[Value.ref b] below meth cq H locs cells slots Q (F0 mq 1184 ls []) := by
  obtain ⟨⟨hp, hp4, hn, hn4, hsn⟩, hag, hrg, hX0, hL, h4, hGB, htx⟩ := id hR
  have e0 : G 0 0 = S 0 := agr_s hag (by omega)
  have e8 : G 0 8 = S 8 := agr_s hag (by omega)
  have e9 : G 0 9 = S 9 := agr_s hag (by omega)
  obtain ⟨hn2, hn16, hS0⟩ := lw_n0 hag
  obtain ⟨hg4, hS8, ez⟩ := lw_n8 hag
  have h0 : G 0 0 = nI (nN (S 0)) := e0.trans hS0
  have h8 : G 0 8 = nI (nN (S 8)) := e8.trans hS8
  have hok : rOK (G 0) := r_ok hag
  have ho : ∀ j, j < nN (S 8) → ∃ o, o < 5 ∧ G 0 (51 + 3 * j + 1) = nI o := lw_ho hag
  refine lv_aload_n hx hb dL_law_1184 rfl (lv_at hl 1 rfl) ?_
  refine lv_aload_n hx hb dL_law_1185 rfl (lv_at hl 0 rfl) ?_
  refine lv_iload hx hb dL_law_1186 (lv_at hl 4 rfl) ?_
  refine lv_iconst (v := 1) hx hb dL_law_1188 (by decide) ?_
  refine lv_iadd hx hb dL_law_1189 ?_
  refine z_top (y := nI (i + 1)) (nI_add i 1) ?_
  refine z_scr (k := i + 1) hx hb hXs hbl hbA hS (by omega) hLs dL_law_1190 ?_
  refine lv_aload_n hx hb dL_law_1191 rfl (lv_at hl 3 rfl) ?_
  by_cases w0 : 1 ≤ (xs (i + 1)) ∧ (xs (i + 1)) ≤ 300
  · skip
    obtain ⟨hP, hD⟩ := zp_8 hP hD
    refine z_lawH ⟨hx, hb, hml, hown, hts⟩ zYw_leastCompressor w_st_yL_leastCompressor w_ml_L_139 [.ref (ad 3 0), .int (xs (i + 1)), .ref ou] [] (c_L_leastCompressor_ok l D cs hfl ad S F TS TF (xs (i + 1)) ou OL (by rw [exT_t w0])) hE hK hA hP hD hS (z_la (z_la (z_la rfl (z_lm _ _ _ _ _ _)) (z_lm _ _ _ _ _ _)) (z_lo _ _ _ _)) rfl hl.1 (Nat.le_of_ble_eq_true rfl) ⟨Nat.le_of_ble_eq_true rfl, Nat.le_of_ble_eq_true rfl⟩ ⟨by show _ ≤ 601024; omega, by show _ ≤ 7293034; omega⟩ dL_law_1192 (fun H locs hP hD hS => ?_)
    refine lv_istore (lv' := [(5, .int 0), (0, .ref b), (1, .ref (ad 3 0)), (2, .ref (a 0)), (3, .ref ou), (4, .int (nI i))]) hx hb dL_law_1195 hl (by decide) rfl (fun ls hl => ?_)
    refine lv_aload_n hx hb dL_law_1197 rfl (lv_at hl 3 rfl) ?_
    refine lv_aload_n hx hb dL_law_1198 rfl (lv_at hl 1 rfl) ?_
    refine lv_iload hx hb dL_law_1199 (lv_at hl 5 rfl) ?_
    refine lv_iconst (v := 1) hx hb dL_law_1201 (by decide) ?_
    refine lv_iadd hx hb dL_law_1202 ?_
    refine z_top (y := nI (i + 1)) (nI_add i 1) ?_
    refine z_scr (k := i + 1) hx hb hXs hbl hbA hS (by omega) hLs dL_law_1203 ?_
    obtain ⟨hP, hD⟩ := zp_9 hP hD
    refine z_lawV ⟨hx, hb, hml, hown, hts⟩ zY_X8_leastCompressor w_im_yX8_leastCompressor w_se_yX8_leastCompressor w_ml_L_141 [.int (xs (i + 1))] [] (c_X8_leastCompressor_ok l D cs a V G (xs (i + 1)) hok w0) hE hK hA hP hD hS (z_lr _ _ _ _ _ _) 8 rfl rfl rfl rfl hl.1 (Nat.le_of_ble_eq_true rfl) ⟨Nat.le_of_ble_eq_true rfl, Nat.le_of_ble_eq_true rfl⟩ ⟨by show _ ≤ 601024; omega, by show _ ≤ 7293034; omega⟩ dL_law_1204 (fun H locs hP hD hS => ?_)
    refine lv_istore (lv' := [(6, .int ((rlcN (nN (xs (i + 1))) (G 0) 51 (-1) (V 2, V 3)).1)), (5, .int 0), (0, .ref b), (1, .ref (ad 3 0)), (2, .ref (a 0)), (3, .ref ou), (4, .int (nI i))]) hx hb dL_law_1207 hl (by decide) rfl (fun ls hl => ?_)
    refine lv_aload_n hx hb dL_law_1209 rfl (lv_at hl 4 rfl) ?_
    refine z_lawV ⟨hx, hb, hml, hown, hts⟩ zY_X8_thrown w_im_yX8_thrown w_se_yX8_thrown w_ml_L_86 [] [] (c_X8_thrown l D cs a ((upd (upd (upd V 1 0) 2 ((rlcN (nN (xs (i + 1))) (G 0) 51 (-1) (V 2, V 3)).2.1)) 3 ((rlcN (nN (xs (i + 1))) (G 0) 51 (-1) (V 2, V 3)).2.2))) ((zU (zU G 0 (G 0)) 2 (G 0)))) hE hK hA hP hD hS (z_lr _ _ _ _ _ _) 8 rfl rfl rfl rfl hl.1 (Nat.le_of_ble_eq_true rfl) ⟨Nat.le_of_ble_eq_true rfl, Nat.le_of_ble_eq_true rfl⟩ ⟨by show _ ≤ 601024; omega, by show _ ≤ 7293034; omega⟩ dL_law_1210 (fun H locs hP hD hS => ?_)
    refine z_top (y := 0) rfl ?_
    refine lv_iload hx hb dL_law_1213 (lv_at hl 1 rfl) ?_
    refine lv_icmp_eq (tgt := 1220) hx hb dL_law_1215 (by decide) (fun c_1 => ?_) (fun c_1 => ?_)
    · skip
      refine lv_iload hx hb dL_law_1220 (lv_at hl 1 rfl) ?_
      refine lv_if_ne (tgt := 1237) hx hb dL_law_1222 (by decide) (fun c_2 => ?_) (fun c_2 => ?_)
      · skip
        first | exact absurd c_2 (by decide) | exact absurd (by decide) c_2 | exact absurd rfl c_2
      · skip
        refine lv_aload_n hx hb dL_law_1225 rfl (lv_at hl 5 rfl) ?_
        refine lv_iconst (v := 0) hx hb dL_law_1226 (by decide) ?_
        obtain ⟨hP, hD⟩ := zp_3 hP hD
        refine z_lout (q0 := 0) (v := (lcR (nN (xs (i + 1))) S F 51 0).toInt64) hx hb hK hP rfl dL_law_1227 rfl ?_
        refine lv_iload hx hb dL_law_1228 (lv_at hl 0 rfl) ?_
        refine lv_i2l (v := ((rlcN (nN (xs (i + 1))) (G 0) 51 (-1) (V 2, V 3)).1).toInt64) hx hb dL_law_1230 rfl ?_
        refine z_lcmp_eq (tgt := 1237) hx hb dL_law_1231 dL_law_1232 (by decide) (fun c_3 => ?_) (fun c_3 => ?_)
        · skip
          refine lv_goto (tgt := 1447) hx hb dL_law_1237 (by decide) ?_
          obtain ⟨hP, hD⟩ := zp_4 hP hD
          refine W.widen (k := cells + 3) (n := slots + 18) (by omega) (by omega) ?_
          exact kk _ ⟨S, F, ((lcP (nN (xs (i + 1))) S F 51 0 (TS, TF)).1), ((lcP (nN (xs (i + 1))) S F 51 0 (TS, TF)).2), ES, EF, HS, KS, KF, X, B, (upd (upd (upd V 1 0) 2 ((rlcN (nN (xs (i + 1))) (G 0) 51 (-1) (V 2, V 3)).2.1)) 3 ((rlcN (nN (xs (i + 1))) (G 0) 51 (-1) (V 2, V 3)).2.2)), (zU (zU G 0 (G 0)) 2 (G 0)), (vp_updL OL 0 (lcR (nN (xs (i + 1))) S F 51 0).toInt64), p, n, L, rfl, (lwR_g hR rfl rfl rfl rfl rfl rfl rfl)⟩ _ _ _ hP hD hS (lv_sub hl [2, 3, 4, 5, 6] rfl)
        · exact absurd (congrArg Int32.toInt64 (lw_lc hag w0 (V 2, V 3))) c_3
    · skip
      first | exact absurd c_1 (by decide) | exact absurd (by decide) c_1 | exact absurd rfl c_1
  · skip
    obtain ⟨hP, hD⟩ := zp_8 hP hD
    refine z_lawH ⟨hx, hb, hml, hown, hts⟩ zYw_leastCompressor w_st_yL_leastCompressor w_ml_L_139 [.ref (ad 3 0), .int (xs (i + 1)), .ref ou] [] (c_L_leastCompressor_e1 l D cs hfl ad S F TS TF (xs (i + 1)) ou OL (by rw [exT_f w0])) hE hK hA hP hD hS (z_la (z_la (z_la rfl (z_lm _ _ _ _ _ _)) (z_lm _ _ _ _ _ _)) (z_lo _ _ _ _)) rfl hl.1 (Nat.le_of_ble_eq_true rfl) ⟨Nat.le_of_ble_eq_true rfl, Nat.le_of_ble_eq_true rfl⟩ ⟨by show _ ≤ 601024; omega, by show _ ≤ 7293034; omega⟩ dL_law_1192 (fun H locs hP hD hS => ?_)
    refine lv_istore (lv' := [(5, .int 1), (0, .ref b), (1, .ref (ad 3 0)), (2, .ref (a 0)), (3, .ref ou), (4, .int (nI i))]) hx hb dL_law_1195 hl (by decide) rfl (fun ls hl => ?_)
    refine lv_aload_n hx hb dL_law_1197 rfl (lv_at hl 3 rfl) ?_
    refine lv_aload_n hx hb dL_law_1198 rfl (lv_at hl 1 rfl) ?_
    refine lv_iload hx hb dL_law_1199 (lv_at hl 5 rfl) ?_
    refine lv_iconst (v := 1) hx hb dL_law_1201 (by decide) ?_
    refine lv_iadd hx hb dL_law_1202 ?_
    refine z_top (y := nI (i + 1)) (nI_add i 1) ?_
    refine z_scr (k := i + 1) hx hb hXs hbl hbA hS (by omega) hLs dL_law_1203 ?_
    obtain ⟨hP, hD⟩ := zp_9 hP hD
    refine z_lawV ⟨hx, hb, hml, hown, hts⟩ zY_X8_leastCompressor w_im_yX8_leastCompressor w_se_yX8_leastCompressor w_ml_L_141 [.int (xs (i + 1))] [] (c_X8_leastCompressor_t1 l D cs a V G (xs (i + 1)) hok w0) hE hK hA hP hD hS (z_lr _ _ _ _ _ _) 8 rfl rfl rfl rfl hl.1 (Nat.le_of_ble_eq_true rfl) ⟨Nat.le_of_ble_eq_true rfl, Nat.le_of_ble_eq_true rfl⟩ ⟨by show _ ≤ 601024; omega, by show _ ≤ 7293034; omega⟩ dL_law_1204 (fun H locs hP hD hS => ?_)
    refine lv_istore (lv' := [(6, .int 0), (5, .int 1), (0, .ref b), (1, .ref (ad 3 0)), (2, .ref (a 0)), (3, .ref ou), (4, .int (nI i))]) hx hb dL_law_1207 hl (by decide) rfl (fun ls hl => ?_)
    refine lv_aload_n hx hb dL_law_1209 rfl (lv_at hl 4 rfl) ?_
    refine z_lawV ⟨hx, hb, hml, hown, hts⟩ zY_X8_thrown w_im_yX8_thrown w_se_yX8_thrown w_ml_L_86 [] [] (c_X8_thrown l D cs a ((upd V 1 1)) G) hE hK hA hP hD hS (z_lr _ _ _ _ _ _) 8 rfl rfl rfl rfl hl.1 (Nat.le_of_ble_eq_true rfl) ⟨Nat.le_of_ble_eq_true rfl, Nat.le_of_ble_eq_true rfl⟩ ⟨by show _ ≤ 601024; omega, by show _ ≤ 7293034; omega⟩ dL_law_1210 (fun H locs hP hD hS => ?_)
    refine z_top (y := 1) rfl ?_
    refine lv_iload hx hb dL_law_1213 (lv_at hl 1 rfl) ?_
    refine lv_icmp_eq (tgt := 1220) hx hb dL_law_1215 (by decide) (fun c_4 => ?_) (fun c_4 => ?_)
    · skip
      refine lv_iload hx hb dL_law_1220 (lv_at hl 1 rfl) ?_
      refine lv_if_ne (tgt := 1237) hx hb dL_law_1222 (by decide) (fun c_5 => ?_) (fun c_5 => ?_)
      · skip
        refine lv_goto (tgt := 1447) hx hb dL_law_1237 (by decide) ?_
        obtain ⟨hP, hD⟩ := zp_5 hP hD
        refine W.widen (k := cells + 3) (n := slots + 18) (by omega) (by omega) ?_
        exact kk _ ⟨S, F, TS, TF, ES, EF, HS, KS, KF, X, B, (upd V 1 1), G, OL, p, n, L, rfl, (lwR_v hR rfl rfl)⟩ _ _ _ hP hD hS (lv_sub hl [2, 3, 4, 5, 6] rfl)
      · skip
        first | exact absurd c_5 (by decide) | exact absurd (by decide) c_5 | exact absurd rfl c_5
    · skip
      first | exact absurd c_4 (by decide) | exact absurd (by decide) c_4 | exact absurd rfl c_4

set_option maxHeartbeats 4000000 in
set_option maxRecDepth 100000 in
theorem law_shortestDwell {pq : Program} (l : Launch) {eq : Env} {s : State} {mq : MethodId} {below : List Frame} {meth : Method} {cq : Code} {A : Nat → Prop} {D : va_G} {cs : zCs} {b Ls i : Nat} {xs : Nat → Int32} {H : Heap} {locs : List Loc} {ls : Array Slot} {cells slots : Nat} {Q : State → Prop} {ad kd : Nat → Nat → Nat} {a : Nat → Nat} {ou : Nat} {S : Nat → Int32} {F : Nat → Nat → Int32} {TS : Nat → Int32} {TF : Nat → Nat → Int32} {ES : Nat → Int32} {EF : Nat → Nat → Int32} {HS : Nat → Int32} {KS : Nat → Nat → Int32} {KF : Nat → Nat → Nat → Int32} {X : Nat → Int32} {B : Nat → Nat → Int32} {V : Nat → Int32} {G : Nat → Nat → Int32} {OL : Nat → Int64} {p n L : Nat} (hfl : l.stackTraces = false) (hx : pq.tables.exec = Jvm.exec) (hb : cq.code = cL_law) (hml : cq.maxLocals = 9) (hown : s.vm.findClass RL = some mq.cls) (hts : ∀ w ∈ wsG, w.before #[Value.ref b] s = true) (hXs : va_X b Ls xs s s.heap) (hbl : b < s.heap.size) (hbA : ¬ A b) (hE : zE A s) (hK : va_K D vwCl (zT cs) s) (hA : ∀ q : Nat, s.heap.size ≤ q → A q) (hLs : Ls ≤ 2560) (hi : i + 5 ≤ Ls) (hce : cells + 3 ≤ 601024) (hsl : slots + 18 ≤ 7293034) (hR : lwR S F HS KS KF X B V G p n L) (hP : va_P D vwCl ((camW ad) ++ (macW cs (ad 0) S F) ++ (macW cs (ad 1) TS TF) ++ (macW cs (ad 2) ES EF) ++ (hisW cs (ad 4) kd HS) ++ (macW cs (kd 0) (KS 0) (KF 0)) ++ (macW cs (kd 1) (KS 1) (KF 1)) ++ (macW cs (kd 2) (KS 2) (KF 2)) ++ (macW cs (kd 3) (KS 3) (KF 3)) ++ (txtW cs (ad 5) X B) ++ (refW cs a V G) ++ [(ou, .inl (cs.2.1, 1, .inr (.inl OL)))]) H) (hD : va_D A ((camW ad) ++ (macW cs (ad 0) S F) ++ (macW cs (ad 1) TS TF) ++ (macW cs (ad 2) ES EF) ++ (hisW cs (ad 4) kd HS) ++ (macW cs (kd 0) (KS 0) (KF 0)) ++ (macW cs (kd 1) (KS 1) (KF 1)) ++ (macW cs (kd 2) (KS 2) (KF 2)) ++ (macW cs (kd 3) (KS 3) (KF 3)) ++ (txtW cs (ad 5) X B) ++ (refW cs a V G) ++ [(ou, .inl (cs.2.1, 1, .inr (.inl OL)))])) (hS : va_S A s.heap H locs) (hl : lv_has ls 9 [(0, .ref b), (1, .ref (ad 3 0)), (2, .ref (a 0)), (3, .ref ou), (4, .int (nI i))]) (kk : ∀ (w : va_W), lwI cs ad kd a ou w → ∀ (H : Heap) (locs : List Loc) (ls : Array Slot), va_P D vwCl w H → va_D A w → va_S A s.heap H locs → lv_has ls 9 [(0, .ref b), (1, .ref (ad 3 0)), (2, .ref (a 0)), (3, .ref ou), (4, .int (nI i))] → W pq l eq room_1 s mq #[Value.ref b] below meth cq H locs (cells + 3) (slots + 18) Q (F0 mq 1447 ls [])) : W pq l eq room_1 s mq #[Value.ref b] below meth cq H locs cells slots Q (F0 mq 1240 ls []) := by
  obtain ⟨⟨hp, hp4, hn, hn4, hsn⟩, hag, hrg, hX0, hL, h4, hGB, htx⟩ := id hR
  have e0 : G 0 0 = S 0 := agr_s hag (by omega)
  have e8 : G 0 8 = S 8 := agr_s hag (by omega)
  have e9 : G 0 9 = S 9 := agr_s hag (by omega)
  obtain ⟨hn2, hn16, hS0⟩ := lw_n0 hag
  obtain ⟨hg4, hS8, ez⟩ := lw_n8 hag
  have h0 : G 0 0 = nI (nN (S 0)) := e0.trans hS0
  have h8 : G 0 8 = nI (nN (S 8)) := e8.trans hS8
  have hok : rOK (G 0) := r_ok hag
  have ho : ∀ j, j < nN (S 8) → ∃ o, o < 5 ∧ G 0 (51 + 3 * j + 1) = nI o := lw_ho hag
  refine lv_aload_n hx hb dL_law_1240 rfl (lv_at hl 1 rfl) ?_
  obtain ⟨hP, hD⟩ := zp_10 hP hD
  refine z_lawV ⟨hx, hb, hml, hown, hts⟩ zY_X7_shortestDwell w_im_yX7_shortestDwell w_se_yX7_shortestDwell w_ml_L_142 [] [] (c_X7_shortestDwell l D cs ad S F TS TF) hE hK hA hP hD hS (z_la (z_la rfl (z_lm _ _ _ _ _ _)) (z_lm _ _ _ _ _ _)) 7 rfl rfl rfl rfl hl.1 (Nat.le_of_ble_eq_true rfl) ⟨Nat.le_of_ble_eq_true rfl, Nat.le_of_ble_eq_true rfl⟩ ⟨by show _ ≤ 601024; omega, by show _ ≤ 7293034; omega⟩ dL_law_1241 (fun H locs hP hD hS => ?_)
  refine lv_aload_n hx hb dL_law_1244 rfl (lv_at hl 2 rfl) ?_
  obtain ⟨hP, hD⟩ := zp_11 hP hD
  refine z_lawV ⟨hx, hb, hml, hown, hts⟩ zY_X8_shortestDwell w_im_yX8_shortestDwell w_se_yX8_shortestDwell w_ml_L_145 [] [.int (sdR S F 20 1)] (c_X8_shortestDwell l D cs a V G hok) hE hK hA hP hD hS (z_lr _ _ _ _ _ _) 8 rfl rfl rfl rfl hl.1 (Nat.le_of_ble_eq_true rfl) ⟨Nat.le_of_ble_eq_true rfl, Nat.le_of_ble_eq_true rfl⟩ ⟨by show _ ≤ 601024; omega, by show _ ≤ 7293034; omega⟩ dL_law_1245 (fun H locs hP hD hS => ?_)
  refine lv_icmp_eq (tgt := 1447) hx hb dL_law_1248 (by decide) (fun c_1 => ?_) (fun c_1 => ?_)
  · skip
    obtain ⟨hP, hD⟩ := zp_5 hP hD
    refine W.widen (k := cells + 3) (n := slots + 18) (by omega) (by omega) ?_
    exact kk _ ⟨S, F, ((sdP S F 20 1 (TS, TF)).1), ((sdP S F 20 1 (TS, TF)).2), ES, EF, HS, KS, KF, X, B, (upd (upd (upd V 1 0) 2 ((rsdN (G 0) 20 1 (-1) (V 2, V 3)).2.1)) 3 ((rsdN (G 0) 20 1 (-1) (V 2, V 3)).2.2)), (zU (zU G 0 (G 0)) 2 (G 0)), OL, p, n, L, rfl, (lwR_g hR rfl rfl rfl rfl rfl rfl rfl)⟩ _ _ _ hP hD hS (lv_sub hl [0, 1, 2, 3, 4] rfl)
  · exact absurd (lw_sd hag (V 2, V 3)) c_1

set_option maxHeartbeats 4000000 in
set_option maxRecDepth 100000 in
theorem law_repeats {pq : Program} (l : Launch) {eq : Env} {s : State} {mq : MethodId} {below : List Frame} {meth : Method} {cq : Code} {A : Nat → Prop} {D : va_G} {cs : zCs} {b Ls i : Nat} {xs : Nat → Int32} {H : Heap} {locs : List Loc} {ls : Array Slot} {cells slots : Nat} {Q : State → Prop} {ad kd : Nat → Nat → Nat} {a : Nat → Nat} {ou : Nat} {S : Nat → Int32} {F : Nat → Nat → Int32} {TS : Nat → Int32} {TF : Nat → Nat → Int32} {ES : Nat → Int32} {EF : Nat → Nat → Int32} {HS : Nat → Int32} {KS : Nat → Nat → Int32} {KF : Nat → Nat → Nat → Int32} {X : Nat → Int32} {B : Nat → Nat → Int32} {V : Nat → Int32} {G : Nat → Nat → Int32} {OL : Nat → Int64} {p n L : Nat} (hfl : l.stackTraces = false) (hx : pq.tables.exec = Jvm.exec) (hb : cq.code = cL_law) (hml : cq.maxLocals = 9) (hown : s.vm.findClass RL = some mq.cls) (hts : ∀ w ∈ wsG, w.before #[Value.ref b] s = true) (hXs : va_X b Ls xs s s.heap) (hbl : b < s.heap.size) (hbA : ¬ A b) (hE : zE A s) (hK : va_K D vwCl (zT cs) s) (hA : ∀ q : Nat, s.heap.size ≤ q → A q) (hLs : Ls ≤ 2560) (hi : i + 5 ≤ Ls) (hce : cells + 3 ≤ 601024) (hsl : slots + 18 ≤ 7293034) (hR : lwR S F HS KS KF X B V G p n L) (hP : va_P D vwCl ((camW ad) ++ (macW cs (ad 0) S F) ++ (macW cs (ad 1) TS TF) ++ (macW cs (ad 2) ES EF) ++ (hisW cs (ad 4) kd HS) ++ (macW cs (kd 0) (KS 0) (KF 0)) ++ (macW cs (kd 1) (KS 1) (KF 1)) ++ (macW cs (kd 2) (KS 2) (KF 2)) ++ (macW cs (kd 3) (KS 3) (KF 3)) ++ (txtW cs (ad 5) X B) ++ (refW cs a V G) ++ [(ou, .inl (cs.2.1, 1, .inr (.inl OL)))]) H) (hD : va_D A ((camW ad) ++ (macW cs (ad 0) S F) ++ (macW cs (ad 1) TS TF) ++ (macW cs (ad 2) ES EF) ++ (hisW cs (ad 4) kd HS) ++ (macW cs (kd 0) (KS 0) (KF 0)) ++ (macW cs (kd 1) (KS 1) (KF 1)) ++ (macW cs (kd 2) (KS 2) (KF 2)) ++ (macW cs (kd 3) (KS 3) (KF 3)) ++ (txtW cs (ad 5) X B) ++ (refW cs a V G) ++ [(ou, .inl (cs.2.1, 1, .inr (.inl OL)))])) (hS : va_S A s.heap H locs) (hl : lv_has ls 9 [(0, .ref b), (1, .ref (ad 3 0)), (2, .ref (a 0)), (3, .ref ou), (4, .int (nI i))]) (kk : ∀ (w : va_W), lwI cs ad kd a ou w → ∀ (H : Heap) (locs : List Loc) (ls : Array Slot), va_P D vwCl w H → va_D A w → va_S A s.heap H locs → lv_has ls 9 [(0, .ref b), (1, .ref (ad 3 0)), (2, .ref (a 0)), (3, .ref ou), (4, .int (nI i))] → W pq l eq room_1 s mq #[Value.ref b] below meth cq H locs (cells + 3) (slots + 18) Q (F0 mq 1447 ls [])) : W pq l eq room_1 s mq #[Value.ref b] below meth cq H locs cells slots Q (F0 mq 1253 ls []) := by
  obtain ⟨⟨hp, hp4, hn, hn4, hsn⟩, hag, hrg, hX0, hL, h4, hGB, htx⟩ := id hR
  have e0 : G 0 0 = S 0 := agr_s hag (by omega)
  have e8 : G 0 8 = S 8 := agr_s hag (by omega)
  have e9 : G 0 9 = S 9 := agr_s hag (by omega)
  obtain ⟨hn2, hn16, hS0⟩ := lw_n0 hag
  obtain ⟨hg4, hS8, ez⟩ := lw_n8 hag
  have h0 : G 0 0 = nI (nN (S 0)) := e0.trans hS0
  have h8 : G 0 8 = nI (nN (S 8)) := e8.trans hS8
  have hok : rOK (G 0) := r_ok hag
  have ho : ∀ j, j < nN (S 8) → ∃ o, o < 5 ∧ G 0 (51 + 3 * j + 1) = nI o := lw_ho hag
  refine lv_aload_n hx hb dL_law_1253 rfl (lv_at hl 1 rfl) ?_
  obtain ⟨hP, hD⟩ := zp_12 hP hD
  refine z_lawV ⟨hx, hb, hml, hown, hts⟩ zY_X7_repeats w_im_yX7_repeats w_se_yX7_repeats w_ml_L_146 [] [] (c_X7_repeats l D cs ad S F TS TF ES EF) hE hK hA hP hD hS (z_la (z_la (z_la rfl (z_lm _ _ _ _ _ _)) (z_lm _ _ _ _ _ _)) (z_lm _ _ _ _ _ _)) 7 rfl rfl rfl rfl hl.1 (Nat.le_of_ble_eq_true rfl) ⟨Nat.le_of_ble_eq_true rfl, Nat.le_of_ble_eq_true rfl⟩ ⟨by show _ ≤ 601024; omega, by show _ ≤ 7293034; omega⟩ dL_law_1254 (fun H locs hP hD hS => ?_)
  refine lv_aload_n hx hb dL_law_1257 rfl (lv_at hl 2 rfl) ?_
  obtain ⟨hP, hD⟩ := zp_13 hP hD
  refine z_lawV ⟨hx, hb, hml, hown, hts⟩ zY_X8_repeats w_im_yX8_repeats w_se_yX8_repeats w_ml_L_150 [] [.int (rpR S F)] (c_X8_repeats l D cs a V G hok) hE hK hA hP hD hS (z_lr _ _ _ _ _ _) 8 rfl rfl rfl rfl hl.1 (Nat.le_of_ble_eq_true rfl) ⟨Nat.le_of_ble_eq_true rfl, Nat.le_of_ble_eq_true rfl⟩ ⟨by show _ ≤ 601024; omega, by show _ ≤ 7293034; omega⟩ dL_law_1258 (fun H locs hP hD hS => ?_)
  refine lv_icmp_eq (tgt := 1447) hx hb dL_law_1261 (by decide) (fun c_1 => ?_) (fun c_1 => ?_)
  · skip
    obtain ⟨hP, hD⟩ := zp_5 hP hD
    refine W.widen (k := cells + 3) (n := slots + 18) (by omega) (by omega) ?_
    exact kk _ ⟨S, F, ((rpT S F).1), ((rpT S F).2), ((rpE S F (ES, EF)).1), ((rpE S F (ES, EF)).2), HS, KS, KF, X, B, (upd (upd (upd V 1 0) 2 ((rrpW ((G 0), V 2, V 3)).1)) 3 ((rrpW ((G 0), V 2, V 3)).2)), (zU (zU (zU G 0 (G 0)) 2 (G 0)) 3 (cpF 0 (G 3) (rbh (rpsQ 2000 ((G 0), V 2, V 3)).1) 8)), OL, p, n, L, rfl, (lwR_g hR rfl rfl rfl rfl rfl rfl rfl)⟩ _ _ _ hP hD hS (lv_sub hl [0, 1, 2, 3, 4] rfl)
  · exact absurd (q_rp (q := ((G 0), V 2, V 3)) hag (by decide)) c_1

set_option maxHeartbeats 4000000 in
set_option maxRecDepth 100000 in
theorem law_useful {pq : Program} (l : Launch) {eq : Env} {s : State} {mq : MethodId} {below : List Frame} {meth : Method} {cq : Code} {A : Nat → Prop} {D : va_G} {cs : zCs} {b Ls i : Nat} {xs : Nat → Int32} {H : Heap} {locs : List Loc} {ls : Array Slot} {cells slots : Nat} {Q : State → Prop} {ad kd : Nat → Nat → Nat} {a : Nat → Nat} {ou : Nat} {S : Nat → Int32} {F : Nat → Nat → Int32} {TS : Nat → Int32} {TF : Nat → Nat → Int32} {ES : Nat → Int32} {EF : Nat → Nat → Int32} {HS : Nat → Int32} {KS : Nat → Nat → Int32} {KF : Nat → Nat → Nat → Int32} {X : Nat → Int32} {B : Nat → Nat → Int32} {V : Nat → Int32} {G : Nat → Nat → Int32} {OL : Nat → Int64} {p n L : Nat} (hfl : l.stackTraces = false) (hx : pq.tables.exec = Jvm.exec) (hb : cq.code = cL_law) (hml : cq.maxLocals = 9) (hown : s.vm.findClass RL = some mq.cls) (hts : ∀ w ∈ wsG, w.before #[Value.ref b] s = true) (hXs : va_X b Ls xs s s.heap) (hbl : b < s.heap.size) (hbA : ¬ A b) (hE : zE A s) (hK : va_K D vwCl (zT cs) s) (hA : ∀ q : Nat, s.heap.size ≤ q → A q) (hLs : Ls ≤ 2560) (hi : i + 5 ≤ Ls) (hce : cells + 3 ≤ 601024) (hsl : slots + 18 ≤ 7293034) (hR : lwR S F HS KS KF X B V G p n L) (hP : va_P D vwCl ((camW ad) ++ (macW cs (ad 0) S F) ++ (macW cs (ad 1) TS TF) ++ (macW cs (ad 2) ES EF) ++ (hisW cs (ad 4) kd HS) ++ (macW cs (kd 0) (KS 0) (KF 0)) ++ (macW cs (kd 1) (KS 1) (KF 1)) ++ (macW cs (kd 2) (KS 2) (KF 2)) ++ (macW cs (kd 3) (KS 3) (KF 3)) ++ (txtW cs (ad 5) X B) ++ (refW cs a V G) ++ [(ou, .inl (cs.2.1, 1, .inr (.inl OL)))]) H) (hD : va_D A ((camW ad) ++ (macW cs (ad 0) S F) ++ (macW cs (ad 1) TS TF) ++ (macW cs (ad 2) ES EF) ++ (hisW cs (ad 4) kd HS) ++ (macW cs (kd 0) (KS 0) (KF 0)) ++ (macW cs (kd 1) (KS 1) (KF 1)) ++ (macW cs (kd 2) (KS 2) (KF 2)) ++ (macW cs (kd 3) (KS 3) (KF 3)) ++ (txtW cs (ad 5) X B) ++ (refW cs a V G) ++ [(ou, .inl (cs.2.1, 1, .inr (.inl OL)))])) (hS : va_S A s.heap H locs) (hl : lv_has ls 9 [(0, .ref b), (1, .ref (ad 3 0)), (2, .ref (a 0)), (3, .ref ou), (4, .int (nI i))]) (kk : ∀ (w : va_W), lwI cs ad kd a ou w → ∀ (H : Heap) (locs : List Loc) (ls : Array Slot), va_P D vwCl w H → va_D A w → va_S A s.heap H locs → lv_has ls 9 [(0, .ref b), (1, .ref (ad 3 0)), (2, .ref (a 0)), (3, .ref ou), (4, .int (nI i))] → W pq l eq room_1 s mq #[Value.ref b] below meth cq H locs (cells + 3) (slots + 18) Q (F0 mq 1447 ls [])) : W pq l eq room_1 s mq #[Value.ref b] below meth cq H locs cells slots Q (F0 mq 1266 ls []) := by
  obtain ⟨⟨hp, hp4, hn, hn4, hsn⟩, hag, hrg, hX0, hL, h4, hGB, htx⟩ := id hR
  have e0 : G 0 0 = S 0 := agr_s hag (by omega)
  have e8 : G 0 8 = S 8 := agr_s hag (by omega)
  have e9 : G 0 9 = S 9 := agr_s hag (by omega)
  obtain ⟨hn2, hn16, hS0⟩ := lw_n0 hag
  obtain ⟨hg4, hS8, ez⟩ := lw_n8 hag
  have h0 : G 0 0 = nI (nN (S 0)) := e0.trans hS0
  have h8 : G 0 8 = nI (nN (S 8)) := e8.trans hS8
  have hok : rOK (G 0) := r_ok hag
  have ho : ∀ j, j < nN (S 8) → ∃ o, o < 5 ∧ G 0 (51 + 3 * j + 1) = nI o := lw_ho hag
  refine lv_aload_n hx hb dL_law_1266 rfl (lv_at hl 1 rfl) ?_
  obtain ⟨hP, hD⟩ := zp_14 hP hD
  refine z_lawV ⟨hx, hb, hml, hown, hts⟩ zY_X7_useful w_im_yX7_useful w_se_yX7_useful w_ml_L_151 [] [] (c_X7_useful l D cs ad S F (lw_hm hag) (lw_hz hag)) hE hK hA hP hD hS (z_la rfl (z_lm _ _ _ _ _ _)) 7 rfl rfl rfl rfl hl.1 (Nat.le_of_ble_eq_true rfl) ⟨Nat.le_of_ble_eq_true rfl, Nat.le_of_ble_eq_true rfl⟩ ⟨by show _ ≤ 601024; omega, by show _ ≤ 7293034; omega⟩ dL_law_1267 (fun H locs hP hD hS => ?_)
  refine lv_dstore (lv' := [(5, .double (FP.ddiv (FP.i2d (S 14)) (FP.i2d (S 12)))), (0, .ref b), (1, .ref (ad 3 0)), (2, .ref (a 0)), (3, .ref ou), (4, .int (nI i))]) hx hb dL_law_1270 hl (by decide) rfl (fun ls hl => ?_)
  refine lv_aload_n hx hb dL_law_1272 rfl (lv_at hl 3 rfl) ?_
  obtain ⟨hP, hD⟩ := zp_15 hP hD
  refine z_lawV ⟨hx, hb, hml, hown, hts⟩ zY_X8_useful w_im_yX8_useful w_se_yX8_useful w_ml_L_155 [] [] (c_X8_useful l D cs a V G (lw_hzg hag)) hE hK hA hP hD hS (z_lr _ _ _ _ _ _) 8 rfl rfl rfl rfl hl.1 (Nat.le_of_ble_eq_true rfl) ⟨Nat.le_of_ble_eq_true rfl, Nat.le_of_ble_eq_true rfl⟩ ⟨by show _ ≤ 601024; omega, by show _ ≤ 7293034; omega⟩ dL_law_1273 (fun H locs hP hD hS => ?_)
  refine lv_dstore (lv' := [(7, .double (FP.ddiv (FP.i2d ((G 0) 14)) (FP.i2d ((G 0) 12)))), (5, .double (FP.ddiv (FP.i2d (S 14)) (FP.i2d (S 12)))), (0, .ref b), (1, .ref (ad 3 0)), (2, .ref (a 0)), (3, .ref ou), (4, .int (nI i))]) hx hb dL_law_1276 hl (by decide) rfl (fun ls hl => ?_)
  refine lv_dload hx hb dL_law_1278 (lv_at hl 1 rfl) ?_
  refine lv_dload hx hb dL_law_1280 (lv_at hl 0 rfl) ?_
  refine lv_dcmp hx hb dL_law_1282 ?_
  refine z_top (y := Op.cmpValue (FP.dcmp (FP.ddiv (FP.i2d (S 14)) (FP.i2d (S 12))) (FP.ddiv (FP.i2d (S 14)) (FP.i2d (S 12)))) .l) (by first | rfl | rw [show G 0 14 = S 14 from agr_s hag (by omega), show G 0 12 = S 12 from agr_s hag (by omega)]) ?_
  refine lv_if_eq (tgt := 1304) hx hb dL_law_1283 (by decide) (fun c_1 => ?_) (fun c_1 => ?_)
  · skip
    refine lv_goto (tgt := 1447) hx hb dL_law_1304 (by decide) ?_
    obtain ⟨hP, hD⟩ := zp_5 hP hD
    refine W.widen (k := cells + 3) (n := slots + 18) (by omega) (by omega) ?_
    exact kk _ ⟨S, F, TS, TF, ES, EF, HS, KS, KF, X, B, (upd V 1 0), G, OL, p, n, L, rfl, (lwR_v hR rfl rfl)⟩ _ _ _ hP hD hS (lv_sub hl [2, 3, 4, 5, 6] rfl)
  · skip
    refine lv_dload hx hb dL_law_1286 (lv_at hl 1 rfl) ?_
    refine lv_dload hx hb dL_law_1288 (lv_at hl 1 rfl) ?_
    refine lv_dcmp hx hb dL_law_1290 ?_
    refine z_top (y := Op.cmpValue (FP.dcmp (FP.ddiv (FP.i2d (S 14)) (FP.i2d (S 12))) (FP.ddiv (FP.i2d (S 14)) (FP.i2d (S 12)))) .l) (by first | rfl | rw [show G 0 14 = S 14 from agr_s hag (by omega), show G 0 12 = S 12 from agr_s hag (by omega)]) ?_
    refine lv_if_eq (tgt := 1302) hx hb dL_law_1291 (by decide) (fun c_2 => ?_) (fun c_2 => ?_)
    · skip
      exact absurd c_2 c_1
    · skip
      refine lv_dload hx hb dL_law_1294 (lv_at hl 0 rfl) ?_
      refine lv_dload hx hb dL_law_1296 (lv_at hl 0 rfl) ?_
      refine lv_dcmp hx hb dL_law_1298 ?_
      refine z_top (y := Op.cmpValue (FP.dcmp (FP.ddiv (FP.i2d (S 14)) (FP.i2d (S 12))) (FP.ddiv (FP.i2d (S 14)) (FP.i2d (S 12)))) .l) (by first | rfl | rw [show G 0 14 = S 14 from agr_s hag (by omega), show G 0 12 = S 12 from agr_s hag (by omega)]) ?_
      refine lv_if_ne (tgt := 1304) hx hb dL_law_1299 (by decide) (fun c_3 => ?_) (fun c_3 => ?_)
      · skip
        refine lv_goto (tgt := 1447) hx hb dL_law_1304 (by decide) ?_
        obtain ⟨hP, hD⟩ := zp_5 hP hD
        refine W.widen (k := cells + 3) (n := slots + 18) (by omega) (by omega) ?_
        exact kk _ ⟨S, F, TS, TF, ES, EF, HS, KS, KF, X, B, (upd V 1 0), G, OL, p, n, L, rfl, (lwR_v hR rfl rfl)⟩ _ _ _ hP hD hS (lv_sub hl [2, 3, 4, 5, 6] rfl)
      · skip
        exact absurd c_3 c_1

set_option maxHeartbeats 4000000 in
set_option maxRecDepth 100000 in
theorem law_append {pq : Program} (l : Launch) {eq : Env} {s : State} {mq : MethodId} {below : List Frame} {meth : Method} {cq : Code} {A : Nat → Prop} {D : va_G} {cs : zCs} {b Ls i : Nat} {xs : Nat → Int32} {H : Heap} {locs : List Loc} {ls : Array Slot} {cells slots : Nat} {Q : State → Prop} {ad kd : Nat → Nat → Nat} {a : Nat → Nat} {ou : Nat} {S : Nat → Int32} {F : Nat → Nat → Int32} {TS : Nat → Int32} {TF : Nat → Nat → Int32} {ES : Nat → Int32} {EF : Nat → Nat → Int32} {HS : Nat → Int32} {KS : Nat → Nat → Int32} {KF : Nat → Nat → Nat → Int32} {X : Nat → Int32} {B : Nat → Nat → Int32} {V : Nat → Int32} {G : Nat → Nat → Int32} {OL : Nat → Int64} {p n L : Nat} (hfl : l.stackTraces = false) (hx : pq.tables.exec = Jvm.exec) (hb : cq.code = cL_law) (hml : cq.maxLocals = 9) (hown : s.vm.findClass RL = some mq.cls) (hts : ∀ w ∈ wsG, w.before #[Value.ref b] s = true) (hXs : va_X b Ls xs s s.heap) (hbl : b < s.heap.size) (hbA : ¬ A b) (hE : zE A s) (hK : va_K D vwCl (zT cs) s) (hA : ∀ q : Nat, s.heap.size ≤ q → A q) (hLs : Ls ≤ 2560) (hi : i + 5 ≤ Ls) (hce : cells + 3 ≤ 601024) (hsl : slots + 18 ≤ 7293034) (hR : lwR S F HS KS KF X B V G p n L) (hP : va_P D vwCl ((camW ad) ++ (macW cs (ad 0) S F) ++ (macW cs (ad 1) TS TF) ++ (macW cs (ad 2) ES EF) ++ (hisW cs (ad 4) kd HS) ++ (macW cs (kd 0) (KS 0) (KF 0)) ++ (macW cs (kd 1) (KS 1) (KF 1)) ++ (macW cs (kd 2) (KS 2) (KF 2)) ++ (macW cs (kd 3) (KS 3) (KF 3)) ++ (txtW cs (ad 5) X B) ++ (refW cs a V G) ++ [(ou, .inl (cs.2.1, 1, .inr (.inl OL)))]) H) (hD : va_D A ((camW ad) ++ (macW cs (ad 0) S F) ++ (macW cs (ad 1) TS TF) ++ (macW cs (ad 2) ES EF) ++ (hisW cs (ad 4) kd HS) ++ (macW cs (kd 0) (KS 0) (KF 0)) ++ (macW cs (kd 1) (KS 1) (KF 1)) ++ (macW cs (kd 2) (KS 2) (KF 2)) ++ (macW cs (kd 3) (KS 3) (KF 3)) ++ (txtW cs (ad 5) X B) ++ (refW cs a V G) ++ [(ou, .inl (cs.2.1, 1, .inr (.inl OL)))])) (hS : va_S A s.heap H locs) (hl : lv_has ls 9 [(0, .ref b), (1, .ref (ad 3 0)), (2, .ref (a 0)), (3, .ref ou), (4, .int (nI i))]) (kk : ∀ (w : va_W), lwI cs ad kd a ou w → ∀ (H : Heap) (locs : List Loc) (ls : Array Slot), va_P D vwCl w H → va_D A w → va_S A s.heap H locs → lv_has ls 9 [(0, .ref b), (1, .ref (ad 3 0)), (2, .ref (a 0)), (3, .ref ou), (4, .int (nI i))] → W pq l eq room_1 s mq #[Value.ref b] below meth cq H locs (cells + 3) (slots + 18) Q (F0 mq 1447 ls [])) : W pq l eq room_1 s mq #[Value.ref b] below meth cq H locs cells slots Q (F0 mq 1307 ls []) := by
  obtain ⟨⟨hp, hp4, hn, hn4, hsn⟩, hag, hrg, hX0, hL, h4, hGB, htx⟩ := id hR
  have e0 : G 0 0 = S 0 := agr_s hag (by omega)
  have e8 : G 0 8 = S 8 := agr_s hag (by omega)
  have e9 : G 0 9 = S 9 := agr_s hag (by omega)
  obtain ⟨hn2, hn16, hS0⟩ := lw_n0 hag
  obtain ⟨hg4, hS8, ez⟩ := lw_n8 hag
  have h0 : G 0 0 = nI (nN (S 0)) := e0.trans hS0
  have h8 : G 0 8 = nI (nN (S 8)) := e8.trans hS8
  have hok : rOK (G 0) := r_ok hag
  have ho : ∀ j, j < nN (S 8) → ∃ o, o < 5 ∧ G 0 (51 + 3 * j + 1) = nI o := lw_ho hag
  refine lv_aload_n hx hb dL_law_1307 rfl (lv_at hl 1 rfl) ?_
  refine lv_aload_n hx hb dL_law_1308 rfl (lv_at hl 0 rfl) ?_
  refine lv_iload hx hb dL_law_1309 (lv_at hl 4 rfl) ?_
  refine lv_iconst (v := 1) hx hb dL_law_1311 (by decide) ?_
  refine lv_iadd hx hb dL_law_1312 ?_
  refine z_top (y := nI (i + 1)) (nI_add i 1) ?_
  refine z_scr (k := i + 1) hx hb hXs hbl hbA hS (by omega) hLs dL_law_1313 ?_
  refine lv_aload_n hx hb dL_law_1314 rfl (lv_at hl 3 rfl) ?_
  by_cases w0 : 0 ≤ (xs (i + 1)) ∧ (xs (i + 1)) ≤ 127
  · skip
    by_cases w1 : nI L < 100
    · skip
      obtain ⟨hP, hD⟩ := zp_16 hP hD
      refine z_lawH ⟨hx, hb, hml, hown, hts⟩ zYw_append w_st_yL_append w_ml_L_156 [.ref (ad 3 0), .int (xs (i + 1)), .ref ou] [] (c_L_append_ok l D cs hfl ad X B L (xs (i + 1)) ou OL hX0 hL (by rw [exT_t w0, exT_t w1])) hE hK hA hP hD hS (z_la (z_la rfl (z_lt _ _ _ _ _ _)) (z_lo _ _ _ _)) rfl hl.1 (Nat.le_of_ble_eq_true rfl) ⟨Nat.le_of_ble_eq_true rfl, Nat.le_of_ble_eq_true rfl⟩ ⟨by show _ ≤ 601024; omega, by show _ ≤ 7293034; omega⟩ dL_law_1315 (fun H locs hP hD hS => ?_)
      refine lv_istore (lv' := [(5, .int 0), (0, .ref b), (1, .ref (ad 3 0)), (2, .ref (a 0)), (3, .ref ou), (4, .int (nI i))]) hx hb dL_law_1318 hl (by decide) rfl (fun ls hl => ?_)
      refine lv_aload_n hx hb dL_law_1320 rfl (lv_at hl 3 rfl) ?_
      refine lv_aload_n hx hb dL_law_1321 rfl (lv_at hl 1 rfl) ?_
      refine lv_iload hx hb dL_law_1322 (lv_at hl 5 rfl) ?_
      refine lv_iconst (v := 1) hx hb dL_law_1324 (by decide) ?_
      refine lv_iadd hx hb dL_law_1325 ?_
      refine z_top (y := nI (i + 1)) (nI_add i 1) ?_
      refine z_scr (k := i + 1) hx hb hXs hbl hbA hS (by omega) hLs dL_law_1326 ?_
      obtain ⟨hP, hD⟩ := zp_17 hP hD
      refine z_lawV ⟨hx, hb, hml, hown, hts⟩ zY_X8_append w_im_yX8_append w_se_yX8_append w_ml_L_158 [.int (xs (i + 1))] [] (c_X8_append_ok l D cs a V G (xs (i + 1)) L h4 hL w0 ((lw_ll hL).mp w1)) hE hK hA hP hD hS (z_lr _ _ _ _ _ _) 8 rfl rfl rfl rfl hl.1 (Nat.le_of_ble_eq_true rfl) ⟨Nat.le_of_ble_eq_true rfl, Nat.le_of_ble_eq_true rfl⟩ ⟨by show _ ≤ 601024; omega, by show _ ≤ 7293034; omega⟩ dL_law_1327 (fun H locs hP hD hS => ?_)
      refine lv_istore (lv' := [(6, .int (nI (L + 1))), (5, .int 0), (0, .ref b), (1, .ref (ad 3 0)), (2, .ref (a 0)), (3, .ref ou), (4, .int (nI i))]) hx hb dL_law_1330 hl (by decide) rfl (fun ls hl => ?_)
      refine lv_aload_n hx hb dL_law_1332 rfl (lv_at hl 4 rfl) ?_
      refine z_lawV ⟨hx, hb, hml, hown, hts⟩ zY_X8_thrown w_im_yX8_thrown w_se_yX8_thrown w_ml_L_86 [] [] (c_X8_thrown l D cs a ((upd (upd V 1 0) 4 (nI (L + 1)))) ((zU G 4 (upd (G 4) L (xs (i + 1)))))) hE hK hA hP hD hS (z_lr _ _ _ _ _ _) 8 rfl rfl rfl rfl hl.1 (Nat.le_of_ble_eq_true rfl) ⟨Nat.le_of_ble_eq_true rfl, Nat.le_of_ble_eq_true rfl⟩ ⟨by show _ ≤ 601024; omega, by show _ ≤ 7293034; omega⟩ dL_law_1333 (fun H locs hP hD hS => ?_)
      refine z_top (y := 0) rfl ?_
      refine lv_iload hx hb dL_law_1336 (lv_at hl 1 rfl) ?_
      refine lv_icmp_eq (tgt := 1343) hx hb dL_law_1338 (by decide) (fun c_1 => ?_) (fun c_1 => ?_)
      · skip
        refine lv_iload hx hb dL_law_1343 (lv_at hl 1 rfl) ?_
        refine lv_if_ne (tgt := 1360) hx hb dL_law_1345 (by decide) (fun c_2 => ?_) (fun c_2 => ?_)
        · skip
          first | exact absurd c_2 (by decide) | exact absurd (by decide) c_2 | exact absurd rfl c_2
        · skip
          refine lv_aload_n hx hb dL_law_1348 rfl (lv_at hl 5 rfl) ?_
          refine lv_iconst (v := 0) hx hb dL_law_1349 (by decide) ?_
          obtain ⟨hP, hD⟩ := zp_3 hP hD
          refine z_lout (q0 := 0) (v := (nI (L + 1)).toInt64) hx hb hK hP rfl dL_law_1350 rfl ?_
          refine lv_iload hx hb dL_law_1351 (lv_at hl 0 rfl) ?_
          refine lv_i2l (v := (nI (L + 1)).toInt64) hx hb dL_law_1353 rfl ?_
          refine z_lcmp_eq (tgt := 1360) hx hb dL_law_1354 dL_law_1355 (by decide) (fun c_3 => ?_) (fun c_3 => ?_)
          · skip
            refine lv_goto (tgt := 1447) hx hb dL_law_1360 (by decide) ?_
            obtain ⟨hP, hD⟩ := zp_4 hP hD
            refine W.widen (k := cells + 3) (n := slots + 18) (by omega) (by omega) ?_
            exact kk _ ⟨S, F, TS, TF, ES, EF, HS, KS, KF, (upd X 0 (nI (L + 1))), (zU B 0 (upd (B 0) L (xs (i + 1)))), (upd (upd V 1 0) 4 (nI (L + 1))), (zU G 4 (upd (G 4) L (xs (i + 1)))), (vp_updL OL 0 (nI (L + 1)).toInt64), p, n, (L + 1), rfl, (lwR_app hR w1 w0 rfl rfl)⟩ _ _ _ hP hD hS (lv_sub hl [2, 3, 4, 5, 6] rfl)
          · exact absurd (congrArg Int32.toInt64 (rfl)) c_3
      · skip
        first | exact absurd c_1 (by decide) | exact absurd (by decide) c_1 | exact absurd rfl c_1
    · skip
      obtain ⟨hP, hD⟩ := zp_16 hP hD
      refine z_lawH ⟨hx, hb, hml, hown, hts⟩ zYw_append w_st_yL_append w_ml_L_156 [.ref (ad 3 0), .int (xs (i + 1)), .ref ou] [] (c_L_append_e2 l D cs hfl ad X B L (xs (i + 1)) ou OL hX0 hL (by rw [exT_t w0, exT_f w1])) hE hK hA hP hD hS (z_la (z_la rfl (z_lt _ _ _ _ _ _)) (z_lo _ _ _ _)) rfl hl.1 (Nat.le_of_ble_eq_true rfl) ⟨Nat.le_of_ble_eq_true rfl, Nat.le_of_ble_eq_true rfl⟩ ⟨by show _ ≤ 601024; omega, by show _ ≤ 7293034; omega⟩ dL_law_1315 (fun H locs hP hD hS => ?_)
      refine lv_istore (lv' := [(5, .int 2), (0, .ref b), (1, .ref (ad 3 0)), (2, .ref (a 0)), (3, .ref ou), (4, .int (nI i))]) hx hb dL_law_1318 hl (by decide) rfl (fun ls hl => ?_)
      refine lv_aload_n hx hb dL_law_1320 rfl (lv_at hl 3 rfl) ?_
      refine lv_aload_n hx hb dL_law_1321 rfl (lv_at hl 1 rfl) ?_
      refine lv_iload hx hb dL_law_1322 (lv_at hl 5 rfl) ?_
      refine lv_iconst (v := 1) hx hb dL_law_1324 (by decide) ?_
      refine lv_iadd hx hb dL_law_1325 ?_
      refine z_top (y := nI (i + 1)) (nI_add i 1) ?_
      refine z_scr (k := i + 1) hx hb hXs hbl hbA hS (by omega) hLs dL_law_1326 ?_
      obtain ⟨hP, hD⟩ := zp_17 hP hD
      refine z_lawV ⟨hx, hb, hml, hown, hts⟩ zY_X8_append w_im_yX8_append w_se_yX8_append w_ml_L_158 [.int (xs (i + 1))] [] (c_X8_append_t2 l D cs a V G (xs (i + 1)) L h4 hL w0 (fun z => w1 ((lw_ll hL).mpr z))) hE hK hA hP hD hS (z_lr _ _ _ _ _ _) 8 rfl rfl rfl rfl hl.1 (Nat.le_of_ble_eq_true rfl) ⟨Nat.le_of_ble_eq_true rfl, Nat.le_of_ble_eq_true rfl⟩ ⟨by show _ ≤ 601024; omega, by show _ ≤ 7293034; omega⟩ dL_law_1327 (fun H locs hP hD hS => ?_)
      refine lv_istore (lv' := [(6, .int 0), (5, .int 2), (0, .ref b), (1, .ref (ad 3 0)), (2, .ref (a 0)), (3, .ref ou), (4, .int (nI i))]) hx hb dL_law_1330 hl (by decide) rfl (fun ls hl => ?_)
      refine lv_aload_n hx hb dL_law_1332 rfl (lv_at hl 4 rfl) ?_
      refine z_lawV ⟨hx, hb, hml, hown, hts⟩ zY_X8_thrown w_im_yX8_thrown w_se_yX8_thrown w_ml_L_86 [] [] (c_X8_thrown l D cs a ((upd V 1 2)) G) hE hK hA hP hD hS (z_lr _ _ _ _ _ _) 8 rfl rfl rfl rfl hl.1 (Nat.le_of_ble_eq_true rfl) ⟨Nat.le_of_ble_eq_true rfl, Nat.le_of_ble_eq_true rfl⟩ ⟨by show _ ≤ 601024; omega, by show _ ≤ 7293034; omega⟩ dL_law_1333 (fun H locs hP hD hS => ?_)
      refine z_top (y := 2) rfl ?_
      refine lv_iload hx hb dL_law_1336 (lv_at hl 1 rfl) ?_
      refine lv_icmp_eq (tgt := 1343) hx hb dL_law_1338 (by decide) (fun c_4 => ?_) (fun c_4 => ?_)
      · skip
        refine lv_iload hx hb dL_law_1343 (lv_at hl 1 rfl) ?_
        refine lv_if_ne (tgt := 1360) hx hb dL_law_1345 (by decide) (fun c_5 => ?_) (fun c_5 => ?_)
        · skip
          refine lv_goto (tgt := 1447) hx hb dL_law_1360 (by decide) ?_
          obtain ⟨hP, hD⟩ := zp_5 hP hD
          refine W.widen (k := cells + 3) (n := slots + 18) (by omega) (by omega) ?_
          exact kk _ ⟨S, F, TS, TF, ES, EF, HS, KS, KF, X, B, (upd V 1 2), G, OL, p, n, L, rfl, (lwR_v hR rfl rfl)⟩ _ _ _ hP hD hS (lv_sub hl [2, 3, 4, 5, 6] rfl)
        · skip
          first | exact absurd c_5 (by decide) | exact absurd (by decide) c_5 | exact absurd rfl c_5
      · skip
        first | exact absurd c_4 (by decide) | exact absurd (by decide) c_4 | exact absurd rfl c_4
  · skip
    obtain ⟨hP, hD⟩ := zp_16 hP hD
    refine z_lawH ⟨hx, hb, hml, hown, hts⟩ zYw_append w_st_yL_append w_ml_L_156 [.ref (ad 3 0), .int (xs (i + 1)), .ref ou] [] (c_L_append_e1 l D cs hfl ad X B L (xs (i + 1)) ou OL hX0 hL (by rw [exT_f w0])) hE hK hA hP hD hS (z_la (z_la rfl (z_lt _ _ _ _ _ _)) (z_lo _ _ _ _)) rfl hl.1 (Nat.le_of_ble_eq_true rfl) ⟨Nat.le_of_ble_eq_true rfl, Nat.le_of_ble_eq_true rfl⟩ ⟨by show _ ≤ 601024; omega, by show _ ≤ 7293034; omega⟩ dL_law_1315 (fun H locs hP hD hS => ?_)
    refine lv_istore (lv' := [(5, .int 1), (0, .ref b), (1, .ref (ad 3 0)), (2, .ref (a 0)), (3, .ref ou), (4, .int (nI i))]) hx hb dL_law_1318 hl (by decide) rfl (fun ls hl => ?_)
    refine lv_aload_n hx hb dL_law_1320 rfl (lv_at hl 3 rfl) ?_
    refine lv_aload_n hx hb dL_law_1321 rfl (lv_at hl 1 rfl) ?_
    refine lv_iload hx hb dL_law_1322 (lv_at hl 5 rfl) ?_
    refine lv_iconst (v := 1) hx hb dL_law_1324 (by decide) ?_
    refine lv_iadd hx hb dL_law_1325 ?_
    refine z_top (y := nI (i + 1)) (nI_add i 1) ?_
    refine z_scr (k := i + 1) hx hb hXs hbl hbA hS (by omega) hLs dL_law_1326 ?_
    obtain ⟨hP, hD⟩ := zp_17 hP hD
    refine z_lawV ⟨hx, hb, hml, hown, hts⟩ zY_X8_append w_im_yX8_append w_se_yX8_append w_ml_L_158 [.int (xs (i + 1))] [] (c_X8_append_t1 l D cs a V G (xs (i + 1)) L h4 hL w0) hE hK hA hP hD hS (z_lr _ _ _ _ _ _) 8 rfl rfl rfl rfl hl.1 (Nat.le_of_ble_eq_true rfl) ⟨Nat.le_of_ble_eq_true rfl, Nat.le_of_ble_eq_true rfl⟩ ⟨by show _ ≤ 601024; omega, by show _ ≤ 7293034; omega⟩ dL_law_1327 (fun H locs hP hD hS => ?_)
    refine lv_istore (lv' := [(6, .int 0), (5, .int 1), (0, .ref b), (1, .ref (ad 3 0)), (2, .ref (a 0)), (3, .ref ou), (4, .int (nI i))]) hx hb dL_law_1330 hl (by decide) rfl (fun ls hl => ?_)
    refine lv_aload_n hx hb dL_law_1332 rfl (lv_at hl 4 rfl) ?_
    refine z_lawV ⟨hx, hb, hml, hown, hts⟩ zY_X8_thrown w_im_yX8_thrown w_se_yX8_thrown w_ml_L_86 [] [] (c_X8_thrown l D cs a ((upd V 1 1)) G) hE hK hA hP hD hS (z_lr _ _ _ _ _ _) 8 rfl rfl rfl rfl hl.1 (Nat.le_of_ble_eq_true rfl) ⟨Nat.le_of_ble_eq_true rfl, Nat.le_of_ble_eq_true rfl⟩ ⟨by show _ ≤ 601024; omega, by show _ ≤ 7293034; omega⟩ dL_law_1333 (fun H locs hP hD hS => ?_)
    refine z_top (y := 1) rfl ?_
    refine lv_iload hx hb dL_law_1336 (lv_at hl 1 rfl) ?_
    refine lv_icmp_eq (tgt := 1343) hx hb dL_law_1338 (by decide) (fun c_6 => ?_) (fun c_6 => ?_)
    · skip
      refine lv_iload hx hb dL_law_1343 (lv_at hl 1 rfl) ?_
      refine lv_if_ne (tgt := 1360) hx hb dL_law_1345 (by decide) (fun c_7 => ?_) (fun c_7 => ?_)
      · skip
        refine lv_goto (tgt := 1447) hx hb dL_law_1360 (by decide) ?_
        obtain ⟨hP, hD⟩ := zp_5 hP hD
        refine W.widen (k := cells + 3) (n := slots + 18) (by omega) (by omega) ?_
        exact kk _ ⟨S, F, TS, TF, ES, EF, HS, KS, KF, X, B, (upd V 1 1), G, OL, p, n, L, rfl, (lwR_v hR rfl rfl)⟩ _ _ _ hP hD hS (lv_sub hl [2, 3, 4, 5, 6] rfl)
      · skip
        first | exact absurd c_7 (by decide) | exact absurd (by decide) c_7 | exact absurd rfl c_7
    · skip
      first | exact absurd c_6 (by decide) | exact absurd (by decide) c_6 | exact absurd rfl c_6

set_option maxHeartbeats 4000000 in
set_option maxRecDepth 100000 in
theorem law_clearText {pq : Program} (l : Launch) {eq : Env} {s : State} {mq : MethodId} {below : List Frame} {meth : Method} {cq : Code} {A : Nat → Prop} {D : va_G} {cs : zCs} {b Ls i : Nat} {xs : Nat → Int32} {H : Heap} {locs : List Loc} {ls : Array Slot} {cells slots : Nat} {Q : State → Prop} {ad kd : Nat → Nat → Nat} {a : Nat → Nat} {ou : Nat} {S : Nat → Int32} {F : Nat → Nat → Int32} {TS : Nat → Int32} {TF : Nat → Nat → Int32} {ES : Nat → Int32} {EF : Nat → Nat → Int32} {HS : Nat → Int32} {KS : Nat → Nat → Int32} {KF : Nat → Nat → Nat → Int32} {X : Nat → Int32} {B : Nat → Nat → Int32} {V : Nat → Int32} {G : Nat → Nat → Int32} {OL : Nat → Int64} {p n L : Nat} (hfl : l.stackTraces = false) (hx : pq.tables.exec = Jvm.exec) (hb : cq.code = cL_law) (hml : cq.maxLocals = 9) (hown : s.vm.findClass RL = some mq.cls) (hts : ∀ w ∈ wsG, w.before #[Value.ref b] s = true) (hXs : va_X b Ls xs s s.heap) (hbl : b < s.heap.size) (hbA : ¬ A b) (hE : zE A s) (hK : va_K D vwCl (zT cs) s) (hA : ∀ q : Nat, s.heap.size ≤ q → A q) (hLs : Ls ≤ 2560) (hi : i + 5 ≤ Ls) (hce : cells + 3 ≤ 601024) (hsl : slots + 18 ≤ 7293034) (hR : lwR S F HS KS KF X B V G p n L) (hP : va_P D vwCl ((camW ad) ++ (macW cs (ad 0) S F) ++ (macW cs (ad 1) TS TF) ++ (macW cs (ad 2) ES EF) ++ (hisW cs (ad 4) kd HS) ++ (macW cs (kd 0) (KS 0) (KF 0)) ++ (macW cs (kd 1) (KS 1) (KF 1)) ++ (macW cs (kd 2) (KS 2) (KF 2)) ++ (macW cs (kd 3) (KS 3) (KF 3)) ++ (txtW cs (ad 5) X B) ++ (refW cs a V G) ++ [(ou, .inl (cs.2.1, 1, .inr (.inl OL)))]) H) (hD : va_D A ((camW ad) ++ (macW cs (ad 0) S F) ++ (macW cs (ad 1) TS TF) ++ (macW cs (ad 2) ES EF) ++ (hisW cs (ad 4) kd HS) ++ (macW cs (kd 0) (KS 0) (KF 0)) ++ (macW cs (kd 1) (KS 1) (KF 1)) ++ (macW cs (kd 2) (KS 2) (KF 2)) ++ (macW cs (kd 3) (KS 3) (KF 3)) ++ (txtW cs (ad 5) X B) ++ (refW cs a V G) ++ [(ou, .inl (cs.2.1, 1, .inr (.inl OL)))])) (hS : va_S A s.heap H locs) (hl : lv_has ls 9 [(0, .ref b), (1, .ref (ad 3 0)), (2, .ref (a 0)), (3, .ref ou), (4, .int (nI i))]) (kk : ∀ (w : va_W), lwI cs ad kd a ou w → ∀ (H : Heap) (locs : List Loc) (ls : Array Slot), va_P D vwCl w H → va_D A w → va_S A s.heap H locs → lv_has ls 9 [(0, .ref b), (1, .ref (ad 3 0)), (2, .ref (a 0)), (3, .ref ou), (4, .int (nI i))] → W pq l eq room_1 s mq #[Value.ref b] below meth cq H locs (cells + 3) (slots + 18) Q (F0 mq 1447 ls [])) : W pq l eq room_1 s mq #[Value.ref b] below meth cq H locs cells slots Q (F0 mq 1363 ls []) := by
  obtain ⟨⟨hp, hp4, hn, hn4, hsn⟩, hag, hrg, hX0, hL, h4, hGB, htx⟩ := id hR
  have e0 : G 0 0 = S 0 := agr_s hag (by omega)
  have e8 : G 0 8 = S 8 := agr_s hag (by omega)
  have e9 : G 0 9 = S 9 := agr_s hag (by omega)
  obtain ⟨hn2, hn16, hS0⟩ := lw_n0 hag
  obtain ⟨hg4, hS8, ez⟩ := lw_n8 hag
  have h0 : G 0 0 = nI (nN (S 0)) := e0.trans hS0
  have h8 : G 0 8 = nI (nN (S 8)) := e8.trans hS8
  have hok : rOK (G 0) := r_ok hag
  have ho : ∀ j, j < nN (S 8) → ∃ o, o < 5 ∧ G 0 (51 + 3 * j + 1) = nI o := lw_ho hag
  refine lv_aload_n hx hb dL_law_1363 rfl (lv_at hl 1 rfl) ?_
  obtain ⟨hP, hD⟩ := zp_18 hP hD
  refine z_lawV ⟨hx, hb, hml, hown, hts⟩ zY_X7_clearText w_im_yX7_clearText w_se_yX7_clearText w_ml_L_159 [] [] (c_X7_clearText l D cs ad X B) hE hK hA hP hD hS (z_la rfl (z_lt _ _ _ _ _ _)) 7 rfl rfl rfl rfl hl.1 (Nat.le_of_ble_eq_true rfl) ⟨Nat.le_of_ble_eq_true rfl, Nat.le_of_ble_eq_true rfl⟩ ⟨by show _ ≤ 601024; omega, by show _ ≤ 7293034; omega⟩ dL_law_1364 (fun H locs hP hD hS => ?_)
  refine lv_aload_n hx hb dL_law_1367 rfl (lv_at hl 2 rfl) ?_
  obtain ⟨hP, hD⟩ := zp_19 hP hD
  refine z_lawV ⟨hx, hb, hml, hown, hts⟩ zY_X8_clearText w_im_yX8_clearText w_se_yX8_clearText w_ml_L_162 [] [.int (X 0)] (c_X8_clearText l D cs a V G) hE hK hA hP hD hS (z_lr _ _ _ _ _ _) 8 rfl rfl rfl rfl hl.1 (Nat.le_of_ble_eq_true rfl) ⟨Nat.le_of_ble_eq_true rfl, Nat.le_of_ble_eq_true rfl⟩ ⟨by show _ ≤ 601024; omega, by show _ ≤ 7293034; omega⟩ dL_law_1368 (fun H locs hP hD hS => ?_)
  refine lv_icmp_eq (tgt := 1447) hx hb dL_law_1371 (by decide) (fun c_1 => ?_) (fun c_1 => ?_)
  · skip
    obtain ⟨hP, hD⟩ := zp_5 hP hD
    refine W.widen (k := cells + 3) (n := slots + 18) (by omega) (by omega) ?_
    exact kk _ ⟨S, F, TS, TF, ES, EF, HS, KS, KF, (upd X 0 0), B, (upd (upd V 1 0) 4 0), G, OL, p, n, 0, rfl, (lwR_clr hR rfl rfl)⟩ _ _ _ hP hD hS (lv_sub hl [0, 1, 2, 3, 4] rfl)
  · exact absurd (hX0.trans h4.symm) c_1

set_option maxHeartbeats 4000000 in
set_option maxRecDepth 100000 in
theorem law_parse_bad {pq : Program} (l : Launch) {eq : Env} {s : State} {mq : MethodId} {below : List Frame} {meth : Method} {cq : Code} {A : Nat → Prop} {D : va_G} {cs : zCs} {b Ls i : Nat} {xs : Nat → Int32} {H : Heap} {locs : List Loc} {ls : Array Slot} {cells slots : Nat} {Q : State → Prop} {ad kd : Nat → Nat → Nat} {a : Nat → Nat} {ou : Nat} {S : Nat → Int32} {F : Nat → Nat → Int32} {TS : Nat → Int32} {TF : Nat → Nat → Int32} {ES : Nat → Int32} {EF : Nat → Nat → Int32} {HS : Nat → Int32} {KS : Nat → Nat → Int32} {KF : Nat → Nat → Nat → Int32} {X : Nat → Int32} {B : Nat → Nat → Int32} {V : Nat → Int32} {G : Nat → Nat → Int32} {OL : Nat → Int64} {p n L : Nat} (hfl : l.stackTraces = false) (hx : pq.tables.exec = Jvm.exec) (hb : cq.code = cL_law) (hml : cq.maxLocals = 9) (hown : s.vm.findClass RL = some mq.cls) (hts : ∀ w ∈ wsG, w.before #[Value.ref b] s = true) (hXs : va_X b Ls xs s s.heap) (hbl : b < s.heap.size) (hbA : ¬ A b) (hE : zE A s) (hK : va_K D vwCl (zT cs) s) (hA : ∀ q : Nat, s.heap.size ≤ q → A q) (hLs : Ls ≤ 2560) (hi : i + 5 ≤ Ls) (hce : cells + 3 ≤ 601024) (hsl : slots + 18 ≤ 7293034) (hR : lwR S F HS KS KF X B V G p n L) (a1 : (rwZ (B 0) L (nN (S 0))).1 = 0) (a2 : (rdZ (B 0) L (nN (S 0))).1 = nI (rwZ (B 0) L (nN (S 0))).2.1) (a3 : (rwZ (B 0) L (nN (S 0))).2.1 < 1000000) (hP : va_P D vwCl ((camW ad) ++ (macW cs (ad 0) S F) ++ (macW cs (ad 1) TS TF) ++ (macW cs (ad 2) ES EF) ++ (hisW cs (ad 4) kd HS) ++ (macW cs (kd 0) (KS 0) (KF 0)) ++ (macW cs (kd 1) (KS 1) (KF 1)) ++ (macW cs (kd 2) (KS 2) (KF 2)) ++ (macW cs (kd 3) (KS 3) (KF 3)) ++ (txtW cs (ad 5) X B) ++ (refW cs a V G) ++ [(ou, .inl (cs.2.1, 1, .inr (.inl OL)))]) H) (hD : va_D A ((camW ad) ++ (macW cs (ad 0) S F) ++ (macW cs (ad 1) TS TF) ++ (macW cs (ad 2) ES EF) ++ (hisW cs (ad 4) kd HS) ++ (macW cs (kd 0) (KS 0) (KF 0)) ++ (macW cs (kd 1) (KS 1) (KF 1)) ++ (macW cs (kd 2) (KS 2) (KF 2)) ++ (macW cs (kd 3) (KS 3) (KF 3)) ++ (txtW cs (ad 5) X B) ++ (refW cs a V G) ++ [(ou, .inl (cs.2.1, 1, .inr (.inl OL)))])) (hS : va_S A s.heap H locs) (hl : lv_has ls 9 [(0, .ref b), (1, .ref (ad 3 0)), (2, .ref (a 0)), (3, .ref ou), (4, .int (nI i))]) (kk : ∀ (w : va_W), lwI cs ad kd a ou w → ∀ (H : Heap) (locs : List Loc) (ls : Array Slot), va_P D vwCl w H → va_D A w → va_S A s.heap H locs → lv_has ls 9 [(0, .ref b), (1, .ref (ad 3 0)), (2, .ref (a 0)), (3, .ref ou), (4, .int (nI i))] → W pq l eq room_1 s mq #[Value.ref b] below meth cq H locs (cells + 3) (slots + 18) Q (F0 mq 1447 ls [])) : W pq l eq room_1 s mq #[Value.ref b] below meth cq H locs cells slots Q (F0 mq 1376 ls []) := by
  obtain ⟨⟨hp, hp4, hn, hn4, hsn⟩, hag, hrg, hX0, hL, h4, hGB, htx⟩ := id hR
  have e0 : G 0 0 = S 0 := agr_s hag (by omega)
  have e8 : G 0 8 = S 8 := agr_s hag (by omega)
  have e9 : G 0 9 = S 9 := agr_s hag (by omega)
  obtain ⟨hn2, hn16, hS0⟩ := lw_n0 hag
  obtain ⟨hg4, hS8, ez⟩ := lw_n8 hag
  have h0 : G 0 0 = nI (nN (S 0)) := e0.trans hS0
  have h8 : G 0 8 = nI (nN (S 8)) := e8.trans hS8
  have hok : rOK (G 0) := r_ok hag
  have ho : ∀ j, j < nN (S 8) → ∃ o, o < 5 ∧ G 0 (51 + 3 * j + 1) = nI o := lw_ho hag
  refine lv_aload_n hx hb dL_law_1376 rfl (lv_at hl 1 rfl) ?_
  obtain ⟨hP, hD⟩ := zp_20 hP hD
  refine z_lawV ⟨hx, hb, hml, hown, hts⟩ zY_X7_parse w_im_yX7_parse w_se_yX7_parse w_ml_L_163 [] [] (c_X7_parse_bad l D cs ad S F X B L (nN (S 0)) hX0 hL hS0 hn16 (by rw [a2]; exact q_n1 (by omega))) hE hK hA hP hD hS (z_la (z_la rfl (z_lm _ _ _ _ _ _)) (z_lt _ _ _ _ _ _)) 7 rfl rfl rfl rfl hl.1 (Nat.le_of_ble_eq_true rfl) ⟨Nat.le_of_ble_eq_true rfl, Nat.le_of_ble_eq_true rfl⟩ ⟨by show _ ≤ 601024; omega, by show _ ≤ 7293034; omega⟩ dL_law_1377 (fun H locs hP hD hS => ?_)
  refine lv_aload_n hx hb dL_law_1380 rfl (lv_at hl 2 rfl) ?_
  obtain ⟨hP, hD⟩ := zp_21 hP hD
  refine z_lawV ⟨hx, hb, hml, hown, hts⟩ zY_X8_parse w_im_yX8_parse w_se_yX8_parse w_ml_L_166 [] [.int ((-10) - (rdZ (B 0) L (nN (S 0))).1)] (c_X8_parse_bad l D cs a V G L (nN (S 0)) h4 hL h0 hn16 (by rw [hGB, a1]; decide)) hE hK hA hP hD hS (z_lr _ _ _ _ _ _) 8 rfl rfl rfl rfl hl.1 (Nat.le_of_ble_eq_true rfl) ⟨Nat.le_of_ble_eq_true rfl, Nat.le_of_ble_eq_true rfl⟩ ⟨by show _ ≤ 601024; omega, by show _ ≤ 7293034; omega⟩ dL_law_1381 (fun H locs hP hD hS => ?_)
  refine lv_icmp_eq (tgt := 1447) hx hb dL_law_1384 (by decide) (fun c_1 => ?_) (fun c_1 => ?_)
  · skip
    obtain ⟨hP, hD⟩ := zp_5 hP hD
    refine W.widen (k := cells + 3) (n := slots + 18) (by omega) (by omega) ?_
    exact kk _ ⟨S, F, TS, TF, ES, EF, HS, KS, KF, (upd (upd (upd X 1 (nI (rdn (B 0) L (nN (S 0))))) 2 ((rdZ (B 0) L (nN (S 0))).1)) 3 (nI (rdZ (B 0) L (nN (S 0))).2.1)), (zU B 1 ((rdZ (B 0) L (nN (S 0))).2.2)), (upd (upd (upd V 1 0) 5 (nI (rwZ (G 4) L (nN (S 0))).2.1)) 6 (nI (rtm (G 4) L (nN (S 0))))), (zU G 5 ((rwZ (G 4) L (nN (S 0))).2.2)), OL, p, n, L, rfl, (lwR_g hR rfl rfl rfl rfl rfl rfl rfl)⟩ _ _ _ hP hD hS (lv_sub hl [0, 1, 2, 3, 4] rfl)
  · exact absurd (by rw [hGB, a2]) c_1

set_option maxHeartbeats 4000000 in
set_option maxRecDepth 100000 in
theorem law_parse_ok {pq : Program} (l : Launch) {eq : Env} {s : State} {mq : MethodId} {below : List Frame} {meth : Method} {cq : Code} {A : Nat → Prop} {D : va_G} {cs : zCs} {b Ls i : Nat} {xs : Nat → Int32} {H : Heap} {locs : List Loc} {ls : Array Slot} {cells slots : Nat} {Q : State → Prop} {ad kd : Nat → Nat → Nat} {a : Nat → Nat} {ou : Nat} {S : Nat → Int32} {F : Nat → Nat → Int32} {TS : Nat → Int32} {TF : Nat → Nat → Int32} {ES : Nat → Int32} {EF : Nat → Nat → Int32} {HS : Nat → Int32} {KS : Nat → Nat → Int32} {KF : Nat → Nat → Nat → Int32} {X : Nat → Int32} {B : Nat → Nat → Int32} {V : Nat → Int32} {G : Nat → Nat → Int32} {OL : Nat → Int64} {p n L : Nat} (hfl : l.stackTraces = false) (hx : pq.tables.exec = Jvm.exec) (hb : cq.code = cL_law) (hml : cq.maxLocals = 9) (hown : s.vm.findClass RL = some mq.cls) (hts : ∀ w ∈ wsG, w.before #[Value.ref b] s = true) (hXs : va_X b Ls xs s s.heap) (hbl : b < s.heap.size) (hbA : ¬ A b) (hE : zE A s) (hK : va_K D vwCl (zT cs) s) (hA : ∀ q : Nat, s.heap.size ≤ q → A q) (hLs : Ls ≤ 2560) (hi : i + 5 ≤ Ls) (hce : cells + 3 ≤ 601024) (hsl : slots + 18 ≤ 7293034) (hR : lwR S F HS KS KF X B V G p n L) (a1 : (rdZ (B 0) L (nN (S 0))).1 = -1) (a2 : (rwZ (B 0) L (nN (S 0))).1 = 1) (a3 : (rdZ (B 0) L (nN (S 0))).2.2 = (rwZ (B 0) L (nN (S 0))).2.2) (hP : va_P D vwCl ((camW ad) ++ (macW cs (ad 0) S F) ++ (macW cs (ad 1) TS TF) ++ (macW cs (ad 2) ES EF) ++ (hisW cs (ad 4) kd HS) ++ (macW cs (kd 0) (KS 0) (KF 0)) ++ (macW cs (kd 1) (KS 1) (KF 1)) ++ (macW cs (kd 2) (KS 2) (KF 2)) ++ (macW cs (kd 3) (KS 3) (KF 3)) ++ (txtW cs (ad 5) X B) ++ (refW cs a V G) ++ [(ou, .inl (cs.2.1, 1, .inr (.inl OL)))]) H) (hD : va_D A ((camW ad) ++ (macW cs (ad 0) S F) ++ (macW cs (ad 1) TS TF) ++ (macW cs (ad 2) ES EF) ++ (hisW cs (ad 4) kd HS) ++ (macW cs (kd 0) (KS 0) (KF 0)) ++ (macW cs (kd 1) (KS 1) (KF 1)) ++ (macW cs (kd 2) (KS 2) (KF 2)) ++ (macW cs (kd 3) (KS 3) (KF 3)) ++ (txtW cs (ad 5) X B) ++ (refW cs a V G) ++ [(ou, .inl (cs.2.1, 1, .inr (.inl OL)))])) (hS : va_S A s.heap H locs) (hl : lv_has ls 9 [(0, .ref b), (1, .ref (ad 3 0)), (2, .ref (a 0)), (3, .ref ou), (4, .int (nI i))]) (kk : ∀ (w : va_W), lwI cs ad kd a ou w → ∀ (H : Heap) (locs : List Loc) (ls : Array Slot), va_P D vwCl w H → va_D A w → va_S A s.heap H locs → lv_has ls 9 [(0, .ref b), (1, .ref (ad 3 0)), (2, .ref (a 0)), (3, .ref ou), (4, .int (nI i))] → W pq l eq room_1 s mq #[Value.ref b] below meth cq H locs (cells + 3) (slots + 18) Q (F0 mq 1447 ls [])) : W pq l eq room_1 s mq #[Value.ref b] below meth cq H locs cells slots Q (F0 mq 1376 ls []) := by
  obtain ⟨⟨hp, hp4, hn, hn4, hsn⟩, hag, hrg, hX0, hL, h4, hGB, htx⟩ := id hR
  have e0 : G 0 0 = S 0 := agr_s hag (by omega)
  have e8 : G 0 8 = S 8 := agr_s hag (by omega)
  have e9 : G 0 9 = S 9 := agr_s hag (by omega)
  obtain ⟨hn2, hn16, hS0⟩ := lw_n0 hag
  obtain ⟨hg4, hS8, ez⟩ := lw_n8 hag
  have h0 : G 0 0 = nI (nN (S 0)) := e0.trans hS0
  have h8 : G 0 8 = nI (nN (S 8)) := e8.trans hS8
  have hok : rOK (G 0) := r_ok hag
  have ho : ∀ j, j < nN (S 8) → ∃ o, o < 5 ∧ G 0 (51 + 3 * j + 1) = nI o := lw_ho hag
  refine lv_aload_n hx hb dL_law_1376 rfl (lv_at hl 1 rfl) ?_
  obtain ⟨hP, hD⟩ := zp_22 hP hD
  refine z_lawV ⟨hx, hb, hml, hown, hts⟩ zY_X7_parse w_im_yX7_parse w_se_yX7_parse w_ml_L_163 [] [] (c_X7_parse_ok l D cs ad S F X B kd HS KS KF p n L (nN (S 0)) hX0 hL hS0 hn16 hp hp4 hn hn4 a1) hE hK hA hP hD hS (z_la (z_la (z_la (z_la (z_la (z_la (z_la rfl (z_lm _ _ _ _ _ _)) (z_lt _ _ _ _ _ _)) (z_lh _ _ _ _ _)) (z_lm _ _ _ _ _ _)) (z_lm _ _ _ _ _ _)) (z_lm _ _ _ _ _ _)) (z_lm _ _ _ _ _ _)) 7 rfl rfl rfl rfl hl.1 (Nat.le_of_ble_eq_true rfl) ⟨Nat.le_of_ble_eq_true rfl, Nat.le_of_ble_eq_true rfl⟩ ⟨by show _ ≤ 601024; omega, by show _ ≤ 7293034; omega⟩ dL_law_1377 (fun H locs hP hD hS => ?_)
  refine lv_aload_n hx hb dL_law_1380 rfl (lv_at hl 2 rfl) ?_
  obtain ⟨hP, hD⟩ := zp_23 hP hD
  refine z_lawV ⟨hx, hb, hml, hown, hts⟩ zY_X8_parse w_im_yX8_parse w_se_yX8_parse w_ml_L_166 [] [.int (jsum (rdZ (B 0) L (nN (S 0))).2.2 5)] (c_X8_parse_ok l D cs a V G n L (nN (S 0)) hsn hn4 h4 hL h0 hn16 (by rw [hGB]; exact a2)) hE hK hA hP hD hS (z_lr _ _ _ _ _ _) 8 rfl rfl rfl rfl hl.1 (Nat.le_of_ble_eq_true rfl) ⟨Nat.le_of_ble_eq_true rfl, Nat.le_of_ble_eq_true rfl⟩ ⟨by show _ ≤ 601024; omega, by show _ ≤ 7293034; omega⟩ dL_law_1381 (fun H locs hP hD hS => ?_)
  refine lv_icmp_eq (tgt := 1447) hx hb dL_law_1384 (by decide) (fun c_1 => ?_) (fun c_1 => ?_)
  · skip
    obtain ⟨hP, hD⟩ := zp_5 hP hD
    refine W.widen (k := cells + 3) (n := slots + 18) (by omega) (by omega) ?_
    exact kk _ ⟨(upd (upd (upd S 0 (nI (rdn (B 0) L (nN (S 0))))) 1 0) 2 0), (zU (zU (zU F 0 ((rdZ (B 0) L (nN (S 0))).2.2)) 10 (fun _ => -1)) 11 (fun _ => 0)), TS, TF, ES, EF, (upd (upd HS 0 (nI (hNx p))) 1 (nI (min (n + 1) 4))), (kup KS (hNx p) S), (kup KF (hNx p) F), (upd (upd (upd X 1 (nI (rdn (B 0) L (nN (S 0))))) 2 ((rdZ (B 0) L (nN (S 0))).1)) 3 (nI (rdZ (B 0) L (nN (S 0))).2.1)), (zU B 1 ((rdZ (B 0) L (nN (S 0))).2.2)), (upd (upd (upd (upd V 0 (nI (min (n + 1) 4))) 1 0) 5 (nI (rwZ (G 4) L (nN (S 0))).2.1)) 6 (nI (rtm (G 4) L (nN (S 0))))), (zU (zU (zU G 0 (rpsF (G 0) ((rwZ (G 4) L (nN (S 0))).2.2) (rtm (G 4) L (nN (S 0))))) 1 (svF n (G 1) (G 0))) 5 ((rwZ (G 4) L (nN (S 0))).2.2)), OL, (hNx p), (min (n + 1) 4), L, rfl, (lwR_save hR (lw_ps hR a3).1 rfl rfl rfl rfl rfl rfl rfl)⟩ _ _ _ hP hD hS (lv_sub hl [0, 1, 2, 3, 4] rfl)
  · exact absurd ((lw_ps hR a3).2) c_1

theorem law_parse {pq : Program} (l : Launch) {eq : Env} {s : State} {mq : MethodId} {below : List Frame} {meth : Method} {cq : Code} {A : Nat → Prop} {D : va_G} {cs : zCs} {b Ls i : Nat} {xs : Nat → Int32} {H : Heap} {locs : List Loc} {ls : Array Slot} {cells slots : Nat} {Q : State → Prop} {ad kd : Nat → Nat → Nat} {a : Nat → Nat} {ou : Nat} {S : Nat → Int32} {F : Nat → Nat → Int32} {TS : Nat → Int32} {TF : Nat → Nat → Int32} {ES : Nat → Int32} {EF : Nat → Nat → Int32} {HS : Nat → Int32} {KS : Nat → Nat → Int32} {KF : Nat → Nat → Nat → Int32} {X : Nat → Int32} {B : Nat → Nat → Int32} {V : Nat → Int32} {G : Nat → Nat → Int32} {OL : Nat → Int64} {p n L : Nat} (hfl : l.stackTraces = false) (hx : pq.tables.exec = Jvm.exec) (hb : cq.code = cL_law) (hml : cq.maxLocals = 9) (hown : s.vm.findClass RL = some mq.cls) (hts : ∀ w ∈ wsG, w.before #[Value.ref b] s = true) (hXs : va_X b Ls xs s s.heap) (hbl : b < s.heap.size) (hbA : ¬ A b) (hE : zE A s) (hK : va_K D vwCl (zT cs) s) (hA : ∀ q : Nat, s.heap.size ≤ q → A q) (hLs : Ls ≤ 2560) (hi : i + 5 ≤ Ls) (hce : cells + 3 ≤ 601024) (hsl : slots + 18 ≤ 7293034) (hR : lwR S F HS KS KF X B V G p n L) (hP : va_P D vwCl ((camW ad) ++ (macW cs (ad 0) S F) ++ (macW cs (ad 1) TS TF) ++ (macW cs (ad 2) ES EF) ++ (hisW cs (ad 4) kd HS) ++ (macW cs (kd 0) (KS 0) (KF 0)) ++ (macW cs (kd 1) (KS 1) (KF 1)) ++ (macW cs (kd 2) (KS 2) (KF 2)) ++ (macW cs (kd 3) (KS 3) (KF 3)) ++ (txtW cs (ad 5) X B) ++ (refW cs a V G) ++ [(ou, .inl (cs.2.1, 1, .inr (.inl OL)))]) H) (hD : va_D A ((camW ad) ++ (macW cs (ad 0) S F) ++ (macW cs (ad 1) TS TF) ++ (macW cs (ad 2) ES EF) ++ (hisW cs (ad 4) kd HS) ++ (macW cs (kd 0) (KS 0) (KF 0)) ++ (macW cs (kd 1) (KS 1) (KF 1)) ++ (macW cs (kd 2) (KS 2) (KF 2)) ++ (macW cs (kd 3) (KS 3) (KF 3)) ++ (txtW cs (ad 5) X B) ++ (refW cs a V G) ++ [(ou, .inl (cs.2.1, 1, .inr (.inl OL)))])) (hS : va_S A s.heap H locs) (hl : lv_has ls 9 [(0, .ref b), (1, .ref (ad 3 0)), (2, .ref (a 0)), (3, .ref ou), (4, .int (nI i))]) (kk : ∀ (w : va_W), lwI cs ad kd a ou w → ∀ (H : Heap) (locs : List Loc) (ls : Array Slot), va_P D vwCl w H → va_D A w → va_S A s.heap H locs → lv_has ls 9 [(0, .ref b), (1, .ref (ad 3 0)), (2, .ref (a 0)), (3, .ref ou), (4, .int (nI i))] → W pq l eq room_1 s mq #[Value.ref b] below meth cq H locs (cells + 3) (slots + 18) Q (F0 mq 1447 ls [])) : W pq l eq room_1 s mq #[Value.ref b] below meth cq H locs cells slots Q (F0 mq 1376 ls []) := by
  rcases q_rd hR.2.2.2.2.2.2.2 hR.2.2.2.2.1 ⟨(lw_n0 hR.2.1).1, (lw_n0 hR.2.1).2.1⟩ with ⟨a1, a2, a3⟩ | ⟨a1, a2, a3⟩
  · exact law_parse_ok l hfl hx hb hml hown hts hXs hbl hbA hE hK hA hLs hi hce hsl hR a1 a2 a3 hP hD hS hl kk
  · exact law_parse_bad l hfl hx hb hml hown hts hXs hbl hbA hE hK hA hLs hi hce hsl hR a1 a2 a3 hP hD hS hl kk

set_option maxHeartbeats 4000000 in
set_option maxRecDepth 100000 in
theorem law_undo {pq : Program} (l : Launch) {eq : Env} {s : State} {mq : MethodId} {below : List Frame} {meth : Method} {cq : Code} {A : Nat → Prop} {D : va_G} {cs : zCs} {b Ls i : Nat} {xs : Nat → Int32} {H : Heap} {locs : List Loc} {ls : Array Slot} {cells slots : Nat} {Q : State → Prop} {ad kd : Nat → Nat → Nat} {a : Nat → Nat} {ou : Nat} {S : Nat → Int32} {F : Nat → Nat → Int32} {TS : Nat → Int32} {TF : Nat → Nat → Int32} {ES : Nat → Int32} {EF : Nat → Nat → Int32} {HS : Nat → Int32} {KS : Nat → Nat → Int32} {KF : Nat → Nat → Nat → Int32} {X : Nat → Int32} {B : Nat → Nat → Int32} {V : Nat → Int32} {G : Nat → Nat → Int32} {OL : Nat → Int64} {p n L : Nat} (hfl : l.stackTraces = false) (hx : pq.tables.exec = Jvm.exec) (hb : cq.code = cL_law) (hml : cq.maxLocals = 9) (hown : s.vm.findClass RL = some mq.cls) (hts : ∀ w ∈ wsG, w.before #[Value.ref b] s = true) (hXs : va_X b Ls xs s s.heap) (hbl : b < s.heap.size) (hbA : ¬ A b) (hE : zE A s) (hK : va_K D vwCl (zT cs) s) (hA : ∀ q : Nat, s.heap.size ≤ q → A q) (hLs : Ls ≤ 2560) (hi : i + 5 ≤ Ls) (hce : cells + 3 ≤ 601024) (hsl : slots + 18 ≤ 7293034) (hR : lwR S F HS KS KF X B V G p n L) (hP : va_P D vwCl ((camW ad) ++ (macW cs (ad 0) S F) ++ (macW cs (ad 1) TS TF) ++ (macW cs (ad 2) ES EF) ++ (hisW cs (ad 4) kd HS) ++ (macW cs (kd 0) (KS 0) (KF 0)) ++ (macW cs (kd 1) (KS 1) (KF 1)) ++ (macW cs (kd 2) (KS 2) (KF 2)) ++ (macW cs (kd 3) (KS 3) (KF 3)) ++ (txtW cs (ad 5) X B) ++ (refW cs a V G) ++ [(ou, .inl (cs.2.1, 1, .inr (.inl OL)))]) H) (hD : va_D A ((camW ad) ++ (macW cs (ad 0) S F) ++ (macW cs (ad 1) TS TF) ++ (macW cs (ad 2) ES EF) ++ (hisW cs (ad 4) kd HS) ++ (macW cs (kd 0) (KS 0) (KF 0)) ++ (macW cs (kd 1) (KS 1) (KF 1)) ++ (macW cs (kd 2) (KS 2) (KF 2)) ++ (macW cs (kd 3) (KS 3) (KF 3)) ++ (txtW cs (ad 5) X B) ++ (refW cs a V G) ++ [(ou, .inl (cs.2.1, 1, .inr (.inl OL)))])) (hS : va_S A s.heap H locs) (hl : lv_has ls 9 [(0, .ref b), (1, .ref (ad 3 0)), (2, .ref (a 0)), (3, .ref ou), (4, .int (nI i))]) (kk : ∀ (w : va_W), lwI cs ad kd a ou w → ∀ (H : Heap) (locs : List Loc) (ls : Array Slot), va_P D vwCl w H → va_D A w → va_S A s.heap H locs → lv_has ls 9 [(0, .ref b), (1, .ref (ad 3 0)), (2, .ref (a 0)), (3, .ref ou), (4, .int (nI i))] → W pq l eq room_1 s mq #[Value.ref b] below meth cq H locs (cells + 3) (slots + 18) Q (F0 mq 1447 ls [])) : W pq l eq room_1 s mq #[Value.ref b] below meth cq H locs cells slots Q (F0 mq 1389 ls []) := by
  obtain ⟨⟨hp, hp4, hn, hn4, hsn⟩, hag, hrg, hX0, hL, h4, hGB, htx⟩ := id hR
  have e0 : G 0 0 = S 0 := agr_s hag (by omega)
  have e8 : G 0 8 = S 8 := agr_s hag (by omega)
  have e9 : G 0 9 = S 9 := agr_s hag (by omega)
  obtain ⟨hn2, hn16, hS0⟩ := lw_n0 hag
  obtain ⟨hg4, hS8, ez⟩ := lw_n8 hag
  have h0 : G 0 0 = nI (nN (S 0)) := e0.trans hS0
  have h8 : G 0 8 = nI (nN (S 8)) := e8.trans hS8
  have hok : rOK (G 0) := r_ok hag
  have ho : ∀ j, j < nN (S 8) → ∃ o, o < 5 ∧ G 0 (51 + 3 * j + 1) = nI o := lw_ho hag
  refine lv_aload_n hx hb dL_law_1389 rfl (lv_at hl 1 rfl) ?_
  refine lv_aload_n hx hb dL_law_1390 rfl (lv_at hl 3 rfl) ?_
  by_cases w0 : ¬ nI n = 0
  · skip
    obtain ⟨hP, hD⟩ := zp_1 hP hD
    refine z_lawH ⟨hx, hb, hml, hown, hts⟩ zYw_undo w_st_yL_undo w_ml_L_167 [.ref (ad 3 0), .ref ou] [] (c_L_undo_ok l D cs hfl ad S F kd HS KS KF p n ou OL hp hp4 hn hn4 (by rw [exT_t w0])) hE hK hA hP hD hS (z_la (z_la (z_la (z_la (z_la (z_la (z_la rfl (z_lm _ _ _ _ _ _)) (z_lh _ _ _ _ _)) (z_lm _ _ _ _ _ _)) (z_lm _ _ _ _ _ _)) (z_lm _ _ _ _ _ _)) (z_lm _ _ _ _ _ _)) (z_lo _ _ _ _)) rfl hl.1 (Nat.le_of_ble_eq_true rfl) ⟨Nat.le_of_ble_eq_true rfl, Nat.le_of_ble_eq_true rfl⟩ ⟨by show _ ≤ 601024; omega, by show _ ≤ 7293034; omega⟩ dL_law_1391 (fun H locs hP hD hS => ?_)
    refine lv_istore (lv' := [(5, .int 0), (0, .ref b), (1, .ref (ad 3 0)), (2, .ref (a 0)), (3, .ref ou), (4, .int (nI i))]) hx hb dL_law_1394 hl (by decide) rfl (fun ls hl => ?_)
    refine lv_aload_n hx hb dL_law_1396 rfl (lv_at hl 3 rfl) ?_
    obtain ⟨hP, hD⟩ := zp_2 hP hD
    refine z_lawV ⟨hx, hb, hml, hown, hts⟩ zY_X8_undo w_im_yX8_undo w_se_yX8_undo w_ml_L_170 [] [] (c_X8_undo_ok l D cs a V G n hsn hn4 w0) hE hK hA hP hD hS (z_lr _ _ _ _ _ _) 8 rfl rfl rfl rfl hl.1 (Nat.le_of_ble_eq_true rfl) ⟨Nat.le_of_ble_eq_true rfl, Nat.le_of_ble_eq_true rfl⟩ ⟨by show _ ≤ 601024; omega, by show _ ≤ 7293034; omega⟩ dL_law_1397 (fun H locs hP hD hS => ?_)
    refine lv_istore (lv' := [(6, .int (nI (n - 1))), (5, .int 0), (0, .ref b), (1, .ref (ad 3 0)), (2, .ref (a 0)), (3, .ref ou), (4, .int (nI i))]) hx hb dL_law_1400 hl (by decide) rfl (fun ls hl => ?_)
    refine lv_aload_n hx hb dL_law_1402 rfl (lv_at hl 4 rfl) ?_
    refine z_lawV ⟨hx, hb, hml, hown, hts⟩ zY_X8_thrown w_im_yX8_thrown w_se_yX8_thrown w_ml_L_86 [] [] (c_X8_thrown l D cs a ((upd (upd V 0 (nI (n - 1))) 1 0)) ((zU G 0 (fun j => (G 1) (159 * (n - 1) + j))))) hE hK hA hP hD hS (z_lr _ _ _ _ _ _) 8 rfl rfl rfl rfl hl.1 (Nat.le_of_ble_eq_true rfl) ⟨Nat.le_of_ble_eq_true rfl, Nat.le_of_ble_eq_true rfl⟩ ⟨by show _ ≤ 601024; omega, by show _ ≤ 7293034; omega⟩ dL_law_1403 (fun H locs hP hD hS => ?_)
    refine z_top (y := 0) rfl ?_
    refine lv_iload hx hb dL_law_1406 (lv_at hl 1 rfl) ?_
    refine lv_icmp_eq (tgt := 1413) hx hb dL_law_1408 (by decide) (fun c_1 => ?_) (fun c_1 => ?_)
    · skip
      refine lv_iload hx hb dL_law_1413 (lv_at hl 1 rfl) ?_
      refine lv_if_ne (tgt := 1430) hx hb dL_law_1415 (by decide) (fun c_2 => ?_) (fun c_2 => ?_)
      · skip
        first | exact absurd c_2 (by decide) | exact absurd (by decide) c_2 | exact absurd rfl c_2
      · skip
        refine lv_aload_n hx hb dL_law_1418 rfl (lv_at hl 5 rfl) ?_
        refine lv_iconst (v := 0) hx hb dL_law_1419 (by decide) ?_
        obtain ⟨hP, hD⟩ := zp_3 hP hD
        refine z_lout (q0 := 0) (v := (nI (n - 1)).toInt64) hx hb hK hP rfl dL_law_1420 rfl ?_
        refine lv_iload hx hb dL_law_1421 (lv_at hl 0 rfl) ?_
        refine lv_i2l (v := (nI (n - 1)).toInt64) hx hb dL_law_1423 rfl ?_
        refine z_lcmp_eq (tgt := 1430) hx hb dL_law_1424 dL_law_1425 (by decide) (fun c_3 => ?_) (fun c_3 => ?_)
        · skip
          refine lv_goto (tgt := 1447) hx hb dL_law_1430 (by decide) ?_
          obtain ⟨hP, hD⟩ := zp_4 hP hD
          refine W.widen (k := cells + 3) (n := slots + 18) (by omega) (by omega) ?_
          exact kk _ ⟨(KS p), (KF p), TS, TF, ES, EF, (upd (upd HS 0 (nI (hPv p))) 1 (nI (n - 1))), KS, KF, X, B, (upd (upd V 0 (nI (n - 1))) 1 0), (zU G 0 (fun j => (G 1) (159 * (n - 1) + j))), (vp_updL OL 0 (nI (n - 1)).toInt64), (hPv p), (n - 1), L, rfl, (lwR_undo hR w0 rfl rfl rfl rfl rfl)⟩ _ _ _ hP hD hS (lv_sub hl [2, 3, 4, 5, 6] rfl)
        · exact absurd (congrArg Int32.toInt64 (rfl)) c_3
    · skip
      first | exact absurd c_1 (by decide) | exact absurd (by decide) c_1 | exact absurd rfl c_1
  · skip
    obtain ⟨hP, hD⟩ := zp_1 hP hD
    refine z_lawH ⟨hx, hb, hml, hown, hts⟩ zYw_undo w_st_yL_undo w_ml_L_167 [.ref (ad 3 0), .ref ou] [] (c_L_undo_e1 l D cs hfl ad S F kd HS KS KF p n ou OL hp hp4 hn hn4 (by rw [exT_f w0])) hE hK hA hP hD hS (z_la (z_la (z_la (z_la (z_la (z_la (z_la rfl (z_lm _ _ _ _ _ _)) (z_lh _ _ _ _ _)) (z_lm _ _ _ _ _ _)) (z_lm _ _ _ _ _ _)) (z_lm _ _ _ _ _ _)) (z_lm _ _ _ _ _ _)) (z_lo _ _ _ _)) rfl hl.1 (Nat.le_of_ble_eq_true rfl) ⟨Nat.le_of_ble_eq_true rfl, Nat.le_of_ble_eq_true rfl⟩ ⟨by show _ ≤ 601024; omega, by show _ ≤ 7293034; omega⟩ dL_law_1391 (fun H locs hP hD hS => ?_)
    refine lv_istore (lv' := [(5, .int 1), (0, .ref b), (1, .ref (ad 3 0)), (2, .ref (a 0)), (3, .ref ou), (4, .int (nI i))]) hx hb dL_law_1394 hl (by decide) rfl (fun ls hl => ?_)
    refine lv_aload_n hx hb dL_law_1396 rfl (lv_at hl 3 rfl) ?_
    obtain ⟨hP, hD⟩ := zp_2 hP hD
    refine z_lawV ⟨hx, hb, hml, hown, hts⟩ zY_X8_undo w_im_yX8_undo w_se_yX8_undo w_ml_L_170 [] [] (c_X8_undo_t1 l D cs a V G n hsn hn4 w0) hE hK hA hP hD hS (z_lr _ _ _ _ _ _) 8 rfl rfl rfl rfl hl.1 (Nat.le_of_ble_eq_true rfl) ⟨Nat.le_of_ble_eq_true rfl, Nat.le_of_ble_eq_true rfl⟩ ⟨by show _ ≤ 601024; omega, by show _ ≤ 7293034; omega⟩ dL_law_1397 (fun H locs hP hD hS => ?_)
    refine lv_istore (lv' := [(6, .int 0), (5, .int 1), (0, .ref b), (1, .ref (ad 3 0)), (2, .ref (a 0)), (3, .ref ou), (4, .int (nI i))]) hx hb dL_law_1400 hl (by decide) rfl (fun ls hl => ?_)
    refine lv_aload_n hx hb dL_law_1402 rfl (lv_at hl 4 rfl) ?_
    refine z_lawV ⟨hx, hb, hml, hown, hts⟩ zY_X8_thrown w_im_yX8_thrown w_se_yX8_thrown w_ml_L_86 [] [] (c_X8_thrown l D cs a ((upd V 1 1)) G) hE hK hA hP hD hS (z_lr _ _ _ _ _ _) 8 rfl rfl rfl rfl hl.1 (Nat.le_of_ble_eq_true rfl) ⟨Nat.le_of_ble_eq_true rfl, Nat.le_of_ble_eq_true rfl⟩ ⟨by show _ ≤ 601024; omega, by show _ ≤ 7293034; omega⟩ dL_law_1403 (fun H locs hP hD hS => ?_)
    refine z_top (y := 1) rfl ?_
    refine lv_iload hx hb dL_law_1406 (lv_at hl 1 rfl) ?_
    refine lv_icmp_eq (tgt := 1413) hx hb dL_law_1408 (by decide) (fun c_4 => ?_) (fun c_4 => ?_)
    · skip
      refine lv_iload hx hb dL_law_1413 (lv_at hl 1 rfl) ?_
      refine lv_if_ne (tgt := 1430) hx hb dL_law_1415 (by decide) (fun c_5 => ?_) (fun c_5 => ?_)
      · skip
        refine lv_goto (tgt := 1447) hx hb dL_law_1430 (by decide) ?_
        obtain ⟨hP, hD⟩ := zp_5 hP hD
        refine W.widen (k := cells + 3) (n := slots + 18) (by omega) (by omega) ?_
        exact kk _ ⟨S, F, TS, TF, ES, EF, HS, KS, KF, X, B, (upd V 1 1), G, OL, p, n, L, rfl, (lwR_v hR rfl rfl)⟩ _ _ _ hP hD hS (lv_sub hl [2, 3, 4, 5, 6] rfl)
      · skip
        first | exact absurd c_5 (by decide) | exact absurd (by decide) c_5 | exact absurd rfl c_5
    · skip
      first | exact absurd c_4 (by decide) | exact absurd (by decide) c_4 | exact absurd rfl c_4

set_option maxHeartbeats 4000000 in
set_option maxRecDepth 100000 in
theorem law_digest {pq : Program} (l : Launch) {eq : Env} {s : State} {mq : MethodId} {below : List Frame} {meth : Method} {cq : Code} {A : Nat → Prop} {D : va_G} {cs : zCs} {b Ls i : Nat} {xs : Nat → Int32} {H : Heap} {locs : List Loc} {ls : Array Slot} {cells slots : Nat} {Q : State → Prop} {ad kd : Nat → Nat → Nat} {a : Nat → Nat} {ou : Nat} {S : Nat → Int32} {F : Nat → Nat → Int32} {TS : Nat → Int32} {TF : Nat → Nat → Int32} {ES : Nat → Int32} {EF : Nat → Nat → Int32} {HS : Nat → Int32} {KS : Nat → Nat → Int32} {KF : Nat → Nat → Nat → Int32} {X : Nat → Int32} {B : Nat → Nat → Int32} {V : Nat → Int32} {G : Nat → Nat → Int32} {OL : Nat → Int64} {p n L : Nat} (hfl : l.stackTraces = false) (hx : pq.tables.exec = Jvm.exec) (hb : cq.code = cL_law) (hml : cq.maxLocals = 9) (hown : s.vm.findClass RL = some mq.cls) (hts : ∀ w ∈ wsG, w.before #[Value.ref b] s = true) (hXs : va_X b Ls xs s s.heap) (hbl : b < s.heap.size) (hbA : ¬ A b) (hE : zE A s) (hK : va_K D vwCl (zT cs) s) (hA : ∀ q : Nat, s.heap.size ≤ q → A q) (hLs : Ls ≤ 2560) (hi : i + 5 ≤ Ls) (hce : cells + 3 ≤ 601024) (hsl : slots + 18 ≤ 7293034) (hR : lwR S F HS KS KF X B V G p n L) (hP : va_P D vwCl ((camW ad) ++ (macW cs (ad 0) S F) ++ (macW cs (ad 1) TS TF) ++ (macW cs (ad 2) ES EF) ++ (hisW cs (ad 4) kd HS) ++ (macW cs (kd 0) (KS 0) (KF 0)) ++ (macW cs (kd 1) (KS 1) (KF 1)) ++ (macW cs (kd 2) (KS 2) (KF 2)) ++ (macW cs (kd 3) (KS 3) (KF 3)) ++ (txtW cs (ad 5) X B) ++ (refW cs a V G) ++ [(ou, .inl (cs.2.1, 1, .inr (.inl OL)))]) H) (hD : va_D A ((camW ad) ++ (macW cs (ad 0) S F) ++ (macW cs (ad 1) TS TF) ++ (macW cs (ad 2) ES EF) ++ (hisW cs (ad 4) kd HS) ++ (macW cs (kd 0) (KS 0) (KF 0)) ++ (macW cs (kd 1) (KS 1) (KF 1)) ++ (macW cs (kd 2) (KS 2) (KF 2)) ++ (macW cs (kd 3) (KS 3) (KF 3)) ++ (txtW cs (ad 5) X B) ++ (refW cs a V G) ++ [(ou, .inl (cs.2.1, 1, .inr (.inl OL)))])) (hS : va_S A s.heap H locs) (hl : lv_has ls 9 [(0, .ref b), (1, .ref (ad 3 0)), (2, .ref (a 0)), (3, .ref ou), (4, .int (nI i))]) (kk : ∀ (w : va_W), lwI cs ad kd a ou w → ∀ (H : Heap) (locs : List Loc) (ls : Array Slot), va_P D vwCl w H → va_D A w → va_S A s.heap H locs → lv_has ls 9 [(0, .ref b), (1, .ref (ad 3 0)), (2, .ref (a 0)), (3, .ref ou), (4, .int (nI i))] → W pq l eq room_1 s mq #[Value.ref b] below meth cq H locs (cells + 3) (slots + 18) Q (F0 mq 1447 ls [])) : W pq l eq room_1 s mq #[Value.ref b] below meth cq H locs cells slots Q (F0 mq 1433 ls []) := by
  obtain ⟨⟨hp, hp4, hn, hn4, hsn⟩, hag, hrg, hX0, hL, h4, hGB, htx⟩ := id hR
  have e0 : G 0 0 = S 0 := agr_s hag (by omega)
  have e8 : G 0 8 = S 8 := agr_s hag (by omega)
  have e9 : G 0 9 = S 9 := agr_s hag (by omega)
  obtain ⟨hn2, hn16, hS0⟩ := lw_n0 hag
  obtain ⟨hg4, hS8, ez⟩ := lw_n8 hag
  have h0 : G 0 0 = nI (nN (S 0)) := e0.trans hS0
  have h8 : G 0 8 = nI (nN (S 8)) := e8.trans hS8
  have hok : rOK (G 0) := r_ok hag
  have ho : ∀ j, j < nN (S 8) → ∃ o, o < 5 ∧ G 0 (51 + 3 * j + 1) = nI o := lw_ho hag
  refine lv_aload_n hx hb dL_law_1433 rfl (lv_at hl 1 rfl) ?_
  obtain ⟨hP, hD⟩ := zp_24 hP hD
  refine z_lawV ⟨hx, hb, hml, hown, hts⟩ zY_X7_digest w_im_yX7_digest w_se_yX7_digest w_ml_L_171 [] [] (c_X7_digest l D cs ad S F TS TF HS X B kd (nN (S 0)) hS0 hn16) hE hK hA hP hD hS (z_la (z_la (z_la (z_la rfl (z_lm _ _ _ _ _ _)) (z_lm _ _ _ _ _ _)) (z_lh _ _ _ _ _)) (z_lt _ _ _ _ _ _)) 7 rfl rfl rfl rfl hl.1 (Nat.le_of_ble_eq_true rfl) ⟨Nat.le_of_ble_eq_true rfl, Nat.le_of_ble_eq_true rfl⟩ ⟨by show _ ≤ 601024; omega, by show _ ≤ 7293034; omega⟩ dL_law_1434 (fun H locs hP hD hS => ?_)
  refine lv_aload_n hx hb dL_law_1437 rfl (lv_at hl 2 rfl) ?_
  obtain ⟨hP, hD⟩ := zp_25 hP hD
  refine z_lawV ⟨hx, hb, hml, hown, hts⟩ zY_X8_digest w_im_yX8_digest w_se_yX8_digest w_ml_L_175 [] [.long (dgst S F X HS (nN (S 0)))] (c_X8_digest l D cs a V G (nN (S 0)) (nN (S 8)) hok h0 hn16 h8 hg4 ho) hE hK hA hP hD hS (z_lr _ _ _ _ _ _) 8 rfl rfl rfl rfl hl.1 (Nat.le_of_ble_eq_true rfl) ⟨Nat.le_of_ble_eq_true rfl, Nat.le_of_ble_eq_true rfl⟩ ⟨by show _ ≤ 601024; omega, by show _ ≤ 7293034; omega⟩ dL_law_1438 (fun H locs hP hD hS => ?_)
  refine z_lcmp_eq (tgt := 1447) hx hb dL_law_1441 dL_law_1442 (by decide) (fun c_1 => ?_) (fun c_1 => ?_)
  · skip
    obtain ⟨hP, hD⟩ := zp_5 hP hD
    refine W.widen (k := cells + 3) (n := slots + 18) (by omega) (by omega) ?_
    exact kk _ ⟨S, F, ((tuP 1000 (S, F)).1), ((tuP 1000 (S, F)).2), ES, EF, HS, KS, KF, X, B, (upd (upd (upd V 1 0) 2 ((rpsQ 1000 ((G 0), V 2, V 3)).2.1)) 3 ((rpsQ 1000 ((G 0), V 2, V 3)).2.2)), (zU (zU G 0 (G 0)) 2 (G 0)), OL, p, n, L, rfl, (lwR_g hR rfl rfl rfl rfl rfl rfl rfl)⟩ _ _ _ hP hD hS (lv_sub hl [0, 1, 2, 3, 4] rfl)
  · exact absurd (lw_dg hR (V 2, V 3)).symm c_1
