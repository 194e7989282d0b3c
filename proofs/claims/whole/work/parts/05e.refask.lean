def rtoT (c : Nat) : Nat → Nat → zTq → Nat × zTq
  | 0, t, q => (t, q)
  | k + 1, t, q => if 100 ≤ q.1 (21 + 6 * c) then (t, q) else rtoT c k (t + 1) (rTq q)
def rtoA (c : Nat) (R : Nat × zTq) : Int32 := if R.2.1 (21 + 6 * c) = 100 then nI R.1 else -1
def rpsT (c0 : Int32) : Nat → Nat → zTq → Nat × zTq
  | 0, t, q => (t, q)
  | k + 1, t, q => if q.1 10 = c0 then rpsT c0 k (t + 1) (rTq q) else (t, q)
def rpsR (M : Nat) (q : zTq) : Nat := if (rpsT (q.1 10) M 0 q).2.1 10 = q.1 10 then M + 1 else (rpsT (q.1 10) M 0 q).1
def rpsQ (M : Nat) (q : zTq) : zTq := (rpsT (q.1 10) M 0 q).2
theorem rpsT_le {c0 : Int32} : ∀ {k t : Nat} {q : zTq}, (rpsT c0 k t q).1 ≤ t + k
  | 0, _, _ => Nat.le_refl _
  | k + 1, t, q => by
    unfold rpsT
    split
    · exact Nat.le_trans rpsT_le (by omega)
    · show t ≤ t + (k + 1); omega
theorem rpsT_ok {c0 : Int32} : ∀ {k t : Nat} {q : zTq}, rOK q.1 → rOK (rpsT c0 k t q).2.1
  | 0, _, _, h => h
  | k + 1, t, q, h => by
    unfold rpsT
    split
    · exact rpsT_ok (rOK_tk h)
    · exact h
theorem rpsR_le {M : Nat} {q : zTq} : rpsR M q ≤ M + 1 := by
  unfold rpsR
  split
  · exact Nat.le_refl _
  · exact Nat.le_trans rpsT_le (by omega)
def rtcR (q : zTq) : Int32 := if nI (rpsR 1000 q) ≤ 1000 then nI (rpsR 1000 q) else -1
def rlcN (T : Nat) (f : Nat → Int32) : Nat → Int32 → Int32 × Int32 → Int32 × (Int32 × Int32)
  | 0, x, w => (x, w)
  | z + 1, x, w => rlcN T f z (if (rTi (upd f 7 (nI (10 * z)), w.1, w.2) T).1 11 = f 11 then nI (10 * z) else x) (rTi (upd f 7 (nI (10 * z)), w.1, w.2) T).2
theorem lc_step (z : Nat) : nI (10 * (z + 1)) + (-10) = nI (10 * z) := by
  rw [show 10 * (z + 1) = 10 * z + 10 from rfl, ← nI_add, Int32.add_assoc, show nI 10 + (-10) = 0 by decide, Int32.add_zero]
def z5N (f : Nat → Int32) : Nat → Nat → Int32
  | 0 => f
  | i + 1 => upd (z5N f i) (21 + 6 * i) 0
def rdz0 (f : Nat → Int32) (d : Nat) : Nat → Int32 := z5N (upd (upd (upd f 3 (nI d)) 1 0) 2 0) 5
theorem rOK_z5 {f : Nat → Int32} (h : rOK f) : ∀ {i : Nat}, rOK (z5N f i)
  | 0 => h
  | i + 1 => rOK_upd (rOK_z5 h) (by omega) (by omega) (by omega) (by intros; omega) (by intros; omega)
theorem rOK_d0 {f : Nat → Int32} {d : Nat} (h : rOK f) : rOK (rdz0 f d) :=
  rOK_z5 (rOK_upd (rOK_1 (a := 0) (rOK_upd h (by omega) (by omega) (by omega) (by intros; omega) (by intros; omega)) (by omega)) (by omega) (by omega) (by omega) (by intros; omega) (by intros; omega))
def rdsT (c0 : Int32) : Nat → zTq → Int32 × zTq
  | 0, q => (bI (c0 < q.1 10), q)
  | k + 1, q => if q.1 10 = c0 then (if rWent (rT0 q.1) ∧ ¬ rAllN (rT0 q.1) 5 then (0, rTq q) else rdsT c0 k (rTq q)) else (bI (c0 < q.1 10), q)
def rdsA (f : Nat → Int32) (d : Nat) (w : Int32 × Int32) : Int32 × zTq := rdsT (rdz0 f d 10) 1000 (rdz0 f d, w.1, w.2)
def rsdN (f : Nat → Int32) : Nat → Nat → Int32 → Int32 × Int32 → Int32 × (Int32 × Int32)
  | 0, _, x, w => (x, w)
  | k + 1, d, x, w => if x = -1 then rsdN f k (d + 1) (if (rdsA f d w).1 = 0 then -1 else nI d) (rdsA f d w).2.2 else (x, w)
def rbh (f : Nat → Int32) (i : Nat) : Int32 := if i = 0 then f 1 else if i = 1 then f 2 else if i = 2 then f 5 else f (21 + 6 * (i - 3))
abbrev rrB (q : zTq) : zTq := rpsQ (2000 - rpsR 2000 q) (rpsQ 2000 q)
def rrV (b : Int32) (f g : Nat → Int32) : Nat → Int32
  | 0 => b
  | i + 1 => if rrV b f g i = 0 then 0 else bI (rbh f i = rbh g i)
theorem rrV_0 {f g : Nat → Int32} : ∀ {i : Nat}, rrV 0 f g i = 0
  | 0 => rfl
  | i + 1 => if_pos rrV_0
theorem rrV_b {b : Int32} {f g : Nat → Int32} {i : Nat} : rrV b f g (i + 1) = bI (rrV b f g (i + 1) = 1) := by
  have h : rrV b f g (i + 1) = 0 ∨ rrV b f g (i + 1) = 1 := by
    unfold rrV bI
    by_cases h1 : rrV b f g i = 0
    · rw [if_pos h1]; exact Or.inl rfl
    · rw [if_neg h1]
      by_cases h2 : rbh f i = rbh g i
      · rw [if_pos h2]; exact Or.inr rfl
      · rw [if_neg h2]; exact Or.inl rfl
  cases h with
  | inl h => rw [h]; exact (bI_f (by decide)).symm
  | inr h => rw [h]; exact (bI_t rfl).symm
def rrpR (q : zTq) : Int32 := if 2000 < nI (rpsR 2000 q) then 0 else bI (rrV (bI (¬ nI (2000 - rpsR 2000 q) < nI (rpsR (2000 - rpsR 2000 q) (rpsQ 2000 q)))) (rpsQ 2000 q).1 (rrB q).1 8 = 1)
def rrpW (q : zTq) : Int32 × Int32 := if 2000 < nI (rpsR 2000 q) then (rpsQ 2000 q).2 else (rrB q).2
set_option maxHeartbeats 4000000 in
set_option maxRecDepth 100000 in
theorem c_X8_ticksToOut_t1 (l : Launch) (D : va_G) (cs : zCs) (a : Nat → Nat) (V : Nat → Int32) (G : Nat → Nat → Int32) (cy : Int32) (hok : rOK (G 0)) (hbad : ¬ (0 ≤ cy ∧ cy ≤ 4)) : zM l D cs yX8_ticksToOut cX8_ticksToOut 4 (some FieldType.int) 5 112 0 0 [.ref (a 0), .int cy] (refW cs a V G) (some (.int 0)) (refW cs a (upd V 1 1) G) := by
  refine zM.of (own := RX8) (by decide) (Nat.le_of_ble_eq_true rfl) rfl ?_
  intro pq eq s mq below meth cq A ls hx hb hr hml hown hts hlk hnm hE hK hA hP hD hS hl
  have hl : lv_has ls 4 [(0, .ref (a 0)), (1, .int cy)] := hl
  refine lv_iload_n hx hb dX8_ticksToOut_0 rfl (lv_at hl 1 rfl) ?_
  refine z_callS (wn := (refW cs a V G)) ⟨hx, hb, hml, hown, hts⟩ zY_X8_isCylinder w_st_yX8_isCylinder w_ml_X8_48 [.int cy] [] (c_X8_isCylinder l D cs cy) hE hK hA hP hD hS [] rfl rfl rfl z_ins_nil rfl hl.1 (Nat.le_of_ble_eq_true rfl) ⟨Nat.le_of_ble_eq_true rfl, Nat.le_of_ble_eq_true rfl⟩ ⟨Nat.le_of_ble_eq_true rfl, Nat.le_of_ble_eq_true rfl⟩ dX8_ticksToOut_1 (fun H locs hP hD hS => ?_)
  refine lv_if_ne (tgt := 13) hx hb dX8_ticksToOut_4 (by decide) (fun c_1 => ?_) (fun c_1 => ?_)
  · skip
    have c_1 := bI_n0 c_1
    exact absurd c_1 hbad
  · skip
    have c_1 := bI_0.mp c_1
    refine lv_aload_n hx hb dX8_ticksToOut_7 rfl (lv_at hl 0 rfl) ?_
    refine lv_iconst (v := 1) hx hb dX8_ticksToOut_8 (by decide) ?_
    refine z_callV (wn := (refW cs a (upd V 1 1) G)) ⟨hx, hb, hml, hown, hts⟩ zY_X8_throwing w_im_yX8_throwing w_se_yX8_throwing w_ml_X8_55 [.int 1] [] (c_X8_throwing l D cs a V G 1) hE hK hA hP hD hS [0, 1, 2, 3, 4, 5, 6] rfl rfl rfl rfl 8 rfl rfl rfl rfl hl.1 (Nat.le_of_ble_eq_true rfl) ⟨Nat.le_of_ble_eq_true rfl, Nat.le_of_ble_eq_true rfl⟩ ⟨Nat.le_of_ble_eq_true rfl, Nat.le_of_ble_eq_true rfl⟩ dX8_ticksToOut_9 (fun H locs hP hD hS => ?_)
    exact z_iret hx hb hr hlk hK hP hD hS dX8_ticksToOut_12 rfl rfl

set_option maxHeartbeats 4000000 in
set_option maxRecDepth 100000 in
theorem c_X8_ticksToOut_ok (l : Launch) (D : va_G) (cs : zCs) (a : Nat → Nat) (V : Nat → Int32) (G : Nat → Nat → Int32) (cy : Int32) (hok : rOK (G 0)) (q0 : 0 ≤ cy ∧ cy ≤ 4) : zM l D cs yX8_ticksToOut cX8_ticksToOut 4 (some FieldType.int) 5 112 0 0 [.ref (a 0), .int cy] (refW cs a V G) (some (.int (rtoA (nN cy) (rtoT (nN cy) 500 0 ((G 0), V 2, V 3))))) (refW cs a (upd (upd (upd V 1 0) 2 ((rtoT (nN cy) 500 0 ((G 0), V 2, V 3)).2.2.1)) 3 ((rtoT (nN cy) 500 0 ((G 0), V 2, V 3)).2.2.2)) (zU (zU G 0 (G 0)) 2 (G 0))) := by
  refine zM.of (own := RX8) (by decide) (Nat.le_of_ble_eq_true rfl) rfl ?_
  intro pq eq s mq below meth cq A ls hx hb hr hml hown hts hlk hnm hE hK hA hP hD hS hl
  have hl : lv_has ls 4 [(0, .ref (a 0)), (1, .int cy)] := hl
  refine lv_iload_n hx hb dX8_ticksToOut_0 rfl (lv_at hl 1 rfl) ?_
  refine z_callS (wn := (refW cs a V G)) ⟨hx, hb, hml, hown, hts⟩ zY_X8_isCylinder w_st_yX8_isCylinder w_ml_X8_48 [.int cy] [] (c_X8_isCylinder l D cs cy) hE hK hA hP hD hS [] rfl rfl rfl z_ins_nil rfl hl.1 (Nat.le_of_ble_eq_true rfl) ⟨Nat.le_of_ble_eq_true rfl, Nat.le_of_ble_eq_true rfl⟩ ⟨Nat.le_of_ble_eq_true rfl, Nat.le_of_ble_eq_true rfl⟩ dX8_ticksToOut_1 (fun H locs hP hD hS => ?_)
  refine lv_if_ne (tgt := 13) hx hb dX8_ticksToOut_4 (by decide) (fun c_1 => ?_) (fun c_1 => ?_)
  · skip
    have c_1 := bI_n0 c_1
    obtain ⟨c, hc, rfl⟩ := z_nat4 c_1
    have hNc := nN_nI (k := c) (by omega)
    refine lv_aload_n hx hb dX8_ticksToOut_13 rfl (lv_at hl 0 rfl) ?_
    refine z_callV (wn := (refW cs a V (zU G 2 (G 0)))) ⟨hx, hb, hml, hown, hts⟩ zY_X8_laysAside w_im_yX8_laysAside w_se_yX8_laysAside w_ml_X8_134 [] [] (c_X8_laysAside l D cs a V G) hE hK hA hP hD hS [0, 1, 2, 3, 4, 5, 6] rfl rfl rfl rfl 8 rfl rfl rfl rfl hl.1 (Nat.le_of_ble_eq_true rfl) ⟨Nat.le_of_ble_eq_true rfl, Nat.le_of_ble_eq_true rfl⟩ ⟨Nat.le_of_ble_eq_true rfl, Nat.le_of_ble_eq_true rfl⟩ dX8_ticksToOut_14 (fun H locs hP hD hS => ?_)
    refine lv_iconst (v := 0) hx hb dX8_ticksToOut_17 (by decide) ?_
    refine lv_istore_n (lv' := [(2, .int 0), (0, .ref (a 0)), (1, .int (nI c))]) hx hb dX8_ticksToOut_18 rfl hl (by decide) rfl (fun ls hl => ?_)
    have lp19 : ∀ (k : Nat) (t : Nat) (q : zTq), (t + k = 500) → (rtoT c k t q = rtoT c 500 0 ((G 0), V 2, V 3)) → (rOK q.1) → ∀ (H : Heap) (locs : List Loc) (ls : Array Slot), va_P D vwCl (refW cs a (upd (upd V 2 q.2.1) 3 q.2.2) (zU (zU G 0 q.1) 2 (G 0))) H → va_D A (refW cs a (upd (upd V 2 q.2.1) 3 q.2.2) (zU (zU G 0 q.1) 2 (G 0))) → va_S A s.heap H locs → lv_has ls 4 [(0, .ref (a 0)), (1, .int (nI c)), (2, .int (nI t))] → W pq l eq ({ frames := 5, cells := 0, slots := 0, locals := 112 } : Room) s mq ([.ref (a 0), .int (nI c)] : List Value).toArray below meth cq H locs 0 0 (MQ below (zQ D cs (some (.int (rtoA (nN (nI c)) (rtoT (nN (nI c)) 500 0 ((G 0), V 2, V 3))))) (refW cs a (upd (upd (upd V 1 0) 2 ((rtoT (nN (nI c)) 500 0 ((G 0), V 2, V 3)).2.2.1)) 3 ((rtoT (nN (nI c)) 500 0 ((G 0), V 2, V 3)).2.2.2)) (zU (zU G 0 (G 0)) 2 (G 0))) A) ([.ref (a 0), .int (nI c)] : List Value).toArray s 0 0 A) (F0 mq 19 ls []) := by
      intro k
      induction k with
      | zero =>
        intro t q h1 h2 hq H locs ls hP hD hS hl
        refine lv_iload_n hx hb dX8_ticksToOut_19 rfl (lv_at hl 2 rfl) ?_
        refine lv_sipush (v := 500) hx hb dX8_ticksToOut_20 (by decide) ?_
        refine lv_icmp_ge (tgt := 46) hx hb dX8_ticksToOut_23 (by decide) (fun c_2 => ?_) (fun c_2 => ?_)
        · skip
          have e9 : rtoT c 500 0 ((G 0), V 2, V 3) = (t, q) := by rw [← h2]; exact rfl
          refine lv_aload_n hx hb dX8_ticksToOut_46 rfl (lv_at hl 0 rfl) ?_
          refine lv_iload_n hx hb dX8_ticksToOut_47 rfl (lv_at hl 1 rfl) ?_
          refine z_callV (wn := (refW cs a (upd (upd V 2 q.2.1) 3 q.2.2) (zU (zU G 0 q.1) 2 (G 0)))) ⟨hx, hb, hml, hown, hts⟩ zY_X8_out w_im_yX8_out w_se_yX8_out w_ml_X8_76 [.int (nI c)] [] (c_X8_out l D cs a (upd (upd V 2 q.2.1) 3 q.2.2) (zU (zU G 0 q.1) 2 (G 0)) c hc) hE hK hA hP hD hS [0, 1, 2, 3, 4, 5, 6] rfl rfl rfl rfl 8 rfl rfl rfl rfl hl.1 (Nat.le_of_ble_eq_true rfl) ⟨Nat.le_of_ble_eq_true rfl, Nat.le_of_ble_eq_true rfl⟩ ⟨Nat.le_of_ble_eq_true rfl, Nat.le_of_ble_eq_true rfl⟩ dX8_ticksToOut_48 (fun H locs hP hD hS => ?_)
          refine lv_bipush (v := 100) hx hb dX8_ticksToOut_51 (by decide) ?_
          refine lv_icmp_ne (tgt := 60) hx hb dX8_ticksToOut_53 (by decide) (fun c_3 => ?_) (fun c_3 => ?_)
          · skip
            refine lv_iconst (v := (-1)) hx hb dX8_ticksToOut_60 (by decide) ?_
            refine lv_istore_n (lv' := [(3, .int (-1)), (0, .ref (a 0)), (1, .int (nI c)), (2, .int (nI t))]) hx hb dX8_ticksToOut_61 rfl hl (by decide) rfl (fun ls hl => ?_)
            refine lv_aload_n hx hb dX8_ticksToOut_62 rfl (lv_at hl 1 rfl) ?_
            refine z_callV (wn := (refW cs a (upd (upd V 2 q.2.1) 3 q.2.2) (zU (zU G 0 (G 0)) 2 (G 0)))) ⟨hx, hb, hml, hown, hts⟩ zY_X8_takesBack w_im_yX8_takesBack w_se_yX8_takesBack w_ml_X8_137 [] [] (c_X8_takesBack l D cs a (upd (upd V 2 q.2.1) 3 q.2.2) (zU (zU G 0 q.1) 2 (G 0))) hE hK hA hP hD hS [0, 1, 2, 3, 4, 5, 6] rfl rfl rfl rfl 8 rfl rfl rfl rfl hl.1 (Nat.le_of_ble_eq_true rfl) ⟨Nat.le_of_ble_eq_true rfl, Nat.le_of_ble_eq_true rfl⟩ ⟨Nat.le_of_ble_eq_true rfl, Nat.le_of_ble_eq_true rfl⟩ dX8_ticksToOut_63 (fun H locs hP hD hS => ?_)
            refine lv_aload_n hx hb dX8_ticksToOut_66 rfl (lv_at hl 1 rfl) ?_
            refine lv_iload_n hx hb dX8_ticksToOut_67 rfl (lv_at hl 0 rfl) ?_
            refine z_callV (wn := (refW cs a (upd (upd (upd V 1 0) 2 q.2.1) 3 q.2.2) (zU (zU G 0 (G 0)) 2 (G 0)))) ⟨hx, hb, hml, hown, hts⟩ zY_X8_fine w_im_yX8_fine w_se_yX8_fine w_ml_X8_65 [.int (-1)] [] (c_X8_fine l D cs a (upd (upd V 2 q.2.1) 3 q.2.2) (zU (zU G 0 (G 0)) 2 (G 0)) (-1)) hE hK hA hP hD hS [0, 1, 2, 3, 4, 5, 6] rfl rfl rfl rfl 8 rfl rfl rfl rfl hl.1 (Nat.le_of_ble_eq_true rfl) ⟨Nat.le_of_ble_eq_true rfl, Nat.le_of_ble_eq_true rfl⟩ ⟨Nat.le_of_ble_eq_true rfl, Nat.le_of_ble_eq_true rfl⟩ dX8_ticksToOut_68 (fun H locs hP hD hS => ?_)
            exact z_iret hx hb hr hlk hK hP hD hS dX8_ticksToOut_71 (by rw [hNc, e9]; exact congrArg (fun z => some (Value.int z)) (if_neg c_3).symm) (by rw [hNc, e9])
          · skip
            refine lv_iload_n hx hb dX8_ticksToOut_56 rfl (lv_at hl 2 rfl) ?_
            refine lv_goto (tgt := 61) hx hb dX8_ticksToOut_57 (by decide) ?_
            refine lv_istore_n (lv' := [(3, .int (nI t)), (0, .ref (a 0)), (1, .int (nI c)), (2, .int (nI t))]) hx hb dX8_ticksToOut_61 rfl hl (by decide) rfl (fun ls hl => ?_)
            refine lv_aload_n hx hb dX8_ticksToOut_62 rfl (lv_at hl 1 rfl) ?_
            refine z_callV (wn := (refW cs a (upd (upd V 2 q.2.1) 3 q.2.2) (zU (zU G 0 (G 0)) 2 (G 0)))) ⟨hx, hb, hml, hown, hts⟩ zY_X8_takesBack w_im_yX8_takesBack w_se_yX8_takesBack w_ml_X8_137 [] [] (c_X8_takesBack l D cs a (upd (upd V 2 q.2.1) 3 q.2.2) (zU (zU G 0 q.1) 2 (G 0))) hE hK hA hP hD hS [0, 1, 2, 3, 4, 5, 6] rfl rfl rfl rfl 8 rfl rfl rfl rfl hl.1 (Nat.le_of_ble_eq_true rfl) ⟨Nat.le_of_ble_eq_true rfl, Nat.le_of_ble_eq_true rfl⟩ ⟨Nat.le_of_ble_eq_true rfl, Nat.le_of_ble_eq_true rfl⟩ dX8_ticksToOut_63 (fun H locs hP hD hS => ?_)
            refine lv_aload_n hx hb dX8_ticksToOut_66 rfl (lv_at hl 1 rfl) ?_
            refine lv_iload_n hx hb dX8_ticksToOut_67 rfl (lv_at hl 0 rfl) ?_
            refine z_callV (wn := (refW cs a (upd (upd (upd V 1 0) 2 q.2.1) 3 q.2.2) (zU (zU G 0 (G 0)) 2 (G 0)))) ⟨hx, hb, hml, hown, hts⟩ zY_X8_fine w_im_yX8_fine w_se_yX8_fine w_ml_X8_65 [.int (nI t)] [] (c_X8_fine l D cs a (upd (upd V 2 q.2.1) 3 q.2.2) (zU (zU G 0 (G 0)) 2 (G 0)) (nI t)) hE hK hA hP hD hS [0, 1, 2, 3, 4, 5, 6] rfl rfl rfl rfl 8 rfl rfl rfl rfl hl.1 (Nat.le_of_ble_eq_true rfl) ⟨Nat.le_of_ble_eq_true rfl, Nat.le_of_ble_eq_true rfl⟩ ⟨Nat.le_of_ble_eq_true rfl, Nat.le_of_ble_eq_true rfl⟩ dX8_ticksToOut_68 (fun H locs hP hD hS => ?_)
            exact z_iret hx hb hr hlk hK hP hD hS dX8_ticksToOut_71 (by rw [hNc, e9]; exact congrArg (fun z => some (Value.int z)) (if_pos c_3).symm) (by rw [hNc, e9])
        · skip
          exact absurd ((nI_leI (a := 500) (by omega) (by omega)).mpr (by omega)) c_2
      | succ k ih =>
        intro t q h1 h2 hq H locs ls hP hD hS hl
        refine lv_iload_n hx hb dX8_ticksToOut_19 rfl (lv_at hl 2 rfl) ?_
        refine lv_sipush (v := 500) hx hb dX8_ticksToOut_20 (by decide) ?_
        refine lv_icmp_ge (tgt := 46) hx hb dX8_ticksToOut_23 (by decide) (fun c_4 => ?_) (fun c_4 => ?_)
        · skip
          exact absurd ((nI_leI (a := 500) (by omega) (by omega)).mp c_4) (by omega)
        · skip
          refine lv_aload_n hx hb dX8_ticksToOut_26 rfl (lv_at hl 0 rfl) ?_
          refine lv_iload_n hx hb dX8_ticksToOut_27 rfl (lv_at hl 1 rfl) ?_
          refine z_callV (wn := (refW cs a (upd (upd V 2 q.2.1) 3 q.2.2) (zU (zU G 0 q.1) 2 (G 0)))) ⟨hx, hb, hml, hown, hts⟩ zY_X8_out w_im_yX8_out w_se_yX8_out w_ml_X8_76 [.int (nI c)] [] (c_X8_out l D cs a (upd (upd V 2 q.2.1) 3 q.2.2) (zU (zU G 0 q.1) 2 (G 0)) c hc) hE hK hA hP hD hS [0, 1, 2, 3, 4, 5, 6] rfl rfl rfl rfl 8 rfl rfl rfl rfl hl.1 (Nat.le_of_ble_eq_true rfl) ⟨Nat.le_of_ble_eq_true rfl, Nat.le_of_ble_eq_true rfl⟩ ⟨Nat.le_of_ble_eq_true rfl, Nat.le_of_ble_eq_true rfl⟩ dX8_ticksToOut_28 (fun H locs hP hD hS => ?_)
          refine lv_bipush (v := 100) hx hb dX8_ticksToOut_31 (by decide) ?_
          refine lv_icmp_ge (tgt := 46) hx hb dX8_ticksToOut_33 (by decide) (fun c_5 => ?_) (fun c_5 => ?_)
          · skip
            have e9 : rtoT c 500 0 ((G 0), V 2, V 3) = (t, q) := by rw [← h2]; exact if_pos c_5
            refine lv_aload_n hx hb dX8_ticksToOut_46 rfl (lv_at hl 0 rfl) ?_
            refine lv_iload_n hx hb dX8_ticksToOut_47 rfl (lv_at hl 1 rfl) ?_
            refine z_callV (wn := (refW cs a (upd (upd V 2 q.2.1) 3 q.2.2) (zU (zU G 0 q.1) 2 (G 0)))) ⟨hx, hb, hml, hown, hts⟩ zY_X8_out w_im_yX8_out w_se_yX8_out w_ml_X8_76 [.int (nI c)] [] (c_X8_out l D cs a (upd (upd V 2 q.2.1) 3 q.2.2) (zU (zU G 0 q.1) 2 (G 0)) c hc) hE hK hA hP hD hS [0, 1, 2, 3, 4, 5, 6] rfl rfl rfl rfl 8 rfl rfl rfl rfl hl.1 (Nat.le_of_ble_eq_true rfl) ⟨Nat.le_of_ble_eq_true rfl, Nat.le_of_ble_eq_true rfl⟩ ⟨Nat.le_of_ble_eq_true rfl, Nat.le_of_ble_eq_true rfl⟩ dX8_ticksToOut_48 (fun H locs hP hD hS => ?_)
            refine lv_bipush (v := 100) hx hb dX8_ticksToOut_51 (by decide) ?_
            refine lv_icmp_ne (tgt := 60) hx hb dX8_ticksToOut_53 (by decide) (fun c_6 => ?_) (fun c_6 => ?_)
            · skip
              refine lv_iconst (v := (-1)) hx hb dX8_ticksToOut_60 (by decide) ?_
              refine lv_istore_n (lv' := [(3, .int (-1)), (0, .ref (a 0)), (1, .int (nI c)), (2, .int (nI t))]) hx hb dX8_ticksToOut_61 rfl hl (by decide) rfl (fun ls hl => ?_)
              refine lv_aload_n hx hb dX8_ticksToOut_62 rfl (lv_at hl 1 rfl) ?_
              refine z_callV (wn := (refW cs a (upd (upd V 2 q.2.1) 3 q.2.2) (zU (zU G 0 (G 0)) 2 (G 0)))) ⟨hx, hb, hml, hown, hts⟩ zY_X8_takesBack w_im_yX8_takesBack w_se_yX8_takesBack w_ml_X8_137 [] [] (c_X8_takesBack l D cs a (upd (upd V 2 q.2.1) 3 q.2.2) (zU (zU G 0 q.1) 2 (G 0))) hE hK hA hP hD hS [0, 1, 2, 3, 4, 5, 6] rfl rfl rfl rfl 8 rfl rfl rfl rfl hl.1 (Nat.le_of_ble_eq_true rfl) ⟨Nat.le_of_ble_eq_true rfl, Nat.le_of_ble_eq_true rfl⟩ ⟨Nat.le_of_ble_eq_true rfl, Nat.le_of_ble_eq_true rfl⟩ dX8_ticksToOut_63 (fun H locs hP hD hS => ?_)
              refine lv_aload_n hx hb dX8_ticksToOut_66 rfl (lv_at hl 1 rfl) ?_
              refine lv_iload_n hx hb dX8_ticksToOut_67 rfl (lv_at hl 0 rfl) ?_
              refine z_callV (wn := (refW cs a (upd (upd (upd V 1 0) 2 q.2.1) 3 q.2.2) (zU (zU G 0 (G 0)) 2 (G 0)))) ⟨hx, hb, hml, hown, hts⟩ zY_X8_fine w_im_yX8_fine w_se_yX8_fine w_ml_X8_65 [.int (-1)] [] (c_X8_fine l D cs a (upd (upd V 2 q.2.1) 3 q.2.2) (zU (zU G 0 (G 0)) 2 (G 0)) (-1)) hE hK hA hP hD hS [0, 1, 2, 3, 4, 5, 6] rfl rfl rfl rfl 8 rfl rfl rfl rfl hl.1 (Nat.le_of_ble_eq_true rfl) ⟨Nat.le_of_ble_eq_true rfl, Nat.le_of_ble_eq_true rfl⟩ ⟨Nat.le_of_ble_eq_true rfl, Nat.le_of_ble_eq_true rfl⟩ dX8_ticksToOut_68 (fun H locs hP hD hS => ?_)
              exact z_iret hx hb hr hlk hK hP hD hS dX8_ticksToOut_71 (by rw [hNc, e9]; exact congrArg (fun z => some (Value.int z)) (if_neg c_6).symm) (by rw [hNc, e9])
            · skip
              refine lv_iload_n hx hb dX8_ticksToOut_56 rfl (lv_at hl 2 rfl) ?_
              refine lv_goto (tgt := 61) hx hb dX8_ticksToOut_57 (by decide) ?_
              refine lv_istore_n (lv' := [(3, .int (nI t)), (0, .ref (a 0)), (1, .int (nI c)), (2, .int (nI t))]) hx hb dX8_ticksToOut_61 rfl hl (by decide) rfl (fun ls hl => ?_)
              refine lv_aload_n hx hb dX8_ticksToOut_62 rfl (lv_at hl 1 rfl) ?_
              refine z_callV (wn := (refW cs a (upd (upd V 2 q.2.1) 3 q.2.2) (zU (zU G 0 (G 0)) 2 (G 0)))) ⟨hx, hb, hml, hown, hts⟩ zY_X8_takesBack w_im_yX8_takesBack w_se_yX8_takesBack w_ml_X8_137 [] [] (c_X8_takesBack l D cs a (upd (upd V 2 q.2.1) 3 q.2.2) (zU (zU G 0 q.1) 2 (G 0))) hE hK hA hP hD hS [0, 1, 2, 3, 4, 5, 6] rfl rfl rfl rfl 8 rfl rfl rfl rfl hl.1 (Nat.le_of_ble_eq_true rfl) ⟨Nat.le_of_ble_eq_true rfl, Nat.le_of_ble_eq_true rfl⟩ ⟨Nat.le_of_ble_eq_true rfl, Nat.le_of_ble_eq_true rfl⟩ dX8_ticksToOut_63 (fun H locs hP hD hS => ?_)
              refine lv_aload_n hx hb dX8_ticksToOut_66 rfl (lv_at hl 1 rfl) ?_
              refine lv_iload_n hx hb dX8_ticksToOut_67 rfl (lv_at hl 0 rfl) ?_
              refine z_callV (wn := (refW cs a (upd (upd (upd V 1 0) 2 q.2.1) 3 q.2.2) (zU (zU G 0 (G 0)) 2 (G 0)))) ⟨hx, hb, hml, hown, hts⟩ zY_X8_fine w_im_yX8_fine w_se_yX8_fine w_ml_X8_65 [.int (nI t)] [] (c_X8_fine l D cs a (upd (upd V 2 q.2.1) 3 q.2.2) (zU (zU G 0 (G 0)) 2 (G 0)) (nI t)) hE hK hA hP hD hS [0, 1, 2, 3, 4, 5, 6] rfl rfl rfl rfl 8 rfl rfl rfl rfl hl.1 (Nat.le_of_ble_eq_true rfl) ⟨Nat.le_of_ble_eq_true rfl, Nat.le_of_ble_eq_true rfl⟩ ⟨Nat.le_of_ble_eq_true rfl, Nat.le_of_ble_eq_true rfl⟩ dX8_ticksToOut_68 (fun H locs hP hD hS => ?_)
              exact z_iret hx hb hr hlk hK hP hD hS dX8_ticksToOut_71 (by rw [hNc, e9]; exact congrArg (fun z => some (Value.int z)) (if_pos c_6).symm) (by rw [hNc, e9])
          · skip
            refine lv_aload_n hx hb dX8_ticksToOut_36 rfl (lv_at hl 0 rfl) ?_
            refine z_callV (wn := (refW cs a (upd (upd V 2 (bI (rWent (rT0 q.1)))) 3 (bI (rAllN (rT0 q.1) 5))) (zU (zU G 0 (rTk q.1)) 2 (G 0)))) ⟨hx, hb, hml, hown, hts⟩ zY_X8_tick w_im_yX8_tick w_se_yX8_tick w_ml_X8_118 [] [] (c_X8_tick l D cs a (upd (upd V 2 q.2.1) 3 q.2.2) (zU (zU G 0 q.1) 2 (G 0)) hq) hE hK hA hP hD hS [0, 1, 2, 3, 4, 5, 6] rfl rfl rfl rfl 8 rfl rfl rfl rfl hl.1 (Nat.le_of_ble_eq_true rfl) ⟨Nat.le_of_ble_eq_true rfl, Nat.le_of_ble_eq_true rfl⟩ ⟨Nat.le_of_ble_eq_true rfl, Nat.le_of_ble_eq_true rfl⟩ dX8_ticksToOut_37 (fun H locs hP hD hS => ?_)
            refine lv_iinc (v := nI (t + 1)) (lv' := [(2, .int (nI (t + 1))), (0, .ref (a 0)), (1, .int (nI c))]) hx hb dX8_ticksToOut_40 hl (k := 2) rfl (show nI t + Int32.ofInt 1 = nI (t + 1) from nI_add t 1) (by decide) rfl (fun ls hl => ?_)
            refine lv_goto (tgt := 19) hx hb dX8_ticksToOut_43 (by decide) ?_
            exact ih (t + 1) (rTq q) (by omega) (by rw [← h2]; exact (if_neg c_5).symm) (rOK_tk hq) _ _ _ hP hD hS (lv_sub hl [1, 2, 0] rfl)
    have hP := z_eqP (w2 := (refW cs a (upd (upd V 2 (((G 0), V 2, V 3).2.1)) 3 (((G 0), V 2, V 3).2.2)) (zU (zU G 0 (((G 0), V 2, V 3).1)) 2 (G 0)))) (by first | done | rfl) hP
    have hD : va_D A (refW cs a (upd (upd V 2 (((G 0), V 2, V 3).2.1)) 3 (((G 0), V 2, V 3).2.2)) (zU (zU G 0 (((G 0), V 2, V 3).1)) 2 (G 0))) := z_eqD (by first | done | rfl) hD
    exact lp19 500 0 ((G 0), V 2, V 3) rfl rfl hok _ _ _ hP hD hS (lv_sub hl [1, 2, 0] rfl)
  · skip
    have c_1 := bI_0.mp c_1
    exact absurd q0 c_1

set_option maxHeartbeats 4000000 in
set_option maxRecDepth 100000 in
theorem c_X8_passes (l : Launch) (D : va_G) (cs : zCs) (a : Nat → Nat) (V : Nat → Int32) (G : Nat → Nat → Int32) (M : Nat) (hM : M ≤ 2000) (hok : rOK (G 0)) : zM l D cs yX8_passes cX8_passes 4 (some FieldType.int) 5 112 0 0 [.ref (a 0), .int (nI M)] (refW cs a V G) (some (.int (nI (rpsR M ((G 0), V 2, V 3))))) (refW cs a (upd (upd V 2 ((rpsQ M ((G 0), V 2, V 3)).2.1)) 3 ((rpsQ M ((G 0), V 2, V 3)).2.2)) (zU G 0 ((rpsQ M ((G 0), V 2, V 3)).1))) := by
  refine zM.of (own := RX8) (by decide) (Nat.le_of_ble_eq_true rfl) rfl ?_
  intro pq eq s mq below meth cq A ls hx hb hr hml hown hts hlk hnm hE hK hA hP hD hS hl
  have hl : lv_has ls 4 [(0, .ref (a 0)), (1, .int (nI M))] := hl
  refine lv_aload_n hx hb dX8_passes_0 rfl (lv_at hl 0 rfl) ?_
  refine va_get (D := D) (ci := 8) (v := .ref (a 1)) (C := RX8) (T := TX8) (N := 13) hx hb hts wsI_X8 hown hK hP 0 rfl rfl 0 (by decide) (hts _ w_fl_X8_7) (fun _ h9 => h9) rfl dX8_passes_1 ?_
  refine lv_bipush (v := 10) hx hb dX8_passes_4 (by decide) ?_
  refine z_iald (k := 10) hx hb hK hP 1 rfl (by decide) (by first | decide | omega) dX8_passes_6 ?_
  refine lv_istore_n (lv' := [(2, .int ((G 0) 10)), (0, .ref (a 0)), (1, .int (nI M))]) hx hb dX8_passes_7 rfl hl (by decide) rfl (fun ls hl => ?_)
  refine lv_iconst (v := 0) hx hb dX8_passes_8 (by decide) ?_
  refine lv_istore_n (lv' := [(3, .int 0), (2, .int ((G 0) 10)), (0, .ref (a 0)), (1, .int (nI M))]) hx hb dX8_passes_9 rfl hl (by decide) rfl (fun ls hl => ?_)
  have lp10 : ∀ (k : Nat) (t : Nat) (q : zTq), (t + k = M) → (rpsT ((G 0) 10) k t q = rpsT ((G 0) 10) M 0 ((G 0), V 2, V 3)) → (rOK q.1) → ∀ (H : Heap) (locs : List Loc) (ls : Array Slot), va_P D vwCl (refW cs a (upd (upd V 2 q.2.1) 3 q.2.2) (zU G 0 q.1)) H → va_D A (refW cs a (upd (upd V 2 q.2.1) 3 q.2.2) (zU G 0 q.1)) → va_S A s.heap H locs → lv_has ls 4 [(0, .ref (a 0)), (1, .int (nI M)), (2, .int ((G 0) 10)), (3, .int (nI t))] → W pq l eq ({ frames := 5, cells := 0, slots := 0, locals := 112 } : Room) s mq ([.ref (a 0), .int (nI M)] : List Value).toArray below meth cq H locs 0 0 (MQ below (zQ D cs (some (.int (nI (rpsR M ((G 0), V 2, V 3))))) (refW cs a (upd (upd V 2 ((rpsQ M ((G 0), V 2, V 3)).2.1)) 3 ((rpsQ M ((G 0), V 2, V 3)).2.2)) (zU G 0 ((rpsQ M ((G 0), V 2, V 3)).1))) A) ([.ref (a 0), .int (nI M)] : List Value).toArray s 0 0 A) (F0 mq 10 ls []) := by
    intro k
    induction k with
    | zero =>
      intro t q h1 h2 hq H locs ls hP hD hS hl
      refine lv_iload_n hx hb dX8_passes_10 rfl (lv_at hl 3 rfl) ?_
      refine lv_iload_n hx hb dX8_passes_11 rfl (lv_at hl 1 rfl) ?_
      refine lv_icmp_ge (tgt := 36) hx hb dX8_passes_12 (by decide) (fun c_1 => ?_) (fun c_1 => ?_)
      · skip
        have e9 : rpsT ((G 0) 10) M 0 ((G 0), V 2, V 3) = (t, q) := by rw [← h2]; exact rfl
        refine lv_aload_n hx hb dX8_passes_36 rfl (lv_at hl 0 rfl) ?_
        refine va_get (D := D) (ci := 8) (v := .ref (a 1)) (C := RX8) (T := TX8) (N := 13) hx hb hts wsI_X8 hown hK hP 0 rfl rfl 0 (by decide) (hts _ w_fl_X8_7) (fun _ h9 => h9) rfl dX8_passes_37 ?_
        refine lv_bipush (v := 10) hx hb dX8_passes_40 (by decide) ?_
        refine z_iald (k := 10) hx hb hK hP 1 rfl (by decide) (by first | decide | omega) dX8_passes_42 ?_
        refine lv_iload_n hx hb dX8_passes_43 rfl (lv_at hl 2 rfl) ?_
        refine lv_icmp_ne (tgt := 53) hx hb dX8_passes_44 (by decide) (fun c_2 => ?_) (fun c_2 => ?_)
        · skip
          refine lv_iload_n hx hb dX8_passes_53 rfl (lv_at hl 3 rfl) ?_
          have e8 : rpsR M ((G 0), V 2, V 3) = t := by unfold rpsR; rw [show rpsT (((G 0), V 2, V 3).1 10) M 0 ((G 0), V 2, V 3) = (t, q) from e9]; exact if_neg c_2
          have e7 : rpsQ M ((G 0), V 2, V 3) = q := by unfold rpsQ; rw [show rpsT (((G 0), V 2, V 3).1 10) M 0 ((G 0), V 2, V 3) = (t, q) from e9]
          exact z_iret hx hb hr hlk hK hP hD hS dX8_passes_54 (by rw [e8]) (by rw [e7])
        · skip
          refine lv_iload_n hx hb dX8_passes_47 rfl (lv_at hl 1 rfl) ?_
          refine lv_iconst (v := 1) hx hb dX8_passes_48 (by decide) ?_
          refine lv_iadd hx hb dX8_passes_49 ?_
          refine z_top (y := nI (M + 1)) (nI_add M 1) ?_
          refine lv_goto (tgt := 54) hx hb dX8_passes_50 (by decide) ?_
          have e8 : rpsR M ((G 0), V 2, V 3) = M + 1 := by unfold rpsR; rw [show rpsT (((G 0), V 2, V 3).1 10) M 0 ((G 0), V 2, V 3) = (t, q) from e9]; exact if_pos c_2
          have e7 : rpsQ M ((G 0), V 2, V 3) = q := by unfold rpsQ; rw [show rpsT (((G 0), V 2, V 3).1 10) M 0 ((G 0), V 2, V 3) = (t, q) from e9]
          exact z_iret hx hb hr hlk hK hP hD hS dX8_passes_54 (by rw [e8]) (by rw [e7])
      · skip
        exact absurd ((nI_leI (by omega) (by omega)).mpr (by omega)) c_1
    | succ k ih =>
      intro t q h1 h2 hq H locs ls hP hD hS hl
      refine lv_iload_n hx hb dX8_passes_10 rfl (lv_at hl 3 rfl) ?_
      refine lv_iload_n hx hb dX8_passes_11 rfl (lv_at hl 1 rfl) ?_
      refine lv_icmp_ge (tgt := 36) hx hb dX8_passes_12 (by decide) (fun c_3 => ?_) (fun c_3 => ?_)
      · skip
        exact absurd ((nI_leI (by omega) (by omega)).mp c_3) (by omega)
      · skip
        refine lv_aload_n hx hb dX8_passes_15 rfl (lv_at hl 0 rfl) ?_
        refine va_get (D := D) (ci := 8) (v := .ref (a 1)) (C := RX8) (T := TX8) (N := 13) hx hb hts wsI_X8 hown hK hP 0 rfl rfl 0 (by decide) (hts _ w_fl_X8_7) (fun _ h9 => h9) rfl dX8_passes_16 ?_
        refine lv_bipush (v := 10) hx hb dX8_passes_19 (by decide) ?_
        refine z_iald (k := 10) hx hb hK hP 1 rfl (by decide) (by first | decide | omega) dX8_passes_21 ?_
        refine lv_iload_n hx hb dX8_passes_22 rfl (lv_at hl 2 rfl) ?_
        refine lv_icmp_ne (tgt := 36) hx hb dX8_passes_23 (by decide) (fun c_4 => ?_) (fun c_4 => ?_)
        · skip
          have e9 : rpsT ((G 0) 10) M 0 ((G 0), V 2, V 3) = (t, q) := by rw [← h2]; exact if_neg c_4
          refine lv_aload_n hx hb dX8_passes_36 rfl (lv_at hl 0 rfl) ?_
          refine va_get (D := D) (ci := 8) (v := .ref (a 1)) (C := RX8) (T := TX8) (N := 13) hx hb hts wsI_X8 hown hK hP 0 rfl rfl 0 (by decide) (hts _ w_fl_X8_7) (fun _ h9 => h9) rfl dX8_passes_37 ?_
          refine lv_bipush (v := 10) hx hb dX8_passes_40 (by decide) ?_
          refine z_iald (k := 10) hx hb hK hP 1 rfl (by decide) (by first | decide | omega) dX8_passes_42 ?_
          refine lv_iload_n hx hb dX8_passes_43 rfl (lv_at hl 2 rfl) ?_
          refine lv_icmp_ne (tgt := 53) hx hb dX8_passes_44 (by decide) (fun c_5 => ?_) (fun c_5 => ?_)
          · skip
            refine lv_iload_n hx hb dX8_passes_53 rfl (lv_at hl 3 rfl) ?_
            have e8 : rpsR M ((G 0), V 2, V 3) = t := by unfold rpsR; rw [show rpsT (((G 0), V 2, V 3).1 10) M 0 ((G 0), V 2, V 3) = (t, q) from e9]; exact if_neg c_5
            have e7 : rpsQ M ((G 0), V 2, V 3) = q := by unfold rpsQ; rw [show rpsT (((G 0), V 2, V 3).1 10) M 0 ((G 0), V 2, V 3) = (t, q) from e9]
            exact z_iret hx hb hr hlk hK hP hD hS dX8_passes_54 (by rw [e8]) (by rw [e7])
          · skip
            refine lv_iload_n hx hb dX8_passes_47 rfl (lv_at hl 1 rfl) ?_
            refine lv_iconst (v := 1) hx hb dX8_passes_48 (by decide) ?_
            refine lv_iadd hx hb dX8_passes_49 ?_
            refine z_top (y := nI (M + 1)) (nI_add M 1) ?_
            refine lv_goto (tgt := 54) hx hb dX8_passes_50 (by decide) ?_
            have e8 : rpsR M ((G 0), V 2, V 3) = M + 1 := by unfold rpsR; rw [show rpsT (((G 0), V 2, V 3).1 10) M 0 ((G 0), V 2, V 3) = (t, q) from e9]; exact if_pos c_5
            have e7 : rpsQ M ((G 0), V 2, V 3) = q := by unfold rpsQ; rw [show rpsT (((G 0), V 2, V 3).1 10) M 0 ((G 0), V 2, V 3) = (t, q) from e9]
            exact z_iret hx hb hr hlk hK hP hD hS dX8_passes_54 (by rw [e8]) (by rw [e7])
        · skip
          refine lv_aload_n hx hb dX8_passes_26 rfl (lv_at hl 0 rfl) ?_
          refine z_callV (wn := (refW cs a (upd (upd V 2 (bI (rWent (rT0 q.1)))) 3 (bI (rAllN (rT0 q.1) 5))) (zU G 0 (rTk q.1)))) ⟨hx, hb, hml, hown, hts⟩ zY_X8_tick w_im_yX8_tick w_se_yX8_tick w_ml_X8_118 [] [] (c_X8_tick l D cs a (upd (upd V 2 q.2.1) 3 q.2.2) (zU G 0 q.1) hq) hE hK hA hP hD hS [0, 1, 2, 3, 4, 5, 6] rfl rfl rfl rfl 8 rfl rfl rfl rfl hl.1 (Nat.le_of_ble_eq_true rfl) ⟨Nat.le_of_ble_eq_true rfl, Nat.le_of_ble_eq_true rfl⟩ ⟨Nat.le_of_ble_eq_true rfl, Nat.le_of_ble_eq_true rfl⟩ dX8_passes_27 (fun H locs hP hD hS => ?_)
          refine lv_iinc (v := nI (t + 1)) (lv' := [(3, .int (nI (t + 1))), (0, .ref (a 0)), (1, .int (nI M)), (2, .int ((G 0) 10))]) hx hb dX8_passes_30 hl (k := 3) rfl (show nI t + Int32.ofInt 1 = nI (t + 1) from nI_add t 1) (by decide) rfl (fun ls hl => ?_)
          refine lv_goto (tgt := 10) hx hb dX8_passes_33 (by decide) ?_
          exact ih (t + 1) (rTq q) (by omega) (by rw [← h2]; exact (if_pos c_4).symm) (rOK_tk hq) _ _ _ hP hD hS (lv_sub hl [1, 2, 3, 0] rfl)
  have hP := z_eqP (w2 := (refW cs a (upd (upd V 2 (((G 0), V 2, V 3).2.1)) 3 (((G 0), V 2, V 3).2.2)) (zU G 0 (((G 0), V 2, V 3).1)))) (by first | done | rfl) hP
  have hD : va_D A (refW cs a (upd (upd V 2 (((G 0), V 2, V 3).2.1)) 3 (((G 0), V 2, V 3).2.2)) (zU G 0 (((G 0), V 2, V 3).1))) := z_eqD (by first | done | rfl) hD
  exact lp10 M 0 ((G 0), V 2, V 3) (by omega) rfl hok _ _ _ hP hD hS (lv_sub hl [2, 3, 1, 0] rfl)

set_option maxHeartbeats 4000000 in
set_option maxRecDepth 100000 in
theorem c_X8_toCycle (l : Launch) (D : va_G) (cs : zCs) (a : Nat → Nat) (V : Nat → Int32) (G : Nat → Nat → Int32) (hok : rOK (G 0)) : zM l D cs yX8_toCycle cX8_toCycle 2 (some FieldType.int) 6 135 0 0 [.ref (a 0)] (refW cs a V G) (some (.int (rtcR ((G 0), V 2, V 3)))) (refW cs a (upd (upd V 2 ((rpsQ 1000 ((G 0), V 2, V 3)).2.1)) 3 ((rpsQ 1000 ((G 0), V 2, V 3)).2.2)) (zU (zU G 0 (G 0)) 2 (G 0))) := by
  refine zM.of (own := RX8) (by decide) (Nat.le_of_ble_eq_true rfl) rfl ?_
  intro pq eq s mq below meth cq A ls hx hb hr hml hown hts hlk hnm hE hK hA hP hD hS hl
  have hl : lv_has ls 2 [(0, .ref (a 0))] := hl
  refine lv_aload_n hx hb dX8_toCycle_0 rfl (lv_at hl 0 rfl) ?_
  refine z_callV (wn := (refW cs a V (zU G 2 (G 0)))) ⟨hx, hb, hml, hown, hts⟩ zY_X8_laysAside w_im_yX8_laysAside w_se_yX8_laysAside w_ml_X8_134 [] [] (c_X8_laysAside l D cs a V G) hE hK hA hP hD hS [0, 1, 2, 3, 4, 5, 6] rfl rfl rfl rfl 8 rfl rfl rfl rfl hl.1 (Nat.le_of_ble_eq_true rfl) ⟨Nat.le_of_ble_eq_true rfl, Nat.le_of_ble_eq_true rfl⟩ ⟨Nat.le_of_ble_eq_true rfl, Nat.le_of_ble_eq_true rfl⟩ dX8_toCycle_1 (fun H locs hP hD hS => ?_)
  refine lv_aload_n hx hb dX8_toCycle_4 rfl (lv_at hl 0 rfl) ?_
  refine lv_sipush (v := 1000) hx hb dX8_toCycle_5 (by decide) ?_
  refine z_callV (wn := (refW cs a (upd (upd V 2 ((rpsQ 1000 ((G 0), V 2, V 3)).2.1)) 3 ((rpsQ 1000 ((G 0), V 2, V 3)).2.2)) (zU (zU G 0 ((rpsQ 1000 ((G 0), V 2, V 3)).1)) 2 (G 0)))) ⟨hx, hb, hml, hown, hts⟩ zY_X8_passes w_im_yX8_passes w_se_yX8_passes w_ml_X8_140 [.int 1000] [] (c_X8_passes l D cs a V (zU G 2 (G 0)) 1000 (by decide) hok) hE hK hA hP hD hS [0, 1, 2, 3, 4, 5, 6] rfl rfl rfl rfl 8 rfl rfl rfl rfl hl.1 (Nat.le_of_ble_eq_true rfl) ⟨Nat.le_of_ble_eq_true rfl, Nat.le_of_ble_eq_true rfl⟩ ⟨Nat.le_of_ble_eq_true rfl, Nat.le_of_ble_eq_true rfl⟩ dX8_toCycle_8 (fun H locs hP hD hS => ?_)
  refine lv_istore_n (lv' := [(1, .int (nI (rpsR 1000 ((G 0), V 2, V 3)))), (0, .ref (a 0))]) hx hb dX8_toCycle_11 rfl hl (by decide) rfl (fun ls hl => ?_)
  refine lv_aload_n hx hb dX8_toCycle_12 rfl (lv_at hl 1 rfl) ?_
  refine z_callV (wn := (refW cs a (upd (upd V 2 ((rpsQ 1000 ((G 0), V 2, V 3)).2.1)) 3 ((rpsQ 1000 ((G 0), V 2, V 3)).2.2)) (zU (zU G 0 (G 0)) 2 (G 0)))) ⟨hx, hb, hml, hown, hts⟩ zY_X8_takesBack w_im_yX8_takesBack w_se_yX8_takesBack w_ml_X8_137 [] [] (c_X8_takesBack l D cs a (upd (upd V 2 ((rpsQ 1000 ((G 0), V 2, V 3)).2.1)) 3 ((rpsQ 1000 ((G 0), V 2, V 3)).2.2)) (zU (zU G 0 ((rpsQ 1000 ((G 0), V 2, V 3)).1)) 2 (G 0))) hE hK hA hP hD hS [0, 1, 2, 3, 4, 5, 6] rfl rfl rfl rfl 8 rfl rfl rfl rfl hl.1 (Nat.le_of_ble_eq_true rfl) ⟨Nat.le_of_ble_eq_true rfl, Nat.le_of_ble_eq_true rfl⟩ ⟨Nat.le_of_ble_eq_true rfl, Nat.le_of_ble_eq_true rfl⟩ dX8_toCycle_13 (fun H locs hP hD hS => ?_)
  refine lv_iload_n hx hb dX8_toCycle_16 rfl (lv_at hl 0 rfl) ?_
  refine lv_sipush (v := 1000) hx hb dX8_toCycle_17 (by decide) ?_
  refine lv_icmp_le (tgt := 27) hx hb dX8_toCycle_20 (by decide) (fun c_1 => ?_) (fun c_1 => ?_)
  · skip
    refine lv_iload_n hx hb dX8_toCycle_27 rfl (lv_at hl 0 rfl) ?_
    exact z_iret hx hb hr hlk hK hP hD hS dX8_toCycle_28 (by unfold rtcR; rw [if_pos c_1]) rfl
  · skip
    refine lv_iconst (v := (-1)) hx hb dX8_toCycle_23 (by decide) ?_
    refine lv_goto (tgt := 28) hx hb dX8_toCycle_24 (by decide) ?_
    exact z_iret hx hb hr hlk hK hP hD hS dX8_toCycle_28 (by unfold rtcR; rw [if_neg c_1]) rfl

set_option maxHeartbeats 4000000 in
set_option maxRecDepth 100000 in
theorem c_X8_ticksToCycle (l : Launch) (D : va_G) (cs : zCs) (a : Nat → Nat) (V : Nat → Int32) (G : Nat → Nat → Int32) (hok : rOK (G 0)) : zM l D cs yX8_ticksToCycle cX8_ticksToCycle 1 (some FieldType.int) 7 156 0 0 [.ref (a 0)] (refW cs a V G) (some (.int (rtcR ((G 0), V 2, V 3)))) (refW cs a (upd (upd (upd V 1 0) 2 ((rpsQ 1000 ((G 0), V 2, V 3)).2.1)) 3 ((rpsQ 1000 ((G 0), V 2, V 3)).2.2)) (zU (zU G 0 (G 0)) 2 (G 0))) := by
  refine zM.of (own := RX8) (by decide) (Nat.le_of_ble_eq_true rfl) rfl ?_
  intro pq eq s mq below meth cq A ls hx hb hr hml hown hts hlk hnm hE hK hA hP hD hS hl
  have hl : lv_has ls 1 [(0, .ref (a 0))] := hl
  refine lv_aload_n hx hb dX8_ticksToCycle_0 rfl (lv_at hl 0 rfl) ?_
  refine lv_aload_n hx hb dX8_ticksToCycle_1 rfl (lv_at hl 0 rfl) ?_
  refine z_callV (wn := (refW cs a (upd (upd V 2 ((rpsQ 1000 ((G 0), V 2, V 3)).2.1)) 3 ((rpsQ 1000 ((G 0), V 2, V 3)).2.2)) (zU (zU G 0 (G 0)) 2 (G 0)))) ⟨hx, hb, hml, hown, hts⟩ zY_X8_toCycle w_im_yX8_toCycle w_se_yX8_toCycle w_ml_X8_143 [] [.ref (a 0)] (c_X8_toCycle l D cs a V G hok) hE hK hA hP hD hS [0, 1, 2, 3, 4, 5, 6] rfl rfl rfl rfl 8 rfl rfl rfl rfl hl.1 (Nat.le_of_ble_eq_true rfl) ⟨Nat.le_of_ble_eq_true rfl, Nat.le_of_ble_eq_true rfl⟩ ⟨Nat.le_of_ble_eq_true rfl, Nat.le_of_ble_eq_true rfl⟩ dX8_ticksToCycle_2 (fun H locs hP hD hS => ?_)
  refine z_callV (wn := (refW cs a (upd (upd (upd V 1 0) 2 ((rpsQ 1000 ((G 0), V 2, V 3)).2.1)) 3 ((rpsQ 1000 ((G 0), V 2, V 3)).2.2)) (zU (zU G 0 (G 0)) 2 (G 0)))) ⟨hx, hb, hml, hown, hts⟩ zY_X8_fine w_im_yX8_fine w_se_yX8_fine w_ml_X8_65 [.int (rtcR ((G 0), V 2, V 3))] [] (c_X8_fine l D cs a (upd (upd V 2 ((rpsQ 1000 ((G 0), V 2, V 3)).2.1)) 3 ((rpsQ 1000 ((G 0), V 2, V 3)).2.2)) (zU (zU G 0 (G 0)) 2 (G 0)) (rtcR ((G 0), V 2, V 3))) hE hK hA hP hD hS [0, 1, 2, 3, 4, 5, 6] rfl rfl rfl rfl 8 rfl rfl rfl rfl hl.1 (Nat.le_of_ble_eq_true rfl) ⟨Nat.le_of_ble_eq_true rfl, Nat.le_of_ble_eq_true rfl⟩ ⟨Nat.le_of_ble_eq_true rfl, Nat.le_of_ble_eq_true rfl⟩ dX8_ticksToCycle_5 (fun H locs hP hD hS => ?_)
  exact z_iret hx hb hr hlk hK hP hD hS dX8_ticksToCycle_8 rfl rfl

set_option maxHeartbeats 4000000 in
set_option maxRecDepth 100000 in
theorem c_X8_leastCompressor_t1 (l : Launch) (D : va_G) (cs : zCs) (a : Nat → Nat) (V : Nat → Int32) (G : Nat → Nat → Int32) (tk : Int32) (hok : rOK (G 0)) (hbad : ¬ (1 ≤ tk ∧ tk ≤ 300)) : zM l D cs yX8_leastCompressor cX8_leastCompressor 6 (some FieldType.int) 5 112 0 0 [.ref (a 0), .int tk] (refW cs a V G) (some (.int 0)) (refW cs a (upd V 1 1) G) := by
  refine zM.of (own := RX8) (by decide) (Nat.le_of_ble_eq_true rfl) rfl ?_
  intro pq eq s mq below meth cq A ls hx hb hr hml hown hts hlk hnm hE hK hA hP hD hS hl
  have hl : lv_has ls 6 [(0, .ref (a 0)), (1, .int tk)] := hl
  refine lv_iload_n hx hb dX8_leastCompressor_0 rfl (lv_at hl 1 rfl) ?_
  refine lv_i2l (v := tk.toInt64) hx hb dX8_leastCompressor_1 rfl ?_
  refine lv_lconst (v := 1) hx hb dX8_leastCompressor_2 (by decide) ?_
  refine lv_ldc2 (v := 300) hx hb hown (hts _ w_ct_X8_147) dX8_leastCompressor_3 ?_
  refine z_callS (wn := (refW cs a V G)) ⟨hx, hb, hml, hown, hts⟩ zY_X8_in w_st_yX8_in w_ml_X8_40 [.long tk.toInt64, .long 1, .long 300] [] (c_X8_in l D cs tk.toInt64 1 300) hE hK hA hP hD hS [] rfl rfl rfl z_ins_nil rfl hl.1 (Nat.le_of_ble_eq_true rfl) ⟨Nat.le_of_ble_eq_true rfl, Nat.le_of_ble_eq_true rfl⟩ ⟨Nat.le_of_ble_eq_true rfl, Nat.le_of_ble_eq_true rfl⟩ dX8_leastCompressor_6 (fun H locs hP hD hS => ?_)
  refine z_top (y := bI (1 ≤ tk ∧ tk ≤ 300)) (bI_congr (in64 (by decide) (by decide))) ?_
  refine lv_if_ne (tgt := 18) hx hb dX8_leastCompressor_9 (by decide) (fun c_1 => ?_) (fun c_1 => ?_)
  · skip
    have c_1 := bI_n0 c_1
    exact absurd c_1 hbad
  · skip
    have c_1 := bI_0.mp c_1
    refine lv_aload_n hx hb dX8_leastCompressor_12 rfl (lv_at hl 0 rfl) ?_
    refine lv_iconst (v := 1) hx hb dX8_leastCompressor_13 (by decide) ?_
    refine z_callV (wn := (refW cs a (upd V 1 1) G)) ⟨hx, hb, hml, hown, hts⟩ zY_X8_throwing w_im_yX8_throwing w_se_yX8_throwing w_ml_X8_55 [.int 1] [] (c_X8_throwing l D cs a V G 1) hE hK hA hP hD hS [0, 1, 2, 3, 4, 5, 6] rfl rfl rfl rfl 8 rfl rfl rfl rfl hl.1 (Nat.le_of_ble_eq_true rfl) ⟨Nat.le_of_ble_eq_true rfl, Nat.le_of_ble_eq_true rfl⟩ ⟨Nat.le_of_ble_eq_true rfl, Nat.le_of_ble_eq_true rfl⟩ dX8_leastCompressor_14 (fun H locs hP hD hS => ?_)
    exact z_iret hx hb hr hlk hK hP hD hS dX8_leastCompressor_17 rfl rfl

set_option maxHeartbeats 4000000 in
set_option maxRecDepth 100000 in
theorem c_X8_leastCompressor_ok (l : Launch) (D : va_G) (cs : zCs) (a : Nat → Nat) (V : Nat → Int32) (G : Nat → Nat → Int32) (tk : Int32) (hok : rOK (G 0)) (q0 : 1 ≤ tk ∧ tk ≤ 300) : zM l D cs yX8_leastCompressor cX8_leastCompressor 6 (some FieldType.int) 5 112 0 0 [.ref (a 0), .int tk] (refW cs a V G) (some (.int ((rlcN (nN tk) (G 0) 51 (-1) (V 2, V 3)).1))) (refW cs a (upd (upd (upd V 1 0) 2 ((rlcN (nN tk) (G 0) 51 (-1) (V 2, V 3)).2.1)) 3 ((rlcN (nN tk) (G 0) 51 (-1) (V 2, V 3)).2.2)) (zU (zU G 0 (G 0)) 2 (G 0))) := by
  refine zM.of (own := RX8) (by decide) (Nat.le_of_ble_eq_true rfl) rfl ?_
  intro pq eq s mq below meth cq A ls hx hb hr hml hown hts hlk hnm hE hK hA hP hD hS hl
  have hl : lv_has ls 6 [(0, .ref (a 0)), (1, .int tk)] := hl
  refine lv_iload_n hx hb dX8_leastCompressor_0 rfl (lv_at hl 1 rfl) ?_
  refine lv_i2l (v := tk.toInt64) hx hb dX8_leastCompressor_1 rfl ?_
  refine lv_lconst (v := 1) hx hb dX8_leastCompressor_2 (by decide) ?_
  refine lv_ldc2 (v := 300) hx hb hown (hts _ w_ct_X8_147) dX8_leastCompressor_3 ?_
  refine z_callS (wn := (refW cs a V G)) ⟨hx, hb, hml, hown, hts⟩ zY_X8_in w_st_yX8_in w_ml_X8_40 [.long tk.toInt64, .long 1, .long 300] [] (c_X8_in l D cs tk.toInt64 1 300) hE hK hA hP hD hS [] rfl rfl rfl z_ins_nil rfl hl.1 (Nat.le_of_ble_eq_true rfl) ⟨Nat.le_of_ble_eq_true rfl, Nat.le_of_ble_eq_true rfl⟩ ⟨Nat.le_of_ble_eq_true rfl, Nat.le_of_ble_eq_true rfl⟩ dX8_leastCompressor_6 (fun H locs hP hD hS => ?_)
  refine z_top (y := bI (1 ≤ tk ∧ tk ≤ 300)) (bI_congr (in64 (by decide) (by decide))) ?_
  refine lv_if_ne (tgt := 18) hx hb dX8_leastCompressor_9 (by decide) (fun c_1 => ?_) (fun c_1 => ?_)
  · skip
    have c_1 := bI_n0 c_1
    obtain ⟨T, hT, rfl⟩ := z_nat300 c_1
    have hNT := nN_nI (k := T) (by omega)
    refine lv_iconst (v := (-1)) hx hb dX8_leastCompressor_18 (by decide) ?_
    refine lv_istore_n (lv' := [(2, .int (-1)), (0, .ref (a 0)), (1, .int (nI T))]) hx hb dX8_leastCompressor_19 rfl hl (by decide) rfl (fun ls hl => ?_)
    refine lv_sipush (v := 500) hx hb dX8_leastCompressor_20 (by decide) ?_
    refine lv_istore_n (lv' := [(3, .int 500), (2, .int (-1)), (0, .ref (a 0)), (1, .int (nI T))]) hx hb dX8_leastCompressor_23 rfl hl (by decide) rfl (fun ls hl => ?_)
    have lp24 : ∀ (z : Nat) (j : Nat) (x : Int32) (w : Int32 × Int32) (g2 : Nat → Int32), (j = z) → (rlcN T (G 0) z x w = (rlcN T (G 0) 51 (-1) (V 2, V 3))) → (z = 51 ∨ g2 = G 0) → (z ≤ 51) → ∀ (H : Heap) (locs : List Loc) (ls : Array Slot), va_P D vwCl (refW cs a (upd (upd V 2 w.1) 3 w.2) (zU G 2 g2)) H → va_D A (refW cs a (upd (upd V 2 w.1) 3 w.2) (zU G 2 g2)) → va_S A s.heap H locs → lv_has ls 6 [(0, .ref (a 0)), (1, .int (nI T)), (2, .int x), (3, .int (nI (10 * j) + (-10)))] → W pq l eq ({ frames := 5, cells := 0, slots := 0, locals := 112 } : Room) s mq ([.ref (a 0), .int (nI T)] : List Value).toArray below meth cq H locs 0 0 (MQ below (zQ D cs (some (.int ((rlcN (nN (nI T)) (G 0) 51 (-1) (V 2, V 3)).1))) (refW cs a (upd (upd (upd V 1 0) 2 ((rlcN (nN (nI T)) (G 0) 51 (-1) (V 2, V 3)).2.1)) 3 ((rlcN (nN (nI T)) (G 0) 51 (-1) (V 2, V 3)).2.2)) (zU (zU G 0 (G 0)) 2 (G 0))) A) ([.ref (a 0), .int (nI T)] : List Value).toArray s 0 0 A) (F0 mq 24 ls []) := by
      intro z
      induction z with
      | zero =>
        intro j x w g2 h1 h2 h3 h4 H locs ls hP hD hS hl
        refine lv_iload_n hx hb dX8_leastCompressor_24 rfl (lv_at hl 3 rfl) ?_
        refine lv_if_lt (tgt := 96) hx hb dX8_leastCompressor_25 (by decide) (fun c_2 => ?_) (fun c_2 => ?_)
        · skip
          refine lv_aload_n hx hb dX8_leastCompressor_96 rfl (lv_at hl 0 rfl) ?_
          refine lv_iload_n hx hb dX8_leastCompressor_97 rfl (lv_at hl 2 rfl) ?_
          refine z_callV (wn := (refW cs a (upd (upd (upd V 1 0) 2 w.1) 3 w.2) (zU G 2 g2))) ⟨hx, hb, hml, hown, hts⟩ zY_X8_fine w_im_yX8_fine w_se_yX8_fine w_ml_X8_65 [.int x] [] (c_X8_fine l D cs a (upd (upd V 2 w.1) 3 w.2) (zU G 2 g2) x) hE hK hA hP hD hS [0, 1, 2, 3, 4, 5, 6] rfl rfl rfl rfl 8 rfl rfl rfl rfl hl.1 (Nat.le_of_ble_eq_true rfl) ⟨Nat.le_of_ble_eq_true rfl, Nat.le_of_ble_eq_true rfl⟩ ⟨Nat.le_of_ble_eq_true rfl, Nat.le_of_ble_eq_true rfl⟩ dX8_leastCompressor_98 (fun H locs hP hD hS => ?_)
          exact z_iret hx hb hr hlk hK hP hD hS dX8_leastCompressor_101 (by rw [hNT, ← h2]; rfl) (by rw [hNT, ← h2, h3.elim (fun h => absurd h (by omega)) id]; rfl)
        · skip
          exact absurd (by rw [h1]; decide) c_2
      | succ z ih =>
        intro j x w g2 h1 h2 h3 h4 H locs ls hP hD hS hl
        have hokz : rOK (upd (G 0) 7 (nI (10 * z))) := rOK_upd hok (by omega) (by omega) (by omega) (by intros; omega) (by intros; omega)
        refine lv_iload_n hx hb dX8_leastCompressor_24 rfl (lv_at hl 3 rfl) ?_
        have e7 : nI (10 * j) + (-10) = nI (10 * z) := by rw [h1]; exact lc_step z
        rw [e7] at hl
        refine z_top e7 ?_
        refine lv_if_lt (tgt := 96) hx hb dX8_leastCompressor_25 (by decide) (fun c_3 => ?_) (fun c_3 => ?_)
        · skip
          exact absurd c_3 (nI_pos (by omega))
        · skip
          refine lv_aload_n hx hb dX8_leastCompressor_28 rfl (lv_at hl 0 rfl) ?_
          refine z_callV (wn := (refW cs a (upd (upd V 2 w.1) 3 w.2) (zU G 2 (G 0)))) ⟨hx, hb, hml, hown, hts⟩ zY_X8_laysAside w_im_yX8_laysAside w_se_yX8_laysAside w_ml_X8_134 [] [] (c_X8_laysAside l D cs a (upd (upd V 2 w.1) 3 w.2) (zU G 2 g2)) hE hK hA hP hD hS [0, 1, 2, 3, 4, 5, 6] rfl rfl rfl rfl 8 rfl rfl rfl rfl hl.1 (Nat.le_of_ble_eq_true rfl) ⟨Nat.le_of_ble_eq_true rfl, Nat.le_of_ble_eq_true rfl⟩ ⟨Nat.le_of_ble_eq_true rfl, Nat.le_of_ble_eq_true rfl⟩ dX8_leastCompressor_29 (fun H locs hP hD hS => ?_)
          refine lv_aload_n hx hb dX8_leastCompressor_32 rfl (lv_at hl 0 rfl) ?_
          refine va_get (D := D) (ci := 8) (v := .ref (a 1)) (C := RX8) (T := TX8) (N := 13) hx hb hts wsI_X8 hown hK hP 0 rfl rfl 0 (by decide) (hts _ w_fl_X8_7) (fun _ h9 => h9) rfl dX8_leastCompressor_33 ?_
          refine lv_bipush (v := 7) hx hb dX8_leastCompressor_36 (by decide) ?_
          refine lv_iload_n hx hb dX8_leastCompressor_38 rfl (lv_at hl 3 rfl) ?_
          refine z_iast (k := 7) hx hb hK hP hD hS 1 rfl (by decide) (by first | decide | omega) dX8_leastCompressor_39 (fun H locs hP hD hS => ?_)
          have hP : va_P D vwCl (refW cs a (upd (upd V 2 w.1) 3 w.2) (zU (zU G 0 (upd (G 0) 7 (nI (10 * z)))) 2 (G 0))) H := hP
          have hD : va_D A (refW cs a (upd (upd V 2 w.1) 3 w.2) (zU (zU G 0 (upd (G 0) 7 (nI (10 * z)))) 2 (G 0))) := hD
          refine lv_aload_n hx hb dX8_leastCompressor_40 rfl (lv_at hl 0 rfl) ?_
          refine va_get (D := D) (ci := 8) (v := .ref (a 1)) (C := RX8) (T := TX8) (N := 13) hx hb hts wsI_X8 hown hK hP 0 rfl rfl 0 (by decide) (hts _ w_fl_X8_7) (fun _ h9 => h9) rfl dX8_leastCompressor_41 ?_
          refine lv_bipush (v := 11) hx hb dX8_leastCompressor_44 (by decide) ?_
          refine z_iald (k := 11) hx hb hK hP 1 rfl (by decide) (by first | decide | omega) dX8_leastCompressor_46 ?_
          refine z_top (y := (G 0) 11) (show (upd (G 0) 7 (nI (10 * z))) 11 = (G 0) 11 from ex_upd (by decide)) ?_
          refine lv_istore (lv' := [(4, .int ((G 0) 11)), (0, .ref (a 0)), (1, .int (nI T)), (2, .int x), (3, .int (nI (10 * z)))]) hx hb dX8_leastCompressor_47 hl (by decide) rfl (fun ls hl => ?_)
          refine lv_iconst (v := 0) hx hb dX8_leastCompressor_49 (by decide) ?_
          refine lv_istore (lv' := [(5, .int 0), (4, .int ((G 0) 11)), (0, .ref (a 0)), (1, .int (nI T)), (2, .int x), (3, .int (nI (10 * z)))]) hx hb dX8_leastCompressor_50 hl (by decide) rfl (fun ls hl => ?_)
          have lp52 : ∀ (z2 : Nat) (i : Nat), (i ≤ T) → (T + 1 ≤ i + z2) → ∀ (H : Heap) (locs : List Loc) (ls : Array Slot), va_P D vwCl (refW cs a (upd (upd V 2 ((rTi (upd (G 0) 7 (nI (10 * z)), w.1, w.2) i).2.1)) 3 ((rTi (upd (G 0) 7 (nI (10 * z)), w.1, w.2) i).2.2)) (zU (zU G 0 ((rTi (upd (G 0) 7 (nI (10 * z)), w.1, w.2) i).1)) 2 (G 0))) H → va_D A (refW cs a (upd (upd V 2 ((rTi (upd (G 0) 7 (nI (10 * z)), w.1, w.2) i).2.1)) 3 ((rTi (upd (G 0) 7 (nI (10 * z)), w.1, w.2) i).2.2)) (zU (zU G 0 ((rTi (upd (G 0) 7 (nI (10 * z)), w.1, w.2) i).1)) 2 (G 0))) → va_S A s.heap H locs → lv_has ls 6 [(0, .ref (a 0)), (1, .int (nI T)), (2, .int x), (3, .int (nI (10 * z))), (4, .int ((G 0) 11)), (5, .int (nI i))] → W pq l eq ({ frames := 5, cells := 0, slots := 0, locals := 112 } : Room) s mq ([.ref (a 0), .int (nI T)] : List Value).toArray below meth cq H locs 0 0 (MQ below (zQ D cs (some (.int ((rlcN (nN (nI T)) (G 0) 51 (-1) (V 2, V 3)).1))) (refW cs a (upd (upd (upd V 1 0) 2 ((rlcN (nN (nI T)) (G 0) 51 (-1) (V 2, V 3)).2.1)) 3 ((rlcN (nN (nI T)) (G 0) 51 (-1) (V 2, V 3)).2.2)) (zU (zU G 0 (G 0)) 2 (G 0))) A) ([.ref (a 0), .int (nI T)] : List Value).toArray s 0 0 A) (F0 mq 52 ls []) := by
            intro z2
            induction z2 with
            | zero =>
              intro i hi1 hi2 H locs ls hP hD hS hl
              omega
            | succ z2 ih2 =>
              intro i hi1 hi2 H locs ls hP hD hS hl
              refine lv_iload hx hb dX8_leastCompressor_52 (lv_at hl 5 rfl) ?_
              refine lv_iload_n hx hb dX8_leastCompressor_54 rfl (lv_at hl 1 rfl) ?_
              refine lv_icmp_ge (tgt := 68) hx hb dX8_leastCompressor_55 (by decide) (fun c_4 => ?_) (fun c_4 => ?_)
              · skip
                have ei : T = i := (z_leK (n := T) rfl (by omega) hi1 c_4).symm
                subst ei
                refine lv_aload_n hx hb dX8_leastCompressor_68 rfl (lv_at hl 0 rfl) ?_
                refine va_get (D := D) (ci := 8) (v := .ref (a 1)) (C := RX8) (T := TX8) (N := 13) hx hb hts wsI_X8 hown hK hP 0 rfl rfl 0 (by decide) (hts _ w_fl_X8_7) (fun _ h9 => h9) rfl dX8_leastCompressor_69 ?_
                refine lv_bipush (v := 11) hx hb dX8_leastCompressor_72 (by decide) ?_
                refine z_iald (k := 11) hx hb hK hP 1 rfl (by decide) (by first | decide | omega) dX8_leastCompressor_74 ?_
                refine lv_iload hx hb dX8_leastCompressor_75 (lv_at hl 4 rfl) ?_
                refine lv_icmp_ne (tgt := 84) hx hb dX8_leastCompressor_77 (by decide) (fun c_5 => ?_) (fun c_5 => ?_)
                · skip
                  refine lv_iload_n hx hb dX8_leastCompressor_84 rfl (lv_at hl 2 rfl) ?_
                  refine z_top (y := if (rTi (upd (G 0) 7 (nI (10 * z)), w.1, w.2) T).1 11 = (G 0) 11 then nI (10 * z) else x) ((if_neg c_5).symm) ?_
                  refine lv_istore_n (lv' := [(2, .int (if (rTi (upd (G 0) 7 (nI (10 * z)), w.1, w.2) T).1 11 = (G 0) 11 then nI (10 * z) else x)), (0, .ref (a 0)), (1, .int (nI T)), (3, .int (nI (10 * z))), (4, .int ((G 0) 11)), (5, .int (nI T))]) hx hb dX8_leastCompressor_85 rfl hl (by decide) rfl (fun ls hl => ?_)
                  refine lv_aload_n hx hb dX8_leastCompressor_86 rfl (lv_at hl 1 rfl) ?_
                  refine z_callV (wn := (refW cs a (upd (upd V 2 ((rTi (upd (G 0) 7 (nI (10 * z)), w.1, w.2) T).2.1)) 3 ((rTi (upd (G 0) 7 (nI (10 * z)), w.1, w.2) T).2.2)) (zU (zU G 0 (G 0)) 2 (G 0)))) ⟨hx, hb, hml, hown, hts⟩ zY_X8_takesBack w_im_yX8_takesBack w_se_yX8_takesBack w_ml_X8_137 [] [] (c_X8_takesBack l D cs a (upd (upd V 2 ((rTi (upd (G 0) 7 (nI (10 * z)), w.1, w.2) T).2.1)) 3 ((rTi (upd (G 0) 7 (nI (10 * z)), w.1, w.2) T).2.2)) (zU (zU G 0 ((rTi (upd (G 0) 7 (nI (10 * z)), w.1, w.2) T).1)) 2 (G 0))) hE hK hA hP hD hS [0, 1, 2, 3, 4, 5, 6] rfl rfl rfl rfl 8 rfl rfl rfl rfl hl.1 (Nat.le_of_ble_eq_true rfl) ⟨Nat.le_of_ble_eq_true rfl, Nat.le_of_ble_eq_true rfl⟩ ⟨Nat.le_of_ble_eq_true rfl, Nat.le_of_ble_eq_true rfl⟩ dX8_leastCompressor_87 (fun H locs hP hD hS => ?_)
                  refine lv_iinc (v := (nI (10 * z)) + (-10)) (lv' := [(3, .int ((nI (10 * z)) + (-10))), (2, .int (if (rTi (upd (G 0) 7 (nI (10 * z)), w.1, w.2) T).1 11 = (G 0) 11 then nI (10 * z) else x)), (0, .ref (a 0)), (1, .int (nI T)), (4, .int ((G 0) 11)), (5, .int (nI T))]) hx hb dX8_leastCompressor_90 hl (k := 3) rfl rfl (by decide) rfl (fun ls hl => ?_)
                  refine lv_goto (tgt := 24) hx hb dX8_leastCompressor_93 (by decide) ?_
                  exact ih z (if (rTi (upd (G 0) 7 (nI (10 * z)), w.1, w.2) T).1 11 = (G 0) 11 then nI (10 * z) else x) ((rTi (upd (G 0) 7 (nI (10 * z)), w.1, w.2) T).2) (G 0) rfl h2 (Or.inr rfl) (by omega) _ _ _ hP hD hS (lv_sub hl [2, 3, 1, 0] rfl)
                · skip
                  refine lv_iload_n hx hb dX8_leastCompressor_80 rfl (lv_at hl 3 rfl) ?_
                  refine lv_goto (tgt := 85) hx hb dX8_leastCompressor_81 (by decide) ?_
                  refine z_top (y := if (rTi (upd (G 0) 7 (nI (10 * z)), w.1, w.2) T).1 11 = (G 0) 11 then nI (10 * z) else x) ((if_pos c_5).symm) ?_
                  refine lv_istore_n (lv' := [(2, .int (if (rTi (upd (G 0) 7 (nI (10 * z)), w.1, w.2) T).1 11 = (G 0) 11 then nI (10 * z) else x)), (0, .ref (a 0)), (1, .int (nI T)), (3, .int (nI (10 * z))), (4, .int ((G 0) 11)), (5, .int (nI T))]) hx hb dX8_leastCompressor_85 rfl hl (by decide) rfl (fun ls hl => ?_)
                  refine lv_aload_n hx hb dX8_leastCompressor_86 rfl (lv_at hl 1 rfl) ?_
                  refine z_callV (wn := (refW cs a (upd (upd V 2 ((rTi (upd (G 0) 7 (nI (10 * z)), w.1, w.2) T).2.1)) 3 ((rTi (upd (G 0) 7 (nI (10 * z)), w.1, w.2) T).2.2)) (zU (zU G 0 (G 0)) 2 (G 0)))) ⟨hx, hb, hml, hown, hts⟩ zY_X8_takesBack w_im_yX8_takesBack w_se_yX8_takesBack w_ml_X8_137 [] [] (c_X8_takesBack l D cs a (upd (upd V 2 ((rTi (upd (G 0) 7 (nI (10 * z)), w.1, w.2) T).2.1)) 3 ((rTi (upd (G 0) 7 (nI (10 * z)), w.1, w.2) T).2.2)) (zU (zU G 0 ((rTi (upd (G 0) 7 (nI (10 * z)), w.1, w.2) T).1)) 2 (G 0))) hE hK hA hP hD hS [0, 1, 2, 3, 4, 5, 6] rfl rfl rfl rfl 8 rfl rfl rfl rfl hl.1 (Nat.le_of_ble_eq_true rfl) ⟨Nat.le_of_ble_eq_true rfl, Nat.le_of_ble_eq_true rfl⟩ ⟨Nat.le_of_ble_eq_true rfl, Nat.le_of_ble_eq_true rfl⟩ dX8_leastCompressor_87 (fun H locs hP hD hS => ?_)
                  refine lv_iinc (v := (nI (10 * z)) + (-10)) (lv' := [(3, .int ((nI (10 * z)) + (-10))), (2, .int (if (rTi (upd (G 0) 7 (nI (10 * z)), w.1, w.2) T).1 11 = (G 0) 11 then nI (10 * z) else x)), (0, .ref (a 0)), (1, .int (nI T)), (4, .int ((G 0) 11)), (5, .int (nI T))]) hx hb dX8_leastCompressor_90 hl (k := 3) rfl rfl (by decide) rfl (fun ls hl => ?_)
                  refine lv_goto (tgt := 24) hx hb dX8_leastCompressor_93 (by decide) ?_
                  exact ih z (if (rTi (upd (G 0) 7 (nI (10 * z)), w.1, w.2) T).1 11 = (G 0) 11 then nI (10 * z) else x) ((rTi (upd (G 0) 7 (nI (10 * z)), w.1, w.2) T).2) (G 0) rfl h2 (Or.inr rfl) (by omega) _ _ _ hP hD hS (lv_sub hl [2, 3, 1, 0] rfl)
              · skip
                have gi : i < T := z_geK (n := T) rfl (by omega) hi1 c_4
                refine lv_aload_n hx hb dX8_leastCompressor_58 rfl (lv_at hl 0 rfl) ?_
                refine z_callV (wn := (refW cs a (upd (upd V 2 (bI (rWent (rT0 ((rTi (upd (G 0) 7 (nI (10 * z)), w.1, w.2) i).1))))) 3 (bI (rAllN (rT0 ((rTi (upd (G 0) 7 (nI (10 * z)), w.1, w.2) i).1)) 5))) (zU (zU G 0 (rTk ((rTi (upd (G 0) 7 (nI (10 * z)), w.1, w.2) i).1))) 2 (G 0)))) ⟨hx, hb, hml, hown, hts⟩ zY_X8_tick w_im_yX8_tick w_se_yX8_tick w_ml_X8_118 [] [] (c_X8_tick l D cs a (upd (upd V 2 ((rTi (upd (G 0) 7 (nI (10 * z)), w.1, w.2) i).2.1)) 3 ((rTi (upd (G 0) 7 (nI (10 * z)), w.1, w.2) i).2.2)) (zU (zU G 0 ((rTi (upd (G 0) 7 (nI (10 * z)), w.1, w.2) i).1)) 2 (G 0)) (rOK_Ti hokz)) hE hK hA hP hD hS [0, 1, 2, 3, 4, 5, 6] rfl rfl rfl rfl 8 rfl rfl rfl rfl hl.1 (Nat.le_of_ble_eq_true rfl) ⟨Nat.le_of_ble_eq_true rfl, Nat.le_of_ble_eq_true rfl⟩ ⟨Nat.le_of_ble_eq_true rfl, Nat.le_of_ble_eq_true rfl⟩ dX8_leastCompressor_59 (fun H locs hP hD hS => ?_)
                refine lv_iinc (v := nI (i + 1)) (lv' := [(5, .int (nI (i + 1))), (0, .ref (a 0)), (1, .int (nI T)), (2, .int x), (3, .int (nI (10 * z))), (4, .int ((G 0) 11))]) hx hb dX8_leastCompressor_62 hl (k := 5) rfl (show nI i + Int32.ofInt 1 = nI (i + 1) from nI_add i 1) (by decide) rfl (fun ls hl => ?_)
                refine lv_goto (tgt := 52) hx hb dX8_leastCompressor_65 (by decide) ?_
                exact ih2 (i + 1) (by omega) (by omega) _ _ _ hP hD hS (lv_sub hl [1, 2, 3, 4, 5, 0] rfl)
          have hP := z_eqP (w2 := (refW cs a (upd (upd V 2 ((rTi (upd (G 0) 7 (nI (10 * z)), w.1, w.2) 0).2.1)) 3 ((rTi (upd (G 0) 7 (nI (10 * z)), w.1, w.2) 0).2.2)) (zU (zU G 0 ((rTi (upd (G 0) 7 (nI (10 * z)), w.1, w.2) 0).1)) 2 (G 0)))) (by first | done | rfl) hP
          have hD : va_D A (refW cs a (upd (upd V 2 ((rTi (upd (G 0) 7 (nI (10 * z)), w.1, w.2) 0).2.1)) 3 ((rTi (upd (G 0) 7 (nI (10 * z)), w.1, w.2) 0).2.2)) (zU (zU G 0 ((rTi (upd (G 0) 7 (nI (10 * z)), w.1, w.2) 0).1)) 2 (G 0))) := z_eqD (by first | done | rfl) hD
          exact lp52 (T + 1) 0 (Nat.zero_le _) (by omega) _ _ _ hP hD hS (lv_sub hl [2, 3, 4, 5, 1, 0] rfl)
    have hl := hl
    have hP := z_eqP (w2 := (refW cs a (upd (upd V 2 ((V 2, V 3).1)) 3 ((V 2, V 3).2)) (zU G 2 (G 2)))) (by rw [upd_same (k := 2) rfl, upd_same (k := 3) rfl, zU_self]; first | done | rfl) hP
    have hD : va_D A (refW cs a (upd (upd V 2 ((V 2, V 3).1)) 3 ((V 2, V 3).2)) (zU G 2 (G 2))) := z_eqD (by rw [upd_same (k := 2) rfl, upd_same (k := 3) rfl, zU_self]; first | done | rfl) hD
    rw [show (500 : Int32) = nI (10 * 51) + (-10) by decide] at hl
    exact lp24 51 51 (-1) (V 2, V 3) (G 2) rfl rfl (Or.inl rfl) (by omega) _ _ _ hP hD hS (lv_sub hl [2, 3, 1, 0] rfl)
  · skip
    have c_1 := bI_0.mp c_1
    exact absurd q0 c_1

set_option maxHeartbeats 4000000 in
set_option maxRecDepth 100000 in
theorem c_X8_does (l : Launch) (D : va_G) (cs : zCs) (a : Nat → Nat) (V : Nat → Int32) (G : Nat → Nat → Int32) (d : Nat) (hok : rOK (G 0)) : zM l D cs yX8_does cX8_does 4 (some FieldType.boolean) 5 112 0 0 [.ref (a 0), .int (nI d)] (refW cs a V G) (some (.int ((rdsA (G 0) d (V 2, V 3)).1))) (refW cs a (upd (upd V 2 ((rdsA (G 0) d (V 2, V 3)).2.2.1)) 3 ((rdsA (G 0) d (V 2, V 3)).2.2.2)) (zU G 0 ((rdsA (G 0) d (V 2, V 3)).2.1))) := by
  refine zM.of (own := RX8) (by decide) (Nat.le_of_ble_eq_true rfl) rfl ?_
  intro pq eq s mq below meth cq A ls hx hb hr hml hown hts hlk hnm hE hK hA hP hD hS hl
  have hl : lv_has ls 4 [(0, .ref (a 0)), (1, .int (nI d))] := hl
  refine lv_aload_n hx hb dX8_does_0 rfl (lv_at hl 0 rfl) ?_
  refine va_get (D := D) (ci := 8) (v := .ref (a 1)) (C := RX8) (T := TX8) (N := 13) hx hb hts wsI_X8 hown hK hP 0 rfl rfl 0 (by decide) (hts _ w_fl_X8_7) (fun _ h9 => h9) rfl dX8_does_1 ?_
  refine lv_iconst (v := 3) hx hb dX8_does_4 (by decide) ?_
  refine lv_iload_n hx hb dX8_does_5 rfl (lv_at hl 1 rfl) ?_
  refine z_iast (k := 3) hx hb hK hP hD hS 1 rfl (by decide) (by first | decide | omega) dX8_does_6 (fun H locs hP hD hS => ?_)
  have hP : va_P D vwCl (refW cs a V (zU G 0 (upd (G 0) 3 (nI d)))) H := hP
  have hD : va_D A (refW cs a V (zU G 0 (upd (G 0) 3 (nI d)))) := hD
  refine lv_aload_n hx hb dX8_does_7 rfl (lv_at hl 0 rfl) ?_
  refine va_get (D := D) (ci := 8) (v := .ref (a 1)) (C := RX8) (T := TX8) (N := 13) hx hb hts wsI_X8 hown hK hP 0 rfl rfl 0 (by decide) (hts _ w_fl_X8_7) (fun _ h9 => h9) rfl dX8_does_8 ?_
  refine lv_iconst (v := 1) hx hb dX8_does_11 (by decide) ?_
  refine lv_iconst (v := 0) hx hb dX8_does_12 (by decide) ?_
  refine z_iast (k := 1) hx hb hK hP hD hS 1 rfl (by decide) (by first | decide | omega) dX8_does_13 (fun H locs hP hD hS => ?_)
  have hP : va_P D vwCl (refW cs a V (zU G 0 (upd (upd (G 0) 3 (nI d)) 1 0))) H := hP
  have hD : va_D A (refW cs a V (zU G 0 (upd (upd (G 0) 3 (nI d)) 1 0))) := hD
  refine lv_aload_n hx hb dX8_does_14 rfl (lv_at hl 0 rfl) ?_
  refine va_get (D := D) (ci := 8) (v := .ref (a 1)) (C := RX8) (T := TX8) (N := 13) hx hb hts wsI_X8 hown hK hP 0 rfl rfl 0 (by decide) (hts _ w_fl_X8_7) (fun _ h9 => h9) rfl dX8_does_15 ?_
  refine lv_iconst (v := 2) hx hb dX8_does_18 (by decide) ?_
  refine lv_iconst (v := 0) hx hb dX8_does_19 (by decide) ?_
  refine z_iast (k := 2) hx hb hK hP hD hS 1 rfl (by decide) (by first | decide | omega) dX8_does_20 (fun H locs hP hD hS => ?_)
  have hP : va_P D vwCl (refW cs a V (zU G 0 (upd (upd (upd (G 0) 3 (nI d)) 1 0) 2 0))) H := hP
  have hD : va_D A (refW cs a V (zU G 0 (upd (upd (upd (G 0) 3 (nI d)) 1 0) 2 0))) := hD
  refine lv_iconst (v := 0) hx hb dX8_does_21 (by decide) ?_
  refine lv_istore_n (lv' := [(2, .int 0), (0, .ref (a 0)), (1, .int (nI d))]) hx hb dX8_does_22 rfl hl (by decide) rfl (fun ls hl => ?_)
  have lp23 : ∀ (k : Nat) (i : Nat), (i ≤ 5) → (6 ≤ i + k) → ∀ (H : Heap) (locs : List Loc) (ls : Array Slot), va_P D vwCl (refW cs a V (zU G 0 (z5N (upd (upd (upd (G 0) 3 (nI d)) 1 0) 2 0) i))) H → va_D A (refW cs a V (zU G 0 (z5N (upd (upd (upd (G 0) 3 (nI d)) 1 0) 2 0) i))) → va_S A s.heap H locs → lv_has ls 4 [(0, .ref (a 0)), (1, .int (nI d)), (2, .int (nI i))] → W pq l eq ({ frames := 5, cells := 0, slots := 0, locals := 112 } : Room) s mq ([.ref (a 0), .int (nI d)] : List Value).toArray below meth cq H locs 0 0 (MQ below (zQ D cs (some (.int ((rdsA (G 0) d (V 2, V 3)).1))) (refW cs a (upd (upd V 2 ((rdsA (G 0) d (V 2, V 3)).2.2.1)) 3 ((rdsA (G 0) d (V 2, V 3)).2.2.2)) (zU G 0 ((rdsA (G 0) d (V 2, V 3)).2.1))) A) ([.ref (a 0), .int (nI d)] : List Value).toArray s 0 0 A) (F0 mq 23 ls []) := by
    intro k
    induction k with
    | zero =>
      intro i hi1 hi2 H locs ls hP hD hS hl
      omega
    | succ k ih =>
      intro i hi1 hi2 H locs ls hP hD hS hl
      refine lv_iload_n hx hb dX8_does_23 rfl (lv_at hl 2 rfl) ?_
      refine lv_iconst (v := 5) hx hb dX8_does_24 (by decide) ?_
      refine lv_icmp_ge (tgt := 47) hx hb dX8_does_25 (by decide) (fun c_1 => ?_) (fun c_1 => ?_)
      · skip
        have ei := z_leK (n := 5) rfl (by omega) hi1 c_1
        subst ei
        have hP : va_P D vwCl (refW cs a V (zU G 0 (rdz0 (G 0) d))) H := hP
        have hD : va_D A (refW cs a V (zU G 0 (rdz0 (G 0) d))) := hD
        refine lv_aload_n hx hb dX8_does_47 rfl (lv_at hl 0 rfl) ?_
        refine va_get (D := D) (ci := 8) (v := .ref (a 1)) (C := RX8) (T := TX8) (N := 13) hx hb hts wsI_X8 hown hK hP 0 rfl rfl 0 (by decide) (hts _ w_fl_X8_7) (fun _ h9 => h9) rfl dX8_does_48 ?_
        refine lv_bipush (v := 10) hx hb dX8_does_51 (by decide) ?_
        refine z_iald (k := 10) hx hb hK hP 1 rfl (by decide) (by first | decide | omega) dX8_does_53 ?_
        refine lv_istore_n (lv' := [(2, .int ((rdz0 (G 0) d) 10)), (0, .ref (a 0)), (1, .int (nI d))]) hx hb dX8_does_54 rfl hl (by decide) rfl (fun ls hl => ?_)
        refine lv_iconst (v := 0) hx hb dX8_does_55 (by decide) ?_
        refine lv_istore_n (lv' := [(3, .int 0), (2, .int ((rdz0 (G 0) d) 10)), (0, .ref (a 0)), (1, .int (nI d))]) hx hb dX8_does_56 rfl hl (by decide) rfl (fun ls hl => ?_)
        have lp57 : ∀ (k2 : Nat) (t : Nat) (q : zTq), (t + k2 = 1000) → (rdsT (rdz0 (G 0) d 10) k2 q = (rdsA (G 0) d (V 2, V 3))) → (rOK q.1) → ∀ (H : Heap) (locs : List Loc) (ls : Array Slot), va_P D vwCl (refW cs a (upd (upd V 2 q.2.1) 3 q.2.2) (zU G 0 q.1)) H → va_D A (refW cs a (upd (upd V 2 q.2.1) 3 q.2.2) (zU G 0 q.1)) → va_S A s.heap H locs → lv_has ls 4 [(0, .ref (a 0)), (1, .int (nI d)), (2, .int (rdz0 (G 0) d 10)), (3, .int (nI t))] → W pq l eq ({ frames := 5, cells := 0, slots := 0, locals := 112 } : Room) s mq ([.ref (a 0), .int (nI d)] : List Value).toArray below meth cq H locs 0 0 (MQ below (zQ D cs (some (.int ((rdsA (G 0) d (V 2, V 3)).1))) (refW cs a (upd (upd V 2 ((rdsA (G 0) d (V 2, V 3)).2.2.1)) 3 ((rdsA (G 0) d (V 2, V 3)).2.2.2)) (zU G 0 ((rdsA (G 0) d (V 2, V 3)).2.1))) A) ([.ref (a 0), .int (nI d)] : List Value).toArray s 0 0 A) (F0 mq 57 ls []) := by
          intro k2
          induction k2 with
          | zero =>
            intro t q h1 h2 hq H locs ls hP hD hS hl
            refine lv_iload_n hx hb dX8_does_57 rfl (lv_at hl 3 rfl) ?_
            refine lv_sipush (v := 1000) hx hb dX8_does_58 (by decide) ?_
            refine lv_icmp_ge (tgt := 101) hx hb dX8_does_61 (by decide) (fun c_2 => ?_) (fun c_2 => ?_)
            · skip
              have e9 : (rdsA (G 0) d (V 2, V 3)) = (bI ((rdz0 (G 0) d 10) < q.1 10), q) := by rw [← h2]; exact rfl
              refine lv_aload_n hx hb dX8_does_101 rfl (lv_at hl 0 rfl) ?_
              refine va_get (D := D) (ci := 8) (v := .ref (a 1)) (C := RX8) (T := TX8) (N := 13) hx hb hts wsI_X8 hown hK hP 0 rfl rfl 0 (by decide) (hts _ w_fl_X8_7) (fun _ h9 => h9) rfl dX8_does_102 ?_
              refine lv_bipush (v := 10) hx hb dX8_does_105 (by decide) ?_
              refine z_iald (k := 10) hx hb hK hP 1 rfl (by decide) (by first | decide | omega) dX8_does_107 ?_
              refine lv_iload_n hx hb dX8_does_108 rfl (lv_at hl 2 rfl) ?_
              refine lv_icmp_le (tgt := 116) hx hb dX8_does_109 (by decide) (fun c_3 => ?_) (fun c_3 => ?_)
              · skip
                refine lv_iconst (v := 0) hx hb dX8_does_116 (by decide) ?_
                exact z_zret hx hb hr hlk hK hP hD hS dX8_does_117 rfl (by rw [e9]; exact congrArg (fun z => some (Value.int z)) (bI_f (Int32.not_lt.mpr c_3)).symm) (by rw [e9])
              · skip
                refine lv_iconst (v := 1) hx hb dX8_does_112 (by decide) ?_
                refine lv_goto (tgt := 117) hx hb dX8_does_113 (by decide) ?_
                exact z_zret hx hb hr hlk hK hP hD hS dX8_does_117 rfl (by rw [e9]; exact congrArg (fun z => some (Value.int z)) (bI_t (Int32.not_le.mp c_3)).symm) (by rw [e9])
            · skip
              exact absurd ((nI_leI (a := 1000) (by omega) (by omega)).mpr (by omega)) c_2
          | succ k2 ih2 =>
            intro t q h1 h2 hq H locs ls hP hD hS hl
            refine lv_iload_n hx hb dX8_does_57 rfl (lv_at hl 3 rfl) ?_
            refine lv_sipush (v := 1000) hx hb dX8_does_58 (by decide) ?_
            refine lv_icmp_ge (tgt := 101) hx hb dX8_does_61 (by decide) (fun c_4 => ?_) (fun c_4 => ?_)
            · skip
              exact absurd ((nI_leI (a := 1000) (by omega) (by omega)).mp c_4) (by omega)
            · skip
              refine lv_aload_n hx hb dX8_does_64 rfl (lv_at hl 0 rfl) ?_
              refine va_get (D := D) (ci := 8) (v := .ref (a 1)) (C := RX8) (T := TX8) (N := 13) hx hb hts wsI_X8 hown hK hP 0 rfl rfl 0 (by decide) (hts _ w_fl_X8_7) (fun _ h9 => h9) rfl dX8_does_65 ?_
              refine lv_bipush (v := 10) hx hb dX8_does_68 (by decide) ?_
              refine z_iald (k := 10) hx hb hK hP 1 rfl (by decide) (by first | decide | omega) dX8_does_70 ?_
              refine lv_iload_n hx hb dX8_does_71 rfl (lv_at hl 2 rfl) ?_
              refine lv_icmp_ne (tgt := 101) hx hb dX8_does_72 (by decide) (fun c_5 => ?_) (fun c_5 => ?_)
              · skip
                have e9 : (rdsA (G 0) d (V 2, V 3)) = (bI ((rdz0 (G 0) d 10) < q.1 10), q) := by rw [← h2]; exact if_neg c_5
                refine lv_aload_n hx hb dX8_does_101 rfl (lv_at hl 0 rfl) ?_
                refine va_get (D := D) (ci := 8) (v := .ref (a 1)) (C := RX8) (T := TX8) (N := 13) hx hb hts wsI_X8 hown hK hP 0 rfl rfl 0 (by decide) (hts _ w_fl_X8_7) (fun _ h9 => h9) rfl dX8_does_102 ?_
                refine lv_bipush (v := 10) hx hb dX8_does_105 (by decide) ?_
                refine z_iald (k := 10) hx hb hK hP 1 rfl (by decide) (by first | decide | omega) dX8_does_107 ?_
                refine lv_iload_n hx hb dX8_does_108 rfl (lv_at hl 2 rfl) ?_
                refine lv_icmp_le (tgt := 116) hx hb dX8_does_109 (by decide) (fun c_6 => ?_) (fun c_6 => ?_)
                · skip
                  refine lv_iconst (v := 0) hx hb dX8_does_116 (by decide) ?_
                  exact z_zret hx hb hr hlk hK hP hD hS dX8_does_117 rfl (by rw [e9]; exact congrArg (fun z => some (Value.int z)) (bI_f (Int32.not_lt.mpr c_6)).symm) (by rw [e9])
                · skip
                  refine lv_iconst (v := 1) hx hb dX8_does_112 (by decide) ?_
                  refine lv_goto (tgt := 117) hx hb dX8_does_113 (by decide) ?_
                  exact z_zret hx hb hr hlk hK hP hD hS dX8_does_117 rfl (by rw [e9]; exact congrArg (fun z => some (Value.int z)) (bI_t (Int32.not_le.mp c_6)).symm) (by rw [e9])
              · skip
                refine lv_aload_n hx hb dX8_does_75 rfl (lv_at hl 0 rfl) ?_
                refine z_callV (wn := (refW cs a (upd (upd V 2 (bI (rWent (rT0 q.1)))) 3 (bI (rAllN (rT0 q.1) 5))) (zU G 0 (rTk q.1)))) ⟨hx, hb, hml, hown, hts⟩ zY_X8_tick w_im_yX8_tick w_se_yX8_tick w_ml_X8_118 [] [] (c_X8_tick l D cs a (upd (upd V 2 q.2.1) 3 q.2.2) (zU G 0 q.1) hq) hE hK hA hP hD hS [0, 1, 2, 3, 4, 5, 6] rfl rfl rfl rfl 8 rfl rfl rfl rfl hl.1 (Nat.le_of_ble_eq_true rfl) ⟨Nat.le_of_ble_eq_true rfl, Nat.le_of_ble_eq_true rfl⟩ ⟨Nat.le_of_ble_eq_true rfl, Nat.le_of_ble_eq_true rfl⟩ dX8_does_76 (fun H locs hP hD hS => ?_)
                refine lv_aload_n hx hb dX8_does_79 rfl (lv_at hl 0 rfl) ?_
                refine va_get (D := D) (ci := 8) (v := .int (bI (rWent (rT0 q.1)))) (C := RX8) (T := TX8) (N := 13) hx hb hts wsI_X8 hown hK hP 0 rfl rfl 5 (by decide) (hts _ w_fl_X8_99) (fun _ h9 => h9) rfl dX8_does_80 ?_
                refine lv_if_eq (tgt := 95) hx hb dX8_does_83 (by decide) (fun c_7 => ?_) (fun c_7 => ?_)
                · skip
                  have c_7 := bI_0.mp c_7
                  refine lv_iinc (v := nI (t + 1)) (lv' := [(3, .int (nI (t + 1))), (0, .ref (a 0)), (1, .int (nI d)), (2, .int (rdz0 (G 0) d 10))]) hx hb dX8_does_95 hl (k := 3) rfl (show nI t + Int32.ofInt 1 = nI (t + 1) from nI_add t 1) (by decide) rfl (fun ls hl => ?_)
                  refine lv_goto (tgt := 57) hx hb dX8_does_98 (by decide) ?_
                  exact ih2 (t + 1) (rTq q) (by omega) (by rw [← h2]; exact ((if_pos c_5).trans (if_neg (fun h => c_7 h.1))).symm) (rOK_tk hq) _ _ _ hP hD hS (lv_sub hl [1, 2, 3, 0] rfl)
                · skip
                  have c_7 := bI_n0 c_7
                  refine lv_aload_n hx hb dX8_does_86 rfl (lv_at hl 0 rfl) ?_
                  refine va_get (D := D) (ci := 8) (v := .int (bI (rAllN (rT0 q.1) 5))) (C := RX8) (T := TX8) (N := 13) hx hb hts wsI_X8 hown hK hP 0 rfl rfl 6 (by decide) (hts _ w_fl_X8_107) (fun _ h9 => h9) rfl dX8_does_87 ?_
                  refine lv_if_ne (tgt := 95) hx hb dX8_does_90 (by decide) (fun c_8 => ?_) (fun c_8 => ?_)
                  · skip
                    have c_8 := bI_n0 c_8
                    refine lv_iinc (v := nI (t + 1)) (lv' := [(3, .int (nI (t + 1))), (0, .ref (a 0)), (1, .int (nI d)), (2, .int (rdz0 (G 0) d 10))]) hx hb dX8_does_95 hl (k := 3) rfl (show nI t + Int32.ofInt 1 = nI (t + 1) from nI_add t 1) (by decide) rfl (fun ls hl => ?_)
                    refine lv_goto (tgt := 57) hx hb dX8_does_98 (by decide) ?_
                    exact ih2 (t + 1) (rTq q) (by omega) (by rw [← h2]; exact ((if_pos c_5).trans (if_neg (fun h => h.2 c_8))).symm) (rOK_tk hq) _ _ _ hP hD hS (lv_sub hl [1, 2, 3, 0] rfl)
                  · skip
                    have c_8 := bI_0.mp c_8
                    refine lv_iconst (v := 0) hx hb dX8_does_93 (by decide) ?_
                    have e9 : (rdsA (G 0) d (V 2, V 3)) = (0, rTq q) := by rw [← h2]; exact (if_pos c_5).trans (if_pos ⟨c_7, c_8⟩)
                    exact z_zret hx hb hr hlk hK hP hD hS dX8_does_94 rfl (by rw [e9]) (by rw [e9]; rfl)
        have hP := z_eqP (w2 := (refW cs a (upd (upd V 2 ((rdz0 (G 0) d, V 2, V 3).2.1)) 3 ((rdz0 (G 0) d, V 2, V 3).2.2)) (zU G 0 ((rdz0 (G 0) d, V 2, V 3).1)))) (by first | done | rfl) hP
        have hD : va_D A (refW cs a (upd (upd V 2 ((rdz0 (G 0) d, V 2, V 3).2.1)) 3 ((rdz0 (G 0) d, V 2, V 3).2.2)) (zU G 0 ((rdz0 (G 0) d, V 2, V 3).1))) := z_eqD (by first | done | rfl) hD
        exact lp57 1000 0 (rdz0 (G 0) d, V 2, V 3) rfl rfl (rOK_d0 hok) _ _ _ hP hD hS (lv_sub hl [2, 3, 1, 0] rfl)
      · skip
        have gi : i < 5 := z_geK (n := 5) rfl (by omega) hi1 c_1
        refine lv_aload_n hx hb dX8_does_28 rfl (lv_at hl 0 rfl) ?_
        refine va_get (D := D) (ci := 8) (v := .ref (a 1)) (C := RX8) (T := TX8) (N := 13) hx hb hts wsI_X8 hown hK hP 0 rfl rfl 0 (by decide) (hts _ w_fl_X8_7) (fun _ h9 => h9) rfl dX8_does_29 ?_
        refine lv_bipush (v := 21) hx hb dX8_does_32 (by decide) ?_
        refine lv_bipush (v := 6) hx hb dX8_does_34 (by decide) ?_
        refine lv_iload_n hx hb dX8_does_36 rfl (lv_at hl 2 rfl) ?_
        refine lv_imul hx hb dX8_does_37 ?_
        refine z_top (y := nI (6 * i)) (pk_mul 6 i) ?_
        refine lv_iadd hx hb dX8_does_38 ?_
        refine z_top (y := nI (21 + (6 * i))) (nI_add 21 (6 * i)) ?_
        refine lv_iconst (v := 0) hx hb dX8_does_39 (by decide) ?_
        refine z_iast (k := 21 + (6 * i)) hx hb hK hP hD hS 1 rfl (by omega) (by first | decide | omega) dX8_does_40 (fun H locs hP hD hS => ?_)
        have hP : va_P D vwCl (refW cs a V (zU G 0 (upd (z5N (upd (upd (upd (G 0) 3 (nI d)) 1 0) 2 0) i) (21 + (6 * i)) 0))) H := hP
        have hD : va_D A (refW cs a V (zU G 0 (upd (z5N (upd (upd (upd (G 0) 3 (nI d)) 1 0) 2 0) i) (21 + (6 * i)) 0))) := hD
        refine lv_iinc (v := nI (i + 1)) (lv' := [(2, .int (nI (i + 1))), (0, .ref (a 0)), (1, .int (nI d))]) hx hb dX8_does_41 hl (k := 2) rfl (show nI i + Int32.ofInt 1 = nI (i + 1) from nI_add i 1) (by decide) rfl (fun ls hl => ?_)
        refine lv_goto (tgt := 23) hx hb dX8_does_44 (by decide) ?_
        exact ih (i + 1) (by omega) (by omega) _ _ _ hP hD hS (lv_sub hl [1, 2, 0] rfl)
  exact lp23 6 0 (Nat.zero_le _) (by omega) _ _ _ hP hD hS (lv_sub hl [1, 2, 0] rfl)

set_option maxHeartbeats 4000000 in
set_option maxRecDepth 100000 in
theorem c_X8_shortestDwell (l : Launch) (D : va_G) (cs : zCs) (a : Nat → Nat) (V : Nat → Int32) (G : Nat → Nat → Int32) (hok : rOK (G 0)) : zM l D cs yX8_shortestDwell cX8_shortestDwell 3 (some FieldType.int) 6 135 0 0 [.ref (a 0)] (refW cs a V G) (some (.int ((rsdN (G 0) 20 1 (-1) (V 2, V 3)).1))) (refW cs a (upd (upd (upd V 1 0) 2 ((rsdN (G 0) 20 1 (-1) (V 2, V 3)).2.1)) 3 ((rsdN (G 0) 20 1 (-1) (V 2, V 3)).2.2)) (zU (zU G 0 (G 0)) 2 (G 0))) := by
  refine zM.of (own := RX8) (by decide) (Nat.le_of_ble_eq_true rfl) rfl ?_
  intro pq eq s mq below meth cq A ls hx hb hr hml hown hts hlk hnm hE hK hA hP hD hS hl
  have hl : lv_has ls 3 [(0, .ref (a 0))] := hl
  refine lv_iconst (v := (-1)) hx hb dX8_shortestDwell_0 (by decide) ?_
  refine lv_istore_n (lv' := [(1, .int (-1)), (0, .ref (a 0))]) hx hb dX8_shortestDwell_1 rfl hl (by decide) rfl (fun ls hl => ?_)
  refine lv_iconst (v := 1) hx hb dX8_shortestDwell_2 (by decide) ?_
  refine lv_istore_n (lv' := [(2, .int 1), (1, .int (-1)), (0, .ref (a 0))]) hx hb dX8_shortestDwell_3 rfl hl (by decide) rfl (fun ls hl => ?_)
  have lp4 : ∀ (k : Nat) (d : Nat) (x : Int32) (w : Int32 × Int32) (g2 : Nat → Int32), (d + k = 21) → (rsdN (G 0) k d x w = (rsdN (G 0) 20 1 (-1) (V 2, V 3))) → ((d = 1 ∧ x = -1) ∨ g2 = G 0) → ∀ (H : Heap) (locs : List Loc) (ls : Array Slot), va_P D vwCl (refW cs a (upd (upd V 2 w.1) 3 w.2) (zU G 2 g2)) H → va_D A (refW cs a (upd (upd V 2 w.1) 3 w.2) (zU G 2 g2)) → va_S A s.heap H locs → lv_has ls 3 [(0, .ref (a 0)), (1, .int x), (2, .int (nI d))] → W pq l eq ({ frames := 6, cells := 0, slots := 0, locals := 135 } : Room) s mq ([.ref (a 0)] : List Value).toArray below meth cq H locs 0 0 (MQ below (zQ D cs (some (.int ((rsdN (G 0) 20 1 (-1) (V 2, V 3)).1))) (refW cs a (upd (upd (upd V 1 0) 2 ((rsdN (G 0) 20 1 (-1) (V 2, V 3)).2.1)) 3 ((rsdN (G 0) 20 1 (-1) (V 2, V 3)).2.2)) (zU (zU G 0 (G 0)) 2 (G 0))) A) ([.ref (a 0)] : List Value).toArray s 0 0 A) (F0 mq 4 ls []) := by
    intro k
    induction k with
    | zero =>
      intro d x w g2 h1 h2 h3 H locs ls hP hD hS hl
      refine lv_iload_n hx hb dX8_shortestDwell_4 rfl (lv_at hl 2 rfl) ?_
      refine lv_bipush (v := 20) hx hb dX8_shortestDwell_5 (by decide) ?_
      refine lv_icmp_gt (tgt := 43) hx hb dX8_shortestDwell_7 (by decide) (fun c_1 => ?_) (fun c_1 => ?_)
      · skip
        have e9 : (rsdN (G 0) 20 1 (-1) (V 2, V 3)) = (x, w) := by rw [← h2]; exact rfl
        have eg : g2 = G 0 := h3.elim (fun h => absurd h.1 (by omega)) id
        refine lv_aload_n hx hb dX8_shortestDwell_43 rfl (lv_at hl 0 rfl) ?_
        refine lv_iload_n hx hb dX8_shortestDwell_44 rfl (lv_at hl 1 rfl) ?_
        refine z_callV (wn := (refW cs a (upd (upd (upd V 1 0) 2 w.1) 3 w.2) (zU G 2 g2))) ⟨hx, hb, hml, hown, hts⟩ zY_X8_fine w_im_yX8_fine w_se_yX8_fine w_ml_X8_65 [.int x] [] (c_X8_fine l D cs a (upd (upd V 2 w.1) 3 w.2) (zU G 2 g2) x) hE hK hA hP hD hS [0, 1, 2, 3, 4, 5, 6] rfl rfl rfl rfl 8 rfl rfl rfl rfl hl.1 (Nat.le_of_ble_eq_true rfl) ⟨Nat.le_of_ble_eq_true rfl, Nat.le_of_ble_eq_true rfl⟩ ⟨Nat.le_of_ble_eq_true rfl, Nat.le_of_ble_eq_true rfl⟩ dX8_shortestDwell_45 (fun H locs hP hD hS => ?_)
        exact z_iret hx hb hr hlk hK hP hD hS dX8_shortestDwell_48 (by rw [e9]) (by rw [e9, eg]; first | done | rfl)
      · skip
        exact absurd ((nI_ltI (a := 20) (by omega) (by omega)).mpr (by omega)) c_1
    | succ k ih =>
      intro d x w g2 h1 h2 h3 H locs ls hP hD hS hl
      refine lv_iload_n hx hb dX8_shortestDwell_4 rfl (lv_at hl 2 rfl) ?_
      refine lv_bipush (v := 20) hx hb dX8_shortestDwell_5 (by decide) ?_
      refine lv_icmp_gt (tgt := 43) hx hb dX8_shortestDwell_7 (by decide) (fun c_2 => ?_) (fun c_2 => ?_)
      · skip
        exact absurd ((nI_ltI (a := 20) (by omega) (by omega)).mp c_2) (by omega)
      · skip
        refine lv_iload_n hx hb dX8_shortestDwell_10 rfl (lv_at hl 1 rfl) ?_
        refine lv_iconst (v := (-1)) hx hb dX8_shortestDwell_11 (by decide) ?_
        refine lv_icmp_ne (tgt := 43) hx hb dX8_shortestDwell_12 (by decide) (fun c_3 => ?_) (fun c_3 => ?_)
        · skip
          have e9 : (rsdN (G 0) 20 1 (-1) (V 2, V 3)) = (x, w) := by rw [← h2]; exact if_neg c_3
          have eg : g2 = G 0 := h3.elim (fun h => absurd h.2 c_3) id
          refine lv_aload_n hx hb dX8_shortestDwell_43 rfl (lv_at hl 0 rfl) ?_
          refine lv_iload_n hx hb dX8_shortestDwell_44 rfl (lv_at hl 1 rfl) ?_
          refine z_callV (wn := (refW cs a (upd (upd (upd V 1 0) 2 w.1) 3 w.2) (zU G 2 g2))) ⟨hx, hb, hml, hown, hts⟩ zY_X8_fine w_im_yX8_fine w_se_yX8_fine w_ml_X8_65 [.int x] [] (c_X8_fine l D cs a (upd (upd V 2 w.1) 3 w.2) (zU G 2 g2) x) hE hK hA hP hD hS [0, 1, 2, 3, 4, 5, 6] rfl rfl rfl rfl 8 rfl rfl rfl rfl hl.1 (Nat.le_of_ble_eq_true rfl) ⟨Nat.le_of_ble_eq_true rfl, Nat.le_of_ble_eq_true rfl⟩ ⟨Nat.le_of_ble_eq_true rfl, Nat.le_of_ble_eq_true rfl⟩ dX8_shortestDwell_45 (fun H locs hP hD hS => ?_)
          exact z_iret hx hb hr hlk hK hP hD hS dX8_shortestDwell_48 (by rw [e9]) (by rw [e9, eg]; first | done | rfl)
        · skip
          refine lv_aload_n hx hb dX8_shortestDwell_15 rfl (lv_at hl 0 rfl) ?_
          refine z_callV (wn := (refW cs a (upd (upd V 2 w.1) 3 w.2) (zU G 2 (G 0)))) ⟨hx, hb, hml, hown, hts⟩ zY_X8_laysAside w_im_yX8_laysAside w_se_yX8_laysAside w_ml_X8_134 [] [] (c_X8_laysAside l D cs a (upd (upd V 2 w.1) 3 w.2) (zU G 2 g2)) hE hK hA hP hD hS [0, 1, 2, 3, 4, 5, 6] rfl rfl rfl rfl 8 rfl rfl rfl rfl hl.1 (Nat.le_of_ble_eq_true rfl) ⟨Nat.le_of_ble_eq_true rfl, Nat.le_of_ble_eq_true rfl⟩ ⟨Nat.le_of_ble_eq_true rfl, Nat.le_of_ble_eq_true rfl⟩ dX8_shortestDwell_16 (fun H locs hP hD hS => ?_)
          refine lv_aload_n hx hb dX8_shortestDwell_19 rfl (lv_at hl 0 rfl) ?_
          refine lv_iload_n hx hb dX8_shortestDwell_20 rfl (lv_at hl 2 rfl) ?_
          refine z_callV (wn := (refW cs a (upd (upd V 2 ((rdsA (G 0) d (w.1, w.2)).2.2.1)) 3 ((rdsA (G 0) d (w.1, w.2)).2.2.2)) (zU (zU G 0 ((rdsA (G 0) d (w.1, w.2)).2.1)) 2 (G 0)))) ⟨hx, hb, hml, hown, hts⟩ zY_X8_does w_im_yX8_does w_se_yX8_does w_ml_X8_149 [.int (nI d)] [] (c_X8_does l D cs a (upd (upd V 2 w.1) 3 w.2) (zU G 2 (G 0)) d hok) hE hK hA hP hD hS [0, 1, 2, 3, 4, 5, 6] rfl rfl rfl rfl 8 rfl rfl rfl rfl hl.1 (Nat.le_of_ble_eq_true rfl) ⟨Nat.le_of_ble_eq_true rfl, Nat.le_of_ble_eq_true rfl⟩ ⟨Nat.le_of_ble_eq_true rfl, Nat.le_of_ble_eq_true rfl⟩ dX8_shortestDwell_21 (fun H locs hP hD hS => ?_)
          refine lv_if_eq (tgt := 31) hx hb dX8_shortestDwell_24 (by decide) (fun c_4 => ?_) (fun c_4 => ?_)
          · skip
            refine lv_iconst (v := (-1)) hx hb dX8_shortestDwell_31 (by decide) ?_
            refine z_top (y := if (rdsA (G 0) d w).1 = 0 then -1 else nI d) ((if_pos c_4).symm) ?_
            refine lv_istore_n (lv' := [(1, .int (if (rdsA (G 0) d w).1 = 0 then -1 else nI d)), (0, .ref (a 0)), (2, .int (nI d))]) hx hb dX8_shortestDwell_32 rfl hl (by decide) rfl (fun ls hl => ?_)
            refine lv_aload_n hx hb dX8_shortestDwell_33 rfl (lv_at hl 1 rfl) ?_
            refine z_callV (wn := (refW cs a (upd (upd V 2 ((rdsA (G 0) d (w.1, w.2)).2.2.1)) 3 ((rdsA (G 0) d (w.1, w.2)).2.2.2)) (zU (zU G 0 (G 0)) 2 (G 0)))) ⟨hx, hb, hml, hown, hts⟩ zY_X8_takesBack w_im_yX8_takesBack w_se_yX8_takesBack w_ml_X8_137 [] [] (c_X8_takesBack l D cs a (upd (upd V 2 ((rdsA (G 0) d (w.1, w.2)).2.2.1)) 3 ((rdsA (G 0) d (w.1, w.2)).2.2.2)) (zU (zU G 0 ((rdsA (G 0) d (w.1, w.2)).2.1)) 2 (G 0))) hE hK hA hP hD hS [0, 1, 2, 3, 4, 5, 6] rfl rfl rfl rfl 8 rfl rfl rfl rfl hl.1 (Nat.le_of_ble_eq_true rfl) ⟨Nat.le_of_ble_eq_true rfl, Nat.le_of_ble_eq_true rfl⟩ ⟨Nat.le_of_ble_eq_true rfl, Nat.le_of_ble_eq_true rfl⟩ dX8_shortestDwell_34 (fun H locs hP hD hS => ?_)
            refine lv_iinc (v := nI (d + 1)) (lv' := [(2, .int (nI (d + 1))), (1, .int (if (rdsA (G 0) d w).1 = 0 then -1 else nI d)), (0, .ref (a 0))]) hx hb dX8_shortestDwell_37 hl (k := 2) rfl (show nI d + Int32.ofInt 1 = nI (d + 1) from nI_add d 1) (by decide) rfl (fun ls hl => ?_)
            refine lv_goto (tgt := 4) hx hb dX8_shortestDwell_40 (by decide) ?_
            exact ih (d + 1) (if (rdsA (G 0) d w).1 = 0 then -1 else nI d) ((rdsA (G 0) d w).2.2) (G 0) (by omega) (by rw [← h2]; exact (if_pos c_3).symm) (Or.inr rfl) _ _ _ hP hD hS (lv_sub hl [2, 1, 0] rfl)
          · skip
            refine lv_iload_n hx hb dX8_shortestDwell_27 rfl (lv_at hl 2 rfl) ?_
            refine lv_goto (tgt := 32) hx hb dX8_shortestDwell_28 (by decide) ?_
            refine z_top (y := if (rdsA (G 0) d w).1 = 0 then -1 else nI d) ((if_neg c_4).symm) ?_
            refine lv_istore_n (lv' := [(1, .int (if (rdsA (G 0) d w).1 = 0 then -1 else nI d)), (0, .ref (a 0)), (2, .int (nI d))]) hx hb dX8_shortestDwell_32 rfl hl (by decide) rfl (fun ls hl => ?_)
            refine lv_aload_n hx hb dX8_shortestDwell_33 rfl (lv_at hl 1 rfl) ?_
            refine z_callV (wn := (refW cs a (upd (upd V 2 ((rdsA (G 0) d (w.1, w.2)).2.2.1)) 3 ((rdsA (G 0) d (w.1, w.2)).2.2.2)) (zU (zU G 0 (G 0)) 2 (G 0)))) ⟨hx, hb, hml, hown, hts⟩ zY_X8_takesBack w_im_yX8_takesBack w_se_yX8_takesBack w_ml_X8_137 [] [] (c_X8_takesBack l D cs a (upd (upd V 2 ((rdsA (G 0) d (w.1, w.2)).2.2.1)) 3 ((rdsA (G 0) d (w.1, w.2)).2.2.2)) (zU (zU G 0 ((rdsA (G 0) d (w.1, w.2)).2.1)) 2 (G 0))) hE hK hA hP hD hS [0, 1, 2, 3, 4, 5, 6] rfl rfl rfl rfl 8 rfl rfl rfl rfl hl.1 (Nat.le_of_ble_eq_true rfl) ⟨Nat.le_of_ble_eq_true rfl, Nat.le_of_ble_eq_true rfl⟩ ⟨Nat.le_of_ble_eq_true rfl, Nat.le_of_ble_eq_true rfl⟩ dX8_shortestDwell_34 (fun H locs hP hD hS => ?_)
            refine lv_iinc (v := nI (d + 1)) (lv' := [(2, .int (nI (d + 1))), (1, .int (if (rdsA (G 0) d w).1 = 0 then -1 else nI d)), (0, .ref (a 0))]) hx hb dX8_shortestDwell_37 hl (k := 2) rfl (show nI d + Int32.ofInt 1 = nI (d + 1) from nI_add d 1) (by decide) rfl (fun ls hl => ?_)
            refine lv_goto (tgt := 4) hx hb dX8_shortestDwell_40 (by decide) ?_
            exact ih (d + 1) (if (rdsA (G 0) d w).1 = 0 then -1 else nI d) ((rdsA (G 0) d w).2.2) (G 0) (by omega) (by rw [← h2]; exact (if_pos c_3).symm) (Or.inr rfl) _ _ _ hP hD hS (lv_sub hl [2, 1, 0] rfl)
  have hP := z_eqP (w2 := (refW cs a (upd (upd V 2 ((V 2, V 3).1)) 3 ((V 2, V 3).2)) (zU G 2 (G 2)))) (by rw [upd_same (k := 2) rfl, upd_same (k := 3) rfl, zU_self]; first | done | rfl) hP
  have hD : va_D A (refW cs a (upd (upd V 2 ((V 2, V 3).1)) 3 ((V 2, V 3).2)) (zU G 2 (G 2))) := z_eqD (by rw [upd_same (k := 2) rfl, upd_same (k := 3) rfl, zU_self]; first | done | rfl) hD
  exact lp4 20 1 (-1) (V 2, V 3) (G 2) rfl rfl (Or.inl ⟨rfl, rfl⟩) _ _ _ hP hD hS (lv_sub hl [2, 1, 0] rfl)

set_option maxHeartbeats 4000000 in
set_option maxRecDepth 100000 in
theorem c_X8_behind (l : Launch) (D : va_G) (cs : zCs) (a : Nat → Nat) (V : Nat → Int32) (G : Nat → Nat → Int32) (i : Nat) (hi : i < 8) : zM l D cs yX8_behind cX8_behind 2 (some FieldType.int) 1 21 0 0 [.ref (a 0), .int (nI i)] (refW cs a V G) (some (.int (rbh (G 0) i))) (refW cs a V G) := by
  refine zM.of (own := RX8) (by decide) (Nat.le_of_ble_eq_true rfl) rfl ?_
  intro pq eq s mq below meth cq A ls hx hb hr hml hown hts hlk hnm hE hK hA hP hD hS hl
  have hl : lv_has ls 2 [(0, .ref (a 0)), (1, .int (nI i))] := hl
  rcases (show i = 0 ∨ i = 1 ∨ i = 2 ∨ i = 3 ∨ i = 4 ∨ i = 5 ∨ i = 6 ∨ i = 7 by omega) with rfl | rfl | rfl | rfl | rfl | rfl | rfl | rfl
  · skip
    refine lv_iload_n hx hb dX8_behind_0 rfl (lv_at hl 1 rfl) ?_
    refine lv_if_ne (tgt := 13) hx hb dX8_behind_1 (by decide) (fun c_1 => ?_) (fun c_1 => ?_)
    · skip
      exact absurd (by decide) c_1
    · skip
      refine lv_aload_n hx hb dX8_behind_4 rfl (lv_at hl 0 rfl) ?_
      refine va_get (D := D) (ci := 8) (v := .ref (a 1)) (C := RX8) (T := TX8) (N := 13) hx hb hts wsI_X8 hown hK hP 0 rfl rfl 0 (by decide) (hts _ w_fl_X8_7) (fun _ h9 => h9) rfl dX8_behind_5 ?_
      refine lv_iconst (v := 1) hx hb dX8_behind_8 (by decide) ?_
      refine z_iald (k := 1) hx hb hK hP 1 rfl (by decide) (by first | decide | omega) dX8_behind_9 ?_
      refine lv_goto (tgt := 48) hx hb dX8_behind_10 (by decide) ?_
      exact z_iret hx hb hr hlk hK hP hD hS dX8_behind_48 rfl rfl
  · skip
    refine lv_iload_n hx hb dX8_behind_0 rfl (lv_at hl 1 rfl) ?_
    refine lv_if_ne (tgt := 13) hx hb dX8_behind_1 (by decide) (fun c_2 => ?_) (fun c_2 => ?_)
    · skip
      refine lv_iload_n hx hb dX8_behind_13 rfl (lv_at hl 1 rfl) ?_
      refine lv_iconst (v := 1) hx hb dX8_behind_14 (by decide) ?_
      refine lv_icmp_ne (tgt := 27) hx hb dX8_behind_15 (by decide) (fun c_3 => ?_) (fun c_3 => ?_)
      · skip
        exact absurd (by decide) c_3
      · skip
        refine lv_aload_n hx hb dX8_behind_18 rfl (lv_at hl 0 rfl) ?_
        refine va_get (D := D) (ci := 8) (v := .ref (a 1)) (C := RX8) (T := TX8) (N := 13) hx hb hts wsI_X8 hown hK hP 0 rfl rfl 0 (by decide) (hts _ w_fl_X8_7) (fun _ h9 => h9) rfl dX8_behind_19 ?_
        refine lv_iconst (v := 2) hx hb dX8_behind_22 (by decide) ?_
        refine z_iald (k := 2) hx hb hK hP 1 rfl (by decide) (by first | decide | omega) dX8_behind_23 ?_
        refine lv_goto (tgt := 48) hx hb dX8_behind_24 (by decide) ?_
        exact z_iret hx hb hr hlk hK hP hD hS dX8_behind_48 rfl rfl
    · skip
      exact absurd c_2 (by decide)
  · skip
    refine lv_iload_n hx hb dX8_behind_0 rfl (lv_at hl 1 rfl) ?_
    refine lv_if_ne (tgt := 13) hx hb dX8_behind_1 (by decide) (fun c_4 => ?_) (fun c_4 => ?_)
    · skip
      refine lv_iload_n hx hb dX8_behind_13 rfl (lv_at hl 1 rfl) ?_
      refine lv_iconst (v := 1) hx hb dX8_behind_14 (by decide) ?_
      refine lv_icmp_ne (tgt := 27) hx hb dX8_behind_15 (by decide) (fun c_5 => ?_) (fun c_5 => ?_)
      · skip
        refine lv_iload_n hx hb dX8_behind_27 rfl (lv_at hl 1 rfl) ?_
        refine lv_iconst (v := 2) hx hb dX8_behind_28 (by decide) ?_
        refine lv_icmp_ne (tgt := 41) hx hb dX8_behind_29 (by decide) (fun c_6 => ?_) (fun c_6 => ?_)
        · skip
          exact absurd (by decide) c_6
        · skip
          refine lv_aload_n hx hb dX8_behind_32 rfl (lv_at hl 0 rfl) ?_
          refine va_get (D := D) (ci := 8) (v := .ref (a 1)) (C := RX8) (T := TX8) (N := 13) hx hb hts wsI_X8 hown hK hP 0 rfl rfl 0 (by decide) (hts _ w_fl_X8_7) (fun _ h9 => h9) rfl dX8_behind_33 ?_
          refine lv_iconst (v := 5) hx hb dX8_behind_36 (by decide) ?_
          refine z_iald (k := 5) hx hb hK hP 1 rfl (by decide) (by first | decide | omega) dX8_behind_37 ?_
          refine lv_goto (tgt := 48) hx hb dX8_behind_38 (by decide) ?_
          exact z_iret hx hb hr hlk hK hP hD hS dX8_behind_48 rfl rfl
      · skip
        exact absurd c_5 (by decide)
    · skip
      exact absurd c_4 (by decide)
  · skip
    refine lv_iload_n hx hb dX8_behind_0 rfl (lv_at hl 1 rfl) ?_
    refine lv_if_ne (tgt := 13) hx hb dX8_behind_1 (by decide) (fun c_7 => ?_) (fun c_7 => ?_)
    · skip
      refine lv_iload_n hx hb dX8_behind_13 rfl (lv_at hl 1 rfl) ?_
      refine lv_iconst (v := 1) hx hb dX8_behind_14 (by decide) ?_
      refine lv_icmp_ne (tgt := 27) hx hb dX8_behind_15 (by decide) (fun c_8 => ?_) (fun c_8 => ?_)
      · skip
        refine lv_iload_n hx hb dX8_behind_27 rfl (lv_at hl 1 rfl) ?_
        refine lv_iconst (v := 2) hx hb dX8_behind_28 (by decide) ?_
        refine lv_icmp_ne (tgt := 41) hx hb dX8_behind_29 (by decide) (fun c_9 => ?_) (fun c_9 => ?_)
        · skip
          refine lv_aload_n hx hb dX8_behind_41 rfl (lv_at hl 0 rfl) ?_
          refine lv_iload_n hx hb dX8_behind_42 rfl (lv_at hl 1 rfl) ?_
          refine lv_iconst (v := 3) hx hb dX8_behind_43 (by decide) ?_
          refine lv_isub hx hb dX8_behind_44 ?_
          refine z_top (y := 0) (by decide) ?_
          refine z_callV (wn := (refW cs a V G)) ⟨hx, hb, hml, hown, hts⟩ zY_X8_out w_im_yX8_out w_se_yX8_out w_ml_X8_76 [.int 0] [] (c_X8_out l D cs a V G 0 (by decide)) hE hK hA hP hD hS [0, 1, 2, 3, 4, 5, 6] rfl rfl rfl rfl 8 rfl rfl rfl rfl hl.1 (Nat.le_of_ble_eq_true rfl) ⟨Nat.le_of_ble_eq_true rfl, Nat.le_of_ble_eq_true rfl⟩ ⟨Nat.le_of_ble_eq_true rfl, Nat.le_of_ble_eq_true rfl⟩ dX8_behind_45 (fun H locs hP hD hS => ?_)
          exact z_iret hx hb hr hlk hK hP hD hS dX8_behind_48 rfl rfl
        · skip
          exact absurd c_9 (by decide)
      · skip
        exact absurd c_8 (by decide)
    · skip
      exact absurd c_7 (by decide)
  · skip
    refine lv_iload_n hx hb dX8_behind_0 rfl (lv_at hl 1 rfl) ?_
    refine lv_if_ne (tgt := 13) hx hb dX8_behind_1 (by decide) (fun c_10 => ?_) (fun c_10 => ?_)
    · skip
      refine lv_iload_n hx hb dX8_behind_13 rfl (lv_at hl 1 rfl) ?_
      refine lv_iconst (v := 1) hx hb dX8_behind_14 (by decide) ?_
      refine lv_icmp_ne (tgt := 27) hx hb dX8_behind_15 (by decide) (fun c_11 => ?_) (fun c_11 => ?_)
      · skip
        refine lv_iload_n hx hb dX8_behind_27 rfl (lv_at hl 1 rfl) ?_
        refine lv_iconst (v := 2) hx hb dX8_behind_28 (by decide) ?_
        refine lv_icmp_ne (tgt := 41) hx hb dX8_behind_29 (by decide) (fun c_12 => ?_) (fun c_12 => ?_)
        · skip
          refine lv_aload_n hx hb dX8_behind_41 rfl (lv_at hl 0 rfl) ?_
          refine lv_iload_n hx hb dX8_behind_42 rfl (lv_at hl 1 rfl) ?_
          refine lv_iconst (v := 3) hx hb dX8_behind_43 (by decide) ?_
          refine lv_isub hx hb dX8_behind_44 ?_
          refine z_top (y := 1) (by decide) ?_
          refine z_callV (wn := (refW cs a V G)) ⟨hx, hb, hml, hown, hts⟩ zY_X8_out w_im_yX8_out w_se_yX8_out w_ml_X8_76 [.int 1] [] (c_X8_out l D cs a V G 1 (by decide)) hE hK hA hP hD hS [0, 1, 2, 3, 4, 5, 6] rfl rfl rfl rfl 8 rfl rfl rfl rfl hl.1 (Nat.le_of_ble_eq_true rfl) ⟨Nat.le_of_ble_eq_true rfl, Nat.le_of_ble_eq_true rfl⟩ ⟨Nat.le_of_ble_eq_true rfl, Nat.le_of_ble_eq_true rfl⟩ dX8_behind_45 (fun H locs hP hD hS => ?_)
          exact z_iret hx hb hr hlk hK hP hD hS dX8_behind_48 rfl rfl
        · skip
          exact absurd c_12 (by decide)
      · skip
        exact absurd c_11 (by decide)
    · skip
      exact absurd c_10 (by decide)
  · skip
    refine lv_iload_n hx hb dX8_behind_0 rfl (lv_at hl 1 rfl) ?_
    refine lv_if_ne (tgt := 13) hx hb dX8_behind_1 (by decide) (fun c_13 => ?_) (fun c_13 => ?_)
    · skip
      refine lv_iload_n hx hb dX8_behind_13 rfl (lv_at hl 1 rfl) ?_
      refine lv_iconst (v := 1) hx hb dX8_behind_14 (by decide) ?_
      refine lv_icmp_ne (tgt := 27) hx hb dX8_behind_15 (by decide) (fun c_14 => ?_) (fun c_14 => ?_)
      · skip
        refine lv_iload_n hx hb dX8_behind_27 rfl (lv_at hl 1 rfl) ?_
        refine lv_iconst (v := 2) hx hb dX8_behind_28 (by decide) ?_
        refine lv_icmp_ne (tgt := 41) hx hb dX8_behind_29 (by decide) (fun c_15 => ?_) (fun c_15 => ?_)
        · skip
          refine lv_aload_n hx hb dX8_behind_41 rfl (lv_at hl 0 rfl) ?_
          refine lv_iload_n hx hb dX8_behind_42 rfl (lv_at hl 1 rfl) ?_
          refine lv_iconst (v := 3) hx hb dX8_behind_43 (by decide) ?_
          refine lv_isub hx hb dX8_behind_44 ?_
          refine z_top (y := 2) (by decide) ?_
          refine z_callV (wn := (refW cs a V G)) ⟨hx, hb, hml, hown, hts⟩ zY_X8_out w_im_yX8_out w_se_yX8_out w_ml_X8_76 [.int 2] [] (c_X8_out l D cs a V G 2 (by decide)) hE hK hA hP hD hS [0, 1, 2, 3, 4, 5, 6] rfl rfl rfl rfl 8 rfl rfl rfl rfl hl.1 (Nat.le_of_ble_eq_true rfl) ⟨Nat.le_of_ble_eq_true rfl, Nat.le_of_ble_eq_true rfl⟩ ⟨Nat.le_of_ble_eq_true rfl, Nat.le_of_ble_eq_true rfl⟩ dX8_behind_45 (fun H locs hP hD hS => ?_)
          exact z_iret hx hb hr hlk hK hP hD hS dX8_behind_48 rfl rfl
        · skip
          exact absurd c_15 (by decide)
      · skip
        exact absurd c_14 (by decide)
    · skip
      exact absurd c_13 (by decide)
  · skip
    refine lv_iload_n hx hb dX8_behind_0 rfl (lv_at hl 1 rfl) ?_
    refine lv_if_ne (tgt := 13) hx hb dX8_behind_1 (by decide) (fun c_16 => ?_) (fun c_16 => ?_)
    · skip
      refine lv_iload_n hx hb dX8_behind_13 rfl (lv_at hl 1 rfl) ?_
      refine lv_iconst (v := 1) hx hb dX8_behind_14 (by decide) ?_
      refine lv_icmp_ne (tgt := 27) hx hb dX8_behind_15 (by decide) (fun c_17 => ?_) (fun c_17 => ?_)
      · skip
        refine lv_iload_n hx hb dX8_behind_27 rfl (lv_at hl 1 rfl) ?_
        refine lv_iconst (v := 2) hx hb dX8_behind_28 (by decide) ?_
        refine lv_icmp_ne (tgt := 41) hx hb dX8_behind_29 (by decide) (fun c_18 => ?_) (fun c_18 => ?_)
        · skip
          refine lv_aload_n hx hb dX8_behind_41 rfl (lv_at hl 0 rfl) ?_
          refine lv_iload_n hx hb dX8_behind_42 rfl (lv_at hl 1 rfl) ?_
          refine lv_iconst (v := 3) hx hb dX8_behind_43 (by decide) ?_
          refine lv_isub hx hb dX8_behind_44 ?_
          refine z_top (y := 3) (by decide) ?_
          refine z_callV (wn := (refW cs a V G)) ⟨hx, hb, hml, hown, hts⟩ zY_X8_out w_im_yX8_out w_se_yX8_out w_ml_X8_76 [.int 3] [] (c_X8_out l D cs a V G 3 (by decide)) hE hK hA hP hD hS [0, 1, 2, 3, 4, 5, 6] rfl rfl rfl rfl 8 rfl rfl rfl rfl hl.1 (Nat.le_of_ble_eq_true rfl) ⟨Nat.le_of_ble_eq_true rfl, Nat.le_of_ble_eq_true rfl⟩ ⟨Nat.le_of_ble_eq_true rfl, Nat.le_of_ble_eq_true rfl⟩ dX8_behind_45 (fun H locs hP hD hS => ?_)
          exact z_iret hx hb hr hlk hK hP hD hS dX8_behind_48 rfl rfl
        · skip
          exact absurd c_18 (by decide)
      · skip
        exact absurd c_17 (by decide)
    · skip
      exact absurd c_16 (by decide)
  · skip
    refine lv_iload_n hx hb dX8_behind_0 rfl (lv_at hl 1 rfl) ?_
    refine lv_if_ne (tgt := 13) hx hb dX8_behind_1 (by decide) (fun c_19 => ?_) (fun c_19 => ?_)
    · skip
      refine lv_iload_n hx hb dX8_behind_13 rfl (lv_at hl 1 rfl) ?_
      refine lv_iconst (v := 1) hx hb dX8_behind_14 (by decide) ?_
      refine lv_icmp_ne (tgt := 27) hx hb dX8_behind_15 (by decide) (fun c_20 => ?_) (fun c_20 => ?_)
      · skip
        refine lv_iload_n hx hb dX8_behind_27 rfl (lv_at hl 1 rfl) ?_
        refine lv_iconst (v := 2) hx hb dX8_behind_28 (by decide) ?_
        refine lv_icmp_ne (tgt := 41) hx hb dX8_behind_29 (by decide) (fun c_21 => ?_) (fun c_21 => ?_)
        · skip
          refine lv_aload_n hx hb dX8_behind_41 rfl (lv_at hl 0 rfl) ?_
          refine lv_iload_n hx hb dX8_behind_42 rfl (lv_at hl 1 rfl) ?_
          refine lv_iconst (v := 3) hx hb dX8_behind_43 (by decide) ?_
          refine lv_isub hx hb dX8_behind_44 ?_
          refine z_top (y := 4) (by decide) ?_
          refine z_callV (wn := (refW cs a V G)) ⟨hx, hb, hml, hown, hts⟩ zY_X8_out w_im_yX8_out w_se_yX8_out w_ml_X8_76 [.int 4] [] (c_X8_out l D cs a V G 4 (by decide)) hE hK hA hP hD hS [0, 1, 2, 3, 4, 5, 6] rfl rfl rfl rfl 8 rfl rfl rfl rfl hl.1 (Nat.le_of_ble_eq_true rfl) ⟨Nat.le_of_ble_eq_true rfl, Nat.le_of_ble_eq_true rfl⟩ ⟨Nat.le_of_ble_eq_true rfl, Nat.le_of_ble_eq_true rfl⟩ dX8_behind_45 (fun H locs hP hD hS => ?_)
          exact z_iret hx hb hr hlk hK hP hD hS dX8_behind_48 rfl rfl
        · skip
          exact absurd c_21 (by decide)
      · skip
        exact absurd c_20 (by decide)
    · skip
      exact absurd c_19 (by decide)

set_option maxHeartbeats 4000000 in
set_option maxRecDepth 100000 in
theorem c_X8_repeats (l : Launch) (D : va_G) (cs : zCs) (a : Nat → Nat) (V : Nat → Int32) (G : Nat → Nat → Int32) (hok : rOK (G 0)) : zM l D cs yX8_repeats cX8_repeats 4 (some FieldType.boolean) 6 135 0 0 [.ref (a 0)] (refW cs a V G) (some (.int (rrpR ((G 0), V 2, V 3)))) (refW cs a (upd (upd (upd V 1 0) 2 ((rrpW ((G 0), V 2, V 3)).1)) 3 ((rrpW ((G 0), V 2, V 3)).2)) (zU (zU (zU G 0 (G 0)) 2 (G 0)) 3 (cpF 0 (G 3) (rbh (rpsQ 2000 ((G 0), V 2, V 3)).1) 8))) := by
  refine zM.of (own := RX8) (by decide) (Nat.le_of_ble_eq_true rfl) rfl ?_
  intro pq eq s mq below meth cq A ls hx hb hr hml hown hts hlk hnm hE hK hA hP hD hS hl
  have hl : lv_has ls 4 [(0, .ref (a 0))] := hl
  have hok1 : rOK (rpsQ 2000 ((G 0), V 2, V 3)).1 := rpsT_ok hok
  refine lv_aload_n hx hb dX8_repeats_0 rfl (lv_at hl 0 rfl) ?_
  refine lv_iconst (v := 0) hx hb dX8_repeats_1 (by decide) ?_
  refine va_put (D := D) (ci := 8) (v := .int 0) (C := RX8) (T := TX8) (N := 13) hx hb hts wsI_X8 tyX8 tyX8_ok nmX8 hown hK hP hD hS 0 rfl rfl 4 (by decide) (hts _ w_fl_X8_31) (fun _ h9 => h9) rfl (tyX8_ok 4 (by decide)) rfl rfl (Nat.le_of_ble_eq_true rfl) dX8_repeats_2 (fun H locs hP hD hS => ?_)
  have hP : va_P D vwCl (refW cs a (upd V 1 0) G) H := hP
  have hD : va_D A (refW cs a (upd V 1 0) G) := hD
  refine lv_aload_n hx hb dX8_repeats_5 rfl (lv_at hl 0 rfl) ?_
  refine z_callV (wn := (refW cs a (upd V 1 0) (zU G 2 (G 0)))) ⟨hx, hb, hml, hown, hts⟩ zY_X8_laysAside w_im_yX8_laysAside w_se_yX8_laysAside w_ml_X8_134 [] [] (c_X8_laysAside l D cs a (upd V 1 0) G) hE hK hA hP hD hS [0, 1, 2, 3, 4, 5, 6] rfl rfl rfl rfl 8 rfl rfl rfl rfl hl.1 (Nat.le_of_ble_eq_true rfl) ⟨Nat.le_of_ble_eq_true rfl, Nat.le_of_ble_eq_true rfl⟩ ⟨Nat.le_of_ble_eq_true rfl, Nat.le_of_ble_eq_true rfl⟩ dX8_repeats_6 (fun H locs hP hD hS => ?_)
  refine lv_aload_n hx hb dX8_repeats_9 rfl (lv_at hl 0 rfl) ?_
  refine lv_sipush (v := 2000) hx hb dX8_repeats_10 (by decide) ?_
  refine z_callV (wn := (refW cs a (upd (upd (upd V 1 0) 2 ((rpsQ 2000 ((G 0), V 2, V 3)).2.1)) 3 ((rpsQ 2000 ((G 0), V 2, V 3)).2.2)) (zU (zU G 0 ((rpsQ 2000 ((G 0), V 2, V 3)).1)) 2 (G 0)))) ⟨hx, hb, hml, hown, hts⟩ zY_X8_passes w_im_yX8_passes w_se_yX8_passes w_ml_X8_140 [.int 2000] [] (c_X8_passes l D cs a (upd V 1 0) (zU G 2 (G 0)) 2000 (by decide) hok) hE hK hA hP hD hS [0, 1, 2, 3, 4, 5, 6] rfl rfl rfl rfl 8 rfl rfl rfl rfl hl.1 (Nat.le_of_ble_eq_true rfl) ⟨Nat.le_of_ble_eq_true rfl, Nat.le_of_ble_eq_true rfl⟩ ⟨Nat.le_of_ble_eq_true rfl, Nat.le_of_ble_eq_true rfl⟩ dX8_repeats_13 (fun H locs hP hD hS => ?_)
  refine lv_istore_n (lv' := [(1, .int (nI (rpsR 2000 ((G 0), V 2, V 3)))), (0, .ref (a 0))]) hx hb dX8_repeats_16 rfl hl (by decide) rfl (fun ls hl => ?_)
  refine lv_iload_n hx hb dX8_repeats_17 rfl (lv_at hl 0 rfl) ?_
  refine lv_sipush (v := 2000) hx hb dX8_repeats_18 (by decide) ?_
  refine lv_icmp_gt (tgt := 28) hx hb dX8_repeats_21 (by decide) (fun c_1 => ?_) (fun c_1 => ?_)
  · skip
    refine lv_iconst (v := 0) hx hb dX8_repeats_28 (by decide) ?_
    refine z_top (y := bI (¬ 2000 < nI (rpsR 2000 ((G 0), V 2, V 3)))) (bI_f (fun h => h c_1)).symm ?_
    refine lv_istore_n (lv' := [(2, .int (bI (¬ 2000 < nI (rpsR 2000 ((G 0), V 2, V 3))))), (1, .int (nI (rpsR 2000 ((G 0), V 2, V 3)))), (0, .ref (a 0))]) hx hb dX8_repeats_29 rfl hl (by decide) rfl (fun ls hl => ?_)
    refine lv_iconst (v := 0) hx hb dX8_repeats_30 (by decide) ?_
    refine lv_istore_n (lv' := [(3, .int 0), (2, .int (bI (¬ 2000 < nI (rpsR 2000 ((G 0), V 2, V 3))))), (1, .int (nI (rpsR 2000 ((G 0), V 2, V 3)))), (0, .ref (a 0))]) hx hb dX8_repeats_31 rfl hl (by decide) rfl (fun ls hl => ?_)
    have lp32 : ∀ (k : Nat) (i : Nat), (i ≤ 8) → (8 + 1 ≤ i + k) → ∀ (H : Heap) (locs : List Loc) (ls : Array Slot), va_P D vwCl (refW cs a (upd (upd (upd V 1 0) 2 ((rpsQ 2000 ((G 0), V 2, V 3)).2.1)) 3 ((rpsQ 2000 ((G 0), V 2, V 3)).2.2)) (zU (zU (zU G 0 ((rpsQ 2000 ((G 0), V 2, V 3)).1)) 2 (G 0)) 3 (cpF 0 (G 3) (rbh (rpsQ 2000 ((G 0), V 2, V 3)).1) i))) H → va_D A (refW cs a (upd (upd (upd V 1 0) 2 ((rpsQ 2000 ((G 0), V 2, V 3)).2.1)) 3 ((rpsQ 2000 ((G 0), V 2, V 3)).2.2)) (zU (zU (zU G 0 ((rpsQ 2000 ((G 0), V 2, V 3)).1)) 2 (G 0)) 3 (cpF 0 (G 3) (rbh (rpsQ 2000 ((G 0), V 2, V 3)).1) i))) → va_S A s.heap H locs → lv_has ls 4 [(0, .ref (a 0)), (1, .int (nI (rpsR 2000 ((G 0), V 2, V 3)))), (2, .int (bI (¬ 2000 < nI (rpsR 2000 ((G 0), V 2, V 3))))), (3, .int (nI i))] → W pq l eq ({ frames := 6, cells := 0, slots := 0, locals := 135 } : Room) s mq ([.ref (a 0)] : List Value).toArray below meth cq H locs 0 0 (MQ below (zQ D cs (some (.int (rrpR ((G 0), V 2, V 3)))) (refW cs a (upd (upd (upd V 1 0) 2 ((rrpW ((G 0), V 2, V 3)).1)) 3 ((rrpW ((G 0), V 2, V 3)).2)) (zU (zU (zU G 0 (G 0)) 2 (G 0)) 3 (cpF 0 (G 3) (rbh (rpsQ 2000 ((G 0), V 2, V 3)).1) 8))) A) ([.ref (a 0)] : List Value).toArray s 0 0 A) (F0 mq 32 ls []) := by
      intro k
      induction k with
      | zero =>
        intro i hi1 hi2 H locs ls hP hD hS hl
        omega
      | succ k ih =>
        intro i hi1 hi2 H locs ls hP hD hS hl
        refine lv_iload_n hx hb dX8_repeats_32 rfl (lv_at hl 3 rfl) ?_
        refine lv_bipush (v := 8) hx hb dX8_repeats_33 (by decide) ?_
        refine lv_icmp_ge (tgt := 55) hx hb dX8_repeats_35 (by decide) (fun c_2 => ?_) (fun c_2 => ?_)
        · skip
          have ei := z_leK (n := 8) rfl (by omega) hi1 c_2
          subst ei
          refine lv_iload_n hx hb dX8_repeats_55 rfl (lv_at hl 2 rfl) ?_
          refine lv_if_eq (tgt := 80) hx hb dX8_repeats_56 (by decide) (fun c_3 => ?_) (fun c_3 => ?_)
          · skip
            have c_3 := bI_0.mp c_3
            refine lv_iconst (v := 0) hx hb dX8_repeats_80 (by decide) ?_
            refine z_top (y := rrV 0 (rpsQ 2000 ((G 0), V 2, V 3)).1 (rpsQ 2000 ((G 0), V 2, V 3)).1 0) rfl ?_
            refine lv_istore_n (lv' := [(2, .int (rrV 0 (rpsQ 2000 ((G 0), V 2, V 3)).1 (rpsQ 2000 ((G 0), V 2, V 3)).1 0)), (0, .ref (a 0)), (1, .int (nI (rpsR 2000 ((G 0), V 2, V 3)))), (3, .int (nI 8))]) hx hb dX8_repeats_81 rfl hl (by decide) rfl (fun ls hl => ?_)
            refine lv_iconst (v := 0) hx hb dX8_repeats_82 (by decide) ?_
            refine lv_istore_n (lv' := [(3, .int 0), (2, .int (rrV 0 (rpsQ 2000 ((G 0), V 2, V 3)).1 (rpsQ 2000 ((G 0), V 2, V 3)).1 0)), (0, .ref (a 0)), (1, .int (nI (rpsR 2000 ((G 0), V 2, V 3))))]) hx hb dX8_repeats_83 rfl hl (by decide) rfl (fun ls hl => ?_)
            have lp84 : ∀ (k2 : Nat) (i : Nat), (i ≤ 8) → (9 ≤ i + k2) → ∀ (H : Heap) (locs : List Loc) (ls : Array Slot), va_P D vwCl (refW cs a (upd (upd (upd V 1 0) 2 ((rpsQ 2000 ((G 0), V 2, V 3)).2.1)) 3 ((rpsQ 2000 ((G 0), V 2, V 3)).2.2)) (zU (zU (zU G 0 ((rpsQ 2000 ((G 0), V 2, V 3)).1)) 2 (G 0)) 3 (cpF 0 (G 3) (rbh (rpsQ 2000 ((G 0), V 2, V 3)).1) 8))) H → va_D A (refW cs a (upd (upd (upd V 1 0) 2 ((rpsQ 2000 ((G 0), V 2, V 3)).2.1)) 3 ((rpsQ 2000 ((G 0), V 2, V 3)).2.2)) (zU (zU (zU G 0 ((rpsQ 2000 ((G 0), V 2, V 3)).1)) 2 (G 0)) 3 (cpF 0 (G 3) (rbh (rpsQ 2000 ((G 0), V 2, V 3)).1) 8))) → va_S A s.heap H locs → lv_has ls 4 [(0, .ref (a 0)), (1, .int (nI (rpsR 2000 ((G 0), V 2, V 3)))), (2, .int (rrV 0 (rpsQ 2000 ((G 0), V 2, V 3)).1 (rpsQ 2000 ((G 0), V 2, V 3)).1 i)), (3, .int (nI i))] → W pq l eq ({ frames := 6, cells := 0, slots := 0, locals := 135 } : Room) s mq ([.ref (a 0)] : List Value).toArray below meth cq H locs 0 0 (MQ below (zQ D cs (some (.int (rrpR ((G 0), V 2, V 3)))) (refW cs a (upd (upd (upd V 1 0) 2 ((rrpW ((G 0), V 2, V 3)).1)) 3 ((rrpW ((G 0), V 2, V 3)).2)) (zU (zU (zU G 0 (G 0)) 2 (G 0)) 3 (cpF 0 (G 3) (rbh (rpsQ 2000 ((G 0), V 2, V 3)).1) 8))) A) ([.ref (a 0)] : List Value).toArray s 0 0 A) (F0 mq 84 ls []) := by
              intro k2
              induction k2 with
              | zero =>
                intro i hi1 hi2 H locs ls hP hD hS hl
                omega
              | succ k2 ih2 =>
                intro i hi1 hi2 H locs ls hP hD hS hl
                refine lv_iload_n hx hb dX8_repeats_84 rfl (lv_at hl 3 rfl) ?_
                refine lv_bipush (v := 8) hx hb dX8_repeats_85 (by decide) ?_
                refine lv_icmp_ge (tgt := 120) hx hb dX8_repeats_87 (by decide) (fun c_4 => ?_) (fun c_4 => ?_)
                · skip
                  have ei := z_leK (n := 8) rfl (by omega) hi1 c_4
                  subst ei
                  refine lv_aload_n hx hb dX8_repeats_120 rfl (lv_at hl 0 rfl) ?_
                  refine z_callV (wn := (refW cs a (upd (upd (upd V 1 0) 2 ((rpsQ 2000 ((G 0), V 2, V 3)).2.1)) 3 ((rpsQ 2000 ((G 0), V 2, V 3)).2.2)) (zU (zU (zU G 0 (G 0)) 2 (G 0)) 3 (cpF 0 (G 3) (rbh (rpsQ 2000 ((G 0), V 2, V 3)).1) 8)))) ⟨hx, hb, hml, hown, hts⟩ zY_X8_takesBack w_im_yX8_takesBack w_se_yX8_takesBack w_ml_X8_137 [] [] (c_X8_takesBack l D cs a (upd (upd (upd V 1 0) 2 ((rpsQ 2000 ((G 0), V 2, V 3)).2.1)) 3 ((rpsQ 2000 ((G 0), V 2, V 3)).2.2)) (zU (zU (zU G 0 ((rpsQ 2000 ((G 0), V 2, V 3)).1)) 2 (G 0)) 3 (cpF 0 (G 3) (rbh (rpsQ 2000 ((G 0), V 2, V 3)).1) 8))) hE hK hA hP hD hS [0, 1, 2, 3, 4, 5, 6] rfl rfl rfl rfl 8 rfl rfl rfl rfl hl.1 (Nat.le_of_ble_eq_true rfl) ⟨Nat.le_of_ble_eq_true rfl, Nat.le_of_ble_eq_true rfl⟩ ⟨Nat.le_of_ble_eq_true rfl, Nat.le_of_ble_eq_true rfl⟩ dX8_repeats_121 (fun H locs hP hD hS => ?_)
                  refine lv_iload_n hx hb dX8_repeats_124 rfl (lv_at hl 2 rfl) ?_
                  refine z_top (y := bI (rrV 0 (rpsQ 2000 ((G 0), V 2, V 3)).1 (rpsQ 2000 ((G 0), V 2, V 3)).1 8 = 1)) rrV_b ?_
                  exact z_zret hx hb hr hlk hK hP hD hS dX8_repeats_125 bI_nar (by rw [show rrpR ((G 0), V 2, V 3) = 0 from if_pos (Decidable.not_not.mp c_3), show rrV 0 (rpsQ 2000 ((G 0), V 2, V 3)).1 (rpsQ 2000 ((G 0), V 2, V 3)).1 8 = 0 from rrV_0, bI_f (fun h => absurd (show (0 : Int32) = 1 from h) (by decide))]) (by rw [show rrpW ((G 0), V 2, V 3) = (rpsQ 2000 ((G 0), V 2, V 3)).2 from if_pos (Decidable.not_not.mp c_3)])
                · skip
                  have gi : i < 8 := z_geK (n := 8) rfl (by omega) hi1 c_4
                  refine lv_iload_n hx hb dX8_repeats_90 rfl (lv_at hl 2 rfl) ?_
                  refine lv_if_eq (tgt := 112) hx hb dX8_repeats_91 (by decide) (fun c_5 => ?_) (fun c_5 => ?_)
                  · skip
                    refine lv_iconst (v := 0) hx hb dX8_repeats_112 (by decide) ?_
                    refine z_top (y := rrV 0 (rpsQ 2000 ((G 0), V 2, V 3)).1 (rpsQ 2000 ((G 0), V 2, V 3)).1 (i + 1)) (if_pos c_5).symm ?_
                    refine lv_istore_n (lv' := [(2, .int (rrV 0 (rpsQ 2000 ((G 0), V 2, V 3)).1 (rpsQ 2000 ((G 0), V 2, V 3)).1 (i + 1))), (0, .ref (a 0)), (1, .int (nI (rpsR 2000 ((G 0), V 2, V 3)))), (3, .int (nI i))]) hx hb dX8_repeats_113 rfl hl (by decide) rfl (fun ls hl => ?_)
                    refine lv_iinc (v := nI (i + 1)) (lv' := [(3, .int (nI (i + 1))), (2, .int (rrV 0 (rpsQ 2000 ((G 0), V 2, V 3)).1 (rpsQ 2000 ((G 0), V 2, V 3)).1 (i + 1))), (0, .ref (a 0)), (1, .int (nI (rpsR 2000 ((G 0), V 2, V 3))))]) hx hb dX8_repeats_114 hl (k := 3) rfl (show nI i + Int32.ofInt 1 = nI (i + 1) from nI_add i 1) (by decide) rfl (fun ls hl => ?_)
                    refine lv_goto (tgt := 84) hx hb dX8_repeats_117 (by decide) ?_
                    exact ih2 (i + 1) (by omega) (by omega) _ _ _ hP hD hS (lv_sub hl [2, 3, 1, 0] rfl)
                  · skip
                    refine lv_aload_n hx hb dX8_repeats_94 rfl (lv_at hl 0 rfl) ?_
                    refine va_get (D := D) (ci := 8) (v := .ref (a 4)) (C := RX8) (T := TX8) (N := 13) hx hb hts wsI_X8 hown hK hP 0 rfl rfl 7 (by decide) (hts _ w_fl_X8_19) (fun _ h9 => h9) rfl dX8_repeats_95 ?_
                    refine lv_iload_n hx hb dX8_repeats_98 rfl (lv_at hl 3 rfl) ?_
                    refine z_iald (k := i) hx hb hK hP 4 rfl (by omega) (by first | decide | omega) dX8_repeats_99 ?_
                    refine z_top (y := rbh (rpsQ 2000 ((G 0), V 2, V 3)).1 i) (cp_in0 gi) ?_
                    refine lv_aload_n hx hb dX8_repeats_100 rfl (lv_at hl 0 rfl) ?_
                    refine lv_iload_n hx hb dX8_repeats_101 rfl (lv_at hl 3 rfl) ?_
                    refine z_callV (wn := (refW cs a (upd (upd (upd V 1 0) 2 ((rpsQ 2000 ((G 0), V 2, V 3)).2.1)) 3 ((rpsQ 2000 ((G 0), V 2, V 3)).2.2)) (zU (zU (zU G 0 ((rpsQ 2000 ((G 0), V 2, V 3)).1)) 2 (G 0)) 3 (cpF 0 (G 3) (rbh (rpsQ 2000 ((G 0), V 2, V 3)).1) 8)))) ⟨hx, hb, hml, hown, hts⟩ zY_X8_behind w_im_yX8_behind w_se_yX8_behind w_ml_X8_152 [.int (nI i)] [.int (rbh (rpsQ 2000 ((G 0), V 2, V 3)).1 i)] (c_X8_behind l D cs a (upd (upd (upd V 1 0) 2 ((rpsQ 2000 ((G 0), V 2, V 3)).2.1)) 3 ((rpsQ 2000 ((G 0), V 2, V 3)).2.2)) (zU (zU (zU G 0 ((rpsQ 2000 ((G 0), V 2, V 3)).1)) 2 (G 0)) 3 (cpF 0 (G 3) (rbh (rpsQ 2000 ((G 0), V 2, V 3)).1) 8)) i gi) hE hK hA hP hD hS [0, 1, 2, 3, 4, 5, 6] rfl rfl rfl rfl 8 rfl rfl rfl rfl hl.1 (Nat.le_of_ble_eq_true rfl) ⟨Nat.le_of_ble_eq_true rfl, Nat.le_of_ble_eq_true rfl⟩ ⟨Nat.le_of_ble_eq_true rfl, Nat.le_of_ble_eq_true rfl⟩ dX8_repeats_102 (fun H locs hP hD hS => ?_)
                    refine lv_icmp_ne (tgt := 112) hx hb dX8_repeats_105 (by decide) (fun c_6 => ?_) (fun c_6 => ?_)
                    · skip
                      refine lv_iconst (v := 0) hx hb dX8_repeats_112 (by decide) ?_
                      refine z_top (y := rrV 0 (rpsQ 2000 ((G 0), V 2, V 3)).1 (rpsQ 2000 ((G 0), V 2, V 3)).1 (i + 1)) ((if_neg c_5).trans (bI_f c_6)).symm ?_
                      refine lv_istore_n (lv' := [(2, .int (rrV 0 (rpsQ 2000 ((G 0), V 2, V 3)).1 (rpsQ 2000 ((G 0), V 2, V 3)).1 (i + 1))), (0, .ref (a 0)), (1, .int (nI (rpsR 2000 ((G 0), V 2, V 3)))), (3, .int (nI i))]) hx hb dX8_repeats_113 rfl hl (by decide) rfl (fun ls hl => ?_)
                      refine lv_iinc (v := nI (i + 1)) (lv' := [(3, .int (nI (i + 1))), (2, .int (rrV 0 (rpsQ 2000 ((G 0), V 2, V 3)).1 (rpsQ 2000 ((G 0), V 2, V 3)).1 (i + 1))), (0, .ref (a 0)), (1, .int (nI (rpsR 2000 ((G 0), V 2, V 3))))]) hx hb dX8_repeats_114 hl (k := 3) rfl (show nI i + Int32.ofInt 1 = nI (i + 1) from nI_add i 1) (by decide) rfl (fun ls hl => ?_)
                      refine lv_goto (tgt := 84) hx hb dX8_repeats_117 (by decide) ?_
                      exact ih2 (i + 1) (by omega) (by omega) _ _ _ hP hD hS (lv_sub hl [2, 3, 1, 0] rfl)
                    · skip
                      refine lv_iconst (v := 1) hx hb dX8_repeats_108 (by decide) ?_
                      refine lv_goto (tgt := 113) hx hb dX8_repeats_109 (by decide) ?_
                      refine z_top (y := rrV 0 (rpsQ 2000 ((G 0), V 2, V 3)).1 (rpsQ 2000 ((G 0), V 2, V 3)).1 (i + 1)) ((if_neg c_5).trans (bI_t c_6)).symm ?_
                      refine lv_istore_n (lv' := [(2, .int (rrV 0 (rpsQ 2000 ((G 0), V 2, V 3)).1 (rpsQ 2000 ((G 0), V 2, V 3)).1 (i + 1))), (0, .ref (a 0)), (1, .int (nI (rpsR 2000 ((G 0), V 2, V 3)))), (3, .int (nI i))]) hx hb dX8_repeats_113 rfl hl (by decide) rfl (fun ls hl => ?_)
                      refine lv_iinc (v := nI (i + 1)) (lv' := [(3, .int (nI (i + 1))), (2, .int (rrV 0 (rpsQ 2000 ((G 0), V 2, V 3)).1 (rpsQ 2000 ((G 0), V 2, V 3)).1 (i + 1))), (0, .ref (a 0)), (1, .int (nI (rpsR 2000 ((G 0), V 2, V 3))))]) hx hb dX8_repeats_114 hl (k := 3) rfl (show nI i + Int32.ofInt 1 = nI (i + 1) from nI_add i 1) (by decide) rfl (fun ls hl => ?_)
                      refine lv_goto (tgt := 84) hx hb dX8_repeats_117 (by decide) ?_
                      exact ih2 (i + 1) (by omega) (by omega) _ _ _ hP hD hS (lv_sub hl [2, 3, 1, 0] rfl)
            exact lp84 9 0 (Nat.zero_le _) (by omega) _ _ _ hP hD hS (lv_sub hl [2, 3, 1, 0] rfl)
          · skip
            have c_3 := bI_n0 c_3
            have h7 : (rpsR 2000 ((G 0), V 2, V 3)) ≤ 2000 := Nat.le_of_not_lt (fun h => c_3 ((nI_ltI (a := 2000) (by omega) (by have := rpsR_le (M := 2000) (q := ((G 0), V 2, V 3)); omega)).mpr h))
            refine lv_aload_n hx hb dX8_repeats_59 rfl (lv_at hl 0 rfl) ?_
            refine lv_sipush (v := 2000) hx hb dX8_repeats_60 (by decide) ?_
            refine lv_iload_n hx hb dX8_repeats_63 rfl (lv_at hl 1 rfl) ?_
            refine lv_isub hx hb dX8_repeats_64 ?_
            refine z_top (y := nI (2000 - (rpsR 2000 ((G 0), V 2, V 3)))) (pk_sub (a := 2000) h7) ?_
            refine z_callV (wn := (refW cs a (upd (upd (upd V 1 0) 2 ((rpsQ (2000 - (rpsR 2000 ((G 0), V 2, V 3))) ((rpsQ 2000 ((G 0), V 2, V 3)).1, (rpsQ 2000 ((G 0), V 2, V 3)).2.1, (rpsQ 2000 ((G 0), V 2, V 3)).2.2)).2.1)) 3 ((rpsQ (2000 - (rpsR 2000 ((G 0), V 2, V 3))) ((rpsQ 2000 ((G 0), V 2, V 3)).1, (rpsQ 2000 ((G 0), V 2, V 3)).2.1, (rpsQ 2000 ((G 0), V 2, V 3)).2.2)).2.2)) (zU (zU (zU G 0 ((rpsQ (2000 - (rpsR 2000 ((G 0), V 2, V 3))) ((rpsQ 2000 ((G 0), V 2, V 3)).1, (rpsQ 2000 ((G 0), V 2, V 3)).2.1, (rpsQ 2000 ((G 0), V 2, V 3)).2.2)).1)) 2 (G 0)) 3 (cpF 0 (G 3) (rbh (rpsQ 2000 ((G 0), V 2, V 3)).1) 8)))) ⟨hx, hb, hml, hown, hts⟩ zY_X8_passes w_im_yX8_passes w_se_yX8_passes w_ml_X8_140 [.int (nI (2000 - (rpsR 2000 ((G 0), V 2, V 3))))] [] (c_X8_passes l D cs a (upd (upd (upd V 1 0) 2 ((rpsQ 2000 ((G 0), V 2, V 3)).2.1)) 3 ((rpsQ 2000 ((G 0), V 2, V 3)).2.2)) (zU (zU (zU G 0 ((rpsQ 2000 ((G 0), V 2, V 3)).1)) 2 (G 0)) 3 (cpF 0 (G 3) (rbh (rpsQ 2000 ((G 0), V 2, V 3)).1) 8)) (2000 - (rpsR 2000 ((G 0), V 2, V 3))) (by omega) hok1) hE hK hA hP hD hS [0, 1, 2, 3, 4, 5, 6] rfl rfl rfl rfl 8 rfl rfl rfl rfl hl.1 (Nat.le_of_ble_eq_true rfl) ⟨Nat.le_of_ble_eq_true rfl, Nat.le_of_ble_eq_true rfl⟩ ⟨Nat.le_of_ble_eq_true rfl, Nat.le_of_ble_eq_true rfl⟩ dX8_repeats_65 (fun H locs hP hD hS => ?_)
            refine lv_sipush (v := 2000) hx hb dX8_repeats_68 (by decide) ?_
            refine lv_iload_n hx hb dX8_repeats_71 rfl (lv_at hl 1 rfl) ?_
            refine lv_isub hx hb dX8_repeats_72 ?_
            refine z_top (y := nI (2000 - (rpsR 2000 ((G 0), V 2, V 3)))) (pk_sub (a := 2000) h7) ?_
            refine lv_icmp_gt (tgt := 80) hx hb dX8_repeats_73 (by decide) (fun c_7 => ?_) (fun c_7 => ?_)
            · skip
              refine lv_iconst (v := 0) hx hb dX8_repeats_80 (by decide) ?_
              refine z_top (y := rrV (bI (¬ nI (2000 - (rpsR 2000 ((G 0), V 2, V 3))) < nI (rpsR (2000 - (rpsR 2000 ((G 0), V 2, V 3))) ((rpsQ 2000 ((G 0), V 2, V 3)).1, (rpsQ 2000 ((G 0), V 2, V 3)).2.1, (rpsQ 2000 ((G 0), V 2, V 3)).2.2)))) (rpsQ 2000 ((G 0), V 2, V 3)).1 (rpsQ (2000 - (rpsR 2000 ((G 0), V 2, V 3))) ((rpsQ 2000 ((G 0), V 2, V 3)).1, (rpsQ 2000 ((G 0), V 2, V 3)).2.1, (rpsQ 2000 ((G 0), V 2, V 3)).2.2)).1 0) (bI_f (fun h => h c_7)).symm ?_
              refine lv_istore_n (lv' := [(2, .int (rrV (bI (¬ nI (2000 - (rpsR 2000 ((G 0), V 2, V 3))) < nI (rpsR (2000 - (rpsR 2000 ((G 0), V 2, V 3))) ((rpsQ 2000 ((G 0), V 2, V 3)).1, (rpsQ 2000 ((G 0), V 2, V 3)).2.1, (rpsQ 2000 ((G 0), V 2, V 3)).2.2)))) (rpsQ 2000 ((G 0), V 2, V 3)).1 (rpsQ (2000 - (rpsR 2000 ((G 0), V 2, V 3))) ((rpsQ 2000 ((G 0), V 2, V 3)).1, (rpsQ 2000 ((G 0), V 2, V 3)).2.1, (rpsQ 2000 ((G 0), V 2, V 3)).2.2)).1 0)), (0, .ref (a 0)), (1, .int (nI (rpsR 2000 ((G 0), V 2, V 3)))), (3, .int (nI 8))]) hx hb dX8_repeats_81 rfl hl (by decide) rfl (fun ls hl => ?_)
              refine lv_iconst (v := 0) hx hb dX8_repeats_82 (by decide) ?_
              refine lv_istore_n (lv' := [(3, .int 0), (2, .int (rrV (bI (¬ nI (2000 - (rpsR 2000 ((G 0), V 2, V 3))) < nI (rpsR (2000 - (rpsR 2000 ((G 0), V 2, V 3))) ((rpsQ 2000 ((G 0), V 2, V 3)).1, (rpsQ 2000 ((G 0), V 2, V 3)).2.1, (rpsQ 2000 ((G 0), V 2, V 3)).2.2)))) (rpsQ 2000 ((G 0), V 2, V 3)).1 (rpsQ (2000 - (rpsR 2000 ((G 0), V 2, V 3))) ((rpsQ 2000 ((G 0), V 2, V 3)).1, (rpsQ 2000 ((G 0), V 2, V 3)).2.1, (rpsQ 2000 ((G 0), V 2, V 3)).2.2)).1 0)), (0, .ref (a 0)), (1, .int (nI (rpsR 2000 ((G 0), V 2, V 3))))]) hx hb dX8_repeats_83 rfl hl (by decide) rfl (fun ls hl => ?_)
              have lp84 : ∀ (k2 : Nat) (i : Nat), (i ≤ 8) → (9 ≤ i + k2) → ∀ (H : Heap) (locs : List Loc) (ls : Array Slot), va_P D vwCl (refW cs a (upd (upd (upd V 1 0) 2 ((rpsQ (2000 - (rpsR 2000 ((G 0), V 2, V 3))) ((rpsQ 2000 ((G 0), V 2, V 3)).1, (rpsQ 2000 ((G 0), V 2, V 3)).2.1, (rpsQ 2000 ((G 0), V 2, V 3)).2.2)).2.1)) 3 ((rpsQ (2000 - (rpsR 2000 ((G 0), V 2, V 3))) ((rpsQ 2000 ((G 0), V 2, V 3)).1, (rpsQ 2000 ((G 0), V 2, V 3)).2.1, (rpsQ 2000 ((G 0), V 2, V 3)).2.2)).2.2)) (zU (zU (zU G 0 ((rpsQ (2000 - (rpsR 2000 ((G 0), V 2, V 3))) ((rpsQ 2000 ((G 0), V 2, V 3)).1, (rpsQ 2000 ((G 0), V 2, V 3)).2.1, (rpsQ 2000 ((G 0), V 2, V 3)).2.2)).1)) 2 (G 0)) 3 (cpF 0 (G 3) (rbh (rpsQ 2000 ((G 0), V 2, V 3)).1) 8))) H → va_D A (refW cs a (upd (upd (upd V 1 0) 2 ((rpsQ (2000 - (rpsR 2000 ((G 0), V 2, V 3))) ((rpsQ 2000 ((G 0), V 2, V 3)).1, (rpsQ 2000 ((G 0), V 2, V 3)).2.1, (rpsQ 2000 ((G 0), V 2, V 3)).2.2)).2.1)) 3 ((rpsQ (2000 - (rpsR 2000 ((G 0), V 2, V 3))) ((rpsQ 2000 ((G 0), V 2, V 3)).1, (rpsQ 2000 ((G 0), V 2, V 3)).2.1, (rpsQ 2000 ((G 0), V 2, V 3)).2.2)).2.2)) (zU (zU (zU G 0 ((rpsQ (2000 - (rpsR 2000 ((G 0), V 2, V 3))) ((rpsQ 2000 ((G 0), V 2, V 3)).1, (rpsQ 2000 ((G 0), V 2, V 3)).2.1, (rpsQ 2000 ((G 0), V 2, V 3)).2.2)).1)) 2 (G 0)) 3 (cpF 0 (G 3) (rbh (rpsQ 2000 ((G 0), V 2, V 3)).1) 8))) → va_S A s.heap H locs → lv_has ls 4 [(0, .ref (a 0)), (1, .int (nI (rpsR 2000 ((G 0), V 2, V 3)))), (2, .int (rrV (bI (¬ nI (2000 - (rpsR 2000 ((G 0), V 2, V 3))) < nI (rpsR (2000 - (rpsR 2000 ((G 0), V 2, V 3))) ((rpsQ 2000 ((G 0), V 2, V 3)).1, (rpsQ 2000 ((G 0), V 2, V 3)).2.1, (rpsQ 2000 ((G 0), V 2, V 3)).2.2)))) (rpsQ 2000 ((G 0), V 2, V 3)).1 (rpsQ (2000 - (rpsR 2000 ((G 0), V 2, V 3))) ((rpsQ 2000 ((G 0), V 2, V 3)).1, (rpsQ 2000 ((G 0), V 2, V 3)).2.1, (rpsQ 2000 ((G 0), V 2, V 3)).2.2)).1 i)), (3, .int (nI i))] → W pq l eq ({ frames := 6, cells := 0, slots := 0, locals := 135 } : Room) s mq ([.ref (a 0)] : List Value).toArray below meth cq H locs 0 0 (MQ below (zQ D cs (some (.int (rrpR ((G 0), V 2, V 3)))) (refW cs a (upd (upd (upd V 1 0) 2 ((rrpW ((G 0), V 2, V 3)).1)) 3 ((rrpW ((G 0), V 2, V 3)).2)) (zU (zU (zU G 0 (G 0)) 2 (G 0)) 3 (cpF 0 (G 3) (rbh (rpsQ 2000 ((G 0), V 2, V 3)).1) 8))) A) ([.ref (a 0)] : List Value).toArray s 0 0 A) (F0 mq 84 ls []) := by
                intro k2
                induction k2 with
                | zero =>
                  intro i hi1 hi2 H locs ls hP hD hS hl
                  omega
                | succ k2 ih2 =>
                  intro i hi1 hi2 H locs ls hP hD hS hl
                  refine lv_iload_n hx hb dX8_repeats_84 rfl (lv_at hl 3 rfl) ?_
                  refine lv_bipush (v := 8) hx hb dX8_repeats_85 (by decide) ?_
                  refine lv_icmp_ge (tgt := 120) hx hb dX8_repeats_87 (by decide) (fun c_8 => ?_) (fun c_8 => ?_)
                  · skip
                    have ei := z_leK (n := 8) rfl (by omega) hi1 c_8
                    subst ei
                    refine lv_aload_n hx hb dX8_repeats_120 rfl (lv_at hl 0 rfl) ?_
                    refine z_callV (wn := (refW cs a (upd (upd (upd V 1 0) 2 ((rpsQ (2000 - (rpsR 2000 ((G 0), V 2, V 3))) ((rpsQ 2000 ((G 0), V 2, V 3)).1, (rpsQ 2000 ((G 0), V 2, V 3)).2.1, (rpsQ 2000 ((G 0), V 2, V 3)).2.2)).2.1)) 3 ((rpsQ (2000 - (rpsR 2000 ((G 0), V 2, V 3))) ((rpsQ 2000 ((G 0), V 2, V 3)).1, (rpsQ 2000 ((G 0), V 2, V 3)).2.1, (rpsQ 2000 ((G 0), V 2, V 3)).2.2)).2.2)) (zU (zU (zU G 0 (G 0)) 2 (G 0)) 3 (cpF 0 (G 3) (rbh (rpsQ 2000 ((G 0), V 2, V 3)).1) 8)))) ⟨hx, hb, hml, hown, hts⟩ zY_X8_takesBack w_im_yX8_takesBack w_se_yX8_takesBack w_ml_X8_137 [] [] (c_X8_takesBack l D cs a (upd (upd (upd V 1 0) 2 ((rpsQ (2000 - (rpsR 2000 ((G 0), V 2, V 3))) ((rpsQ 2000 ((G 0), V 2, V 3)).1, (rpsQ 2000 ((G 0), V 2, V 3)).2.1, (rpsQ 2000 ((G 0), V 2, V 3)).2.2)).2.1)) 3 ((rpsQ (2000 - (rpsR 2000 ((G 0), V 2, V 3))) ((rpsQ 2000 ((G 0), V 2, V 3)).1, (rpsQ 2000 ((G 0), V 2, V 3)).2.1, (rpsQ 2000 ((G 0), V 2, V 3)).2.2)).2.2)) (zU (zU (zU G 0 ((rpsQ (2000 - (rpsR 2000 ((G 0), V 2, V 3))) ((rpsQ 2000 ((G 0), V 2, V 3)).1, (rpsQ 2000 ((G 0), V 2, V 3)).2.1, (rpsQ 2000 ((G 0), V 2, V 3)).2.2)).1)) 2 (G 0)) 3 (cpF 0 (G 3) (rbh (rpsQ 2000 ((G 0), V 2, V 3)).1) 8))) hE hK hA hP hD hS [0, 1, 2, 3, 4, 5, 6] rfl rfl rfl rfl 8 rfl rfl rfl rfl hl.1 (Nat.le_of_ble_eq_true rfl) ⟨Nat.le_of_ble_eq_true rfl, Nat.le_of_ble_eq_true rfl⟩ ⟨Nat.le_of_ble_eq_true rfl, Nat.le_of_ble_eq_true rfl⟩ dX8_repeats_121 (fun H locs hP hD hS => ?_)
                    refine lv_iload_n hx hb dX8_repeats_124 rfl (lv_at hl 2 rfl) ?_
                    refine z_top (y := bI (rrV (bI (¬ nI (2000 - (rpsR 2000 ((G 0), V 2, V 3))) < nI (rpsR (2000 - (rpsR 2000 ((G 0), V 2, V 3))) ((rpsQ 2000 ((G 0), V 2, V 3)).1, (rpsQ 2000 ((G 0), V 2, V 3)).2.1, (rpsQ 2000 ((G 0), V 2, V 3)).2.2)))) (rpsQ 2000 ((G 0), V 2, V 3)).1 (rpsQ (2000 - (rpsR 2000 ((G 0), V 2, V 3))) ((rpsQ 2000 ((G 0), V 2, V 3)).1, (rpsQ 2000 ((G 0), V 2, V 3)).2.1, (rpsQ 2000 ((G 0), V 2, V 3)).2.2)).1 8 = 1)) rrV_b ?_
                    exact z_zret hx hb hr hlk hK hP hD hS dX8_repeats_125 bI_nar (by rw [show rrpR ((G 0), V 2, V 3) = _ from if_neg c_3]) (by rw [show rrpW ((G 0), V 2, V 3) = (rrB ((G 0), V 2, V 3)).2 from if_neg c_3])
                  · skip
                    have gi : i < 8 := z_geK (n := 8) rfl (by omega) hi1 c_8
                    refine lv_iload_n hx hb dX8_repeats_90 rfl (lv_at hl 2 rfl) ?_
                    refine lv_if_eq (tgt := 112) hx hb dX8_repeats_91 (by decide) (fun c_9 => ?_) (fun c_9 => ?_)
                    · skip
                      refine lv_iconst (v := 0) hx hb dX8_repeats_112 (by decide) ?_
                      refine z_top (y := rrV (bI (¬ nI (2000 - (rpsR 2000 ((G 0), V 2, V 3))) < nI (rpsR (2000 - (rpsR 2000 ((G 0), V 2, V 3))) ((rpsQ 2000 ((G 0), V 2, V 3)).1, (rpsQ 2000 ((G 0), V 2, V 3)).2.1, (rpsQ 2000 ((G 0), V 2, V 3)).2.2)))) (rpsQ 2000 ((G 0), V 2, V 3)).1 (rpsQ (2000 - (rpsR 2000 ((G 0), V 2, V 3))) ((rpsQ 2000 ((G 0), V 2, V 3)).1, (rpsQ 2000 ((G 0), V 2, V 3)).2.1, (rpsQ 2000 ((G 0), V 2, V 3)).2.2)).1 (i + 1)) (if_pos c_9).symm ?_
                      refine lv_istore_n (lv' := [(2, .int (rrV (bI (¬ nI (2000 - (rpsR 2000 ((G 0), V 2, V 3))) < nI (rpsR (2000 - (rpsR 2000 ((G 0), V 2, V 3))) ((rpsQ 2000 ((G 0), V 2, V 3)).1, (rpsQ 2000 ((G 0), V 2, V 3)).2.1, (rpsQ 2000 ((G 0), V 2, V 3)).2.2)))) (rpsQ 2000 ((G 0), V 2, V 3)).1 (rpsQ (2000 - (rpsR 2000 ((G 0), V 2, V 3))) ((rpsQ 2000 ((G 0), V 2, V 3)).1, (rpsQ 2000 ((G 0), V 2, V 3)).2.1, (rpsQ 2000 ((G 0), V 2, V 3)).2.2)).1 (i + 1))), (0, .ref (a 0)), (1, .int (nI (rpsR 2000 ((G 0), V 2, V 3)))), (3, .int (nI i))]) hx hb dX8_repeats_113 rfl hl (by decide) rfl (fun ls hl => ?_)
                      refine lv_iinc (v := nI (i + 1)) (lv' := [(3, .int (nI (i + 1))), (2, .int (rrV (bI (¬ nI (2000 - (rpsR 2000 ((G 0), V 2, V 3))) < nI (rpsR (2000 - (rpsR 2000 ((G 0), V 2, V 3))) ((rpsQ 2000 ((G 0), V 2, V 3)).1, (rpsQ 2000 ((G 0), V 2, V 3)).2.1, (rpsQ 2000 ((G 0), V 2, V 3)).2.2)))) (rpsQ 2000 ((G 0), V 2, V 3)).1 (rpsQ (2000 - (rpsR 2000 ((G 0), V 2, V 3))) ((rpsQ 2000 ((G 0), V 2, V 3)).1, (rpsQ 2000 ((G 0), V 2, V 3)).2.1, (rpsQ 2000 ((G 0), V 2, V 3)).2.2)).1 (i + 1))), (0, .ref (a 0)), (1, .int (nI (rpsR 2000 ((G 0), V 2, V 3))))]) hx hb dX8_repeats_114 hl (k := 3) rfl (show nI i + Int32.ofInt 1 = nI (i + 1) from nI_add i 1) (by decide) rfl (fun ls hl => ?_)
                      refine lv_goto (tgt := 84) hx hb dX8_repeats_117 (by decide) ?_
                      exact ih2 (i + 1) (by omega) (by omega) _ _ _ hP hD hS (lv_sub hl [2, 3, 1, 0] rfl)
                    · skip
                      refine lv_aload_n hx hb dX8_repeats_94 rfl (lv_at hl 0 rfl) ?_
                      refine va_get (D := D) (ci := 8) (v := .ref (a 4)) (C := RX8) (T := TX8) (N := 13) hx hb hts wsI_X8 hown hK hP 0 rfl rfl 7 (by decide) (hts _ w_fl_X8_19) (fun _ h9 => h9) rfl dX8_repeats_95 ?_
                      refine lv_iload_n hx hb dX8_repeats_98 rfl (lv_at hl 3 rfl) ?_
                      refine z_iald (k := i) hx hb hK hP 4 rfl (by omega) (by first | decide | omega) dX8_repeats_99 ?_
                      refine z_top (y := rbh (rpsQ 2000 ((G 0), V 2, V 3)).1 i) (cp_in0 gi) ?_
                      refine lv_aload_n hx hb dX8_repeats_100 rfl (lv_at hl 0 rfl) ?_
                      refine lv_iload_n hx hb dX8_repeats_101 rfl (lv_at hl 3 rfl) ?_
                      refine z_callV (wn := (refW cs a (upd (upd (upd V 1 0) 2 ((rpsQ (2000 - (rpsR 2000 ((G 0), V 2, V 3))) ((rpsQ 2000 ((G 0), V 2, V 3)).1, (rpsQ 2000 ((G 0), V 2, V 3)).2.1, (rpsQ 2000 ((G 0), V 2, V 3)).2.2)).2.1)) 3 ((rpsQ (2000 - (rpsR 2000 ((G 0), V 2, V 3))) ((rpsQ 2000 ((G 0), V 2, V 3)).1, (rpsQ 2000 ((G 0), V 2, V 3)).2.1, (rpsQ 2000 ((G 0), V 2, V 3)).2.2)).2.2)) (zU (zU (zU G 0 ((rpsQ (2000 - (rpsR 2000 ((G 0), V 2, V 3))) ((rpsQ 2000 ((G 0), V 2, V 3)).1, (rpsQ 2000 ((G 0), V 2, V 3)).2.1, (rpsQ 2000 ((G 0), V 2, V 3)).2.2)).1)) 2 (G 0)) 3 (cpF 0 (G 3) (rbh (rpsQ 2000 ((G 0), V 2, V 3)).1) 8)))) ⟨hx, hb, hml, hown, hts⟩ zY_X8_behind w_im_yX8_behind w_se_yX8_behind w_ml_X8_152 [.int (nI i)] [.int (rbh (rpsQ 2000 ((G 0), V 2, V 3)).1 i)] (c_X8_behind l D cs a (upd (upd (upd V 1 0) 2 ((rpsQ (2000 - (rpsR 2000 ((G 0), V 2, V 3))) ((rpsQ 2000 ((G 0), V 2, V 3)).1, (rpsQ 2000 ((G 0), V 2, V 3)).2.1, (rpsQ 2000 ((G 0), V 2, V 3)).2.2)).2.1)) 3 ((rpsQ (2000 - (rpsR 2000 ((G 0), V 2, V 3))) ((rpsQ 2000 ((G 0), V 2, V 3)).1, (rpsQ 2000 ((G 0), V 2, V 3)).2.1, (rpsQ 2000 ((G 0), V 2, V 3)).2.2)).2.2)) (zU (zU (zU G 0 ((rpsQ (2000 - (rpsR 2000 ((G 0), V 2, V 3))) ((rpsQ 2000 ((G 0), V 2, V 3)).1, (rpsQ 2000 ((G 0), V 2, V 3)).2.1, (rpsQ 2000 ((G 0), V 2, V 3)).2.2)).1)) 2 (G 0)) 3 (cpF 0 (G 3) (rbh (rpsQ 2000 ((G 0), V 2, V 3)).1) 8)) i gi) hE hK hA hP hD hS [0, 1, 2, 3, 4, 5, 6] rfl rfl rfl rfl 8 rfl rfl rfl rfl hl.1 (Nat.le_of_ble_eq_true rfl) ⟨Nat.le_of_ble_eq_true rfl, Nat.le_of_ble_eq_true rfl⟩ ⟨Nat.le_of_ble_eq_true rfl, Nat.le_of_ble_eq_true rfl⟩ dX8_repeats_102 (fun H locs hP hD hS => ?_)
                      refine lv_icmp_ne (tgt := 112) hx hb dX8_repeats_105 (by decide) (fun c_10 => ?_) (fun c_10 => ?_)
                      · skip
                        refine lv_iconst (v := 0) hx hb dX8_repeats_112 (by decide) ?_
                        refine z_top (y := rrV (bI (¬ nI (2000 - (rpsR 2000 ((G 0), V 2, V 3))) < nI (rpsR (2000 - (rpsR 2000 ((G 0), V 2, V 3))) ((rpsQ 2000 ((G 0), V 2, V 3)).1, (rpsQ 2000 ((G 0), V 2, V 3)).2.1, (rpsQ 2000 ((G 0), V 2, V 3)).2.2)))) (rpsQ 2000 ((G 0), V 2, V 3)).1 (rpsQ (2000 - (rpsR 2000 ((G 0), V 2, V 3))) ((rpsQ 2000 ((G 0), V 2, V 3)).1, (rpsQ 2000 ((G 0), V 2, V 3)).2.1, (rpsQ 2000 ((G 0), V 2, V 3)).2.2)).1 (i + 1)) ((if_neg c_9).trans (bI_f c_10)).symm ?_
                        refine lv_istore_n (lv' := [(2, .int (rrV (bI (¬ nI (2000 - (rpsR 2000 ((G 0), V 2, V 3))) < nI (rpsR (2000 - (rpsR 2000 ((G 0), V 2, V 3))) ((rpsQ 2000 ((G 0), V 2, V 3)).1, (rpsQ 2000 ((G 0), V 2, V 3)).2.1, (rpsQ 2000 ((G 0), V 2, V 3)).2.2)))) (rpsQ 2000 ((G 0), V 2, V 3)).1 (rpsQ (2000 - (rpsR 2000 ((G 0), V 2, V 3))) ((rpsQ 2000 ((G 0), V 2, V 3)).1, (rpsQ 2000 ((G 0), V 2, V 3)).2.1, (rpsQ 2000 ((G 0), V 2, V 3)).2.2)).1 (i + 1))), (0, .ref (a 0)), (1, .int (nI (rpsR 2000 ((G 0), V 2, V 3)))), (3, .int (nI i))]) hx hb dX8_repeats_113 rfl hl (by decide) rfl (fun ls hl => ?_)
                        refine lv_iinc (v := nI (i + 1)) (lv' := [(3, .int (nI (i + 1))), (2, .int (rrV (bI (¬ nI (2000 - (rpsR 2000 ((G 0), V 2, V 3))) < nI (rpsR (2000 - (rpsR 2000 ((G 0), V 2, V 3))) ((rpsQ 2000 ((G 0), V 2, V 3)).1, (rpsQ 2000 ((G 0), V 2, V 3)).2.1, (rpsQ 2000 ((G 0), V 2, V 3)).2.2)))) (rpsQ 2000 ((G 0), V 2, V 3)).1 (rpsQ (2000 - (rpsR 2000 ((G 0), V 2, V 3))) ((rpsQ 2000 ((G 0), V 2, V 3)).1, (rpsQ 2000 ((G 0), V 2, V 3)).2.1, (rpsQ 2000 ((G 0), V 2, V 3)).2.2)).1 (i + 1))), (0, .ref (a 0)), (1, .int (nI (rpsR 2000 ((G 0), V 2, V 3))))]) hx hb dX8_repeats_114 hl (k := 3) rfl (show nI i + Int32.ofInt 1 = nI (i + 1) from nI_add i 1) (by decide) rfl (fun ls hl => ?_)
                        refine lv_goto (tgt := 84) hx hb dX8_repeats_117 (by decide) ?_
                        exact ih2 (i + 1) (by omega) (by omega) _ _ _ hP hD hS (lv_sub hl [2, 3, 1, 0] rfl)
                      · skip
                        refine lv_iconst (v := 1) hx hb dX8_repeats_108 (by decide) ?_
                        refine lv_goto (tgt := 113) hx hb dX8_repeats_109 (by decide) ?_
                        refine z_top (y := rrV (bI (¬ nI (2000 - (rpsR 2000 ((G 0), V 2, V 3))) < nI (rpsR (2000 - (rpsR 2000 ((G 0), V 2, V 3))) ((rpsQ 2000 ((G 0), V 2, V 3)).1, (rpsQ 2000 ((G 0), V 2, V 3)).2.1, (rpsQ 2000 ((G 0), V 2, V 3)).2.2)))) (rpsQ 2000 ((G 0), V 2, V 3)).1 (rpsQ (2000 - (rpsR 2000 ((G 0), V 2, V 3))) ((rpsQ 2000 ((G 0), V 2, V 3)).1, (rpsQ 2000 ((G 0), V 2, V 3)).2.1, (rpsQ 2000 ((G 0), V 2, V 3)).2.2)).1 (i + 1)) ((if_neg c_9).trans (bI_t c_10)).symm ?_
                        refine lv_istore_n (lv' := [(2, .int (rrV (bI (¬ nI (2000 - (rpsR 2000 ((G 0), V 2, V 3))) < nI (rpsR (2000 - (rpsR 2000 ((G 0), V 2, V 3))) ((rpsQ 2000 ((G 0), V 2, V 3)).1, (rpsQ 2000 ((G 0), V 2, V 3)).2.1, (rpsQ 2000 ((G 0), V 2, V 3)).2.2)))) (rpsQ 2000 ((G 0), V 2, V 3)).1 (rpsQ (2000 - (rpsR 2000 ((G 0), V 2, V 3))) ((rpsQ 2000 ((G 0), V 2, V 3)).1, (rpsQ 2000 ((G 0), V 2, V 3)).2.1, (rpsQ 2000 ((G 0), V 2, V 3)).2.2)).1 (i + 1))), (0, .ref (a 0)), (1, .int (nI (rpsR 2000 ((G 0), V 2, V 3)))), (3, .int (nI i))]) hx hb dX8_repeats_113 rfl hl (by decide) rfl (fun ls hl => ?_)
                        refine lv_iinc (v := nI (i + 1)) (lv' := [(3, .int (nI (i + 1))), (2, .int (rrV (bI (¬ nI (2000 - (rpsR 2000 ((G 0), V 2, V 3))) < nI (rpsR (2000 - (rpsR 2000 ((G 0), V 2, V 3))) ((rpsQ 2000 ((G 0), V 2, V 3)).1, (rpsQ 2000 ((G 0), V 2, V 3)).2.1, (rpsQ 2000 ((G 0), V 2, V 3)).2.2)))) (rpsQ 2000 ((G 0), V 2, V 3)).1 (rpsQ (2000 - (rpsR 2000 ((G 0), V 2, V 3))) ((rpsQ 2000 ((G 0), V 2, V 3)).1, (rpsQ 2000 ((G 0), V 2, V 3)).2.1, (rpsQ 2000 ((G 0), V 2, V 3)).2.2)).1 (i + 1))), (0, .ref (a 0)), (1, .int (nI (rpsR 2000 ((G 0), V 2, V 3))))]) hx hb dX8_repeats_114 hl (k := 3) rfl (show nI i + Int32.ofInt 1 = nI (i + 1) from nI_add i 1) (by decide) rfl (fun ls hl => ?_)
                        refine lv_goto (tgt := 84) hx hb dX8_repeats_117 (by decide) ?_
                        exact ih2 (i + 1) (by omega) (by omega) _ _ _ hP hD hS (lv_sub hl [2, 3, 1, 0] rfl)
              exact lp84 9 0 (Nat.zero_le _) (by omega) _ _ _ hP hD hS (lv_sub hl [2, 3, 1, 0] rfl)
            · skip
              refine lv_iconst (v := 1) hx hb dX8_repeats_76 (by decide) ?_
              refine lv_goto (tgt := 81) hx hb dX8_repeats_77 (by decide) ?_
              refine z_top (y := rrV (bI (¬ nI (2000 - (rpsR 2000 ((G 0), V 2, V 3))) < nI (rpsR (2000 - (rpsR 2000 ((G 0), V 2, V 3))) ((rpsQ 2000 ((G 0), V 2, V 3)).1, (rpsQ 2000 ((G 0), V 2, V 3)).2.1, (rpsQ 2000 ((G 0), V 2, V 3)).2.2)))) (rpsQ 2000 ((G 0), V 2, V 3)).1 (rpsQ (2000 - (rpsR 2000 ((G 0), V 2, V 3))) ((rpsQ 2000 ((G 0), V 2, V 3)).1, (rpsQ 2000 ((G 0), V 2, V 3)).2.1, (rpsQ 2000 ((G 0), V 2, V 3)).2.2)).1 0) (bI_t c_7).symm ?_
              refine lv_istore_n (lv' := [(2, .int (rrV (bI (¬ nI (2000 - (rpsR 2000 ((G 0), V 2, V 3))) < nI (rpsR (2000 - (rpsR 2000 ((G 0), V 2, V 3))) ((rpsQ 2000 ((G 0), V 2, V 3)).1, (rpsQ 2000 ((G 0), V 2, V 3)).2.1, (rpsQ 2000 ((G 0), V 2, V 3)).2.2)))) (rpsQ 2000 ((G 0), V 2, V 3)).1 (rpsQ (2000 - (rpsR 2000 ((G 0), V 2, V 3))) ((rpsQ 2000 ((G 0), V 2, V 3)).1, (rpsQ 2000 ((G 0), V 2, V 3)).2.1, (rpsQ 2000 ((G 0), V 2, V 3)).2.2)).1 0)), (0, .ref (a 0)), (1, .int (nI (rpsR 2000 ((G 0), V 2, V 3)))), (3, .int (nI 8))]) hx hb dX8_repeats_81 rfl hl (by decide) rfl (fun ls hl => ?_)
              refine lv_iconst (v := 0) hx hb dX8_repeats_82 (by decide) ?_
              refine lv_istore_n (lv' := [(3, .int 0), (2, .int (rrV (bI (¬ nI (2000 - (rpsR 2000 ((G 0), V 2, V 3))) < nI (rpsR (2000 - (rpsR 2000 ((G 0), V 2, V 3))) ((rpsQ 2000 ((G 0), V 2, V 3)).1, (rpsQ 2000 ((G 0), V 2, V 3)).2.1, (rpsQ 2000 ((G 0), V 2, V 3)).2.2)))) (rpsQ 2000 ((G 0), V 2, V 3)).1 (rpsQ (2000 - (rpsR 2000 ((G 0), V 2, V 3))) ((rpsQ 2000 ((G 0), V 2, V 3)).1, (rpsQ 2000 ((G 0), V 2, V 3)).2.1, (rpsQ 2000 ((G 0), V 2, V 3)).2.2)).1 0)), (0, .ref (a 0)), (1, .int (nI (rpsR 2000 ((G 0), V 2, V 3))))]) hx hb dX8_repeats_83 rfl hl (by decide) rfl (fun ls hl => ?_)
              have lp84 : ∀ (k2 : Nat) (i : Nat), (i ≤ 8) → (9 ≤ i + k2) → ∀ (H : Heap) (locs : List Loc) (ls : Array Slot), va_P D vwCl (refW cs a (upd (upd (upd V 1 0) 2 ((rpsQ (2000 - (rpsR 2000 ((G 0), V 2, V 3))) ((rpsQ 2000 ((G 0), V 2, V 3)).1, (rpsQ 2000 ((G 0), V 2, V 3)).2.1, (rpsQ 2000 ((G 0), V 2, V 3)).2.2)).2.1)) 3 ((rpsQ (2000 - (rpsR 2000 ((G 0), V 2, V 3))) ((rpsQ 2000 ((G 0), V 2, V 3)).1, (rpsQ 2000 ((G 0), V 2, V 3)).2.1, (rpsQ 2000 ((G 0), V 2, V 3)).2.2)).2.2)) (zU (zU (zU G 0 ((rpsQ (2000 - (rpsR 2000 ((G 0), V 2, V 3))) ((rpsQ 2000 ((G 0), V 2, V 3)).1, (rpsQ 2000 ((G 0), V 2, V 3)).2.1, (rpsQ 2000 ((G 0), V 2, V 3)).2.2)).1)) 2 (G 0)) 3 (cpF 0 (G 3) (rbh (rpsQ 2000 ((G 0), V 2, V 3)).1) 8))) H → va_D A (refW cs a (upd (upd (upd V 1 0) 2 ((rpsQ (2000 - (rpsR 2000 ((G 0), V 2, V 3))) ((rpsQ 2000 ((G 0), V 2, V 3)).1, (rpsQ 2000 ((G 0), V 2, V 3)).2.1, (rpsQ 2000 ((G 0), V 2, V 3)).2.2)).2.1)) 3 ((rpsQ (2000 - (rpsR 2000 ((G 0), V 2, V 3))) ((rpsQ 2000 ((G 0), V 2, V 3)).1, (rpsQ 2000 ((G 0), V 2, V 3)).2.1, (rpsQ 2000 ((G 0), V 2, V 3)).2.2)).2.2)) (zU (zU (zU G 0 ((rpsQ (2000 - (rpsR 2000 ((G 0), V 2, V 3))) ((rpsQ 2000 ((G 0), V 2, V 3)).1, (rpsQ 2000 ((G 0), V 2, V 3)).2.1, (rpsQ 2000 ((G 0), V 2, V 3)).2.2)).1)) 2 (G 0)) 3 (cpF 0 (G 3) (rbh (rpsQ 2000 ((G 0), V 2, V 3)).1) 8))) → va_S A s.heap H locs → lv_has ls 4 [(0, .ref (a 0)), (1, .int (nI (rpsR 2000 ((G 0), V 2, V 3)))), (2, .int (rrV (bI (¬ nI (2000 - (rpsR 2000 ((G 0), V 2, V 3))) < nI (rpsR (2000 - (rpsR 2000 ((G 0), V 2, V 3))) ((rpsQ 2000 ((G 0), V 2, V 3)).1, (rpsQ 2000 ((G 0), V 2, V 3)).2.1, (rpsQ 2000 ((G 0), V 2, V 3)).2.2)))) (rpsQ 2000 ((G 0), V 2, V 3)).1 (rpsQ (2000 - (rpsR 2000 ((G 0), V 2, V 3))) ((rpsQ 2000 ((G 0), V 2, V 3)).1, (rpsQ 2000 ((G 0), V 2, V 3)).2.1, (rpsQ 2000 ((G 0), V 2, V 3)).2.2)).1 i)), (3, .int (nI i))] → W pq l eq ({ frames := 6, cells := 0, slots := 0, locals := 135 } : Room) s mq ([.ref (a 0)] : List Value).toArray below meth cq H locs 0 0 (MQ below (zQ D cs (some (.int (rrpR ((G 0), V 2, V 3)))) (refW cs a (upd (upd (upd V 1 0) 2 ((rrpW ((G 0), V 2, V 3)).1)) 3 ((rrpW ((G 0), V 2, V 3)).2)) (zU (zU (zU G 0 (G 0)) 2 (G 0)) 3 (cpF 0 (G 3) (rbh (rpsQ 2000 ((G 0), V 2, V 3)).1) 8))) A) ([.ref (a 0)] : List Value).toArray s 0 0 A) (F0 mq 84 ls []) := by
                intro k2
                induction k2 with
                | zero =>
                  intro i hi1 hi2 H locs ls hP hD hS hl
                  omega
                | succ k2 ih2 =>
                  intro i hi1 hi2 H locs ls hP hD hS hl
                  refine lv_iload_n hx hb dX8_repeats_84 rfl (lv_at hl 3 rfl) ?_
                  refine lv_bipush (v := 8) hx hb dX8_repeats_85 (by decide) ?_
                  refine lv_icmp_ge (tgt := 120) hx hb dX8_repeats_87 (by decide) (fun c_11 => ?_) (fun c_11 => ?_)
                  · skip
                    have ei := z_leK (n := 8) rfl (by omega) hi1 c_11
                    subst ei
                    refine lv_aload_n hx hb dX8_repeats_120 rfl (lv_at hl 0 rfl) ?_
                    refine z_callV (wn := (refW cs a (upd (upd (upd V 1 0) 2 ((rpsQ (2000 - (rpsR 2000 ((G 0), V 2, V 3))) ((rpsQ 2000 ((G 0), V 2, V 3)).1, (rpsQ 2000 ((G 0), V 2, V 3)).2.1, (rpsQ 2000 ((G 0), V 2, V 3)).2.2)).2.1)) 3 ((rpsQ (2000 - (rpsR 2000 ((G 0), V 2, V 3))) ((rpsQ 2000 ((G 0), V 2, V 3)).1, (rpsQ 2000 ((G 0), V 2, V 3)).2.1, (rpsQ 2000 ((G 0), V 2, V 3)).2.2)).2.2)) (zU (zU (zU G 0 (G 0)) 2 (G 0)) 3 (cpF 0 (G 3) (rbh (rpsQ 2000 ((G 0), V 2, V 3)).1) 8)))) ⟨hx, hb, hml, hown, hts⟩ zY_X8_takesBack w_im_yX8_takesBack w_se_yX8_takesBack w_ml_X8_137 [] [] (c_X8_takesBack l D cs a (upd (upd (upd V 1 0) 2 ((rpsQ (2000 - (rpsR 2000 ((G 0), V 2, V 3))) ((rpsQ 2000 ((G 0), V 2, V 3)).1, (rpsQ 2000 ((G 0), V 2, V 3)).2.1, (rpsQ 2000 ((G 0), V 2, V 3)).2.2)).2.1)) 3 ((rpsQ (2000 - (rpsR 2000 ((G 0), V 2, V 3))) ((rpsQ 2000 ((G 0), V 2, V 3)).1, (rpsQ 2000 ((G 0), V 2, V 3)).2.1, (rpsQ 2000 ((G 0), V 2, V 3)).2.2)).2.2)) (zU (zU (zU G 0 ((rpsQ (2000 - (rpsR 2000 ((G 0), V 2, V 3))) ((rpsQ 2000 ((G 0), V 2, V 3)).1, (rpsQ 2000 ((G 0), V 2, V 3)).2.1, (rpsQ 2000 ((G 0), V 2, V 3)).2.2)).1)) 2 (G 0)) 3 (cpF 0 (G 3) (rbh (rpsQ 2000 ((G 0), V 2, V 3)).1) 8))) hE hK hA hP hD hS [0, 1, 2, 3, 4, 5, 6] rfl rfl rfl rfl 8 rfl rfl rfl rfl hl.1 (Nat.le_of_ble_eq_true rfl) ⟨Nat.le_of_ble_eq_true rfl, Nat.le_of_ble_eq_true rfl⟩ ⟨Nat.le_of_ble_eq_true rfl, Nat.le_of_ble_eq_true rfl⟩ dX8_repeats_121 (fun H locs hP hD hS => ?_)
                    refine lv_iload_n hx hb dX8_repeats_124 rfl (lv_at hl 2 rfl) ?_
                    refine z_top (y := bI (rrV (bI (¬ nI (2000 - (rpsR 2000 ((G 0), V 2, V 3))) < nI (rpsR (2000 - (rpsR 2000 ((G 0), V 2, V 3))) ((rpsQ 2000 ((G 0), V 2, V 3)).1, (rpsQ 2000 ((G 0), V 2, V 3)).2.1, (rpsQ 2000 ((G 0), V 2, V 3)).2.2)))) (rpsQ 2000 ((G 0), V 2, V 3)).1 (rpsQ (2000 - (rpsR 2000 ((G 0), V 2, V 3))) ((rpsQ 2000 ((G 0), V 2, V 3)).1, (rpsQ 2000 ((G 0), V 2, V 3)).2.1, (rpsQ 2000 ((G 0), V 2, V 3)).2.2)).1 8 = 1)) rrV_b ?_
                    exact z_zret hx hb hr hlk hK hP hD hS dX8_repeats_125 bI_nar (by rw [show rrpR ((G 0), V 2, V 3) = _ from if_neg c_3]) (by rw [show rrpW ((G 0), V 2, V 3) = (rrB ((G 0), V 2, V 3)).2 from if_neg c_3])
                  · skip
                    have gi : i < 8 := z_geK (n := 8) rfl (by omega) hi1 c_11
                    refine lv_iload_n hx hb dX8_repeats_90 rfl (lv_at hl 2 rfl) ?_
                    refine lv_if_eq (tgt := 112) hx hb dX8_repeats_91 (by decide) (fun c_12 => ?_) (fun c_12 => ?_)
                    · skip
                      refine lv_iconst (v := 0) hx hb dX8_repeats_112 (by decide) ?_
                      refine z_top (y := rrV (bI (¬ nI (2000 - (rpsR 2000 ((G 0), V 2, V 3))) < nI (rpsR (2000 - (rpsR 2000 ((G 0), V 2, V 3))) ((rpsQ 2000 ((G 0), V 2, V 3)).1, (rpsQ 2000 ((G 0), V 2, V 3)).2.1, (rpsQ 2000 ((G 0), V 2, V 3)).2.2)))) (rpsQ 2000 ((G 0), V 2, V 3)).1 (rpsQ (2000 - (rpsR 2000 ((G 0), V 2, V 3))) ((rpsQ 2000 ((G 0), V 2, V 3)).1, (rpsQ 2000 ((G 0), V 2, V 3)).2.1, (rpsQ 2000 ((G 0), V 2, V 3)).2.2)).1 (i + 1)) (if_pos c_12).symm ?_
                      refine lv_istore_n (lv' := [(2, .int (rrV (bI (¬ nI (2000 - (rpsR 2000 ((G 0), V 2, V 3))) < nI (rpsR (2000 - (rpsR 2000 ((G 0), V 2, V 3))) ((rpsQ 2000 ((G 0), V 2, V 3)).1, (rpsQ 2000 ((G 0), V 2, V 3)).2.1, (rpsQ 2000 ((G 0), V 2, V 3)).2.2)))) (rpsQ 2000 ((G 0), V 2, V 3)).1 (rpsQ (2000 - (rpsR 2000 ((G 0), V 2, V 3))) ((rpsQ 2000 ((G 0), V 2, V 3)).1, (rpsQ 2000 ((G 0), V 2, V 3)).2.1, (rpsQ 2000 ((G 0), V 2, V 3)).2.2)).1 (i + 1))), (0, .ref (a 0)), (1, .int (nI (rpsR 2000 ((G 0), V 2, V 3)))), (3, .int (nI i))]) hx hb dX8_repeats_113 rfl hl (by decide) rfl (fun ls hl => ?_)
                      refine lv_iinc (v := nI (i + 1)) (lv' := [(3, .int (nI (i + 1))), (2, .int (rrV (bI (¬ nI (2000 - (rpsR 2000 ((G 0), V 2, V 3))) < nI (rpsR (2000 - (rpsR 2000 ((G 0), V 2, V 3))) ((rpsQ 2000 ((G 0), V 2, V 3)).1, (rpsQ 2000 ((G 0), V 2, V 3)).2.1, (rpsQ 2000 ((G 0), V 2, V 3)).2.2)))) (rpsQ 2000 ((G 0), V 2, V 3)).1 (rpsQ (2000 - (rpsR 2000 ((G 0), V 2, V 3))) ((rpsQ 2000 ((G 0), V 2, V 3)).1, (rpsQ 2000 ((G 0), V 2, V 3)).2.1, (rpsQ 2000 ((G 0), V 2, V 3)).2.2)).1 (i + 1))), (0, .ref (a 0)), (1, .int (nI (rpsR 2000 ((G 0), V 2, V 3))))]) hx hb dX8_repeats_114 hl (k := 3) rfl (show nI i + Int32.ofInt 1 = nI (i + 1) from nI_add i 1) (by decide) rfl (fun ls hl => ?_)
                      refine lv_goto (tgt := 84) hx hb dX8_repeats_117 (by decide) ?_
                      exact ih2 (i + 1) (by omega) (by omega) _ _ _ hP hD hS (lv_sub hl [2, 3, 1, 0] rfl)
                    · skip
                      refine lv_aload_n hx hb dX8_repeats_94 rfl (lv_at hl 0 rfl) ?_
                      refine va_get (D := D) (ci := 8) (v := .ref (a 4)) (C := RX8) (T := TX8) (N := 13) hx hb hts wsI_X8 hown hK hP 0 rfl rfl 7 (by decide) (hts _ w_fl_X8_19) (fun _ h9 => h9) rfl dX8_repeats_95 ?_
                      refine lv_iload_n hx hb dX8_repeats_98 rfl (lv_at hl 3 rfl) ?_
                      refine z_iald (k := i) hx hb hK hP 4 rfl (by omega) (by first | decide | omega) dX8_repeats_99 ?_
                      refine z_top (y := rbh (rpsQ 2000 ((G 0), V 2, V 3)).1 i) (cp_in0 gi) ?_
                      refine lv_aload_n hx hb dX8_repeats_100 rfl (lv_at hl 0 rfl) ?_
                      refine lv_iload_n hx hb dX8_repeats_101 rfl (lv_at hl 3 rfl) ?_
                      refine z_callV (wn := (refW cs a (upd (upd (upd V 1 0) 2 ((rpsQ (2000 - (rpsR 2000 ((G 0), V 2, V 3))) ((rpsQ 2000 ((G 0), V 2, V 3)).1, (rpsQ 2000 ((G 0), V 2, V 3)).2.1, (rpsQ 2000 ((G 0), V 2, V 3)).2.2)).2.1)) 3 ((rpsQ (2000 - (rpsR 2000 ((G 0), V 2, V 3))) ((rpsQ 2000 ((G 0), V 2, V 3)).1, (rpsQ 2000 ((G 0), V 2, V 3)).2.1, (rpsQ 2000 ((G 0), V 2, V 3)).2.2)).2.2)) (zU (zU (zU G 0 ((rpsQ (2000 - (rpsR 2000 ((G 0), V 2, V 3))) ((rpsQ 2000 ((G 0), V 2, V 3)).1, (rpsQ 2000 ((G 0), V 2, V 3)).2.1, (rpsQ 2000 ((G 0), V 2, V 3)).2.2)).1)) 2 (G 0)) 3 (cpF 0 (G 3) (rbh (rpsQ 2000 ((G 0), V 2, V 3)).1) 8)))) ⟨hx, hb, hml, hown, hts⟩ zY_X8_behind w_im_yX8_behind w_se_yX8_behind w_ml_X8_152 [.int (nI i)] [.int (rbh (rpsQ 2000 ((G 0), V 2, V 3)).1 i)] (c_X8_behind l D cs a (upd (upd (upd V 1 0) 2 ((rpsQ (2000 - (rpsR 2000 ((G 0), V 2, V 3))) ((rpsQ 2000 ((G 0), V 2, V 3)).1, (rpsQ 2000 ((G 0), V 2, V 3)).2.1, (rpsQ 2000 ((G 0), V 2, V 3)).2.2)).2.1)) 3 ((rpsQ (2000 - (rpsR 2000 ((G 0), V 2, V 3))) ((rpsQ 2000 ((G 0), V 2, V 3)).1, (rpsQ 2000 ((G 0), V 2, V 3)).2.1, (rpsQ 2000 ((G 0), V 2, V 3)).2.2)).2.2)) (zU (zU (zU G 0 ((rpsQ (2000 - (rpsR 2000 ((G 0), V 2, V 3))) ((rpsQ 2000 ((G 0), V 2, V 3)).1, (rpsQ 2000 ((G 0), V 2, V 3)).2.1, (rpsQ 2000 ((G 0), V 2, V 3)).2.2)).1)) 2 (G 0)) 3 (cpF 0 (G 3) (rbh (rpsQ 2000 ((G 0), V 2, V 3)).1) 8)) i gi) hE hK hA hP hD hS [0, 1, 2, 3, 4, 5, 6] rfl rfl rfl rfl 8 rfl rfl rfl rfl hl.1 (Nat.le_of_ble_eq_true rfl) ⟨Nat.le_of_ble_eq_true rfl, Nat.le_of_ble_eq_true rfl⟩ ⟨Nat.le_of_ble_eq_true rfl, Nat.le_of_ble_eq_true rfl⟩ dX8_repeats_102 (fun H locs hP hD hS => ?_)
                      refine lv_icmp_ne (tgt := 112) hx hb dX8_repeats_105 (by decide) (fun c_13 => ?_) (fun c_13 => ?_)
                      · skip
                        refine lv_iconst (v := 0) hx hb dX8_repeats_112 (by decide) ?_
                        refine z_top (y := rrV (bI (¬ nI (2000 - (rpsR 2000 ((G 0), V 2, V 3))) < nI (rpsR (2000 - (rpsR 2000 ((G 0), V 2, V 3))) ((rpsQ 2000 ((G 0), V 2, V 3)).1, (rpsQ 2000 ((G 0), V 2, V 3)).2.1, (rpsQ 2000 ((G 0), V 2, V 3)).2.2)))) (rpsQ 2000 ((G 0), V 2, V 3)).1 (rpsQ (2000 - (rpsR 2000 ((G 0), V 2, V 3))) ((rpsQ 2000 ((G 0), V 2, V 3)).1, (rpsQ 2000 ((G 0), V 2, V 3)).2.1, (rpsQ 2000 ((G 0), V 2, V 3)).2.2)).1 (i + 1)) ((if_neg c_12).trans (bI_f c_13)).symm ?_
                        refine lv_istore_n (lv' := [(2, .int (rrV (bI (¬ nI (2000 - (rpsR 2000 ((G 0), V 2, V 3))) < nI (rpsR (2000 - (rpsR 2000 ((G 0), V 2, V 3))) ((rpsQ 2000 ((G 0), V 2, V 3)).1, (rpsQ 2000 ((G 0), V 2, V 3)).2.1, (rpsQ 2000 ((G 0), V 2, V 3)).2.2)))) (rpsQ 2000 ((G 0), V 2, V 3)).1 (rpsQ (2000 - (rpsR 2000 ((G 0), V 2, V 3))) ((rpsQ 2000 ((G 0), V 2, V 3)).1, (rpsQ 2000 ((G 0), V 2, V 3)).2.1, (rpsQ 2000 ((G 0), V 2, V 3)).2.2)).1 (i + 1))), (0, .ref (a 0)), (1, .int (nI (rpsR 2000 ((G 0), V 2, V 3)))), (3, .int (nI i))]) hx hb dX8_repeats_113 rfl hl (by decide) rfl (fun ls hl => ?_)
                        refine lv_iinc (v := nI (i + 1)) (lv' := [(3, .int (nI (i + 1))), (2, .int (rrV (bI (¬ nI (2000 - (rpsR 2000 ((G 0), V 2, V 3))) < nI (rpsR (2000 - (rpsR 2000 ((G 0), V 2, V 3))) ((rpsQ 2000 ((G 0), V 2, V 3)).1, (rpsQ 2000 ((G 0), V 2, V 3)).2.1, (rpsQ 2000 ((G 0), V 2, V 3)).2.2)))) (rpsQ 2000 ((G 0), V 2, V 3)).1 (rpsQ (2000 - (rpsR 2000 ((G 0), V 2, V 3))) ((rpsQ 2000 ((G 0), V 2, V 3)).1, (rpsQ 2000 ((G 0), V 2, V 3)).2.1, (rpsQ 2000 ((G 0), V 2, V 3)).2.2)).1 (i + 1))), (0, .ref (a 0)), (1, .int (nI (rpsR 2000 ((G 0), V 2, V 3))))]) hx hb dX8_repeats_114 hl (k := 3) rfl (show nI i + Int32.ofInt 1 = nI (i + 1) from nI_add i 1) (by decide) rfl (fun ls hl => ?_)
                        refine lv_goto (tgt := 84) hx hb dX8_repeats_117 (by decide) ?_
                        exact ih2 (i + 1) (by omega) (by omega) _ _ _ hP hD hS (lv_sub hl [2, 3, 1, 0] rfl)
                      · skip
                        refine lv_iconst (v := 1) hx hb dX8_repeats_108 (by decide) ?_
                        refine lv_goto (tgt := 113) hx hb dX8_repeats_109 (by decide) ?_
                        refine z_top (y := rrV (bI (¬ nI (2000 - (rpsR 2000 ((G 0), V 2, V 3))) < nI (rpsR (2000 - (rpsR 2000 ((G 0), V 2, V 3))) ((rpsQ 2000 ((G 0), V 2, V 3)).1, (rpsQ 2000 ((G 0), V 2, V 3)).2.1, (rpsQ 2000 ((G 0), V 2, V 3)).2.2)))) (rpsQ 2000 ((G 0), V 2, V 3)).1 (rpsQ (2000 - (rpsR 2000 ((G 0), V 2, V 3))) ((rpsQ 2000 ((G 0), V 2, V 3)).1, (rpsQ 2000 ((G 0), V 2, V 3)).2.1, (rpsQ 2000 ((G 0), V 2, V 3)).2.2)).1 (i + 1)) ((if_neg c_12).trans (bI_t c_13)).symm ?_
                        refine lv_istore_n (lv' := [(2, .int (rrV (bI (¬ nI (2000 - (rpsR 2000 ((G 0), V 2, V 3))) < nI (rpsR (2000 - (rpsR 2000 ((G 0), V 2, V 3))) ((rpsQ 2000 ((G 0), V 2, V 3)).1, (rpsQ 2000 ((G 0), V 2, V 3)).2.1, (rpsQ 2000 ((G 0), V 2, V 3)).2.2)))) (rpsQ 2000 ((G 0), V 2, V 3)).1 (rpsQ (2000 - (rpsR 2000 ((G 0), V 2, V 3))) ((rpsQ 2000 ((G 0), V 2, V 3)).1, (rpsQ 2000 ((G 0), V 2, V 3)).2.1, (rpsQ 2000 ((G 0), V 2, V 3)).2.2)).1 (i + 1))), (0, .ref (a 0)), (1, .int (nI (rpsR 2000 ((G 0), V 2, V 3)))), (3, .int (nI i))]) hx hb dX8_repeats_113 rfl hl (by decide) rfl (fun ls hl => ?_)
                        refine lv_iinc (v := nI (i + 1)) (lv' := [(3, .int (nI (i + 1))), (2, .int (rrV (bI (¬ nI (2000 - (rpsR 2000 ((G 0), V 2, V 3))) < nI (rpsR (2000 - (rpsR 2000 ((G 0), V 2, V 3))) ((rpsQ 2000 ((G 0), V 2, V 3)).1, (rpsQ 2000 ((G 0), V 2, V 3)).2.1, (rpsQ 2000 ((G 0), V 2, V 3)).2.2)))) (rpsQ 2000 ((G 0), V 2, V 3)).1 (rpsQ (2000 - (rpsR 2000 ((G 0), V 2, V 3))) ((rpsQ 2000 ((G 0), V 2, V 3)).1, (rpsQ 2000 ((G 0), V 2, V 3)).2.1, (rpsQ 2000 ((G 0), V 2, V 3)).2.2)).1 (i + 1))), (0, .ref (a 0)), (1, .int (nI (rpsR 2000 ((G 0), V 2, V 3))))]) hx hb dX8_repeats_114 hl (k := 3) rfl (show nI i + Int32.ofInt 1 = nI (i + 1) from nI_add i 1) (by decide) rfl (fun ls hl => ?_)
                        refine lv_goto (tgt := 84) hx hb dX8_repeats_117 (by decide) ?_
                        exact ih2 (i + 1) (by omega) (by omega) _ _ _ hP hD hS (lv_sub hl [2, 3, 1, 0] rfl)
              exact lp84 9 0 (Nat.zero_le _) (by omega) _ _ _ hP hD hS (lv_sub hl [2, 3, 1, 0] rfl)
        · skip
          have gi : i < 8 := z_geK (n := 8) rfl (by omega) hi1 c_2
          refine lv_aload_n hx hb dX8_repeats_38 rfl (lv_at hl 0 rfl) ?_
          refine va_get (D := D) (ci := 8) (v := .ref (a 4)) (C := RX8) (T := TX8) (N := 13) hx hb hts wsI_X8 hown hK hP 0 rfl rfl 7 (by decide) (hts _ w_fl_X8_19) (fun _ h9 => h9) rfl dX8_repeats_39 ?_
          refine lv_iload_n hx hb dX8_repeats_42 rfl (lv_at hl 3 rfl) ?_
          refine lv_aload_n hx hb dX8_repeats_43 rfl (lv_at hl 0 rfl) ?_
          refine lv_iload_n hx hb dX8_repeats_44 rfl (lv_at hl 3 rfl) ?_
          refine z_callV (wn := (refW cs a (upd (upd (upd V 1 0) 2 ((rpsQ 2000 ((G 0), V 2, V 3)).2.1)) 3 ((rpsQ 2000 ((G 0), V 2, V 3)).2.2)) (zU (zU (zU G 0 ((rpsQ 2000 ((G 0), V 2, V 3)).1)) 2 (G 0)) 3 (cpF 0 (G 3) (rbh (rpsQ 2000 ((G 0), V 2, V 3)).1) i)))) ⟨hx, hb, hml, hown, hts⟩ zY_X8_behind w_im_yX8_behind w_se_yX8_behind w_ml_X8_152 [.int (nI i)] [.int (nI i), .ref (a 4)] (c_X8_behind l D cs a (upd (upd (upd V 1 0) 2 ((rpsQ 2000 ((G 0), V 2, V 3)).2.1)) 3 ((rpsQ 2000 ((G 0), V 2, V 3)).2.2)) (zU (zU (zU G 0 ((rpsQ 2000 ((G 0), V 2, V 3)).1)) 2 (G 0)) 3 (cpF 0 (G 3) (rbh (rpsQ 2000 ((G 0), V 2, V 3)).1) i)) i gi) hE hK hA hP hD hS [0, 1, 2, 3, 4, 5, 6] rfl rfl rfl rfl 8 rfl rfl rfl rfl hl.1 (Nat.le_of_ble_eq_true rfl) ⟨Nat.le_of_ble_eq_true rfl, Nat.le_of_ble_eq_true rfl⟩ ⟨Nat.le_of_ble_eq_true rfl, Nat.le_of_ble_eq_true rfl⟩ dX8_repeats_45 (fun H locs hP hD hS => ?_)
          refine z_iast (k := i) hx hb hK hP hD hS 4 rfl (by omega) (by first | decide | omega) dX8_repeats_48 (fun H locs hP hD hS => ?_)
          have hP : va_P D vwCl (refW cs a (upd (upd (upd V 1 0) 2 ((rpsQ 2000 ((G 0), V 2, V 3)).2.1)) 3 ((rpsQ 2000 ((G 0), V 2, V 3)).2.2)) (zU (zU (zU G 0 ((rpsQ 2000 ((G 0), V 2, V 3)).1)) 2 (G 0)) 3 (upd (cpF 0 (G 3) (rbh (rpsQ 2000 ((G 0), V 2, V 3)).1) i) i (rbh ((rpsQ 2000 ((G 0), V 2, V 3)).1) i)))) H := hP
          have hD : va_D A (refW cs a (upd (upd (upd V 1 0) 2 ((rpsQ 2000 ((G 0), V 2, V 3)).2.1)) 3 ((rpsQ 2000 ((G 0), V 2, V 3)).2.2)) (zU (zU (zU G 0 ((rpsQ 2000 ((G 0), V 2, V 3)).1)) 2 (G 0)) 3 (upd (cpF 0 (G 3) (rbh (rpsQ 2000 ((G 0), V 2, V 3)).1) i) i (rbh ((rpsQ 2000 ((G 0), V 2, V 3)).1) i)))) := hD
          refine lv_iinc (v := nI (i + 1)) (lv' := [(3, .int (nI (i + 1))), (0, .ref (a 0)), (1, .int (nI (rpsR 2000 ((G 0), V 2, V 3)))), (2, .int (bI (¬ 2000 < nI (rpsR 2000 ((G 0), V 2, V 3)))))]) hx hb dX8_repeats_49 hl (k := 3) rfl (show nI i + Int32.ofInt 1 = nI (i + 1) from nI_add i 1) (by decide) rfl (fun ls hl => ?_)
          refine lv_goto (tgt := 32) hx hb dX8_repeats_52 (by decide) ?_
          rw [cp_s0 rfl] at hP hD
          exact ih (i + 1) (by omega) (by omega) _ _ _ hP hD hS (lv_sub hl [1, 2, 3, 0] rfl)
    have hP := z_eqP (w2 := (refW cs a (upd (upd (upd V 1 0) 2 ((rpsQ 2000 ((G 0), V 2, V 3)).2.1)) 3 ((rpsQ 2000 ((G 0), V 2, V 3)).2.2)) (zU (zU (zU G 0 ((rpsQ 2000 ((G 0), V 2, V 3)).1)) 2 (G 0)) 3 (cpF 0 (G 3) (rbh (rpsQ 2000 ((G 0), V 2, V 3)).1) 0)))) (by rw [cp_0]; first | done | rfl) hP
    have hD : va_D A (refW cs a (upd (upd (upd V 1 0) 2 ((rpsQ 2000 ((G 0), V 2, V 3)).2.1)) 3 ((rpsQ 2000 ((G 0), V 2, V 3)).2.2)) (zU (zU (zU G 0 ((rpsQ 2000 ((G 0), V 2, V 3)).1)) 2 (G 0)) 3 (cpF 0 (G 3) (rbh (rpsQ 2000 ((G 0), V 2, V 3)).1) 0))) := z_eqD (by rw [cp_0]; first | done | rfl) hD
    exact lp32 9 0 (Nat.zero_le _) (by omega) _ _ _ hP hD hS (lv_sub hl [3, 2, 1, 0] rfl)
  · skip
    refine lv_iconst (v := 1) hx hb dX8_repeats_24 (by decide) ?_
    refine lv_goto (tgt := 29) hx hb dX8_repeats_25 (by decide) ?_
    refine z_top (y := bI (¬ 2000 < nI (rpsR 2000 ((G 0), V 2, V 3)))) (bI_t c_1).symm ?_
    refine lv_istore_n (lv' := [(2, .int (bI (¬ 2000 < nI (rpsR 2000 ((G 0), V 2, V 3))))), (1, .int (nI (rpsR 2000 ((G 0), V 2, V 3)))), (0, .ref (a 0))]) hx hb dX8_repeats_29 rfl hl (by decide) rfl (fun ls hl => ?_)
    refine lv_iconst (v := 0) hx hb dX8_repeats_30 (by decide) ?_
    refine lv_istore_n (lv' := [(3, .int 0), (2, .int (bI (¬ 2000 < nI (rpsR 2000 ((G 0), V 2, V 3))))), (1, .int (nI (rpsR 2000 ((G 0), V 2, V 3)))), (0, .ref (a 0))]) hx hb dX8_repeats_31 rfl hl (by decide) rfl (fun ls hl => ?_)
    have lp32 : ∀ (k : Nat) (i : Nat), (i ≤ 8) → (8 + 1 ≤ i + k) → ∀ (H : Heap) (locs : List Loc) (ls : Array Slot), va_P D vwCl (refW cs a (upd (upd (upd V 1 0) 2 ((rpsQ 2000 ((G 0), V 2, V 3)).2.1)) 3 ((rpsQ 2000 ((G 0), V 2, V 3)).2.2)) (zU (zU (zU G 0 ((rpsQ 2000 ((G 0), V 2, V 3)).1)) 2 (G 0)) 3 (cpF 0 (G 3) (rbh (rpsQ 2000 ((G 0), V 2, V 3)).1) i))) H → va_D A (refW cs a (upd (upd (upd V 1 0) 2 ((rpsQ 2000 ((G 0), V 2, V 3)).2.1)) 3 ((rpsQ 2000 ((G 0), V 2, V 3)).2.2)) (zU (zU (zU G 0 ((rpsQ 2000 ((G 0), V 2, V 3)).1)) 2 (G 0)) 3 (cpF 0 (G 3) (rbh (rpsQ 2000 ((G 0), V 2, V 3)).1) i))) → va_S A s.heap H locs → lv_has ls 4 [(0, .ref (a 0)), (1, .int (nI (rpsR 2000 ((G 0), V 2, V 3)))), (2, .int (bI (¬ 2000 < nI (rpsR 2000 ((G 0), V 2, V 3))))), (3, .int (nI i))] → W pq l eq ({ frames := 6, cells := 0, slots := 0, locals := 135 } : Room) s mq ([.ref (a 0)] : List Value).toArray below meth cq H locs 0 0 (MQ below (zQ D cs (some (.int (rrpR ((G 0), V 2, V 3)))) (refW cs a (upd (upd (upd V 1 0) 2 ((rrpW ((G 0), V 2, V 3)).1)) 3 ((rrpW ((G 0), V 2, V 3)).2)) (zU (zU (zU G 0 (G 0)) 2 (G 0)) 3 (cpF 0 (G 3) (rbh (rpsQ 2000 ((G 0), V 2, V 3)).1) 8))) A) ([.ref (a 0)] : List Value).toArray s 0 0 A) (F0 mq 32 ls []) := by
      intro k
      induction k with
      | zero =>
        intro i hi1 hi2 H locs ls hP hD hS hl
        omega
      | succ k ih =>
        intro i hi1 hi2 H locs ls hP hD hS hl
        refine lv_iload_n hx hb dX8_repeats_32 rfl (lv_at hl 3 rfl) ?_
        refine lv_bipush (v := 8) hx hb dX8_repeats_33 (by decide) ?_
        refine lv_icmp_ge (tgt := 55) hx hb dX8_repeats_35 (by decide) (fun c_14 => ?_) (fun c_14 => ?_)
        · skip
          have ei := z_leK (n := 8) rfl (by omega) hi1 c_14
          subst ei
          refine lv_iload_n hx hb dX8_repeats_55 rfl (lv_at hl 2 rfl) ?_
          refine lv_if_eq (tgt := 80) hx hb dX8_repeats_56 (by decide) (fun c_15 => ?_) (fun c_15 => ?_)
          · skip
            have c_15 := bI_0.mp c_15
            refine lv_iconst (v := 0) hx hb dX8_repeats_80 (by decide) ?_
            refine z_top (y := rrV 0 (rpsQ 2000 ((G 0), V 2, V 3)).1 (rpsQ 2000 ((G 0), V 2, V 3)).1 0) rfl ?_
            refine lv_istore_n (lv' := [(2, .int (rrV 0 (rpsQ 2000 ((G 0), V 2, V 3)).1 (rpsQ 2000 ((G 0), V 2, V 3)).1 0)), (0, .ref (a 0)), (1, .int (nI (rpsR 2000 ((G 0), V 2, V 3)))), (3, .int (nI 8))]) hx hb dX8_repeats_81 rfl hl (by decide) rfl (fun ls hl => ?_)
            refine lv_iconst (v := 0) hx hb dX8_repeats_82 (by decide) ?_
            refine lv_istore_n (lv' := [(3, .int 0), (2, .int (rrV 0 (rpsQ 2000 ((G 0), V 2, V 3)).1 (rpsQ 2000 ((G 0), V 2, V 3)).1 0)), (0, .ref (a 0)), (1, .int (nI (rpsR 2000 ((G 0), V 2, V 3))))]) hx hb dX8_repeats_83 rfl hl (by decide) rfl (fun ls hl => ?_)
            have lp84 : ∀ (k2 : Nat) (i : Nat), (i ≤ 8) → (9 ≤ i + k2) → ∀ (H : Heap) (locs : List Loc) (ls : Array Slot), va_P D vwCl (refW cs a (upd (upd (upd V 1 0) 2 ((rpsQ 2000 ((G 0), V 2, V 3)).2.1)) 3 ((rpsQ 2000 ((G 0), V 2, V 3)).2.2)) (zU (zU (zU G 0 ((rpsQ 2000 ((G 0), V 2, V 3)).1)) 2 (G 0)) 3 (cpF 0 (G 3) (rbh (rpsQ 2000 ((G 0), V 2, V 3)).1) 8))) H → va_D A (refW cs a (upd (upd (upd V 1 0) 2 ((rpsQ 2000 ((G 0), V 2, V 3)).2.1)) 3 ((rpsQ 2000 ((G 0), V 2, V 3)).2.2)) (zU (zU (zU G 0 ((rpsQ 2000 ((G 0), V 2, V 3)).1)) 2 (G 0)) 3 (cpF 0 (G 3) (rbh (rpsQ 2000 ((G 0), V 2, V 3)).1) 8))) → va_S A s.heap H locs → lv_has ls 4 [(0, .ref (a 0)), (1, .int (nI (rpsR 2000 ((G 0), V 2, V 3)))), (2, .int (rrV 0 (rpsQ 2000 ((G 0), V 2, V 3)).1 (rpsQ 2000 ((G 0), V 2, V 3)).1 i)), (3, .int (nI i))] → W pq l eq ({ frames := 6, cells := 0, slots := 0, locals := 135 } : Room) s mq ([.ref (a 0)] : List Value).toArray below meth cq H locs 0 0 (MQ below (zQ D cs (some (.int (rrpR ((G 0), V 2, V 3)))) (refW cs a (upd (upd (upd V 1 0) 2 ((rrpW ((G 0), V 2, V 3)).1)) 3 ((rrpW ((G 0), V 2, V 3)).2)) (zU (zU (zU G 0 (G 0)) 2 (G 0)) 3 (cpF 0 (G 3) (rbh (rpsQ 2000 ((G 0), V 2, V 3)).1) 8))) A) ([.ref (a 0)] : List Value).toArray s 0 0 A) (F0 mq 84 ls []) := by
              intro k2
              induction k2 with
              | zero =>
                intro i hi1 hi2 H locs ls hP hD hS hl
                omega
              | succ k2 ih2 =>
                intro i hi1 hi2 H locs ls hP hD hS hl
                refine lv_iload_n hx hb dX8_repeats_84 rfl (lv_at hl 3 rfl) ?_
                refine lv_bipush (v := 8) hx hb dX8_repeats_85 (by decide) ?_
                refine lv_icmp_ge (tgt := 120) hx hb dX8_repeats_87 (by decide) (fun c_16 => ?_) (fun c_16 => ?_)
                · skip
                  have ei := z_leK (n := 8) rfl (by omega) hi1 c_16
                  subst ei
                  refine lv_aload_n hx hb dX8_repeats_120 rfl (lv_at hl 0 rfl) ?_
                  refine z_callV (wn := (refW cs a (upd (upd (upd V 1 0) 2 ((rpsQ 2000 ((G 0), V 2, V 3)).2.1)) 3 ((rpsQ 2000 ((G 0), V 2, V 3)).2.2)) (zU (zU (zU G 0 (G 0)) 2 (G 0)) 3 (cpF 0 (G 3) (rbh (rpsQ 2000 ((G 0), V 2, V 3)).1) 8)))) ⟨hx, hb, hml, hown, hts⟩ zY_X8_takesBack w_im_yX8_takesBack w_se_yX8_takesBack w_ml_X8_137 [] [] (c_X8_takesBack l D cs a (upd (upd (upd V 1 0) 2 ((rpsQ 2000 ((G 0), V 2, V 3)).2.1)) 3 ((rpsQ 2000 ((G 0), V 2, V 3)).2.2)) (zU (zU (zU G 0 ((rpsQ 2000 ((G 0), V 2, V 3)).1)) 2 (G 0)) 3 (cpF 0 (G 3) (rbh (rpsQ 2000 ((G 0), V 2, V 3)).1) 8))) hE hK hA hP hD hS [0, 1, 2, 3, 4, 5, 6] rfl rfl rfl rfl 8 rfl rfl rfl rfl hl.1 (Nat.le_of_ble_eq_true rfl) ⟨Nat.le_of_ble_eq_true rfl, Nat.le_of_ble_eq_true rfl⟩ ⟨Nat.le_of_ble_eq_true rfl, Nat.le_of_ble_eq_true rfl⟩ dX8_repeats_121 (fun H locs hP hD hS => ?_)
                  refine lv_iload_n hx hb dX8_repeats_124 rfl (lv_at hl 2 rfl) ?_
                  refine z_top (y := bI (rrV 0 (rpsQ 2000 ((G 0), V 2, V 3)).1 (rpsQ 2000 ((G 0), V 2, V 3)).1 8 = 1)) rrV_b ?_
                  exact z_zret hx hb hr hlk hK hP hD hS dX8_repeats_125 bI_nar (by rw [show rrpR ((G 0), V 2, V 3) = 0 from if_pos (Decidable.not_not.mp c_15), show rrV 0 (rpsQ 2000 ((G 0), V 2, V 3)).1 (rpsQ 2000 ((G 0), V 2, V 3)).1 8 = 0 from rrV_0, bI_f (fun h => absurd (show (0 : Int32) = 1 from h) (by decide))]) (by rw [show rrpW ((G 0), V 2, V 3) = (rpsQ 2000 ((G 0), V 2, V 3)).2 from if_pos (Decidable.not_not.mp c_15)])
                · skip
                  have gi : i < 8 := z_geK (n := 8) rfl (by omega) hi1 c_16
                  refine lv_iload_n hx hb dX8_repeats_90 rfl (lv_at hl 2 rfl) ?_
                  refine lv_if_eq (tgt := 112) hx hb dX8_repeats_91 (by decide) (fun c_17 => ?_) (fun c_17 => ?_)
                  · skip
                    refine lv_iconst (v := 0) hx hb dX8_repeats_112 (by decide) ?_
                    refine z_top (y := rrV 0 (rpsQ 2000 ((G 0), V 2, V 3)).1 (rpsQ 2000 ((G 0), V 2, V 3)).1 (i + 1)) (if_pos c_17).symm ?_
                    refine lv_istore_n (lv' := [(2, .int (rrV 0 (rpsQ 2000 ((G 0), V 2, V 3)).1 (rpsQ 2000 ((G 0), V 2, V 3)).1 (i + 1))), (0, .ref (a 0)), (1, .int (nI (rpsR 2000 ((G 0), V 2, V 3)))), (3, .int (nI i))]) hx hb dX8_repeats_113 rfl hl (by decide) rfl (fun ls hl => ?_)
                    refine lv_iinc (v := nI (i + 1)) (lv' := [(3, .int (nI (i + 1))), (2, .int (rrV 0 (rpsQ 2000 ((G 0), V 2, V 3)).1 (rpsQ 2000 ((G 0), V 2, V 3)).1 (i + 1))), (0, .ref (a 0)), (1, .int (nI (rpsR 2000 ((G 0), V 2, V 3))))]) hx hb dX8_repeats_114 hl (k := 3) rfl (show nI i + Int32.ofInt 1 = nI (i + 1) from nI_add i 1) (by decide) rfl (fun ls hl => ?_)
                    refine lv_goto (tgt := 84) hx hb dX8_repeats_117 (by decide) ?_
                    exact ih2 (i + 1) (by omega) (by omega) _ _ _ hP hD hS (lv_sub hl [2, 3, 1, 0] rfl)
                  · skip
                    refine lv_aload_n hx hb dX8_repeats_94 rfl (lv_at hl 0 rfl) ?_
                    refine va_get (D := D) (ci := 8) (v := .ref (a 4)) (C := RX8) (T := TX8) (N := 13) hx hb hts wsI_X8 hown hK hP 0 rfl rfl 7 (by decide) (hts _ w_fl_X8_19) (fun _ h9 => h9) rfl dX8_repeats_95 ?_
                    refine lv_iload_n hx hb dX8_repeats_98 rfl (lv_at hl 3 rfl) ?_
                    refine z_iald (k := i) hx hb hK hP 4 rfl (by omega) (by first | decide | omega) dX8_repeats_99 ?_
                    refine z_top (y := rbh (rpsQ 2000 ((G 0), V 2, V 3)).1 i) (cp_in0 gi) ?_
                    refine lv_aload_n hx hb dX8_repeats_100 rfl (lv_at hl 0 rfl) ?_
                    refine lv_iload_n hx hb dX8_repeats_101 rfl (lv_at hl 3 rfl) ?_
                    refine z_callV (wn := (refW cs a (upd (upd (upd V 1 0) 2 ((rpsQ 2000 ((G 0), V 2, V 3)).2.1)) 3 ((rpsQ 2000 ((G 0), V 2, V 3)).2.2)) (zU (zU (zU G 0 ((rpsQ 2000 ((G 0), V 2, V 3)).1)) 2 (G 0)) 3 (cpF 0 (G 3) (rbh (rpsQ 2000 ((G 0), V 2, V 3)).1) 8)))) ⟨hx, hb, hml, hown, hts⟩ zY_X8_behind w_im_yX8_behind w_se_yX8_behind w_ml_X8_152 [.int (nI i)] [.int (rbh (rpsQ 2000 ((G 0), V 2, V 3)).1 i)] (c_X8_behind l D cs a (upd (upd (upd V 1 0) 2 ((rpsQ 2000 ((G 0), V 2, V 3)).2.1)) 3 ((rpsQ 2000 ((G 0), V 2, V 3)).2.2)) (zU (zU (zU G 0 ((rpsQ 2000 ((G 0), V 2, V 3)).1)) 2 (G 0)) 3 (cpF 0 (G 3) (rbh (rpsQ 2000 ((G 0), V 2, V 3)).1) 8)) i gi) hE hK hA hP hD hS [0, 1, 2, 3, 4, 5, 6] rfl rfl rfl rfl 8 rfl rfl rfl rfl hl.1 (Nat.le_of_ble_eq_true rfl) ⟨Nat.le_of_ble_eq_true rfl, Nat.le_of_ble_eq_true rfl⟩ ⟨Nat.le_of_ble_eq_true rfl, Nat.le_of_ble_eq_true rfl⟩ dX8_repeats_102 (fun H locs hP hD hS => ?_)
                    refine lv_icmp_ne (tgt := 112) hx hb dX8_repeats_105 (by decide) (fun c_18 => ?_) (fun c_18 => ?_)
                    · skip
                      refine lv_iconst (v := 0) hx hb dX8_repeats_112 (by decide) ?_
                      refine z_top (y := rrV 0 (rpsQ 2000 ((G 0), V 2, V 3)).1 (rpsQ 2000 ((G 0), V 2, V 3)).1 (i + 1)) ((if_neg c_17).trans (bI_f c_18)).symm ?_
                      refine lv_istore_n (lv' := [(2, .int (rrV 0 (rpsQ 2000 ((G 0), V 2, V 3)).1 (rpsQ 2000 ((G 0), V 2, V 3)).1 (i + 1))), (0, .ref (a 0)), (1, .int (nI (rpsR 2000 ((G 0), V 2, V 3)))), (3, .int (nI i))]) hx hb dX8_repeats_113 rfl hl (by decide) rfl (fun ls hl => ?_)
                      refine lv_iinc (v := nI (i + 1)) (lv' := [(3, .int (nI (i + 1))), (2, .int (rrV 0 (rpsQ 2000 ((G 0), V 2, V 3)).1 (rpsQ 2000 ((G 0), V 2, V 3)).1 (i + 1))), (0, .ref (a 0)), (1, .int (nI (rpsR 2000 ((G 0), V 2, V 3))))]) hx hb dX8_repeats_114 hl (k := 3) rfl (show nI i + Int32.ofInt 1 = nI (i + 1) from nI_add i 1) (by decide) rfl (fun ls hl => ?_)
                      refine lv_goto (tgt := 84) hx hb dX8_repeats_117 (by decide) ?_
                      exact ih2 (i + 1) (by omega) (by omega) _ _ _ hP hD hS (lv_sub hl [2, 3, 1, 0] rfl)
                    · skip
                      refine lv_iconst (v := 1) hx hb dX8_repeats_108 (by decide) ?_
                      refine lv_goto (tgt := 113) hx hb dX8_repeats_109 (by decide) ?_
                      refine z_top (y := rrV 0 (rpsQ 2000 ((G 0), V 2, V 3)).1 (rpsQ 2000 ((G 0), V 2, V 3)).1 (i + 1)) ((if_neg c_17).trans (bI_t c_18)).symm ?_
                      refine lv_istore_n (lv' := [(2, .int (rrV 0 (rpsQ 2000 ((G 0), V 2, V 3)).1 (rpsQ 2000 ((G 0), V 2, V 3)).1 (i + 1))), (0, .ref (a 0)), (1, .int (nI (rpsR 2000 ((G 0), V 2, V 3)))), (3, .int (nI i))]) hx hb dX8_repeats_113 rfl hl (by decide) rfl (fun ls hl => ?_)
                      refine lv_iinc (v := nI (i + 1)) (lv' := [(3, .int (nI (i + 1))), (2, .int (rrV 0 (rpsQ 2000 ((G 0), V 2, V 3)).1 (rpsQ 2000 ((G 0), V 2, V 3)).1 (i + 1))), (0, .ref (a 0)), (1, .int (nI (rpsR 2000 ((G 0), V 2, V 3))))]) hx hb dX8_repeats_114 hl (k := 3) rfl (show nI i + Int32.ofInt 1 = nI (i + 1) from nI_add i 1) (by decide) rfl (fun ls hl => ?_)
                      refine lv_goto (tgt := 84) hx hb dX8_repeats_117 (by decide) ?_
                      exact ih2 (i + 1) (by omega) (by omega) _ _ _ hP hD hS (lv_sub hl [2, 3, 1, 0] rfl)
            exact lp84 9 0 (Nat.zero_le _) (by omega) _ _ _ hP hD hS (lv_sub hl [2, 3, 1, 0] rfl)
          · skip
            have c_15 := bI_n0 c_15
            have h7 : (rpsR 2000 ((G 0), V 2, V 3)) ≤ 2000 := Nat.le_of_not_lt (fun h => c_15 ((nI_ltI (a := 2000) (by omega) (by have := rpsR_le (M := 2000) (q := ((G 0), V 2, V 3)); omega)).mpr h))
            refine lv_aload_n hx hb dX8_repeats_59 rfl (lv_at hl 0 rfl) ?_
            refine lv_sipush (v := 2000) hx hb dX8_repeats_60 (by decide) ?_
            refine lv_iload_n hx hb dX8_repeats_63 rfl (lv_at hl 1 rfl) ?_
            refine lv_isub hx hb dX8_repeats_64 ?_
            refine z_top (y := nI (2000 - (rpsR 2000 ((G 0), V 2, V 3)))) (pk_sub (a := 2000) h7) ?_
            refine z_callV (wn := (refW cs a (upd (upd (upd V 1 0) 2 ((rpsQ (2000 - (rpsR 2000 ((G 0), V 2, V 3))) ((rpsQ 2000 ((G 0), V 2, V 3)).1, (rpsQ 2000 ((G 0), V 2, V 3)).2.1, (rpsQ 2000 ((G 0), V 2, V 3)).2.2)).2.1)) 3 ((rpsQ (2000 - (rpsR 2000 ((G 0), V 2, V 3))) ((rpsQ 2000 ((G 0), V 2, V 3)).1, (rpsQ 2000 ((G 0), V 2, V 3)).2.1, (rpsQ 2000 ((G 0), V 2, V 3)).2.2)).2.2)) (zU (zU (zU G 0 ((rpsQ (2000 - (rpsR 2000 ((G 0), V 2, V 3))) ((rpsQ 2000 ((G 0), V 2, V 3)).1, (rpsQ 2000 ((G 0), V 2, V 3)).2.1, (rpsQ 2000 ((G 0), V 2, V 3)).2.2)).1)) 2 (G 0)) 3 (cpF 0 (G 3) (rbh (rpsQ 2000 ((G 0), V 2, V 3)).1) 8)))) ⟨hx, hb, hml, hown, hts⟩ zY_X8_passes w_im_yX8_passes w_se_yX8_passes w_ml_X8_140 [.int (nI (2000 - (rpsR 2000 ((G 0), V 2, V 3))))] [] (c_X8_passes l D cs a (upd (upd (upd V 1 0) 2 ((rpsQ 2000 ((G 0), V 2, V 3)).2.1)) 3 ((rpsQ 2000 ((G 0), V 2, V 3)).2.2)) (zU (zU (zU G 0 ((rpsQ 2000 ((G 0), V 2, V 3)).1)) 2 (G 0)) 3 (cpF 0 (G 3) (rbh (rpsQ 2000 ((G 0), V 2, V 3)).1) 8)) (2000 - (rpsR 2000 ((G 0), V 2, V 3))) (by omega) hok1) hE hK hA hP hD hS [0, 1, 2, 3, 4, 5, 6] rfl rfl rfl rfl 8 rfl rfl rfl rfl hl.1 (Nat.le_of_ble_eq_true rfl) ⟨Nat.le_of_ble_eq_true rfl, Nat.le_of_ble_eq_true rfl⟩ ⟨Nat.le_of_ble_eq_true rfl, Nat.le_of_ble_eq_true rfl⟩ dX8_repeats_65 (fun H locs hP hD hS => ?_)
            refine lv_sipush (v := 2000) hx hb dX8_repeats_68 (by decide) ?_
            refine lv_iload_n hx hb dX8_repeats_71 rfl (lv_at hl 1 rfl) ?_
            refine lv_isub hx hb dX8_repeats_72 ?_
            refine z_top (y := nI (2000 - (rpsR 2000 ((G 0), V 2, V 3)))) (pk_sub (a := 2000) h7) ?_
            refine lv_icmp_gt (tgt := 80) hx hb dX8_repeats_73 (by decide) (fun c_19 => ?_) (fun c_19 => ?_)
            · skip
              refine lv_iconst (v := 0) hx hb dX8_repeats_80 (by decide) ?_
              refine z_top (y := rrV (bI (¬ nI (2000 - (rpsR 2000 ((G 0), V 2, V 3))) < nI (rpsR (2000 - (rpsR 2000 ((G 0), V 2, V 3))) ((rpsQ 2000 ((G 0), V 2, V 3)).1, (rpsQ 2000 ((G 0), V 2, V 3)).2.1, (rpsQ 2000 ((G 0), V 2, V 3)).2.2)))) (rpsQ 2000 ((G 0), V 2, V 3)).1 (rpsQ (2000 - (rpsR 2000 ((G 0), V 2, V 3))) ((rpsQ 2000 ((G 0), V 2, V 3)).1, (rpsQ 2000 ((G 0), V 2, V 3)).2.1, (rpsQ 2000 ((G 0), V 2, V 3)).2.2)).1 0) (bI_f (fun h => h c_19)).symm ?_
              refine lv_istore_n (lv' := [(2, .int (rrV (bI (¬ nI (2000 - (rpsR 2000 ((G 0), V 2, V 3))) < nI (rpsR (2000 - (rpsR 2000 ((G 0), V 2, V 3))) ((rpsQ 2000 ((G 0), V 2, V 3)).1, (rpsQ 2000 ((G 0), V 2, V 3)).2.1, (rpsQ 2000 ((G 0), V 2, V 3)).2.2)))) (rpsQ 2000 ((G 0), V 2, V 3)).1 (rpsQ (2000 - (rpsR 2000 ((G 0), V 2, V 3))) ((rpsQ 2000 ((G 0), V 2, V 3)).1, (rpsQ 2000 ((G 0), V 2, V 3)).2.1, (rpsQ 2000 ((G 0), V 2, V 3)).2.2)).1 0)), (0, .ref (a 0)), (1, .int (nI (rpsR 2000 ((G 0), V 2, V 3)))), (3, .int (nI 8))]) hx hb dX8_repeats_81 rfl hl (by decide) rfl (fun ls hl => ?_)
              refine lv_iconst (v := 0) hx hb dX8_repeats_82 (by decide) ?_
              refine lv_istore_n (lv' := [(3, .int 0), (2, .int (rrV (bI (¬ nI (2000 - (rpsR 2000 ((G 0), V 2, V 3))) < nI (rpsR (2000 - (rpsR 2000 ((G 0), V 2, V 3))) ((rpsQ 2000 ((G 0), V 2, V 3)).1, (rpsQ 2000 ((G 0), V 2, V 3)).2.1, (rpsQ 2000 ((G 0), V 2, V 3)).2.2)))) (rpsQ 2000 ((G 0), V 2, V 3)).1 (rpsQ (2000 - (rpsR 2000 ((G 0), V 2, V 3))) ((rpsQ 2000 ((G 0), V 2, V 3)).1, (rpsQ 2000 ((G 0), V 2, V 3)).2.1, (rpsQ 2000 ((G 0), V 2, V 3)).2.2)).1 0)), (0, .ref (a 0)), (1, .int (nI (rpsR 2000 ((G 0), V 2, V 3))))]) hx hb dX8_repeats_83 rfl hl (by decide) rfl (fun ls hl => ?_)
              have lp84 : ∀ (k2 : Nat) (i : Nat), (i ≤ 8) → (9 ≤ i + k2) → ∀ (H : Heap) (locs : List Loc) (ls : Array Slot), va_P D vwCl (refW cs a (upd (upd (upd V 1 0) 2 ((rpsQ (2000 - (rpsR 2000 ((G 0), V 2, V 3))) ((rpsQ 2000 ((G 0), V 2, V 3)).1, (rpsQ 2000 ((G 0), V 2, V 3)).2.1, (rpsQ 2000 ((G 0), V 2, V 3)).2.2)).2.1)) 3 ((rpsQ (2000 - (rpsR 2000 ((G 0), V 2, V 3))) ((rpsQ 2000 ((G 0), V 2, V 3)).1, (rpsQ 2000 ((G 0), V 2, V 3)).2.1, (rpsQ 2000 ((G 0), V 2, V 3)).2.2)).2.2)) (zU (zU (zU G 0 ((rpsQ (2000 - (rpsR 2000 ((G 0), V 2, V 3))) ((rpsQ 2000 ((G 0), V 2, V 3)).1, (rpsQ 2000 ((G 0), V 2, V 3)).2.1, (rpsQ 2000 ((G 0), V 2, V 3)).2.2)).1)) 2 (G 0)) 3 (cpF 0 (G 3) (rbh (rpsQ 2000 ((G 0), V 2, V 3)).1) 8))) H → va_D A (refW cs a (upd (upd (upd V 1 0) 2 ((rpsQ (2000 - (rpsR 2000 ((G 0), V 2, V 3))) ((rpsQ 2000 ((G 0), V 2, V 3)).1, (rpsQ 2000 ((G 0), V 2, V 3)).2.1, (rpsQ 2000 ((G 0), V 2, V 3)).2.2)).2.1)) 3 ((rpsQ (2000 - (rpsR 2000 ((G 0), V 2, V 3))) ((rpsQ 2000 ((G 0), V 2, V 3)).1, (rpsQ 2000 ((G 0), V 2, V 3)).2.1, (rpsQ 2000 ((G 0), V 2, V 3)).2.2)).2.2)) (zU (zU (zU G 0 ((rpsQ (2000 - (rpsR 2000 ((G 0), V 2, V 3))) ((rpsQ 2000 ((G 0), V 2, V 3)).1, (rpsQ 2000 ((G 0), V 2, V 3)).2.1, (rpsQ 2000 ((G 0), V 2, V 3)).2.2)).1)) 2 (G 0)) 3 (cpF 0 (G 3) (rbh (rpsQ 2000 ((G 0), V 2, V 3)).1) 8))) → va_S A s.heap H locs → lv_has ls 4 [(0, .ref (a 0)), (1, .int (nI (rpsR 2000 ((G 0), V 2, V 3)))), (2, .int (rrV (bI (¬ nI (2000 - (rpsR 2000 ((G 0), V 2, V 3))) < nI (rpsR (2000 - (rpsR 2000 ((G 0), V 2, V 3))) ((rpsQ 2000 ((G 0), V 2, V 3)).1, (rpsQ 2000 ((G 0), V 2, V 3)).2.1, (rpsQ 2000 ((G 0), V 2, V 3)).2.2)))) (rpsQ 2000 ((G 0), V 2, V 3)).1 (rpsQ (2000 - (rpsR 2000 ((G 0), V 2, V 3))) ((rpsQ 2000 ((G 0), V 2, V 3)).1, (rpsQ 2000 ((G 0), V 2, V 3)).2.1, (rpsQ 2000 ((G 0), V 2, V 3)).2.2)).1 i)), (3, .int (nI i))] → W pq l eq ({ frames := 6, cells := 0, slots := 0, locals := 135 } : Room) s mq ([.ref (a 0)] : List Value).toArray below meth cq H locs 0 0 (MQ below (zQ D cs (some (.int (rrpR ((G 0), V 2, V 3)))) (refW cs a (upd (upd (upd V 1 0) 2 ((rrpW ((G 0), V 2, V 3)).1)) 3 ((rrpW ((G 0), V 2, V 3)).2)) (zU (zU (zU G 0 (G 0)) 2 (G 0)) 3 (cpF 0 (G 3) (rbh (rpsQ 2000 ((G 0), V 2, V 3)).1) 8))) A) ([.ref (a 0)] : List Value).toArray s 0 0 A) (F0 mq 84 ls []) := by
                intro k2
                induction k2 with
                | zero =>
                  intro i hi1 hi2 H locs ls hP hD hS hl
                  omega
                | succ k2 ih2 =>
                  intro i hi1 hi2 H locs ls hP hD hS hl
                  refine lv_iload_n hx hb dX8_repeats_84 rfl (lv_at hl 3 rfl) ?_
                  refine lv_bipush (v := 8) hx hb dX8_repeats_85 (by decide) ?_
                  refine lv_icmp_ge (tgt := 120) hx hb dX8_repeats_87 (by decide) (fun c_20 => ?_) (fun c_20 => ?_)
                  · skip
                    have ei := z_leK (n := 8) rfl (by omega) hi1 c_20
                    subst ei
                    refine lv_aload_n hx hb dX8_repeats_120 rfl (lv_at hl 0 rfl) ?_
                    refine z_callV (wn := (refW cs a (upd (upd (upd V 1 0) 2 ((rpsQ (2000 - (rpsR 2000 ((G 0), V 2, V 3))) ((rpsQ 2000 ((G 0), V 2, V 3)).1, (rpsQ 2000 ((G 0), V 2, V 3)).2.1, (rpsQ 2000 ((G 0), V 2, V 3)).2.2)).2.1)) 3 ((rpsQ (2000 - (rpsR 2000 ((G 0), V 2, V 3))) ((rpsQ 2000 ((G 0), V 2, V 3)).1, (rpsQ 2000 ((G 0), V 2, V 3)).2.1, (rpsQ 2000 ((G 0), V 2, V 3)).2.2)).2.2)) (zU (zU (zU G 0 (G 0)) 2 (G 0)) 3 (cpF 0 (G 3) (rbh (rpsQ 2000 ((G 0), V 2, V 3)).1) 8)))) ⟨hx, hb, hml, hown, hts⟩ zY_X8_takesBack w_im_yX8_takesBack w_se_yX8_takesBack w_ml_X8_137 [] [] (c_X8_takesBack l D cs a (upd (upd (upd V 1 0) 2 ((rpsQ (2000 - (rpsR 2000 ((G 0), V 2, V 3))) ((rpsQ 2000 ((G 0), V 2, V 3)).1, (rpsQ 2000 ((G 0), V 2, V 3)).2.1, (rpsQ 2000 ((G 0), V 2, V 3)).2.2)).2.1)) 3 ((rpsQ (2000 - (rpsR 2000 ((G 0), V 2, V 3))) ((rpsQ 2000 ((G 0), V 2, V 3)).1, (rpsQ 2000 ((G 0), V 2, V 3)).2.1, (rpsQ 2000 ((G 0), V 2, V 3)).2.2)).2.2)) (zU (zU (zU G 0 ((rpsQ (2000 - (rpsR 2000 ((G 0), V 2, V 3))) ((rpsQ 2000 ((G 0), V 2, V 3)).1, (rpsQ 2000 ((G 0), V 2, V 3)).2.1, (rpsQ 2000 ((G 0), V 2, V 3)).2.2)).1)) 2 (G 0)) 3 (cpF 0 (G 3) (rbh (rpsQ 2000 ((G 0), V 2, V 3)).1) 8))) hE hK hA hP hD hS [0, 1, 2, 3, 4, 5, 6] rfl rfl rfl rfl 8 rfl rfl rfl rfl hl.1 (Nat.le_of_ble_eq_true rfl) ⟨Nat.le_of_ble_eq_true rfl, Nat.le_of_ble_eq_true rfl⟩ ⟨Nat.le_of_ble_eq_true rfl, Nat.le_of_ble_eq_true rfl⟩ dX8_repeats_121 (fun H locs hP hD hS => ?_)
                    refine lv_iload_n hx hb dX8_repeats_124 rfl (lv_at hl 2 rfl) ?_
                    refine z_top (y := bI (rrV (bI (¬ nI (2000 - (rpsR 2000 ((G 0), V 2, V 3))) < nI (rpsR (2000 - (rpsR 2000 ((G 0), V 2, V 3))) ((rpsQ 2000 ((G 0), V 2, V 3)).1, (rpsQ 2000 ((G 0), V 2, V 3)).2.1, (rpsQ 2000 ((G 0), V 2, V 3)).2.2)))) (rpsQ 2000 ((G 0), V 2, V 3)).1 (rpsQ (2000 - (rpsR 2000 ((G 0), V 2, V 3))) ((rpsQ 2000 ((G 0), V 2, V 3)).1, (rpsQ 2000 ((G 0), V 2, V 3)).2.1, (rpsQ 2000 ((G 0), V 2, V 3)).2.2)).1 8 = 1)) rrV_b ?_
                    exact z_zret hx hb hr hlk hK hP hD hS dX8_repeats_125 bI_nar (by rw [show rrpR ((G 0), V 2, V 3) = _ from if_neg c_15]) (by rw [show rrpW ((G 0), V 2, V 3) = (rrB ((G 0), V 2, V 3)).2 from if_neg c_15])
                  · skip
                    have gi : i < 8 := z_geK (n := 8) rfl (by omega) hi1 c_20
                    refine lv_iload_n hx hb dX8_repeats_90 rfl (lv_at hl 2 rfl) ?_
                    refine lv_if_eq (tgt := 112) hx hb dX8_repeats_91 (by decide) (fun c_21 => ?_) (fun c_21 => ?_)
                    · skip
                      refine lv_iconst (v := 0) hx hb dX8_repeats_112 (by decide) ?_
                      refine z_top (y := rrV (bI (¬ nI (2000 - (rpsR 2000 ((G 0), V 2, V 3))) < nI (rpsR (2000 - (rpsR 2000 ((G 0), V 2, V 3))) ((rpsQ 2000 ((G 0), V 2, V 3)).1, (rpsQ 2000 ((G 0), V 2, V 3)).2.1, (rpsQ 2000 ((G 0), V 2, V 3)).2.2)))) (rpsQ 2000 ((G 0), V 2, V 3)).1 (rpsQ (2000 - (rpsR 2000 ((G 0), V 2, V 3))) ((rpsQ 2000 ((G 0), V 2, V 3)).1, (rpsQ 2000 ((G 0), V 2, V 3)).2.1, (rpsQ 2000 ((G 0), V 2, V 3)).2.2)).1 (i + 1)) (if_pos c_21).symm ?_
                      refine lv_istore_n (lv' := [(2, .int (rrV (bI (¬ nI (2000 - (rpsR 2000 ((G 0), V 2, V 3))) < nI (rpsR (2000 - (rpsR 2000 ((G 0), V 2, V 3))) ((rpsQ 2000 ((G 0), V 2, V 3)).1, (rpsQ 2000 ((G 0), V 2, V 3)).2.1, (rpsQ 2000 ((G 0), V 2, V 3)).2.2)))) (rpsQ 2000 ((G 0), V 2, V 3)).1 (rpsQ (2000 - (rpsR 2000 ((G 0), V 2, V 3))) ((rpsQ 2000 ((G 0), V 2, V 3)).1, (rpsQ 2000 ((G 0), V 2, V 3)).2.1, (rpsQ 2000 ((G 0), V 2, V 3)).2.2)).1 (i + 1))), (0, .ref (a 0)), (1, .int (nI (rpsR 2000 ((G 0), V 2, V 3)))), (3, .int (nI i))]) hx hb dX8_repeats_113 rfl hl (by decide) rfl (fun ls hl => ?_)
                      refine lv_iinc (v := nI (i + 1)) (lv' := [(3, .int (nI (i + 1))), (2, .int (rrV (bI (¬ nI (2000 - (rpsR 2000 ((G 0), V 2, V 3))) < nI (rpsR (2000 - (rpsR 2000 ((G 0), V 2, V 3))) ((rpsQ 2000 ((G 0), V 2, V 3)).1, (rpsQ 2000 ((G 0), V 2, V 3)).2.1, (rpsQ 2000 ((G 0), V 2, V 3)).2.2)))) (rpsQ 2000 ((G 0), V 2, V 3)).1 (rpsQ (2000 - (rpsR 2000 ((G 0), V 2, V 3))) ((rpsQ 2000 ((G 0), V 2, V 3)).1, (rpsQ 2000 ((G 0), V 2, V 3)).2.1, (rpsQ 2000 ((G 0), V 2, V 3)).2.2)).1 (i + 1))), (0, .ref (a 0)), (1, .int (nI (rpsR 2000 ((G 0), V 2, V 3))))]) hx hb dX8_repeats_114 hl (k := 3) rfl (show nI i + Int32.ofInt 1 = nI (i + 1) from nI_add i 1) (by decide) rfl (fun ls hl => ?_)
                      refine lv_goto (tgt := 84) hx hb dX8_repeats_117 (by decide) ?_
                      exact ih2 (i + 1) (by omega) (by omega) _ _ _ hP hD hS (lv_sub hl [2, 3, 1, 0] rfl)
                    · skip
                      refine lv_aload_n hx hb dX8_repeats_94 rfl (lv_at hl 0 rfl) ?_
                      refine va_get (D := D) (ci := 8) (v := .ref (a 4)) (C := RX8) (T := TX8) (N := 13) hx hb hts wsI_X8 hown hK hP 0 rfl rfl 7 (by decide) (hts _ w_fl_X8_19) (fun _ h9 => h9) rfl dX8_repeats_95 ?_
                      refine lv_iload_n hx hb dX8_repeats_98 rfl (lv_at hl 3 rfl) ?_
                      refine z_iald (k := i) hx hb hK hP 4 rfl (by omega) (by first | decide | omega) dX8_repeats_99 ?_
                      refine z_top (y := rbh (rpsQ 2000 ((G 0), V 2, V 3)).1 i) (cp_in0 gi) ?_
                      refine lv_aload_n hx hb dX8_repeats_100 rfl (lv_at hl 0 rfl) ?_
                      refine lv_iload_n hx hb dX8_repeats_101 rfl (lv_at hl 3 rfl) ?_
                      refine z_callV (wn := (refW cs a (upd (upd (upd V 1 0) 2 ((rpsQ (2000 - (rpsR 2000 ((G 0), V 2, V 3))) ((rpsQ 2000 ((G 0), V 2, V 3)).1, (rpsQ 2000 ((G 0), V 2, V 3)).2.1, (rpsQ 2000 ((G 0), V 2, V 3)).2.2)).2.1)) 3 ((rpsQ (2000 - (rpsR 2000 ((G 0), V 2, V 3))) ((rpsQ 2000 ((G 0), V 2, V 3)).1, (rpsQ 2000 ((G 0), V 2, V 3)).2.1, (rpsQ 2000 ((G 0), V 2, V 3)).2.2)).2.2)) (zU (zU (zU G 0 ((rpsQ (2000 - (rpsR 2000 ((G 0), V 2, V 3))) ((rpsQ 2000 ((G 0), V 2, V 3)).1, (rpsQ 2000 ((G 0), V 2, V 3)).2.1, (rpsQ 2000 ((G 0), V 2, V 3)).2.2)).1)) 2 (G 0)) 3 (cpF 0 (G 3) (rbh (rpsQ 2000 ((G 0), V 2, V 3)).1) 8)))) ⟨hx, hb, hml, hown, hts⟩ zY_X8_behind w_im_yX8_behind w_se_yX8_behind w_ml_X8_152 [.int (nI i)] [.int (rbh (rpsQ 2000 ((G 0), V 2, V 3)).1 i)] (c_X8_behind l D cs a (upd (upd (upd V 1 0) 2 ((rpsQ (2000 - (rpsR 2000 ((G 0), V 2, V 3))) ((rpsQ 2000 ((G 0), V 2, V 3)).1, (rpsQ 2000 ((G 0), V 2, V 3)).2.1, (rpsQ 2000 ((G 0), V 2, V 3)).2.2)).2.1)) 3 ((rpsQ (2000 - (rpsR 2000 ((G 0), V 2, V 3))) ((rpsQ 2000 ((G 0), V 2, V 3)).1, (rpsQ 2000 ((G 0), V 2, V 3)).2.1, (rpsQ 2000 ((G 0), V 2, V 3)).2.2)).2.2)) (zU (zU (zU G 0 ((rpsQ (2000 - (rpsR 2000 ((G 0), V 2, V 3))) ((rpsQ 2000 ((G 0), V 2, V 3)).1, (rpsQ 2000 ((G 0), V 2, V 3)).2.1, (rpsQ 2000 ((G 0), V 2, V 3)).2.2)).1)) 2 (G 0)) 3 (cpF 0 (G 3) (rbh (rpsQ 2000 ((G 0), V 2, V 3)).1) 8)) i gi) hE hK hA hP hD hS [0, 1, 2, 3, 4, 5, 6] rfl rfl rfl rfl 8 rfl rfl rfl rfl hl.1 (Nat.le_of_ble_eq_true rfl) ⟨Nat.le_of_ble_eq_true rfl, Nat.le_of_ble_eq_true rfl⟩ ⟨Nat.le_of_ble_eq_true rfl, Nat.le_of_ble_eq_true rfl⟩ dX8_repeats_102 (fun H locs hP hD hS => ?_)
                      refine lv_icmp_ne (tgt := 112) hx hb dX8_repeats_105 (by decide) (fun c_22 => ?_) (fun c_22 => ?_)
                      · skip
                        refine lv_iconst (v := 0) hx hb dX8_repeats_112 (by decide) ?_
                        refine z_top (y := rrV (bI (¬ nI (2000 - (rpsR 2000 ((G 0), V 2, V 3))) < nI (rpsR (2000 - (rpsR 2000 ((G 0), V 2, V 3))) ((rpsQ 2000 ((G 0), V 2, V 3)).1, (rpsQ 2000 ((G 0), V 2, V 3)).2.1, (rpsQ 2000 ((G 0), V 2, V 3)).2.2)))) (rpsQ 2000 ((G 0), V 2, V 3)).1 (rpsQ (2000 - (rpsR 2000 ((G 0), V 2, V 3))) ((rpsQ 2000 ((G 0), V 2, V 3)).1, (rpsQ 2000 ((G 0), V 2, V 3)).2.1, (rpsQ 2000 ((G 0), V 2, V 3)).2.2)).1 (i + 1)) ((if_neg c_21).trans (bI_f c_22)).symm ?_
                        refine lv_istore_n (lv' := [(2, .int (rrV (bI (¬ nI (2000 - (rpsR 2000 ((G 0), V 2, V 3))) < nI (rpsR (2000 - (rpsR 2000 ((G 0), V 2, V 3))) ((rpsQ 2000 ((G 0), V 2, V 3)).1, (rpsQ 2000 ((G 0), V 2, V 3)).2.1, (rpsQ 2000 ((G 0), V 2, V 3)).2.2)))) (rpsQ 2000 ((G 0), V 2, V 3)).1 (rpsQ (2000 - (rpsR 2000 ((G 0), V 2, V 3))) ((rpsQ 2000 ((G 0), V 2, V 3)).1, (rpsQ 2000 ((G 0), V 2, V 3)).2.1, (rpsQ 2000 ((G 0), V 2, V 3)).2.2)).1 (i + 1))), (0, .ref (a 0)), (1, .int (nI (rpsR 2000 ((G 0), V 2, V 3)))), (3, .int (nI i))]) hx hb dX8_repeats_113 rfl hl (by decide) rfl (fun ls hl => ?_)
                        refine lv_iinc (v := nI (i + 1)) (lv' := [(3, .int (nI (i + 1))), (2, .int (rrV (bI (¬ nI (2000 - (rpsR 2000 ((G 0), V 2, V 3))) < nI (rpsR (2000 - (rpsR 2000 ((G 0), V 2, V 3))) ((rpsQ 2000 ((G 0), V 2, V 3)).1, (rpsQ 2000 ((G 0), V 2, V 3)).2.1, (rpsQ 2000 ((G 0), V 2, V 3)).2.2)))) (rpsQ 2000 ((G 0), V 2, V 3)).1 (rpsQ (2000 - (rpsR 2000 ((G 0), V 2, V 3))) ((rpsQ 2000 ((G 0), V 2, V 3)).1, (rpsQ 2000 ((G 0), V 2, V 3)).2.1, (rpsQ 2000 ((G 0), V 2, V 3)).2.2)).1 (i + 1))), (0, .ref (a 0)), (1, .int (nI (rpsR 2000 ((G 0), V 2, V 3))))]) hx hb dX8_repeats_114 hl (k := 3) rfl (show nI i + Int32.ofInt 1 = nI (i + 1) from nI_add i 1) (by decide) rfl (fun ls hl => ?_)
                        refine lv_goto (tgt := 84) hx hb dX8_repeats_117 (by decide) ?_
                        exact ih2 (i + 1) (by omega) (by omega) _ _ _ hP hD hS (lv_sub hl [2, 3, 1, 0] rfl)
                      · skip
                        refine lv_iconst (v := 1) hx hb dX8_repeats_108 (by decide) ?_
                        refine lv_goto (tgt := 113) hx hb dX8_repeats_109 (by decide) ?_
                        refine z_top (y := rrV (bI (¬ nI (2000 - (rpsR 2000 ((G 0), V 2, V 3))) < nI (rpsR (2000 - (rpsR 2000 ((G 0), V 2, V 3))) ((rpsQ 2000 ((G 0), V 2, V 3)).1, (rpsQ 2000 ((G 0), V 2, V 3)).2.1, (rpsQ 2000 ((G 0), V 2, V 3)).2.2)))) (rpsQ 2000 ((G 0), V 2, V 3)).1 (rpsQ (2000 - (rpsR 2000 ((G 0), V 2, V 3))) ((rpsQ 2000 ((G 0), V 2, V 3)).1, (rpsQ 2000 ((G 0), V 2, V 3)).2.1, (rpsQ 2000 ((G 0), V 2, V 3)).2.2)).1 (i + 1)) ((if_neg c_21).trans (bI_t c_22)).symm ?_
                        refine lv_istore_n (lv' := [(2, .int (rrV (bI (¬ nI (2000 - (rpsR 2000 ((G 0), V 2, V 3))) < nI (rpsR (2000 - (rpsR 2000 ((G 0), V 2, V 3))) ((rpsQ 2000 ((G 0), V 2, V 3)).1, (rpsQ 2000 ((G 0), V 2, V 3)).2.1, (rpsQ 2000 ((G 0), V 2, V 3)).2.2)))) (rpsQ 2000 ((G 0), V 2, V 3)).1 (rpsQ (2000 - (rpsR 2000 ((G 0), V 2, V 3))) ((rpsQ 2000 ((G 0), V 2, V 3)).1, (rpsQ 2000 ((G 0), V 2, V 3)).2.1, (rpsQ 2000 ((G 0), V 2, V 3)).2.2)).1 (i + 1))), (0, .ref (a 0)), (1, .int (nI (rpsR 2000 ((G 0), V 2, V 3)))), (3, .int (nI i))]) hx hb dX8_repeats_113 rfl hl (by decide) rfl (fun ls hl => ?_)
                        refine lv_iinc (v := nI (i + 1)) (lv' := [(3, .int (nI (i + 1))), (2, .int (rrV (bI (¬ nI (2000 - (rpsR 2000 ((G 0), V 2, V 3))) < nI (rpsR (2000 - (rpsR 2000 ((G 0), V 2, V 3))) ((rpsQ 2000 ((G 0), V 2, V 3)).1, (rpsQ 2000 ((G 0), V 2, V 3)).2.1, (rpsQ 2000 ((G 0), V 2, V 3)).2.2)))) (rpsQ 2000 ((G 0), V 2, V 3)).1 (rpsQ (2000 - (rpsR 2000 ((G 0), V 2, V 3))) ((rpsQ 2000 ((G 0), V 2, V 3)).1, (rpsQ 2000 ((G 0), V 2, V 3)).2.1, (rpsQ 2000 ((G 0), V 2, V 3)).2.2)).1 (i + 1))), (0, .ref (a 0)), (1, .int (nI (rpsR 2000 ((G 0), V 2, V 3))))]) hx hb dX8_repeats_114 hl (k := 3) rfl (show nI i + Int32.ofInt 1 = nI (i + 1) from nI_add i 1) (by decide) rfl (fun ls hl => ?_)
                        refine lv_goto (tgt := 84) hx hb dX8_repeats_117 (by decide) ?_
                        exact ih2 (i + 1) (by omega) (by omega) _ _ _ hP hD hS (lv_sub hl [2, 3, 1, 0] rfl)
              exact lp84 9 0 (Nat.zero_le _) (by omega) _ _ _ hP hD hS (lv_sub hl [2, 3, 1, 0] rfl)
            · skip
              refine lv_iconst (v := 1) hx hb dX8_repeats_76 (by decide) ?_
              refine lv_goto (tgt := 81) hx hb dX8_repeats_77 (by decide) ?_
              refine z_top (y := rrV (bI (¬ nI (2000 - (rpsR 2000 ((G 0), V 2, V 3))) < nI (rpsR (2000 - (rpsR 2000 ((G 0), V 2, V 3))) ((rpsQ 2000 ((G 0), V 2, V 3)).1, (rpsQ 2000 ((G 0), V 2, V 3)).2.1, (rpsQ 2000 ((G 0), V 2, V 3)).2.2)))) (rpsQ 2000 ((G 0), V 2, V 3)).1 (rpsQ (2000 - (rpsR 2000 ((G 0), V 2, V 3))) ((rpsQ 2000 ((G 0), V 2, V 3)).1, (rpsQ 2000 ((G 0), V 2, V 3)).2.1, (rpsQ 2000 ((G 0), V 2, V 3)).2.2)).1 0) (bI_t c_19).symm ?_
              refine lv_istore_n (lv' := [(2, .int (rrV (bI (¬ nI (2000 - (rpsR 2000 ((G 0), V 2, V 3))) < nI (rpsR (2000 - (rpsR 2000 ((G 0), V 2, V 3))) ((rpsQ 2000 ((G 0), V 2, V 3)).1, (rpsQ 2000 ((G 0), V 2, V 3)).2.1, (rpsQ 2000 ((G 0), V 2, V 3)).2.2)))) (rpsQ 2000 ((G 0), V 2, V 3)).1 (rpsQ (2000 - (rpsR 2000 ((G 0), V 2, V 3))) ((rpsQ 2000 ((G 0), V 2, V 3)).1, (rpsQ 2000 ((G 0), V 2, V 3)).2.1, (rpsQ 2000 ((G 0), V 2, V 3)).2.2)).1 0)), (0, .ref (a 0)), (1, .int (nI (rpsR 2000 ((G 0), V 2, V 3)))), (3, .int (nI 8))]) hx hb dX8_repeats_81 rfl hl (by decide) rfl (fun ls hl => ?_)
              refine lv_iconst (v := 0) hx hb dX8_repeats_82 (by decide) ?_
              refine lv_istore_n (lv' := [(3, .int 0), (2, .int (rrV (bI (¬ nI (2000 - (rpsR 2000 ((G 0), V 2, V 3))) < nI (rpsR (2000 - (rpsR 2000 ((G 0), V 2, V 3))) ((rpsQ 2000 ((G 0), V 2, V 3)).1, (rpsQ 2000 ((G 0), V 2, V 3)).2.1, (rpsQ 2000 ((G 0), V 2, V 3)).2.2)))) (rpsQ 2000 ((G 0), V 2, V 3)).1 (rpsQ (2000 - (rpsR 2000 ((G 0), V 2, V 3))) ((rpsQ 2000 ((G 0), V 2, V 3)).1, (rpsQ 2000 ((G 0), V 2, V 3)).2.1, (rpsQ 2000 ((G 0), V 2, V 3)).2.2)).1 0)), (0, .ref (a 0)), (1, .int (nI (rpsR 2000 ((G 0), V 2, V 3))))]) hx hb dX8_repeats_83 rfl hl (by decide) rfl (fun ls hl => ?_)
              have lp84 : ∀ (k2 : Nat) (i : Nat), (i ≤ 8) → (9 ≤ i + k2) → ∀ (H : Heap) (locs : List Loc) (ls : Array Slot), va_P D vwCl (refW cs a (upd (upd (upd V 1 0) 2 ((rpsQ (2000 - (rpsR 2000 ((G 0), V 2, V 3))) ((rpsQ 2000 ((G 0), V 2, V 3)).1, (rpsQ 2000 ((G 0), V 2, V 3)).2.1, (rpsQ 2000 ((G 0), V 2, V 3)).2.2)).2.1)) 3 ((rpsQ (2000 - (rpsR 2000 ((G 0), V 2, V 3))) ((rpsQ 2000 ((G 0), V 2, V 3)).1, (rpsQ 2000 ((G 0), V 2, V 3)).2.1, (rpsQ 2000 ((G 0), V 2, V 3)).2.2)).2.2)) (zU (zU (zU G 0 ((rpsQ (2000 - (rpsR 2000 ((G 0), V 2, V 3))) ((rpsQ 2000 ((G 0), V 2, V 3)).1, (rpsQ 2000 ((G 0), V 2, V 3)).2.1, (rpsQ 2000 ((G 0), V 2, V 3)).2.2)).1)) 2 (G 0)) 3 (cpF 0 (G 3) (rbh (rpsQ 2000 ((G 0), V 2, V 3)).1) 8))) H → va_D A (refW cs a (upd (upd (upd V 1 0) 2 ((rpsQ (2000 - (rpsR 2000 ((G 0), V 2, V 3))) ((rpsQ 2000 ((G 0), V 2, V 3)).1, (rpsQ 2000 ((G 0), V 2, V 3)).2.1, (rpsQ 2000 ((G 0), V 2, V 3)).2.2)).2.1)) 3 ((rpsQ (2000 - (rpsR 2000 ((G 0), V 2, V 3))) ((rpsQ 2000 ((G 0), V 2, V 3)).1, (rpsQ 2000 ((G 0), V 2, V 3)).2.1, (rpsQ 2000 ((G 0), V 2, V 3)).2.2)).2.2)) (zU (zU (zU G 0 ((rpsQ (2000 - (rpsR 2000 ((G 0), V 2, V 3))) ((rpsQ 2000 ((G 0), V 2, V 3)).1, (rpsQ 2000 ((G 0), V 2, V 3)).2.1, (rpsQ 2000 ((G 0), V 2, V 3)).2.2)).1)) 2 (G 0)) 3 (cpF 0 (G 3) (rbh (rpsQ 2000 ((G 0), V 2, V 3)).1) 8))) → va_S A s.heap H locs → lv_has ls 4 [(0, .ref (a 0)), (1, .int (nI (rpsR 2000 ((G 0), V 2, V 3)))), (2, .int (rrV (bI (¬ nI (2000 - (rpsR 2000 ((G 0), V 2, V 3))) < nI (rpsR (2000 - (rpsR 2000 ((G 0), V 2, V 3))) ((rpsQ 2000 ((G 0), V 2, V 3)).1, (rpsQ 2000 ((G 0), V 2, V 3)).2.1, (rpsQ 2000 ((G 0), V 2, V 3)).2.2)))) (rpsQ 2000 ((G 0), V 2, V 3)).1 (rpsQ (2000 - (rpsR 2000 ((G 0), V 2, V 3))) ((rpsQ 2000 ((G 0), V 2, V 3)).1, (rpsQ 2000 ((G 0), V 2, V 3)).2.1, (rpsQ 2000 ((G 0), V 2, V 3)).2.2)).1 i)), (3, .int (nI i))] → W pq l eq ({ frames := 6, cells := 0, slots := 0, locals := 135 } : Room) s mq ([.ref (a 0)] : List Value).toArray below meth cq H locs 0 0 (MQ below (zQ D cs (some (.int (rrpR ((G 0), V 2, V 3)))) (refW cs a (upd (upd (upd V 1 0) 2 ((rrpW ((G 0), V 2, V 3)).1)) 3 ((rrpW ((G 0), V 2, V 3)).2)) (zU (zU (zU G 0 (G 0)) 2 (G 0)) 3 (cpF 0 (G 3) (rbh (rpsQ 2000 ((G 0), V 2, V 3)).1) 8))) A) ([.ref (a 0)] : List Value).toArray s 0 0 A) (F0 mq 84 ls []) := by
                intro k2
                induction k2 with
                | zero =>
                  intro i hi1 hi2 H locs ls hP hD hS hl
                  omega
                | succ k2 ih2 =>
                  intro i hi1 hi2 H locs ls hP hD hS hl
                  refine lv_iload_n hx hb dX8_repeats_84 rfl (lv_at hl 3 rfl) ?_
                  refine lv_bipush (v := 8) hx hb dX8_repeats_85 (by decide) ?_
                  refine lv_icmp_ge (tgt := 120) hx hb dX8_repeats_87 (by decide) (fun c_23 => ?_) (fun c_23 => ?_)
                  · skip
                    have ei := z_leK (n := 8) rfl (by omega) hi1 c_23
                    subst ei
                    refine lv_aload_n hx hb dX8_repeats_120 rfl (lv_at hl 0 rfl) ?_
                    refine z_callV (wn := (refW cs a (upd (upd (upd V 1 0) 2 ((rpsQ (2000 - (rpsR 2000 ((G 0), V 2, V 3))) ((rpsQ 2000 ((G 0), V 2, V 3)).1, (rpsQ 2000 ((G 0), V 2, V 3)).2.1, (rpsQ 2000 ((G 0), V 2, V 3)).2.2)).2.1)) 3 ((rpsQ (2000 - (rpsR 2000 ((G 0), V 2, V 3))) ((rpsQ 2000 ((G 0), V 2, V 3)).1, (rpsQ 2000 ((G 0), V 2, V 3)).2.1, (rpsQ 2000 ((G 0), V 2, V 3)).2.2)).2.2)) (zU (zU (zU G 0 (G 0)) 2 (G 0)) 3 (cpF 0 (G 3) (rbh (rpsQ 2000 ((G 0), V 2, V 3)).1) 8)))) ⟨hx, hb, hml, hown, hts⟩ zY_X8_takesBack w_im_yX8_takesBack w_se_yX8_takesBack w_ml_X8_137 [] [] (c_X8_takesBack l D cs a (upd (upd (upd V 1 0) 2 ((rpsQ (2000 - (rpsR 2000 ((G 0), V 2, V 3))) ((rpsQ 2000 ((G 0), V 2, V 3)).1, (rpsQ 2000 ((G 0), V 2, V 3)).2.1, (rpsQ 2000 ((G 0), V 2, V 3)).2.2)).2.1)) 3 ((rpsQ (2000 - (rpsR 2000 ((G 0), V 2, V 3))) ((rpsQ 2000 ((G 0), V 2, V 3)).1, (rpsQ 2000 ((G 0), V 2, V 3)).2.1, (rpsQ 2000 ((G 0), V 2, V 3)).2.2)).2.2)) (zU (zU (zU G 0 ((rpsQ (2000 - (rpsR 2000 ((G 0), V 2, V 3))) ((rpsQ 2000 ((G 0), V 2, V 3)).1, (rpsQ 2000 ((G 0), V 2, V 3)).2.1, (rpsQ 2000 ((G 0), V 2, V 3)).2.2)).1)) 2 (G 0)) 3 (cpF 0 (G 3) (rbh (rpsQ 2000 ((G 0), V 2, V 3)).1) 8))) hE hK hA hP hD hS [0, 1, 2, 3, 4, 5, 6] rfl rfl rfl rfl 8 rfl rfl rfl rfl hl.1 (Nat.le_of_ble_eq_true rfl) ⟨Nat.le_of_ble_eq_true rfl, Nat.le_of_ble_eq_true rfl⟩ ⟨Nat.le_of_ble_eq_true rfl, Nat.le_of_ble_eq_true rfl⟩ dX8_repeats_121 (fun H locs hP hD hS => ?_)
                    refine lv_iload_n hx hb dX8_repeats_124 rfl (lv_at hl 2 rfl) ?_
                    refine z_top (y := bI (rrV (bI (¬ nI (2000 - (rpsR 2000 ((G 0), V 2, V 3))) < nI (rpsR (2000 - (rpsR 2000 ((G 0), V 2, V 3))) ((rpsQ 2000 ((G 0), V 2, V 3)).1, (rpsQ 2000 ((G 0), V 2, V 3)).2.1, (rpsQ 2000 ((G 0), V 2, V 3)).2.2)))) (rpsQ 2000 ((G 0), V 2, V 3)).1 (rpsQ (2000 - (rpsR 2000 ((G 0), V 2, V 3))) ((rpsQ 2000 ((G 0), V 2, V 3)).1, (rpsQ 2000 ((G 0), V 2, V 3)).2.1, (rpsQ 2000 ((G 0), V 2, V 3)).2.2)).1 8 = 1)) rrV_b ?_
                    exact z_zret hx hb hr hlk hK hP hD hS dX8_repeats_125 bI_nar (by rw [show rrpR ((G 0), V 2, V 3) = _ from if_neg c_15]) (by rw [show rrpW ((G 0), V 2, V 3) = (rrB ((G 0), V 2, V 3)).2 from if_neg c_15])
                  · skip
                    have gi : i < 8 := z_geK (n := 8) rfl (by omega) hi1 c_23
                    refine lv_iload_n hx hb dX8_repeats_90 rfl (lv_at hl 2 rfl) ?_
                    refine lv_if_eq (tgt := 112) hx hb dX8_repeats_91 (by decide) (fun c_24 => ?_) (fun c_24 => ?_)
                    · skip
                      refine lv_iconst (v := 0) hx hb dX8_repeats_112 (by decide) ?_
                      refine z_top (y := rrV (bI (¬ nI (2000 - (rpsR 2000 ((G 0), V 2, V 3))) < nI (rpsR (2000 - (rpsR 2000 ((G 0), V 2, V 3))) ((rpsQ 2000 ((G 0), V 2, V 3)).1, (rpsQ 2000 ((G 0), V 2, V 3)).2.1, (rpsQ 2000 ((G 0), V 2, V 3)).2.2)))) (rpsQ 2000 ((G 0), V 2, V 3)).1 (rpsQ (2000 - (rpsR 2000 ((G 0), V 2, V 3))) ((rpsQ 2000 ((G 0), V 2, V 3)).1, (rpsQ 2000 ((G 0), V 2, V 3)).2.1, (rpsQ 2000 ((G 0), V 2, V 3)).2.2)).1 (i + 1)) (if_pos c_24).symm ?_
                      refine lv_istore_n (lv' := [(2, .int (rrV (bI (¬ nI (2000 - (rpsR 2000 ((G 0), V 2, V 3))) < nI (rpsR (2000 - (rpsR 2000 ((G 0), V 2, V 3))) ((rpsQ 2000 ((G 0), V 2, V 3)).1, (rpsQ 2000 ((G 0), V 2, V 3)).2.1, (rpsQ 2000 ((G 0), V 2, V 3)).2.2)))) (rpsQ 2000 ((G 0), V 2, V 3)).1 (rpsQ (2000 - (rpsR 2000 ((G 0), V 2, V 3))) ((rpsQ 2000 ((G 0), V 2, V 3)).1, (rpsQ 2000 ((G 0), V 2, V 3)).2.1, (rpsQ 2000 ((G 0), V 2, V 3)).2.2)).1 (i + 1))), (0, .ref (a 0)), (1, .int (nI (rpsR 2000 ((G 0), V 2, V 3)))), (3, .int (nI i))]) hx hb dX8_repeats_113 rfl hl (by decide) rfl (fun ls hl => ?_)
                      refine lv_iinc (v := nI (i + 1)) (lv' := [(3, .int (nI (i + 1))), (2, .int (rrV (bI (¬ nI (2000 - (rpsR 2000 ((G 0), V 2, V 3))) < nI (rpsR (2000 - (rpsR 2000 ((G 0), V 2, V 3))) ((rpsQ 2000 ((G 0), V 2, V 3)).1, (rpsQ 2000 ((G 0), V 2, V 3)).2.1, (rpsQ 2000 ((G 0), V 2, V 3)).2.2)))) (rpsQ 2000 ((G 0), V 2, V 3)).1 (rpsQ (2000 - (rpsR 2000 ((G 0), V 2, V 3))) ((rpsQ 2000 ((G 0), V 2, V 3)).1, (rpsQ 2000 ((G 0), V 2, V 3)).2.1, (rpsQ 2000 ((G 0), V 2, V 3)).2.2)).1 (i + 1))), (0, .ref (a 0)), (1, .int (nI (rpsR 2000 ((G 0), V 2, V 3))))]) hx hb dX8_repeats_114 hl (k := 3) rfl (show nI i + Int32.ofInt 1 = nI (i + 1) from nI_add i 1) (by decide) rfl (fun ls hl => ?_)
                      refine lv_goto (tgt := 84) hx hb dX8_repeats_117 (by decide) ?_
                      exact ih2 (i + 1) (by omega) (by omega) _ _ _ hP hD hS (lv_sub hl [2, 3, 1, 0] rfl)
                    · skip
                      refine lv_aload_n hx hb dX8_repeats_94 rfl (lv_at hl 0 rfl) ?_
                      refine va_get (D := D) (ci := 8) (v := .ref (a 4)) (C := RX8) (T := TX8) (N := 13) hx hb hts wsI_X8 hown hK hP 0 rfl rfl 7 (by decide) (hts _ w_fl_X8_19) (fun _ h9 => h9) rfl dX8_repeats_95 ?_
                      refine lv_iload_n hx hb dX8_repeats_98 rfl (lv_at hl 3 rfl) ?_
                      refine z_iald (k := i) hx hb hK hP 4 rfl (by omega) (by first | decide | omega) dX8_repeats_99 ?_
                      refine z_top (y := rbh (rpsQ 2000 ((G 0), V 2, V 3)).1 i) (cp_in0 gi) ?_
                      refine lv_aload_n hx hb dX8_repeats_100 rfl (lv_at hl 0 rfl) ?_
                      refine lv_iload_n hx hb dX8_repeats_101 rfl (lv_at hl 3 rfl) ?_
                      refine z_callV (wn := (refW cs a (upd (upd (upd V 1 0) 2 ((rpsQ (2000 - (rpsR 2000 ((G 0), V 2, V 3))) ((rpsQ 2000 ((G 0), V 2, V 3)).1, (rpsQ 2000 ((G 0), V 2, V 3)).2.1, (rpsQ 2000 ((G 0), V 2, V 3)).2.2)).2.1)) 3 ((rpsQ (2000 - (rpsR 2000 ((G 0), V 2, V 3))) ((rpsQ 2000 ((G 0), V 2, V 3)).1, (rpsQ 2000 ((G 0), V 2, V 3)).2.1, (rpsQ 2000 ((G 0), V 2, V 3)).2.2)).2.2)) (zU (zU (zU G 0 ((rpsQ (2000 - (rpsR 2000 ((G 0), V 2, V 3))) ((rpsQ 2000 ((G 0), V 2, V 3)).1, (rpsQ 2000 ((G 0), V 2, V 3)).2.1, (rpsQ 2000 ((G 0), V 2, V 3)).2.2)).1)) 2 (G 0)) 3 (cpF 0 (G 3) (rbh (rpsQ 2000 ((G 0), V 2, V 3)).1) 8)))) ⟨hx, hb, hml, hown, hts⟩ zY_X8_behind w_im_yX8_behind w_se_yX8_behind w_ml_X8_152 [.int (nI i)] [.int (rbh (rpsQ 2000 ((G 0), V 2, V 3)).1 i)] (c_X8_behind l D cs a (upd (upd (upd V 1 0) 2 ((rpsQ (2000 - (rpsR 2000 ((G 0), V 2, V 3))) ((rpsQ 2000 ((G 0), V 2, V 3)).1, (rpsQ 2000 ((G 0), V 2, V 3)).2.1, (rpsQ 2000 ((G 0), V 2, V 3)).2.2)).2.1)) 3 ((rpsQ (2000 - (rpsR 2000 ((G 0), V 2, V 3))) ((rpsQ 2000 ((G 0), V 2, V 3)).1, (rpsQ 2000 ((G 0), V 2, V 3)).2.1, (rpsQ 2000 ((G 0), V 2, V 3)).2.2)).2.2)) (zU (zU (zU G 0 ((rpsQ (2000 - (rpsR 2000 ((G 0), V 2, V 3))) ((rpsQ 2000 ((G 0), V 2, V 3)).1, (rpsQ 2000 ((G 0), V 2, V 3)).2.1, (rpsQ 2000 ((G 0), V 2, V 3)).2.2)).1)) 2 (G 0)) 3 (cpF 0 (G 3) (rbh (rpsQ 2000 ((G 0), V 2, V 3)).1) 8)) i gi) hE hK hA hP hD hS [0, 1, 2, 3, 4, 5, 6] rfl rfl rfl rfl 8 rfl rfl rfl rfl hl.1 (Nat.le_of_ble_eq_true rfl) ⟨Nat.le_of_ble_eq_true rfl, Nat.le_of_ble_eq_true rfl⟩ ⟨Nat.le_of_ble_eq_true rfl, Nat.le_of_ble_eq_true rfl⟩ dX8_repeats_102 (fun H locs hP hD hS => ?_)
                      refine lv_icmp_ne (tgt := 112) hx hb dX8_repeats_105 (by decide) (fun c_25 => ?_) (fun c_25 => ?_)
                      · skip
                        refine lv_iconst (v := 0) hx hb dX8_repeats_112 (by decide) ?_
                        refine z_top (y := rrV (bI (¬ nI (2000 - (rpsR 2000 ((G 0), V 2, V 3))) < nI (rpsR (2000 - (rpsR 2000 ((G 0), V 2, V 3))) ((rpsQ 2000 ((G 0), V 2, V 3)).1, (rpsQ 2000 ((G 0), V 2, V 3)).2.1, (rpsQ 2000 ((G 0), V 2, V 3)).2.2)))) (rpsQ 2000 ((G 0), V 2, V 3)).1 (rpsQ (2000 - (rpsR 2000 ((G 0), V 2, V 3))) ((rpsQ 2000 ((G 0), V 2, V 3)).1, (rpsQ 2000 ((G 0), V 2, V 3)).2.1, (rpsQ 2000 ((G 0), V 2, V 3)).2.2)).1 (i + 1)) ((if_neg c_24).trans (bI_f c_25)).symm ?_
                        refine lv_istore_n (lv' := [(2, .int (rrV (bI (¬ nI (2000 - (rpsR 2000 ((G 0), V 2, V 3))) < nI (rpsR (2000 - (rpsR 2000 ((G 0), V 2, V 3))) ((rpsQ 2000 ((G 0), V 2, V 3)).1, (rpsQ 2000 ((G 0), V 2, V 3)).2.1, (rpsQ 2000 ((G 0), V 2, V 3)).2.2)))) (rpsQ 2000 ((G 0), V 2, V 3)).1 (rpsQ (2000 - (rpsR 2000 ((G 0), V 2, V 3))) ((rpsQ 2000 ((G 0), V 2, V 3)).1, (rpsQ 2000 ((G 0), V 2, V 3)).2.1, (rpsQ 2000 ((G 0), V 2, V 3)).2.2)).1 (i + 1))), (0, .ref (a 0)), (1, .int (nI (rpsR 2000 ((G 0), V 2, V 3)))), (3, .int (nI i))]) hx hb dX8_repeats_113 rfl hl (by decide) rfl (fun ls hl => ?_)
                        refine lv_iinc (v := nI (i + 1)) (lv' := [(3, .int (nI (i + 1))), (2, .int (rrV (bI (¬ nI (2000 - (rpsR 2000 ((G 0), V 2, V 3))) < nI (rpsR (2000 - (rpsR 2000 ((G 0), V 2, V 3))) ((rpsQ 2000 ((G 0), V 2, V 3)).1, (rpsQ 2000 ((G 0), V 2, V 3)).2.1, (rpsQ 2000 ((G 0), V 2, V 3)).2.2)))) (rpsQ 2000 ((G 0), V 2, V 3)).1 (rpsQ (2000 - (rpsR 2000 ((G 0), V 2, V 3))) ((rpsQ 2000 ((G 0), V 2, V 3)).1, (rpsQ 2000 ((G 0), V 2, V 3)).2.1, (rpsQ 2000 ((G 0), V 2, V 3)).2.2)).1 (i + 1))), (0, .ref (a 0)), (1, .int (nI (rpsR 2000 ((G 0), V 2, V 3))))]) hx hb dX8_repeats_114 hl (k := 3) rfl (show nI i + Int32.ofInt 1 = nI (i + 1) from nI_add i 1) (by decide) rfl (fun ls hl => ?_)
                        refine lv_goto (tgt := 84) hx hb dX8_repeats_117 (by decide) ?_
                        exact ih2 (i + 1) (by omega) (by omega) _ _ _ hP hD hS (lv_sub hl [2, 3, 1, 0] rfl)
                      · skip
                        refine lv_iconst (v := 1) hx hb dX8_repeats_108 (by decide) ?_
                        refine lv_goto (tgt := 113) hx hb dX8_repeats_109 (by decide) ?_
                        refine z_top (y := rrV (bI (¬ nI (2000 - (rpsR 2000 ((G 0), V 2, V 3))) < nI (rpsR (2000 - (rpsR 2000 ((G 0), V 2, V 3))) ((rpsQ 2000 ((G 0), V 2, V 3)).1, (rpsQ 2000 ((G 0), V 2, V 3)).2.1, (rpsQ 2000 ((G 0), V 2, V 3)).2.2)))) (rpsQ 2000 ((G 0), V 2, V 3)).1 (rpsQ (2000 - (rpsR 2000 ((G 0), V 2, V 3))) ((rpsQ 2000 ((G 0), V 2, V 3)).1, (rpsQ 2000 ((G 0), V 2, V 3)).2.1, (rpsQ 2000 ((G 0), V 2, V 3)).2.2)).1 (i + 1)) ((if_neg c_24).trans (bI_t c_25)).symm ?_
                        refine lv_istore_n (lv' := [(2, .int (rrV (bI (¬ nI (2000 - (rpsR 2000 ((G 0), V 2, V 3))) < nI (rpsR (2000 - (rpsR 2000 ((G 0), V 2, V 3))) ((rpsQ 2000 ((G 0), V 2, V 3)).1, (rpsQ 2000 ((G 0), V 2, V 3)).2.1, (rpsQ 2000 ((G 0), V 2, V 3)).2.2)))) (rpsQ 2000 ((G 0), V 2, V 3)).1 (rpsQ (2000 - (rpsR 2000 ((G 0), V 2, V 3))) ((rpsQ 2000 ((G 0), V 2, V 3)).1, (rpsQ 2000 ((G 0), V 2, V 3)).2.1, (rpsQ 2000 ((G 0), V 2, V 3)).2.2)).1 (i + 1))), (0, .ref (a 0)), (1, .int (nI (rpsR 2000 ((G 0), V 2, V 3)))), (3, .int (nI i))]) hx hb dX8_repeats_113 rfl hl (by decide) rfl (fun ls hl => ?_)
                        refine lv_iinc (v := nI (i + 1)) (lv' := [(3, .int (nI (i + 1))), (2, .int (rrV (bI (¬ nI (2000 - (rpsR 2000 ((G 0), V 2, V 3))) < nI (rpsR (2000 - (rpsR 2000 ((G 0), V 2, V 3))) ((rpsQ 2000 ((G 0), V 2, V 3)).1, (rpsQ 2000 ((G 0), V 2, V 3)).2.1, (rpsQ 2000 ((G 0), V 2, V 3)).2.2)))) (rpsQ 2000 ((G 0), V 2, V 3)).1 (rpsQ (2000 - (rpsR 2000 ((G 0), V 2, V 3))) ((rpsQ 2000 ((G 0), V 2, V 3)).1, (rpsQ 2000 ((G 0), V 2, V 3)).2.1, (rpsQ 2000 ((G 0), V 2, V 3)).2.2)).1 (i + 1))), (0, .ref (a 0)), (1, .int (nI (rpsR 2000 ((G 0), V 2, V 3))))]) hx hb dX8_repeats_114 hl (k := 3) rfl (show nI i + Int32.ofInt 1 = nI (i + 1) from nI_add i 1) (by decide) rfl (fun ls hl => ?_)
                        refine lv_goto (tgt := 84) hx hb dX8_repeats_117 (by decide) ?_
                        exact ih2 (i + 1) (by omega) (by omega) _ _ _ hP hD hS (lv_sub hl [2, 3, 1, 0] rfl)
              exact lp84 9 0 (Nat.zero_le _) (by omega) _ _ _ hP hD hS (lv_sub hl [2, 3, 1, 0] rfl)
        · skip
          have gi : i < 8 := z_geK (n := 8) rfl (by omega) hi1 c_14
          refine lv_aload_n hx hb dX8_repeats_38 rfl (lv_at hl 0 rfl) ?_
          refine va_get (D := D) (ci := 8) (v := .ref (a 4)) (C := RX8) (T := TX8) (N := 13) hx hb hts wsI_X8 hown hK hP 0 rfl rfl 7 (by decide) (hts _ w_fl_X8_19) (fun _ h9 => h9) rfl dX8_repeats_39 ?_
          refine lv_iload_n hx hb dX8_repeats_42 rfl (lv_at hl 3 rfl) ?_
          refine lv_aload_n hx hb dX8_repeats_43 rfl (lv_at hl 0 rfl) ?_
          refine lv_iload_n hx hb dX8_repeats_44 rfl (lv_at hl 3 rfl) ?_
          refine z_callV (wn := (refW cs a (upd (upd (upd V 1 0) 2 ((rpsQ 2000 ((G 0), V 2, V 3)).2.1)) 3 ((rpsQ 2000 ((G 0), V 2, V 3)).2.2)) (zU (zU (zU G 0 ((rpsQ 2000 ((G 0), V 2, V 3)).1)) 2 (G 0)) 3 (cpF 0 (G 3) (rbh (rpsQ 2000 ((G 0), V 2, V 3)).1) i)))) ⟨hx, hb, hml, hown, hts⟩ zY_X8_behind w_im_yX8_behind w_se_yX8_behind w_ml_X8_152 [.int (nI i)] [.int (nI i), .ref (a 4)] (c_X8_behind l D cs a (upd (upd (upd V 1 0) 2 ((rpsQ 2000 ((G 0), V 2, V 3)).2.1)) 3 ((rpsQ 2000 ((G 0), V 2, V 3)).2.2)) (zU (zU (zU G 0 ((rpsQ 2000 ((G 0), V 2, V 3)).1)) 2 (G 0)) 3 (cpF 0 (G 3) (rbh (rpsQ 2000 ((G 0), V 2, V 3)).1) i)) i gi) hE hK hA hP hD hS [0, 1, 2, 3, 4, 5, 6] rfl rfl rfl rfl 8 rfl rfl rfl rfl hl.1 (Nat.le_of_ble_eq_true rfl) ⟨Nat.le_of_ble_eq_true rfl, Nat.le_of_ble_eq_true rfl⟩ ⟨Nat.le_of_ble_eq_true rfl, Nat.le_of_ble_eq_true rfl⟩ dX8_repeats_45 (fun H locs hP hD hS => ?_)
          refine z_iast (k := i) hx hb hK hP hD hS 4 rfl (by omega) (by first | decide | omega) dX8_repeats_48 (fun H locs hP hD hS => ?_)
          have hP : va_P D vwCl (refW cs a (upd (upd (upd V 1 0) 2 ((rpsQ 2000 ((G 0), V 2, V 3)).2.1)) 3 ((rpsQ 2000 ((G 0), V 2, V 3)).2.2)) (zU (zU (zU G 0 ((rpsQ 2000 ((G 0), V 2, V 3)).1)) 2 (G 0)) 3 (upd (cpF 0 (G 3) (rbh (rpsQ 2000 ((G 0), V 2, V 3)).1) i) i (rbh ((rpsQ 2000 ((G 0), V 2, V 3)).1) i)))) H := hP
          have hD : va_D A (refW cs a (upd (upd (upd V 1 0) 2 ((rpsQ 2000 ((G 0), V 2, V 3)).2.1)) 3 ((rpsQ 2000 ((G 0), V 2, V 3)).2.2)) (zU (zU (zU G 0 ((rpsQ 2000 ((G 0), V 2, V 3)).1)) 2 (G 0)) 3 (upd (cpF 0 (G 3) (rbh (rpsQ 2000 ((G 0), V 2, V 3)).1) i) i (rbh ((rpsQ 2000 ((G 0), V 2, V 3)).1) i)))) := hD
          refine lv_iinc (v := nI (i + 1)) (lv' := [(3, .int (nI (i + 1))), (0, .ref (a 0)), (1, .int (nI (rpsR 2000 ((G 0), V 2, V 3)))), (2, .int (bI (¬ 2000 < nI (rpsR 2000 ((G 0), V 2, V 3)))))]) hx hb dX8_repeats_49 hl (k := 3) rfl (show nI i + Int32.ofInt 1 = nI (i + 1) from nI_add i 1) (by decide) rfl (fun ls hl => ?_)
          refine lv_goto (tgt := 32) hx hb dX8_repeats_52 (by decide) ?_
          rw [cp_s0 rfl] at hP hD
          exact ih (i + 1) (by omega) (by omega) _ _ _ hP hD hS (lv_sub hl [1, 2, 3, 0] rfl)
    have hP := z_eqP (w2 := (refW cs a (upd (upd (upd V 1 0) 2 ((rpsQ 2000 ((G 0), V 2, V 3)).2.1)) 3 ((rpsQ 2000 ((G 0), V 2, V 3)).2.2)) (zU (zU (zU G 0 ((rpsQ 2000 ((G 0), V 2, V 3)).1)) 2 (G 0)) 3 (cpF 0 (G 3) (rbh (rpsQ 2000 ((G 0), V 2, V 3)).1) 0)))) (by rw [cp_0]; first | done | rfl) hP
    have hD : va_D A (refW cs a (upd (upd (upd V 1 0) 2 ((rpsQ 2000 ((G 0), V 2, V 3)).2.1)) 3 ((rpsQ 2000 ((G 0), V 2, V 3)).2.2)) (zU (zU (zU G 0 ((rpsQ 2000 ((G 0), V 2, V 3)).1)) 2 (G 0)) 3 (cpF 0 (G 3) (rbh (rpsQ 2000 ((G 0), V 2, V 3)).1) 0))) := z_eqD (by rw [cp_0]; first | done | rfl) hD
    exact lp32 9 0 (Nat.zero_le _) (by omega) _ _ _ hP hD hS (lv_sub hl [3, 2, 1, 0] rfl)

set_option maxHeartbeats 4000000 in
set_option maxRecDepth 100000 in
theorem c_X8_useful (l : Launch) (D : va_G) (cs : zCs) (a : Nat → Nat) (V : Nat → Int32) (G : Nat → Nat → Int32) (hz : vf_n64 (FP.ddiv (FP.i2d (G 0 14)) (FP.i2d (G 0 12)))) : zM l D cs yX8_useful cX8_useful 5 (some FieldType.double) 0 0 0 0 [.ref (a 0)] (refW cs a V G) (some (.double (FP.ddiv (FP.i2d ((G 0) 14)) (FP.i2d ((G 0) 12))))) (refW cs a (upd V 1 0) G) := by
  refine zM.of (own := RX8) (by decide) (Nat.le_of_ble_eq_true rfl) rfl ?_
  intro pq eq s mq below meth cq A ls hx hb hr hml hown hts hlk hnm hE hK hA hP hD hS hl
  have hl : lv_has ls 5 [(0, .ref (a 0))] := hl
  refine lv_aload_n hx hb dX8_useful_0 rfl (lv_at hl 0 rfl) ?_
  refine lv_iconst (v := 0) hx hb dX8_useful_1 (by decide) ?_
  refine va_put (D := D) (ci := 8) (v := .int 0) (C := RX8) (T := TX8) (N := 13) hx hb hts wsI_X8 tyX8 tyX8_ok nmX8 hown hK hP hD hS 0 rfl rfl 4 (by decide) (hts _ w_fl_X8_31) (fun _ h9 => h9) rfl (tyX8_ok 4 (by decide)) rfl rfl (Nat.le_of_ble_eq_true rfl) dX8_useful_2 (fun H locs hP hD hS => ?_)
  have hP : va_P D vwCl (refW cs a (upd V 1 0) G) H := hP
  have hD : va_D A (refW cs a (upd V 1 0) G) := hD
  refine lv_aload_n hx hb dX8_useful_5 rfl (lv_at hl 0 rfl) ?_
  refine va_get (D := D) (ci := 8) (v := .ref (a 1)) (C := RX8) (T := TX8) (N := 13) hx hb hts wsI_X8 hown hK hP 0 rfl rfl 0 (by decide) (hts _ w_fl_X8_7) (fun _ h9 => h9) rfl dX8_useful_6 ?_
  refine lv_bipush (v := 14) hx hb dX8_useful_9 (by decide) ?_
  refine z_iald (k := 14) hx hb hK hP 1 rfl (by decide) (by first | decide | omega) dX8_useful_11 ?_
  refine lv_i2d hx hb dX8_useful_12 ?_
  refine lv_dstore_n (lv' := [(1, .double (FP.i2d ((G 0) 14))), (0, .ref (a 0))]) hx hb dX8_useful_13 rfl hl (by decide) rfl (fun ls hl => ?_)
  refine lv_aload_n hx hb dX8_useful_14 rfl (lv_at hl 1 rfl) ?_
  refine va_get (D := D) (ci := 8) (v := .ref (a 1)) (C := RX8) (T := TX8) (N := 13) hx hb hts wsI_X8 hown hK hP 0 rfl rfl 0 (by decide) (hts _ w_fl_X8_7) (fun _ h9 => h9) rfl dX8_useful_15 ?_
  refine lv_bipush (v := 12) hx hb dX8_useful_18 (by decide) ?_
  refine z_iald (k := 12) hx hb hK hP 1 rfl (by decide) (by first | decide | omega) dX8_useful_20 ?_
  refine lv_i2d hx hb dX8_useful_21 ?_
  refine lv_dstore_n (lv' := [(3, .double (FP.i2d ((G 0) 12))), (1, .double (FP.i2d ((G 0) 14))), (0, .ref (a 0))]) hx hb dX8_useful_22 rfl hl (by decide) rfl (fun ls hl => ?_)
  refine lv_dload_n hx hb dX8_useful_23 rfl (lv_at hl 1 rfl) ?_
  refine lv_dload_n hx hb dX8_useful_24 rfl (lv_at hl 0 rfl) ?_
  refine lv_ddiv hx hb dX8_useful_25 hz ?_
  exact z_dret hx hb hr hlk hK hP hD hS dX8_useful_26 rfl rfl
