theorem lw_31 (x : Int32) : ∃ k : Nat, k < 32 ∧ x &&& 31 = nI k := by
  have h : (x &&& 31).toBitVec.toNat ≤ 31 := by
    show (x.toBitVec &&& (31 : Int32).toBitVec).toNat ≤ 31
    rw [BitVec.toNat_and]; exact Nat.and_le_right
  refine ⟨(x &&& 31).toBitVec.toNat, by omega, ?_⟩
  apply Int32.toBitVec_inj.mp
  apply BitVec.eq_of_toNat_eq
  show _ = (BitVec.ofNat 32 (x &&& 31).toBitVec.toNat).toNat
  rw [BitVec.toNat_ofNat, Nat.mod_eq_of_lt (by omega)]
theorem lw_go {i Ls : Nat} (hL : Ls ≤ 2560) (hi : i ≤ 2565) (h : ¬ Int32.ofNat Ls - 5 < nI i) : i + 5 ≤ Ls := by
  have e1 : (Int32.ofNat Ls).toInt = (Ls : Int) := nI_toInt (by omega)
  have e2 : (Int32.ofNat Ls - 5).toInt = (Ls : Int) - 5 := by rw [p_sub (by rw [e1, show (5 : Int32).toInt = 5 from rfl]; omega), e1]; rfl
  have e3 := nI_toInt (n := i) (by omega)
  have e4 := mt p_lt.mpr h
  omega
set_option maxHeartbeats 4000000 in
set_option maxRecDepth 100000 in
theorem law_loop {pq : Program} (l : Launch) {eq : Env} {s : State} {mq : MethodId} {below : List Frame} {meth : Method} {cq : Code} {A : Nat → Prop} {D : va_G} {cs : zCs} {b Ls : Nat} {xs : Nat → Int32} {Q : State → Prop} {ad kd : Nat → Nat → Nat} {a : Nat → Nat} {ou : Nat} (hfl : l.stackTraces = false) (hx : pq.tables.exec = Jvm.exec) (hb : cq.code = cL_law) (hml : cq.maxLocals = 9) (hown : s.vm.findClass RL = some mq.cls) (hts : ∀ w ∈ wsG, w.before #[Value.ref b] s = true) (hXs : va_X b Ls xs s s.heap) (hbl : b < s.heap.size) (hbA : ¬ A b) (hE : zE A s) (hK : va_K D vwCl (zT cs) s) (hA : ∀ q : Nat, s.heap.size ≤ q → A q) (hLs : Ls ≤ 2560) (hAs : ∀ q : Nat, A q → s.heap.size ≤ q) (hret : ∀ (H : Heap) (ls : Array Slot), W pq l eq room_1 s mq #[Value.ref b] below meth cq H [] 601024 7293034 Q (F0 mq 1454 ls [.int 1])) : ∀ (n j i : Nat), j + n = 513 → i = 5 * j → ∀ (w : va_W), lwI cs ad kd a ou w → ∀ (H : Heap) (locs : List Loc) (ls : Array Slot), va_P D vwCl w H → va_D A w → va_S A s.heap H locs → lv_has ls 9 [(0, .ref b), (1, .ref (ad 3 0)), (2, .ref (a 0)), (3, .ref ou), (4, .int (nI i))] → W pq l eq room_1 s mq #[Value.ref b] below meth cq H locs (133 + 3 * j) (2429 + 18 * j) Q (F0 mq 23 ls []) := by
  intro n
  induction n with
  | zero =>
    intro j i hj hij w hI H locs ls hP hD hS hl
    refine lv_iload hx hb dL_law_23 (lv_at hl 4 rfl) ?_
    refine lv_aload_n hx hb dL_law_25 rfl (lv_at hl 0 rfl) ?_
    refine va_slen hx hb hXs hbl hbA hS dL_law_26 ?_
    refine lv_iconst (v := 5) hx hb dL_law_27 (by decide) ?_
    refine lv_isub hx hb dL_law_28 ?_
    refine lv_icmp_gt (tgt := 1453) hx hb dL_law_29 (by decide) (fun c1 => ?_) (fun c1 => ?_)
    · skip
      refine lv_iconst (v := 1) hx hb dL_law_1453 (by decide) ?_
      refine va_forget (fun q hq => hAs _ (hS.2.2 q hq)) ?_
      refine W.widen (k := 601024) (n := 7293034) (by omega) (by omega) ?_
      exact hret _ _
    · skip
      have hi : i + 5 ≤ Ls := lw_go hLs (by omega) c1
      exact absurd hi (by omega)
  | succ n ih =>
    intro j i hj hij w hI H locs ls hP hD hS hl
    refine lv_iload hx hb dL_law_23 (lv_at hl 4 rfl) ?_
    refine lv_aload_n hx hb dL_law_25 rfl (lv_at hl 0 rfl) ?_
    refine va_slen hx hb hXs hbl hbA hS dL_law_26 ?_
    refine lv_iconst (v := 5) hx hb dL_law_27 (by decide) ?_
    refine lv_isub hx hb dL_law_28 ?_
    refine lv_icmp_gt (tgt := 1453) hx hb dL_law_29 (by decide) (fun c1 => ?_) (fun c1 => ?_)
    · skip
      refine lv_iconst (v := 1) hx hb dL_law_1453 (by decide) ?_
      refine va_forget (fun q hq => hAs _ (hS.2.2 q hq)) ?_
      refine W.widen (k := 601024) (n := 7293034) (by omega) (by omega) ?_
      exact hret _ _
    · skip
      have hi : i + 5 ≤ Ls := lw_go hLs (by omega) c1
      have hce : (133 + 3 * j) + 3 ≤ 601024 := by omega
      have hsl : (2429 + 18 * j) + 18 ≤ 7293034 := by omega
      have kk : ∀ (w : va_W), lwI cs ad kd a ou w → ∀ (H : Heap) (locs : List Loc) (ls : Array Slot), va_P D vwCl w H → va_D A w → va_S A s.heap H locs → lv_has ls 9 [(0, .ref b), (1, .ref (ad 3 0)), (2, .ref (a 0)), (3, .ref ou), (4, .int (nI i))] → W pq l eq room_1 s mq #[Value.ref b] below meth cq H locs (133 + 3 * j + 3) (2429 + 18 * j + 18) Q (F0 mq 1447 ls []) := by
        intro w hI H locs ls hP hD hS hl
        refine lv_iinc (v := nI (i + 5)) (lv' := [(4, .int (nI (i + 5))), (0, .ref b), (1, .ref (ad 3 0)), (2, .ref (a 0)), (3, .ref ou)]) hx hb dL_law_1447 hl (k := 4) rfl (show nI i + Int32.ofInt 5 = nI (i + 5) from nI_add i 5) (by decide) rfl (fun ls hl => ?_)
        refine lv_goto (tgt := 23) hx hb dL_law_1450 (by decide) ?_
        refine W.widen (k := 133 + 3 * (j + 1)) (n := 2429 + 18 * (j + 1)) (by omega) (by omega) ?_
        exact ih (j + 1) (i + 5) (by omega) (by omega) w hI H locs ls hP hD hS (lv_sub hl [1, 2, 3, 4, 0] rfl)
      refine lv_aload_n hx hb dL_law_32 rfl (lv_at hl 0 rfl) ?_
      refine lv_iload hx hb dL_law_33 (lv_at hl 4 rfl) ?_
      refine z_scr (k := i) hx hb hXs hbl hbA hS (by omega) hLs dL_law_35 ?_
      refine lv_bipush (v := 31) hx hb dL_law_36 (by decide) ?_
      refine lv_iand hx hb dL_law_38 ?_
      obtain ⟨k, hk, ek⟩ := lw_31 (xs i)
      refine z_top (y := nI k) ek ?_
      clear ek
      obtain ⟨S, F, TS, TF, ES, EF, HS, KS, KF, X, B, V, G, OL, p, n1, L, rfl, hR⟩ := hI
      rcases (show k = 0 ∨ k = 1 ∨ k = 2 ∨ k = 3 ∨ k = 4 ∨ k = 5 ∨ k = 6 ∨ k = 7 ∨ k = 8 ∨ k = 9 ∨ k = 10 ∨ k = 11 ∨ k = 12 ∨ k = 13 ∨ k = 14 ∨ k = 15 ∨ k = 16 ∨ k = 17 ∨ k = 18 ∨ k = 19 ∨ k = 20 ∨ k = 21 ∨ k = 22 ∨ k = 23 ∨ k = 24 ∨ k = 25 ∨ k = 26 ∨ k = 27 ∨ k = 28 ∨ k = 29 ∨ k = 30 ∨ k = 31 by omega) with rfl | rfl | rfl | rfl | rfl | rfl | rfl | rfl | rfl | rfl | rfl | rfl | rfl | rfl | rfl | rfl | rfl | rfl | rfl | rfl | rfl | rfl | rfl | rfl | rfl | rfl | rfl | rfl | rfl | rfl | rfl | rfl
      · skip
        refine lv_tableIn (tgt := 152) (off := 113) hx hb dL_law_39 (by decide) (by decide) (by decide) (by decide) ?_
        exact law_setCam l hfl hx hb hml hown hts hXs hbl hbA hE hK hA hLs hi hce hsl hR hP hD hS hl kk
      · skip
        refine lv_tableIn (tgt := 248) (off := 209) hx hb dL_law_39 (by decide) (by decide) (by decide) (by decide) ?_
        exact law_setPawl l hfl hx hb hml hown hts hXs hbl hbA hE hK hA hLs hi hce hsl hR hP hD hS hl kk
      · skip
        refine lv_tableIn (tgt := 316) (off := 277) hx hb dL_law_39 (by decide) (by decide) (by decide) (by decide) ?_
        exact law_setCylinder l hfl hx hb hml hown hts hXs hbl hbA hE hK hA hLs hi hce hsl hR hP hD hS hl kk
      · skip
        refine lv_tableIn (tgt := 408) (off := 369) hx hb dL_law_39 (by decide) (by decide) (by decide) (by decide) ?_
        exact law_setAir l hfl hx hb hml hown hts hXs hbl hbA hE hK hA hLs hi hce hsl hR hP hD hS hl kk
      · skip
        refine lv_tableIn (tgt := 476) (off := 437) hx hb dL_law_39 (by decide) (by decide) (by decide) (by decide) ?_
        exact law_addGuard l hfl hx hb hml hown hts hXs hbl hbA hE hK hA hLs hi hce hsl hR hP hD hS hl kk
      · skip
        refine lv_tableIn (tgt := 556) (off := 517) hx hb dL_law_39 (by decide) (by decide) (by decide) (by decide) ?_
        exact law_removeGuard l hfl hx hb hml hown hts hXs hbl hbA hE hK hA hLs hi hce hsl hR hP hD hS hl kk
      · skip
        refine lv_tableIn (tgt := 612) (off := 573) hx hb dL_law_39 (by decide) (by decide) (by decide) (by decide) ?_
        exact law_turn l hfl hx hb hml hown hts hXs hbl hbA hE hK hA hLs hi hce hsl hR hP hD hS hl kk
      · skip
        refine lv_tableIn (tgt := 668) (off := 629) hx hb dL_law_39 (by decide) (by decide) (by decide) (by decide) ?_
        exact law_run l hfl hx hb hml hown hts hXs hbl hbA hE hK hA hLs hi hce hsl hR hP hD hS hl kk
      · skip
        refine lv_tableIn (tgt := 724) (off := 685) hx hb dL_law_39 (by decide) (by decide) (by decide) (by decide) ?_
        exact law_cam l hfl hx hb hml hown hts hXs hbl hbA hE hK hA hLs hi hce hsl hR hP hD hS hl kk
      · skip
        refine lv_tableIn (tgt := 799) (off := 760) hx hb dL_law_39 (by decide) (by decide) (by decide) (by decide) ?_
        exact law_cylinder l hfl hx hb hml hown hts hXs hbl hbA hE hK hA hLs hi hce hsl hR hP hD hS hl kk
      · skip
        refine lv_tableIn (tgt := 867) (off := 828) hx hb dL_law_39 (by decide) (by decide) (by decide) (by decide) ?_
        exact law_guard l hfl hx hb hml hown hts hXs hbl hbA hE hK hA hLs hi hce hsl hR hP hD hS hl kk
      · skip
        refine lv_tableIn (tgt := 935) (off := 896) hx hb dL_law_39 (by decide) (by decide) (by decide) (by decide) ?_
        exact law_value l hfl hx hb hml hown hts hXs hbl hbA hE hK hA hLs hi hce hsl hR hP hD hS hl kk
      · skip
        refine lv_tableIn (tgt := 991) (off := 952) hx hb dL_law_39 (by decide) (by decide) (by decide) (by decide) ?_
        exact law_chart l hfl hx hb hml hown hts hXs hbl hbA hE hK hA hLs hi hce hsl hR hP hD hS hl kk
      · skip
        refine lv_tableIn (tgt := 1059) (off := 1020) hx hb dL_law_39 (by decide) (by decide) (by decide) (by decide) ?_
        exact law_skips l hfl hx hb hml hown hts hXs hbl hbA hE hK hA hLs hi hce hsl hR hP hD hS hl kk
      · skip
        refine lv_tableIn (tgt := 1115) (off := 1076) hx hb dL_law_39 (by decide) (by decide) (by decide) (by decide) ?_
        exact law_ticksToOut l hfl hx hb hml hown hts hXs hbl hbA hE hK hA hLs hi hce hsl hR hP hD hS hl kk
      · skip
        refine lv_tableIn (tgt := 1171) (off := 1132) hx hb dL_law_39 (by decide) (by decide) (by decide) (by decide) ?_
        exact law_ticksToCycle l hfl hx hb hml hown hts hXs hbl hbA hE hK hA hLs hi hce hsl hR hP hD hS hl kk
      · skip
        refine lv_tableIn (tgt := 1184) (off := 1145) hx hb dL_law_39 (by decide) (by decide) (by decide) (by decide) ?_
        exact law_leastCompressor l hfl hx hb hml hown hts hXs hbl hbA hE hK hA hLs hi hce hsl hR hP hD hS hl kk
      · skip
        refine lv_tableIn (tgt := 1240) (off := 1201) hx hb dL_law_39 (by decide) (by decide) (by decide) (by decide) ?_
        exact law_shortestDwell l hfl hx hb hml hown hts hXs hbl hbA hE hK hA hLs hi hce hsl hR hP hD hS hl kk
      · skip
        refine lv_tableIn (tgt := 1253) (off := 1214) hx hb dL_law_39 (by decide) (by decide) (by decide) (by decide) ?_
        exact law_repeats l hfl hx hb hml hown hts hXs hbl hbA hE hK hA hLs hi hce hsl hR hP hD hS hl kk
      · skip
        refine lv_tableIn (tgt := 1266) (off := 1227) hx hb dL_law_39 (by decide) (by decide) (by decide) (by decide) ?_
        exact law_useful l hfl hx hb hml hown hts hXs hbl hbA hE hK hA hLs hi hce hsl hR hP hD hS hl kk
      · skip
        refine lv_tableIn (tgt := 1307) (off := 1268) hx hb dL_law_39 (by decide) (by decide) (by decide) (by decide) ?_
        exact law_append l hfl hx hb hml hown hts hXs hbl hbA hE hK hA hLs hi hce hsl hR hP hD hS hl kk
      · skip
        refine lv_tableIn (tgt := 1363) (off := 1324) hx hb dL_law_39 (by decide) (by decide) (by decide) (by decide) ?_
        exact law_clearText l hfl hx hb hml hown hts hXs hbl hbA hE hK hA hLs hi hce hsl hR hP hD hS hl kk
      · skip
        refine lv_tableIn (tgt := 1376) (off := 1337) hx hb dL_law_39 (by decide) (by decide) (by decide) (by decide) ?_
        exact law_parse l hfl hx hb hml hown hts hXs hbl hbA hE hK hA hLs hi hce hsl hR hP hD hS hl kk
      · skip
        refine lv_tableIn (tgt := 1389) (off := 1350) hx hb dL_law_39 (by decide) (by decide) (by decide) (by decide) ?_
        exact law_undo l hfl hx hb hml hown hts hXs hbl hbA hE hK hA hLs hi hce hsl hR hP hD hS hl kk
      · skip
        refine lv_tableIn (tgt := 1433) (off := 1394) hx hb dL_law_39 (by decide) (by decide) (by decide) (by decide) ?_
        exact law_digest l hfl hx hb hml hown hts hXs hbl hbA hE hK hA hLs hi hce hsl hR hP hD hS hl kk
      · skip
        refine lv_tableOut (tgt := 1447) hx hb dL_law_39 (by decide) (by decide) ?_
        refine W.widen (k := 133 + 3 * j + 3) (n := 2429 + 18 * j + 18) (by omega) (by omega) ?_
        exact kk _ ⟨S, F, TS, TF, ES, EF, HS, KS, KF, X, B, V, G, OL, p, n1, L, rfl, hR⟩ H locs ls hP hD hS hl
      · skip
        refine lv_tableOut (tgt := 1447) hx hb dL_law_39 (by decide) (by decide) ?_
        refine W.widen (k := 133 + 3 * j + 3) (n := 2429 + 18 * j + 18) (by omega) (by omega) ?_
        exact kk _ ⟨S, F, TS, TF, ES, EF, HS, KS, KF, X, B, V, G, OL, p, n1, L, rfl, hR⟩ H locs ls hP hD hS hl
      · skip
        refine lv_tableOut (tgt := 1447) hx hb dL_law_39 (by decide) (by decide) ?_
        refine W.widen (k := 133 + 3 * j + 3) (n := 2429 + 18 * j + 18) (by omega) (by omega) ?_
        exact kk _ ⟨S, F, TS, TF, ES, EF, HS, KS, KF, X, B, V, G, OL, p, n1, L, rfl, hR⟩ H locs ls hP hD hS hl
      · skip
        refine lv_tableOut (tgt := 1447) hx hb dL_law_39 (by decide) (by decide) ?_
        refine W.widen (k := 133 + 3 * j + 3) (n := 2429 + 18 * j + 18) (by omega) (by omega) ?_
        exact kk _ ⟨S, F, TS, TF, ES, EF, HS, KS, KF, X, B, V, G, OL, p, n1, L, rfl, hR⟩ H locs ls hP hD hS hl
      · skip
        refine lv_tableOut (tgt := 1447) hx hb dL_law_39 (by decide) (by decide) ?_
        refine W.widen (k := 133 + 3 * j + 3) (n := 2429 + 18 * j + 18) (by omega) (by omega) ?_
        exact kk _ ⟨S, F, TS, TF, ES, EF, HS, KS, KF, X, B, V, G, OL, p, n1, L, rfl, hR⟩ H locs ls hP hD hS hl
      · skip
        refine lv_tableOut (tgt := 1447) hx hb dL_law_39 (by decide) (by decide) ?_
        refine W.widen (k := 133 + 3 * j + 3) (n := 2429 + 18 * j + 18) (by omega) (by omega) ?_
        exact kk _ ⟨S, F, TS, TF, ES, EF, HS, KS, KF, X, B, V, G, OL, p, n1, L, rfl, hR⟩ H locs ls hP hD hS hl
      · skip
        refine lv_tableOut (tgt := 1447) hx hb dL_law_39 (by decide) (by decide) ?_
        refine W.widen (k := 133 + 3 * j + 3) (n := 2429 + 18 * j + 18) (by omega) (by omega) ?_
        exact kk _ ⟨S, F, TS, TF, ES, EF, HS, KS, KF, X, B, V, G, OL, p, n1, L, rfl, hR⟩ H locs ls hP hD hS hl
