theorem zY_J6_bitCount_0f7a4 : zY yJ6_bitCount_0f7a4 cJ6_bitCount_0f7a4 1 (some FieldType.int) 1 := ⟨w_co_yJ6_bitCount_0f7a4, w_in_J6, by decide +kernel⟩
theorem zY_J7_fill_53178 : zY yJ7_fill_53178 cJ7_fill_53178 4 none 2 := ⟨w_co_yJ7_fill_53178, w_in_J7, by decide +kernel⟩
theorem zY_X0_compress : zY yX0_compress cX0_compress 1 none 0 := ⟨w_co_yX0_compress, w_in_X0, by decide +kernel⟩
theorem zY_X0_copyFrom : zY yX0_copyFrom cX0_copyFrom 2 none 1 := ⟨w_co_yX0_copyFrom, w_in_X0, by decide +kernel⟩
theorem zY_X0_enoughToMove : zY yX0_enoughToMove cX0_enoughToMove 2 (some FieldType.int) 1 := ⟨w_co_yX0_enoughToMove, w_in_X0, by decide +kernel⟩
theorem zY_X0_init : zY yX0_init cX0_init 1 none 0 := ⟨w_co_yX0_init, w_in_X0, by decide +kernel⟩
theorem zY_X0_leakOut : zY yX0_leakOut cX0_leakOut 3 (some FieldType.int) 1 := ⟨w_co_yX0_leakOut, w_in_X0, by decide +kernel⟩
theorem zY_X0_letOffSurplus : zY yX0_letOffSurplus cX0_letOffSurplus 2 none 0 := ⟨w_co_yX0_letOffSurplus, w_in_X0, by decide +kernel⟩
theorem zY_X0_use : zY yX0_use cX0_use 2 none 1 := ⟨w_co_yX0_use, w_in_X0, by decide +kernel⟩
theorem zY_X1_copyFrom : zY yX1_copyFrom cX1_copyFrom 2 none 1 := ⟨w_co_yX1_copyFrom, w_in_X1, by decide +kernel⟩
theorem zY_X1_countSkip : zY yX1_countSkip cX1_countSkip 2 none 1 := ⟨w_co_yX1_countSkip, w_in_X1, by decide +kernel⟩
theorem zY_X1_init : zY yX1_init cX1_init 1 none 0 := ⟨w_co_yX1_init, w_in_X1, by decide +kernel⟩
theorem zY_X1_note : zY yX1_note cX1_note 5 none 3 := ⟨w_co_yX1_note, w_in_X1, by decide +kernel⟩
theorem zY_X1_outAt : zY yX1_outAt cX1_outAt 4 (some FieldType.int) 2 := ⟨w_co_yX1_outAt, w_in_X1, by decide +kernel⟩
theorem zY_X1_skipsAt : zY yX1_skipsAt cX1_skipsAt 2 (some FieldType.int) 1 := ⟨w_co_yX1_skipsAt, w_in_X1, by decide +kernel⟩
theorem zY_X2_copyFrom : zY yX2_copyFrom cX2_copyFrom 2 none 1 := ⟨w_co_yX2_copyFrom, w_in_X2, by decide +kernel⟩
theorem zY_X2_init : zY yX2_init cX2_init 1 none 0 := ⟨w_co_yX2_init, w_in_X2, by decide +kernel⟩
theorem zY_X3_copyFrom : zY yX3_copyFrom cX3_copyFrom 2 none 1 := ⟨w_co_yX3_copyFrom, w_in_X3, by decide +kernel⟩
theorem zY_X3_init : zY yX3_init cX3_init 1 none 0 := ⟨w_co_yX3_init, w_in_X3, by decide +kernel⟩
theorem zY_X3_putLast : zY yX3_putLast cX3_putLast 4 (some FieldType.int) 3 := ⟨w_co_yX3_putLast, w_in_X3, by decide +kernel⟩
theorem zY_X3_takeOut : zY yX3_takeOut cX3_takeOut 3 none 1 := ⟨w_co_yX3_takeOut, w_in_X3, by decide +kernel⟩
theorem zY_X4_init : zY yX4_init cX4_init 2 none 0 := ⟨w_co_yX4_init, w_in_X4, by decide +kernel⟩
theorem zY_X4_newestPlace : zY yX4_newestPlace cX4_newestPlace 1 (some (FieldType.object "CamDrum$Machine")) 0 := ⟨w_co_yX4_newestPlace, w_in_X4, by decide +kernel⟩
theorem zY_X4_restore : zY yX4_restore cX4_restore 3 none 1 := ⟨w_co_yX4_restore, w_in_X4, by decide +kernel⟩
theorem zY_X4_save : zY yX4_save cX4_save 3 none 1 := ⟨w_co_yX4_save, w_in_X4, by decide +kernel⟩
theorem zY_X5_camsOf : zY yX5_camsOf cX5_camsOf 2 (some FieldType.int) 1 := ⟨w_co_yX5_camsOf, w_in_X5, by decide +kernel⟩
theorem zY_X5_copyFrom : zY yX5_copyFrom cX5_copyFrom 2 none 1 := ⟨w_co_yX5_copyFrom, w_in_X5, by decide +kernel⟩
theorem zY_X5_cylinderNumber : zY yX5_cylinderNumber cX5_cylinderNumber 3 (some FieldType.int) 2 := ⟨w_co_yX5_cylinderNumber, w_in_X5, by decide +kernel⟩
theorem zY_X5_hasCam : zY yX5_hasCam cX5_hasCam 3 (some FieldType.boolean) 2 := ⟨w_co_yX5_hasCam, w_in_X5, by decide +kernel⟩
theorem zY_X5_holds : zY yX5_holds cX5_holds 3 (some FieldType.boolean) 1 := ⟨w_co_yX5_holds, w_in_X5, by decide +kernel⟩
theorem zY_X5_init : zY yX5_init cX5_init 1 none 0 := ⟨w_co_yX5_init, w_in_X5, by decide +kernel⟩
theorem zY_X5_leakAt : zY yX5_leakAt cX5_leakAt 2 none 1 := ⟨w_co_yX5_leakAt, w_in_X5, by decide +kernel⟩
theorem zY_X5_moveDrum : zY yX5_moveDrum cX5_moveDrum 1 (some FieldType.int) 0 := ⟨w_co_yX5_moveDrum, w_in_X5, by decide +kernel⟩
theorem zY_X5_moveIn : zY yX5_moveIn cX5_moveIn 2 none 1 := ⟨w_co_yX5_moveIn, w_in_X5, by decide +kernel⟩
theorem zY_X5_moveOut : zY yX5_moveOut cX5_moveOut 4 none 1 := ⟨w_co_yX5_moveOut, w_in_X5, by decide +kernel⟩
theorem zY_X5_number : zY yX5_number cX5_number 2 (some FieldType.int) 1 := ⟨w_co_yX5_number, w_in_X5, by decide +kernel⟩
theorem zY_X5_putCam : zY yX5_putCam cX5_putCam 5 none 3 := ⟨w_co_yX5_putCam, w_in_X5, by decide +kernel⟩
theorem zY_X5_roomByGuards : zY yX5_roomByGuards cX5_roomByGuards 4 (some FieldType.int) 1 := ⟨w_co_yX5_roomByGuards, w_in_X5, by decide +kernel⟩
theorem zY_X5_standAt : zY yX5_standAt cX5_standAt 2 none 1 := ⟨w_co_yX5_standAt, w_in_X5, by decide +kernel⟩
theorem zY_X5_tick : zY yX5_tick cX5_tick 3 (some FieldType.int) 0 := ⟨w_co_yX5_tick, w_in_X5, by decide +kernel⟩
theorem zY_X5_tickUntilCycleEnds : zY yX5_tickUntilCycleEnds cX5_tickUntilCycleEnds 3 (some FieldType.int) 1 := ⟨w_co_yX5_tickUntilCycleEnds, w_in_X5, by decide +kernel⟩
theorem zY_X6_init : zY yX6_init cX6_init 1 none 0 := ⟨w_co_yX6_init, w_in_X6, by decide +kernel⟩
theorem zY_X7_addGuard : zY yX7_addGuard cX7_addGuard 4 (some FieldType.int) 3 := ⟨w_co_yX7_addGuard, w_in_X7, by decide +kernel⟩
theorem zY_X7_cam : zY yX7_cam cX7_cam 3 (some FieldType.boolean) 2 := ⟨w_co_yX7_cam, w_in_X7, by decide +kernel⟩
theorem zY_X7_chart : zY yX7_chart cX7_chart 3 (some FieldType.int) 2 := ⟨w_co_yX7_chart, w_in_X7, by decide +kernel⟩
theorem zY_X7_copyRow : zY yX7_copyRow cX7_copyRow 2 none 2 := ⟨w_co_yX7_copyRow, w_in_X7, by decide +kernel⟩
theorem zY_X7_cylinder : zY yX7_cylinder cX7_cylinder 3 (some FieldType.int) 2 := ⟨w_co_yX7_cylinder, w_in_X7, by decide +kernel⟩
theorem zY_X7_goesWithoutSkip : zY yX7_goesWithoutSkip cX7_goesWithoutSkip 4 (some FieldType.boolean) 2 := ⟨w_co_yX7_goesWithoutSkip, w_in_X7, by decide +kernel⟩
theorem zY_X7_init : zY yX7_init cX7_init 1 none 0 := ⟨w_co_yX7_init, w_in_X7, by decide +kernel⟩
theorem zY_X7_leastCompressor : zY yX7_leastCompressor cX7_leastCompressor 3 (some FieldType.int) 1 := ⟨w_co_yX7_leastCompressor, w_in_X7, by decide +kernel⟩
theorem zY_X7_removeGuard : zY yX7_removeGuard cX7_removeGuard 2 (some FieldType.int) 1 := ⟨w_co_yX7_removeGuard, w_in_X7, by decide +kernel⟩
theorem zY_X7_requireCylinder : zY yX7_requireCylinder cX7_requireCylinder 1 none 1 := ⟨w_co_yX7_requireCylinder, w_in_X7, by decide +kernel⟩
theorem zY_X7_requireGuard : zY yX7_requireGuard cX7_requireGuard 2 none 1 := ⟨w_co_yX7_requireGuard, w_in_X7, by decide +kernel⟩
theorem zY_X7_requireStep : zY yX7_requireStep cX7_requireStep 2 none 1 := ⟨w_co_yX7_requireStep, w_in_X7, by decide +kernel⟩
theorem zY_X7_requireWhat : zY yX7_requireWhat cX7_requireWhat 2 none 2 := ⟨w_co_yX7_requireWhat, w_in_X7, by decide +kernel⟩
theorem zY_X7_run : zY yX7_run cX7_run 4 (some FieldType.int) 1 := ⟨w_co_yX7_run, w_in_X7, by decide +kernel⟩
theorem zY_X7_setAir : zY yX7_setAir cX7_setAir 3 (some FieldType.int) 2 := ⟨w_co_yX7_setAir, w_in_X7, by decide +kernel⟩
theorem zY_X7_setCam : zY yX7_setCam cX7_setCam 4 (some FieldType.int) 3 := ⟨w_co_yX7_setCam, w_in_X7, by decide +kernel⟩
theorem zY_X7_setCylinder : zY yX7_setCylinder cX7_setCylinder 5 (some FieldType.int) 4 := ⟨w_co_yX7_setCylinder, w_in_X7, by decide +kernel⟩
theorem zY_X7_setPawl : zY yX7_setPawl cX7_setPawl 4 (some FieldType.int) 2 := ⟨w_co_yX7_setPawl, w_in_X7, by decide +kernel⟩
theorem zY_X7_skips : zY yX7_skips cX7_skips 2 (some FieldType.int) 1 := ⟨w_co_yX7_skips, w_in_X7, by decide +kernel⟩
theorem zY_X7_ticksToCycle : zY yX7_ticksToCycle cX7_ticksToCycle 1 (some FieldType.int) 0 := ⟨w_co_yX7_ticksToCycle, w_in_X7, by decide +kernel⟩
theorem zY_X7_ticksToOut : zY yX7_ticksToOut cX7_ticksToOut 3 (some FieldType.int) 1 := ⟨w_co_yX7_ticksToOut, w_in_X7, by decide +kernel⟩
theorem zY_X7_turn : zY yX7_turn cX7_turn 3 (some FieldType.int) 1 := ⟨w_co_yX7_turn, w_in_X7, by decide +kernel⟩
theorem zY_X7_undo : zY yX7_undo cX7_undo 1 (some FieldType.int) 0 := ⟨w_co_yX7_undo, w_in_X7, by decide +kernel⟩
theorem zY_X7_useful : zY yX7_useful cX7_useful 1 (some FieldType.double) 0 := ⟨w_co_yX7_useful, w_in_X7, by decide +kernel⟩
theorem zY_X7_value : zY yX7_value cX7_value 2 (some FieldType.int) 1 := ⟨w_co_yX7_value, w_in_X7, by decide +kernel⟩
theorem zY_X7_within : zY yX7_within cX7_within 3 (some FieldType.boolean) 3 := ⟨w_co_yX7_within, w_in_X7, by decide +kernel⟩
theorem bI_n0 {P : Prop} [Decidable P] (h : ¬ bI P = 0) : P := by
  unfold bI at h
  by_cases hp : P
  · exact hp
  · rw [if_neg hp] at h; exact absurd rfl h
/-- one row of a table of rows replaced -/
def zU (F : Nat → Nat → Int32) (r : Nat) (g : Nat → Int32) : Nat → Nat → Int32 := fun k => if k = r then g else F k
def zmax (x y : Int32) : Int32 := if x < y then y else x
def zmin (x y : Int32) : Int32 := if y < x then y else x
/-! the units of the world: a the addresses, S the numbers, F the rows -/
abbrev airW (a : Nat → Nat) (S : Nat → Int32) : va_W := [(a 2, .inr (0, [.int (S 5), .int (S 6), .int (S 7), .int (S 12), .int (S 13), .int (S 14), .int (S 15)]))]
abbrev cylW (cs : zCs) (a : Nat → Nat) (F : Nat → Nat → Int32) : va_W := [(a 3, .inr (2, [.ref (a 4), .ref (a 5), .ref (a 6), .ref (a 7), .ref (a 8), .ref (a 9)])), (a 4, .inl (cs.1, 5, .inl (F 1))), (a 5, .inl (cs.1, 5, .inl (F 2))), (a 6, .inl (cs.1, 5, .inl (F 3))), (a 7, .inl (cs.1, 5, .inl (F 4))), (a 8, .inl (cs.1, 5, .inl (F 5))), (a 9, .inl (cs.1, 5, .inl (F 6)))]
abbrev grdW (cs : zCs) (a : Nat → Nat) (S : Nat → Int32) (F : Nat → Nat → Int32) : va_W := [(a 10, .inr (3, [.ref (a 11), .ref (a 12), .ref (a 13), .int (S 8)])), (a 11, .inl (cs.1, 4, .inl (F 7))), (a 12, .inl (cs.1, 4, .inl (F 8))), (a 13, .inl (cs.1, 4, .inl (F 9)))]
abbrev chtW (cs : zCs) (a : Nat → Nat) (F : Nat → Nat → Int32) : va_W := [(a 14, .inr (1, [.ref (a 15), .ref (a 16)])), (a 15, .inl (cs.1, 80, .inl (F 10))), (a 16, .inl (cs.1, 16, .inl (F 11)))]
abbrev macW (cs : zCs) (a : Nat → Nat) (S : Nat → Int32) (F : Nat → Nat → Int32) : va_W := [(a 0, .inr (5, [.int (S 0), .int (S 1), .int (S 2), .int (S 3), .int (S 4), .int (S 9), .int (S 10), .int (S 11), .ref (a 1), .ref (a 2), .ref (a 3), .ref (a 10), .ref (a 14)])), (a 1, .inl (cs.1, 5, .inl (F 0))),
  (a 2, .inr (0, [.int (S 5), .int (S 6), .int (S 7), .int (S 12), .int (S 13), .int (S 14), .int (S 15)])), (a 3, .inr (2, [.ref (a 4), .ref (a 5), .ref (a 6), .ref (a 7), .ref (a 8), .ref (a 9)])), (a 4, .inl (cs.1, 5, .inl (F 1))), (a 5, .inl (cs.1, 5, .inl (F 2))), (a 6, .inl (cs.1, 5, .inl (F 3))), (a 7, .inl (cs.1, 5, .inl (F 4))), (a 8, .inl (cs.1, 5, .inl (F 5))), (a 9, .inl (cs.1, 5, .inl (F 6))),
  (a 10, .inr (3, [.ref (a 11), .ref (a 12), .ref (a 13), .int (S 8)])), (a 11, .inl (cs.1, 4, .inl (F 7))), (a 12, .inl (cs.1, 4, .inl (F 8))), (a 13, .inl (cs.1, 4, .inl (F 9))), (a 14, .inr (1, [.ref (a 15), .ref (a 16)])), (a 15, .inl (cs.1, 80, .inl (F 10))), (a 16, .inl (cs.1, 16, .inl (F 11)))]
abbrev txtW (cs : zCs) (a : Nat → Nat) (S : Nat → Int32) (F : Nat → Nat → Int32) : va_W := [(a 0, .inr (6, [.ref (a 1), .int (S 0), .ref (a 2), .int (S 1), .int (S 2), .int (S 3)])), (a 1, .inl (cs.1, 100, .inl (F 0))), (a 2, .inl (cs.1, 5, .inl (F 1)))]
abbrev refW (cs : zCs) (a : Nat → Nat) (S : Nat → Int32) (F : Nat → Nat → Int32) : va_W := [(a 0, .inr (8, [.ref (a 1), .ref (a 2), .ref (a 3), .int (S 0), .int (S 1), .int (S 2), .int (S 3), .ref (a 4), .ref (a 5), .int (S 4), .int (S 5), .ref (a 6), .int (S 6)])), (a 1, .inl (cs.1, 159, .inl (F 0))), (a 2, .inl (cs.1, 636, .inl (F 1))), (a 3, .inl (cs.1, 159, .inl (F 2))), (a 4, .inl (cs.1, 8, .inl (F 3))), (a 5, .inl (cs.1, 100, .inl (F 4))), (a 6, .inl (cs.1, 5, .inl (F 5)))]
section ZA
variable {p : Program} {l : Launch} {e : Env} {R : Room} {s : State} {m : MethodId} {args : Array Value} {below : List Frame} {meth : Method} {c : Code} {H : Heap} {locs : List Loc} {cells slots : Nat} {Q : State → Prop}
variable {pc : Nat} {ls : Array Slot} {A : Nat → Prop} {D : va_G} {cs : zCs} {ws : va_W} {cc : ByteArray} {rest : List Value} {a n : Nat} {f : Nat → Int32} {H0 : Heap}
theorem z_iald {k : Nat} (hx : p.tables.exec = Jvm.exec) (hb : c.code = cc) (hK : va_K D vwCl (zT cs) s) (hP : va_P D vwCl ws H) (q0 : Nat) (ha : ws[q0]? = some (a, .inl (cs.1, n, .inl f))) (hk : k < n) (hn : n < 2 ^ 31) (hdg : decode cc pc = .ok (.iaload, 1))
    (kk : W p l e R s m args below meth c H locs cells slots Q (F0 m (pc + 1) ls (.int (f k) :: rest))) : W p l e R s m args below meth c H locs cells slots Q (F0 m pc ls (.int (nI k) :: .ref a :: rest)) := by
  refine va_iald hx hb hK hP q0 0 ha rfl (vp_in_nI hk hn) hdg ?_
  rw [nI_clamp (by omega)]
  exact kk
theorem z_iast {k : Nat} {x : Int32} (hx : p.tables.exec = Jvm.exec) (hb : c.code = cc) (hK : va_K D vwCl (zT cs) s) (hP : va_P D vwCl ws H) (hD : va_D A ws) (hS : va_S A H0 H locs) (q0 : Nat) (ha : ws[q0]? = some (a, .inl (cs.1, n, .inl f))) (hk : k < n) (hn : n < 2 ^ 31) (hdg : decode cc pc = .ok (.iastore, 1))
    (kk : ∀ (H1 : Heap) (locs1 : List Loc), va_P D vwCl (ws.set q0 (a, .inl (cs.1, n, .inl (upd f k x)))) H1 → va_D A (ws.set q0 (a, .inl (cs.1, n, .inl (upd f k x)))) → va_S A H0 H1 locs1 → W p l e R s m args below meth c H1 locs1 cells slots Q (F0 m (pc + 1) ls rest)) : W p l e R s m args below meth c H locs cells slots Q (F0 m pc ls (.int x :: .int (nI k) :: .ref a :: rest)) := by
  refine va_iast hx hb hK hP hD hS q0 0 ha rfl (vp_in_nI hk hn) hdg (fun H1 locs1 h1 h2 h3 => ?_)
  rw [nI_clamp (by omega)] at h1 h2
  exact kk H1 locs1 h1 h2 h3
end ZA
