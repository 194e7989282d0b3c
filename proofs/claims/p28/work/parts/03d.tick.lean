def cylN (S : Nat → Int32) (F : Nat → Nat → Int32) (c : Nat) : Nat → Int32
  | 0 => F 1 c
  | 1 => F 2 c
  | 2 => F 3 c
  | 3 => F 4 c
  | 4 => jbc (F 0 c)
  | 5 => rbg S F c
  | 6 => F 5 c
  | _ => F 6 c
def grdN (F : Nat → Nat → Int32) (g : Nat) : Nat → Int32
  | 0 => F 7 g
  | 1 => F 8 g
  | 2 => F 9 g
  | _ => bI (gHolds F g)
abbrev aoC (S : Nat → Int32) (F : Nat → Nat → Int32) (c : Nat) : Prop := hasC F c (S 1) ∧ ¬ 100 ≤ F 1 c
abbrev aoAll (S : Nat → Int32) (F : Nat → Nat → Int32) : Prop := ∀ c, c < 5 → ¬ aoC S F c
abbrev saAll (S V : Nat → Int32) (F G : Nat → Nat → Int32) : Prop := (∀ c, c < 5 → F 1 c = G 1 c) ∧ S 1 = V 1 ∧ S 2 = V 2 ∧ S 5 = V 5
def tuR : Nat → Nat → zP → Int32
  | 0, _, _ => -1
  | k + 1, t, p => if tkR p = 3 then nI t else tuR k (t + 1) (tkP p)
def tuP : Nat → zP → zP
  | 0, p => p
  | k + 1, p => if tkR p = 3 then tkP p else tuP k (tkP p)
set_option maxHeartbeats 4000000 in
set_option maxRecDepth 100000 in
theorem c_X5_number (l : Launch) (D : va_G) (cs : zCs) (a : Nat → Nat) (S : Nat → Int32) (F : Nat → Nat → Int32) (k : Nat) (hk : k < 16) : zM l D cs yX5_number cX5_number 2 (some FieldType.int) 0 0 0 0 [.ref (a 0), .int (nI k)] (macW cs a S F) (some (.int (S k))) (macW cs a S F) := by
  refine zM.of (own := RX5) (by decide) (Nat.le_of_ble_eq_true rfl) rfl ?_
  intro pq eq s mq below meth cq A ls hx hb hr hml hown hts hlk hnm hE hK hA hP hD hS hl
  have hl : lv_has ls 2 [(0, .ref (a 0)), (1, .int (nI k))] := hl
  refine lv_iload_n hx hb dX5_number_0 rfl (lv_at hl 1 rfl) ?_
  rcases (show k = 0 ∨ k = 1 ∨ k = 2 ∨ k = 3 ∨ k = 4 ∨ k = 5 ∨ k = 6 ∨ k = 7 ∨ k = 8 ∨ k = 9 ∨ k = 10 ∨ k = 11 ∨ k = 12 ∨ k = 13 ∨ k = 14 ∨ k = 15 by omega) with rfl | rfl | rfl | rfl | rfl | rfl | rfl | rfl | rfl | rfl | rfl | rfl | rfl | rfl | rfl | rfl
  · skip
    refine lv_tableIn (tgt := 76) (off := 75) hx hb dX5_number_1 (by decide) (by decide) (by decide) (by decide) ?_
    refine lv_aload_n hx hb dX5_number_76 rfl (lv_at hl 0 rfl) ?_
    refine va_get (D := D) (ci := 5) (v := .int (S 0)) (C := RX5) (T := TX5) (N := 13) hx hb hts wsI_X5 hown hK hP 0 rfl rfl 0 (by decide) (hts _ w_fl_X5_9) (fun _ h9 => h9) rfl dX5_number_77 ?_
    exact z_iret hx hb hr hlk hK hP hD hS dX5_number_80 rfl rfl
  · skip
    refine lv_tableIn (tgt := 81) (off := 80) hx hb dX5_number_1 (by decide) (by decide) (by decide) (by decide) ?_
    refine lv_aload_n hx hb dX5_number_81 rfl (lv_at hl 0 rfl) ?_
    refine va_get (D := D) (ci := 5) (v := .int (S 1)) (C := RX5) (T := TX5) (N := 13) hx hb hts wsI_X5 hown hK hP 0 rfl rfl 1 (by decide) (hts _ w_fl_X5_53) (fun _ h9 => h9) rfl dX5_number_82 ?_
    exact z_iret hx hb hr hlk hK hP hD hS dX5_number_85 rfl rfl
  · skip
    refine lv_tableIn (tgt := 86) (off := 85) hx hb dX5_number_1 (by decide) (by decide) (by decide) (by decide) ?_
    refine lv_aload_n hx hb dX5_number_86 rfl (lv_at hl 0 rfl) ?_
    refine va_get (D := D) (ci := 5) (v := .int (S 2)) (C := RX5) (T := TX5) (N := 13) hx hb hts wsI_X5 hown hK hP 0 rfl rfl 2 (by decide) (hts _ w_fl_X5_56) (fun _ h9 => h9) rfl dX5_number_87 ?_
    exact z_iret hx hb hr hlk hK hP hD hS dX5_number_90 rfl rfl
  · skip
    refine lv_tableIn (tgt := 91) (off := 90) hx hb dX5_number_1 (by decide) (by decide) (by decide) (by decide) ?_
    refine lv_aload_n hx hb dX5_number_91 rfl (lv_at hl 0 rfl) ?_
    refine va_get (D := D) (ci := 5) (v := .int (S 3)) (C := RX5) (T := TX5) (N := 13) hx hb hts wsI_X5 hown hK hP 0 rfl rfl 3 (by decide) (hts _ w_fl_X5_15) (fun _ h9 => h9) rfl dX5_number_92 ?_
    exact z_iret hx hb hr hlk hK hP hD hS dX5_number_95 rfl rfl
  · skip
    refine lv_tableIn (tgt := 96) (off := 95) hx hb dX5_number_1 (by decide) (by decide) (by decide) (by decide) ?_
    refine lv_aload_n hx hb dX5_number_96 rfl (lv_at hl 0 rfl) ?_
    refine va_get (D := D) (ci := 5) (v := .int (S 4)) (C := RX5) (T := TX5) (N := 13) hx hb hts wsI_X5 hown hK hP 0 rfl rfl 4 (by decide) (hts _ w_fl_X5_18) (fun _ h9 => h9) rfl dX5_number_97 ?_
    exact z_iret hx hb hr hlk hK hP hD hS dX5_number_100 rfl rfl
  · skip
    refine lv_tableIn (tgt := 101) (off := 100) hx hb dX5_number_1 (by decide) (by decide) (by decide) (by decide) ?_
    refine lv_aload_n hx hb dX5_number_101 rfl (lv_at hl 0 rfl) ?_
    refine va_get (D := D) (ci := 5) (v := .ref (a 2)) (C := RX5) (T := TX5) (N := 13) hx hb hts wsI_X5 hown hK hP 0 rfl rfl 9 (by decide) (hts _ w_fl_X5_28) (fun _ h9 => h9) rfl dX5_number_102 ?_
    refine va_get (D := D) (ci := 0) (v := .int (S 5)) (C := RX0) (T := TX0) (N := 7) hx hb hts wsI_X0 hown hK hP 2 rfl rfl 0 (by decide) (hts _ w_fl_X5_129) (fun _ h9 => h9) rfl dX5_number_105 ?_
    exact z_iret hx hb hr hlk hK hP hD hS dX5_number_108 rfl rfl
  · skip
    refine lv_tableIn (tgt := 109) (off := 108) hx hb dX5_number_1 (by decide) (by decide) (by decide) (by decide) ?_
    refine lv_aload_n hx hb dX5_number_109 rfl (lv_at hl 0 rfl) ?_
    refine va_get (D := D) (ci := 5) (v := .ref (a 2)) (C := RX5) (T := TX5) (N := 13) hx hb hts wsI_X5 hown hK hP 0 rfl rfl 9 (by decide) (hts _ w_fl_X5_28) (fun _ h9 => h9) rfl dX5_number_110 ?_
    refine va_get (D := D) (ci := 0) (v := .int (S 6)) (C := RX0) (T := TX0) (N := 7) hx hb hts wsI_X0 hown hK hP 2 rfl rfl 1 (by decide) (hts _ w_fl_X5_190) (fun _ h9 => h9) rfl dX5_number_113 ?_
    exact z_iret hx hb hr hlk hK hP hD hS dX5_number_116 rfl rfl
  · skip
    refine lv_tableIn (tgt := 117) (off := 116) hx hb dX5_number_1 (by decide) (by decide) (by decide) (by decide) ?_
    refine lv_aload_n hx hb dX5_number_117 rfl (lv_at hl 0 rfl) ?_
    refine va_get (D := D) (ci := 5) (v := .ref (a 2)) (C := RX5) (T := TX5) (N := 13) hx hb hts wsI_X5 hown hK hP 0 rfl rfl 9 (by decide) (hts _ w_fl_X5_28) (fun _ h9 => h9) rfl dX5_number_118 ?_
    refine va_get (D := D) (ci := 0) (v := .int (S 7)) (C := RX0) (T := TX0) (N := 7) hx hb hts wsI_X0 hown hK hP 2 rfl rfl 2 (by decide) (hts _ w_fl_X5_193) (fun _ h9 => h9) rfl dX5_number_121 ?_
    exact z_iret hx hb hr hlk hK hP hD hS dX5_number_124 rfl rfl
  · skip
    refine lv_tableIn (tgt := 125) (off := 124) hx hb dX5_number_1 (by decide) (by decide) (by decide) (by decide) ?_
    refine lv_aload_n hx hb dX5_number_125 rfl (lv_at hl 0 rfl) ?_
    refine va_get (D := D) (ci := 5) (v := .ref (a 10)) (C := RX5) (T := TX5) (N := 13) hx hb hts wsI_X5 hown hK hP 0 rfl rfl 11 (by decide) (hts _ w_fl_X5_42) (fun _ h9 => h9) rfl dX5_number_126 ?_
    refine va_get (D := D) (ci := 3) (v := .int (S 8)) (C := RX3) (T := TX3) (N := 4) hx hb hts wsI_X3 hown hK hP 10 rfl rfl 3 (by decide) (hts _ w_fl_X5_171) (fun _ h9 => h9) rfl dX5_number_129 ?_
    exact z_iret hx hb hr hlk hK hP hD hS dX5_number_132 rfl rfl
  · skip
    refine lv_tableIn (tgt := 133) (off := 132) hx hb dX5_number_1 (by decide) (by decide) (by decide) (by decide) ?_
    refine lv_aload_n hx hb dX5_number_133 rfl (lv_at hl 0 rfl) ?_
    refine va_get (D := D) (ci := 5) (v := .int (S 9)) (C := RX5) (T := TX5) (N := 13) hx hb hts wsI_X5 hown hK hP 0 rfl rfl 5 (by decide) (hts _ w_fl_X5_59) (fun _ h9 => h9) rfl dX5_number_134 ?_
    exact z_iret hx hb hr hlk hK hP hD hS dX5_number_137 rfl rfl
  · skip
    refine lv_tableIn (tgt := 138) (off := 137) hx hb dX5_number_1 (by decide) (by decide) (by decide) (by decide) ?_
    refine lv_aload_n hx hb dX5_number_138 rfl (lv_at hl 0 rfl) ?_
    refine va_get (D := D) (ci := 5) (v := .int (S 10)) (C := RX5) (T := TX5) (N := 13) hx hb hts wsI_X5 hown hK hP 0 rfl rfl 6 (by decide) (hts _ w_fl_X5_62) (fun _ h9 => h9) rfl dX5_number_139 ?_
    exact z_iret hx hb hr hlk hK hP hD hS dX5_number_142 rfl rfl
  · skip
    refine lv_tableIn (tgt := 143) (off := 142) hx hb dX5_number_1 (by decide) (by decide) (by decide) (by decide) ?_
    refine lv_aload_n hx hb dX5_number_143 rfl (lv_at hl 0 rfl) ?_
    refine va_get (D := D) (ci := 5) (v := .int (S 11)) (C := RX5) (T := TX5) (N := 13) hx hb hts wsI_X5 hown hK hP 0 rfl rfl 7 (by decide) (hts _ w_fl_X5_65) (fun _ h9 => h9) rfl dX5_number_144 ?_
    exact z_iret hx hb hr hlk hK hP hD hS dX5_number_147 rfl rfl
  · skip
    refine lv_tableIn (tgt := 148) (off := 147) hx hb dX5_number_1 (by decide) (by decide) (by decide) (by decide) ?_
    refine lv_aload_n hx hb dX5_number_148 rfl (lv_at hl 0 rfl) ?_
    refine va_get (D := D) (ci := 5) (v := .ref (a 2)) (C := RX5) (T := TX5) (N := 13) hx hb hts wsI_X5 hown hK hP 0 rfl rfl 9 (by decide) (hts _ w_fl_X5_28) (fun _ h9 => h9) rfl dX5_number_149 ?_
    refine va_get (D := D) (ci := 0) (v := .int (S 12)) (C := RX0) (T := TX0) (N := 7) hx hb hts wsI_X0 hown hK hP 2 rfl rfl 3 (by decide) (hts _ w_fl_X5_196) (fun _ h9 => h9) rfl dX5_number_152 ?_
    exact z_iret hx hb hr hlk hK hP hD hS dX5_number_155 rfl rfl
  · skip
    refine lv_tableIn (tgt := 156) (off := 155) hx hb dX5_number_1 (by decide) (by decide) (by decide) (by decide) ?_
    refine lv_aload_n hx hb dX5_number_156 rfl (lv_at hl 0 rfl) ?_
    refine va_get (D := D) (ci := 5) (v := .ref (a 2)) (C := RX5) (T := TX5) (N := 13) hx hb hts wsI_X5 hown hK hP 0 rfl rfl 9 (by decide) (hts _ w_fl_X5_28) (fun _ h9 => h9) rfl dX5_number_157 ?_
    refine va_get (D := D) (ci := 0) (v := .int (S 13)) (C := RX0) (T := TX0) (N := 7) hx hb hts wsI_X0 hown hK hP 2 rfl rfl 4 (by decide) (hts _ w_fl_X5_199) (fun _ h9 => h9) rfl dX5_number_160 ?_
    exact z_iret hx hb hr hlk hK hP hD hS dX5_number_163 rfl rfl
  · skip
    refine lv_tableIn (tgt := 164) (off := 163) hx hb dX5_number_1 (by decide) (by decide) (by decide) (by decide) ?_
    refine lv_aload_n hx hb dX5_number_164 rfl (lv_at hl 0 rfl) ?_
    refine va_get (D := D) (ci := 5) (v := .ref (a 2)) (C := RX5) (T := TX5) (N := 13) hx hb hts wsI_X5 hown hK hP 0 rfl rfl 9 (by decide) (hts _ w_fl_X5_28) (fun _ h9 => h9) rfl dX5_number_165 ?_
    refine va_get (D := D) (ci := 0) (v := .int (S 14)) (C := RX0) (T := TX0) (N := 7) hx hb hts wsI_X0 hown hK hP 2 rfl rfl 5 (by decide) (hts _ w_fl_X5_202) (fun _ h9 => h9) rfl dX5_number_168 ?_
    exact z_iret hx hb hr hlk hK hP hD hS dX5_number_171 rfl rfl
  · skip
    refine lv_tableOut (tgt := 172) hx hb dX5_number_1 (by decide) (by decide) ?_
    refine lv_aload_n hx hb dX5_number_172 rfl (lv_at hl 0 rfl) ?_
    refine va_get (D := D) (ci := 5) (v := .ref (a 2)) (C := RX5) (T := TX5) (N := 13) hx hb hts wsI_X5 hown hK hP 0 rfl rfl 9 (by decide) (hts _ w_fl_X5_28) (fun _ h9 => h9) rfl dX5_number_173 ?_
    refine va_get (D := D) (ci := 0) (v := .int (S 15)) (C := RX0) (T := TX0) (N := 7) hx hb hts wsI_X0 hown hK hP 2 rfl rfl 6 (by decide) (hts _ w_fl_X5_204) (fun _ h9 => h9) rfl dX5_number_176 ?_
    exact z_iret hx hb hr hlk hK hP hD hS dX5_number_179 rfl rfl

set_option maxHeartbeats 4000000 in
set_option maxRecDepth 100000 in
theorem c_X5_cylinderNumber (l : Launch) (D : va_G) (cs : zCs) (a : Nat → Nat) (S : Nat → Int32) (F : Nat → Nat → Int32) (c k : Nat) (hc : c < 5) (hk : k < 8) : zM l D cs yX5_cylinderNumber cX5_cylinderNumber 3 (some FieldType.int) 2 45 0 0 [.ref (a 0), .int (nI c), .int (nI k)] (macW cs a S F) (some (.int (cylN S F c k))) (macW cs a S F) := by
  refine zM.of (own := RX5) (by decide) (Nat.le_of_ble_eq_true rfl) rfl ?_
  intro pq eq s mq below meth cq A ls hx hb hr hml hown hts hlk hnm hE hK hA hP hD hS hl
  have hl : lv_has ls 3 [(0, .ref (a 0)), (1, .int (nI c)), (2, .int (nI k))] := hl
  refine lv_iload_n hx hb dX5_cylinderNumber_0 rfl (lv_at hl 2 rfl) ?_
  rcases (show k = 0 ∨ k = 1 ∨ k = 2 ∨ k = 3 ∨ k = 4 ∨ k = 5 ∨ k = 6 ∨ k = 7 by omega) with rfl | rfl | rfl | rfl | rfl | rfl | rfl | rfl
  · skip
    refine lv_tableIn (tgt := 44) (off := 43) hx hb dX5_cylinderNumber_1 (by decide) (by decide) (by decide) (by decide) ?_
    refine lv_aload_n hx hb dX5_cylinderNumber_44 rfl (lv_at hl 0 rfl) ?_
    refine va_get (D := D) (ci := 5) (v := .ref (a 3)) (C := RX5) (T := TX5) (N := 13) hx hb hts wsI_X5 hown hK hP 0 rfl rfl 10 (by decide) (hts _ w_fl_X5_35) (fun _ h9 => h9) rfl dX5_cylinderNumber_45 ?_
    refine va_get (D := D) (ci := 2) (v := .ref (a 4)) (C := RX2) (T := TX2) (N := 6) hx hb hts wsI_X2 hown hK hP 3 rfl rfl 0 (by decide) (hts _ w_fl_X5_122) (fun _ h9 => h9) rfl dX5_cylinderNumber_48 ?_
    refine lv_iload_n hx hb dX5_cylinderNumber_51 rfl (lv_at hl 1 rfl) ?_
    refine z_iald (k := c) hx hb hK hP 4 rfl (by omega) (by first | decide | omega) dX5_cylinderNumber_52 ?_
    exact z_iret hx hb hr hlk hK hP hD hS dX5_cylinderNumber_53 rfl rfl
  · skip
    refine lv_tableIn (tgt := 54) (off := 53) hx hb dX5_cylinderNumber_1 (by decide) (by decide) (by decide) (by decide) ?_
    refine lv_aload_n hx hb dX5_cylinderNumber_54 rfl (lv_at hl 0 rfl) ?_
    refine va_get (D := D) (ci := 5) (v := .ref (a 3)) (C := RX5) (T := TX5) (N := 13) hx hb hts wsI_X5 hown hK hP 0 rfl rfl 10 (by decide) (hts _ w_fl_X5_35) (fun _ h9 => h9) rfl dX5_cylinderNumber_55 ?_
    refine va_get (D := D) (ci := 2) (v := .ref (a 5)) (C := RX2) (T := TX2) (N := 6) hx hb hts wsI_X2 hown hK hP 3 rfl rfl 1 (by decide) (hts _ w_fl_X5_147) (fun _ h9 => h9) rfl dX5_cylinderNumber_58 ?_
    refine lv_iload_n hx hb dX5_cylinderNumber_61 rfl (lv_at hl 1 rfl) ?_
    refine z_iald (k := c) hx hb hK hP 5 rfl (by omega) (by first | decide | omega) dX5_cylinderNumber_62 ?_
    exact z_iret hx hb hr hlk hK hP hD hS dX5_cylinderNumber_63 rfl rfl
  · skip
    refine lv_tableIn (tgt := 64) (off := 63) hx hb dX5_cylinderNumber_1 (by decide) (by decide) (by decide) (by decide) ?_
    refine lv_aload_n hx hb dX5_cylinderNumber_64 rfl (lv_at hl 0 rfl) ?_
    refine va_get (D := D) (ci := 5) (v := .ref (a 3)) (C := RX5) (T := TX5) (N := 13) hx hb hts wsI_X5 hown hK hP 0 rfl rfl 10 (by decide) (hts _ w_fl_X5_35) (fun _ h9 => h9) rfl dX5_cylinderNumber_65 ?_
    refine va_get (D := D) (ci := 2) (v := .ref (a 6)) (C := RX2) (T := TX2) (N := 6) hx hb hts wsI_X2 hown hK hP 3 rfl rfl 2 (by decide) (hts _ w_fl_X5_135) (fun _ h9 => h9) rfl dX5_cylinderNumber_68 ?_
    refine lv_iload_n hx hb dX5_cylinderNumber_71 rfl (lv_at hl 1 rfl) ?_
    refine z_iald (k := c) hx hb hK hP 6 rfl (by omega) (by first | decide | omega) dX5_cylinderNumber_72 ?_
    exact z_iret hx hb hr hlk hK hP hD hS dX5_cylinderNumber_73 rfl rfl
  · skip
    refine lv_tableIn (tgt := 74) (off := 73) hx hb dX5_cylinderNumber_1 (by decide) (by decide) (by decide) (by decide) ?_
    refine lv_aload_n hx hb dX5_cylinderNumber_74 rfl (lv_at hl 0 rfl) ?_
    refine va_get (D := D) (ci := 5) (v := .ref (a 3)) (C := RX5) (T := TX5) (N := 13) hx hb hts wsI_X5 hown hK hP 0 rfl rfl 10 (by decide) (hts _ w_fl_X5_35) (fun _ h9 => h9) rfl dX5_cylinderNumber_75 ?_
    refine va_get (D := D) (ci := 2) (v := .ref (a 7)) (C := RX2) (T := TX2) (N := 6) hx hb hts wsI_X2 hown hK hP 3 rfl rfl 3 (by decide) (hts _ w_fl_X5_165) (fun _ h9 => h9) rfl dX5_cylinderNumber_78 ?_
    refine lv_iload_n hx hb dX5_cylinderNumber_81 rfl (lv_at hl 1 rfl) ?_
    refine z_iald (k := c) hx hb hK hP 7 rfl (by omega) (by first | decide | omega) dX5_cylinderNumber_82 ?_
    exact z_iret hx hb hr hlk hK hP hD hS dX5_cylinderNumber_83 rfl rfl
  · skip
    refine lv_tableIn (tgt := 84) (off := 83) hx hb dX5_cylinderNumber_1 (by decide) (by decide) (by decide) (by decide) ?_
    refine lv_aload_n hx hb dX5_cylinderNumber_84 rfl (lv_at hl 0 rfl) ?_
    refine lv_iload_n hx hb dX5_cylinderNumber_85 rfl (lv_at hl 1 rfl) ?_
    refine z_callV (wn := (macW cs a S F)) ⟨hx, hb, hml, hown, hts⟩ zY_X5_camsOf w_im_yX5_camsOf w_se_yX5_camsOf w_ml_X5_206 [.int (nI c)] [] (c_X5_camsOf l D cs a S F c (by omega)) hE hK hA hP hD hS [0, 1, 2, 3, 4, 5, 6, 7, 8, 9, 10, 11, 12, 13, 14, 15, 16] rfl rfl rfl rfl 5 rfl rfl rfl rfl hl.1 (Nat.le_of_ble_eq_true rfl) ⟨Nat.le_of_ble_eq_true rfl, Nat.le_of_ble_eq_true rfl⟩ ⟨Nat.le_of_ble_eq_true rfl, Nat.le_of_ble_eq_true rfl⟩ dX5_cylinderNumber_86 (fun H locs hP hD hS => ?_)
    exact z_iret hx hb hr hlk hK hP hD hS dX5_cylinderNumber_89 rfl rfl
  · skip
    refine lv_tableIn (tgt := 90) (off := 89) hx hb dX5_cylinderNumber_1 (by decide) (by decide) (by decide) (by decide) ?_
    refine lv_aload_n hx hb dX5_cylinderNumber_90 rfl (lv_at hl 0 rfl) ?_
    refine lv_iload_n hx hb dX5_cylinderNumber_91 rfl (lv_at hl 1 rfl) ?_
    refine z_callV (wn := (macW cs a S F)) ⟨hx, hb, hml, hown, hts⟩ zY_X5_roomByGuards w_im_yX5_roomByGuards w_se_yX5_roomByGuards w_ml_X5_138 [.int (nI c)] [] (c_X5_roomByGuards l D cs a S F c (by omega)) hE hK hA hP hD hS [0, 1, 2, 3, 4, 5, 6, 7, 8, 9, 10, 11, 12, 13, 14, 15, 16] rfl rfl rfl rfl 5 rfl rfl rfl rfl hl.1 (Nat.le_of_ble_eq_true rfl) ⟨Nat.le_of_ble_eq_true rfl, Nat.le_of_ble_eq_true rfl⟩ ⟨Nat.le_of_ble_eq_true rfl, Nat.le_of_ble_eq_true rfl⟩ dX5_cylinderNumber_92 (fun H locs hP hD hS => ?_)
    exact z_iret hx hb hr hlk hK hP hD hS dX5_cylinderNumber_95 rfl rfl
  · skip
    refine lv_tableIn (tgt := 96) (off := 95) hx hb dX5_cylinderNumber_1 (by decide) (by decide) (by decide) (by decide) ?_
    refine lv_aload_n hx hb dX5_cylinderNumber_96 rfl (lv_at hl 0 rfl) ?_
    refine va_get (D := D) (ci := 5) (v := .ref (a 3)) (C := RX5) (T := TX5) (N := 13) hx hb hts wsI_X5 hown hK hP 0 rfl rfl 10 (by decide) (hts _ w_fl_X5_35) (fun _ h9 => h9) rfl dX5_cylinderNumber_97 ?_
    refine va_get (D := D) (ci := 2) (v := .ref (a 8)) (C := RX2) (T := TX2) (N := 6) hx hb hts wsI_X2 hown hK hP 3 rfl rfl 4 (by decide) (hts _ w_fl_X5_156) (fun _ h9 => h9) rfl dX5_cylinderNumber_100 ?_
    refine lv_iload_n hx hb dX5_cylinderNumber_103 rfl (lv_at hl 1 rfl) ?_
    refine z_iald (k := c) hx hb hK hP 8 rfl (by omega) (by first | decide | omega) dX5_cylinderNumber_104 ?_
    exact z_iret hx hb hr hlk hK hP hD hS dX5_cylinderNumber_105 rfl rfl
  · skip
    refine lv_tableOut (tgt := 106) hx hb dX5_cylinderNumber_1 (by decide) (by decide) ?_
    refine lv_aload_n hx hb dX5_cylinderNumber_106 rfl (lv_at hl 0 rfl) ?_
    refine va_get (D := D) (ci := 5) (v := .ref (a 3)) (C := RX5) (T := TX5) (N := 13) hx hb hts wsI_X5 hown hK hP 0 rfl rfl 10 (by decide) (hts _ w_fl_X5_35) (fun _ h9 => h9) rfl dX5_cylinderNumber_107 ?_
    refine va_get (D := D) (ci := 2) (v := .ref (a 9)) (C := RX2) (T := TX2) (N := 6) hx hb hts wsI_X2 hown hK hP 3 rfl rfl 5 (by decide) (hts _ w_fl_X5_162) (fun _ h9 => h9) rfl dX5_cylinderNumber_110 ?_
    refine lv_iload_n hx hb dX5_cylinderNumber_113 rfl (lv_at hl 1 rfl) ?_
    refine z_iald (k := c) hx hb hK hP 9 rfl (by omega) (by first | decide | omega) dX5_cylinderNumber_114 ?_
    exact z_iret hx hb hr hlk hK hP hD hS dX5_cylinderNumber_115 rfl rfl

set_option maxHeartbeats 4000000 in
set_option maxRecDepth 100000 in
theorem c_X5_tick (l : Launch) (D : va_G) (cs : zCs) (a : Nat → Nat) (S : Nat → Int32) (F : Nat → Nat → Int32)  : zM l D cs yX5_tick cX5_tick 3 (some FieldType.int) 3 80 0 0 [.ref (a 0)] (macW cs a S F) (some (.int (tkR (S, F)))) (macW cs a ((tkP (S, F)).1) ((tkP (S, F)).2)) := by
  refine zM.of (own := RX5) (by decide) (Nat.le_of_ble_eq_true rfl) rfl ?_
  intro pq eq s mq below meth cq A ls hx hb hr hml hown hts hlk hnm hE hK hA hP hD hS hl
  have hl : lv_has ls 3 [(0, .ref (a 0))] := hl
  refine lv_aload_n hx hb dX5_tick_0 rfl (lv_at hl 0 rfl) ?_
  refine lv_dup hx hb dX5_tick_1 rfl ?_
  refine va_get (D := D) (ci := 5) (v := .int (S 9)) (C := RX5) (T := TX5) (N := 13) hx hb hts wsI_X5 hown hK hP 0 rfl rfl 5 (by decide) (hts _ w_fl_X5_59) (fun _ h9 => h9) rfl dX5_tick_2 ?_
  refine lv_iconst (v := 1) hx hb dX5_tick_5 (by decide) ?_
  refine lv_iadd hx hb dX5_tick_6 ?_
  refine va_put (D := D) (ci := 5) (v := .int ((S 9) + 1)) (C := RX5) (T := TX5) (N := 13) hx hb hts wsI_X5 tyX5 tyX5_ok nmX5 hown hK hP hD hS 0 rfl rfl 5 (by decide) (hts _ w_fl_X5_59) (fun _ h9 => h9) rfl (tyX5_ok 5 (by decide)) rfl rfl (Nat.le_of_ble_eq_true rfl) dX5_tick_7 (fun H locs hP hD hS => ?_)
  have hP : va_P D vwCl (macW cs a (upd S 9 ((S 9) + 1)) F) H := hP
  have hD : va_D A (macW cs a (upd S 9 ((S 9) + 1)) F) := hD
  refine lv_aload_n hx hb dX5_tick_10 rfl (lv_at hl 0 rfl) ?_
  refine va_get (D := D) (ci := 5) (v := .ref (a 2)) (C := RX5) (T := TX5) (N := 13) hx hb hts wsI_X5 hown hK hP 0 rfl rfl 9 (by decide) (hts _ w_fl_X5_28) (fun _ h9 => h9) rfl dX5_tick_11 ?_
  refine z_callV (wn := (macW cs a (airCmp (upd S 9 ((S 9) + 1))) F)) ⟨hx, hb, hml, hown, hts⟩ zY_X0_compress w_im_yX0_compress w_se_yX0_compress w_ml_X5_102 [] [] (c_X0_compress l D cs a (upd S 9 ((S 9) + 1))) hE hK hA hP hD hS [2] rfl rfl rfl rfl 0 rfl rfl rfl rfl hl.1 (Nat.le_of_ble_eq_true rfl) ⟨Nat.le_of_ble_eq_true rfl, Nat.le_of_ble_eq_true rfl⟩ ⟨Nat.le_of_ble_eq_true rfl, Nat.le_of_ble_eq_true rfl⟩ dX5_tick_14 (fun H locs hP hD hS => ?_)
  refine lv_aload_n hx hb dX5_tick_17 rfl (lv_at hl 0 rfl) ?_
  refine z_callV (wn := (macW cs a (mdS (airCmp (upd S 9 ((S 9) + 1)))) (mdF (airCmp (upd S 9 ((S 9) + 1))) F))) ⟨hx, hb, hml, hown, hts⟩ zY_X5_moveDrum w_im_yX5_moveDrum w_se_yX5_moveDrum w_ml_X5_105 [] [] (c_X5_moveDrum l D cs a (airCmp (upd S 9 ((S 9) + 1))) F) hE hK hA hP hD hS [0, 1, 2, 3, 4, 5, 6, 7, 8, 9, 10, 11, 12, 13, 14, 15, 16] rfl rfl rfl rfl 5 rfl rfl rfl rfl hl.1 (Nat.le_of_ble_eq_true rfl) ⟨Nat.le_of_ble_eq_true rfl, Nat.le_of_ble_eq_true rfl⟩ ⟨Nat.le_of_ble_eq_true rfl, Nat.le_of_ble_eq_true rfl⟩ dX5_tick_18 (fun H locs hP hD hS => ?_)
  refine z_top (y := tkR (S, F)) rfl ?_
  refine lv_istore_n (lv' := [(1, .int (tkR (S, F))), (0, .ref (a 0))]) hx hb dX5_tick_21 rfl hl (by decide) rfl (fun ls hl => ?_)
  refine lv_iconst (v := 0) hx hb dX5_tick_22 (by decide) ?_
  refine lv_istore_n (lv' := [(2, .int 0), (1, .int (tkR (S, F))), (0, .ref (a 0))]) hx hb dX5_tick_23 rfl hl (by decide) rfl (fun ls hl => ?_)
  have lp24 : ∀ (k : Nat) (i : Nat), (i ≤ 5) → (6 ≤ i + k) → ∀ (H : Heap) (locs : List Loc) (ls : Array Slot), va_P D vwCl (macW cs a ((mvN (mdP (tk0 (S, F))) i).1) ((mvN (mdP (tk0 (S, F))) i).2)) H → va_D A (macW cs a ((mvN (mdP (tk0 (S, F))) i).1) ((mvN (mdP (tk0 (S, F))) i).2)) → va_S A s.heap H locs → lv_has ls 3 [(0, .ref (a 0)), (1, .int (tkR (S, F))), (2, .int (nI i))] → W pq l eq ({ frames := 3, cells := 0, slots := 0, locals := 80 } : Room) s mq ([.ref (a 0)] : List Value).toArray below meth cq H locs 0 0 (MQ below (zQ D cs (some (.int (tkR (S, F)))) (macW cs a ((tkP (S, F)).1) ((tkP (S, F)).2)) A) ([.ref (a 0)] : List Value).toArray s 0 0 A) (F0 mq 24 ls []) := by
    intro k
    induction k with
    | zero =>
      intro i h1 h2 H locs ls hP hD hS hl
      omega
    | succ k ih =>
      intro i h1 h2 H locs ls hP hD hS hl
      refine lv_iload_n hx hb dX5_tick_24 rfl (lv_at hl 2 rfl) ?_
      refine lv_iconst (v := 5) hx hb dX5_tick_25 (by decide) ?_
      refine lv_icmp_ge (tgt := 60) hx hb dX5_tick_26 (by decide) (fun c_1 => ?_) (fun c_1 => ?_)
      · skip
        have h5 := z_le5 h1 c_1
        subst h5
        refine lv_iconst (v := 0) hx hb dX5_tick_60 (by decide) ?_
        refine lv_istore_n (lv' := [(2, .int 0), (0, .ref (a 0)), (1, .int (tkR (S, F)))]) hx hb dX5_tick_61 rfl hl (by decide) rfl (fun ls hl => ?_)
        have lp62 : ∀ (k : Nat) (j : Nat), (j ≤ 5) → (6 ≤ j + k) → ∀ (H : Heap) (locs : List Loc) (ls : Array Slot), va_P D vwCl (macW cs a ((lkN (mvN (mdP (tk0 (S, F))) 5) j).1) ((lkN (mvN (mdP (tk0 (S, F))) 5) j).2)) H → va_D A (macW cs a ((lkN (mvN (mdP (tk0 (S, F))) 5) j).1) ((lkN (mvN (mdP (tk0 (S, F))) 5) j).2)) → va_S A s.heap H locs → lv_has ls 3 [(0, .ref (a 0)), (1, .int (tkR (S, F))), (2, .int (nI j))] → W pq l eq ({ frames := 3, cells := 0, slots := 0, locals := 80 } : Room) s mq ([.ref (a 0)] : List Value).toArray below meth cq H locs 0 0 (MQ below (zQ D cs (some (.int (tkR (S, F)))) (macW cs a ((tkP (S, F)).1) ((tkP (S, F)).2)) A) ([.ref (a 0)] : List Value).toArray s 0 0 A) (F0 mq 62 ls []) := by
          intro k
          induction k with
          | zero =>
            intro j h1 h2 H locs ls hP hD hS hl
            omega
          | succ k ih =>
            intro j h1 h2 H locs ls hP hD hS hl
            refine lv_iload_n hx hb dX5_tick_62 rfl (lv_at hl 2 rfl) ?_
            refine lv_iconst (v := 5) hx hb dX5_tick_63 (by decide) ?_
            refine lv_icmp_ge (tgt := 78) hx hb dX5_tick_64 (by decide) (fun c_2 => ?_) (fun c_2 => ?_)
            · skip
              have h5 := z_le5 h1 c_2
              subst h5
              refine lv_iconst (v := 0) hx hb dX5_tick_78 (by decide) ?_
              refine lv_istore_n (lv' := [(2, .int 0), (0, .ref (a 0)), (1, .int (tkR (S, F)))]) hx hb dX5_tick_79 rfl hl (by decide) rfl (fun ls hl => ?_)
              have lp80 : ∀ (k : Nat) (h : Nat), (h ≤ 5) → (6 ≤ h + k) → ∀ (H : Heap) (locs : List Loc) (ls : Array Slot), va_P D vwCl (macW cs a ((ntN (lkN (mvN (mdP (tk0 (S, F))) 5) 5) h).1) ((ntN (lkN (mvN (mdP (tk0 (S, F))) 5) 5) h).2)) H → va_D A (macW cs a ((ntN (lkN (mvN (mdP (tk0 (S, F))) 5) 5) h).1) ((ntN (lkN (mvN (mdP (tk0 (S, F))) 5) 5) h).2)) → va_S A s.heap H locs → lv_has ls 3 [(0, .ref (a 0)), (1, .int (tkR (S, F))), (2, .int (nI h))] → W pq l eq ({ frames := 3, cells := 0, slots := 0, locals := 80 } : Room) s mq ([.ref (a 0)] : List Value).toArray below meth cq H locs 0 0 (MQ below (zQ D cs (some (.int (tkR (S, F)))) (macW cs a ((tkP (S, F)).1) ((tkP (S, F)).2)) A) ([.ref (a 0)] : List Value).toArray s 0 0 A) (F0 mq 80 ls []) := by
                intro k
                induction k with
                | zero =>
                  intro h h1 h2 H locs ls hP hD hS hl
                  omega
                | succ k ih =>
                  intro h h1 h2 H locs ls hP hD hS hl
                  refine lv_iload_n hx hb dX5_tick_80 rfl (lv_at hl 2 rfl) ?_
                  refine lv_iconst (v := 5) hx hb dX5_tick_81 (by decide) ?_
                  refine lv_icmp_ge (tgt := 112) hx hb dX5_tick_82 (by decide) (fun c_3 => ?_) (fun c_3 => ?_)
                  · skip
                    have h5 := z_le5 h1 c_3
                    subst h5
                    refine lv_iload_n hx hb dX5_tick_112 rfl (lv_at hl 1 rfl) ?_
                    exact z_iret hx hb hr hlk hK hP hD hS dX5_tick_113 rfl rfl
                  · skip
                    have h4 : h < 5 := z_ge5 h1 c_3
                    refine lv_aload_n hx hb dX5_tick_85 rfl (lv_at hl 0 rfl) ?_
                    refine va_get (D := D) (ci := 5) (v := .ref (a 14)) (C := RX5) (T := TX5) (N := 13) hx hb hts wsI_X5 hown hK hP 0 rfl rfl 12 (by decide) (hts _ w_fl_X5_49) (fun _ h9 => h9) rfl dX5_tick_86 ?_
                    refine lv_iload_n hx hb dX5_tick_89 rfl (lv_at hl 2 rfl) ?_
                    refine lv_aload_n hx hb dX5_tick_90 rfl (lv_at hl 0 rfl) ?_
                    refine va_get (D := D) (ci := 5) (v := .int (((ntN (lkN (mvN (mdP (tk0 (S, F))) 5) 5) h).1) 1)) (C := RX5) (T := TX5) (N := 13) hx hb hts wsI_X5 hown hK hP 0 rfl rfl 1 (by decide) (hts _ w_fl_X5_53) (fun _ h9 => h9) rfl dX5_tick_91 ?_
                    refine lv_aload_n hx hb dX5_tick_94 rfl (lv_at hl 0 rfl) ?_
                    refine va_get (D := D) (ci := 5) (v := .ref (a 3)) (C := RX5) (T := TX5) (N := 13) hx hb hts wsI_X5 hown hK hP 0 rfl rfl 10 (by decide) (hts _ w_fl_X5_35) (fun _ h9 => h9) rfl dX5_tick_95 ?_
                    refine va_get (D := D) (ci := 2) (v := .ref (a 4)) (C := RX2) (T := TX2) (N := 6) hx hb hts wsI_X2 hown hK hP 3 rfl rfl 0 (by decide) (hts _ w_fl_X5_122) (fun _ h9 => h9) rfl dX5_tick_98 ?_
                    refine lv_iload_n hx hb dX5_tick_101 rfl (lv_at hl 2 rfl) ?_
                    refine z_iald (k := h) hx hb hK hP 4 rfl (by omega) (by first | decide | omega) dX5_tick_102 ?_
                    refine z_callV (wn := (macW cs a ((ntN (lkN (mvN (mdP (tk0 (S, F))) 5) 5) h).1) (zU ((ntN (lkN (mvN (mdP (tk0 (S, F))) 5) 5) h).2) 10 (chtNoteR (((ntN (lkN (mvN (mdP (tk0 (S, F))) 5) 5) h).2) 10) (nI h) (((ntN (lkN (mvN (mdP (tk0 (S, F))) 5) 5) h).1) 1) ((((ntN (lkN (mvN (mdP (tk0 (S, F))) 5) 5) h).2) 1) h))))) ⟨hx, hb, hml, hown, hts⟩ zY_X1_note w_im_yX1_note w_se_yX1_note w_ml_X5_125 [.int (nI h), .int (((ntN (lkN (mvN (mdP (tk0 (S, F))) 5) 5) h).1) 1), .int ((((ntN (lkN (mvN (mdP (tk0 (S, F))) 5) 5) h).2) 1) h)] [] (c_X1_note l D cs a ((ntN (lkN (mvN (mdP (tk0 (S, F))) 5) 5) h).2) (nI h) (((ntN (lkN (mvN (mdP (tk0 (S, F))) 5) 5) h).1) 1) ((((ntN (lkN (mvN (mdP (tk0 (S, F))) 5) 5) h).2) 1) h)) hE hK hA hP hD hS [14, 15, 16] rfl rfl rfl rfl 1 rfl rfl rfl rfl hl.1 (Nat.le_of_ble_eq_true rfl) ⟨Nat.le_of_ble_eq_true rfl, Nat.le_of_ble_eq_true rfl⟩ ⟨Nat.le_of_ble_eq_true rfl, Nat.le_of_ble_eq_true rfl⟩ dX5_tick_103 (fun H locs hP hD hS => ?_)
                    refine lv_iinc (v := nI (h + 1)) (lv' := [(2, .int (nI (h + 1))), (0, .ref (a 0)), (1, .int (tkR (S, F)))]) hx hb dX5_tick_106 hl (k := 2) rfl (show nI h + Int32.ofInt 1 = nI (h + 1) from nI_add h 1) (by decide) rfl (fun ls hl => ?_)
                    refine lv_goto (tgt := 80) hx hb dX5_tick_109 (by decide) ?_
                    exact ih (h + 1) (by omega) (by omega) _ _ _ hP hD hS (lv_sub hl [1, 2, 0] rfl)
              exact lp80 6 0 (by decide) (by decide) _ _ _ hP hD hS (lv_sub hl [1, 2, 0] rfl)
            · skip
              have h4 : j < 5 := z_ge5 h1 c_2
              refine lv_aload_n hx hb dX5_tick_67 rfl (lv_at hl 0 rfl) ?_
              refine lv_iload_n hx hb dX5_tick_68 rfl (lv_at hl 2 rfl) ?_
              refine z_callV (wn := (macW cs a (lkS ((lkN (mvN (mdP (tk0 (S, F))) 5) j).1) ((lkN (mvN (mdP (tk0 (S, F))) 5) j).2) j) (lkF ((lkN (mvN (mdP (tk0 (S, F))) 5) j).1) ((lkN (mvN (mdP (tk0 (S, F))) 5) j).2) j))) ⟨hx, hb, hml, hown, hts⟩ zY_X5_leakAt w_im_yX5_leakAt w_se_yX5_leakAt w_ml_X5_119 [.int (nI j)] [] (c_X5_leakAt l D cs a ((lkN (mvN (mdP (tk0 (S, F))) 5) j).1) ((lkN (mvN (mdP (tk0 (S, F))) 5) j).2) j (by omega)) hE hK hA hP hD hS [0, 1, 2, 3, 4, 5, 6, 7, 8, 9, 10, 11, 12, 13, 14, 15, 16] rfl rfl rfl rfl 5 rfl rfl rfl rfl hl.1 (Nat.le_of_ble_eq_true rfl) ⟨Nat.le_of_ble_eq_true rfl, Nat.le_of_ble_eq_true rfl⟩ ⟨Nat.le_of_ble_eq_true rfl, Nat.le_of_ble_eq_true rfl⟩ dX5_tick_69 (fun H locs hP hD hS => ?_)
              refine lv_iinc (v := nI (j + 1)) (lv' := [(2, .int (nI (j + 1))), (0, .ref (a 0)), (1, .int (tkR (S, F)))]) hx hb dX5_tick_72 hl (k := 2) rfl (show nI j + Int32.ofInt 1 = nI (j + 1) from nI_add j 1) (by decide) rfl (fun ls hl => ?_)
              refine lv_goto (tgt := 62) hx hb dX5_tick_75 (by decide) ?_
              exact ih (j + 1) (by omega) (by omega) _ _ _ hP hD hS (lv_sub hl [1, 2, 0] rfl)
        exact lp62 6 0 (by decide) (by decide) _ _ _ hP hD hS (lv_sub hl [1, 2, 0] rfl)
      · skip
        have h4 : i < 5 := z_ge5 h1 c_1
        refine lv_aload_n hx hb dX5_tick_29 rfl (lv_at hl 0 rfl) ?_
        refine lv_iload_n hx hb dX5_tick_30 rfl (lv_at hl 2 rfl) ?_
        refine lv_aload_n hx hb dX5_tick_31 rfl (lv_at hl 0 rfl) ?_
        refine va_get (D := D) (ci := 5) (v := .int (((mvN (mdP (tk0 (S, F))) i).1) 1)) (C := RX5) (T := TX5) (N := 13) hx hb hts wsI_X5 hown hK hP 0 rfl rfl 1 (by decide) (hts _ w_fl_X5_53) (fun _ h9 => h9) rfl dX5_tick_32 ?_
        refine z_callV (wn := (macW cs a ((mvN (mdP (tk0 (S, F))) i).1) ((mvN (mdP (tk0 (S, F))) i).2))) ⟨hx, hb, hml, hown, hts⟩ zY_X5_hasCam w_im_yX5_hasCam w_se_yX5_hasCam w_ml_X5_109 [.int (nI i), .int (((mvN (mdP (tk0 (S, F))) i).1) 1)] [] (c_X5_hasCam l D cs a ((mvN (mdP (tk0 (S, F))) i).1) ((mvN (mdP (tk0 (S, F))) i).2) i (((mvN (mdP (tk0 (S, F))) i).1) 1) (by omega)) hE hK hA hP hD hS [0, 1, 2, 3, 4, 5, 6, 7, 8, 9, 10, 11, 12, 13, 14, 15, 16] rfl rfl rfl rfl 5 rfl rfl rfl rfl hl.1 (Nat.le_of_ble_eq_true rfl) ⟨Nat.le_of_ble_eq_true rfl, Nat.le_of_ble_eq_true rfl⟩ ⟨Nat.le_of_ble_eq_true rfl, Nat.le_of_ble_eq_true rfl⟩ dX5_tick_35 (fun H locs hP hD hS => ?_)
        refine lv_if_eq (tgt := 49) hx hb dX5_tick_38 (by decide) (fun c_4 => ?_) (fun c_4 => ?_)
        · skip
          have c_4 := bI_0.mp c_4
          refine lv_aload_n hx hb dX5_tick_49 rfl (lv_at hl 0 rfl) ?_
          refine lv_iload_n hx hb dX5_tick_50 rfl (lv_at hl 2 rfl) ?_
          refine z_callV (wn := (macW cs a ((mvN (mdP (tk0 (S, F))) i).1) (miF ((mvN (mdP (tk0 (S, F))) i).2) i))) ⟨hx, hb, hml, hown, hts⟩ zY_X5_moveIn w_im_yX5_moveIn w_se_yX5_moveIn w_ml_X5_116 [.int (nI i)] [] (c_X5_moveIn l D cs a ((mvN (mdP (tk0 (S, F))) i).1) ((mvN (mdP (tk0 (S, F))) i).2) i (by omega)) hE hK hA hP hD hS [0, 1, 2, 3, 4, 5, 6, 7, 8, 9, 10, 11, 12, 13, 14, 15, 16] rfl rfl rfl rfl 5 rfl rfl rfl rfl hl.1 (Nat.le_of_ble_eq_true rfl) ⟨Nat.le_of_ble_eq_true rfl, Nat.le_of_ble_eq_true rfl⟩ ⟨Nat.le_of_ble_eq_true rfl, Nat.le_of_ble_eq_true rfl⟩ dX5_tick_51 (fun H locs hP hD hS => ?_)
          refine lv_iinc (v := nI (i + 1)) (lv' := [(2, .int (nI (i + 1))), (0, .ref (a 0)), (1, .int (tkR (S, F)))]) hx hb dX5_tick_54 hl (k := 2) rfl (show nI i + Int32.ofInt 1 = nI (i + 1) from nI_add i 1) (by decide) rfl (fun ls hl => ?_)
          refine lv_goto (tgt := 24) hx hb dX5_tick_57 (by decide) ?_
          have e : mvN (mdP (tk0 (S, F))) (i + 1) = ((mvN (mdP (tk0 (S, F))) i).1, miF (mvN (mdP (tk0 (S, F))) i).2 i) := if_neg c_4
          have e1 := congrArg Prod.fst e
          have e2 := congrArg Prod.snd e
          dsimp only at e1 e2
          rw [← e1, ← e2] at hP hD
          exact ih (i + 1) (by omega) (by omega) _ _ _ hP hD hS (lv_sub hl [1, 2, 0] rfl)
        · skip
          have c_4 := bI_n0 c_4
          refine lv_aload_n hx hb dX5_tick_41 rfl (lv_at hl 0 rfl) ?_
          refine lv_iload_n hx hb dX5_tick_42 rfl (lv_at hl 2 rfl) ?_
          refine z_callV (wn := (macW cs a (moS ((mvN (mdP (tk0 (S, F))) i).1) ((mvN (mdP (tk0 (S, F))) i).2) i) (moF ((mvN (mdP (tk0 (S, F))) i).1) ((mvN (mdP (tk0 (S, F))) i).2) i))) ⟨hx, hb, hml, hown, hts⟩ zY_X5_moveOut w_im_yX5_moveOut w_se_yX5_moveOut w_ml_X5_113 [.int (nI i)] [] (c_X5_moveOut l D cs a ((mvN (mdP (tk0 (S, F))) i).1) ((mvN (mdP (tk0 (S, F))) i).2) i (by omega)) hE hK hA hP hD hS [0, 1, 2, 3, 4, 5, 6, 7, 8, 9, 10, 11, 12, 13, 14, 15, 16] rfl rfl rfl rfl 5 rfl rfl rfl rfl hl.1 (Nat.le_of_ble_eq_true rfl) ⟨Nat.le_of_ble_eq_true rfl, Nat.le_of_ble_eq_true rfl⟩ ⟨Nat.le_of_ble_eq_true rfl, Nat.le_of_ble_eq_true rfl⟩ dX5_tick_43 (fun H locs hP hD hS => ?_)
          refine lv_goto (tgt := 54) hx hb dX5_tick_46 (by decide) ?_
          refine lv_iinc (v := nI (i + 1)) (lv' := [(2, .int (nI (i + 1))), (0, .ref (a 0)), (1, .int (tkR (S, F)))]) hx hb dX5_tick_54 hl (k := 2) rfl (show nI i + Int32.ofInt 1 = nI (i + 1) from nI_add i 1) (by decide) rfl (fun ls hl => ?_)
          refine lv_goto (tgt := 24) hx hb dX5_tick_57 (by decide) ?_
          have e : mvN (mdP (tk0 (S, F))) (i + 1) = (moS (mvN (mdP (tk0 (S, F))) i).1 (mvN (mdP (tk0 (S, F))) i).2 i, moF (mvN (mdP (tk0 (S, F))) i).1 (mvN (mdP (tk0 (S, F))) i).2 i) := if_pos c_4
          have e1 := congrArg Prod.fst e
          have e2 := congrArg Prod.snd e
          dsimp only at e1 e2
          rw [← e1, ← e2] at hP hD
          exact ih (i + 1) (by omega) (by omega) _ _ _ hP hD hS (lv_sub hl [1, 2, 0] rfl)
  exact lp24 6 0 (by decide) (by decide) _ _ _ hP hD hS (lv_sub hl [2, 1, 0] rfl)

set_option maxHeartbeats 4000000 in
set_option maxRecDepth 100000 in
theorem c_X5_tickUntilCycleEnds (l : Launch) (D : va_G) (cs : zCs) (a : Nat → Nat) (S : Nat → Int32) (F : Nat → Nat → Int32) (M : Nat) (hM : M < 2147483647) : zM l D cs yX5_tickUntilCycleEnds cX5_tickUntilCycleEnds 3 (some FieldType.int) 4 102 0 0 [.ref (a 0), .int (nI M)] (macW cs a S F) (some (.int (tuR M 1 (S, F)))) (macW cs a ((tuP M (S, F)).1) ((tuP M (S, F)).2)) := by
  refine zM.of (own := RX5) (by decide) (Nat.le_of_ble_eq_true rfl) rfl ?_
  intro pq eq s mq below meth cq A ls hx hb hr hml hown hts hlk hnm hE hK hA hP hD hS hl
  have hl : lv_has ls 3 [(0, .ref (a 0)), (1, .int (nI M))] := hl
  refine lv_iconst (v := 1) hx hb dX5_tickUntilCycleEnds_0 (by decide) ?_
  refine lv_istore_n (lv' := [(2, .int 1), (0, .ref (a 0)), (1, .int (nI M))]) hx hb dX5_tickUntilCycleEnds_1 rfl hl (by decide) rfl (fun ls hl => ?_)
  have lp2 : ∀ (k : Nat) (t : Nat) (q : zP), (t + k = M + 1) → (tuR k t q = tuR M 1 (S, F)) → (tuP k q = tuP M (S, F)) → ∀ (H : Heap) (locs : List Loc) (ls : Array Slot), va_P D vwCl (macW cs a q.1 q.2) H → va_D A (macW cs a q.1 q.2) → va_S A s.heap H locs → lv_has ls 3 [(0, .ref (a 0)), (1, .int (nI M)), (2, .int (nI t))] → W pq l eq ({ frames := 4, cells := 0, slots := 0, locals := 102 } : Room) s mq ([.ref (a 0), .int (nI M)] : List Value).toArray below meth cq H locs 0 0 (MQ below (zQ D cs (some (.int (tuR M 1 (S, F)))) (macW cs a ((tuP M (S, F)).1) ((tuP M (S, F)).2)) A) ([.ref (a 0), .int (nI M)] : List Value).toArray s 0 0 A) (F0 mq 2 ls []) := by
    intro k
    induction k with
    | zero =>
      intro t q h1 h2 h3 H locs ls hP hD hS hl
      refine lv_iload_n hx hb dX5_tickUntilCycleEnds_2 rfl (lv_at hl 2 rfl) ?_
      refine lv_iload_n hx hb dX5_tickUntilCycleEnds_3 rfl (lv_at hl 1 rfl) ?_
      refine lv_icmp_gt (tgt := 23) hx hb dX5_tickUntilCycleEnds_4 (by decide) (fun c_1 => ?_) (fun c_1 => ?_)
      · skip
        refine lv_iconst (v := (-1)) hx hb dX5_tickUntilCycleEnds_23 (by decide) ?_
        exact z_iret hx hb hr hlk hK hP hD hS dX5_tickUntilCycleEnds_24 (by rw [← h2]; rfl) (by rw [← h3]; rfl)
      · skip
        exact absurd ((nI_ltI (by omega) (by omega)).mpr (by omega)) c_1
    | succ k ih =>
      intro t q h1 h2 h3 H locs ls hP hD hS hl
      refine lv_iload_n hx hb dX5_tickUntilCycleEnds_2 rfl (lv_at hl 2 rfl) ?_
      refine lv_iload_n hx hb dX5_tickUntilCycleEnds_3 rfl (lv_at hl 1 rfl) ?_
      refine lv_icmp_gt (tgt := 23) hx hb dX5_tickUntilCycleEnds_4 (by decide) (fun c_2 => ?_) (fun c_2 => ?_)
      · skip
        exact absurd ((nI_ltI (by omega) (by omega)).mp c_2) (by omega)
      · skip
        refine lv_aload_n hx hb dX5_tickUntilCycleEnds_7 rfl (lv_at hl 0 rfl) ?_
        refine z_callV (wn := (macW cs a ((tkP (q.1, q.2)).1) ((tkP (q.1, q.2)).2))) ⟨hx, hb, hml, hown, hts⟩ zY_X5_tick w_im_yX5_tick w_se_yX5_tick w_ml_X5_187 [] [] (c_X5_tick l D cs a q.1 q.2) hE hK hA hP hD hS [0, 1, 2, 3, 4, 5, 6, 7, 8, 9, 10, 11, 12, 13, 14, 15, 16] rfl rfl rfl rfl 5 rfl rfl rfl rfl hl.1 (Nat.le_of_ble_eq_true rfl) ⟨Nat.le_of_ble_eq_true rfl, Nat.le_of_ble_eq_true rfl⟩ ⟨Nat.le_of_ble_eq_true rfl, Nat.le_of_ble_eq_true rfl⟩ dX5_tickUntilCycleEnds_8 (fun H locs hP hD hS => ?_)
        refine lv_iconst (v := 3) hx hb dX5_tickUntilCycleEnds_11 (by decide) ?_
        refine lv_icmp_ne (tgt := 17) hx hb dX5_tickUntilCycleEnds_12 (by decide) (fun c_3 => ?_) (fun c_3 => ?_)
        · skip
          refine lv_iinc (v := nI (t + 1)) (lv' := [(2, .int (nI (t + 1))), (0, .ref (a 0)), (1, .int (nI M))]) hx hb dX5_tickUntilCycleEnds_17 hl (k := 2) rfl (show nI t + Int32.ofInt 1 = nI (t + 1) from nI_add t 1) (by decide) rfl (fun ls hl => ?_)
          refine lv_goto (tgt := 2) hx hb dX5_tickUntilCycleEnds_20 (by decide) ?_
          exact ih (t + 1) (tkP q) (by omega) (by rw [← h2]; exact (if_neg c_3).symm) (by rw [← h3]; exact (if_neg c_3).symm) _ _ _ hP hD hS (lv_sub hl [1, 2, 0] rfl)
        · skip
          refine lv_iload_n hx hb dX5_tickUntilCycleEnds_15 rfl (lv_at hl 2 rfl) ?_
          exact z_iret hx hb hr hlk hK hP hD hS dX5_tickUntilCycleEnds_16 (by rw [← h2]; exact congrArg (fun z => some (Value.int z)) (if_pos c_3).symm) (by rw [← h3, show tuP (k + 1) q = tkP q from if_pos c_3])
  exact lp2 M 1 (S, F) (by omega) rfl rfl _ _ _ hP hD hS (lv_sub hl [1, 2, 0] rfl)

set_option maxHeartbeats 4000000 in
set_option maxRecDepth 100000 in
theorem c_X5_copyFrom (l : Launch) (D : va_G) (cs : zCs) (a b : Nat → Nat) (S V : Nat → Int32) (F G : Nat → Nat → Int32)  : zM l D cs yX5_copyFrom cX5_copyFrom 2 none 3 111 0 0 [.ref (a 0), .ref (b 0)] ((macW cs a S F) ++ (macW cs b V G)) none ((macW cs a V G) ++ (macW cs b V G)) := by
  refine zM.of (own := RX5) (by decide) (Nat.le_of_ble_eq_true rfl) rfl ?_
  intro pq eq s mq below meth cq A ls hx hb hr hml hown hts hlk hnm hE hK hA hP hD hS hl
  have hl : lv_has ls 2 [(0, .ref (a 0)), (1, .ref (b 0))] := hl
  refine lv_aload_n hx hb dX5_copyFrom_0 rfl (lv_at hl 0 rfl) ?_
  refine lv_aload_n hx hb dX5_copyFrom_1 rfl (lv_at hl 1 rfl) ?_
  refine va_get (D := D) (ci := 5) (v := .int (V 0)) (C := RX5) (T := TX5) (N := 13) hx hb hts wsI_X5 hown hK hP 17 rfl rfl 0 (by decide) (hts _ w_fl_X5_9) (fun _ h9 => h9) rfl dX5_copyFrom_2 ?_
  refine va_put (D := D) (ci := 5) (v := .int (V 0)) (C := RX5) (T := TX5) (N := 13) hx hb hts wsI_X5 tyX5 tyX5_ok nmX5 hown hK hP hD hS 0 rfl rfl 0 (by decide) (hts _ w_fl_X5_9) (fun _ h9 => h9) rfl (tyX5_ok 0 (by decide)) rfl rfl (Nat.le_of_ble_eq_true rfl) dX5_copyFrom_5 (fun H locs hP hD hS => ?_)
  have hP : va_P D vwCl ((macW cs a (upd S 0 (V 0)) F) ++ (macW cs b V G)) H := hP
  have hD : va_D A ((macW cs a (upd S 0 (V 0)) F) ++ (macW cs b V G)) := hD
  refine lv_aload_n hx hb dX5_copyFrom_8 rfl (lv_at hl 0 rfl) ?_
  refine lv_aload_n hx hb dX5_copyFrom_9 rfl (lv_at hl 1 rfl) ?_
  refine va_get (D := D) (ci := 5) (v := .int (V 1)) (C := RX5) (T := TX5) (N := 13) hx hb hts wsI_X5 hown hK hP 17 rfl rfl 1 (by decide) (hts _ w_fl_X5_53) (fun _ h9 => h9) rfl dX5_copyFrom_10 ?_
  refine va_put (D := D) (ci := 5) (v := .int (V 1)) (C := RX5) (T := TX5) (N := 13) hx hb hts wsI_X5 tyX5 tyX5_ok nmX5 hown hK hP hD hS 0 rfl rfl 1 (by decide) (hts _ w_fl_X5_53) (fun _ h9 => h9) rfl (tyX5_ok 1 (by decide)) rfl rfl (Nat.le_of_ble_eq_true rfl) dX5_copyFrom_13 (fun H locs hP hD hS => ?_)
  have hP : va_P D vwCl ((macW cs a (upd (upd S 0 (V 0)) 1 (V 1)) F) ++ (macW cs b V G)) H := hP
  have hD : va_D A ((macW cs a (upd (upd S 0 (V 0)) 1 (V 1)) F) ++ (macW cs b V G)) := hD
  refine lv_aload_n hx hb dX5_copyFrom_16 rfl (lv_at hl 0 rfl) ?_
  refine lv_aload_n hx hb dX5_copyFrom_17 rfl (lv_at hl 1 rfl) ?_
  refine va_get (D := D) (ci := 5) (v := .int (V 2)) (C := RX5) (T := TX5) (N := 13) hx hb hts wsI_X5 hown hK hP 17 rfl rfl 2 (by decide) (hts _ w_fl_X5_56) (fun _ h9 => h9) rfl dX5_copyFrom_18 ?_
  refine va_put (D := D) (ci := 5) (v := .int (V 2)) (C := RX5) (T := TX5) (N := 13) hx hb hts wsI_X5 tyX5 tyX5_ok nmX5 hown hK hP hD hS 0 rfl rfl 2 (by decide) (hts _ w_fl_X5_56) (fun _ h9 => h9) rfl (tyX5_ok 2 (by decide)) rfl rfl (Nat.le_of_ble_eq_true rfl) dX5_copyFrom_21 (fun H locs hP hD hS => ?_)
  have hP : va_P D vwCl ((macW cs a (upd (upd (upd S 0 (V 0)) 1 (V 1)) 2 (V 2)) F) ++ (macW cs b V G)) H := hP
  have hD : va_D A ((macW cs a (upd (upd (upd S 0 (V 0)) 1 (V 1)) 2 (V 2)) F) ++ (macW cs b V G)) := hD
  refine lv_aload_n hx hb dX5_copyFrom_24 rfl (lv_at hl 0 rfl) ?_
  refine lv_aload_n hx hb dX5_copyFrom_25 rfl (lv_at hl 1 rfl) ?_
  refine va_get (D := D) (ci := 5) (v := .int (V 3)) (C := RX5) (T := TX5) (N := 13) hx hb hts wsI_X5 hown hK hP 17 rfl rfl 3 (by decide) (hts _ w_fl_X5_15) (fun _ h9 => h9) rfl dX5_copyFrom_26 ?_
  refine va_put (D := D) (ci := 5) (v := .int (V 3)) (C := RX5) (T := TX5) (N := 13) hx hb hts wsI_X5 tyX5 tyX5_ok nmX5 hown hK hP hD hS 0 rfl rfl 3 (by decide) (hts _ w_fl_X5_15) (fun _ h9 => h9) rfl (tyX5_ok 3 (by decide)) rfl rfl (Nat.le_of_ble_eq_true rfl) dX5_copyFrom_29 (fun H locs hP hD hS => ?_)
  have hP : va_P D vwCl ((macW cs a (upd (upd (upd (upd S 0 (V 0)) 1 (V 1)) 2 (V 2)) 3 (V 3)) F) ++ (macW cs b V G)) H := hP
  have hD : va_D A ((macW cs a (upd (upd (upd (upd S 0 (V 0)) 1 (V 1)) 2 (V 2)) 3 (V 3)) F) ++ (macW cs b V G)) := hD
  refine lv_aload_n hx hb dX5_copyFrom_32 rfl (lv_at hl 0 rfl) ?_
  refine lv_aload_n hx hb dX5_copyFrom_33 rfl (lv_at hl 1 rfl) ?_
  refine va_get (D := D) (ci := 5) (v := .int (V 4)) (C := RX5) (T := TX5) (N := 13) hx hb hts wsI_X5 hown hK hP 17 rfl rfl 4 (by decide) (hts _ w_fl_X5_18) (fun _ h9 => h9) rfl dX5_copyFrom_34 ?_
  refine va_put (D := D) (ci := 5) (v := .int (V 4)) (C := RX5) (T := TX5) (N := 13) hx hb hts wsI_X5 tyX5 tyX5_ok nmX5 hown hK hP hD hS 0 rfl rfl 4 (by decide) (hts _ w_fl_X5_18) (fun _ h9 => h9) rfl (tyX5_ok 4 (by decide)) rfl rfl (Nat.le_of_ble_eq_true rfl) dX5_copyFrom_37 (fun H locs hP hD hS => ?_)
  have hP : va_P D vwCl ((macW cs a (upd (upd (upd (upd (upd S 0 (V 0)) 1 (V 1)) 2 (V 2)) 3 (V 3)) 4 (V 4)) F) ++ (macW cs b V G)) H := hP
  have hD : va_D A ((macW cs a (upd (upd (upd (upd (upd S 0 (V 0)) 1 (V 1)) 2 (V 2)) 3 (V 3)) 4 (V 4)) F) ++ (macW cs b V G)) := hD
  refine lv_aload_n hx hb dX5_copyFrom_40 rfl (lv_at hl 0 rfl) ?_
  refine lv_aload_n hx hb dX5_copyFrom_41 rfl (lv_at hl 1 rfl) ?_
  refine va_get (D := D) (ci := 5) (v := .int (V 9)) (C := RX5) (T := TX5) (N := 13) hx hb hts wsI_X5 hown hK hP 17 rfl rfl 5 (by decide) (hts _ w_fl_X5_59) (fun _ h9 => h9) rfl dX5_copyFrom_42 ?_
  refine va_put (D := D) (ci := 5) (v := .int (V 9)) (C := RX5) (T := TX5) (N := 13) hx hb hts wsI_X5 tyX5 tyX5_ok nmX5 hown hK hP hD hS 0 rfl rfl 5 (by decide) (hts _ w_fl_X5_59) (fun _ h9 => h9) rfl (tyX5_ok 5 (by decide)) rfl rfl (Nat.le_of_ble_eq_true rfl) dX5_copyFrom_45 (fun H locs hP hD hS => ?_)
  have hP : va_P D vwCl ((macW cs a (upd (upd (upd (upd (upd (upd S 0 (V 0)) 1 (V 1)) 2 (V 2)) 3 (V 3)) 4 (V 4)) 9 (V 9)) F) ++ (macW cs b V G)) H := hP
  have hD : va_D A ((macW cs a (upd (upd (upd (upd (upd (upd S 0 (V 0)) 1 (V 1)) 2 (V 2)) 3 (V 3)) 4 (V 4)) 9 (V 9)) F) ++ (macW cs b V G)) := hD
  refine lv_aload_n hx hb dX5_copyFrom_48 rfl (lv_at hl 0 rfl) ?_
  refine lv_aload_n hx hb dX5_copyFrom_49 rfl (lv_at hl 1 rfl) ?_
  refine va_get (D := D) (ci := 5) (v := .int (V 10)) (C := RX5) (T := TX5) (N := 13) hx hb hts wsI_X5 hown hK hP 17 rfl rfl 6 (by decide) (hts _ w_fl_X5_62) (fun _ h9 => h9) rfl dX5_copyFrom_50 ?_
  refine va_put (D := D) (ci := 5) (v := .int (V 10)) (C := RX5) (T := TX5) (N := 13) hx hb hts wsI_X5 tyX5 tyX5_ok nmX5 hown hK hP hD hS 0 rfl rfl 6 (by decide) (hts _ w_fl_X5_62) (fun _ h9 => h9) rfl (tyX5_ok 6 (by decide)) rfl rfl (Nat.le_of_ble_eq_true rfl) dX5_copyFrom_53 (fun H locs hP hD hS => ?_)
  have hP : va_P D vwCl ((macW cs a (upd (upd (upd (upd (upd (upd (upd S 0 (V 0)) 1 (V 1)) 2 (V 2)) 3 (V 3)) 4 (V 4)) 9 (V 9)) 10 (V 10)) F) ++ (macW cs b V G)) H := hP
  have hD : va_D A ((macW cs a (upd (upd (upd (upd (upd (upd (upd S 0 (V 0)) 1 (V 1)) 2 (V 2)) 3 (V 3)) 4 (V 4)) 9 (V 9)) 10 (V 10)) F) ++ (macW cs b V G)) := hD
  refine lv_aload_n hx hb dX5_copyFrom_56 rfl (lv_at hl 0 rfl) ?_
  refine lv_aload_n hx hb dX5_copyFrom_57 rfl (lv_at hl 1 rfl) ?_
  refine va_get (D := D) (ci := 5) (v := .int (V 11)) (C := RX5) (T := TX5) (N := 13) hx hb hts wsI_X5 hown hK hP 17 rfl rfl 7 (by decide) (hts _ w_fl_X5_65) (fun _ h9 => h9) rfl dX5_copyFrom_58 ?_
  refine va_put (D := D) (ci := 5) (v := .int (V 11)) (C := RX5) (T := TX5) (N := 13) hx hb hts wsI_X5 tyX5 tyX5_ok nmX5 hown hK hP hD hS 0 rfl rfl 7 (by decide) (hts _ w_fl_X5_65) (fun _ h9 => h9) rfl (tyX5_ok 7 (by decide)) rfl rfl (Nat.le_of_ble_eq_true rfl) dX5_copyFrom_61 (fun H locs hP hD hS => ?_)
  have hP : va_P D vwCl ((macW cs a (upd (upd (upd (upd (upd (upd (upd (upd S 0 (V 0)) 1 (V 1)) 2 (V 2)) 3 (V 3)) 4 (V 4)) 9 (V 9)) 10 (V 10)) 11 (V 11)) F) ++ (macW cs b V G)) H := hP
  have hD : va_D A ((macW cs a (upd (upd (upd (upd (upd (upd (upd (upd S 0 (V 0)) 1 (V 1)) 2 (V 2)) 3 (V 3)) 4 (V 4)) 9 (V 9)) 10 (V 10)) 11 (V 11)) F) ++ (macW cs b V G)) := hD
  refine lv_aload_n hx hb dX5_copyFrom_64 rfl (lv_at hl 1 rfl) ?_
  refine va_get (D := D) (ci := 5) (v := .ref (b 1)) (C := RX5) (T := TX5) (N := 13) hx hb hts wsI_X5 hown hK hP 17 rfl rfl 8 (by decide) (hts _ w_fl_X5_21) (fun _ h9 => h9) rfl dX5_copyFrom_65 ?_
  refine lv_aload_n hx hb dX5_copyFrom_68 rfl (lv_at hl 0 rfl) ?_
  refine va_get (D := D) (ci := 5) (v := .ref (a 1)) (C := RX5) (T := TX5) (N := 13) hx hb hts wsI_X5 hown hK hP 0 rfl rfl 8 (by decide) (hts _ w_fl_X5_21) (fun _ h9 => h9) rfl dX5_copyFrom_69 ?_
  refine z_callSN (wn := ((macW cs a (upd (upd (upd (upd (upd (upd (upd (upd S 0 (V 0)) 1 (V 1)) 2 (V 2)) 3 (V 3)) 4 (V 4)) 9 (V 9)) 10 (V 10)) 11 (V 11)) (zU F 0 (G 0))) ++ (macW cs b V G))) ⟨hx, hb, hml, hown, hts⟩ zY_X7_copyRow w_st_yX7_copyRow (List.mem_of_getElem? (i := 5) rfl) [.ref (b 1), .ref (a 1)] [] (c_X7_copyRow l D cs (b 1) (a 1) 5 (G 0) (F 0) (by decide)) hE hK hA hP hD hS [18, 1] rfl rfl rfl rfl rfl hl.1 (Nat.le_of_ble_eq_true rfl) ⟨Nat.le_of_ble_eq_true rfl, Nat.le_of_ble_eq_true rfl⟩ ⟨Nat.le_of_ble_eq_true rfl, Nat.le_of_ble_eq_true rfl⟩ dX5_copyFrom_72 (fun H locs hP hD hS => ?_)
  refine lv_aload_n hx hb dX5_copyFrom_75 rfl (lv_at hl 0 rfl) ?_
  refine va_get (D := D) (ci := 5) (v := .ref (a 2)) (C := RX5) (T := TX5) (N := 13) hx hb hts wsI_X5 hown hK hP 0 rfl rfl 9 (by decide) (hts _ w_fl_X5_28) (fun _ h9 => h9) rfl dX5_copyFrom_76 ?_
  refine lv_aload_n hx hb dX5_copyFrom_79 rfl (lv_at hl 1 rfl) ?_
  refine va_get (D := D) (ci := 5) (v := .ref (b 2)) (C := RX5) (T := TX5) (N := 13) hx hb hts wsI_X5 hown hK hP 17 rfl rfl 9 (by decide) (hts _ w_fl_X5_28) (fun _ h9 => h9) rfl dX5_copyFrom_80 ?_
  refine z_callV (wn := ((macW cs a (upd (upd (upd (upd (upd (upd (upd (upd (upd (upd (upd (upd (upd (upd (upd S 0 (V 0)) 1 (V 1)) 2 (V 2)) 3 (V 3)) 4 (V 4)) 5 (V 5)) 6 (V 6)) 7 (V 7)) 9 (V 9)) 10 (V 10)) 11 (V 11)) 12 (V 12)) 13 (V 13)) 14 (V 14)) 15 (V 15)) (zU F 0 (G 0))) ++ (macW cs b V G))) ⟨hx, hb, hml, hown, hts⟩ zY_X0_copyFrom w_im_yX0_copyFrom w_se_yX0_copyFrom w_ml_X5_72 [.ref (b 2)] [] (c_X0_copyFrom l D cs a b (upd (upd (upd (upd (upd (upd (upd (upd S 0 (V 0)) 1 (V 1)) 2 (V 2)) 3 (V 3)) 4 (V 4)) 9 (V 9)) 10 (V 10)) 11 (V 11)) V) hE hK hA hP hD hS [2, 19] rfl rfl rfl rfl 0 rfl rfl rfl rfl hl.1 (Nat.le_of_ble_eq_true rfl) ⟨Nat.le_of_ble_eq_true rfl, Nat.le_of_ble_eq_true rfl⟩ ⟨Nat.le_of_ble_eq_true rfl, Nat.le_of_ble_eq_true rfl⟩ dX5_copyFrom_83 (fun H locs hP hD hS => ?_)
  refine lv_aload_n hx hb dX5_copyFrom_86 rfl (lv_at hl 0 rfl) ?_
  refine va_get (D := D) (ci := 5) (v := .ref (a 3)) (C := RX5) (T := TX5) (N := 13) hx hb hts wsI_X5 hown hK hP 0 rfl rfl 10 (by decide) (hts _ w_fl_X5_35) (fun _ h9 => h9) rfl dX5_copyFrom_87 ?_
  refine lv_aload_n hx hb dX5_copyFrom_90 rfl (lv_at hl 1 rfl) ?_
  refine va_get (D := D) (ci := 5) (v := .ref (b 3)) (C := RX5) (T := TX5) (N := 13) hx hb hts wsI_X5 hown hK hP 17 rfl rfl 10 (by decide) (hts _ w_fl_X5_35) (fun _ h9 => h9) rfl dX5_copyFrom_91 ?_
  refine z_callV (wn := ((macW cs a (upd (upd (upd (upd (upd (upd (upd (upd (upd (upd (upd (upd (upd (upd (upd S 0 (V 0)) 1 (V 1)) 2 (V 2)) 3 (V 3)) 4 (V 4)) 5 (V 5)) 6 (V 6)) 7 (V 7)) 9 (V 9)) 10 (V 10)) 11 (V 11)) 12 (V 12)) 13 (V 13)) 14 (V 14)) 15 (V 15)) (zU (zU (zU (zU (zU (zU (zU F 0 (G 0)) 1 (G 1)) 2 (G 2)) 3 (G 3)) 4 (G 4)) 5 (G 5)) 6 (G 6))) ++ (macW cs b V G))) ⟨hx, hb, hml, hown, hts⟩ zY_X2_copyFrom w_im_yX2_copyFrom w_se_yX2_copyFrom w_ml_X5_76 [.ref (b 3)] [] (c_X2_copyFrom l D cs a b (zU F 0 (G 0)) G) hE hK hA hP hD hS [3, 4, 5, 6, 7, 8, 9, 20, 21, 22, 23, 24, 25, 26] rfl rfl rfl rfl 2 rfl rfl rfl rfl hl.1 (Nat.le_of_ble_eq_true rfl) ⟨Nat.le_of_ble_eq_true rfl, Nat.le_of_ble_eq_true rfl⟩ ⟨Nat.le_of_ble_eq_true rfl, Nat.le_of_ble_eq_true rfl⟩ dX5_copyFrom_94 (fun H locs hP hD hS => ?_)
  refine lv_aload_n hx hb dX5_copyFrom_97 rfl (lv_at hl 0 rfl) ?_
  refine va_get (D := D) (ci := 5) (v := .ref (a 10)) (C := RX5) (T := TX5) (N := 13) hx hb hts wsI_X5 hown hK hP 0 rfl rfl 11 (by decide) (hts _ w_fl_X5_42) (fun _ h9 => h9) rfl dX5_copyFrom_98 ?_
  refine lv_aload_n hx hb dX5_copyFrom_101 rfl (lv_at hl 1 rfl) ?_
  refine va_get (D := D) (ci := 5) (v := .ref (b 10)) (C := RX5) (T := TX5) (N := 13) hx hb hts wsI_X5 hown hK hP 17 rfl rfl 11 (by decide) (hts _ w_fl_X5_42) (fun _ h9 => h9) rfl dX5_copyFrom_102 ?_
  refine z_callV (wn := ((macW cs a (upd (upd (upd (upd (upd (upd (upd (upd (upd (upd (upd (upd (upd (upd (upd (upd S 0 (V 0)) 1 (V 1)) 2 (V 2)) 3 (V 3)) 4 (V 4)) 5 (V 5)) 6 (V 6)) 7 (V 7)) 8 (V 8)) 9 (V 9)) 10 (V 10)) 11 (V 11)) 12 (V 12)) 13 (V 13)) 14 (V 14)) 15 (V 15)) (zU (zU (zU (zU (zU (zU (zU (zU (zU (zU F 0 (G 0)) 1 (G 1)) 2 (G 2)) 3 (G 3)) 4 (G 4)) 5 (G 5)) 6 (G 6)) 7 (G 7)) 8 (G 8)) 9 (G 9))) ++ (macW cs b V G))) ⟨hx, hb, hml, hown, hts⟩ zY_X3_copyFrom w_im_yX3_copyFrom w_se_yX3_copyFrom w_ml_X5_79 [.ref (b 10)] [] (c_X3_copyFrom l D cs a b (upd (upd (upd (upd (upd (upd (upd (upd (upd (upd (upd (upd (upd (upd (upd S 0 (V 0)) 1 (V 1)) 2 (V 2)) 3 (V 3)) 4 (V 4)) 5 (V 5)) 6 (V 6)) 7 (V 7)) 9 (V 9)) 10 (V 10)) 11 (V 11)) 12 (V 12)) 13 (V 13)) 14 (V 14)) 15 (V 15)) V (zU (zU (zU (zU (zU (zU (zU F 0 (G 0)) 1 (G 1)) 2 (G 2)) 3 (G 3)) 4 (G 4)) 5 (G 5)) 6 (G 6)) G) hE hK hA hP hD hS [10, 11, 12, 13, 27, 28, 29, 30] rfl rfl rfl rfl 3 rfl rfl rfl rfl hl.1 (Nat.le_of_ble_eq_true rfl) ⟨Nat.le_of_ble_eq_true rfl, Nat.le_of_ble_eq_true rfl⟩ ⟨Nat.le_of_ble_eq_true rfl, Nat.le_of_ble_eq_true rfl⟩ dX5_copyFrom_105 (fun H locs hP hD hS => ?_)
  refine lv_aload_n hx hb dX5_copyFrom_108 rfl (lv_at hl 0 rfl) ?_
  refine va_get (D := D) (ci := 5) (v := .ref (a 14)) (C := RX5) (T := TX5) (N := 13) hx hb hts wsI_X5 hown hK hP 0 rfl rfl 12 (by decide) (hts _ w_fl_X5_49) (fun _ h9 => h9) rfl dX5_copyFrom_109 ?_
  refine lv_aload_n hx hb dX5_copyFrom_112 rfl (lv_at hl 1 rfl) ?_
  refine va_get (D := D) (ci := 5) (v := .ref (b 14)) (C := RX5) (T := TX5) (N := 13) hx hb hts wsI_X5 hown hK hP 17 rfl rfl 12 (by decide) (hts _ w_fl_X5_49) (fun _ h9 => h9) rfl dX5_copyFrom_113 ?_
  refine z_callV (wn := ((macW cs a (upd (upd (upd (upd (upd (upd (upd (upd (upd (upd (upd (upd (upd (upd (upd (upd S 0 (V 0)) 1 (V 1)) 2 (V 2)) 3 (V 3)) 4 (V 4)) 5 (V 5)) 6 (V 6)) 7 (V 7)) 8 (V 8)) 9 (V 9)) 10 (V 10)) 11 (V 11)) 12 (V 12)) 13 (V 13)) 14 (V 14)) 15 (V 15)) (zU (zU (zU (zU (zU (zU (zU (zU (zU (zU (zU (zU F 0 (G 0)) 1 (G 1)) 2 (G 2)) 3 (G 3)) 4 (G 4)) 5 (G 5)) 6 (G 6)) 7 (G 7)) 8 (G 8)) 9 (G 9)) 10 (G 10)) 11 (G 11))) ++ (macW cs b V G))) ⟨hx, hb, hml, hown, hts⟩ zY_X1_copyFrom w_im_yX1_copyFrom w_se_yX1_copyFrom w_ml_X5_82 [.ref (b 14)] [] (c_X1_copyFrom l D cs a b (zU (zU (zU (zU (zU (zU (zU (zU (zU (zU F 0 (G 0)) 1 (G 1)) 2 (G 2)) 3 (G 3)) 4 (G 4)) 5 (G 5)) 6 (G 6)) 7 (G 7)) 8 (G 8)) 9 (G 9)) G) hE hK hA hP hD hS [14, 15, 16, 31, 32, 33] rfl rfl rfl rfl 1 rfl rfl rfl rfl hl.1 (Nat.le_of_ble_eq_true rfl) ⟨Nat.le_of_ble_eq_true rfl, Nat.le_of_ble_eq_true rfl⟩ ⟨Nat.le_of_ble_eq_true rfl, Nat.le_of_ble_eq_true rfl⟩ dX5_copyFrom_116 (fun H locs hP hD hS => ?_)
  exact z_vret hx hb hr hlk hK hP hD hS dX5_copyFrom_119 rfl rfl
