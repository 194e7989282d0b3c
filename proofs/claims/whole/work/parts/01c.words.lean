/-- the words that every contract rests on: the good ones of the tables -/
def wsG : List Cond := lw_tbl.filter goodWord
theorem wsG_in : ∀ w ∈ wsG, w ∈ lw_tbl := fun w h => (List.mem_filter.mp h).1
theorem wsG_good : ∀ w ∈ wsG, (w.onTables && w.keeps) = true ∨ ∃ ty, w = .arrayClass ty := fun w h => good_of_word (List.mem_filter.mp h).2
theorem wsG_mk {w : Cond} (h : w ∈ lw_tbl) (g : goodWord w = true) : w ∈ wsG := List.mem_filter.mpr ⟨h, g⟩
theorem wsT0 (w : Cond) (h : w ∈ k2_sels lw_privs) (g : goodWord w = true) : w ∈ wsG := wsG_mk (List.mem_append_left _ h) g
theorem wsT1 (w : Cond) (h : w ∈ tables_1_1) (g : goodWord w = true) : w ∈ wsG := wsG_mk (List.mem_append_right _ (List.mem_append_left _ h)) g
theorem wsT2 (w : Cond) (h : w ∈ tables_1_2) (g : goodWord w = true) : w ∈ wsG := wsG_mk (List.mem_append_right _ (List.mem_append_right _ (List.mem_append_left _ h))) g
theorem wsT3 (w : Cond) (h : w ∈ tables_1_3) (g : goodWord w = true) : w ∈ wsG := wsG_mk (List.mem_append_right _ (List.mem_append_right _ (List.mem_append_right _ (List.mem_append_left _ h)))) g
theorem wsT4 (w : Cond) (h : w ∈ tables_1_4) (g : goodWord w = true) : w ∈ wsG := wsG_mk (List.mem_append_right _ (List.mem_append_right _ (List.mem_append_right _ (List.mem_append_right _ (List.mem_append_left _ h))))) g
theorem wsT5 (w : Cond) (h : w ∈ tables_1_5) (g : goodWord w = true) : w ∈ wsG := wsG_mk (List.mem_append_right _ (List.mem_append_right _ (List.mem_append_right _ (List.mem_append_right _ (List.mem_append_right _ h))))) g
theorem w_in_L : (Cond.initialized RL) ∈ wsG := wsT1 _ (List.mem_of_getElem? (i := 0) (by decide +kernel)) rfl
theorem w_in_X7 : (Cond.initialized RX7) ∈ wsG := wsT1 _ (List.mem_of_getElem? (i := 1) (by decide +kernel)) rfl
theorem w_in_X5 : (Cond.initialized RX5) ∈ wsG := wsT1 _ (List.mem_of_getElem? (i := 2) (by decide +kernel)) rfl
theorem w_in_X0 : (Cond.initialized RX0) ∈ wsG := wsT1 _ (List.mem_of_getElem? (i := 3) (by decide +kernel)) rfl
theorem w_in_X2 : (Cond.initialized RX2) ∈ wsG := wsT1 _ (List.mem_of_getElem? (i := 4) (by decide +kernel)) rfl
theorem w_in_J7 : (Cond.initialized "java/util/Arrays") ∈ wsG := wsT1 _ (List.mem_of_getElem? (i := 5) (by decide +kernel)) rfl
theorem w_in_X3 : (Cond.initialized RX3) ∈ wsG := wsT1 _ (List.mem_of_getElem? (i := 6) (by decide +kernel)) rfl
theorem w_in_X1 : (Cond.initialized RX1) ∈ wsG := wsT1 _ (List.mem_of_getElem? (i := 7) (by decide +kernel)) rfl
theorem w_in_X4 : (Cond.initialized RX4) ∈ wsG := wsT1 _ (List.mem_of_getElem? (i := 8) (by decide +kernel)) rfl
theorem w_in_X6 : (Cond.initialized RX6) ∈ wsG := wsT1 _ (List.mem_of_getElem? (i := 9) (by decide +kernel)) rfl
theorem w_in_X8 : (Cond.initialized RX8) ∈ wsG := wsT1 _ (List.mem_of_getElem? (i := 10) (by decide +kernel)) rfl
theorem w_in_Throwable : (Cond.initialized "java/lang/Throwable") ∈ wsG := wsT1 _ (List.mem_of_getElem? (i := 11) (by decide +kernel)) rfl
theorem w_in_Exception : (Cond.initialized "java/lang/Exception") ∈ wsG := wsT1 _ (List.mem_of_getElem? (i := 12) (by decide +kernel)) rfl
theorem w_in_RuntimeException : (Cond.initialized "java/lang/RuntimeException") ∈ wsG := wsT1 _ (List.mem_of_getElem? (i := 13) (by decide +kernel)) rfl
theorem w_in_IndexOutOfBoundsException : (Cond.initialized "java/lang/IndexOutOfBoundsException") ∈ wsG := wsT1 _ (List.mem_of_getElem? (i := 14) (by decide +kernel)) rfl
theorem w_in_J9 : (Cond.initialized "java/lang/Math") ∈ wsG := wsT1 _ (List.mem_of_getElem? (i := 15) (by decide +kernel)) rfl
theorem w_in_J10 : (Cond.initialized "java/lang/System") ∈ wsG := wsT1 _ (List.mem_of_getElem? (i := 16) (by decide +kernel)) rfl
theorem w_in_J6 : (Cond.initialized "java/lang/Integer") ∈ wsG := wsT1 _ (List.mem_of_getElem? (i := 17) (by decide +kernel)) rfl
theorem w_in_IllegalArgumentException : (Cond.initialized "java/lang/IllegalArgumentException") ∈ wsG := wsT1 _ (List.mem_of_getElem? (i := 18) (by decide +kernel)) rfl
theorem w_in_IllegalStateException : (Cond.initialized "java/lang/IllegalStateException") ∈ wsG := wsT1 _ (List.mem_of_getElem? (i := 19) (by decide +kernel)) rfl
theorem w_cl_L_8 : (Cond.classLink RL 8 RX7) ∈ wsG := wsT1 _ (List.mem_of_getElem? (i := 20) (by decide +kernel)) rfl
theorem w_is_X7 : (Cond.instantiable RX7 5) ∈ wsG := wsT1 _ (List.mem_of_getElem? (i := 21) (by decide +kernel)) rfl
theorem w_ml_L_76 : (Cond.methodLink RL 76 yX7_init) ∈ wsG := wsT1 _ (List.mem_of_getElem? (i := 22) (by decide +kernel)) rfl
theorem w_im_yX7_init : (Cond.instanceMethod yX7_init) ∈ wsG := wsT1 _ (List.mem_of_getElem? (i := 23) (by decide +kernel)) rfl
theorem w_co_yX7_init : (Cond.code yX7_init cX7_init 1 none) ∈ wsG := wsT1 _ (List.mem_of_getElem? (i := 24) (by decide +kernel)) rfl
theorem w_ml_X7_1 : (Cond.methodLink RX7 1 objectInit) ∈ wsG := wsT1 _ (List.mem_of_getElem? (i := 25) (by decide +kernel)) rfl
theorem w_im_objectInit : (Cond.instanceMethod objectInit) ∈ wsG := wsT1 _ (List.mem_of_getElem? (i := 26) (by decide +kernel)) rfl
theorem w_co_objectInit : (Cond.code objectInit ⟨#[0xb1]⟩ 1 none) ∈ wsG := wsT1 _ (List.mem_of_getElem? (i := 27) (by decide +kernel)) rfl
theorem w_cl_X7_7 : (Cond.classLink RX7 7 RX5) ∈ wsG := wsT1 _ (List.mem_of_getElem? (i := 28) (by decide +kernel)) rfl
theorem w_is_X5 : (Cond.instantiable RX5 13) ∈ wsG := wsT1 _ (List.mem_of_getElem? (i := 29) (by decide +kernel)) rfl
theorem w_im_yX5_init : (Cond.instanceMethod yX5_init) ∈ wsG := wsT1 _ (List.mem_of_getElem? (i := 31) (by decide +kernel)) rfl
theorem w_co_yX5_init : (Cond.code yX5_init cX5_init 1 none) ∈ wsG := wsT1 _ (List.mem_of_getElem? (i := 32) (by decide +kernel)) rfl
theorem w_ml_X5_3 : (Cond.methodLink RX5 3 objectInit) ∈ wsG := wsT1 _ (List.mem_of_getElem? (i := 33) (by decide +kernel)) rfl
theorem w_cl_X5_25 : (Cond.classLink RX5 25 RX0) ∈ wsG := wsT1 _ (List.mem_of_getElem? (i := 34) (by decide +kernel)) rfl
theorem w_is_X0 : (Cond.instantiable RX0 7) ∈ wsG := wsT1 _ (List.mem_of_getElem? (i := 35) (by decide +kernel)) rfl
theorem w_im_yX0_init : (Cond.instanceMethod yX0_init) ∈ wsG := wsT1 _ (List.mem_of_getElem? (i := 37) (by decide +kernel)) rfl
theorem w_co_yX0_init : (Cond.code yX0_init cX0_init 1 none) ∈ wsG := wsT1 _ (List.mem_of_getElem? (i := 38) (by decide +kernel)) rfl
theorem w_ml_X0_3 : (Cond.methodLink RX0 3 objectInit) ∈ wsG := wsT1 _ (List.mem_of_getElem? (i := 39) (by decide +kernel)) rfl
theorem w_fl_X0_9 : (Cond.fieldLink RX0 9 "CamDrum$Air" "tank" "I") ∈ wsG := wsT1 _ (List.mem_of_getElem? (i := 40) (by decide +kernel)) rfl
theorem w_fl_X7_111 : (Cond.fieldLink RX7 111 "CamDrum$Air" "tank" "I") ∈ wsG := wsT1 _ (List.mem_of_getElem? (i := 41) (by decide +kernel)) rfl
theorem w_fl_X5_129 : (Cond.fieldLink RX5 129 "CamDrum$Air" "tank" "I") ∈ wsG := wsT1 _ (List.mem_of_getElem? (i := 42) (by decide +kernel)) rfl
theorem w_fl_X0_15 : (Cond.fieldLink RX0 15 "CamDrum$Air" "capacity" "I") ∈ wsG := wsT1 _ (List.mem_of_getElem? (i := 43) (by decide +kernel)) rfl
theorem w_fl_X7_100 : (Cond.fieldLink RX7 100 "CamDrum$Air" "capacity" "I") ∈ wsG := wsT1 _ (List.mem_of_getElem? (i := 44) (by decide +kernel)) rfl
theorem w_fl_X5_190 : (Cond.fieldLink RX5 190 "CamDrum$Air" "capacity" "I") ∈ wsG := wsT1 _ (List.mem_of_getElem? (i := 45) (by decide +kernel)) rfl
theorem w_fl_X0_18 : (Cond.fieldLink RX0 18 "CamDrum$Air" "compressor" "I") ∈ wsG := wsT1 _ (List.mem_of_getElem? (i := 46) (by decide +kernel)) rfl
theorem w_fl_X7_105 : (Cond.fieldLink RX7 105 "CamDrum$Air" "compressor" "I") ∈ wsG := wsT1 _ (List.mem_of_getElem? (i := 47) (by decide +kernel)) rfl
theorem w_fl_X5_193 : (Cond.fieldLink RX5 193 "CamDrum$Air" "compressor" "I") ∈ wsG := wsT1 _ (List.mem_of_getElem? (i := 48) (by decide +kernel)) rfl
theorem w_fl_X0_21 : (Cond.fieldLink RX0 21 "CamDrum$Air" "made" "I") ∈ wsG := wsT1 _ (List.mem_of_getElem? (i := 49) (by decide +kernel)) rfl
theorem w_fl_X5_196 : (Cond.fieldLink RX5 196 "CamDrum$Air" "made" "I") ∈ wsG := wsT1 _ (List.mem_of_getElem? (i := 50) (by decide +kernel)) rfl
theorem w_fl_X7_208 : (Cond.fieldLink RX7 208 "CamDrum$Air" "made" "I") ∈ wsG := wsT1 _ (List.mem_of_getElem? (i := 51) (by decide +kernel)) rfl
theorem w_fl_X0_24 : (Cond.fieldLink RX0 24 "CamDrum$Air" "letOff" "I") ∈ wsG := wsT1 _ (List.mem_of_getElem? (i := 52) (by decide +kernel)) rfl
theorem w_fl_X5_199 : (Cond.fieldLink RX5 199 "CamDrum$Air" "letOff" "I") ∈ wsG := wsT1 _ (List.mem_of_getElem? (i := 53) (by decide +kernel)) rfl
theorem w_fl_X0_27 : (Cond.fieldLink RX0 27 "CamDrum$Air" "used" "I") ∈ wsG := wsT1 _ (List.mem_of_getElem? (i := 54) (by decide +kernel)) rfl
theorem w_fl_X5_202 : (Cond.fieldLink RX5 202 "CamDrum$Air" "used" "I") ∈ wsG := wsT1 _ (List.mem_of_getElem? (i := 55) (by decide +kernel)) rfl
theorem w_fl_X7_211 : (Cond.fieldLink RX7 211 "CamDrum$Air" "used" "I") ∈ wsG := wsT1 _ (List.mem_of_getElem? (i := 56) (by decide +kernel)) rfl
theorem w_fl_X0_30 : (Cond.fieldLink RX0 30 "CamDrum$Air" "leaked" "I") ∈ wsG := wsT1 _ (List.mem_of_getElem? (i := 57) (by decide +kernel)) rfl
theorem w_fl_X5_204 : (Cond.fieldLink RX5 204 "CamDrum$Air" "leaked" "I") ∈ wsG := wsT1 _ (List.mem_of_getElem? (i := 58) (by decide +kernel)) rfl
theorem w_ly_X0_tank : (Cond.lays "CamDrum$Air" "CamDrum$Air" "tank" "I") ∈ wsG := wsT1 _ (List.mem_of_getElem? (i := 59) (by decide +kernel)) rfl
theorem w_ly_X0_capacity : (Cond.lays "CamDrum$Air" "CamDrum$Air" "capacity" "I") ∈ wsG := wsT1 _ (List.mem_of_getElem? (i := 61) (by decide +kernel)) rfl
theorem w_ly_X0_compressor : (Cond.lays "CamDrum$Air" "CamDrum$Air" "compressor" "I") ∈ wsG := wsT1 _ (List.mem_of_getElem? (i := 63) (by decide +kernel)) rfl
theorem w_ly_X0_made : (Cond.lays "CamDrum$Air" "CamDrum$Air" "made" "I") ∈ wsG := wsT1 _ (List.mem_of_getElem? (i := 65) (by decide +kernel)) rfl
theorem w_ly_X0_letOff : (Cond.lays "CamDrum$Air" "CamDrum$Air" "letOff" "I") ∈ wsG := wsT1 _ (List.mem_of_getElem? (i := 67) (by decide +kernel)) rfl
theorem w_ly_X0_used : (Cond.lays "CamDrum$Air" "CamDrum$Air" "used" "I") ∈ wsG := wsT1 _ (List.mem_of_getElem? (i := 69) (by decide +kernel)) rfl
theorem w_ly_X0_leaked : (Cond.lays "CamDrum$Air" "CamDrum$Air" "leaked" "I") ∈ wsG := wsT1 _ (List.mem_of_getElem? (i := 71) (by decide +kernel)) rfl
theorem w_ac_int : (Cond.arrayClass FieldType.int) ∈ wsG := wsT1 _ (List.mem_of_getElem? (i := 74) (by decide +kernel)) rfl
theorem w_cl_X5_32 : (Cond.classLink RX5 32 RX2) ∈ wsG := wsT1 _ (List.mem_of_getElem? (i := 75) (by decide +kernel)) rfl
theorem w_is_X2 : (Cond.instantiable RX2 6) ∈ wsG := wsT1 _ (List.mem_of_getElem? (i := 76) (by decide +kernel)) rfl
theorem w_ml_X5_34 : (Cond.methodLink RX5 34 yX2_init) ∈ wsG := wsT1 _ (List.mem_of_getElem? (i := 77) (by decide +kernel)) rfl
theorem w_im_yX2_init : (Cond.instanceMethod yX2_init) ∈ wsG := wsT1 _ (List.mem_of_getElem? (i := 78) (by decide +kernel)) rfl
theorem w_co_yX2_init : (Cond.code yX2_init cX2_init 1 none) ∈ wsG := wsT1 _ (List.mem_of_getElem? (i := 79) (by decide +kernel)) rfl
theorem w_ml_X2_3 : (Cond.methodLink RX2 3 objectInit) ∈ wsG := wsT1 _ (List.mem_of_getElem? (i := 80) (by decide +kernel)) rfl
theorem w_ml_X2_30 : (Cond.methodLink RX2 30 yJ7_fill_53178) ∈ wsG := wsT1 _ (List.mem_of_getElem? (i := 81) (by decide +kernel)) rfl
theorem w_st_yJ7_fill_53178 : (Cond.static yJ7_fill_53178) ∈ wsG := wsT1 _ (List.mem_of_getElem? (i := 82) (by decide +kernel)) rfl
theorem w_co_yJ7_fill_53178 : (Cond.code yJ7_fill_53178 cJ7_fill_53178 4 none) ∈ wsG := wsT1 _ (List.mem_of_getElem? (i := 83) (by decide +kernel)) rfl
theorem w_fl_X2_9 : (Cond.fieldLink RX2 9 "CamDrum$Cylinders" "out" "[I") ∈ wsG := wsT1 _ (List.mem_of_getElem? (i := 84) (by decide +kernel)) rfl
theorem w_fl_X7_91 : (Cond.fieldLink RX7 91 "CamDrum$Cylinders" "out" "[I") ∈ wsG := wsT1 _ (List.mem_of_getElem? (i := 85) (by decide +kernel)) rfl
theorem w_fl_X5_122 : (Cond.fieldLink RX5 122 "CamDrum$Cylinders" "out" "[I") ∈ wsG := wsT1 _ (List.mem_of_getElem? (i := 86) (by decide +kernel)) rfl
theorem w_fl_X2_15 : (Cond.fieldLink RX2 15 "CamDrum$Cylinders" "size" "[I") ∈ wsG := wsT1 _ (List.mem_of_getElem? (i := 87) (by decide +kernel)) rfl
theorem w_fl_X7_79 : (Cond.fieldLink RX7 79 "CamDrum$Cylinders" "size" "[I") ∈ wsG := wsT1 _ (List.mem_of_getElem? (i := 88) (by decide +kernel)) rfl
theorem w_fl_X5_147 : (Cond.fieldLink RX5 147 "CamDrum$Cylinders" "size" "[I") ∈ wsG := wsT1 _ (List.mem_of_getElem? (i := 89) (by decide +kernel)) rfl
theorem w_fl_X2_18 : (Cond.fieldLink RX2 18 "CamDrum$Cylinders" "speed" "[I") ∈ wsG := wsT1 _ (List.mem_of_getElem? (i := 90) (by decide +kernel)) rfl
theorem w_fl_X7_85 : (Cond.fieldLink RX7 85 "CamDrum$Cylinders" "speed" "[I") ∈ wsG := wsT1 _ (List.mem_of_getElem? (i := 91) (by decide +kernel)) rfl
theorem w_fl_X5_135 : (Cond.fieldLink RX5 135 "CamDrum$Cylinders" "speed" "[I") ∈ wsG := wsT1 _ (List.mem_of_getElem? (i := 92) (by decide +kernel)) rfl
theorem w_fl_X2_21 : (Cond.fieldLink RX2 21 "CamDrum$Cylinders" "leak" "[I") ∈ wsG := wsT1 _ (List.mem_of_getElem? (i := 93) (by decide +kernel)) rfl
theorem w_fl_X7_88 : (Cond.fieldLink RX7 88 "CamDrum$Cylinders" "leak" "[I") ∈ wsG := wsT1 _ (List.mem_of_getElem? (i := 94) (by decide +kernel)) rfl
theorem w_fl_X5_165 : (Cond.fieldLink RX5 165 "CamDrum$Cylinders" "leak" "[I") ∈ wsG := wsT1 _ (List.mem_of_getElem? (i := 95) (by decide +kernel)) rfl
theorem w_fl_X2_24 : (Cond.fieldLink RX2 24 "CamDrum$Cylinders" "used" "[I") ∈ wsG := wsT1 _ (List.mem_of_getElem? (i := 96) (by decide +kernel)) rfl
theorem w_fl_X5_156 : (Cond.fieldLink RX5 156 "CamDrum$Cylinders" "used" "[I") ∈ wsG := wsT1 _ (List.mem_of_getElem? (i := 97) (by decide +kernel)) rfl
theorem w_fl_X2_27 : (Cond.fieldLink RX2 27 "CamDrum$Cylinders" "leaked" "[I") ∈ wsG := wsT1 _ (List.mem_of_getElem? (i := 98) (by decide +kernel)) rfl
theorem w_fl_X5_162 : (Cond.fieldLink RX5 162 "CamDrum$Cylinders" "leaked" "[I") ∈ wsG := wsT1 _ (List.mem_of_getElem? (i := 99) (by decide +kernel)) rfl
theorem w_ly_X2_out : (Cond.laysFinal "CamDrum$Cylinders" "CamDrum$Cylinders" "out" "[I") ∈ wsG := wsT1 _ (List.mem_of_getElem? (i := 100) (by decide +kernel)) rfl
theorem w_ly_X2_size : (Cond.laysFinal "CamDrum$Cylinders" "CamDrum$Cylinders" "size" "[I") ∈ wsG := wsT1 _ (List.mem_of_getElem? (i := 102) (by decide +kernel)) rfl
theorem w_ly_X2_speed : (Cond.laysFinal "CamDrum$Cylinders" "CamDrum$Cylinders" "speed" "[I") ∈ wsG := wsT1 _ (List.mem_of_getElem? (i := 104) (by decide +kernel)) rfl
theorem w_ly_X2_leak : (Cond.laysFinal "CamDrum$Cylinders" "CamDrum$Cylinders" "leak" "[I") ∈ wsG := wsT1 _ (List.mem_of_getElem? (i := 106) (by decide +kernel)) rfl
theorem w_ly_X2_used : (Cond.laysFinal "CamDrum$Cylinders" "CamDrum$Cylinders" "used" "[I") ∈ wsG := wsT1 _ (List.mem_of_getElem? (i := 108) (by decide +kernel)) rfl
theorem w_ly_X2_leaked : (Cond.laysFinal "CamDrum$Cylinders" "CamDrum$Cylinders" "leaked" "[I") ∈ wsG := wsT1 _ (List.mem_of_getElem? (i := 110) (by decide +kernel)) rfl
theorem w_cl_X5_39 : (Cond.classLink RX5 39 RX3) ∈ wsG := wsT1 _ (List.mem_of_getElem? (i := 113) (by decide +kernel)) rfl
theorem w_is_X3 : (Cond.instantiable RX3 4) ∈ wsG := wsT1 _ (List.mem_of_getElem? (i := 114) (by decide +kernel)) rfl
theorem w_im_yX3_init : (Cond.instanceMethod yX3_init) ∈ wsG := wsT1 _ (List.mem_of_getElem? (i := 116) (by decide +kernel)) rfl
theorem w_co_yX3_init : (Cond.code yX3_init cX3_init 1 none) ∈ wsG := wsT1 _ (List.mem_of_getElem? (i := 117) (by decide +kernel)) rfl
theorem w_ml_X3_3 : (Cond.methodLink RX3 3 objectInit) ∈ wsG := wsT1 _ (List.mem_of_getElem? (i := 118) (by decide +kernel)) rfl
theorem w_fl_X3_9 : (Cond.fieldLink RX3 9 "CamDrum$Guards" "guarded" "[I") ∈ wsG := wsT1 _ (List.mem_of_getElem? (i := 119) (by decide +kernel)) rfl
theorem w_fl_X5_174 : (Cond.fieldLink RX5 174 "CamDrum$Guards" "guarded" "[I") ∈ wsG := wsT1 _ (List.mem_of_getElem? (i := 120) (by decide +kernel)) rfl
theorem w_fl_X3_15 : (Cond.fieldLink RX3 15 "CamDrum$Guards" "other" "[I") ∈ wsG := wsT1 _ (List.mem_of_getElem? (i := 121) (by decide +kernel)) rfl
theorem w_fl_X5_184 : (Cond.fieldLink RX5 184 "CamDrum$Guards" "other" "[I") ∈ wsG := wsT1 _ (List.mem_of_getElem? (i := 122) (by decide +kernel)) rfl
theorem w_fl_X3_18 : (Cond.fieldLink RX3 18 "CamDrum$Guards" "bound" "[I") ∈ wsG := wsT1 _ (List.mem_of_getElem? (i := 123) (by decide +kernel)) rfl
theorem w_fl_X5_181 : (Cond.fieldLink RX5 181 "CamDrum$Guards" "bound" "[I") ∈ wsG := wsT1 _ (List.mem_of_getElem? (i := 124) (by decide +kernel)) rfl
theorem w_fl_X3_25 : (Cond.fieldLink RX3 25 "CamDrum$Guards" "count" "I") ∈ wsG := wsT1 _ (List.mem_of_getElem? (i := 125) (by decide +kernel)) rfl
theorem w_fl_X7_120 : (Cond.fieldLink RX7 120 "CamDrum$Guards" "count" "I") ∈ wsG := wsT1 _ (List.mem_of_getElem? (i := 126) (by decide +kernel)) rfl
theorem w_fl_X5_171 : (Cond.fieldLink RX5 171 "CamDrum$Guards" "count" "I") ∈ wsG := wsT1 _ (List.mem_of_getElem? (i := 127) (by decide +kernel)) rfl
theorem w_ly_X3_guarded : (Cond.laysFinal "CamDrum$Guards" "CamDrum$Guards" "guarded" "[I") ∈ wsG := wsT1 _ (List.mem_of_getElem? (i := 128) (by decide +kernel)) rfl
theorem w_ly_X3_other : (Cond.laysFinal "CamDrum$Guards" "CamDrum$Guards" "other" "[I") ∈ wsG := wsT1 _ (List.mem_of_getElem? (i := 130) (by decide +kernel)) rfl
theorem w_ly_X3_bound : (Cond.laysFinal "CamDrum$Guards" "CamDrum$Guards" "bound" "[I") ∈ wsG := wsT1 _ (List.mem_of_getElem? (i := 132) (by decide +kernel)) rfl
theorem w_ly_X3_count : (Cond.lays "CamDrum$Guards" "CamDrum$Guards" "count" "I") ∈ wsG := wsT1 _ (List.mem_of_getElem? (i := 134) (by decide +kernel)) rfl
theorem w_cl_X5_46 : (Cond.classLink RX5 46 RX1) ∈ wsG := wsT1 _ (List.mem_of_getElem? (i := 137) (by decide +kernel)) rfl
theorem w_is_X1 : (Cond.instantiable RX1 2) ∈ wsG := wsT1 _ (List.mem_of_getElem? (i := 138) (by decide +kernel)) rfl
theorem w_ml_X5_48 : (Cond.methodLink RX5 48 yX1_init) ∈ wsG := wsT1 _ (List.mem_of_getElem? (i := 139) (by decide +kernel)) rfl
theorem w_im_yX1_init : (Cond.instanceMethod yX1_init) ∈ wsG := wsT1 _ (List.mem_of_getElem? (i := 140) (by decide +kernel)) rfl
theorem w_co_yX1_init : (Cond.code yX1_init cX1_init 1 none) ∈ wsG := wsT1 _ (List.mem_of_getElem? (i := 141) (by decide +kernel)) rfl
theorem w_ml_X1_3 : (Cond.methodLink RX1 3 objectInit) ∈ wsG := wsT1 _ (List.mem_of_getElem? (i := 142) (by decide +kernel)) rfl
theorem w_ml_X1_18 : (Cond.methodLink RX1 18 yJ7_fill_53178) ∈ wsG := wsT1 _ (List.mem_of_getElem? (i := 143) (by decide +kernel)) rfl
theorem w_fl_X1_9 : (Cond.fieldLink RX1 9 "CamDrum$Chart" "out" "[I") ∈ wsG := wsT1 _ (List.mem_of_getElem? (i := 144) (by decide +kernel)) rfl
theorem w_fl_X1_15 : (Cond.fieldLink RX1 15 "CamDrum$Chart" "skipped" "[I") ∈ wsG := wsT1 _ (List.mem_of_getElem? (i := 145) (by decide +kernel)) rfl
theorem w_ly_X1_out : (Cond.laysFinal "CamDrum$Chart" "CamDrum$Chart" "out" "[I") ∈ wsG := wsT1 _ (List.mem_of_getElem? (i := 146) (by decide +kernel)) rfl
theorem w_ly_X1_skipped : (Cond.laysFinal "CamDrum$Chart" "CamDrum$Chart" "skipped" "[I") ∈ wsG := wsT1 _ (List.mem_of_getElem? (i := 148) (by decide +kernel)) rfl
theorem w_fl_X5_9 : (Cond.fieldLink RX5 9 "CamDrum$Machine" "steps" "I") ∈ wsG := wsT1 _ (List.mem_of_getElem? (i := 151) (by decide +kernel)) rfl
theorem w_fl_X7_223 : (Cond.fieldLink RX7 223 "CamDrum$Machine" "steps" "I") ∈ wsG := wsT1 _ (List.mem_of_getElem? (i := 152) (by decide +kernel)) rfl
theorem w_fl_X5_53 : (Cond.fieldLink RX5 53 "CamDrum$Machine" "step" "I") ∈ wsG := wsT1 _ (List.mem_of_getElem? (i := 153) (by decide +kernel)) rfl
theorem w_fl_X7_140 : (Cond.fieldLink RX7 140 "CamDrum$Machine" "step" "I") ∈ wsG := wsT1 _ (List.mem_of_getElem? (i := 154) (by decide +kernel)) rfl
theorem w_fl_X5_56 : (Cond.fieldLink RX5 56 "CamDrum$Machine" "stand" "I") ∈ wsG := wsT1 _ (List.mem_of_getElem? (i := 155) (by decide +kernel)) rfl
theorem w_fl_X5_15 : (Cond.fieldLink RX5 15 "CamDrum$Machine" "dwell" "I") ∈ wsG := wsT1 _ (List.mem_of_getElem? (i := 156) (by decide +kernel)) rfl
theorem w_fl_X7_66 : (Cond.fieldLink RX7 66 "CamDrum$Machine" "dwell" "I") ∈ wsG := wsT1 _ (List.mem_of_getElem? (i := 157) (by decide +kernel)) rfl
theorem w_fl_X5_18 : (Cond.fieldLink RX5 18 "CamDrum$Machine" "least" "I") ∈ wsG := wsT1 _ (List.mem_of_getElem? (i := 158) (by decide +kernel)) rfl
theorem w_fl_X7_70 : (Cond.fieldLink RX7 70 "CamDrum$Machine" "least" "I") ∈ wsG := wsT1 _ (List.mem_of_getElem? (i := 159) (by decide +kernel)) rfl
theorem w_fl_X5_59 : (Cond.fieldLink RX5 59 "CamDrum$Machine" "ticks" "I") ∈ wsG := wsT1 _ (List.mem_of_getElem? (i := 160) (by decide +kernel)) rfl
theorem w_fl_X7_148 : (Cond.fieldLink RX7 148 "CamDrum$Machine" "ticks" "I") ∈ wsG := wsT1 _ (List.mem_of_getElem? (i := 161) (by decide +kernel)) rfl
theorem w_fl_X5_62 : (Cond.fieldLink RX5 62 "CamDrum$Machine" "cycles" "I") ∈ wsG := wsT1 _ (List.mem_of_getElem? (i := 162) (by decide +kernel)) rfl
theorem w_fl_X7_154 : (Cond.fieldLink RX7 154 "CamDrum$Machine" "cycles" "I") ∈ wsG := wsT1 _ (List.mem_of_getElem? (i := 163) (by decide +kernel)) rfl
theorem w_fl_X5_65 : (Cond.fieldLink RX5 65 "CamDrum$Machine" "skipped" "I") ∈ wsG := wsT1 _ (List.mem_of_getElem? (i := 164) (by decide +kernel)) rfl
theorem w_fl_X5_21 : (Cond.fieldLink RX5 21 "CamDrum$Machine" "tracks" "[I") ∈ wsG := wsT1 _ (List.mem_of_getElem? (i := 165) (by decide +kernel)) rfl
theorem w_fl_X5_28 : (Cond.fieldLink RX5 28 "CamDrum$Machine" "air" "LCamDrum$Air;") ∈ wsG := wsT1 _ (List.mem_of_getElem? (i := 166) (by decide +kernel)) rfl
theorem w_fl_X7_96 : (Cond.fieldLink RX7 96 "CamDrum$Machine" "air" "LCamDrum$Air;") ∈ wsG := wsT1 _ (List.mem_of_getElem? (i := 167) (by decide +kernel)) rfl
theorem w_fl_X5_35 : (Cond.fieldLink RX5 35 "CamDrum$Machine" "cylinders" "LCamDrum$Cylinders;") ∈ wsG := wsT1 _ (List.mem_of_getElem? (i := 168) (by decide +kernel)) rfl
theorem w_fl_X7_75 : (Cond.fieldLink RX7 75 "CamDrum$Machine" "cylinders" "LCamDrum$Cylinders;") ∈ wsG := wsT1 _ (List.mem_of_getElem? (i := 169) (by decide +kernel)) rfl
theorem w_fl_X5_42 : (Cond.fieldLink RX5 42 "CamDrum$Machine" "guards" "LCamDrum$Guards;") ∈ wsG := wsT1 _ (List.mem_of_getElem? (i := 170) (by decide +kernel)) rfl
theorem w_fl_X7_116 : (Cond.fieldLink RX7 116 "CamDrum$Machine" "guards" "LCamDrum$Guards;") ∈ wsG := wsT1 _ (List.mem_of_getElem? (i := 171) (by decide +kernel)) rfl
theorem w_fl_X5_49 : (Cond.fieldLink RX5 49 "CamDrum$Machine" "chart" "LCamDrum$Chart;") ∈ wsG := wsT1 _ (List.mem_of_getElem? (i := 172) (by decide +kernel)) rfl
theorem w_fl_X7_179 : (Cond.fieldLink RX7 179 "CamDrum$Machine" "chart" "LCamDrum$Chart;") ∈ wsG := wsT1 _ (List.mem_of_getElem? (i := 173) (by decide +kernel)) rfl
theorem w_ly_X5_steps : (Cond.lays "CamDrum$Machine" "CamDrum$Machine" "steps" "I") ∈ wsG := wsT1 _ (List.mem_of_getElem? (i := 174) (by decide +kernel)) rfl
theorem w_ly_X5_step : (Cond.lays "CamDrum$Machine" "CamDrum$Machine" "step" "I") ∈ wsG := wsT1 _ (List.mem_of_getElem? (i := 176) (by decide +kernel)) rfl
theorem w_ly_X5_stand : (Cond.lays "CamDrum$Machine" "CamDrum$Machine" "stand" "I") ∈ wsG := wsT1 _ (List.mem_of_getElem? (i := 178) (by decide +kernel)) rfl
theorem w_ly_X5_dwell : (Cond.lays "CamDrum$Machine" "CamDrum$Machine" "dwell" "I") ∈ wsG := wsT1 _ (List.mem_of_getElem? (i := 180) (by decide +kernel)) rfl
theorem w_ly_X5_least : (Cond.lays "CamDrum$Machine" "CamDrum$Machine" "least" "I") ∈ wsG := wsT1 _ (List.mem_of_getElem? (i := 182) (by decide +kernel)) rfl
theorem w_ly_X5_ticks : (Cond.lays "CamDrum$Machine" "CamDrum$Machine" "ticks" "I") ∈ wsG := wsT1 _ (List.mem_of_getElem? (i := 184) (by decide +kernel)) rfl
theorem w_ly_X5_cycles : (Cond.lays "CamDrum$Machine" "CamDrum$Machine" "cycles" "I") ∈ wsG := wsT1 _ (List.mem_of_getElem? (i := 186) (by decide +kernel)) rfl
theorem w_ly_X5_skipped : (Cond.lays "CamDrum$Machine" "CamDrum$Machine" "skipped" "I") ∈ wsG := wsT1 _ (List.mem_of_getElem? (i := 188) (by decide +kernel)) rfl
theorem w_ly_X5_tracks : (Cond.laysFinal "CamDrum$Machine" "CamDrum$Machine" "tracks" "[I") ∈ wsG := wsT1 _ (List.mem_of_getElem? (i := 190) (by decide +kernel)) rfl
theorem w_ly_X5_air : (Cond.laysFinal "CamDrum$Machine" "CamDrum$Machine" "air" "LCamDrum$Air;") ∈ wsG := wsT1 _ (List.mem_of_getElem? (i := 192) (by decide +kernel)) rfl
theorem w_ly_X5_cylinders : (Cond.laysFinal "CamDrum$Machine" "CamDrum$Machine" "cylinders" "LCamDrum$Cylinders;") ∈ wsG := wsT1 _ (List.mem_of_getElem? (i := 194) (by decide +kernel)) rfl
theorem w_ly_X5_guards : (Cond.laysFinal "CamDrum$Machine" "CamDrum$Machine" "guards" "LCamDrum$Guards;") ∈ wsG := wsT1 _ (List.mem_of_getElem? (i := 196) (by decide +kernel)) rfl
theorem w_ly_X5_chart : (Cond.laysFinal "CamDrum$Machine" "CamDrum$Machine" "chart" "LCamDrum$Chart;") ∈ wsG := wsT1 _ (List.mem_of_getElem? (i := 198) (by decide +kernel)) rfl
theorem w_cl_X7_16 : (Cond.classLink RX7 16 RX4) ∈ wsG := wsT1 _ (List.mem_of_getElem? (i := 201) (by decide +kernel)) rfl
theorem w_is_X4 : (Cond.instantiable RX4 3) ∈ wsG := wsT1 _ (List.mem_of_getElem? (i := 202) (by decide +kernel)) rfl
theorem w_ml_X7_18 : (Cond.methodLink RX7 18 yX4_init) ∈ wsG := wsT1 _ (List.mem_of_getElem? (i := 203) (by decide +kernel)) rfl
theorem w_im_yX4_init : (Cond.instanceMethod yX4_init) ∈ wsG := wsT1 _ (List.mem_of_getElem? (i := 204) (by decide +kernel)) rfl
theorem w_co_yX4_init : (Cond.code yX4_init cX4_init 2 none) ∈ wsG := wsT1 _ (List.mem_of_getElem? (i := 205) (by decide +kernel)) rfl
theorem w_ml_X4_3 : (Cond.methodLink RX4 3 objectInit) ∈ wsG := wsT1 _ (List.mem_of_getElem? (i := 206) (by decide +kernel)) rfl
theorem w_cl_X4_9 : (Cond.classLink RX4 9 RX5) ∈ wsG := wsT1 _ (List.mem_of_getElem? (i := 207) (by decide +kernel)) rfl
theorem w_fl_X4_11 : (Cond.fieldLink RX4 11 "CamDrum$History" "kept" "[LCamDrum$Machine;") ∈ wsG := wsT1 _ (List.mem_of_getElem? (i := 210) (by decide +kernel)) rfl
theorem w_fl_X4_18 : (Cond.fieldLink RX4 18 "CamDrum$History" "newest" "I") ∈ wsG := wsT1 _ (List.mem_of_getElem? (i := 211) (by decide +kernel)) rfl
theorem w_fl_X4_22 : (Cond.fieldLink RX4 22 "CamDrum$History" "count" "I") ∈ wsG := wsT1 _ (List.mem_of_getElem? (i := 212) (by decide +kernel)) rfl
theorem w_fl_X7_236 : (Cond.fieldLink RX7 236 "CamDrum$History" "count" "I") ∈ wsG := wsT1 _ (List.mem_of_getElem? (i := 213) (by decide +kernel)) rfl
theorem w_ly_X4_kept : (Cond.laysFinal "CamDrum$History" "CamDrum$History" "kept" "[LCamDrum$Machine;") ∈ wsG := wsT1 _ (List.mem_of_getElem? (i := 214) (by decide +kernel)) rfl
theorem w_ly_X4_newest : (Cond.lays "CamDrum$History" "CamDrum$History" "newest" "I") ∈ wsG := wsT1 _ (List.mem_of_getElem? (i := 216) (by decide +kernel)) rfl
theorem w_ly_X4_count : (Cond.lays "CamDrum$History" "CamDrum$History" "count" "I") ∈ wsG := wsT1 _ (List.mem_of_getElem? (i := 218) (by decide +kernel)) rfl
theorem w_cl_X7_23 : (Cond.classLink RX7 23 RX6) ∈ wsG := wsT1 _ (List.mem_of_getElem? (i := 221) (by decide +kernel)) rfl
theorem w_is_X6 : (Cond.instantiable RX6 6) ∈ wsG := wsT1 _ (List.mem_of_getElem? (i := 222) (by decide +kernel)) rfl
theorem w_im_yX6_init : (Cond.instanceMethod yX6_init) ∈ wsG := wsT1 _ (List.mem_of_getElem? (i := 224) (by decide +kernel)) rfl
theorem w_co_yX6_init : (Cond.code yX6_init cX6_init 1 none) ∈ wsG := wsT1 _ (List.mem_of_getElem? (i := 225) (by decide +kernel)) rfl
theorem w_ml_X6_3 : (Cond.methodLink RX6 3 objectInit) ∈ wsG := wsT1 _ (List.mem_of_getElem? (i := 226) (by decide +kernel)) rfl
theorem w_fl_X6_9 : (Cond.fieldLink RX6 9 "CamDrum$TrackText" "bytes" "[I") ∈ wsG := wsT1 _ (List.mem_of_getElem? (i := 227) (by decide +kernel)) rfl
theorem w_fl_X6_41 : (Cond.fieldLink RX6 41 "CamDrum$TrackText" "length" "I") ∈ wsG := wsT1 _ (List.mem_of_getElem? (i := 228) (by decide +kernel)) rfl
theorem w_fl_X7_216 : (Cond.fieldLink RX7 216 "CamDrum$TrackText" "length" "I") ∈ wsG := wsT1 _ (List.mem_of_getElem? (i := 229) (by decide +kernel)) rfl
theorem w_fl_X6_15 : (Cond.fieldLink RX6 15 "CamDrum$TrackText" "tracks" "[I") ∈ wsG := wsT1 _ (List.mem_of_getElem? (i := 230) (by decide +kernel)) rfl
theorem w_fl_X5_94 : (Cond.fieldLink RX5 94 "CamDrum$TrackText" "tracks" "[I") ∈ wsG := wsT1 _ (List.mem_of_getElem? (i := 231) (by decide +kernel)) rfl
theorem w_fl_X6_18 : (Cond.fieldLink RX6 18 "CamDrum$TrackText" "steps" "I") ∈ wsG := wsT1 _ (List.mem_of_getElem? (i := 232) (by decide +kernel)) rfl
theorem w_fl_X5_91 : (Cond.fieldLink RX5 91 "CamDrum$TrackText" "steps" "I") ∈ wsG := wsT1 _ (List.mem_of_getElem? (i := 233) (by decide +kernel)) rfl
theorem w_fl_X6_22 : (Cond.fieldLink RX6 22 "CamDrum$TrackText" "fault" "I") ∈ wsG := wsT1 _ (List.mem_of_getElem? (i := 234) (by decide +kernel)) rfl
theorem w_fl_X7_229 : (Cond.fieldLink RX7 229 "CamDrum$TrackText" "fault" "I") ∈ wsG := wsT1 _ (List.mem_of_getElem? (i := 235) (by decide +kernel)) rfl
theorem w_fl_X6_25 : (Cond.fieldLink RX6 25 "CamDrum$TrackText" "at" "I") ∈ wsG := wsT1 _ (List.mem_of_getElem? (i := 236) (by decide +kernel)) rfl
theorem w_ly_X6_bytes : (Cond.laysFinal "CamDrum$TrackText" "CamDrum$TrackText" "bytes" "[I") ∈ wsG := wsT1 _ (List.mem_of_getElem? (i := 237) (by decide +kernel)) rfl
theorem w_ly_X6_length : (Cond.lays "CamDrum$TrackText" "CamDrum$TrackText" "length" "I") ∈ wsG := wsT1 _ (List.mem_of_getElem? (i := 239) (by decide +kernel)) rfl
theorem w_ly_X6_tracks : (Cond.laysFinal "CamDrum$TrackText" "CamDrum$TrackText" "tracks" "[I") ∈ wsG := wsT2 _ (List.mem_of_getElem? (i := 1) (by decide +kernel)) rfl
theorem w_ly_X6_steps : (Cond.lays "CamDrum$TrackText" "CamDrum$TrackText" "steps" "I") ∈ wsG := wsT2 _ (List.mem_of_getElem? (i := 3) (by decide +kernel)) rfl
theorem w_ly_X6_fault : (Cond.lays "CamDrum$TrackText" "CamDrum$TrackText" "fault" "I") ∈ wsG := wsT2 _ (List.mem_of_getElem? (i := 5) (by decide +kernel)) rfl
theorem w_ly_X6_at : (Cond.lays "CamDrum$TrackText" "CamDrum$TrackText" "at" "I") ∈ wsG := wsT2 _ (List.mem_of_getElem? (i := 7) (by decide +kernel)) rfl
theorem w_fl_X7_10 : (Cond.fieldLink RX7 10 "CamDrum" "now" "LCamDrum$Machine;") ∈ wsG := wsT2 _ (List.mem_of_getElem? (i := 10) (by decide +kernel)) rfl
theorem w_fl_X7_19 : (Cond.fieldLink RX7 19 "CamDrum" "history" "LCamDrum$History;") ∈ wsG := wsT2 _ (List.mem_of_getElem? (i := 11) (by decide +kernel)) rfl
theorem w_fl_X7_26 : (Cond.fieldLink RX7 26 "CamDrum" "text" "LCamDrum$TrackText;") ∈ wsG := wsT2 _ (List.mem_of_getElem? (i := 12) (by decide +kernel)) rfl
theorem w_fl_X7_30 : (Cond.fieldLink RX7 30 "CamDrum" "trial" "LCamDrum$Machine;") ∈ wsG := wsT2 _ (List.mem_of_getElem? (i := 13) (by decide +kernel)) rfl
theorem w_fl_X7_33 : (Cond.fieldLink RX7 33 "CamDrum" "earlier" "LCamDrum$Machine;") ∈ wsG := wsT2 _ (List.mem_of_getElem? (i := 14) (by decide +kernel)) rfl
theorem w_ly_X7_now : (Cond.laysFinal "CamDrum" "CamDrum" "now" "LCamDrum$Machine;") ∈ wsG := wsT2 _ (List.mem_of_getElem? (i := 15) (by decide +kernel)) rfl
theorem w_ly_X7_history : (Cond.laysFinal "CamDrum" "CamDrum" "history" "LCamDrum$History;") ∈ wsG := wsT2 _ (List.mem_of_getElem? (i := 17) (by decide +kernel)) rfl
theorem w_ly_X7_text : (Cond.laysFinal "CamDrum" "CamDrum" "text" "LCamDrum$TrackText;") ∈ wsG := wsT2 _ (List.mem_of_getElem? (i := 19) (by decide +kernel)) rfl
theorem w_ly_X7_trial : (Cond.laysFinal "CamDrum" "CamDrum" "trial" "LCamDrum$Machine;") ∈ wsG := wsT2 _ (List.mem_of_getElem? (i := 21) (by decide +kernel)) rfl
theorem w_ly_X7_earlier : (Cond.laysFinal "CamDrum" "CamDrum" "earlier" "LCamDrum$Machine;") ∈ wsG := wsT2 _ (List.mem_of_getElem? (i := 23) (by decide +kernel)) rfl
theorem w_ml_L_135 : (Cond.methodLink RL 135 yX7_ticksToCycle) ∈ wsG := wsT2 _ (List.mem_of_getElem? (i := 26) (by decide +kernel)) rfl
theorem w_im_yX7_ticksToCycle : (Cond.instanceMethod yX7_ticksToCycle) ∈ wsG := wsT2 _ (List.mem_of_getElem? (i := 27) (by decide +kernel)) rfl
theorem w_se_yX7_ticksToCycle : (Cond.selects RX7 yX7_ticksToCycle yX7_ticksToCycle) ∈ wsG := wsT2 _ (List.mem_of_getElem? (i := 28) (by decide +kernel)) rfl
theorem w_co_yX7_ticksToCycle : (Cond.code yX7_ticksToCycle cX7_ticksToCycle 1 (some FieldType.int)) ∈ wsG := wsT2 _ (List.mem_of_getElem? (i := 29) (by decide +kernel)) rfl
theorem w_ml_X7_191 : (Cond.methodLink RX7 191 yX5_copyFrom) ∈ wsG := wsT2 _ (List.mem_of_getElem? (i := 30) (by decide +kernel)) rfl
theorem w_im_yX5_copyFrom : (Cond.instanceMethod yX5_copyFrom) ∈ wsG := wsT2 _ (List.mem_of_getElem? (i := 31) (by decide +kernel)) rfl
theorem w_se_yX5_copyFrom : (Cond.selects RX5 yX5_copyFrom yX5_copyFrom) ∈ wsG := wsT2 _ (List.mem_of_getElem? (i := 32) (by decide +kernel)) rfl
theorem w_co_yX5_copyFrom : (Cond.code yX5_copyFrom cX5_copyFrom 2 none) ∈ wsG := wsT2 _ (List.mem_of_getElem? (i := 33) (by decide +kernel)) rfl
theorem w_st_yX7_copyRow : (Cond.static yX7_copyRow) ∈ wsG := wsT2 _ (List.mem_of_getElem? (i := 35) (by decide +kernel)) rfl
theorem w_co_yX7_copyRow : (Cond.code yX7_copyRow cX7_copyRow 2 none) ∈ wsG := wsT2 _ (List.mem_of_getElem? (i := 36) (by decide +kernel)) rfl
theorem w_ml_X7_268 : (Cond.methodLink RX7 268 Lib.Math.min.name) ∈ wsG := wsT2 _ (List.mem_of_getElem? (i := 37) (by decide +kernel)) rfl
theorem w_st_Mmin : (Cond.static Lib.Math.min.name) ∈ wsG := wsT2 _ (List.mem_of_getElem? (i := 38) (by decide +kernel)) rfl
theorem w_co_Mmin : (Cond.code Lib.Math.min.name Lib.Math.min.code 2 (some FieldType.int)) ∈ wsG := wsT2 _ (List.mem_of_getElem? (i := 39) (by decide +kernel)) rfl
theorem w_ml_X7_289 : (Cond.methodLink RX7 289 arraycopyName) ∈ wsG := wsT2 _ (List.mem_of_getElem? (i := 40) (by decide +kernel)) rfl
theorem w_st_arraycopyName : (Cond.static arraycopyName) ∈ wsG := wsT2 _ (List.mem_of_getElem? (i := 41) (by decide +kernel)) rfl
theorem w_na_arraycopyName : (Cond.native arraycopyName) ∈ wsG := wsT2 _ (List.mem_of_getElem? (i := 42) (by decide +kernel)) rfl
theorem w_ml_X5_72 : (Cond.methodLink RX5 72 yX0_copyFrom) ∈ wsG := wsT2 _ (List.mem_of_getElem? (i := 43) (by decide +kernel)) rfl
theorem w_im_yX0_copyFrom : (Cond.instanceMethod yX0_copyFrom) ∈ wsG := wsT2 _ (List.mem_of_getElem? (i := 44) (by decide +kernel)) rfl
theorem w_se_yX0_copyFrom : (Cond.selects RX0 yX0_copyFrom yX0_copyFrom) ∈ wsG := wsT2 _ (List.mem_of_getElem? (i := 45) (by decide +kernel)) rfl
theorem w_co_yX0_copyFrom : (Cond.code yX0_copyFrom cX0_copyFrom 2 none) ∈ wsG := wsT2 _ (List.mem_of_getElem? (i := 46) (by decide +kernel)) rfl
theorem w_ml_X5_76 : (Cond.methodLink RX5 76 yX2_copyFrom) ∈ wsG := wsT2 _ (List.mem_of_getElem? (i := 47) (by decide +kernel)) rfl
theorem w_im_yX2_copyFrom : (Cond.instanceMethod yX2_copyFrom) ∈ wsG := wsT2 _ (List.mem_of_getElem? (i := 48) (by decide +kernel)) rfl
theorem w_se_yX2_copyFrom : (Cond.selects RX2 yX2_copyFrom yX2_copyFrom) ∈ wsG := wsT2 _ (List.mem_of_getElem? (i := 49) (by decide +kernel)) rfl
theorem w_co_yX2_copyFrom : (Cond.code yX2_copyFrom cX2_copyFrom 2 none) ∈ wsG := wsT2 _ (List.mem_of_getElem? (i := 50) (by decide +kernel)) rfl
theorem w_ml_X5_79 : (Cond.methodLink RX5 79 yX3_copyFrom) ∈ wsG := wsT2 _ (List.mem_of_getElem? (i := 52) (by decide +kernel)) rfl
theorem w_im_yX3_copyFrom : (Cond.instanceMethod yX3_copyFrom) ∈ wsG := wsT2 _ (List.mem_of_getElem? (i := 53) (by decide +kernel)) rfl
theorem w_se_yX3_copyFrom : (Cond.selects RX3 yX3_copyFrom yX3_copyFrom) ∈ wsG := wsT2 _ (List.mem_of_getElem? (i := 54) (by decide +kernel)) rfl
theorem w_co_yX3_copyFrom : (Cond.code yX3_copyFrom cX3_copyFrom 2 none) ∈ wsG := wsT2 _ (List.mem_of_getElem? (i := 55) (by decide +kernel)) rfl
theorem w_ml_X5_82 : (Cond.methodLink RX5 82 yX1_copyFrom) ∈ wsG := wsT2 _ (List.mem_of_getElem? (i := 57) (by decide +kernel)) rfl
theorem w_im_yX1_copyFrom : (Cond.instanceMethod yX1_copyFrom) ∈ wsG := wsT2 _ (List.mem_of_getElem? (i := 58) (by decide +kernel)) rfl
theorem w_se_yX1_copyFrom : (Cond.selects RX1 yX1_copyFrom yX1_copyFrom) ∈ wsG := wsT2 _ (List.mem_of_getElem? (i := 59) (by decide +kernel)) rfl
theorem w_co_yX1_copyFrom : (Cond.code yX1_copyFrom cX1_copyFrom 2 none) ∈ wsG := wsT2 _ (List.mem_of_getElem? (i := 60) (by decide +kernel)) rfl
theorem w_ml_X7_194 : (Cond.methodLink RX7 194 yX5_tickUntilCycleEnds) ∈ wsG := wsT2 _ (List.mem_of_getElem? (i := 62) (by decide +kernel)) rfl
theorem w_im_yX5_tickUntilCycleEnds : (Cond.instanceMethod yX5_tickUntilCycleEnds) ∈ wsG := wsT2 _ (List.mem_of_getElem? (i := 63) (by decide +kernel)) rfl
theorem w_se_yX5_tickUntilCycleEnds : (Cond.selects RX5 yX5_tickUntilCycleEnds yX5_tickUntilCycleEnds) ∈ wsG := wsT2 _ (List.mem_of_getElem? (i := 64) (by decide +kernel)) rfl
theorem w_co_yX5_tickUntilCycleEnds : (Cond.code yX5_tickUntilCycleEnds cX5_tickUntilCycleEnds 3 (some FieldType.int)) ∈ wsG := wsT2 _ (List.mem_of_getElem? (i := 65) (by decide +kernel)) rfl
theorem w_ml_X5_187 : (Cond.methodLink RX5 187 yX5_tick) ∈ wsG := wsT2 _ (List.mem_of_getElem? (i := 66) (by decide +kernel)) rfl
theorem w_im_yX5_tick : (Cond.instanceMethod yX5_tick) ∈ wsG := wsT2 _ (List.mem_of_getElem? (i := 67) (by decide +kernel)) rfl
theorem w_se_yX5_tick : (Cond.selects RX5 yX5_tick yX5_tick) ∈ wsG := wsT2 _ (List.mem_of_getElem? (i := 68) (by decide +kernel)) rfl
theorem w_co_yX5_tick : (Cond.code yX5_tick cX5_tick 3 (some FieldType.int)) ∈ wsG := wsT2 _ (List.mem_of_getElem? (i := 69) (by decide +kernel)) rfl
theorem w_ml_X5_102 : (Cond.methodLink RX5 102 yX0_compress) ∈ wsG := wsT2 _ (List.mem_of_getElem? (i := 70) (by decide +kernel)) rfl
theorem w_im_yX0_compress : (Cond.instanceMethod yX0_compress) ∈ wsG := wsT2 _ (List.mem_of_getElem? (i := 71) (by decide +kernel)) rfl
theorem w_se_yX0_compress : (Cond.selects RX0 yX0_compress yX0_compress) ∈ wsG := wsT2 _ (List.mem_of_getElem? (i := 72) (by decide +kernel)) rfl
theorem w_co_yX0_compress : (Cond.code yX0_compress cX0_compress 1 none) ∈ wsG := wsT2 _ (List.mem_of_getElem? (i := 73) (by decide +kernel)) rfl
theorem w_ml_X0_33 : (Cond.methodLink RX0 33 yX0_letOffSurplus) ∈ wsG := wsT2 _ (List.mem_of_getElem? (i := 74) (by decide +kernel)) rfl
theorem w_im_yX0_letOffSurplus : (Cond.instanceMethod yX0_letOffSurplus) ∈ wsG := wsT2 _ (List.mem_of_getElem? (i := 75) (by decide +kernel)) rfl
theorem w_se_yX0_letOffSurplus : (Cond.selects RX0 yX0_letOffSurplus yX0_letOffSurplus) ∈ wsG := wsT2 _ (List.mem_of_getElem? (i := 76) (by decide +kernel)) rfl
theorem w_co_yX0_letOffSurplus : (Cond.code yX0_letOffSurplus cX0_letOffSurplus 2 none) ∈ wsG := wsT2 _ (List.mem_of_getElem? (i := 77) (by decide +kernel)) rfl
theorem w_ml_X0_36 : (Cond.methodLink RX0 36 Lib.Math.max.name) ∈ wsG := wsT2 _ (List.mem_of_getElem? (i := 78) (by decide +kernel)) rfl
theorem w_st_Mmax : (Cond.static Lib.Math.max.name) ∈ wsG := wsT2 _ (List.mem_of_getElem? (i := 79) (by decide +kernel)) rfl
theorem w_co_Mmax : (Cond.code Lib.Math.max.name Lib.Math.max.code 2 (some FieldType.int)) ∈ wsG := wsT2 _ (List.mem_of_getElem? (i := 80) (by decide +kernel)) rfl
theorem w_ml_X5_105 : (Cond.methodLink RX5 105 yX5_moveDrum) ∈ wsG := wsT2 _ (List.mem_of_getElem? (i := 81) (by decide +kernel)) rfl
theorem w_im_yX5_moveDrum : (Cond.instanceMethod yX5_moveDrum) ∈ wsG := wsT2 _ (List.mem_of_getElem? (i := 83) (by decide +kernel)) rfl
theorem w_co_yX5_moveDrum : (Cond.code yX5_moveDrum cX5_moveDrum 1 (some FieldType.int)) ∈ wsG := wsT2 _ (List.mem_of_getElem? (i := 84) (by decide +kernel)) rfl
theorem w_ml_X5_132 : (Cond.methodLink RX5 132 yX1_countSkip) ∈ wsG := wsT2 _ (List.mem_of_getElem? (i := 85) (by decide +kernel)) rfl
theorem w_im_yX1_countSkip : (Cond.instanceMethod yX1_countSkip) ∈ wsG := wsT2 _ (List.mem_of_getElem? (i := 86) (by decide +kernel)) rfl
theorem w_se_yX1_countSkip : (Cond.selects RX1 yX1_countSkip yX1_countSkip) ∈ wsG := wsT2 _ (List.mem_of_getElem? (i := 87) (by decide +kernel)) rfl
theorem w_co_yX1_countSkip : (Cond.code yX1_countSkip cX1_countSkip 2 none) ∈ wsG := wsT2 _ (List.mem_of_getElem? (i := 88) (by decide +kernel)) rfl
theorem w_st_yX7_within : (Cond.static yX7_within) ∈ wsG := wsT2 _ (List.mem_of_getElem? (i := 90) (by decide +kernel)) rfl
theorem w_co_yX7_within : (Cond.code yX7_within cX7_within 3 (some FieldType.boolean)) ∈ wsG := wsT2 _ (List.mem_of_getElem? (i := 91) (by decide +kernel)) rfl
theorem w_ml_X5_95 : (Cond.methodLink RX5 95 yX5_standAt) ∈ wsG := wsT2 _ (List.mem_of_getElem? (i := 92) (by decide +kernel)) rfl
theorem w_im_yX5_standAt : (Cond.instanceMethod yX5_standAt) ∈ wsG := wsT2 _ (List.mem_of_getElem? (i := 93) (by decide +kernel)) rfl
theorem w_se_yX5_standAt : (Cond.selects RX5 yX5_standAt yX5_standAt) ∈ wsG := wsT2 _ (List.mem_of_getElem? (i := 94) (by decide +kernel)) rfl
theorem w_co_yX5_standAt : (Cond.code yX5_standAt cX5_standAt 2 none) ∈ wsG := wsT2 _ (List.mem_of_getElem? (i := 95) (by decide +kernel)) rfl
theorem w_ml_X5_109 : (Cond.methodLink RX5 109 yX5_hasCam) ∈ wsG := wsT2 _ (List.mem_of_getElem? (i := 96) (by decide +kernel)) rfl
theorem w_im_yX5_hasCam : (Cond.instanceMethod yX5_hasCam) ∈ wsG := wsT2 _ (List.mem_of_getElem? (i := 97) (by decide +kernel)) rfl
theorem w_se_yX5_hasCam : (Cond.selects RX5 yX5_hasCam yX5_hasCam) ∈ wsG := wsT2 _ (List.mem_of_getElem? (i := 98) (by decide +kernel)) rfl
theorem w_co_yX5_hasCam : (Cond.code yX5_hasCam cX5_hasCam 3 (some FieldType.boolean)) ∈ wsG := wsT2 _ (List.mem_of_getElem? (i := 99) (by decide +kernel)) rfl
theorem w_ml_X5_113 : (Cond.methodLink RX5 113 yX5_moveOut) ∈ wsG := wsT2 _ (List.mem_of_getElem? (i := 100) (by decide +kernel)) rfl
theorem w_im_yX5_moveOut : (Cond.instanceMethod yX5_moveOut) ∈ wsG := wsT2 _ (List.mem_of_getElem? (i := 102) (by decide +kernel)) rfl
theorem w_co_yX5_moveOut : (Cond.code yX5_moveOut cX5_moveOut 4 none) ∈ wsG := wsT2 _ (List.mem_of_getElem? (i := 103) (by decide +kernel)) rfl
theorem w_ml_X5_138 : (Cond.methodLink RX5 138 yX5_roomByGuards) ∈ wsG := wsT2 _ (List.mem_of_getElem? (i := 104) (by decide +kernel)) rfl
theorem w_im_yX5_roomByGuards : (Cond.instanceMethod yX5_roomByGuards) ∈ wsG := wsT2 _ (List.mem_of_getElem? (i := 105) (by decide +kernel)) rfl
theorem w_se_yX5_roomByGuards : (Cond.selects RX5 yX5_roomByGuards yX5_roomByGuards) ∈ wsG := wsT2 _ (List.mem_of_getElem? (i := 106) (by decide +kernel)) rfl
theorem w_co_yX5_roomByGuards : (Cond.code yX5_roomByGuards cX5_roomByGuards 4 (some FieldType.int)) ∈ wsG := wsT2 _ (List.mem_of_getElem? (i := 107) (by decide +kernel)) rfl
theorem w_ml_X5_177 : (Cond.methodLink RX5 177 yX5_holds) ∈ wsG := wsT2 _ (List.mem_of_getElem? (i := 108) (by decide +kernel)) rfl
theorem w_im_yX5_holds : (Cond.instanceMethod yX5_holds) ∈ wsG := wsT2 _ (List.mem_of_getElem? (i := 110) (by decide +kernel)) rfl
theorem w_co_yX5_holds : (Cond.code yX5_holds cX5_holds 3 (some FieldType.boolean)) ∈ wsG := wsT2 _ (List.mem_of_getElem? (i := 111) (by decide +kernel)) rfl
theorem w_ml_X5_141 : (Cond.methodLink RX5 141 Lib.Math.min.name) ∈ wsG := wsT2 _ (List.mem_of_getElem? (i := 112) (by decide +kernel)) rfl
theorem w_ml_X5_159 : (Cond.methodLink RX5 159 Lib.Math.max.name) ∈ wsG := wsT2 _ (List.mem_of_getElem? (i := 113) (by decide +kernel)) rfl
theorem w_ml_X5_150 : (Cond.methodLink RX5 150 yX0_enoughToMove) ∈ wsG := wsT2 _ (List.mem_of_getElem? (i := 114) (by decide +kernel)) rfl
theorem w_im_yX0_enoughToMove : (Cond.instanceMethod yX0_enoughToMove) ∈ wsG := wsT2 _ (List.mem_of_getElem? (i := 115) (by decide +kernel)) rfl
theorem w_se_yX0_enoughToMove : (Cond.selects RX0 yX0_enoughToMove yX0_enoughToMove) ∈ wsG := wsT2 _ (List.mem_of_getElem? (i := 116) (by decide +kernel)) rfl
theorem w_co_yX0_enoughToMove : (Cond.code yX0_enoughToMove cX0_enoughToMove 2 (some FieldType.int)) ∈ wsG := wsT2 _ (List.mem_of_getElem? (i := 117) (by decide +kernel)) rfl
theorem w_ml_X5_153 : (Cond.methodLink RX5 153 yX0_use) ∈ wsG := wsT2 _ (List.mem_of_getElem? (i := 118) (by decide +kernel)) rfl
theorem w_im_yX0_use : (Cond.instanceMethod yX0_use) ∈ wsG := wsT2 _ (List.mem_of_getElem? (i := 119) (by decide +kernel)) rfl
theorem w_se_yX0_use : (Cond.selects RX0 yX0_use yX0_use) ∈ wsG := wsT2 _ (List.mem_of_getElem? (i := 120) (by decide +kernel)) rfl
theorem w_co_yX0_use : (Cond.code yX0_use cX0_use 2 none) ∈ wsG := wsT2 _ (List.mem_of_getElem? (i := 121) (by decide +kernel)) rfl
theorem w_ml_X5_116 : (Cond.methodLink RX5 116 yX5_moveIn) ∈ wsG := wsT2 _ (List.mem_of_getElem? (i := 122) (by decide +kernel)) rfl
theorem w_im_yX5_moveIn : (Cond.instanceMethod yX5_moveIn) ∈ wsG := wsT2 _ (List.mem_of_getElem? (i := 124) (by decide +kernel)) rfl
theorem w_co_yX5_moveIn : (Cond.code yX5_moveIn cX5_moveIn 2 none) ∈ wsG := wsT2 _ (List.mem_of_getElem? (i := 125) (by decide +kernel)) rfl
theorem w_ml_X5_119 : (Cond.methodLink RX5 119 yX5_leakAt) ∈ wsG := wsT2 _ (List.mem_of_getElem? (i := 126) (by decide +kernel)) rfl
theorem w_im_yX5_leakAt : (Cond.instanceMethod yX5_leakAt) ∈ wsG := wsT2 _ (List.mem_of_getElem? (i := 128) (by decide +kernel)) rfl
theorem w_co_yX5_leakAt : (Cond.code yX5_leakAt cX5_leakAt 2 none) ∈ wsG := wsT2 _ (List.mem_of_getElem? (i := 129) (by decide +kernel)) rfl
theorem w_ml_X5_168 : (Cond.methodLink RX5 168 yX0_leakOut) ∈ wsG := wsT2 _ (List.mem_of_getElem? (i := 130) (by decide +kernel)) rfl
theorem w_im_yX0_leakOut : (Cond.instanceMethod yX0_leakOut) ∈ wsG := wsT2 _ (List.mem_of_getElem? (i := 131) (by decide +kernel)) rfl
theorem w_se_yX0_leakOut : (Cond.selects RX0 yX0_leakOut yX0_leakOut) ∈ wsG := wsT2 _ (List.mem_of_getElem? (i := 132) (by decide +kernel)) rfl
theorem w_co_yX0_leakOut : (Cond.code yX0_leakOut cX0_leakOut 3 (some FieldType.int)) ∈ wsG := wsT2 _ (List.mem_of_getElem? (i := 133) (by decide +kernel)) rfl
theorem w_ml_X0_42 : (Cond.methodLink RX0 42 Lib.Math.min.name) ∈ wsG := wsT2 _ (List.mem_of_getElem? (i := 134) (by decide +kernel)) rfl
theorem w_ml_X5_125 : (Cond.methodLink RX5 125 yX1_note) ∈ wsG := wsT2 _ (List.mem_of_getElem? (i := 135) (by decide +kernel)) rfl
theorem w_im_yX1_note : (Cond.instanceMethod yX1_note) ∈ wsG := wsT2 _ (List.mem_of_getElem? (i := 136) (by decide +kernel)) rfl
theorem w_se_yX1_note : (Cond.selects RX1 yX1_note yX1_note) ∈ wsG := wsT2 _ (List.mem_of_getElem? (i := 137) (by decide +kernel)) rfl
theorem w_co_yX1_note : (Cond.code yX1_note cX1_note 5 none) ∈ wsG := wsT2 _ (List.mem_of_getElem? (i := 138) (by decide +kernel)) rfl
theorem w_ml_L_142 : (Cond.methodLink RL 142 yX7_shortestDwell) ∈ wsG := wsT2 _ (List.mem_of_getElem? (i := 139) (by decide +kernel)) rfl
theorem w_im_yX7_shortestDwell : (Cond.instanceMethod yX7_shortestDwell) ∈ wsG := wsT2 _ (List.mem_of_getElem? (i := 140) (by decide +kernel)) rfl
theorem w_se_yX7_shortestDwell : (Cond.selects RX7 yX7_shortestDwell yX7_shortestDwell) ∈ wsG := wsT2 _ (List.mem_of_getElem? (i := 141) (by decide +kernel)) rfl
theorem w_co_yX7_shortestDwell : (Cond.code yX7_shortestDwell cX7_shortestDwell 2 (some FieldType.int)) ∈ wsG := wsT2 _ (List.mem_of_getElem? (i := 142) (by decide +kernel)) rfl
theorem w_ml_X7_200 : (Cond.methodLink RX7 200 yX7_dwellSuffices) ∈ wsG := wsT2 _ (List.mem_of_getElem? (i := 143) (by decide +kernel)) rfl
theorem w_im_yX7_dwellSuffices : (Cond.instanceMethod yX7_dwellSuffices) ∈ wsG := wsT2 _ (List.mem_of_getElem? (i := 145) (by decide +kernel)) rfl
theorem w_co_yX7_dwellSuffices : (Cond.code yX7_dwellSuffices cX7_dwellSuffices 5 (some FieldType.boolean)) ∈ wsG := wsT2 _ (List.mem_of_getElem? (i := 146) (by decide +kernel)) rfl
theorem w_ml_X7_143 : (Cond.methodLink RX7 143 yX5_standAt) ∈ wsG := wsT2 _ (List.mem_of_getElem? (i := 147) (by decide +kernel)) rfl
theorem w_ml_X7_277 : (Cond.methodLink RX7 277 yJ7_fill_53178) ∈ wsG := wsT2 _ (List.mem_of_getElem? (i := 148) (by decide +kernel)) rfl
theorem w_ml_X7_283 : (Cond.methodLink RX7 283 yX5_allDueAreOut) ∈ wsG := wsT2 _ (List.mem_of_getElem? (i := 149) (by decide +kernel)) rfl
theorem w_im_yX5_allDueAreOut : (Cond.instanceMethod yX5_allDueAreOut) ∈ wsG := wsT2 _ (List.mem_of_getElem? (i := 150) (by decide +kernel)) rfl
theorem w_se_yX5_allDueAreOut : (Cond.selects RX5 yX5_allDueAreOut yX5_allDueAreOut) ∈ wsG := wsT2 _ (List.mem_of_getElem? (i := 151) (by decide +kernel)) rfl
theorem w_co_yX5_allDueAreOut : (Cond.code yX5_allDueAreOut cX5_allDueAreOut 2 (some FieldType.boolean)) ∈ wsG := wsT2 _ (List.mem_of_getElem? (i := 152) (by decide +kernel)) rfl
theorem w_ml_X7_157 : (Cond.methodLink RX7 157 yX5_tick) ∈ wsG := wsT2 _ (List.mem_of_getElem? (i := 153) (by decide +kernel)) rfl
theorem w_ml_L_146 : (Cond.methodLink RL 146 yX7_repeats) ∈ wsG := wsT2 _ (List.mem_of_getElem? (i := 154) (by decide +kernel)) rfl
theorem w_im_yX7_repeats : (Cond.instanceMethod yX7_repeats) ∈ wsG := wsT2 _ (List.mem_of_getElem? (i := 155) (by decide +kernel)) rfl
theorem w_se_yX7_repeats : (Cond.selects RX7 yX7_repeats yX7_repeats) ∈ wsG := wsT2 _ (List.mem_of_getElem? (i := 156) (by decide +kernel)) rfl
theorem w_co_yX7_repeats : (Cond.code yX7_repeats cX7_repeats 2 (some FieldType.boolean)) ∈ wsG := wsT2 _ (List.mem_of_getElem? (i := 157) (by decide +kernel)) rfl
theorem w_ml_X7_204 : (Cond.methodLink RX7 204 yX5_standsAs) ∈ wsG := wsT2 _ (List.mem_of_getElem? (i := 158) (by decide +kernel)) rfl
theorem w_im_yX5_standsAs : (Cond.instanceMethod yX5_standsAs) ∈ wsG := wsT2 _ (List.mem_of_getElem? (i := 159) (by decide +kernel)) rfl
theorem w_se_yX5_standsAs : (Cond.selects RX5 yX5_standsAs yX5_standsAs) ∈ wsG := wsT2 _ (List.mem_of_getElem? (i := 160) (by decide +kernel)) rfl
theorem w_co_yX5_standsAs : (Cond.code yX5_standsAs cX5_standsAs 3 (some FieldType.boolean)) ∈ wsG := wsT2 _ (List.mem_of_getElem? (i := 161) (by decide +kernel)) rfl
theorem w_ml_L_151 : (Cond.methodLink RL 151 yX7_useful) ∈ wsG := wsT2 _ (List.mem_of_getElem? (i := 162) (by decide +kernel)) rfl
theorem w_im_yX7_useful : (Cond.instanceMethod yX7_useful) ∈ wsG := wsT2 _ (List.mem_of_getElem? (i := 163) (by decide +kernel)) rfl
theorem w_se_yX7_useful : (Cond.selects RX7 yX7_useful yX7_useful) ∈ wsG := wsT2 _ (List.mem_of_getElem? (i := 164) (by decide +kernel)) rfl
theorem w_co_yX7_useful : (Cond.code yX7_useful cX7_useful 1 (some FieldType.double)) ∈ wsG := wsT2 _ (List.mem_of_getElem? (i := 165) (by decide +kernel)) rfl
theorem w_ml_L_159 : (Cond.methodLink RL 159 yX7_clearText) ∈ wsG := wsT2 _ (List.mem_of_getElem? (i := 166) (by decide +kernel)) rfl
theorem w_im_yX7_clearText : (Cond.instanceMethod yX7_clearText) ∈ wsG := wsT2 _ (List.mem_of_getElem? (i := 167) (by decide +kernel)) rfl
theorem w_se_yX7_clearText : (Cond.selects RX7 yX7_clearText yX7_clearText) ∈ wsG := wsT2 _ (List.mem_of_getElem? (i := 168) (by decide +kernel)) rfl
theorem w_co_yX7_clearText : (Cond.code yX7_clearText cX7_clearText 2 (some FieldType.int)) ∈ wsG := wsT2 _ (List.mem_of_getElem? (i := 169) (by decide +kernel)) rfl
theorem w_ml_L_163 : (Cond.methodLink RL 163 yX7_parse) ∈ wsG := wsT2 _ (List.mem_of_getElem? (i := 170) (by decide +kernel)) rfl
theorem w_im_yX7_parse : (Cond.instanceMethod yX7_parse) ∈ wsG := wsT2 _ (List.mem_of_getElem? (i := 171) (by decide +kernel)) rfl
theorem w_se_yX7_parse : (Cond.selects RX7 yX7_parse yX7_parse) ∈ wsG := wsT2 _ (List.mem_of_getElem? (i := 172) (by decide +kernel)) rfl
theorem w_co_yX7_parse : (Cond.code yX7_parse cX7_parse 3 (some FieldType.int)) ∈ wsG := wsT2 _ (List.mem_of_getElem? (i := 173) (by decide +kernel)) rfl
theorem w_ml_X7_226 : (Cond.methodLink RX7 226 yX6_read) ∈ wsG := wsT2 _ (List.mem_of_getElem? (i := 174) (by decide +kernel)) rfl
theorem w_im_yX6_read : (Cond.instanceMethod yX6_read) ∈ wsG := wsT2 _ (List.mem_of_getElem? (i := 175) (by decide +kernel)) rfl
theorem w_se_yX6_read : (Cond.selects RX6 yX6_read yX6_read) ∈ wsG := wsT2 _ (List.mem_of_getElem? (i := 176) (by decide +kernel)) rfl
theorem w_co_yX6_read : (Cond.code yX6_read cX6_read 3 none) ∈ wsG := wsT2 _ (List.mem_of_getElem? (i := 177) (by decide +kernel)) rfl
theorem w_ml_X6_28 : (Cond.methodLink RX6 28 yJ7_fill_53178) ∈ wsG := wsT2 _ (List.mem_of_getElem? (i := 178) (by decide +kernel)) rfl
theorem w_ml_X6_34 : (Cond.methodLink RX6 34 yX6_byteAt) ∈ wsG := wsT2 _ (List.mem_of_getElem? (i := 179) (by decide +kernel)) rfl
theorem w_im_yX6_byteAt : (Cond.instanceMethod yX6_byteAt) ∈ wsG := wsT2 _ (List.mem_of_getElem? (i := 181) (by decide +kernel)) rfl
theorem w_co_yX6_byteAt : (Cond.code yX6_byteAt cX6_byteAt 2 (some FieldType.int)) ∈ wsG := wsT2 _ (List.mem_of_getElem? (i := 182) (by decide +kernel)) rfl
theorem w_ml_X6_38 : (Cond.methodLink RX6 38 yX6_readSteps) ∈ wsG := wsT2 _ (List.mem_of_getElem? (i := 183) (by decide +kernel)) rfl
theorem w_im_yX6_readSteps : (Cond.instanceMethod yX6_readSteps) ∈ wsG := wsT2 _ (List.mem_of_getElem? (i := 185) (by decide +kernel)) rfl
theorem w_co_yX6_readSteps : (Cond.code yX6_readSteps cX6_readSteps 5 none) ∈ wsG := wsT2 _ (List.mem_of_getElem? (i := 186) (by decide +kernel)) rfl
theorem w_ml_X6_51 : (Cond.methodLink RX6 51 yX6_isDigitAt) ∈ wsG := wsT2 _ (List.mem_of_getElem? (i := 187) (by decide +kernel)) rfl
theorem w_im_yX6_isDigitAt : (Cond.instanceMethod yX6_isDigitAt) ∈ wsG := wsT2 _ (List.mem_of_getElem? (i := 189) (by decide +kernel)) rfl
theorem w_co_yX6_isDigitAt : (Cond.code yX6_isDigitAt cX6_isDigitAt 2 (some FieldType.boolean)) ∈ wsG := wsT2 _ (List.mem_of_getElem? (i := 190) (by decide +kernel)) rfl
theorem w_ml_X6_55 : (Cond.methodLink RX6 55 yX6_passSign) ∈ wsG := wsT2 _ (List.mem_of_getElem? (i := 192) (by decide +kernel)) rfl
theorem w_im_yX6_passSign : (Cond.instanceMethod yX6_passSign) ∈ wsG := wsT2 _ (List.mem_of_getElem? (i := 194) (by decide +kernel)) rfl
theorem w_co_yX6_passSign : (Cond.code yX6_passSign cX6_passSign 2 none) ∈ wsG := wsT2 _ (List.mem_of_getElem? (i := 195) (by decide +kernel)) rfl
theorem w_ml_X6_44 : (Cond.methodLink RX6 44 yX6_readTrack) ∈ wsG := wsT2 _ (List.mem_of_getElem? (i := 196) (by decide +kernel)) rfl
theorem w_im_yX6_readTrack : (Cond.instanceMethod yX6_readTrack) ∈ wsG := wsT2 _ (List.mem_of_getElem? (i := 198) (by decide +kernel)) rfl
theorem w_co_yX6_readTrack : (Cond.code yX6_readTrack cX6_readTrack 4 none) ∈ wsG := wsT2 _ (List.mem_of_getElem? (i := 199) (by decide +kernel)) rfl
theorem w_ml_X7_43 : (Cond.methodLink RX7 43 yX4_save) ∈ wsG := wsT2 _ (List.mem_of_getElem? (i := 200) (by decide +kernel)) rfl
theorem w_im_yX4_save : (Cond.instanceMethod yX4_save) ∈ wsG := wsT2 _ (List.mem_of_getElem? (i := 201) (by decide +kernel)) rfl
theorem w_se_yX4_save : (Cond.selects RX4 yX4_save yX4_save) ∈ wsG := wsT2 _ (List.mem_of_getElem? (i := 202) (by decide +kernel)) rfl
theorem w_co_yX4_save : (Cond.code yX4_save cX4_save 3 none) ∈ wsG := wsT2 _ (List.mem_of_getElem? (i := 203) (by decide +kernel)) rfl
theorem w_ml_X4_25 : (Cond.methodLink RX4 25 Lib.Math.min.name) ∈ wsG := wsT2 _ (List.mem_of_getElem? (i := 204) (by decide +kernel)) rfl
theorem w_ml_X4_31 : (Cond.methodLink RX4 31 yX4_newestPlace) ∈ wsG := wsT2 _ (List.mem_of_getElem? (i := 205) (by decide +kernel)) rfl
theorem w_im_yX4_newestPlace : (Cond.instanceMethod yX4_newestPlace) ∈ wsG := wsT2 _ (List.mem_of_getElem? (i := 207) (by decide +kernel)) rfl
theorem w_co_yX4_newestPlace : (Cond.code yX4_newestPlace cX4_newestPlace 1 (some (FieldType.object "CamDrum$Machine"))) ∈ wsG := wsT2 _ (List.mem_of_getElem? (i := 208) (by decide +kernel)) rfl
theorem w_ml_X4_35 : (Cond.methodLink RX4 35 yX5_copyFrom) ∈ wsG := wsT2 _ (List.mem_of_getElem? (i := 210) (by decide +kernel)) rfl
theorem w_ml_X7_232 : (Cond.methodLink RX7 232 yX5_takeTracks) ∈ wsG := wsT2 _ (List.mem_of_getElem? (i := 211) (by decide +kernel)) rfl
theorem w_im_yX5_takeTracks : (Cond.instanceMethod yX5_takeTracks) ∈ wsG := wsT2 _ (List.mem_of_getElem? (i := 212) (by decide +kernel)) rfl
theorem w_se_yX5_takeTracks : (Cond.selects RX5 yX5_takeTracks yX5_takeTracks) ∈ wsG := wsT2 _ (List.mem_of_getElem? (i := 213) (by decide +kernel)) rfl
theorem w_co_yX5_takeTracks : (Cond.code yX5_takeTracks cX5_takeTracks 2 none) ∈ wsG := wsT2 _ (List.mem_of_getElem? (i := 214) (by decide +kernel)) rfl
theorem w_ml_X5_99 : (Cond.methodLink RX5 99 yX1_forget) ∈ wsG := wsT2 _ (List.mem_of_getElem? (i := 215) (by decide +kernel)) rfl
theorem w_im_yX1_forget : (Cond.instanceMethod yX1_forget) ∈ wsG := wsT2 _ (List.mem_of_getElem? (i := 216) (by decide +kernel)) rfl
theorem w_se_yX1_forget : (Cond.selects RX1 yX1_forget yX1_forget) ∈ wsG := wsT2 _ (List.mem_of_getElem? (i := 217) (by decide +kernel)) rfl
theorem w_co_yX1_forget : (Cond.code yX1_forget cX1_forget 1 none) ∈ wsG := wsT2 _ (List.mem_of_getElem? (i := 218) (by decide +kernel)) rfl
theorem w_ml_X7_51 : (Cond.methodLink RX7 51 yX5_camsOf) ∈ wsG := wsT2 _ (List.mem_of_getElem? (i := 219) (by decide +kernel)) rfl
theorem w_im_yX5_camsOf : (Cond.instanceMethod yX5_camsOf) ∈ wsG := wsT2 _ (List.mem_of_getElem? (i := 220) (by decide +kernel)) rfl
theorem w_se_yX5_camsOf : (Cond.selects RX5 yX5_camsOf yX5_camsOf) ∈ wsG := wsT2 _ (List.mem_of_getElem? (i := 221) (by decide +kernel)) rfl
theorem w_co_yX5_camsOf : (Cond.code yX5_camsOf cX5_camsOf 2 (some FieldType.int)) ∈ wsG := wsT2 _ (List.mem_of_getElem? (i := 222) (by decide +kernel)) rfl
theorem w_ml_X5_85 : (Cond.methodLink RX5 85 yJ6_bitCount_0f7a4) ∈ wsG := wsT2 _ (List.mem_of_getElem? (i := 223) (by decide +kernel)) rfl
theorem w_st_yJ6_bitCount_0f7a4 : (Cond.static yJ6_bitCount_0f7a4) ∈ wsG := wsT2 _ (List.mem_of_getElem? (i := 224) (by decide +kernel)) rfl
theorem w_co_yJ6_bitCount_0f7a4 : (Cond.code yJ6_bitCount_0f7a4 cJ6_bitCount_0f7a4 1 (some FieldType.int)) ∈ wsG := wsT2 _ (List.mem_of_getElem? (i := 225) (by decide +kernel)) rfl
theorem w_ct_J6_265 : (Cond.constant RJ6 265 (1431655765)) ∈ wsG := wsT2 _ (List.mem_of_getElem? (i := 226) (by decide +kernel)) rfl
theorem w_ct_J6_266 : (Cond.constant RJ6 266 (858993459)) ∈ wsG := wsT2 _ (List.mem_of_getElem? (i := 227) (by decide +kernel)) rfl
theorem w_ct_J6_267 : (Cond.constant RJ6 267 (252645135)) ∈ wsG := wsT2 _ (List.mem_of_getElem? (i := 228) (by decide +kernel)) rfl
theorem w_ml_L_171 : (Cond.methodLink RL 171 yX7_digest) ∈ wsG := wsT2 _ (List.mem_of_getElem? (i := 229) (by decide +kernel)) rfl
theorem w_im_yX7_digest : (Cond.instanceMethod yX7_digest) ∈ wsG := wsT2 _ (List.mem_of_getElem? (i := 230) (by decide +kernel)) rfl
theorem w_se_yX7_digest : (Cond.selects RX7 yX7_digest yX7_digest) ∈ wsG := wsT2 _ (List.mem_of_getElem? (i := 231) (by decide +kernel)) rfl
theorem w_co_yX7_digest : (Cond.code yX7_digest cX7_digest 4 (some FieldType.long)) ∈ wsG := wsT2 _ (List.mem_of_getElem? (i := 232) (by decide +kernel)) rfl
theorem w_ct_X7_242 : (Cond.constantLong RX7 242 (3467)) ∈ wsG := wsT2 _ (List.mem_of_getElem? (i := 233) (by decide +kernel)) rfl
theorem w_ml_X7_244 : (Cond.methodLink RX7 244 yX7_hashWith) ∈ wsG := wsT2 _ (List.mem_of_getElem? (i := 234) (by decide +kernel)) rfl
theorem w_st_yX7_hashWith : (Cond.static yX7_hashWith) ∈ wsG := wsT2 _ (List.mem_of_getElem? (i := 235) (by decide +kernel)) rfl
theorem w_co_yX7_hashWith : (Cond.code yX7_hashWith cX7_hashWith 3 (some FieldType.long)) ∈ wsG := wsT2 _ (List.mem_of_getElem? (i := 236) (by decide +kernel)) rfl
theorem w_ct_X7_287 : (Cond.constantLong RX7 287 (31)) ∈ wsG := wsT2 _ (List.mem_of_getElem? (i := 237) (by decide +kernel)) rfl
theorem w_ml_X7_176 : (Cond.methodLink RX7 176 yX5_number) ∈ wsG := wsT2 _ (List.mem_of_getElem? (i := 238) (by decide +kernel)) rfl
theorem w_im_yX5_number : (Cond.instanceMethod yX5_number) ∈ wsG := wsT2 _ (List.mem_of_getElem? (i := 239) (by decide +kernel)) rfl
theorem w_se_yX5_number : (Cond.selects RX5 yX5_number yX5_number) ∈ wsG := wsT3 _ (List.mem_of_getElem? (i := 0) (by decide +kernel)) rfl
theorem w_co_yX5_number : (Cond.code yX5_number cX5_number 2 (some FieldType.int)) ∈ wsG := wsT3 _ (List.mem_of_getElem? (i := 1) (by decide +kernel)) rfl
theorem w_ml_X7_248 : (Cond.methodLink RX7 248 yX7_hashWithCylinders) ∈ wsG := wsT3 _ (List.mem_of_getElem? (i := 2) (by decide +kernel)) rfl
theorem w_im_yX7_hashWithCylinders : (Cond.instanceMethod yX7_hashWithCylinders) ∈ wsG := wsT3 _ (List.mem_of_getElem? (i := 4) (by decide +kernel)) rfl
theorem w_co_yX7_hashWithCylinders : (Cond.code yX7_hashWithCylinders cX7_hashWithCylinders 5 (some FieldType.long)) ∈ wsG := wsT3 _ (List.mem_of_getElem? (i := 5) (by decide +kernel)) rfl
theorem w_ml_X7_169 : (Cond.methodLink RX7 169 yX5_cylinderNumber) ∈ wsG := wsT3 _ (List.mem_of_getElem? (i := 6) (by decide +kernel)) rfl
theorem w_im_yX5_cylinderNumber : (Cond.instanceMethod yX5_cylinderNumber) ∈ wsG := wsT3 _ (List.mem_of_getElem? (i := 7) (by decide +kernel)) rfl
theorem w_se_yX5_cylinderNumber : (Cond.selects RX5 yX5_cylinderNumber yX5_cylinderNumber) ∈ wsG := wsT3 _ (List.mem_of_getElem? (i := 8) (by decide +kernel)) rfl
theorem w_co_yX5_cylinderNumber : (Cond.code yX5_cylinderNumber cX5_cylinderNumber 3 (some FieldType.int)) ∈ wsG := wsT3 _ (List.mem_of_getElem? (i := 9) (by decide +kernel)) rfl
theorem w_ml_X5_206 : (Cond.methodLink RX5 206 yX5_camsOf) ∈ wsG := wsT3 _ (List.mem_of_getElem? (i := 10) (by decide +kernel)) rfl
theorem w_ml_X7_252 : (Cond.methodLink RX7 252 yX7_hashWithGuards) ∈ wsG := wsT3 _ (List.mem_of_getElem? (i := 11) (by decide +kernel)) rfl
theorem w_im_yX7_hashWithGuards : (Cond.instanceMethod yX7_hashWithGuards) ∈ wsG := wsT3 _ (List.mem_of_getElem? (i := 13) (by decide +kernel)) rfl
theorem w_co_yX7_hashWithGuards : (Cond.code yX7_hashWithGuards cX7_hashWithGuards 5 (some FieldType.long)) ∈ wsG := wsT3 _ (List.mem_of_getElem? (i := 14) (by decide +kernel)) rfl
theorem w_ml_X7_173 : (Cond.methodLink RX7 173 yX5_guardNumber) ∈ wsG := wsT3 _ (List.mem_of_getElem? (i := 15) (by decide +kernel)) rfl
theorem w_im_yX5_guardNumber : (Cond.instanceMethod yX5_guardNumber) ∈ wsG := wsT3 _ (List.mem_of_getElem? (i := 16) (by decide +kernel)) rfl
theorem w_se_yX5_guardNumber : (Cond.selects RX5 yX5_guardNumber yX5_guardNumber) ∈ wsG := wsT3 _ (List.mem_of_getElem? (i := 17) (by decide +kernel)) rfl
theorem w_co_yX5_guardNumber : (Cond.code yX5_guardNumber cX5_guardNumber 3 (some FieldType.int)) ∈ wsG := wsT3 _ (List.mem_of_getElem? (i := 18) (by decide +kernel)) rfl
theorem w_ml_X7_255 : (Cond.methodLink RX7 255 yX7_hashWithSteps) ∈ wsG := wsT3 _ (List.mem_of_getElem? (i := 19) (by decide +kernel)) rfl
theorem w_im_yX7_hashWithSteps : (Cond.instanceMethod yX7_hashWithSteps) ∈ wsG := wsT3 _ (List.mem_of_getElem? (i := 21) (by decide +kernel)) rfl
theorem w_co_yX7_hashWithSteps : (Cond.code yX7_hashWithSteps cX7_hashWithSteps 5 (some FieldType.long)) ∈ wsG := wsT3 _ (List.mem_of_getElem? (i := 22) (by decide +kernel)) rfl
theorem w_ml_X7_188 : (Cond.methodLink RX7 188 yX1_skipsAt) ∈ wsG := wsT3 _ (List.mem_of_getElem? (i := 23) (by decide +kernel)) rfl
theorem w_im_yX1_skipsAt : (Cond.instanceMethod yX1_skipsAt) ∈ wsG := wsT3 _ (List.mem_of_getElem? (i := 24) (by decide +kernel)) rfl
theorem w_se_yX1_skipsAt : (Cond.selects RX1 yX1_skipsAt yX1_skipsAt) ∈ wsG := wsT3 _ (List.mem_of_getElem? (i := 25) (by decide +kernel)) rfl
theorem w_co_yX1_skipsAt : (Cond.code yX1_skipsAt cX1_skipsAt 2 (some FieldType.int)) ∈ wsG := wsT3 _ (List.mem_of_getElem? (i := 26) (by decide +kernel)) rfl
theorem w_ml_X7_161 : (Cond.methodLink RX7 161 yX5_hasCam) ∈ wsG := wsT3 _ (List.mem_of_getElem? (i := 27) (by decide +kernel)) rfl
theorem w_ml_X7_183 : (Cond.methodLink RX7 183 yX1_outAt) ∈ wsG := wsT3 _ (List.mem_of_getElem? (i := 28) (by decide +kernel)) rfl
theorem w_im_yX1_outAt : (Cond.instanceMethod yX1_outAt) ∈ wsG := wsT3 _ (List.mem_of_getElem? (i := 29) (by decide +kernel)) rfl
theorem w_se_yX1_outAt : (Cond.selects RX1 yX1_outAt yX1_outAt) ∈ wsG := wsT3 _ (List.mem_of_getElem? (i := 30) (by decide +kernel)) rfl
theorem w_co_yX1_outAt : (Cond.code yX1_outAt cX1_outAt 4 (some FieldType.int)) ∈ wsG := wsT3 _ (List.mem_of_getElem? (i := 31) (by decide +kernel)) rfl
theorem w_ml_X7_258 : (Cond.methodLink RX7 258 yX7_ticksToCycle) ∈ wsG := wsT3 _ (List.mem_of_getElem? (i := 32) (by decide +kernel)) rfl
theorem w_ml_L_80 : (Cond.methodLink RL 80 yL_setCam) ∈ wsG := wsT3 _ (List.mem_of_getElem? (i := 33) (by decide +kernel)) rfl
theorem w_st_yL_setCam : (Cond.static yL_setCam) ∈ wsG := wsT3 _ (List.mem_of_getElem? (i := 34) (by decide +kernel)) rfl
theorem w_cw_yL_setCam : (Cond.codeWith yL_setCam cL_setCam 6 (some FieldType.int) [((0), (12), (15), (13))]) ∈ wsG := wsT3 _ (List.mem_of_getElem? (i := 35) (by decide +kernel)) rfl
theorem w_cl_L_13 : (Cond.classLink RL 13 "java/lang/IndexOutOfBoundsException") ∈ wsG := wsT3 _ (List.mem_of_getElem? (i := 36) (by decide +kernel)) rfl
theorem w_ml_L_7 : (Cond.methodLink RL 7 yX7_setCam) ∈ wsG := wsT3 _ (List.mem_of_getElem? (i := 37) (by decide +kernel)) rfl
theorem w_im_yX7_setCam : (Cond.instanceMethod yX7_setCam) ∈ wsG := wsT3 _ (List.mem_of_getElem? (i := 38) (by decide +kernel)) rfl
theorem w_se_yX7_setCam : (Cond.selects RX7 yX7_setCam yX7_setCam) ∈ wsG := wsT3 _ (List.mem_of_getElem? (i := 39) (by decide +kernel)) rfl
theorem w_co_yX7_setCam : (Cond.code yX7_setCam cX7_setCam 4 (some FieldType.int)) ∈ wsG := wsT3 _ (List.mem_of_getElem? (i := 40) (by decide +kernel)) rfl
theorem w_ml_X7_36 : (Cond.methodLink RX7 36 yX7_requireCylinder) ∈ wsG := wsT3 _ (List.mem_of_getElem? (i := 41) (by decide +kernel)) rfl
theorem w_st_yX7_requireCylinder : (Cond.static yX7_requireCylinder) ∈ wsG := wsT3 _ (List.mem_of_getElem? (i := 42) (by decide +kernel)) rfl
theorem w_co_yX7_requireCylinder : (Cond.code yX7_requireCylinder cX7_requireCylinder 1 none) ∈ wsG := wsT3 _ (List.mem_of_getElem? (i := 43) (by decide +kernel)) rfl
theorem w_ml_X7_55 : (Cond.methodLink RX7 55 yX7_within) ∈ wsG := wsT3 _ (List.mem_of_getElem? (i := 44) (by decide +kernel)) rfl
theorem w_cl_X7_261 : (Cond.classLink RX7 261 "java/lang/IndexOutOfBoundsException") ∈ wsG := wsT3 _ (List.mem_of_getElem? (i := 45) (by decide +kernel)) rfl
theorem w_is_IndexOutOfBoundsException : (Cond.instantiable "java/lang/IndexOutOfBoundsException" 6) ∈ wsG := wsT3 _ (List.mem_of_getElem? (i := 46) (by decide +kernel)) rfl
theorem w_ly_IndexOutOfBoundsException_cause : (Cond.lays "java/lang/IndexOutOfBoundsException" "java/lang/Throwable" "cause" "Ljava/lang/Throwable;") ∈ wsG := wsT3 _ (List.mem_of_getElem? (i := 56) (by decide +kernel)) rfl
theorem w_ly_Throwable_cause : (Cond.lays "java/lang/Throwable" "java/lang/Throwable" "cause" "Ljava/lang/Throwable;") ∈ wsG := wsT3 _ (List.mem_of_getElem? (i := 57) (by decide +kernel)) rfl
theorem w_ly_IndexOutOfBoundsException_stackTrace : (Cond.lays "java/lang/IndexOutOfBoundsException" "java/lang/Throwable" "stackTrace" "[Ljava/lang/StackTraceElement;") ∈ wsG := wsT3 _ (List.mem_of_getElem? (i := 58) (by decide +kernel)) rfl
theorem w_ly_Throwable_stackTrace : (Cond.lays "java/lang/Throwable" "java/lang/Throwable" "stackTrace" "[Ljava/lang/StackTraceElement;") ∈ wsG := wsT3 _ (List.mem_of_getElem? (i := 59) (by decide +kernel)) rfl
theorem w_ly_IndexOutOfBoundsException_suppressedExceptions : (Cond.lays "java/lang/IndexOutOfBoundsException" "java/lang/Throwable" "suppressedExceptions" "Ljava/util/List;") ∈ wsG := wsT3 _ (List.mem_of_getElem? (i := 60) (by decide +kernel)) rfl
theorem w_ly_Throwable_suppressedExceptions : (Cond.lays "java/lang/Throwable" "java/lang/Throwable" "suppressedExceptions" "Ljava/util/List;") ∈ wsG := wsT3 _ (List.mem_of_getElem? (i := 61) (by decide +kernel)) rfl
theorem w_ly_IndexOutOfBoundsException_detailMessage : (Cond.lays "java/lang/IndexOutOfBoundsException" "java/lang/Throwable" "detailMessage" "Ljava/lang/String;") ∈ wsG := wsT3 _ (List.mem_of_getElem? (i := 62) (by decide +kernel)) rfl
theorem w_ly_Throwable_detailMessage : (Cond.lays "java/lang/Throwable" "java/lang/Throwable" "detailMessage" "Ljava/lang/String;") ∈ wsG := wsT3 _ (List.mem_of_getElem? (i := 63) (by decide +kernel)) rfl
theorem w_ly_IndexOutOfBoundsException_backtrace : (Cond.lays "java/lang/IndexOutOfBoundsException" "java/lang/Throwable" "backtrace" "Ljava/lang/Object;") ∈ wsG := wsT3 _ (List.mem_of_getElem? (i := 64) (by decide +kernel)) rfl
theorem w_ly_Throwable_backtrace : (Cond.lays "java/lang/Throwable" "java/lang/Throwable" "backtrace" "Ljava/lang/Object;") ∈ wsG := wsT3 _ (List.mem_of_getElem? (i := 65) (by decide +kernel)) rfl
theorem w_fl_Throwable_198 : (Cond.fieldLink "java/lang/Throwable" 198 "java/lang/Throwable" "backtrace" "Ljava/lang/Object;") ∈ wsG := wsT3 _ (List.mem_of_getElem? (i := 66) (by decide +kernel)) rfl
theorem w_ml_Throwable_1 : (Cond.methodLink "java/lang/Throwable" 1 objectInit) ∈ wsG := wsT3 _ (List.mem_of_getElem? (i := 70) (by decide +kernel)) rfl
theorem w_fl_Throwable_13 : (Cond.fieldLink "java/lang/Throwable" 13 "java/lang/Throwable" "UNASSIGNED_STACK" "[Ljava/lang/StackTraceElement;") ∈ wsG := wsT3 _ (List.mem_of_getElem? (i := 71) (by decide +kernel)) rfl
theorem w_fl_Throwable_20 : (Cond.fieldLink "java/lang/Throwable" 20 "java/lang/Throwable" "SUPPRESSED_SENTINEL" "Ljava/util/List;") ∈ wsG := wsT3 _ (List.mem_of_getElem? (i := 73) (by decide +kernel)) rfl
theorem w_is_Throwable : (Cond.instantiable "java/lang/Throwable" 6) ∈ wsG := wsT3 _ (List.mem_of_getElem? (i := 84) (by decide +kernel)) rfl
theorem w_fl_Throwable_31 : (Cond.fieldLink "java/lang/Throwable" 31 "java/lang/Throwable" "detailMessage" "Ljava/lang/String;") ∈ wsG := wsT3 _ (List.mem_of_getElem? (i := 100) (by decide +kernel)) rfl
theorem w_fl_Throwable_7 : (Cond.fieldLink "java/lang/Throwable" 7 "java/lang/Throwable" "cause" "Ljava/lang/Throwable;") ∈ wsG := wsT3 _ (List.mem_of_getElem? (i := 101) (by decide +kernel)) rfl
theorem w_fl_Throwable_17 : (Cond.fieldLink "java/lang/Throwable" 17 "java/lang/Throwable" "stackTrace" "[Ljava/lang/StackTraceElement;") ∈ wsG := wsT3 _ (List.mem_of_getElem? (i := 102) (by decide +kernel)) rfl
theorem w_fl_Throwable_24 : (Cond.fieldLink "java/lang/Throwable" 24 "java/lang/Throwable" "suppressedExceptions" "Ljava/util/List;") ∈ wsG := wsT3 _ (List.mem_of_getElem? (i := 103) (by decide +kernel)) rfl
theorem w_ly_IndexOutOfBoundsException_depth : (Cond.lays "java/lang/IndexOutOfBoundsException" "java/lang/Throwable" "depth" "I") ∈ wsG := wsT3 _ (List.mem_of_getElem? (i := 108) (by decide +kernel)) rfl
theorem w_ac_byte : (Cond.arrayClass FieldType.byte) ∈ wsG := wsT3 _ (List.mem_of_getElem? (i := 112) (by decide +kernel)) rfl
theorem w_ml_X7_40 : (Cond.methodLink RX7 40 yX7_requireStep) ∈ wsG := wsT3 _ (List.mem_of_getElem? (i := 113) (by decide +kernel)) rfl
theorem w_im_yX7_requireStep : (Cond.instanceMethod yX7_requireStep) ∈ wsG := wsT3 _ (List.mem_of_getElem? (i := 115) (by decide +kernel)) rfl
theorem w_co_yX7_requireStep : (Cond.code yX7_requireStep cX7_requireStep 2 none) ∈ wsG := wsT3 _ (List.mem_of_getElem? (i := 116) (by decide +kernel)) rfl
theorem w_ml_X7_47 : (Cond.methodLink RX7 47 yX5_putCam) ∈ wsG := wsT3 _ (List.mem_of_getElem? (i := 118) (by decide +kernel)) rfl
theorem w_im_yX5_putCam : (Cond.instanceMethod yX5_putCam) ∈ wsG := wsT3 _ (List.mem_of_getElem? (i := 119) (by decide +kernel)) rfl
theorem w_se_yX5_putCam : (Cond.selects RX5 yX5_putCam yX5_putCam) ∈ wsG := wsT3 _ (List.mem_of_getElem? (i := 120) (by decide +kernel)) rfl
theorem w_co_yX5_putCam : (Cond.code yX5_putCam cX5_putCam 5 none) ∈ wsG := wsT3 _ (List.mem_of_getElem? (i := 121) (by decide +kernel)) rfl
theorem w_ml_L_89 : (Cond.methodLink RL 89 yL_setPawl) ∈ wsG := wsT3 _ (List.mem_of_getElem? (i := 122) (by decide +kernel)) rfl
theorem w_st_yL_setPawl : (Cond.static yL_setPawl) ∈ wsG := wsT3 _ (List.mem_of_getElem? (i := 123) (by decide +kernel)) rfl
theorem w_cw_yL_setPawl : (Cond.codeWith yL_setPawl cL_setPawl 5 (some FieldType.int) [((0), (10), (13), (19))]) ∈ wsG := wsT3 _ (List.mem_of_getElem? (i := 124) (by decide +kernel)) rfl
theorem w_cl_L_19 : (Cond.classLink RL 19 "java/lang/IllegalArgumentException") ∈ wsG := wsT3 _ (List.mem_of_getElem? (i := 125) (by decide +kernel)) rfl
theorem w_ml_L_15 : (Cond.methodLink RL 15 yX7_setPawl) ∈ wsG := wsT3 _ (List.mem_of_getElem? (i := 126) (by decide +kernel)) rfl
theorem w_im_yX7_setPawl : (Cond.instanceMethod yX7_setPawl) ∈ wsG := wsT3 _ (List.mem_of_getElem? (i := 127) (by decide +kernel)) rfl
theorem w_se_yX7_setPawl : (Cond.selects RX7 yX7_setPawl yX7_setPawl) ∈ wsG := wsT3 _ (List.mem_of_getElem? (i := 128) (by decide +kernel)) rfl
theorem w_co_yX7_setPawl : (Cond.code yX7_setPawl cX7_setPawl 4 (some FieldType.int)) ∈ wsG := wsT3 _ (List.mem_of_getElem? (i := 129) (by decide +kernel)) rfl
theorem w_cl_X7_59 : (Cond.classLink RX7 59 "java/lang/IllegalArgumentException") ∈ wsG := wsT3 _ (List.mem_of_getElem? (i := 130) (by decide +kernel)) rfl
theorem w_is_IllegalArgumentException : (Cond.instantiable "java/lang/IllegalArgumentException" 6) ∈ wsG := wsT3 _ (List.mem_of_getElem? (i := 131) (by decide +kernel)) rfl
theorem w_ly_IllegalArgumentException_cause : (Cond.lays "java/lang/IllegalArgumentException" "java/lang/Throwable" "cause" "Ljava/lang/Throwable;") ∈ wsG := wsT3 _ (List.mem_of_getElem? (i := 134) (by decide +kernel)) rfl
theorem w_ly_IllegalArgumentException_stackTrace : (Cond.lays "java/lang/IllegalArgumentException" "java/lang/Throwable" "stackTrace" "[Ljava/lang/StackTraceElement;") ∈ wsG := wsT3 _ (List.mem_of_getElem? (i := 135) (by decide +kernel)) rfl
theorem w_ly_IllegalArgumentException_suppressedExceptions : (Cond.lays "java/lang/IllegalArgumentException" "java/lang/Throwable" "suppressedExceptions" "Ljava/util/List;") ∈ wsG := wsT3 _ (List.mem_of_getElem? (i := 136) (by decide +kernel)) rfl
theorem w_ly_IllegalArgumentException_detailMessage : (Cond.lays "java/lang/IllegalArgumentException" "java/lang/Throwable" "detailMessage" "Ljava/lang/String;") ∈ wsG := wsT3 _ (List.mem_of_getElem? (i := 137) (by decide +kernel)) rfl
theorem w_ly_IllegalArgumentException_backtrace : (Cond.lays "java/lang/IllegalArgumentException" "java/lang/Throwable" "backtrace" "Ljava/lang/Object;") ∈ wsG := wsT3 _ (List.mem_of_getElem? (i := 138) (by decide +kernel)) rfl
theorem w_ly_IllegalArgumentException_depth : (Cond.lays "java/lang/IllegalArgumentException" "java/lang/Throwable" "depth" "I") ∈ wsG := wsT3 _ (List.mem_of_getElem? (i := 144) (by decide +kernel)) rfl
theorem w_ml_L_93 : (Cond.methodLink RL 93 yL_setCylinder) ∈ wsG := wsT3 _ (List.mem_of_getElem? (i := 146) (by decide +kernel)) rfl
theorem w_st_yL_setCylinder : (Cond.static yL_setCylinder) ∈ wsG := wsT3 _ (List.mem_of_getElem? (i := 147) (by decide +kernel)) rfl
theorem w_cw_yL_setCylinder : (Cond.codeWith yL_setCylinder cL_setCylinder 7 (some FieldType.int) [((0), (14), (17), (13)), ((0), (14), (21), (19))]) ∈ wsG := wsT3 _ (List.mem_of_getElem? (i := 148) (by decide +kernel)) rfl
theorem w_ml_L_21 : (Cond.methodLink RL 21 yX7_setCylinder) ∈ wsG := wsT3 _ (List.mem_of_getElem? (i := 149) (by decide +kernel)) rfl
theorem w_im_yX7_setCylinder : (Cond.instanceMethod yX7_setCylinder) ∈ wsG := wsT3 _ (List.mem_of_getElem? (i := 150) (by decide +kernel)) rfl
theorem w_se_yX7_setCylinder : (Cond.selects RX7 yX7_setCylinder yX7_setCylinder) ∈ wsG := wsT3 _ (List.mem_of_getElem? (i := 151) (by decide +kernel)) rfl
theorem w_co_yX7_setCylinder : (Cond.code yX7_setCylinder cX7_setCylinder 5 (some FieldType.int)) ∈ wsG := wsT3 _ (List.mem_of_getElem? (i := 152) (by decide +kernel)) rfl
theorem w_ml_L_97 : (Cond.methodLink RL 97 yL_setAir) ∈ wsG := wsT3 _ (List.mem_of_getElem? (i := 154) (by decide +kernel)) rfl
theorem w_st_yL_setAir : (Cond.static yL_setAir) ∈ wsG := wsT3 _ (List.mem_of_getElem? (i := 155) (by decide +kernel)) rfl
theorem w_cw_yL_setAir : (Cond.codeWith yL_setAir cL_setAir 5 (some FieldType.int) [((0), (10), (13), (19))]) ∈ wsG := wsT3 _ (List.mem_of_getElem? (i := 156) (by decide +kernel)) rfl
theorem w_ml_L_25 : (Cond.methodLink RL 25 yX7_setAir) ∈ wsG := wsT3 _ (List.mem_of_getElem? (i := 157) (by decide +kernel)) rfl
theorem w_im_yX7_setAir : (Cond.instanceMethod yX7_setAir) ∈ wsG := wsT3 _ (List.mem_of_getElem? (i := 158) (by decide +kernel)) rfl
theorem w_se_yX7_setAir : (Cond.selects RX7 yX7_setAir yX7_setAir) ∈ wsG := wsT3 _ (List.mem_of_getElem? (i := 159) (by decide +kernel)) rfl
theorem w_co_yX7_setAir : (Cond.code yX7_setAir cX7_setAir 3 (some FieldType.int)) ∈ wsG := wsT3 _ (List.mem_of_getElem? (i := 160) (by decide +kernel)) rfl
theorem w_ml_X7_108 : (Cond.methodLink RX7 108 yX0_letOffSurplus) ∈ wsG := wsT3 _ (List.mem_of_getElem? (i := 162) (by decide +kernel)) rfl
theorem w_ml_L_100 : (Cond.methodLink RL 100 yL_addGuard) ∈ wsG := wsT3 _ (List.mem_of_getElem? (i := 163) (by decide +kernel)) rfl
theorem w_st_yL_addGuard : (Cond.static yL_addGuard) ∈ wsG := wsT3 _ (List.mem_of_getElem? (i := 164) (by decide +kernel)) rfl
theorem w_cw_yL_addGuard : (Cond.codeWith yL_addGuard cL_addGuard 6 (some FieldType.int) [((0), (12), (15), (13)), ((0), (12), (19), (19)), ((0), (12), (23), (32))]) ∈ wsG := wsT3 _ (List.mem_of_getElem? (i := 165) (by decide +kernel)) rfl
theorem w_cl_L_32 : (Cond.classLink RL 32 "java/lang/IllegalStateException") ∈ wsG := wsT3 _ (List.mem_of_getElem? (i := 166) (by decide +kernel)) rfl
theorem w_ml_L_28 : (Cond.methodLink RL 28 yX7_addGuard) ∈ wsG := wsT3 _ (List.mem_of_getElem? (i := 167) (by decide +kernel)) rfl
theorem w_im_yX7_addGuard : (Cond.instanceMethod yX7_addGuard) ∈ wsG := wsT3 _ (List.mem_of_getElem? (i := 168) (by decide +kernel)) rfl
theorem w_se_yX7_addGuard : (Cond.selects RX7 yX7_addGuard yX7_addGuard) ∈ wsG := wsT3 _ (List.mem_of_getElem? (i := 169) (by decide +kernel)) rfl
theorem w_co_yX7_addGuard : (Cond.code yX7_addGuard cX7_addGuard 4 (some FieldType.int)) ∈ wsG := wsT3 _ (List.mem_of_getElem? (i := 170) (by decide +kernel)) rfl
theorem w_cl_X7_125 : (Cond.classLink RX7 125 "java/lang/IllegalStateException") ∈ wsG := wsT3 _ (List.mem_of_getElem? (i := 172) (by decide +kernel)) rfl
theorem w_is_IllegalStateException : (Cond.instantiable "java/lang/IllegalStateException" 6) ∈ wsG := wsT3 _ (List.mem_of_getElem? (i := 173) (by decide +kernel)) rfl
theorem w_ly_IllegalStateException_cause : (Cond.lays "java/lang/IllegalStateException" "java/lang/Throwable" "cause" "Ljava/lang/Throwable;") ∈ wsG := wsT3 _ (List.mem_of_getElem? (i := 176) (by decide +kernel)) rfl
theorem w_ly_IllegalStateException_stackTrace : (Cond.lays "java/lang/IllegalStateException" "java/lang/Throwable" "stackTrace" "[Ljava/lang/StackTraceElement;") ∈ wsG := wsT3 _ (List.mem_of_getElem? (i := 177) (by decide +kernel)) rfl
theorem w_ly_IllegalStateException_suppressedExceptions : (Cond.lays "java/lang/IllegalStateException" "java/lang/Throwable" "suppressedExceptions" "Ljava/util/List;") ∈ wsG := wsT3 _ (List.mem_of_getElem? (i := 178) (by decide +kernel)) rfl
theorem w_ly_IllegalStateException_detailMessage : (Cond.lays "java/lang/IllegalStateException" "java/lang/Throwable" "detailMessage" "Ljava/lang/String;") ∈ wsG := wsT3 _ (List.mem_of_getElem? (i := 179) (by decide +kernel)) rfl
theorem w_ly_IllegalStateException_backtrace : (Cond.lays "java/lang/IllegalStateException" "java/lang/Throwable" "backtrace" "Ljava/lang/Object;") ∈ wsG := wsT3 _ (List.mem_of_getElem? (i := 180) (by decide +kernel)) rfl
theorem w_ly_IllegalStateException_depth : (Cond.lays "java/lang/IllegalStateException" "java/lang/Throwable" "depth" "I") ∈ wsG := wsT3 _ (List.mem_of_getElem? (i := 186) (by decide +kernel)) rfl
theorem w_ml_X7_130 : (Cond.methodLink RX7 130 yX3_putLast) ∈ wsG := wsT3 _ (List.mem_of_getElem? (i := 188) (by decide +kernel)) rfl
theorem w_im_yX3_putLast : (Cond.instanceMethod yX3_putLast) ∈ wsG := wsT3 _ (List.mem_of_getElem? (i := 189) (by decide +kernel)) rfl
theorem w_se_yX3_putLast : (Cond.selects RX3 yX3_putLast yX3_putLast) ∈ wsG := wsT3 _ (List.mem_of_getElem? (i := 190) (by decide +kernel)) rfl
theorem w_co_yX3_putLast : (Cond.code yX3_putLast cX3_putLast 4 (some FieldType.int)) ∈ wsG := wsT3 _ (List.mem_of_getElem? (i := 191) (by decide +kernel)) rfl
theorem w_ml_L_104 : (Cond.methodLink RL 104 yL_removeGuard) ∈ wsG := wsT3 _ (List.mem_of_getElem? (i := 193) (by decide +kernel)) rfl
theorem w_st_yL_removeGuard : (Cond.static yL_removeGuard) ∈ wsG := wsT3 _ (List.mem_of_getElem? (i := 194) (by decide +kernel)) rfl
theorem w_cw_yL_removeGuard : (Cond.codeWith yL_removeGuard cL_removeGuard 4 (some FieldType.int) [((0), (9), (12), (13))]) ∈ wsG := wsT3 _ (List.mem_of_getElem? (i := 195) (by decide +kernel)) rfl
theorem w_ml_L_34 : (Cond.methodLink RL 34 yX7_removeGuard) ∈ wsG := wsT3 _ (List.mem_of_getElem? (i := 196) (by decide +kernel)) rfl
theorem w_im_yX7_removeGuard : (Cond.instanceMethod yX7_removeGuard) ∈ wsG := wsT3 _ (List.mem_of_getElem? (i := 197) (by decide +kernel)) rfl
theorem w_se_yX7_removeGuard : (Cond.selects RX7 yX7_removeGuard yX7_removeGuard) ∈ wsG := wsT3 _ (List.mem_of_getElem? (i := 198) (by decide +kernel)) rfl
theorem w_co_yX7_removeGuard : (Cond.code yX7_removeGuard cX7_removeGuard 2 (some FieldType.int)) ∈ wsG := wsT3 _ (List.mem_of_getElem? (i := 199) (by decide +kernel)) rfl
theorem w_ml_X7_134 : (Cond.methodLink RX7 134 yX7_requireGuard) ∈ wsG := wsT3 _ (List.mem_of_getElem? (i := 200) (by decide +kernel)) rfl
theorem w_im_yX7_requireGuard : (Cond.instanceMethod yX7_requireGuard) ∈ wsG := wsT3 _ (List.mem_of_getElem? (i := 202) (by decide +kernel)) rfl
theorem w_co_yX7_requireGuard : (Cond.code yX7_requireGuard cX7_requireGuard 2 none) ∈ wsG := wsT3 _ (List.mem_of_getElem? (i := 203) (by decide +kernel)) rfl
theorem w_ml_X7_137 : (Cond.methodLink RX7 137 yX3_takeOut) ∈ wsG := wsT3 _ (List.mem_of_getElem? (i := 205) (by decide +kernel)) rfl
theorem w_im_yX3_takeOut : (Cond.instanceMethod yX3_takeOut) ∈ wsG := wsT3 _ (List.mem_of_getElem? (i := 206) (by decide +kernel)) rfl
theorem w_se_yX3_takeOut : (Cond.selects RX3 yX3_takeOut yX3_takeOut) ∈ wsG := wsT3 _ (List.mem_of_getElem? (i := 207) (by decide +kernel)) rfl
theorem w_co_yX3_takeOut : (Cond.code yX3_takeOut cX3_takeOut 3 none) ∈ wsG := wsT3 _ (List.mem_of_getElem? (i := 208) (by decide +kernel)) rfl
theorem w_ml_X3_33 : (Cond.methodLink RX3 33 Lib.Math.max.name) ∈ wsG := wsT3 _ (List.mem_of_getElem? (i := 209) (by decide +kernel)) rfl
theorem w_ml_L_108 : (Cond.methodLink RL 108 yL_turn) ∈ wsG := wsT3 _ (List.mem_of_getElem? (i := 210) (by decide +kernel)) rfl
theorem w_st_yL_turn : (Cond.static yL_turn) ∈ wsG := wsT3 _ (List.mem_of_getElem? (i := 211) (by decide +kernel)) rfl
theorem w_cw_yL_turn : (Cond.codeWith yL_turn cL_turn 4 (some FieldType.int) [((0), (9), (12), (13))]) ∈ wsG := wsT3 _ (List.mem_of_getElem? (i := 212) (by decide +kernel)) rfl
theorem w_ml_L_38 : (Cond.methodLink RL 38 yX7_turn) ∈ wsG := wsT3 _ (List.mem_of_getElem? (i := 213) (by decide +kernel)) rfl
theorem w_im_yX7_turn : (Cond.instanceMethod yX7_turn) ∈ wsG := wsT3 _ (List.mem_of_getElem? (i := 214) (by decide +kernel)) rfl
theorem w_se_yX7_turn : (Cond.selects RX7 yX7_turn yX7_turn) ∈ wsG := wsT3 _ (List.mem_of_getElem? (i := 215) (by decide +kernel)) rfl
theorem w_co_yX7_turn : (Cond.code yX7_turn cX7_turn 3 (some FieldType.int)) ∈ wsG := wsT3 _ (List.mem_of_getElem? (i := 216) (by decide +kernel)) rfl
theorem w_ml_L_111 : (Cond.methodLink RL 111 yL_run) ∈ wsG := wsT3 _ (List.mem_of_getElem? (i := 217) (by decide +kernel)) rfl
theorem w_st_yL_run : (Cond.static yL_run) ∈ wsG := wsT3 _ (List.mem_of_getElem? (i := 218) (by decide +kernel)) rfl
theorem w_cw_yL_run : (Cond.codeWith yL_run cL_run 4 (some FieldType.int) [((0), (9), (12), (19)), ((0), (9), (15), (32))]) ∈ wsG := wsT3 _ (List.mem_of_getElem? (i := 219) (by decide +kernel)) rfl
theorem w_ml_L_41 : (Cond.methodLink RL 41 yX7_run) ∈ wsG := wsT3 _ (List.mem_of_getElem? (i := 220) (by decide +kernel)) rfl
theorem w_im_yX7_run : (Cond.instanceMethod yX7_run) ∈ wsG := wsT3 _ (List.mem_of_getElem? (i := 221) (by decide +kernel)) rfl
theorem w_se_yX7_run : (Cond.selects RX7 yX7_run yX7_run) ∈ wsG := wsT3 _ (List.mem_of_getElem? (i := 222) (by decide +kernel)) rfl
theorem w_co_yX7_run : (Cond.code yX7_run cX7_run 4 (some FieldType.int)) ∈ wsG := wsT3 _ (List.mem_of_getElem? (i := 223) (by decide +kernel)) rfl
theorem w_ct_X7_151 : (Cond.constant RX7 151 (100000)) ∈ wsG := wsT3 _ (List.mem_of_getElem? (i := 225) (by decide +kernel)) rfl
theorem w_ml_L_114 : (Cond.methodLink RL 114 yL_cam) ∈ wsG := wsT3 _ (List.mem_of_getElem? (i := 227) (by decide +kernel)) rfl
theorem w_st_yL_cam : (Cond.static yL_cam) ∈ wsG := wsT3 _ (List.mem_of_getElem? (i := 228) (by decide +kernel)) rfl
theorem w_cw_yL_cam : (Cond.codeWith yL_cam cL_cam 5 (some FieldType.int) [((0), (17), (20), (13))]) ∈ wsG := wsT3 _ (List.mem_of_getElem? (i := 229) (by decide +kernel)) rfl
theorem w_ml_L_44 : (Cond.methodLink RL 44 yX7_cam) ∈ wsG := wsT3 _ (List.mem_of_getElem? (i := 230) (by decide +kernel)) rfl
theorem w_im_yX7_cam : (Cond.instanceMethod yX7_cam) ∈ wsG := wsT3 _ (List.mem_of_getElem? (i := 231) (by decide +kernel)) rfl
theorem w_se_yX7_cam : (Cond.selects RX7 yX7_cam yX7_cam) ∈ wsG := wsT3 _ (List.mem_of_getElem? (i := 232) (by decide +kernel)) rfl
theorem w_co_yX7_cam : (Cond.code yX7_cam cX7_cam 3 (some FieldType.boolean)) ∈ wsG := wsT3 _ (List.mem_of_getElem? (i := 233) (by decide +kernel)) rfl
theorem w_ml_L_117 : (Cond.methodLink RL 117 yL_cylinder) ∈ wsG := wsT3 _ (List.mem_of_getElem? (i := 234) (by decide +kernel)) rfl
theorem w_st_yL_cylinder : (Cond.static yL_cylinder) ∈ wsG := wsT3 _ (List.mem_of_getElem? (i := 235) (by decide +kernel)) rfl
theorem w_cw_yL_cylinder : (Cond.codeWith yL_cylinder cL_cylinder 5 (some FieldType.int) [((0), (10), (13), (13)), ((0), (10), (17), (19))]) ∈ wsG := wsT3 _ (List.mem_of_getElem? (i := 236) (by decide +kernel)) rfl
theorem w_ml_L_48 : (Cond.methodLink RL 48 yX7_cylinder) ∈ wsG := wsT3 _ (List.mem_of_getElem? (i := 237) (by decide +kernel)) rfl
theorem w_im_yX7_cylinder : (Cond.instanceMethod yX7_cylinder) ∈ wsG := wsT3 _ (List.mem_of_getElem? (i := 238) (by decide +kernel)) rfl
theorem w_se_yX7_cylinder : (Cond.selects RX7 yX7_cylinder yX7_cylinder) ∈ wsG := wsT3 _ (List.mem_of_getElem? (i := 239) (by decide +kernel)) rfl
theorem w_co_yX7_cylinder : (Cond.code yX7_cylinder cX7_cylinder 3 (some FieldType.int)) ∈ wsG := wsT4 _ (List.mem_of_getElem? (i := 0) (by decide +kernel)) rfl
theorem w_ml_X7_165 : (Cond.methodLink RX7 165 yX7_requireWhat) ∈ wsG := wsT4 _ (List.mem_of_getElem? (i := 1) (by decide +kernel)) rfl
theorem w_st_yX7_requireWhat : (Cond.static yX7_requireWhat) ∈ wsG := wsT4 _ (List.mem_of_getElem? (i := 2) (by decide +kernel)) rfl
theorem w_co_yX7_requireWhat : (Cond.code yX7_requireWhat cX7_requireWhat 2 none) ∈ wsG := wsT4 _ (List.mem_of_getElem? (i := 3) (by decide +kernel)) rfl
theorem w_ml_L_120 : (Cond.methodLink RL 120 yL_guard) ∈ wsG := wsT4 _ (List.mem_of_getElem? (i := 5) (by decide +kernel)) rfl
theorem w_st_yL_guard : (Cond.static yL_guard) ∈ wsG := wsT4 _ (List.mem_of_getElem? (i := 6) (by decide +kernel)) rfl
theorem w_cw_yL_guard : (Cond.codeWith yL_guard cL_guard 5 (some FieldType.int) [((0), (10), (13), (13)), ((0), (10), (17), (19))]) ∈ wsG := wsT4 _ (List.mem_of_getElem? (i := 7) (by decide +kernel)) rfl
theorem w_ml_L_51 : (Cond.methodLink RL 51 yX7_guard) ∈ wsG := wsT4 _ (List.mem_of_getElem? (i := 8) (by decide +kernel)) rfl
theorem w_im_yX7_guard : (Cond.instanceMethod yX7_guard) ∈ wsG := wsT4 _ (List.mem_of_getElem? (i := 9) (by decide +kernel)) rfl
theorem w_se_yX7_guard : (Cond.selects RX7 yX7_guard yX7_guard) ∈ wsG := wsT4 _ (List.mem_of_getElem? (i := 10) (by decide +kernel)) rfl
theorem w_co_yX7_guard : (Cond.code yX7_guard cX7_guard 3 (some FieldType.int)) ∈ wsG := wsT4 _ (List.mem_of_getElem? (i := 11) (by decide +kernel)) rfl
theorem w_ml_L_123 : (Cond.methodLink RL 123 yL_value) ∈ wsG := wsT4 _ (List.mem_of_getElem? (i := 12) (by decide +kernel)) rfl
theorem w_st_yL_value : (Cond.static yL_value) ∈ wsG := wsT4 _ (List.mem_of_getElem? (i := 13) (by decide +kernel)) rfl
theorem w_cw_yL_value : (Cond.codeWith yL_value cL_value 4 (some FieldType.int) [((0), (9), (12), (19))]) ∈ wsG := wsT4 _ (List.mem_of_getElem? (i := 14) (by decide +kernel)) rfl
theorem w_ml_L_54 : (Cond.methodLink RL 54 yX7_value) ∈ wsG := wsT4 _ (List.mem_of_getElem? (i := 15) (by decide +kernel)) rfl
theorem w_im_yX7_value : (Cond.instanceMethod yX7_value) ∈ wsG := wsT4 _ (List.mem_of_getElem? (i := 16) (by decide +kernel)) rfl
theorem w_se_yX7_value : (Cond.selects RX7 yX7_value yX7_value) ∈ wsG := wsT4 _ (List.mem_of_getElem? (i := 17) (by decide +kernel)) rfl
theorem w_co_yX7_value : (Cond.code yX7_value cX7_value 2 (some FieldType.int)) ∈ wsG := wsT4 _ (List.mem_of_getElem? (i := 18) (by decide +kernel)) rfl
theorem w_ml_L_126 : (Cond.methodLink RL 126 yL_chart) ∈ wsG := wsT4 _ (List.mem_of_getElem? (i := 19) (by decide +kernel)) rfl
theorem w_st_yL_chart : (Cond.static yL_chart) ∈ wsG := wsT4 _ (List.mem_of_getElem? (i := 20) (by decide +kernel)) rfl
theorem w_cw_yL_chart : (Cond.codeWith yL_chart cL_chart 5 (some FieldType.int) [((0), (10), (13), (13))]) ∈ wsG := wsT4 _ (List.mem_of_getElem? (i := 21) (by decide +kernel)) rfl
theorem w_ml_L_57 : (Cond.methodLink RL 57 yX7_chart) ∈ wsG := wsT4 _ (List.mem_of_getElem? (i := 22) (by decide +kernel)) rfl
theorem w_im_yX7_chart : (Cond.instanceMethod yX7_chart) ∈ wsG := wsT4 _ (List.mem_of_getElem? (i := 23) (by decide +kernel)) rfl
theorem w_se_yX7_chart : (Cond.selects RX7 yX7_chart yX7_chart) ∈ wsG := wsT4 _ (List.mem_of_getElem? (i := 24) (by decide +kernel)) rfl
theorem w_co_yX7_chart : (Cond.code yX7_chart cX7_chart 3 (some FieldType.int)) ∈ wsG := wsT4 _ (List.mem_of_getElem? (i := 25) (by decide +kernel)) rfl
theorem w_ml_L_129 : (Cond.methodLink RL 129 yL_skips) ∈ wsG := wsT4 _ (List.mem_of_getElem? (i := 26) (by decide +kernel)) rfl
theorem w_st_yL_skips : (Cond.static yL_skips) ∈ wsG := wsT4 _ (List.mem_of_getElem? (i := 27) (by decide +kernel)) rfl
theorem w_cw_yL_skips : (Cond.codeWith yL_skips cL_skips 4 (some FieldType.int) [((0), (9), (12), (13))]) ∈ wsG := wsT4 _ (List.mem_of_getElem? (i := 28) (by decide +kernel)) rfl
theorem w_ml_L_60 : (Cond.methodLink RL 60 yX7_skips) ∈ wsG := wsT4 _ (List.mem_of_getElem? (i := 29) (by decide +kernel)) rfl
theorem w_im_yX7_skips : (Cond.instanceMethod yX7_skips) ∈ wsG := wsT4 _ (List.mem_of_getElem? (i := 30) (by decide +kernel)) rfl
theorem w_se_yX7_skips : (Cond.selects RX7 yX7_skips yX7_skips) ∈ wsG := wsT4 _ (List.mem_of_getElem? (i := 31) (by decide +kernel)) rfl
theorem w_co_yX7_skips : (Cond.code yX7_skips cX7_skips 2 (some FieldType.int)) ∈ wsG := wsT4 _ (List.mem_of_getElem? (i := 32) (by decide +kernel)) rfl
theorem w_ml_L_132 : (Cond.methodLink RL 132 yL_ticksToOut) ∈ wsG := wsT4 _ (List.mem_of_getElem? (i := 33) (by decide +kernel)) rfl
theorem w_st_yL_ticksToOut : (Cond.static yL_ticksToOut) ∈ wsG := wsT4 _ (List.mem_of_getElem? (i := 34) (by decide +kernel)) rfl
theorem w_cw_yL_ticksToOut : (Cond.codeWith yL_ticksToOut cL_ticksToOut 4 (some FieldType.int) [((0), (9), (12), (13))]) ∈ wsG := wsT4 _ (List.mem_of_getElem? (i := 35) (by decide +kernel)) rfl
theorem w_ml_L_63 : (Cond.methodLink RL 63 yX7_ticksToOut) ∈ wsG := wsT4 _ (List.mem_of_getElem? (i := 36) (by decide +kernel)) rfl
theorem w_im_yX7_ticksToOut : (Cond.instanceMethod yX7_ticksToOut) ∈ wsG := wsT4 _ (List.mem_of_getElem? (i := 37) (by decide +kernel)) rfl
theorem w_se_yX7_ticksToOut : (Cond.selects RX7 yX7_ticksToOut yX7_ticksToOut) ∈ wsG := wsT4 _ (List.mem_of_getElem? (i := 38) (by decide +kernel)) rfl
theorem w_co_yX7_ticksToOut : (Cond.code yX7_ticksToOut cX7_ticksToOut 3 (some FieldType.int)) ∈ wsG := wsT4 _ (List.mem_of_getElem? (i := 39) (by decide +kernel)) rfl
theorem w_ml_L_139 : (Cond.methodLink RL 139 yL_leastCompressor) ∈ wsG := wsT4 _ (List.mem_of_getElem? (i := 40) (by decide +kernel)) rfl
theorem w_st_yL_leastCompressor : (Cond.static yL_leastCompressor) ∈ wsG := wsT4 _ (List.mem_of_getElem? (i := 41) (by decide +kernel)) rfl
theorem w_cw_yL_leastCompressor : (Cond.codeWith yL_leastCompressor cL_leastCompressor 4 (some FieldType.int) [((0), (9), (12), (19))]) ∈ wsG := wsT4 _ (List.mem_of_getElem? (i := 42) (by decide +kernel)) rfl
theorem w_ml_L_66 : (Cond.methodLink RL 66 yX7_leastCompressor) ∈ wsG := wsT4 _ (List.mem_of_getElem? (i := 43) (by decide +kernel)) rfl
theorem w_im_yX7_leastCompressor : (Cond.instanceMethod yX7_leastCompressor) ∈ wsG := wsT4 _ (List.mem_of_getElem? (i := 44) (by decide +kernel)) rfl
theorem w_se_yX7_leastCompressor : (Cond.selects RX7 yX7_leastCompressor yX7_leastCompressor) ∈ wsG := wsT4 _ (List.mem_of_getElem? (i := 45) (by decide +kernel)) rfl
theorem w_co_yX7_leastCompressor : (Cond.code yX7_leastCompressor cX7_leastCompressor 3 (some FieldType.int)) ∈ wsG := wsT4 _ (List.mem_of_getElem? (i := 46) (by decide +kernel)) rfl
theorem w_ml_X7_197 : (Cond.methodLink RX7 197 yX7_goesWithoutSkip) ∈ wsG := wsT4 _ (List.mem_of_getElem? (i := 47) (by decide +kernel)) rfl
theorem w_im_yX7_goesWithoutSkip : (Cond.instanceMethod yX7_goesWithoutSkip) ∈ wsG := wsT4 _ (List.mem_of_getElem? (i := 49) (by decide +kernel)) rfl
theorem w_co_yX7_goesWithoutSkip : (Cond.code yX7_goesWithoutSkip cX7_goesWithoutSkip 4 (some FieldType.boolean)) ∈ wsG := wsT4 _ (List.mem_of_getElem? (i := 50) (by decide +kernel)) rfl
theorem w_ml_L_156 : (Cond.methodLink RL 156 yL_append) ∈ wsG := wsT4 _ (List.mem_of_getElem? (i := 51) (by decide +kernel)) rfl
theorem w_st_yL_append : (Cond.static yL_append) ∈ wsG := wsT4 _ (List.mem_of_getElem? (i := 52) (by decide +kernel)) rfl
theorem w_cw_yL_append : (Cond.codeWith yL_append cL_append 4 (some FieldType.int) [((0), (9), (12), (19)), ((0), (9), (15), (32))]) ∈ wsG := wsT4 _ (List.mem_of_getElem? (i := 53) (by decide +kernel)) rfl
theorem w_ml_L_69 : (Cond.methodLink RL 69 yX7_append) ∈ wsG := wsT4 _ (List.mem_of_getElem? (i := 54) (by decide +kernel)) rfl
theorem w_im_yX7_append : (Cond.instanceMethod yX7_append) ∈ wsG := wsT4 _ (List.mem_of_getElem? (i := 55) (by decide +kernel)) rfl
theorem w_se_yX7_append : (Cond.selects RX7 yX7_append yX7_append) ∈ wsG := wsT4 _ (List.mem_of_getElem? (i := 56) (by decide +kernel)) rfl
theorem w_co_yX7_append : (Cond.code yX7_append cX7_append 2 (some FieldType.int)) ∈ wsG := wsT4 _ (List.mem_of_getElem? (i := 57) (by decide +kernel)) rfl
theorem w_ml_X7_221 : (Cond.methodLink RX7 221 yX6_putLast) ∈ wsG := wsT4 _ (List.mem_of_getElem? (i := 60) (by decide +kernel)) rfl
theorem w_im_yX6_putLast : (Cond.instanceMethod yX6_putLast) ∈ wsG := wsT4 _ (List.mem_of_getElem? (i := 61) (by decide +kernel)) rfl
theorem w_se_yX6_putLast : (Cond.selects RX6 yX6_putLast yX6_putLast) ∈ wsG := wsT4 _ (List.mem_of_getElem? (i := 62) (by decide +kernel)) rfl
theorem w_co_yX6_putLast : (Cond.code yX6_putLast cX6_putLast 2 none) ∈ wsG := wsT4 _ (List.mem_of_getElem? (i := 63) (by decide +kernel)) rfl
theorem w_ml_L_167 : (Cond.methodLink RL 167 yL_undo) ∈ wsG := wsT4 _ (List.mem_of_getElem? (i := 64) (by decide +kernel)) rfl
theorem w_st_yL_undo : (Cond.static yL_undo) ∈ wsG := wsT4 _ (List.mem_of_getElem? (i := 65) (by decide +kernel)) rfl
theorem w_cw_yL_undo : (Cond.codeWith yL_undo cL_undo 3 (some FieldType.int) [((0), (8), (11), (32))]) ∈ wsG := wsT4 _ (List.mem_of_getElem? (i := 66) (by decide +kernel)) rfl
theorem w_ml_L_72 : (Cond.methodLink RL 72 yX7_undo) ∈ wsG := wsT4 _ (List.mem_of_getElem? (i := 67) (by decide +kernel)) rfl
theorem w_im_yX7_undo : (Cond.instanceMethod yX7_undo) ∈ wsG := wsT4 _ (List.mem_of_getElem? (i := 68) (by decide +kernel)) rfl
theorem w_se_yX7_undo : (Cond.selects RX7 yX7_undo yX7_undo) ∈ wsG := wsT4 _ (List.mem_of_getElem? (i := 69) (by decide +kernel)) rfl
theorem w_co_yX7_undo : (Cond.code yX7_undo cX7_undo 1 (some FieldType.int)) ∈ wsG := wsT4 _ (List.mem_of_getElem? (i := 70) (by decide +kernel)) rfl
theorem w_ml_X7_239 : (Cond.methodLink RX7 239 yX4_restore) ∈ wsG := wsT4 _ (List.mem_of_getElem? (i := 72) (by decide +kernel)) rfl
theorem w_im_yX4_restore : (Cond.instanceMethod yX4_restore) ∈ wsG := wsT4 _ (List.mem_of_getElem? (i := 73) (by decide +kernel)) rfl
theorem w_se_yX4_restore : (Cond.selects RX4 yX4_restore yX4_restore) ∈ wsG := wsT4 _ (List.mem_of_getElem? (i := 74) (by decide +kernel)) rfl
theorem w_co_yX4_restore : (Cond.code yX4_restore cX4_restore 3 none) ∈ wsG := wsT4 _ (List.mem_of_getElem? (i := 75) (by decide +kernel)) rfl
theorem w_cl_L_77 : (Cond.classLink RL 77 RX8) ∈ wsG := wsT4 _ (List.mem_of_getElem? (i := 76) (by decide +kernel)) rfl
theorem w_is_X8 : (Cond.instantiable RX8 13) ∈ wsG := wsT4 _ (List.mem_of_getElem? (i := 77) (by decide +kernel)) rfl
theorem w_ml_L_79 : (Cond.methodLink RL 79 yX8_init) ∈ wsG := wsT4 _ (List.mem_of_getElem? (i := 78) (by decide +kernel)) rfl
theorem w_im_yX8_init : (Cond.instanceMethod yX8_init) ∈ wsG := wsT4 _ (List.mem_of_getElem? (i := 79) (by decide +kernel)) rfl
theorem w_co_yX8_init : (Cond.code yX8_init cX8_init 2 none) ∈ wsG := wsT4 _ (List.mem_of_getElem? (i := 80) (by decide +kernel)) rfl
theorem w_ml_X8_1 : (Cond.methodLink RX8 1 objectInit) ∈ wsG := wsT4 _ (List.mem_of_getElem? (i := 81) (by decide +kernel)) rfl
theorem w_ml_X8_28 : (Cond.methodLink RX8 28 yX8_empties) ∈ wsG := wsT4 _ (List.mem_of_getElem? (i := 82) (by decide +kernel)) rfl
theorem w_im_yX8_empties : (Cond.instanceMethod yX8_empties) ∈ wsG := wsT4 _ (List.mem_of_getElem? (i := 84) (by decide +kernel)) rfl
theorem w_co_yX8_empties : (Cond.code yX8_empties cX8_empties 2 none) ∈ wsG := wsT4 _ (List.mem_of_getElem? (i := 85) (by decide +kernel)) rfl
theorem w_fl_X8_7 : (Cond.fieldLink RX8 7 "CamDrumModel" "all" "[I") ∈ wsG := wsT4 _ (List.mem_of_getElem? (i := 86) (by decide +kernel)) rfl
theorem w_fl_X8_13 : (Cond.fieldLink RX8 13 "CamDrumModel" "saved" "[I") ∈ wsG := wsT4 _ (List.mem_of_getElem? (i := 87) (by decide +kernel)) rfl
theorem w_fl_X8_16 : (Cond.fieldLink RX8 16 "CamDrumModel" "aside" "[I") ∈ wsG := wsT4 _ (List.mem_of_getElem? (i := 88) (by decide +kernel)) rfl
theorem w_fl_X8_35 : (Cond.fieldLink RX8 35 "CamDrumModel" "savedMany" "I") ∈ wsG := wsT4 _ (List.mem_of_getElem? (i := 89) (by decide +kernel)) rfl
theorem w_fl_X8_31 : (Cond.fieldLink RX8 31 "CamDrumModel" "threw" "I") ∈ wsG := wsT4 _ (List.mem_of_getElem? (i := 90) (by decide +kernel)) rfl
theorem w_fl_X8_99 : (Cond.fieldLink RX8 99 "CamDrumModel" "wentOn" "Z") ∈ wsG := wsT4 _ (List.mem_of_getElem? (i := 91) (by decide +kernel)) rfl
theorem w_fl_X8_107 : (Cond.fieldLink RX8 107 "CamDrumModel" "wereOut" "Z") ∈ wsG := wsT4 _ (List.mem_of_getElem? (i := 92) (by decide +kernel)) rfl
theorem w_fl_X8_19 : (Cond.fieldLink RX8 19 "CamDrumModel" "first" "[I") ∈ wsG := wsT4 _ (List.mem_of_getElem? (i := 93) (by decide +kernel)) rfl
theorem w_fl_X8_22 : (Cond.fieldLink RX8 22 "CamDrumModel" "text" "[I") ∈ wsG := wsT4 _ (List.mem_of_getElem? (i := 94) (by decide +kernel)) rfl
theorem w_fl_X8_157 : (Cond.fieldLink RX8 157 "CamDrumModel" "textLong" "I") ∈ wsG := wsT4 _ (List.mem_of_getElem? (i := 95) (by decide +kernel)) rfl
theorem w_fl_X8_160 : (Cond.fieldLink RX8 160 "CamDrumModel" "place" "I") ∈ wsG := wsT4 _ (List.mem_of_getElem? (i := 96) (by decide +kernel)) rfl
theorem w_fl_X8_25 : (Cond.fieldLink RX8 25 "CamDrumModel" "told" "[I") ∈ wsG := wsT4 _ (List.mem_of_getElem? (i := 97) (by decide +kernel)) rfl
theorem w_fl_X8_174 : (Cond.fieldLink RX8 174 "CamDrumModel" "toldSteps" "I") ∈ wsG := wsT4 _ (List.mem_of_getElem? (i := 98) (by decide +kernel)) rfl
theorem w_ly_X8_all : (Cond.laysFinal "CamDrumModel" "CamDrumModel" "all" "[I") ∈ wsG := wsT4 _ (List.mem_of_getElem? (i := 99) (by decide +kernel)) rfl
theorem w_ly_X8_saved : (Cond.laysFinal "CamDrumModel" "CamDrumModel" "saved" "[I") ∈ wsG := wsT4 _ (List.mem_of_getElem? (i := 101) (by decide +kernel)) rfl
theorem w_ly_X8_aside : (Cond.laysFinal "CamDrumModel" "CamDrumModel" "aside" "[I") ∈ wsG := wsT4 _ (List.mem_of_getElem? (i := 103) (by decide +kernel)) rfl
theorem w_ly_X8_savedMany : (Cond.lays "CamDrumModel" "CamDrumModel" "savedMany" "I") ∈ wsG := wsT4 _ (List.mem_of_getElem? (i := 105) (by decide +kernel)) rfl
theorem w_ly_X8_threw : (Cond.lays "CamDrumModel" "CamDrumModel" "threw" "I") ∈ wsG := wsT4 _ (List.mem_of_getElem? (i := 107) (by decide +kernel)) rfl
theorem w_ly_X8_wentOn : (Cond.lays "CamDrumModel" "CamDrumModel" "wentOn" "Z") ∈ wsG := wsT4 _ (List.mem_of_getElem? (i := 109) (by decide +kernel)) rfl
theorem w_ly_X8_wereOut : (Cond.lays "CamDrumModel" "CamDrumModel" "wereOut" "Z") ∈ wsG := wsT4 _ (List.mem_of_getElem? (i := 111) (by decide +kernel)) rfl
theorem w_ly_X8_first : (Cond.laysFinal "CamDrumModel" "CamDrumModel" "first" "[I") ∈ wsG := wsT4 _ (List.mem_of_getElem? (i := 113) (by decide +kernel)) rfl
theorem w_ly_X8_text : (Cond.laysFinal "CamDrumModel" "CamDrumModel" "text" "[I") ∈ wsG := wsT4 _ (List.mem_of_getElem? (i := 115) (by decide +kernel)) rfl
theorem w_ly_X8_textLong : (Cond.lays "CamDrumModel" "CamDrumModel" "textLong" "I") ∈ wsG := wsT4 _ (List.mem_of_getElem? (i := 117) (by decide +kernel)) rfl
theorem w_ly_X8_place : (Cond.lays "CamDrumModel" "CamDrumModel" "place" "I") ∈ wsG := wsT4 _ (List.mem_of_getElem? (i := 119) (by decide +kernel)) rfl
theorem w_ly_X8_told : (Cond.laysFinal "CamDrumModel" "CamDrumModel" "told" "[I") ∈ wsG := wsT4 _ (List.mem_of_getElem? (i := 121) (by decide +kernel)) rfl
theorem w_ly_X8_toldSteps : (Cond.lays "CamDrumModel" "CamDrumModel" "toldSteps" "I") ∈ wsG := wsT4 _ (List.mem_of_getElem? (i := 123) (by decide +kernel)) rfl
theorem w_ml_L_86 : (Cond.methodLink RL 86 yX8_thrown) ∈ wsG := wsT4 _ (List.mem_of_getElem? (i := 126) (by decide +kernel)) rfl
theorem w_im_yX8_thrown : (Cond.instanceMethod yX8_thrown) ∈ wsG := wsT4 _ (List.mem_of_getElem? (i := 127) (by decide +kernel)) rfl
theorem w_se_yX8_thrown : (Cond.selects RX8 yX8_thrown yX8_thrown) ∈ wsG := wsT4 _ (List.mem_of_getElem? (i := 128) (by decide +kernel)) rfl
theorem w_co_yX8_thrown : (Cond.code yX8_thrown cX8_thrown 1 (some FieldType.int)) ∈ wsG := wsT4 _ (List.mem_of_getElem? (i := 129) (by decide +kernel)) rfl
theorem w_ml_L_85 : (Cond.methodLink RL 85 yX8_setCam) ∈ wsG := wsT4 _ (List.mem_of_getElem? (i := 130) (by decide +kernel)) rfl
theorem w_im_yX8_setCam : (Cond.instanceMethod yX8_setCam) ∈ wsG := wsT4 _ (List.mem_of_getElem? (i := 131) (by decide +kernel)) rfl
theorem w_se_yX8_setCam : (Cond.selects RX8 yX8_setCam yX8_setCam) ∈ wsG := wsT4 _ (List.mem_of_getElem? (i := 132) (by decide +kernel)) rfl
theorem w_co_yX8_setCam : (Cond.code yX8_setCam cX8_setCam 5 (some FieldType.int)) ∈ wsG := wsT4 _ (List.mem_of_getElem? (i := 133) (by decide +kernel)) rfl
theorem w_ml_X8_48 : (Cond.methodLink RX8 48 yX8_isCylinder) ∈ wsG := wsT4 _ (List.mem_of_getElem? (i := 134) (by decide +kernel)) rfl
theorem w_st_yX8_isCylinder : (Cond.static yX8_isCylinder) ∈ wsG := wsT4 _ (List.mem_of_getElem? (i := 135) (by decide +kernel)) rfl
theorem w_co_yX8_isCylinder : (Cond.code yX8_isCylinder cX8_isCylinder 1 (some FieldType.boolean)) ∈ wsG := wsT4 _ (List.mem_of_getElem? (i := 136) (by decide +kernel)) rfl
theorem w_ct_X8_38 : (Cond.constantLong RX8 38 (4)) ∈ wsG := wsT4 _ (List.mem_of_getElem? (i := 137) (by decide +kernel)) rfl
theorem w_ml_X8_40 : (Cond.methodLink RX8 40 yX8_in) ∈ wsG := wsT4 _ (List.mem_of_getElem? (i := 138) (by decide +kernel)) rfl
theorem w_st_yX8_in : (Cond.static yX8_in) ∈ wsG := wsT4 _ (List.mem_of_getElem? (i := 139) (by decide +kernel)) rfl
theorem w_co_yX8_in : (Cond.code yX8_in cX8_in 6 (some FieldType.boolean)) ∈ wsG := wsT4 _ (List.mem_of_getElem? (i := 140) (by decide +kernel)) rfl
theorem w_ml_X8_52 : (Cond.methodLink RX8 52 yX8_isStep) ∈ wsG := wsT4 _ (List.mem_of_getElem? (i := 141) (by decide +kernel)) rfl
theorem w_im_yX8_isStep : (Cond.instanceMethod yX8_isStep) ∈ wsG := wsT4 _ (List.mem_of_getElem? (i := 143) (by decide +kernel)) rfl
theorem w_co_yX8_isStep : (Cond.code yX8_isStep cX8_isStep 2 (some FieldType.boolean)) ∈ wsG := wsT4 _ (List.mem_of_getElem? (i := 144) (by decide +kernel)) rfl
theorem w_ml_X8_55 : (Cond.methodLink RX8 55 yX8_throwing) ∈ wsG := wsT4 _ (List.mem_of_getElem? (i := 145) (by decide +kernel)) rfl
theorem w_im_yX8_throwing : (Cond.instanceMethod yX8_throwing) ∈ wsG := wsT4 _ (List.mem_of_getElem? (i := 147) (by decide +kernel)) rfl
theorem w_co_yX8_throwing : (Cond.code yX8_throwing cX8_throwing 2 (some FieldType.int)) ∈ wsG := wsT4 _ (List.mem_of_getElem? (i := 148) (by decide +kernel)) rfl
theorem w_ml_X8_59 : (Cond.methodLink RX8 59 yX8_save) ∈ wsG := wsT4 _ (List.mem_of_getElem? (i := 149) (by decide +kernel)) rfl
theorem w_im_yX8_save : (Cond.instanceMethod yX8_save) ∈ wsG := wsT4 _ (List.mem_of_getElem? (i := 151) (by decide +kernel)) rfl
theorem w_co_yX8_save : (Cond.code yX8_save cX8_save 2 none) ∈ wsG := wsT4 _ (List.mem_of_getElem? (i := 152) (by decide +kernel)) rfl
theorem w_ml_X8_62 : (Cond.methodLink RX8 62 yX8_camsOf) ∈ wsG := wsT4 _ (List.mem_of_getElem? (i := 153) (by decide +kernel)) rfl
theorem w_im_yX8_camsOf : (Cond.instanceMethod yX8_camsOf) ∈ wsG := wsT4 _ (List.mem_of_getElem? (i := 155) (by decide +kernel)) rfl
theorem w_co_yX8_camsOf : (Cond.code yX8_camsOf cX8_camsOf 4 (some FieldType.int)) ∈ wsG := wsT4 _ (List.mem_of_getElem? (i := 156) (by decide +kernel)) rfl
theorem w_ml_X8_44 : (Cond.methodLink RX8 44 yX8_hasCam) ∈ wsG := wsT4 _ (List.mem_of_getElem? (i := 157) (by decide +kernel)) rfl
theorem w_im_yX8_hasCam : (Cond.instanceMethod yX8_hasCam) ∈ wsG := wsT4 _ (List.mem_of_getElem? (i := 159) (by decide +kernel)) rfl
theorem w_co_yX8_hasCam : (Cond.code yX8_hasCam cX8_hasCam 3 (some FieldType.boolean)) ∈ wsG := wsT4 _ (List.mem_of_getElem? (i := 160) (by decide +kernel)) rfl
theorem w_ml_X8_65 : (Cond.methodLink RX8 65 yX8_fine) ∈ wsG := wsT4 _ (List.mem_of_getElem? (i := 161) (by decide +kernel)) rfl
theorem w_im_yX8_fine : (Cond.instanceMethod yX8_fine) ∈ wsG := wsT4 _ (List.mem_of_getElem? (i := 163) (by decide +kernel)) rfl
theorem w_co_yX8_fine : (Cond.code yX8_fine cX8_fine 2 (some FieldType.int)) ∈ wsG := wsT4 _ (List.mem_of_getElem? (i := 164) (by decide +kernel)) rfl
theorem w_ml_L_92 : (Cond.methodLink RL 92 yX8_setPawl) ∈ wsG := wsT4 _ (List.mem_of_getElem? (i := 165) (by decide +kernel)) rfl
theorem w_im_yX8_setPawl : (Cond.instanceMethod yX8_setPawl) ∈ wsG := wsT4 _ (List.mem_of_getElem? (i := 166) (by decide +kernel)) rfl
theorem w_se_yX8_setPawl : (Cond.selects RX8 yX8_setPawl yX8_setPawl) ∈ wsG := wsT4 _ (List.mem_of_getElem? (i := 167) (by decide +kernel)) rfl
theorem w_co_yX8_setPawl : (Cond.code yX8_setPawl cX8_setPawl 4 (some FieldType.int)) ∈ wsG := wsT4 _ (List.mem_of_getElem? (i := 168) (by decide +kernel)) rfl
theorem w_ct_X8_68 : (Cond.constantLong RX8 68 (20)) ∈ wsG := wsT4 _ (List.mem_of_getElem? (i := 169) (by decide +kernel)) rfl
theorem w_ct_X8_70 : (Cond.constantLong RX8 70 (5000)) ∈ wsG := wsT4 _ (List.mem_of_getElem? (i := 170) (by decide +kernel)) rfl
theorem w_ml_L_96 : (Cond.methodLink RL 96 yX8_setCylinder) ∈ wsG := wsT4 _ (List.mem_of_getElem? (i := 171) (by decide +kernel)) rfl
theorem w_im_yX8_setCylinder : (Cond.instanceMethod yX8_setCylinder) ∈ wsG := wsT4 _ (List.mem_of_getElem? (i := 172) (by decide +kernel)) rfl
theorem w_se_yX8_setCylinder : (Cond.selects RX8 yX8_setCylinder yX8_setCylinder) ∈ wsG := wsT4 _ (List.mem_of_getElem? (i := 173) (by decide +kernel)) rfl
theorem w_co_yX8_setCylinder : (Cond.code yX8_setCylinder cX8_setCylinder 5 (some FieldType.int)) ∈ wsG := wsT4 _ (List.mem_of_getElem? (i := 174) (by decide +kernel)) rfl
theorem w_ct_X8_72 : (Cond.constantLong RX8 72 (9)) ∈ wsG := wsT4 _ (List.mem_of_getElem? (i := 175) (by decide +kernel)) rfl
theorem w_ct_X8_74 : (Cond.constantLong RX8 74 (50)) ∈ wsG := wsT4 _ (List.mem_of_getElem? (i := 176) (by decide +kernel)) rfl
theorem w_ml_X8_76 : (Cond.methodLink RX8 76 yX8_out) ∈ wsG := wsT4 _ (List.mem_of_getElem? (i := 177) (by decide +kernel)) rfl
theorem w_im_yX8_out : (Cond.instanceMethod yX8_out) ∈ wsG := wsT4 _ (List.mem_of_getElem? (i := 179) (by decide +kernel)) rfl
theorem w_co_yX8_out : (Cond.code yX8_out cX8_out 2 (some FieldType.int)) ∈ wsG := wsT4 _ (List.mem_of_getElem? (i := 180) (by decide +kernel)) rfl
theorem w_ml_L_99 : (Cond.methodLink RL 99 yX8_setAir) ∈ wsG := wsT4 _ (List.mem_of_getElem? (i := 181) (by decide +kernel)) rfl
theorem w_im_yX8_setAir : (Cond.instanceMethod yX8_setAir) ∈ wsG := wsT4 _ (List.mem_of_getElem? (i := 182) (by decide +kernel)) rfl
theorem w_se_yX8_setAir : (Cond.selects RX8 yX8_setAir yX8_setAir) ∈ wsG := wsT4 _ (List.mem_of_getElem? (i := 183) (by decide +kernel)) rfl
theorem w_co_yX8_setAir : (Cond.code yX8_setAir cX8_setAir 3 (some FieldType.int)) ∈ wsG := wsT4 _ (List.mem_of_getElem? (i := 184) (by decide +kernel)) rfl
theorem w_ct_X8_79 : (Cond.constantLong RX8 79 (100)) ∈ wsG := wsT4 _ (List.mem_of_getElem? (i := 185) (by decide +kernel)) rfl
theorem w_ct_X8_81 : (Cond.constantLong RX8 81 (9999)) ∈ wsG := wsT4 _ (List.mem_of_getElem? (i := 186) (by decide +kernel)) rfl
theorem w_ct_X8_83 : (Cond.constantLong RX8 83 (500)) ∈ wsG := wsT4 _ (List.mem_of_getElem? (i := 187) (by decide +kernel)) rfl
theorem w_ml_X8_85 : (Cond.methodLink RX8 85 yX8_letsOff) ∈ wsG := wsT4 _ (List.mem_of_getElem? (i := 188) (by decide +kernel)) rfl
theorem w_im_yX8_letsOff : (Cond.instanceMethod yX8_letsOff) ∈ wsG := wsT4 _ (List.mem_of_getElem? (i := 190) (by decide +kernel)) rfl
theorem w_co_yX8_letsOff : (Cond.code yX8_letsOff cX8_letsOff 2 none) ∈ wsG := wsT4 _ (List.mem_of_getElem? (i := 191) (by decide +kernel)) rfl
theorem w_ml_L_103 : (Cond.methodLink RL 103 yX8_addGuard) ∈ wsG := wsT4 _ (List.mem_of_getElem? (i := 192) (by decide +kernel)) rfl
theorem w_im_yX8_addGuard : (Cond.instanceMethod yX8_addGuard) ∈ wsG := wsT4 _ (List.mem_of_getElem? (i := 193) (by decide +kernel)) rfl
theorem w_se_yX8_addGuard : (Cond.selects RX8 yX8_addGuard yX8_addGuard) ∈ wsG := wsT4 _ (List.mem_of_getElem? (i := 194) (by decide +kernel)) rfl
theorem w_co_yX8_addGuard : (Cond.code yX8_addGuard cX8_addGuard 5 (some FieldType.int)) ∈ wsG := wsT4 _ (List.mem_of_getElem? (i := 195) (by decide +kernel)) rfl
theorem w_ct_X8_88 : (Cond.constantLong RX8 88 (99)) ∈ wsG := wsT4 _ (List.mem_of_getElem? (i := 196) (by decide +kernel)) rfl
theorem w_ml_L_107 : (Cond.methodLink RL 107 yX8_removeGuard) ∈ wsG := wsT4 _ (List.mem_of_getElem? (i := 197) (by decide +kernel)) rfl
theorem w_im_yX8_removeGuard : (Cond.instanceMethod yX8_removeGuard) ∈ wsG := wsT4 _ (List.mem_of_getElem? (i := 198) (by decide +kernel)) rfl
theorem w_se_yX8_removeGuard : (Cond.selects RX8 yX8_removeGuard yX8_removeGuard) ∈ wsG := wsT4 _ (List.mem_of_getElem? (i := 199) (by decide +kernel)) rfl
theorem w_co_yX8_removeGuard : (Cond.code yX8_removeGuard cX8_removeGuard 3 (some FieldType.int)) ∈ wsG := wsT4 _ (List.mem_of_getElem? (i := 200) (by decide +kernel)) rfl
theorem w_ml_X8_90 : (Cond.methodLink RX8 90 yX8_isGuard) ∈ wsG := wsT4 _ (List.mem_of_getElem? (i := 201) (by decide +kernel)) rfl
theorem w_im_yX8_isGuard : (Cond.instanceMethod yX8_isGuard) ∈ wsG := wsT4 _ (List.mem_of_getElem? (i := 203) (by decide +kernel)) rfl
theorem w_co_yX8_isGuard : (Cond.code yX8_isGuard cX8_isGuard 2 (some FieldType.boolean)) ∈ wsG := wsT4 _ (List.mem_of_getElem? (i := 204) (by decide +kernel)) rfl
theorem w_ml_L_110 : (Cond.methodLink RL 110 yX8_turn) ∈ wsG := wsT4 _ (List.mem_of_getElem? (i := 205) (by decide +kernel)) rfl
theorem w_im_yX8_turn : (Cond.instanceMethod yX8_turn) ∈ wsG := wsT4 _ (List.mem_of_getElem? (i := 206) (by decide +kernel)) rfl
theorem w_se_yX8_turn : (Cond.selects RX8 yX8_turn yX8_turn) ∈ wsG := wsT4 _ (List.mem_of_getElem? (i := 207) (by decide +kernel)) rfl
theorem w_co_yX8_turn : (Cond.code yX8_turn cX8_turn 3 (some FieldType.int)) ∈ wsG := wsT4 _ (List.mem_of_getElem? (i := 208) (by decide +kernel)) rfl
theorem w_ml_L_113 : (Cond.methodLink RL 113 yX8_run) ∈ wsG := wsT4 _ (List.mem_of_getElem? (i := 209) (by decide +kernel)) rfl
theorem w_im_yX8_run : (Cond.instanceMethod yX8_run) ∈ wsG := wsT4 _ (List.mem_of_getElem? (i := 210) (by decide +kernel)) rfl
theorem w_se_yX8_run : (Cond.selects RX8 yX8_run yX8_run) ∈ wsG := wsT4 _ (List.mem_of_getElem? (i := 211) (by decide +kernel)) rfl
theorem w_co_yX8_run : (Cond.code yX8_run cX8_run 4 (some FieldType.int)) ∈ wsG := wsT4 _ (List.mem_of_getElem? (i := 212) (by decide +kernel)) rfl
theorem w_ct_X8_117 : (Cond.constant RX8 117 (100000)) ∈ wsG := wsT4 _ (List.mem_of_getElem? (i := 213) (by decide +kernel)) rfl
theorem w_ml_X8_118 : (Cond.methodLink RX8 118 yX8_tick) ∈ wsG := wsT4 _ (List.mem_of_getElem? (i := 214) (by decide +kernel)) rfl
theorem w_im_yX8_tick : (Cond.instanceMethod yX8_tick) ∈ wsG := wsT4 _ (List.mem_of_getElem? (i := 216) (by decide +kernel)) rfl
theorem w_co_yX8_tick : (Cond.code yX8_tick cX8_tick 2 none) ∈ wsG := wsT4 _ (List.mem_of_getElem? (i := 217) (by decide +kernel)) rfl
theorem w_ml_X8_103 : (Cond.methodLink RX8 103 yX8_areOut) ∈ wsG := wsT4 _ (List.mem_of_getElem? (i := 218) (by decide +kernel)) rfl
theorem w_im_yX8_areOut : (Cond.instanceMethod yX8_areOut) ∈ wsG := wsT4 _ (List.mem_of_getElem? (i := 220) (by decide +kernel)) rfl
theorem w_co_yX8_areOut : (Cond.code yX8_areOut cX8_areOut 3 (some FieldType.boolean)) ∈ wsG := wsT4 _ (List.mem_of_getElem? (i := 221) (by decide +kernel)) rfl
theorem w_ml_X8_110 : (Cond.methodLink RX8 110 yX8_moves) ∈ wsG := wsT4 _ (List.mem_of_getElem? (i := 222) (by decide +kernel)) rfl
theorem w_im_yX8_moves : (Cond.instanceMethod yX8_moves) ∈ wsG := wsT4 _ (List.mem_of_getElem? (i := 224) (by decide +kernel)) rfl
theorem w_co_yX8_moves : (Cond.code yX8_moves cX8_moves 6 none) ∈ wsG := wsT4 _ (List.mem_of_getElem? (i := 225) (by decide +kernel)) rfl
theorem w_ml_X8_96 : (Cond.methodLink RX8 96 yX8_mayMove) ∈ wsG := wsT4 _ (List.mem_of_getElem? (i := 226) (by decide +kernel)) rfl
theorem w_im_yX8_mayMove : (Cond.instanceMethod yX8_mayMove) ∈ wsG := wsT4 _ (List.mem_of_getElem? (i := 228) (by decide +kernel)) rfl
theorem w_co_yX8_mayMove : (Cond.code yX8_mayMove cX8_mayMove 5 (some FieldType.int)) ∈ wsG := wsT4 _ (List.mem_of_getElem? (i := 229) (by decide +kernel)) rfl
theorem w_ml_X8_93 : (Cond.methodLink RX8 93 yX8_holds) ∈ wsG := wsT4 _ (List.mem_of_getElem? (i := 230) (by decide +kernel)) rfl
theorem w_im_yX8_holds : (Cond.instanceMethod yX8_holds) ∈ wsG := wsT4 _ (List.mem_of_getElem? (i := 232) (by decide +kernel)) rfl
theorem w_co_yX8_holds : (Cond.code yX8_holds cX8_holds 2 (some FieldType.boolean)) ∈ wsG := wsT4 _ (List.mem_of_getElem? (i := 233) (by decide +kernel)) rfl
theorem w_ml_X8_114 : (Cond.methodLink RX8 114 yX8_leaks) ∈ wsG := wsT4 _ (List.mem_of_getElem? (i := 234) (by decide +kernel)) rfl
theorem w_im_yX8_leaks : (Cond.instanceMethod yX8_leaks) ∈ wsG := wsT4 _ (List.mem_of_getElem? (i := 236) (by decide +kernel)) rfl
theorem w_co_yX8_leaks : (Cond.code yX8_leaks cX8_leaks 4 none) ∈ wsG := wsT4 _ (List.mem_of_getElem? (i := 237) (by decide +kernel)) rfl
theorem w_ml_L_116 : (Cond.methodLink RL 116 yX8_cam) ∈ wsG := wsT4 _ (List.mem_of_getElem? (i := 238) (by decide +kernel)) rfl
theorem w_im_yX8_cam : (Cond.instanceMethod yX8_cam) ∈ wsG := wsT4 _ (List.mem_of_getElem? (i := 239) (by decide +kernel)) rfl
theorem w_se_yX8_cam : (Cond.selects RX8 yX8_cam yX8_cam) ∈ wsG := wsT5 _ (List.mem_of_getElem? (i := 0) (by decide +kernel)) rfl
theorem w_co_yX8_cam : (Cond.code yX8_cam cX8_cam 4 (some FieldType.boolean)) ∈ wsG := wsT5 _ (List.mem_of_getElem? (i := 1) (by decide +kernel)) rfl
theorem w_ml_L_119 : (Cond.methodLink RL 119 yX8_cylinder) ∈ wsG := wsT5 _ (List.mem_of_getElem? (i := 2) (by decide +kernel)) rfl
theorem w_im_yX8_cylinder : (Cond.instanceMethod yX8_cylinder) ∈ wsG := wsT5 _ (List.mem_of_getElem? (i := 3) (by decide +kernel)) rfl
theorem w_se_yX8_cylinder : (Cond.selects RX8 yX8_cylinder yX8_cylinder) ∈ wsG := wsT5 _ (List.mem_of_getElem? (i := 4) (by decide +kernel)) rfl
theorem w_co_yX8_cylinder : (Cond.code yX8_cylinder cX8_cylinder 3 (some FieldType.int)) ∈ wsG := wsT5 _ (List.mem_of_getElem? (i := 5) (by decide +kernel)) rfl
theorem w_ct_X8_121 : (Cond.constantLong RX8 121 (7)) ∈ wsG := wsT5 _ (List.mem_of_getElem? (i := 6) (by decide +kernel)) rfl
theorem w_ml_X8_123 : (Cond.methodLink RX8 123 yX8_cylinderOf) ∈ wsG := wsT5 _ (List.mem_of_getElem? (i := 7) (by decide +kernel)) rfl
theorem w_im_yX8_cylinderOf : (Cond.instanceMethod yX8_cylinderOf) ∈ wsG := wsT5 _ (List.mem_of_getElem? (i := 9) (by decide +kernel)) rfl
theorem w_co_yX8_cylinderOf : (Cond.code yX8_cylinderOf cX8_cylinderOf 3 (some FieldType.int)) ∈ wsG := wsT5 _ (List.mem_of_getElem? (i := 10) (by decide +kernel)) rfl
theorem w_ml_L_122 : (Cond.methodLink RL 122 yX8_guard) ∈ wsG := wsT5 _ (List.mem_of_getElem? (i := 11) (by decide +kernel)) rfl
theorem w_im_yX8_guard : (Cond.instanceMethod yX8_guard) ∈ wsG := wsT5 _ (List.mem_of_getElem? (i := 12) (by decide +kernel)) rfl
theorem w_se_yX8_guard : (Cond.selects RX8 yX8_guard yX8_guard) ∈ wsG := wsT5 _ (List.mem_of_getElem? (i := 13) (by decide +kernel)) rfl
theorem w_co_yX8_guard : (Cond.code yX8_guard cX8_guard 3 (some FieldType.int)) ∈ wsG := wsT5 _ (List.mem_of_getElem? (i := 14) (by decide +kernel)) rfl
theorem w_ct_X8_127 : (Cond.constantLong RX8 127 (3)) ∈ wsG := wsT5 _ (List.mem_of_getElem? (i := 15) (by decide +kernel)) rfl
theorem w_ml_X8_129 : (Cond.methodLink RX8 129 yX8_guardOf) ∈ wsG := wsT5 _ (List.mem_of_getElem? (i := 16) (by decide +kernel)) rfl
theorem w_im_yX8_guardOf : (Cond.instanceMethod yX8_guardOf) ∈ wsG := wsT5 _ (List.mem_of_getElem? (i := 18) (by decide +kernel)) rfl
theorem w_co_yX8_guardOf : (Cond.code yX8_guardOf cX8_guardOf 3 (some FieldType.int)) ∈ wsG := wsT5 _ (List.mem_of_getElem? (i := 19) (by decide +kernel)) rfl
theorem w_ml_L_125 : (Cond.methodLink RL 125 yX8_value) ∈ wsG := wsT5 _ (List.mem_of_getElem? (i := 20) (by decide +kernel)) rfl
theorem w_im_yX8_value : (Cond.instanceMethod yX8_value) ∈ wsG := wsT5 _ (List.mem_of_getElem? (i := 21) (by decide +kernel)) rfl
theorem w_se_yX8_value : (Cond.selects RX8 yX8_value yX8_value) ∈ wsG := wsT5 _ (List.mem_of_getElem? (i := 22) (by decide +kernel)) rfl
theorem w_co_yX8_value : (Cond.code yX8_value cX8_value 2 (some FieldType.int)) ∈ wsG := wsT5 _ (List.mem_of_getElem? (i := 23) (by decide +kernel)) rfl
theorem w_ct_X8_132 : (Cond.constantLong RX8 132 (15)) ∈ wsG := wsT5 _ (List.mem_of_getElem? (i := 24) (by decide +kernel)) rfl
theorem w_ml_L_128 : (Cond.methodLink RL 128 yX8_chart) ∈ wsG := wsT5 _ (List.mem_of_getElem? (i := 25) (by decide +kernel)) rfl
theorem w_im_yX8_chart : (Cond.instanceMethod yX8_chart) ∈ wsG := wsT5 _ (List.mem_of_getElem? (i := 26) (by decide +kernel)) rfl
theorem w_se_yX8_chart : (Cond.selects RX8 yX8_chart yX8_chart) ∈ wsG := wsT5 _ (List.mem_of_getElem? (i := 27) (by decide +kernel)) rfl
theorem w_co_yX8_chart : (Cond.code yX8_chart cX8_chart 3 (some FieldType.int)) ∈ wsG := wsT5 _ (List.mem_of_getElem? (i := 28) (by decide +kernel)) rfl
theorem w_ml_L_131 : (Cond.methodLink RL 131 yX8_skips) ∈ wsG := wsT5 _ (List.mem_of_getElem? (i := 29) (by decide +kernel)) rfl
theorem w_im_yX8_skips : (Cond.instanceMethod yX8_skips) ∈ wsG := wsT5 _ (List.mem_of_getElem? (i := 30) (by decide +kernel)) rfl
theorem w_se_yX8_skips : (Cond.selects RX8 yX8_skips yX8_skips) ∈ wsG := wsT5 _ (List.mem_of_getElem? (i := 31) (by decide +kernel)) rfl
theorem w_co_yX8_skips : (Cond.code yX8_skips cX8_skips 2 (some FieldType.int)) ∈ wsG := wsT5 _ (List.mem_of_getElem? (i := 32) (by decide +kernel)) rfl
theorem w_ml_L_134 : (Cond.methodLink RL 134 yX8_ticksToOut) ∈ wsG := wsT5 _ (List.mem_of_getElem? (i := 33) (by decide +kernel)) rfl
theorem w_im_yX8_ticksToOut : (Cond.instanceMethod yX8_ticksToOut) ∈ wsG := wsT5 _ (List.mem_of_getElem? (i := 34) (by decide +kernel)) rfl
theorem w_se_yX8_ticksToOut : (Cond.selects RX8 yX8_ticksToOut yX8_ticksToOut) ∈ wsG := wsT5 _ (List.mem_of_getElem? (i := 35) (by decide +kernel)) rfl
theorem w_co_yX8_ticksToOut : (Cond.code yX8_ticksToOut cX8_ticksToOut 4 (some FieldType.int)) ∈ wsG := wsT5 _ (List.mem_of_getElem? (i := 36) (by decide +kernel)) rfl
theorem w_ml_X8_134 : (Cond.methodLink RX8 134 yX8_laysAside) ∈ wsG := wsT5 _ (List.mem_of_getElem? (i := 37) (by decide +kernel)) rfl
theorem w_im_yX8_laysAside : (Cond.instanceMethod yX8_laysAside) ∈ wsG := wsT5 _ (List.mem_of_getElem? (i := 39) (by decide +kernel)) rfl
theorem w_co_yX8_laysAside : (Cond.code yX8_laysAside cX8_laysAside 2 none) ∈ wsG := wsT5 _ (List.mem_of_getElem? (i := 40) (by decide +kernel)) rfl
theorem w_ml_X8_137 : (Cond.methodLink RX8 137 yX8_takesBack) ∈ wsG := wsT5 _ (List.mem_of_getElem? (i := 41) (by decide +kernel)) rfl
theorem w_im_yX8_takesBack : (Cond.instanceMethod yX8_takesBack) ∈ wsG := wsT5 _ (List.mem_of_getElem? (i := 43) (by decide +kernel)) rfl
theorem w_co_yX8_takesBack : (Cond.code yX8_takesBack cX8_takesBack 2 none) ∈ wsG := wsT5 _ (List.mem_of_getElem? (i := 44) (by decide +kernel)) rfl
theorem w_ml_L_138 : (Cond.methodLink RL 138 yX8_ticksToCycle) ∈ wsG := wsT5 _ (List.mem_of_getElem? (i := 45) (by decide +kernel)) rfl
theorem w_im_yX8_ticksToCycle : (Cond.instanceMethod yX8_ticksToCycle) ∈ wsG := wsT5 _ (List.mem_of_getElem? (i := 46) (by decide +kernel)) rfl
theorem w_se_yX8_ticksToCycle : (Cond.selects RX8 yX8_ticksToCycle yX8_ticksToCycle) ∈ wsG := wsT5 _ (List.mem_of_getElem? (i := 47) (by decide +kernel)) rfl
theorem w_co_yX8_ticksToCycle : (Cond.code yX8_ticksToCycle cX8_ticksToCycle 1 (some FieldType.int)) ∈ wsG := wsT5 _ (List.mem_of_getElem? (i := 48) (by decide +kernel)) rfl
theorem w_ml_X8_143 : (Cond.methodLink RX8 143 yX8_toCycle) ∈ wsG := wsT5 _ (List.mem_of_getElem? (i := 49) (by decide +kernel)) rfl
theorem w_im_yX8_toCycle : (Cond.instanceMethod yX8_toCycle) ∈ wsG := wsT5 _ (List.mem_of_getElem? (i := 51) (by decide +kernel)) rfl
theorem w_co_yX8_toCycle : (Cond.code yX8_toCycle cX8_toCycle 2 (some FieldType.int)) ∈ wsG := wsT5 _ (List.mem_of_getElem? (i := 52) (by decide +kernel)) rfl
theorem w_ml_X8_140 : (Cond.methodLink RX8 140 yX8_passes) ∈ wsG := wsT5 _ (List.mem_of_getElem? (i := 53) (by decide +kernel)) rfl
theorem w_im_yX8_passes : (Cond.instanceMethod yX8_passes) ∈ wsG := wsT5 _ (List.mem_of_getElem? (i := 55) (by decide +kernel)) rfl
theorem w_co_yX8_passes : (Cond.code yX8_passes cX8_passes 4 (some FieldType.int)) ∈ wsG := wsT5 _ (List.mem_of_getElem? (i := 56) (by decide +kernel)) rfl
theorem w_ml_L_141 : (Cond.methodLink RL 141 yX8_leastCompressor) ∈ wsG := wsT5 _ (List.mem_of_getElem? (i := 57) (by decide +kernel)) rfl
theorem w_im_yX8_leastCompressor : (Cond.instanceMethod yX8_leastCompressor) ∈ wsG := wsT5 _ (List.mem_of_getElem? (i := 58) (by decide +kernel)) rfl
theorem w_se_yX8_leastCompressor : (Cond.selects RX8 yX8_leastCompressor yX8_leastCompressor) ∈ wsG := wsT5 _ (List.mem_of_getElem? (i := 59) (by decide +kernel)) rfl
theorem w_co_yX8_leastCompressor : (Cond.code yX8_leastCompressor cX8_leastCompressor 6 (some FieldType.int)) ∈ wsG := wsT5 _ (List.mem_of_getElem? (i := 60) (by decide +kernel)) rfl
theorem w_ct_X8_147 : (Cond.constantLong RX8 147 (300)) ∈ wsG := wsT5 _ (List.mem_of_getElem? (i := 61) (by decide +kernel)) rfl
theorem w_ml_L_145 : (Cond.methodLink RL 145 yX8_shortestDwell) ∈ wsG := wsT5 _ (List.mem_of_getElem? (i := 62) (by decide +kernel)) rfl
theorem w_im_yX8_shortestDwell : (Cond.instanceMethod yX8_shortestDwell) ∈ wsG := wsT5 _ (List.mem_of_getElem? (i := 63) (by decide +kernel)) rfl
theorem w_se_yX8_shortestDwell : (Cond.selects RX8 yX8_shortestDwell yX8_shortestDwell) ∈ wsG := wsT5 _ (List.mem_of_getElem? (i := 64) (by decide +kernel)) rfl
theorem w_co_yX8_shortestDwell : (Cond.code yX8_shortestDwell cX8_shortestDwell 3 (some FieldType.int)) ∈ wsG := wsT5 _ (List.mem_of_getElem? (i := 65) (by decide +kernel)) rfl
theorem w_ml_X8_149 : (Cond.methodLink RX8 149 yX8_does) ∈ wsG := wsT5 _ (List.mem_of_getElem? (i := 66) (by decide +kernel)) rfl
theorem w_im_yX8_does : (Cond.instanceMethod yX8_does) ∈ wsG := wsT5 _ (List.mem_of_getElem? (i := 68) (by decide +kernel)) rfl
theorem w_co_yX8_does : (Cond.code yX8_does cX8_does 4 (some FieldType.boolean)) ∈ wsG := wsT5 _ (List.mem_of_getElem? (i := 69) (by decide +kernel)) rfl
theorem w_ml_L_150 : (Cond.methodLink RL 150 yX8_repeats) ∈ wsG := wsT5 _ (List.mem_of_getElem? (i := 70) (by decide +kernel)) rfl
theorem w_im_yX8_repeats : (Cond.instanceMethod yX8_repeats) ∈ wsG := wsT5 _ (List.mem_of_getElem? (i := 71) (by decide +kernel)) rfl
theorem w_se_yX8_repeats : (Cond.selects RX8 yX8_repeats yX8_repeats) ∈ wsG := wsT5 _ (List.mem_of_getElem? (i := 72) (by decide +kernel)) rfl
theorem w_co_yX8_repeats : (Cond.code yX8_repeats cX8_repeats 4 (some FieldType.boolean)) ∈ wsG := wsT5 _ (List.mem_of_getElem? (i := 73) (by decide +kernel)) rfl
theorem w_ml_X8_152 : (Cond.methodLink RX8 152 yX8_behind) ∈ wsG := wsT5 _ (List.mem_of_getElem? (i := 74) (by decide +kernel)) rfl
theorem w_im_yX8_behind : (Cond.instanceMethod yX8_behind) ∈ wsG := wsT5 _ (List.mem_of_getElem? (i := 76) (by decide +kernel)) rfl
theorem w_co_yX8_behind : (Cond.code yX8_behind cX8_behind 2 (some FieldType.int)) ∈ wsG := wsT5 _ (List.mem_of_getElem? (i := 77) (by decide +kernel)) rfl
theorem w_ml_L_155 : (Cond.methodLink RL 155 yX8_useful) ∈ wsG := wsT5 _ (List.mem_of_getElem? (i := 78) (by decide +kernel)) rfl
theorem w_im_yX8_useful : (Cond.instanceMethod yX8_useful) ∈ wsG := wsT5 _ (List.mem_of_getElem? (i := 79) (by decide +kernel)) rfl
theorem w_se_yX8_useful : (Cond.selects RX8 yX8_useful yX8_useful) ∈ wsG := wsT5 _ (List.mem_of_getElem? (i := 80) (by decide +kernel)) rfl
theorem w_co_yX8_useful : (Cond.code yX8_useful cX8_useful 5 (some FieldType.double)) ∈ wsG := wsT5 _ (List.mem_of_getElem? (i := 81) (by decide +kernel)) rfl
theorem w_ml_L_158 : (Cond.methodLink RL 158 yX8_append) ∈ wsG := wsT5 _ (List.mem_of_getElem? (i := 82) (by decide +kernel)) rfl
theorem w_im_yX8_append : (Cond.instanceMethod yX8_append) ∈ wsG := wsT5 _ (List.mem_of_getElem? (i := 83) (by decide +kernel)) rfl
theorem w_se_yX8_append : (Cond.selects RX8 yX8_append yX8_append) ∈ wsG := wsT5 _ (List.mem_of_getElem? (i := 84) (by decide +kernel)) rfl
theorem w_co_yX8_append : (Cond.code yX8_append cX8_append 2 (some FieldType.int)) ∈ wsG := wsT5 _ (List.mem_of_getElem? (i := 85) (by decide +kernel)) rfl
theorem w_ct_X8_155 : (Cond.constantLong RX8 155 (127)) ∈ wsG := wsT5 _ (List.mem_of_getElem? (i := 86) (by decide +kernel)) rfl
theorem w_ml_L_162 : (Cond.methodLink RL 162 yX8_clearText) ∈ wsG := wsT5 _ (List.mem_of_getElem? (i := 87) (by decide +kernel)) rfl
theorem w_im_yX8_clearText : (Cond.instanceMethod yX8_clearText) ∈ wsG := wsT5 _ (List.mem_of_getElem? (i := 88) (by decide +kernel)) rfl
theorem w_se_yX8_clearText : (Cond.selects RX8 yX8_clearText yX8_clearText) ∈ wsG := wsT5 _ (List.mem_of_getElem? (i := 89) (by decide +kernel)) rfl
theorem w_co_yX8_clearText : (Cond.code yX8_clearText cX8_clearText 2 (some FieldType.int)) ∈ wsG := wsT5 _ (List.mem_of_getElem? (i := 90) (by decide +kernel)) rfl
theorem w_ml_L_166 : (Cond.methodLink RL 166 yX8_parse) ∈ wsG := wsT5 _ (List.mem_of_getElem? (i := 91) (by decide +kernel)) rfl
theorem w_im_yX8_parse : (Cond.instanceMethod yX8_parse) ∈ wsG := wsT5 _ (List.mem_of_getElem? (i := 92) (by decide +kernel)) rfl
theorem w_se_yX8_parse : (Cond.selects RX8 yX8_parse yX8_parse) ∈ wsG := wsT5 _ (List.mem_of_getElem? (i := 93) (by decide +kernel)) rfl
theorem w_co_yX8_parse : (Cond.code yX8_parse cX8_parse 3 (some FieldType.int)) ∈ wsG := wsT5 _ (List.mem_of_getElem? (i := 94) (by decide +kernel)) rfl
theorem w_ml_X8_188 : (Cond.methodLink RX8 188 yX8_readsText) ∈ wsG := wsT5 _ (List.mem_of_getElem? (i := 95) (by decide +kernel)) rfl
theorem w_im_yX8_readsText : (Cond.instanceMethod yX8_readsText) ∈ wsG := wsT5 _ (List.mem_of_getElem? (i := 97) (by decide +kernel)) rfl
theorem w_co_yX8_readsText : (Cond.code yX8_readsText cX8_readsText 2 (some FieldType.boolean)) ∈ wsG := wsT5 _ (List.mem_of_getElem? (i := 98) (by decide +kernel)) rfl
theorem w_ml_X8_177 : (Cond.methodLink RX8 177 yX8_passesByte) ∈ wsG := wsT5 _ (List.mem_of_getElem? (i := 99) (by decide +kernel)) rfl
theorem w_im_yX8_passesByte : (Cond.instanceMethod yX8_passesByte) ∈ wsG := wsT5 _ (List.mem_of_getElem? (i := 101) (by decide +kernel)) rfl
theorem w_co_yX8_passesByte : (Cond.code yX8_passesByte cX8_passesByte 3 (some FieldType.boolean)) ∈ wsG := wsT5 _ (List.mem_of_getElem? (i := 102) (by decide +kernel)) rfl
theorem w_ml_X8_163 : (Cond.methodLink RX8 163 yX8_here) ∈ wsG := wsT5 _ (List.mem_of_getElem? (i := 103) (by decide +kernel)) rfl
theorem w_im_yX8_here : (Cond.instanceMethod yX8_here) ∈ wsG := wsT5 _ (List.mem_of_getElem? (i := 105) (by decide +kernel)) rfl
theorem w_co_yX8_here : (Cond.code yX8_here cX8_here 1 (some FieldType.int)) ∈ wsG := wsT5 _ (List.mem_of_getElem? (i := 106) (by decide +kernel)) rfl
theorem w_ml_X8_182 : (Cond.methodLink RX8 182 yX8_readsSteps) ∈ wsG := wsT5 _ (List.mem_of_getElem? (i := 107) (by decide +kernel)) rfl
theorem w_im_yX8_readsSteps : (Cond.instanceMethod yX8_readsSteps) ∈ wsG := wsT5 _ (List.mem_of_getElem? (i := 109) (by decide +kernel)) rfl
theorem w_co_yX8_readsSteps : (Cond.code yX8_readsSteps cX8_readsSteps 3 (some FieldType.boolean)) ∈ wsG := wsT5 _ (List.mem_of_getElem? (i := 110) (by decide +kernel)) rfl
theorem w_ct_X8_166 : (Cond.constantLong RX8 166 (48)) ∈ wsG := wsT5 _ (List.mem_of_getElem? (i := 111) (by decide +kernel)) rfl
theorem w_ct_X8_168 : (Cond.constantLong RX8 168 (57)) ∈ wsG := wsT5 _ (List.mem_of_getElem? (i := 112) (by decide +kernel)) rfl
theorem w_ct_X8_170 : (Cond.constantLong RX8 170 (2)) ∈ wsG := wsT5 _ (List.mem_of_getElem? (i := 113) (by decide +kernel)) rfl
theorem w_ct_X8_172 : (Cond.constantLong RX8 172 (16)) ∈ wsG := wsT5 _ (List.mem_of_getElem? (i := 114) (by decide +kernel)) rfl
theorem w_ml_X8_185 : (Cond.methodLink RX8 185 yX8_readsTrack) ∈ wsG := wsT5 _ (List.mem_of_getElem? (i := 115) (by decide +kernel)) rfl
theorem w_im_yX8_readsTrack : (Cond.instanceMethod yX8_readsTrack) ∈ wsG := wsT5 _ (List.mem_of_getElem? (i := 117) (by decide +kernel)) rfl
theorem w_co_yX8_readsTrack : (Cond.code yX8_readsTrack cX8_readsTrack 3 (some FieldType.boolean)) ∈ wsG := wsT5 _ (List.mem_of_getElem? (i := 118) (by decide +kernel)) rfl
theorem w_ct_X8_180 : (Cond.constantLong RX8 180 (52)) ∈ wsG := wsT5 _ (List.mem_of_getElem? (i := 119) (by decide +kernel)) rfl
theorem w_ml_L_170 : (Cond.methodLink RL 170 yX8_undo) ∈ wsG := wsT5 _ (List.mem_of_getElem? (i := 120) (by decide +kernel)) rfl
theorem w_im_yX8_undo : (Cond.instanceMethod yX8_undo) ∈ wsG := wsT5 _ (List.mem_of_getElem? (i := 121) (by decide +kernel)) rfl
theorem w_se_yX8_undo : (Cond.selects RX8 yX8_undo yX8_undo) ∈ wsG := wsT5 _ (List.mem_of_getElem? (i := 122) (by decide +kernel)) rfl
theorem w_co_yX8_undo : (Cond.code yX8_undo cX8_undo 2 (some FieldType.int)) ∈ wsG := wsT5 _ (List.mem_of_getElem? (i := 123) (by decide +kernel)) rfl
theorem w_ml_L_175 : (Cond.methodLink RL 175 yX8_digest) ∈ wsG := wsT5 _ (List.mem_of_getElem? (i := 124) (by decide +kernel)) rfl
theorem w_im_yX8_digest : (Cond.instanceMethod yX8_digest) ∈ wsG := wsT5 _ (List.mem_of_getElem? (i := 125) (by decide +kernel)) rfl
theorem w_se_yX8_digest : (Cond.selects RX8 yX8_digest yX8_digest) ∈ wsG := wsT5 _ (List.mem_of_getElem? (i := 126) (by decide +kernel)) rfl
theorem w_co_yX8_digest : (Cond.code yX8_digest cX8_digest 4 (some FieldType.long)) ∈ wsG := wsT5 _ (List.mem_of_getElem? (i := 127) (by decide +kernel)) rfl
theorem w_ct_X8_193 : (Cond.constantLong RX8 193 (107477)) ∈ wsG := wsT5 _ (List.mem_of_getElem? (i := 128) (by decide +kernel)) rfl
theorem w_ct_X8_191 : (Cond.constantLong RX8 191 (31)) ∈ wsG := wsT5 _ (List.mem_of_getElem? (i := 129) (by decide +kernel)) rfl
theorem w_ml_X8_195 : (Cond.methodLink RX8 195 yX8_hashSteps) ∈ wsG := wsT5 _ (List.mem_of_getElem? (i := 130) (by decide +kernel)) rfl
theorem w_im_yX8_hashSteps : (Cond.instanceMethod yX8_hashSteps) ∈ wsG := wsT5 _ (List.mem_of_getElem? (i := 132) (by decide +kernel)) rfl
theorem w_co_yX8_hashSteps : (Cond.code yX8_hashSteps cX8_hashSteps 7 (some FieldType.long)) ∈ wsG := wsT5 _ (List.mem_of_getElem? (i := 133) (by decide +kernel)) rfl
theorem w_ac_long : (Cond.arrayClass FieldType.long) ∈ wsG := wsT5 _ (List.mem_of_getElem? (i := 134) (by decide +kernel)) rfl
theorem w_se_yX5_moveDrum : (Cond.selects RX5 yX5_moveDrum yX5_moveDrum) ∈ wsG := wsT0 _ (List.mem_of_getElem? (i := 0) (by decide +kernel)) rfl
theorem w_se_yX5_moveOut : (Cond.selects RX5 yX5_moveOut yX5_moveOut) ∈ wsG := wsT0 _ (List.mem_of_getElem? (i := 1) (by decide +kernel)) rfl
theorem w_se_yX5_holds : (Cond.selects RX5 yX5_holds yX5_holds) ∈ wsG := wsT0 _ (List.mem_of_getElem? (i := 2) (by decide +kernel)) rfl
theorem w_se_yX5_moveIn : (Cond.selects RX5 yX5_moveIn yX5_moveIn) ∈ wsG := wsT0 _ (List.mem_of_getElem? (i := 3) (by decide +kernel)) rfl
theorem w_se_yX5_leakAt : (Cond.selects RX5 yX5_leakAt yX5_leakAt) ∈ wsG := wsT0 _ (List.mem_of_getElem? (i := 4) (by decide +kernel)) rfl
theorem w_se_yX7_dwellSuffices : (Cond.selects RX7 yX7_dwellSuffices yX7_dwellSuffices) ∈ wsG := wsT0 _ (List.mem_of_getElem? (i := 5) (by decide +kernel)) rfl
theorem w_se_yX6_byteAt : (Cond.selects RX6 yX6_byteAt yX6_byteAt) ∈ wsG := wsT0 _ (List.mem_of_getElem? (i := 6) (by decide +kernel)) rfl
theorem w_se_yX6_readSteps : (Cond.selects RX6 yX6_readSteps yX6_readSteps) ∈ wsG := wsT0 _ (List.mem_of_getElem? (i := 7) (by decide +kernel)) rfl
theorem w_se_yX6_isDigitAt : (Cond.selects RX6 yX6_isDigitAt yX6_isDigitAt) ∈ wsG := wsT0 _ (List.mem_of_getElem? (i := 8) (by decide +kernel)) rfl
theorem w_se_yX6_passSign : (Cond.selects RX6 yX6_passSign yX6_passSign) ∈ wsG := wsT0 _ (List.mem_of_getElem? (i := 9) (by decide +kernel)) rfl
theorem w_se_yX6_readTrack : (Cond.selects RX6 yX6_readTrack yX6_readTrack) ∈ wsG := wsT0 _ (List.mem_of_getElem? (i := 10) (by decide +kernel)) rfl
theorem w_se_yX4_newestPlace : (Cond.selects RX4 yX4_newestPlace yX4_newestPlace) ∈ wsG := wsT0 _ (List.mem_of_getElem? (i := 11) (by decide +kernel)) rfl
theorem w_se_yX7_hashWithCylinders : (Cond.selects RX7 yX7_hashWithCylinders yX7_hashWithCylinders) ∈ wsG := wsT0 _ (List.mem_of_getElem? (i := 12) (by decide +kernel)) rfl
theorem w_se_yX7_hashWithGuards : (Cond.selects RX7 yX7_hashWithGuards yX7_hashWithGuards) ∈ wsG := wsT0 _ (List.mem_of_getElem? (i := 13) (by decide +kernel)) rfl
theorem w_se_yX7_hashWithSteps : (Cond.selects RX7 yX7_hashWithSteps yX7_hashWithSteps) ∈ wsG := wsT0 _ (List.mem_of_getElem? (i := 14) (by decide +kernel)) rfl
theorem w_se_yX7_requireStep : (Cond.selects RX7 yX7_requireStep yX7_requireStep) ∈ wsG := wsT0 _ (List.mem_of_getElem? (i := 16) (by decide +kernel)) rfl
theorem w_se_yX7_requireGuard : (Cond.selects RX7 yX7_requireGuard yX7_requireGuard) ∈ wsG := wsT0 _ (List.mem_of_getElem? (i := 17) (by decide +kernel)) rfl
theorem w_se_yX7_goesWithoutSkip : (Cond.selects RX7 yX7_goesWithoutSkip yX7_goesWithoutSkip) ∈ wsG := wsT0 _ (List.mem_of_getElem? (i := 18) (by decide +kernel)) rfl
theorem w_se_yX8_empties : (Cond.selects RX8 yX8_empties yX8_empties) ∈ wsG := wsT0 _ (List.mem_of_getElem? (i := 19) (by decide +kernel)) rfl
theorem w_se_yX8_isStep : (Cond.selects RX8 yX8_isStep yX8_isStep) ∈ wsG := wsT0 _ (List.mem_of_getElem? (i := 20) (by decide +kernel)) rfl
theorem w_se_yX8_throwing : (Cond.selects RX8 yX8_throwing yX8_throwing) ∈ wsG := wsT0 _ (List.mem_of_getElem? (i := 21) (by decide +kernel)) rfl
theorem w_se_yX8_save : (Cond.selects RX8 yX8_save yX8_save) ∈ wsG := wsT0 _ (List.mem_of_getElem? (i := 22) (by decide +kernel)) rfl
theorem w_se_yX8_camsOf : (Cond.selects RX8 yX8_camsOf yX8_camsOf) ∈ wsG := wsT0 _ (List.mem_of_getElem? (i := 23) (by decide +kernel)) rfl
theorem w_se_yX8_hasCam : (Cond.selects RX8 yX8_hasCam yX8_hasCam) ∈ wsG := wsT0 _ (List.mem_of_getElem? (i := 24) (by decide +kernel)) rfl
theorem w_se_yX8_fine : (Cond.selects RX8 yX8_fine yX8_fine) ∈ wsG := wsT0 _ (List.mem_of_getElem? (i := 25) (by decide +kernel)) rfl
theorem w_se_yX8_out : (Cond.selects RX8 yX8_out yX8_out) ∈ wsG := wsT0 _ (List.mem_of_getElem? (i := 26) (by decide +kernel)) rfl
theorem w_se_yX8_letsOff : (Cond.selects RX8 yX8_letsOff yX8_letsOff) ∈ wsG := wsT0 _ (List.mem_of_getElem? (i := 27) (by decide +kernel)) rfl
theorem w_se_yX8_isGuard : (Cond.selects RX8 yX8_isGuard yX8_isGuard) ∈ wsG := wsT0 _ (List.mem_of_getElem? (i := 28) (by decide +kernel)) rfl
theorem w_se_yX8_tick : (Cond.selects RX8 yX8_tick yX8_tick) ∈ wsG := wsT0 _ (List.mem_of_getElem? (i := 29) (by decide +kernel)) rfl
theorem w_se_yX8_areOut : (Cond.selects RX8 yX8_areOut yX8_areOut) ∈ wsG := wsT0 _ (List.mem_of_getElem? (i := 30) (by decide +kernel)) rfl
theorem w_se_yX8_moves : (Cond.selects RX8 yX8_moves yX8_moves) ∈ wsG := wsT0 _ (List.mem_of_getElem? (i := 31) (by decide +kernel)) rfl
theorem w_se_yX8_mayMove : (Cond.selects RX8 yX8_mayMove yX8_mayMove) ∈ wsG := wsT0 _ (List.mem_of_getElem? (i := 32) (by decide +kernel)) rfl
theorem w_se_yX8_holds : (Cond.selects RX8 yX8_holds yX8_holds) ∈ wsG := wsT0 _ (List.mem_of_getElem? (i := 33) (by decide +kernel)) rfl
theorem w_se_yX8_leaks : (Cond.selects RX8 yX8_leaks yX8_leaks) ∈ wsG := wsT0 _ (List.mem_of_getElem? (i := 34) (by decide +kernel)) rfl
theorem w_se_yX8_cylinderOf : (Cond.selects RX8 yX8_cylinderOf yX8_cylinderOf) ∈ wsG := wsT0 _ (List.mem_of_getElem? (i := 35) (by decide +kernel)) rfl
theorem w_se_yX8_guardOf : (Cond.selects RX8 yX8_guardOf yX8_guardOf) ∈ wsG := wsT0 _ (List.mem_of_getElem? (i := 36) (by decide +kernel)) rfl
theorem w_se_yX8_laysAside : (Cond.selects RX8 yX8_laysAside yX8_laysAside) ∈ wsG := wsT0 _ (List.mem_of_getElem? (i := 37) (by decide +kernel)) rfl
theorem w_se_yX8_takesBack : (Cond.selects RX8 yX8_takesBack yX8_takesBack) ∈ wsG := wsT0 _ (List.mem_of_getElem? (i := 38) (by decide +kernel)) rfl
theorem w_se_yX8_toCycle : (Cond.selects RX8 yX8_toCycle yX8_toCycle) ∈ wsG := wsT0 _ (List.mem_of_getElem? (i := 39) (by decide +kernel)) rfl
theorem w_se_yX8_passes : (Cond.selects RX8 yX8_passes yX8_passes) ∈ wsG := wsT0 _ (List.mem_of_getElem? (i := 40) (by decide +kernel)) rfl
theorem w_se_yX8_does : (Cond.selects RX8 yX8_does yX8_does) ∈ wsG := wsT0 _ (List.mem_of_getElem? (i := 41) (by decide +kernel)) rfl
theorem w_se_yX8_behind : (Cond.selects RX8 yX8_behind yX8_behind) ∈ wsG := wsT0 _ (List.mem_of_getElem? (i := 42) (by decide +kernel)) rfl
theorem w_se_yX8_readsText : (Cond.selects RX8 yX8_readsText yX8_readsText) ∈ wsG := wsT0 _ (List.mem_of_getElem? (i := 43) (by decide +kernel)) rfl
theorem w_se_yX8_passesByte : (Cond.selects RX8 yX8_passesByte yX8_passesByte) ∈ wsG := wsT0 _ (List.mem_of_getElem? (i := 44) (by decide +kernel)) rfl
theorem w_se_yX8_here : (Cond.selects RX8 yX8_here yX8_here) ∈ wsG := wsT0 _ (List.mem_of_getElem? (i := 45) (by decide +kernel)) rfl
theorem w_se_yX8_readsSteps : (Cond.selects RX8 yX8_readsSteps yX8_readsSteps) ∈ wsG := wsT0 _ (List.mem_of_getElem? (i := 46) (by decide +kernel)) rfl
theorem w_se_yX8_readsTrack : (Cond.selects RX8 yX8_readsTrack yX8_readsTrack) ∈ wsG := wsT0 _ (List.mem_of_getElem? (i := 47) (by decide +kernel)) rfl
theorem w_se_yX8_hashSteps : (Cond.selects RX8 yX8_hashSteps yX8_hashSteps) ∈ wsG := wsT0 _ (List.mem_of_getElem? (i := 48) (by decide +kernel)) rfl
theorem wsI_X0 : ∀ w ∈ wsX00, w ∈ wsG := by
  show ∀ w ∈ [Cond.lays "CamDrum$Air" "CamDrum$Air" "tank" "I", Cond.lays "CamDrum$Air" "CamDrum$Air" "capacity" "I", Cond.lays "CamDrum$Air" "CamDrum$Air" "compressor" "I", Cond.lays "CamDrum$Air" "CamDrum$Air" "made" "I", Cond.lays "CamDrum$Air" "CamDrum$Air" "letOff" "I", Cond.lays "CamDrum$Air" "CamDrum$Air" "used" "I", Cond.lays "CamDrum$Air" "CamDrum$Air" "leaked" "I"], w ∈ wsG
  exact List.forall_mem_cons.mpr ⟨w_ly_X0_tank, List.forall_mem_cons.mpr ⟨w_ly_X0_capacity, List.forall_mem_cons.mpr ⟨w_ly_X0_compressor, List.forall_mem_cons.mpr ⟨w_ly_X0_made, List.forall_mem_cons.mpr ⟨w_ly_X0_letOff, List.forall_mem_cons.mpr ⟨w_ly_X0_used, List.forall_mem_cons.mpr ⟨w_ly_X0_leaked, fun _ h => absurd h List.not_mem_nil⟩⟩⟩⟩⟩⟩⟩
theorem wsI_X1 : ∀ w ∈ wsX10, w ∈ wsG := by
  show ∀ w ∈ [Cond.laysFinal "CamDrum$Chart" "CamDrum$Chart" "out" "[I", Cond.laysFinal "CamDrum$Chart" "CamDrum$Chart" "skipped" "[I"], w ∈ wsG
  exact List.forall_mem_cons.mpr ⟨w_ly_X1_out, List.forall_mem_cons.mpr ⟨w_ly_X1_skipped, fun _ h => absurd h List.not_mem_nil⟩⟩
theorem wsI_X2 : ∀ w ∈ wsX20, w ∈ wsG := by
  show ∀ w ∈ [Cond.laysFinal "CamDrum$Cylinders" "CamDrum$Cylinders" "out" "[I", Cond.laysFinal "CamDrum$Cylinders" "CamDrum$Cylinders" "size" "[I", Cond.laysFinal "CamDrum$Cylinders" "CamDrum$Cylinders" "speed" "[I", Cond.laysFinal "CamDrum$Cylinders" "CamDrum$Cylinders" "leak" "[I", Cond.laysFinal "CamDrum$Cylinders" "CamDrum$Cylinders" "used" "[I", Cond.laysFinal "CamDrum$Cylinders" "CamDrum$Cylinders" "leaked" "[I"], w ∈ wsG
  exact List.forall_mem_cons.mpr ⟨w_ly_X2_out, List.forall_mem_cons.mpr ⟨w_ly_X2_size, List.forall_mem_cons.mpr ⟨w_ly_X2_speed, List.forall_mem_cons.mpr ⟨w_ly_X2_leak, List.forall_mem_cons.mpr ⟨w_ly_X2_used, List.forall_mem_cons.mpr ⟨w_ly_X2_leaked, fun _ h => absurd h List.not_mem_nil⟩⟩⟩⟩⟩⟩
theorem wsI_X3 : ∀ w ∈ wsX30, w ∈ wsG := by
  show ∀ w ∈ [Cond.laysFinal "CamDrum$Guards" "CamDrum$Guards" "guarded" "[I", Cond.laysFinal "CamDrum$Guards" "CamDrum$Guards" "other" "[I", Cond.laysFinal "CamDrum$Guards" "CamDrum$Guards" "bound" "[I", Cond.lays "CamDrum$Guards" "CamDrum$Guards" "count" "I"], w ∈ wsG
  exact List.forall_mem_cons.mpr ⟨w_ly_X3_guarded, List.forall_mem_cons.mpr ⟨w_ly_X3_other, List.forall_mem_cons.mpr ⟨w_ly_X3_bound, List.forall_mem_cons.mpr ⟨w_ly_X3_count, fun _ h => absurd h List.not_mem_nil⟩⟩⟩⟩
theorem wsI_X4 : ∀ w ∈ wsX40, w ∈ wsG := by
  show ∀ w ∈ [Cond.laysFinal "CamDrum$History" "CamDrum$History" "kept" "[LCamDrum$Machine;", Cond.lays "CamDrum$History" "CamDrum$History" "newest" "I", Cond.lays "CamDrum$History" "CamDrum$History" "count" "I"], w ∈ wsG
  exact List.forall_mem_cons.mpr ⟨w_ly_X4_kept, List.forall_mem_cons.mpr ⟨w_ly_X4_newest, List.forall_mem_cons.mpr ⟨w_ly_X4_count, fun _ h => absurd h List.not_mem_nil⟩⟩⟩
theorem wsI_X5 : ∀ w ∈ wsX50, w ∈ wsG := by
  show ∀ w ∈ [Cond.lays "CamDrum$Machine" "CamDrum$Machine" "steps" "I", Cond.lays "CamDrum$Machine" "CamDrum$Machine" "step" "I", Cond.lays "CamDrum$Machine" "CamDrum$Machine" "stand" "I", Cond.lays "CamDrum$Machine" "CamDrum$Machine" "dwell" "I", Cond.lays "CamDrum$Machine" "CamDrum$Machine" "least" "I", Cond.lays "CamDrum$Machine" "CamDrum$Machine" "ticks" "I", Cond.lays "CamDrum$Machine" "CamDrum$Machine" "cycles" "I", Cond.lays "CamDrum$Machine" "CamDrum$Machine" "skipped" "I", Cond.laysFinal "CamDrum$Machine" "CamDrum$Machine" "tracks" "[I", Cond.laysFinal "CamDrum$Machine" "CamDrum$Machine" "air" "LCamDrum$Air;", Cond.laysFinal "CamDrum$Machine" "CamDrum$Machine" "cylinders" "LCamDrum$Cylinders;", Cond.laysFinal "CamDrum$Machine" "CamDrum$Machine" "guards" "LCamDrum$Guards;", Cond.laysFinal "CamDrum$Machine" "CamDrum$Machine" "chart" "LCamDrum$Chart;"], w ∈ wsG
  exact List.forall_mem_cons.mpr ⟨w_ly_X5_steps, List.forall_mem_cons.mpr ⟨w_ly_X5_step, List.forall_mem_cons.mpr ⟨w_ly_X5_stand, List.forall_mem_cons.mpr ⟨w_ly_X5_dwell, List.forall_mem_cons.mpr ⟨w_ly_X5_least, List.forall_mem_cons.mpr ⟨w_ly_X5_ticks, List.forall_mem_cons.mpr ⟨w_ly_X5_cycles, List.forall_mem_cons.mpr ⟨w_ly_X5_skipped, List.forall_mem_cons.mpr ⟨w_ly_X5_tracks, List.forall_mem_cons.mpr ⟨w_ly_X5_air, List.forall_mem_cons.mpr ⟨w_ly_X5_cylinders, List.forall_mem_cons.mpr ⟨w_ly_X5_guards, List.forall_mem_cons.mpr ⟨w_ly_X5_chart, fun _ h => absurd h List.not_mem_nil⟩⟩⟩⟩⟩⟩⟩⟩⟩⟩⟩⟩⟩
theorem wsI_X6 : ∀ w ∈ wsX60, w ∈ wsG := by
  show ∀ w ∈ [Cond.laysFinal "CamDrum$TrackText" "CamDrum$TrackText" "bytes" "[I", Cond.lays "CamDrum$TrackText" "CamDrum$TrackText" "length" "I", Cond.laysFinal "CamDrum$TrackText" "CamDrum$TrackText" "tracks" "[I", Cond.lays "CamDrum$TrackText" "CamDrum$TrackText" "steps" "I", Cond.lays "CamDrum$TrackText" "CamDrum$TrackText" "fault" "I", Cond.lays "CamDrum$TrackText" "CamDrum$TrackText" "at" "I"], w ∈ wsG
  exact List.forall_mem_cons.mpr ⟨w_ly_X6_bytes, List.forall_mem_cons.mpr ⟨w_ly_X6_length, List.forall_mem_cons.mpr ⟨w_ly_X6_tracks, List.forall_mem_cons.mpr ⟨w_ly_X6_steps, List.forall_mem_cons.mpr ⟨w_ly_X6_fault, List.forall_mem_cons.mpr ⟨w_ly_X6_at, fun _ h => absurd h List.not_mem_nil⟩⟩⟩⟩⟩⟩
theorem wsI_X7 : ∀ w ∈ wsX70, w ∈ wsG := by
  show ∀ w ∈ [Cond.laysFinal "CamDrum" "CamDrum" "now" "LCamDrum$Machine;", Cond.laysFinal "CamDrum" "CamDrum" "history" "LCamDrum$History;", Cond.laysFinal "CamDrum" "CamDrum" "text" "LCamDrum$TrackText;", Cond.laysFinal "CamDrum" "CamDrum" "trial" "LCamDrum$Machine;", Cond.laysFinal "CamDrum" "CamDrum" "earlier" "LCamDrum$Machine;"], w ∈ wsG
  exact List.forall_mem_cons.mpr ⟨w_ly_X7_now, List.forall_mem_cons.mpr ⟨w_ly_X7_history, List.forall_mem_cons.mpr ⟨w_ly_X7_text, List.forall_mem_cons.mpr ⟨w_ly_X7_trial, List.forall_mem_cons.mpr ⟨w_ly_X7_earlier, fun _ h => absurd h List.not_mem_nil⟩⟩⟩⟩⟩
theorem wsI_X8 : ∀ w ∈ wsX80, w ∈ wsG := by
  show ∀ w ∈ [Cond.laysFinal "CamDrumModel" "CamDrumModel" "all" "[I", Cond.laysFinal "CamDrumModel" "CamDrumModel" "saved" "[I", Cond.laysFinal "CamDrumModel" "CamDrumModel" "aside" "[I", Cond.lays "CamDrumModel" "CamDrumModel" "savedMany" "I", Cond.lays "CamDrumModel" "CamDrumModel" "threw" "I", Cond.lays "CamDrumModel" "CamDrumModel" "wentOn" "Z", Cond.lays "CamDrumModel" "CamDrumModel" "wereOut" "Z", Cond.laysFinal "CamDrumModel" "CamDrumModel" "first" "[I", Cond.laysFinal "CamDrumModel" "CamDrumModel" "text" "[I", Cond.lays "CamDrumModel" "CamDrumModel" "textLong" "I", Cond.lays "CamDrumModel" "CamDrumModel" "place" "I", Cond.laysFinal "CamDrumModel" "CamDrumModel" "told" "[I", Cond.lays "CamDrumModel" "CamDrumModel" "toldSteps" "I"], w ∈ wsG
  exact List.forall_mem_cons.mpr ⟨w_ly_X8_all, List.forall_mem_cons.mpr ⟨w_ly_X8_saved, List.forall_mem_cons.mpr ⟨w_ly_X8_aside, List.forall_mem_cons.mpr ⟨w_ly_X8_savedMany, List.forall_mem_cons.mpr ⟨w_ly_X8_threw, List.forall_mem_cons.mpr ⟨w_ly_X8_wentOn, List.forall_mem_cons.mpr ⟨w_ly_X8_wereOut, List.forall_mem_cons.mpr ⟨w_ly_X8_first, List.forall_mem_cons.mpr ⟨w_ly_X8_text, List.forall_mem_cons.mpr ⟨w_ly_X8_textLong, List.forall_mem_cons.mpr ⟨w_ly_X8_place, List.forall_mem_cons.mpr ⟨w_ly_X8_told, List.forall_mem_cons.mpr ⟨w_ly_X8_toldSteps, fun _ h => absurd h List.not_mem_nil⟩⟩⟩⟩⟩⟩⟩⟩⟩⟩⟩⟩⟩
