/-- the words that every contract rests on: the good ones of the tables -/
def wsG : List Cond := lw_tbl.filter goodWord
theorem wsG_in : ∀ w ∈ wsG, w ∈ lw_tbl := fun w h => (List.mem_filter.mp h).1
theorem wsG_good : ∀ w ∈ wsG, (w.onTables && w.keeps) = true ∨ ∃ ty, w = .arrayClass ty := fun w h => good_of_word (List.mem_filter.mp h).2
theorem wsG_mk {w : Cond} (h : w ∈ lw_tbl) (g : goodWord w = true) : w ∈ wsG := List.mem_filter.mpr ⟨h, g⟩
theorem wsT0 (w : Cond) (h : w ∈ k2_sels lw_privs) (g : goodWord w = true) : w ∈ wsG := wsG_mk (List.mem_append_left _ h) g
theorem wsT1 (w : Cond) (h : w ∈ tables_1_1) (g : goodWord w = true) : w ∈ wsG := wsG_mk (List.mem_append_right _ (List.mem_append_left _ h)) g
theorem wsT2 (w : Cond) (h : w ∈ tables_1_2) (g : goodWord w = true) : w ∈ wsG := wsG_mk (List.mem_append_right _ (List.mem_append_right _ (List.mem_append_left _ h))) g
theorem wsT3 (w : Cond) (h : w ∈ tables_1_3) (g : goodWord w = true) : w ∈ wsG := wsG_mk (List.mem_append_right _ (List.mem_append_right _ (List.mem_append_right _ h))) g
theorem w_in_L : (Cond.initialized RL) ∈ wsG := wsT1 _ (List.mem_of_getElem? (i := 0) (by decide +kernel)) rfl
theorem w_in_X7 : (Cond.initialized RX7) ∈ wsG := wsT1 _ (List.mem_of_getElem? (i := 1) (by decide +kernel)) rfl
theorem w_in_X5 : (Cond.initialized RX5) ∈ wsG := wsT1 _ (List.mem_of_getElem? (i := 2) (by decide +kernel)) rfl
theorem w_in_X0 : (Cond.initialized RX0) ∈ wsG := wsT1 _ (List.mem_of_getElem? (i := 3) (by decide +kernel)) rfl
theorem w_in_X2 : (Cond.initialized RX2) ∈ wsG := wsT1 _ (List.mem_of_getElem? (i := 4) (by decide +kernel)) rfl
theorem w_in_J7 : (Cond.initialized "java/util/Arrays") ∈ wsG := wsT1 _ (List.mem_of_getElem? (i := 5) (by decide +kernel)) rfl
theorem w_in_X3 : (Cond.initialized RX3) ∈ wsG := wsT1 _ (List.mem_of_getElem? (i := 6) (by decide +kernel)) rfl
theorem w_in_X1 : (Cond.initialized RX1) ∈ wsG := wsT1 _ (List.mem_of_getElem? (i := 7) (by decide +kernel)) rfl
theorem w_in_X4 : (Cond.initialized RX4) ∈ wsG := wsT1 _ (List.mem_of_getElem? (i := 8) (by decide +kernel)) rfl
theorem w_in_X6 : (Cond.initialized RX6) ∈ wsG := wsT1 _ (List.mem_of_getElem? (i := 9) (by decide +kernel)) rfl
theorem w_in_Throwable : (Cond.initialized "java/lang/Throwable") ∈ wsG := wsT1 _ (List.mem_of_getElem? (i := 10) (by decide +kernel)) rfl
theorem w_in_Exception : (Cond.initialized "java/lang/Exception") ∈ wsG := wsT1 _ (List.mem_of_getElem? (i := 11) (by decide +kernel)) rfl
theorem w_in_RuntimeException : (Cond.initialized "java/lang/RuntimeException") ∈ wsG := wsT1 _ (List.mem_of_getElem? (i := 12) (by decide +kernel)) rfl
theorem w_in_IndexOutOfBoundsException : (Cond.initialized "java/lang/IndexOutOfBoundsException") ∈ wsG := wsT1 _ (List.mem_of_getElem? (i := 13) (by decide +kernel)) rfl
theorem w_in_J9 : (Cond.initialized "java/lang/Math") ∈ wsG := wsT1 _ (List.mem_of_getElem? (i := 14) (by decide +kernel)) rfl
theorem w_in_J10 : (Cond.initialized "java/lang/System") ∈ wsG := wsT1 _ (List.mem_of_getElem? (i := 15) (by decide +kernel)) rfl
theorem w_in_J6 : (Cond.initialized "java/lang/Integer") ∈ wsG := wsT1 _ (List.mem_of_getElem? (i := 16) (by decide +kernel)) rfl
theorem w_in_IllegalArgumentException : (Cond.initialized "java/lang/IllegalArgumentException") ∈ wsG := wsT1 _ (List.mem_of_getElem? (i := 17) (by decide +kernel)) rfl
theorem w_in_IllegalStateException : (Cond.initialized "java/lang/IllegalStateException") ∈ wsG := wsT1 _ (List.mem_of_getElem? (i := 18) (by decide +kernel)) rfl
theorem w_cl_L_16 : (Cond.classLink RL 16 RX7) ∈ wsG := wsT1 _ (List.mem_of_getElem? (i := 19) (by decide +kernel)) rfl
theorem w_is_X7 : (Cond.instantiable RX7 5) ∈ wsG := wsT1 _ (List.mem_of_getElem? (i := 20) (by decide +kernel)) rfl
theorem w_ml_L_71 : (Cond.methodLink RL 71 yX7_init) ∈ wsG := wsT1 _ (List.mem_of_getElem? (i := 21) (by decide +kernel)) rfl
theorem w_im_yX7_init : (Cond.instanceMethod yX7_init) ∈ wsG := wsT1 _ (List.mem_of_getElem? (i := 22) (by decide +kernel)) rfl
theorem w_co_yX7_init : (Cond.code yX7_init cX7_init 1 none) ∈ wsG := wsT1 _ (List.mem_of_getElem? (i := 23) (by decide +kernel)) rfl
theorem w_ml_X7_1 : (Cond.methodLink RX7 1 objectInit) ∈ wsG := wsT1 _ (List.mem_of_getElem? (i := 24) (by decide +kernel)) rfl
theorem w_im_objectInit : (Cond.instanceMethod objectInit) ∈ wsG := wsT1 _ (List.mem_of_getElem? (i := 25) (by decide +kernel)) rfl
theorem w_co_objectInit : (Cond.code objectInit ⟨#[0xb1]⟩ 1 none) ∈ wsG := wsT1 _ (List.mem_of_getElem? (i := 26) (by decide +kernel)) rfl
theorem w_cl_X7_7 : (Cond.classLink RX7 7 RX5) ∈ wsG := wsT1 _ (List.mem_of_getElem? (i := 27) (by decide +kernel)) rfl
theorem w_is_X5 : (Cond.instantiable RX5 13) ∈ wsG := wsT1 _ (List.mem_of_getElem? (i := 28) (by decide +kernel)) rfl
theorem w_im_yX5_init : (Cond.instanceMethod yX5_init) ∈ wsG := wsT1 _ (List.mem_of_getElem? (i := 30) (by decide +kernel)) rfl
theorem w_co_yX5_init : (Cond.code yX5_init cX5_init 1 none) ∈ wsG := wsT1 _ (List.mem_of_getElem? (i := 31) (by decide +kernel)) rfl
theorem w_ml_X5_3 : (Cond.methodLink RX5 3 objectInit) ∈ wsG := wsT1 _ (List.mem_of_getElem? (i := 32) (by decide +kernel)) rfl
theorem w_cl_X5_25 : (Cond.classLink RX5 25 RX0) ∈ wsG := wsT1 _ (List.mem_of_getElem? (i := 33) (by decide +kernel)) rfl
theorem w_is_X0 : (Cond.instantiable RX0 7) ∈ wsG := wsT1 _ (List.mem_of_getElem? (i := 34) (by decide +kernel)) rfl
theorem w_im_yX0_init : (Cond.instanceMethod yX0_init) ∈ wsG := wsT1 _ (List.mem_of_getElem? (i := 36) (by decide +kernel)) rfl
theorem w_co_yX0_init : (Cond.code yX0_init cX0_init 1 none) ∈ wsG := wsT1 _ (List.mem_of_getElem? (i := 37) (by decide +kernel)) rfl
theorem w_ml_X0_3 : (Cond.methodLink RX0 3 objectInit) ∈ wsG := wsT1 _ (List.mem_of_getElem? (i := 38) (by decide +kernel)) rfl
theorem w_fl_X0_9 : (Cond.fieldLink RX0 9 "CamDrum$Air" "tank" "I") ∈ wsG := wsT1 _ (List.mem_of_getElem? (i := 39) (by decide +kernel)) rfl
theorem w_fl_X7_111 : (Cond.fieldLink RX7 111 "CamDrum$Air" "tank" "I") ∈ wsG := wsT1 _ (List.mem_of_getElem? (i := 40) (by decide +kernel)) rfl
theorem w_fl_X5_129 : (Cond.fieldLink RX5 129 "CamDrum$Air" "tank" "I") ∈ wsG := wsT1 _ (List.mem_of_getElem? (i := 41) (by decide +kernel)) rfl
theorem w_fl_X0_15 : (Cond.fieldLink RX0 15 "CamDrum$Air" "capacity" "I") ∈ wsG := wsT1 _ (List.mem_of_getElem? (i := 42) (by decide +kernel)) rfl
theorem w_fl_X7_100 : (Cond.fieldLink RX7 100 "CamDrum$Air" "capacity" "I") ∈ wsG := wsT1 _ (List.mem_of_getElem? (i := 43) (by decide +kernel)) rfl
theorem w_fl_X5_190 : (Cond.fieldLink RX5 190 "CamDrum$Air" "capacity" "I") ∈ wsG := wsT1 _ (List.mem_of_getElem? (i := 44) (by decide +kernel)) rfl
theorem w_fl_X0_18 : (Cond.fieldLink RX0 18 "CamDrum$Air" "compressor" "I") ∈ wsG := wsT1 _ (List.mem_of_getElem? (i := 45) (by decide +kernel)) rfl
theorem w_fl_X7_105 : (Cond.fieldLink RX7 105 "CamDrum$Air" "compressor" "I") ∈ wsG := wsT1 _ (List.mem_of_getElem? (i := 46) (by decide +kernel)) rfl
theorem w_fl_X5_193 : (Cond.fieldLink RX5 193 "CamDrum$Air" "compressor" "I") ∈ wsG := wsT1 _ (List.mem_of_getElem? (i := 47) (by decide +kernel)) rfl
theorem w_fl_X0_21 : (Cond.fieldLink RX0 21 "CamDrum$Air" "made" "I") ∈ wsG := wsT1 _ (List.mem_of_getElem? (i := 48) (by decide +kernel)) rfl
theorem w_fl_X5_196 : (Cond.fieldLink RX5 196 "CamDrum$Air" "made" "I") ∈ wsG := wsT1 _ (List.mem_of_getElem? (i := 49) (by decide +kernel)) rfl
theorem w_fl_X7_208 : (Cond.fieldLink RX7 208 "CamDrum$Air" "made" "I") ∈ wsG := wsT1 _ (List.mem_of_getElem? (i := 50) (by decide +kernel)) rfl
theorem w_fl_X0_24 : (Cond.fieldLink RX0 24 "CamDrum$Air" "letOff" "I") ∈ wsG := wsT1 _ (List.mem_of_getElem? (i := 51) (by decide +kernel)) rfl
theorem w_fl_X5_199 : (Cond.fieldLink RX5 199 "CamDrum$Air" "letOff" "I") ∈ wsG := wsT1 _ (List.mem_of_getElem? (i := 52) (by decide +kernel)) rfl
theorem w_fl_X0_27 : (Cond.fieldLink RX0 27 "CamDrum$Air" "used" "I") ∈ wsG := wsT1 _ (List.mem_of_getElem? (i := 53) (by decide +kernel)) rfl
theorem w_fl_X5_202 : (Cond.fieldLink RX5 202 "CamDrum$Air" "used" "I") ∈ wsG := wsT1 _ (List.mem_of_getElem? (i := 54) (by decide +kernel)) rfl
theorem w_fl_X7_211 : (Cond.fieldLink RX7 211 "CamDrum$Air" "used" "I") ∈ wsG := wsT1 _ (List.mem_of_getElem? (i := 55) (by decide +kernel)) rfl
theorem w_fl_X0_30 : (Cond.fieldLink RX0 30 "CamDrum$Air" "leaked" "I") ∈ wsG := wsT1 _ (List.mem_of_getElem? (i := 56) (by decide +kernel)) rfl
theorem w_fl_X5_204 : (Cond.fieldLink RX5 204 "CamDrum$Air" "leaked" "I") ∈ wsG := wsT1 _ (List.mem_of_getElem? (i := 57) (by decide +kernel)) rfl
theorem w_ly_X0_tank : (Cond.lays "CamDrum$Air" "CamDrum$Air" "tank" "I") ∈ wsG := wsT1 _ (List.mem_of_getElem? (i := 58) (by decide +kernel)) rfl
theorem w_ly_X0_capacity : (Cond.lays "CamDrum$Air" "CamDrum$Air" "capacity" "I") ∈ wsG := wsT1 _ (List.mem_of_getElem? (i := 60) (by decide +kernel)) rfl
theorem w_ly_X0_compressor : (Cond.lays "CamDrum$Air" "CamDrum$Air" "compressor" "I") ∈ wsG := wsT1 _ (List.mem_of_getElem? (i := 62) (by decide +kernel)) rfl
theorem w_ly_X0_made : (Cond.lays "CamDrum$Air" "CamDrum$Air" "made" "I") ∈ wsG := wsT1 _ (List.mem_of_getElem? (i := 64) (by decide +kernel)) rfl
theorem w_ly_X0_letOff : (Cond.lays "CamDrum$Air" "CamDrum$Air" "letOff" "I") ∈ wsG := wsT1 _ (List.mem_of_getElem? (i := 66) (by decide +kernel)) rfl
theorem w_ly_X0_used : (Cond.lays "CamDrum$Air" "CamDrum$Air" "used" "I") ∈ wsG := wsT1 _ (List.mem_of_getElem? (i := 68) (by decide +kernel)) rfl
theorem w_ly_X0_leaked : (Cond.lays "CamDrum$Air" "CamDrum$Air" "leaked" "I") ∈ wsG := wsT1 _ (List.mem_of_getElem? (i := 70) (by decide +kernel)) rfl
theorem w_ac_int : (Cond.arrayClass FieldType.int) ∈ wsG := wsT1 _ (List.mem_of_getElem? (i := 73) (by decide +kernel)) rfl
theorem w_cl_X5_32 : (Cond.classLink RX5 32 RX2) ∈ wsG := wsT1 _ (List.mem_of_getElem? (i := 74) (by decide +kernel)) rfl
theorem w_is_X2 : (Cond.instantiable RX2 6) ∈ wsG := wsT1 _ (List.mem_of_getElem? (i := 75) (by decide +kernel)) rfl
theorem w_ml_X5_34 : (Cond.methodLink RX5 34 yX2_init) ∈ wsG := wsT1 _ (List.mem_of_getElem? (i := 76) (by decide +kernel)) rfl
theorem w_im_yX2_init : (Cond.instanceMethod yX2_init) ∈ wsG := wsT1 _ (List.mem_of_getElem? (i := 77) (by decide +kernel)) rfl
theorem w_co_yX2_init : (Cond.code yX2_init cX2_init 1 none) ∈ wsG := wsT1 _ (List.mem_of_getElem? (i := 78) (by decide +kernel)) rfl
theorem w_ml_X2_3 : (Cond.methodLink RX2 3 objectInit) ∈ wsG := wsT1 _ (List.mem_of_getElem? (i := 79) (by decide +kernel)) rfl
theorem w_ml_X2_30 : (Cond.methodLink RX2 30 yJ7_fill_53178) ∈ wsG := wsT1 _ (List.mem_of_getElem? (i := 80) (by decide +kernel)) rfl
theorem w_st_yJ7_fill_53178 : (Cond.static yJ7_fill_53178) ∈ wsG := wsT1 _ (List.mem_of_getElem? (i := 81) (by decide +kernel)) rfl
theorem w_co_yJ7_fill_53178 : (Cond.code yJ7_fill_53178 cJ7_fill_53178 4 none) ∈ wsG := wsT1 _ (List.mem_of_getElem? (i := 82) (by decide +kernel)) rfl
theorem w_fl_X2_9 : (Cond.fieldLink RX2 9 "CamDrum$Cylinders" "out" "[I") ∈ wsG := wsT1 _ (List.mem_of_getElem? (i := 83) (by decide +kernel)) rfl
theorem w_fl_X7_91 : (Cond.fieldLink RX7 91 "CamDrum$Cylinders" "out" "[I") ∈ wsG := wsT1 _ (List.mem_of_getElem? (i := 84) (by decide +kernel)) rfl
theorem w_fl_X5_122 : (Cond.fieldLink RX5 122 "CamDrum$Cylinders" "out" "[I") ∈ wsG := wsT1 _ (List.mem_of_getElem? (i := 85) (by decide +kernel)) rfl
theorem w_fl_X2_15 : (Cond.fieldLink RX2 15 "CamDrum$Cylinders" "size" "[I") ∈ wsG := wsT1 _ (List.mem_of_getElem? (i := 86) (by decide +kernel)) rfl
theorem w_fl_X7_79 : (Cond.fieldLink RX7 79 "CamDrum$Cylinders" "size" "[I") ∈ wsG := wsT1 _ (List.mem_of_getElem? (i := 87) (by decide +kernel)) rfl
theorem w_fl_X5_147 : (Cond.fieldLink RX5 147 "CamDrum$Cylinders" "size" "[I") ∈ wsG := wsT1 _ (List.mem_of_getElem? (i := 88) (by decide +kernel)) rfl
theorem w_fl_X2_18 : (Cond.fieldLink RX2 18 "CamDrum$Cylinders" "speed" "[I") ∈ wsG := wsT1 _ (List.mem_of_getElem? (i := 89) (by decide +kernel)) rfl
theorem w_fl_X7_85 : (Cond.fieldLink RX7 85 "CamDrum$Cylinders" "speed" "[I") ∈ wsG := wsT1 _ (List.mem_of_getElem? (i := 90) (by decide +kernel)) rfl
theorem w_fl_X5_135 : (Cond.fieldLink RX5 135 "CamDrum$Cylinders" "speed" "[I") ∈ wsG := wsT1 _ (List.mem_of_getElem? (i := 91) (by decide +kernel)) rfl
theorem w_fl_X2_21 : (Cond.fieldLink RX2 21 "CamDrum$Cylinders" "leak" "[I") ∈ wsG := wsT1 _ (List.mem_of_getElem? (i := 92) (by decide +kernel)) rfl
theorem w_fl_X7_88 : (Cond.fieldLink RX7 88 "CamDrum$Cylinders" "leak" "[I") ∈ wsG := wsT1 _ (List.mem_of_getElem? (i := 93) (by decide +kernel)) rfl
theorem w_fl_X5_165 : (Cond.fieldLink RX5 165 "CamDrum$Cylinders" "leak" "[I") ∈ wsG := wsT1 _ (List.mem_of_getElem? (i := 94) (by decide +kernel)) rfl
theorem w_fl_X2_24 : (Cond.fieldLink RX2 24 "CamDrum$Cylinders" "used" "[I") ∈ wsG := wsT1 _ (List.mem_of_getElem? (i := 95) (by decide +kernel)) rfl
theorem w_fl_X5_156 : (Cond.fieldLink RX5 156 "CamDrum$Cylinders" "used" "[I") ∈ wsG := wsT1 _ (List.mem_of_getElem? (i := 96) (by decide +kernel)) rfl
theorem w_fl_X2_27 : (Cond.fieldLink RX2 27 "CamDrum$Cylinders" "leaked" "[I") ∈ wsG := wsT1 _ (List.mem_of_getElem? (i := 97) (by decide +kernel)) rfl
theorem w_fl_X5_162 : (Cond.fieldLink RX5 162 "CamDrum$Cylinders" "leaked" "[I") ∈ wsG := wsT1 _ (List.mem_of_getElem? (i := 98) (by decide +kernel)) rfl
theorem w_ly_X2_out : (Cond.laysFinal "CamDrum$Cylinders" "CamDrum$Cylinders" "out" "[I") ∈ wsG := wsT1 _ (List.mem_of_getElem? (i := 99) (by decide +kernel)) rfl
theorem w_ly_X2_size : (Cond.laysFinal "CamDrum$Cylinders" "CamDrum$Cylinders" "size" "[I") ∈ wsG := wsT1 _ (List.mem_of_getElem? (i := 101) (by decide +kernel)) rfl
theorem w_ly_X2_speed : (Cond.laysFinal "CamDrum$Cylinders" "CamDrum$Cylinders" "speed" "[I") ∈ wsG := wsT1 _ (List.mem_of_getElem? (i := 103) (by decide +kernel)) rfl
theorem w_ly_X2_leak : (Cond.laysFinal "CamDrum$Cylinders" "CamDrum$Cylinders" "leak" "[I") ∈ wsG := wsT1 _ (List.mem_of_getElem? (i := 105) (by decide +kernel)) rfl
theorem w_ly_X2_used : (Cond.laysFinal "CamDrum$Cylinders" "CamDrum$Cylinders" "used" "[I") ∈ wsG := wsT1 _ (List.mem_of_getElem? (i := 107) (by decide +kernel)) rfl
theorem w_ly_X2_leaked : (Cond.laysFinal "CamDrum$Cylinders" "CamDrum$Cylinders" "leaked" "[I") ∈ wsG := wsT1 _ (List.mem_of_getElem? (i := 109) (by decide +kernel)) rfl
theorem w_cl_X5_39 : (Cond.classLink RX5 39 RX3) ∈ wsG := wsT1 _ (List.mem_of_getElem? (i := 112) (by decide +kernel)) rfl
theorem w_is_X3 : (Cond.instantiable RX3 4) ∈ wsG := wsT1 _ (List.mem_of_getElem? (i := 113) (by decide +kernel)) rfl
theorem w_im_yX3_init : (Cond.instanceMethod yX3_init) ∈ wsG := wsT1 _ (List.mem_of_getElem? (i := 115) (by decide +kernel)) rfl
theorem w_co_yX3_init : (Cond.code yX3_init cX3_init 1 none) ∈ wsG := wsT1 _ (List.mem_of_getElem? (i := 116) (by decide +kernel)) rfl
theorem w_ml_X3_3 : (Cond.methodLink RX3 3 objectInit) ∈ wsG := wsT1 _ (List.mem_of_getElem? (i := 117) (by decide +kernel)) rfl
theorem w_fl_X3_9 : (Cond.fieldLink RX3 9 "CamDrum$Guards" "guarded" "[I") ∈ wsG := wsT1 _ (List.mem_of_getElem? (i := 118) (by decide +kernel)) rfl
theorem w_fl_X5_174 : (Cond.fieldLink RX5 174 "CamDrum$Guards" "guarded" "[I") ∈ wsG := wsT1 _ (List.mem_of_getElem? (i := 119) (by decide +kernel)) rfl
theorem w_fl_X3_15 : (Cond.fieldLink RX3 15 "CamDrum$Guards" "other" "[I") ∈ wsG := wsT1 _ (List.mem_of_getElem? (i := 120) (by decide +kernel)) rfl
theorem w_fl_X5_184 : (Cond.fieldLink RX5 184 "CamDrum$Guards" "other" "[I") ∈ wsG := wsT1 _ (List.mem_of_getElem? (i := 121) (by decide +kernel)) rfl
theorem w_fl_X3_18 : (Cond.fieldLink RX3 18 "CamDrum$Guards" "bound" "[I") ∈ wsG := wsT1 _ (List.mem_of_getElem? (i := 122) (by decide +kernel)) rfl
theorem w_fl_X5_181 : (Cond.fieldLink RX5 181 "CamDrum$Guards" "bound" "[I") ∈ wsG := wsT1 _ (List.mem_of_getElem? (i := 123) (by decide +kernel)) rfl
theorem w_fl_X3_25 : (Cond.fieldLink RX3 25 "CamDrum$Guards" "count" "I") ∈ wsG := wsT1 _ (List.mem_of_getElem? (i := 124) (by decide +kernel)) rfl
theorem w_fl_X7_120 : (Cond.fieldLink RX7 120 "CamDrum$Guards" "count" "I") ∈ wsG := wsT1 _ (List.mem_of_getElem? (i := 125) (by decide +kernel)) rfl
theorem w_fl_X5_171 : (Cond.fieldLink RX5 171 "CamDrum$Guards" "count" "I") ∈ wsG := wsT1 _ (List.mem_of_getElem? (i := 126) (by decide +kernel)) rfl
theorem w_ly_X3_guarded : (Cond.laysFinal "CamDrum$Guards" "CamDrum$Guards" "guarded" "[I") ∈ wsG := wsT1 _ (List.mem_of_getElem? (i := 127) (by decide +kernel)) rfl
theorem w_ly_X3_other : (Cond.laysFinal "CamDrum$Guards" "CamDrum$Guards" "other" "[I") ∈ wsG := wsT1 _ (List.mem_of_getElem? (i := 129) (by decide +kernel)) rfl
theorem w_ly_X3_bound : (Cond.laysFinal "CamDrum$Guards" "CamDrum$Guards" "bound" "[I") ∈ wsG := wsT1 _ (List.mem_of_getElem? (i := 131) (by decide +kernel)) rfl
theorem w_ly_X3_count : (Cond.lays "CamDrum$Guards" "CamDrum$Guards" "count" "I") ∈ wsG := wsT1 _ (List.mem_of_getElem? (i := 133) (by decide +kernel)) rfl
theorem w_cl_X5_46 : (Cond.classLink RX5 46 RX1) ∈ wsG := wsT1 _ (List.mem_of_getElem? (i := 136) (by decide +kernel)) rfl
theorem w_is_X1 : (Cond.instantiable RX1 2) ∈ wsG := wsT1 _ (List.mem_of_getElem? (i := 137) (by decide +kernel)) rfl
theorem w_ml_X5_48 : (Cond.methodLink RX5 48 yX1_init) ∈ wsG := wsT1 _ (List.mem_of_getElem? (i := 138) (by decide +kernel)) rfl
theorem w_im_yX1_init : (Cond.instanceMethod yX1_init) ∈ wsG := wsT1 _ (List.mem_of_getElem? (i := 139) (by decide +kernel)) rfl
theorem w_co_yX1_init : (Cond.code yX1_init cX1_init 1 none) ∈ wsG := wsT1 _ (List.mem_of_getElem? (i := 140) (by decide +kernel)) rfl
theorem w_ml_X1_3 : (Cond.methodLink RX1 3 objectInit) ∈ wsG := wsT1 _ (List.mem_of_getElem? (i := 141) (by decide +kernel)) rfl
theorem w_ml_X1_18 : (Cond.methodLink RX1 18 yJ7_fill_53178) ∈ wsG := wsT1 _ (List.mem_of_getElem? (i := 142) (by decide +kernel)) rfl
theorem w_fl_X1_9 : (Cond.fieldLink RX1 9 "CamDrum$Chart" "out" "[I") ∈ wsG := wsT1 _ (List.mem_of_getElem? (i := 143) (by decide +kernel)) rfl
theorem w_fl_X1_15 : (Cond.fieldLink RX1 15 "CamDrum$Chart" "skipped" "[I") ∈ wsG := wsT1 _ (List.mem_of_getElem? (i := 144) (by decide +kernel)) rfl
theorem w_ly_X1_out : (Cond.laysFinal "CamDrum$Chart" "CamDrum$Chart" "out" "[I") ∈ wsG := wsT1 _ (List.mem_of_getElem? (i := 145) (by decide +kernel)) rfl
theorem w_ly_X1_skipped : (Cond.laysFinal "CamDrum$Chart" "CamDrum$Chart" "skipped" "[I") ∈ wsG := wsT1 _ (List.mem_of_getElem? (i := 147) (by decide +kernel)) rfl
theorem w_fl_X5_9 : (Cond.fieldLink RX5 9 "CamDrum$Machine" "steps" "I") ∈ wsG := wsT1 _ (List.mem_of_getElem? (i := 150) (by decide +kernel)) rfl
theorem w_fl_X7_223 : (Cond.fieldLink RX7 223 "CamDrum$Machine" "steps" "I") ∈ wsG := wsT1 _ (List.mem_of_getElem? (i := 151) (by decide +kernel)) rfl
theorem w_fl_X5_53 : (Cond.fieldLink RX5 53 "CamDrum$Machine" "step" "I") ∈ wsG := wsT1 _ (List.mem_of_getElem? (i := 152) (by decide +kernel)) rfl
theorem w_fl_X7_140 : (Cond.fieldLink RX7 140 "CamDrum$Machine" "step" "I") ∈ wsG := wsT1 _ (List.mem_of_getElem? (i := 153) (by decide +kernel)) rfl
theorem w_fl_X5_56 : (Cond.fieldLink RX5 56 "CamDrum$Machine" "stand" "I") ∈ wsG := wsT1 _ (List.mem_of_getElem? (i := 154) (by decide +kernel)) rfl
theorem w_fl_X5_15 : (Cond.fieldLink RX5 15 "CamDrum$Machine" "dwell" "I") ∈ wsG := wsT1 _ (List.mem_of_getElem? (i := 155) (by decide +kernel)) rfl
theorem w_fl_X7_66 : (Cond.fieldLink RX7 66 "CamDrum$Machine" "dwell" "I") ∈ wsG := wsT1 _ (List.mem_of_getElem? (i := 156) (by decide +kernel)) rfl
theorem w_fl_X5_18 : (Cond.fieldLink RX5 18 "CamDrum$Machine" "least" "I") ∈ wsG := wsT1 _ (List.mem_of_getElem? (i := 157) (by decide +kernel)) rfl
theorem w_fl_X7_70 : (Cond.fieldLink RX7 70 "CamDrum$Machine" "least" "I") ∈ wsG := wsT1 _ (List.mem_of_getElem? (i := 158) (by decide +kernel)) rfl
theorem w_fl_X5_59 : (Cond.fieldLink RX5 59 "CamDrum$Machine" "ticks" "I") ∈ wsG := wsT1 _ (List.mem_of_getElem? (i := 159) (by decide +kernel)) rfl
theorem w_fl_X7_148 : (Cond.fieldLink RX7 148 "CamDrum$Machine" "ticks" "I") ∈ wsG := wsT1 _ (List.mem_of_getElem? (i := 160) (by decide +kernel)) rfl
theorem w_fl_X5_62 : (Cond.fieldLink RX5 62 "CamDrum$Machine" "cycles" "I") ∈ wsG := wsT1 _ (List.mem_of_getElem? (i := 161) (by decide +kernel)) rfl
theorem w_fl_X7_154 : (Cond.fieldLink RX7 154 "CamDrum$Machine" "cycles" "I") ∈ wsG := wsT1 _ (List.mem_of_getElem? (i := 162) (by decide +kernel)) rfl
theorem w_fl_X5_65 : (Cond.fieldLink RX5 65 "CamDrum$Machine" "skipped" "I") ∈ wsG := wsT1 _ (List.mem_of_getElem? (i := 163) (by decide +kernel)) rfl
theorem w_fl_X5_21 : (Cond.fieldLink RX5 21 "CamDrum$Machine" "tracks" "[I") ∈ wsG := wsT1 _ (List.mem_of_getElem? (i := 164) (by decide +kernel)) rfl
theorem w_fl_X5_28 : (Cond.fieldLink RX5 28 "CamDrum$Machine" "air" "LCamDrum$Air;") ∈ wsG := wsT1 _ (List.mem_of_getElem? (i := 165) (by decide +kernel)) rfl
theorem w_fl_X7_96 : (Cond.fieldLink RX7 96 "CamDrum$Machine" "air" "LCamDrum$Air;") ∈ wsG := wsT1 _ (List.mem_of_getElem? (i := 166) (by decide +kernel)) rfl
theorem w_fl_X5_35 : (Cond.fieldLink RX5 35 "CamDrum$Machine" "cylinders" "LCamDrum$Cylinders;") ∈ wsG := wsT1 _ (List.mem_of_getElem? (i := 167) (by decide +kernel)) rfl
theorem w_fl_X7_75 : (Cond.fieldLink RX7 75 "CamDrum$Machine" "cylinders" "LCamDrum$Cylinders;") ∈ wsG := wsT1 _ (List.mem_of_getElem? (i := 168) (by decide +kernel)) rfl
theorem w_fl_X5_42 : (Cond.fieldLink RX5 42 "CamDrum$Machine" "guards" "LCamDrum$Guards;") ∈ wsG := wsT1 _ (List.mem_of_getElem? (i := 169) (by decide +kernel)) rfl
theorem w_fl_X7_116 : (Cond.fieldLink RX7 116 "CamDrum$Machine" "guards" "LCamDrum$Guards;") ∈ wsG := wsT1 _ (List.mem_of_getElem? (i := 170) (by decide +kernel)) rfl
theorem w_fl_X5_49 : (Cond.fieldLink RX5 49 "CamDrum$Machine" "chart" "LCamDrum$Chart;") ∈ wsG := wsT1 _ (List.mem_of_getElem? (i := 171) (by decide +kernel)) rfl
theorem w_fl_X7_179 : (Cond.fieldLink RX7 179 "CamDrum$Machine" "chart" "LCamDrum$Chart;") ∈ wsG := wsT1 _ (List.mem_of_getElem? (i := 172) (by decide +kernel)) rfl
theorem w_ly_X5_steps : (Cond.lays "CamDrum$Machine" "CamDrum$Machine" "steps" "I") ∈ wsG := wsT1 _ (List.mem_of_getElem? (i := 173) (by decide +kernel)) rfl
theorem w_ly_X5_step : (Cond.lays "CamDrum$Machine" "CamDrum$Machine" "step" "I") ∈ wsG := wsT1 _ (List.mem_of_getElem? (i := 175) (by decide +kernel)) rfl
theorem w_ly_X5_stand : (Cond.lays "CamDrum$Machine" "CamDrum$Machine" "stand" "I") ∈ wsG := wsT1 _ (List.mem_of_getElem? (i := 177) (by decide +kernel)) rfl
theorem w_ly_X5_dwell : (Cond.lays "CamDrum$Machine" "CamDrum$Machine" "dwell" "I") ∈ wsG := wsT1 _ (List.mem_of_getElem? (i := 179) (by decide +kernel)) rfl
theorem w_ly_X5_least : (Cond.lays "CamDrum$Machine" "CamDrum$Machine" "least" "I") ∈ wsG := wsT1 _ (List.mem_of_getElem? (i := 181) (by decide +kernel)) rfl
theorem w_ly_X5_ticks : (Cond.lays "CamDrum$Machine" "CamDrum$Machine" "ticks" "I") ∈ wsG := wsT1 _ (List.mem_of_getElem? (i := 183) (by decide +kernel)) rfl
theorem w_ly_X5_cycles : (Cond.lays "CamDrum$Machine" "CamDrum$Machine" "cycles" "I") ∈ wsG := wsT1 _ (List.mem_of_getElem? (i := 185) (by decide +kernel)) rfl
theorem w_ly_X5_skipped : (Cond.lays "CamDrum$Machine" "CamDrum$Machine" "skipped" "I") ∈ wsG := wsT1 _ (List.mem_of_getElem? (i := 187) (by decide +kernel)) rfl
theorem w_ly_X5_tracks : (Cond.laysFinal "CamDrum$Machine" "CamDrum$Machine" "tracks" "[I") ∈ wsG := wsT1 _ (List.mem_of_getElem? (i := 189) (by decide +kernel)) rfl
theorem w_ly_X5_air : (Cond.laysFinal "CamDrum$Machine" "CamDrum$Machine" "air" "LCamDrum$Air;") ∈ wsG := wsT1 _ (List.mem_of_getElem? (i := 191) (by decide +kernel)) rfl
theorem w_ly_X5_cylinders : (Cond.laysFinal "CamDrum$Machine" "CamDrum$Machine" "cylinders" "LCamDrum$Cylinders;") ∈ wsG := wsT1 _ (List.mem_of_getElem? (i := 193) (by decide +kernel)) rfl
theorem w_ly_X5_guards : (Cond.laysFinal "CamDrum$Machine" "CamDrum$Machine" "guards" "LCamDrum$Guards;") ∈ wsG := wsT1 _ (List.mem_of_getElem? (i := 195) (by decide +kernel)) rfl
theorem w_ly_X5_chart : (Cond.laysFinal "CamDrum$Machine" "CamDrum$Machine" "chart" "LCamDrum$Chart;") ∈ wsG := wsT1 _ (List.mem_of_getElem? (i := 197) (by decide +kernel)) rfl
theorem w_cl_X7_16 : (Cond.classLink RX7 16 RX4) ∈ wsG := wsT1 _ (List.mem_of_getElem? (i := 200) (by decide +kernel)) rfl
theorem w_is_X4 : (Cond.instantiable RX4 3) ∈ wsG := wsT1 _ (List.mem_of_getElem? (i := 201) (by decide +kernel)) rfl
theorem w_ml_X7_18 : (Cond.methodLink RX7 18 yX4_init) ∈ wsG := wsT1 _ (List.mem_of_getElem? (i := 202) (by decide +kernel)) rfl
theorem w_im_yX4_init : (Cond.instanceMethod yX4_init) ∈ wsG := wsT1 _ (List.mem_of_getElem? (i := 203) (by decide +kernel)) rfl
theorem w_co_yX4_init : (Cond.code yX4_init cX4_init 2 none) ∈ wsG := wsT1 _ (List.mem_of_getElem? (i := 204) (by decide +kernel)) rfl
theorem w_ml_X4_3 : (Cond.methodLink RX4 3 objectInit) ∈ wsG := wsT1 _ (List.mem_of_getElem? (i := 205) (by decide +kernel)) rfl
theorem w_cl_X4_9 : (Cond.classLink RX4 9 RX5) ∈ wsG := wsT1 _ (List.mem_of_getElem? (i := 206) (by decide +kernel)) rfl
theorem w_fl_X4_11 : (Cond.fieldLink RX4 11 "CamDrum$History" "kept" "[LCamDrum$Machine;") ∈ wsG := wsT1 _ (List.mem_of_getElem? (i := 209) (by decide +kernel)) rfl
theorem w_fl_X4_18 : (Cond.fieldLink RX4 18 "CamDrum$History" "newest" "I") ∈ wsG := wsT1 _ (List.mem_of_getElem? (i := 210) (by decide +kernel)) rfl
theorem w_fl_X4_22 : (Cond.fieldLink RX4 22 "CamDrum$History" "count" "I") ∈ wsG := wsT1 _ (List.mem_of_getElem? (i := 211) (by decide +kernel)) rfl
theorem w_fl_X7_236 : (Cond.fieldLink RX7 236 "CamDrum$History" "count" "I") ∈ wsG := wsT1 _ (List.mem_of_getElem? (i := 212) (by decide +kernel)) rfl
theorem w_ly_X4_kept : (Cond.laysFinal "CamDrum$History" "CamDrum$History" "kept" "[LCamDrum$Machine;") ∈ wsG := wsT1 _ (List.mem_of_getElem? (i := 213) (by decide +kernel)) rfl
theorem w_ly_X4_newest : (Cond.lays "CamDrum$History" "CamDrum$History" "newest" "I") ∈ wsG := wsT1 _ (List.mem_of_getElem? (i := 215) (by decide +kernel)) rfl
theorem w_ly_X4_count : (Cond.lays "CamDrum$History" "CamDrum$History" "count" "I") ∈ wsG := wsT1 _ (List.mem_of_getElem? (i := 217) (by decide +kernel)) rfl
theorem w_cl_X7_23 : (Cond.classLink RX7 23 RX6) ∈ wsG := wsT1 _ (List.mem_of_getElem? (i := 220) (by decide +kernel)) rfl
theorem w_is_X6 : (Cond.instantiable RX6 6) ∈ wsG := wsT1 _ (List.mem_of_getElem? (i := 221) (by decide +kernel)) rfl
theorem w_im_yX6_init : (Cond.instanceMethod yX6_init) ∈ wsG := wsT1 _ (List.mem_of_getElem? (i := 223) (by decide +kernel)) rfl
theorem w_co_yX6_init : (Cond.code yX6_init cX6_init 1 none) ∈ wsG := wsT1 _ (List.mem_of_getElem? (i := 224) (by decide +kernel)) rfl
theorem w_ml_X6_3 : (Cond.methodLink RX6 3 objectInit) ∈ wsG := wsT1 _ (List.mem_of_getElem? (i := 225) (by decide +kernel)) rfl
theorem w_fl_X6_9 : (Cond.fieldLink RX6 9 "CamDrum$TrackText" "bytes" "[I") ∈ wsG := wsT1 _ (List.mem_of_getElem? (i := 226) (by decide +kernel)) rfl
theorem w_fl_X6_15 : (Cond.fieldLink RX6 15 "CamDrum$TrackText" "tracks" "[I") ∈ wsG := wsT1 _ (List.mem_of_getElem? (i := 227) (by decide +kernel)) rfl
theorem w_ly_X6_bytes : (Cond.laysFinal "CamDrum$TrackText" "CamDrum$TrackText" "bytes" "[I") ∈ wsG := wsT1 _ (List.mem_of_getElem? (i := 228) (by decide +kernel)) rfl
theorem w_ly_X6_length : (Cond.lays "CamDrum$TrackText" "CamDrum$TrackText" "length" "I") ∈ wsG := wsT1 _ (List.mem_of_getElem? (i := 230) (by decide +kernel)) rfl
theorem w_ly_X6_tracks : (Cond.laysFinal "CamDrum$TrackText" "CamDrum$TrackText" "tracks" "[I") ∈ wsG := wsT1 _ (List.mem_of_getElem? (i := 232) (by decide +kernel)) rfl
theorem w_ly_X6_steps : (Cond.lays "CamDrum$TrackText" "CamDrum$TrackText" "steps" "I") ∈ wsG := wsT1 _ (List.mem_of_getElem? (i := 234) (by decide +kernel)) rfl
theorem w_ly_X6_fault : (Cond.lays "CamDrum$TrackText" "CamDrum$TrackText" "fault" "I") ∈ wsG := wsT1 _ (List.mem_of_getElem? (i := 236) (by decide +kernel)) rfl
theorem w_ly_X6_at : (Cond.lays "CamDrum$TrackText" "CamDrum$TrackText" "at" "I") ∈ wsG := wsT1 _ (List.mem_of_getElem? (i := 238) (by decide +kernel)) rfl
theorem w_fl_X7_10 : (Cond.fieldLink RX7 10 "CamDrum" "now" "LCamDrum$Machine;") ∈ wsG := wsT2 _ (List.mem_of_getElem? (i := 1) (by decide +kernel)) rfl
theorem w_fl_X7_19 : (Cond.fieldLink RX7 19 "CamDrum" "history" "LCamDrum$History;") ∈ wsG := wsT2 _ (List.mem_of_getElem? (i := 2) (by decide +kernel)) rfl
theorem w_fl_X7_26 : (Cond.fieldLink RX7 26 "CamDrum" "text" "LCamDrum$TrackText;") ∈ wsG := wsT2 _ (List.mem_of_getElem? (i := 3) (by decide +kernel)) rfl
theorem w_fl_X7_30 : (Cond.fieldLink RX7 30 "CamDrum" "trial" "LCamDrum$Machine;") ∈ wsG := wsT2 _ (List.mem_of_getElem? (i := 4) (by decide +kernel)) rfl
theorem w_fl_X7_33 : (Cond.fieldLink RX7 33 "CamDrum" "earlier" "LCamDrum$Machine;") ∈ wsG := wsT2 _ (List.mem_of_getElem? (i := 5) (by decide +kernel)) rfl
theorem w_ly_X7_now : (Cond.laysFinal "CamDrum" "CamDrum" "now" "LCamDrum$Machine;") ∈ wsG := wsT2 _ (List.mem_of_getElem? (i := 6) (by decide +kernel)) rfl
theorem w_ly_X7_history : (Cond.laysFinal "CamDrum" "CamDrum" "history" "LCamDrum$History;") ∈ wsG := wsT2 _ (List.mem_of_getElem? (i := 8) (by decide +kernel)) rfl
theorem w_ly_X7_text : (Cond.laysFinal "CamDrum" "CamDrum" "text" "LCamDrum$TrackText;") ∈ wsG := wsT2 _ (List.mem_of_getElem? (i := 10) (by decide +kernel)) rfl
theorem w_ly_X7_trial : (Cond.laysFinal "CamDrum" "CamDrum" "trial" "LCamDrum$Machine;") ∈ wsG := wsT2 _ (List.mem_of_getElem? (i := 12) (by decide +kernel)) rfl
theorem w_ly_X7_earlier : (Cond.laysFinal "CamDrum" "CamDrum" "earlier" "LCamDrum$Machine;") ∈ wsG := wsT2 _ (List.mem_of_getElem? (i := 14) (by decide +kernel)) rfl
theorem w_ml_L_42 : (Cond.methodLink RL 42 yX7_turn) ∈ wsG := wsT2 _ (List.mem_of_getElem? (i := 17) (by decide +kernel)) rfl
theorem w_im_yX7_turn : (Cond.instanceMethod yX7_turn) ∈ wsG := wsT2 _ (List.mem_of_getElem? (i := 18) (by decide +kernel)) rfl
theorem w_se_yX7_turn : (Cond.selects RX7 yX7_turn yX7_turn) ∈ wsG := wsT2 _ (List.mem_of_getElem? (i := 19) (by decide +kernel)) rfl
theorem w_co_yX7_turn : (Cond.code yX7_turn cX7_turn 3 (some FieldType.int)) ∈ wsG := wsT2 _ (List.mem_of_getElem? (i := 20) (by decide +kernel)) rfl
theorem w_ml_X7_40 : (Cond.methodLink RX7 40 yX7_requireStep) ∈ wsG := wsT2 _ (List.mem_of_getElem? (i := 21) (by decide +kernel)) rfl
theorem w_im_yX7_requireStep : (Cond.instanceMethod yX7_requireStep) ∈ wsG := wsT2 _ (List.mem_of_getElem? (i := 23) (by decide +kernel)) rfl
theorem w_co_yX7_requireStep : (Cond.code yX7_requireStep cX7_requireStep 2 none) ∈ wsG := wsT2 _ (List.mem_of_getElem? (i := 24) (by decide +kernel)) rfl
theorem w_ml_X7_55 : (Cond.methodLink RX7 55 yX7_within) ∈ wsG := wsT2 _ (List.mem_of_getElem? (i := 25) (by decide +kernel)) rfl
theorem w_st_yX7_within : (Cond.static yX7_within) ∈ wsG := wsT2 _ (List.mem_of_getElem? (i := 26) (by decide +kernel)) rfl
theorem w_co_yX7_within : (Cond.code yX7_within cX7_within 3 (some FieldType.boolean)) ∈ wsG := wsT2 _ (List.mem_of_getElem? (i := 27) (by decide +kernel)) rfl
theorem w_cl_X7_261 : (Cond.classLink RX7 261 "java/lang/IndexOutOfBoundsException") ∈ wsG := wsT2 _ (List.mem_of_getElem? (i := 28) (by decide +kernel)) rfl
theorem w_is_IndexOutOfBoundsException : (Cond.instantiable "java/lang/IndexOutOfBoundsException" 6) ∈ wsG := wsT2 _ (List.mem_of_getElem? (i := 29) (by decide +kernel)) rfl
theorem w_ly_IndexOutOfBoundsException_cause : (Cond.lays "java/lang/IndexOutOfBoundsException" "java/lang/Throwable" "cause" "Ljava/lang/Throwable;") ∈ wsG := wsT2 _ (List.mem_of_getElem? (i := 39) (by decide +kernel)) rfl
theorem w_ly_Throwable_cause : (Cond.lays "java/lang/Throwable" "java/lang/Throwable" "cause" "Ljava/lang/Throwable;") ∈ wsG := wsT2 _ (List.mem_of_getElem? (i := 40) (by decide +kernel)) rfl
theorem w_ly_IndexOutOfBoundsException_stackTrace : (Cond.lays "java/lang/IndexOutOfBoundsException" "java/lang/Throwable" "stackTrace" "[Ljava/lang/StackTraceElement;") ∈ wsG := wsT2 _ (List.mem_of_getElem? (i := 41) (by decide +kernel)) rfl
theorem w_ly_Throwable_stackTrace : (Cond.lays "java/lang/Throwable" "java/lang/Throwable" "stackTrace" "[Ljava/lang/StackTraceElement;") ∈ wsG := wsT2 _ (List.mem_of_getElem? (i := 42) (by decide +kernel)) rfl
theorem w_ly_IndexOutOfBoundsException_suppressedExceptions : (Cond.lays "java/lang/IndexOutOfBoundsException" "java/lang/Throwable" "suppressedExceptions" "Ljava/util/List;") ∈ wsG := wsT2 _ (List.mem_of_getElem? (i := 43) (by decide +kernel)) rfl
theorem w_ly_Throwable_suppressedExceptions : (Cond.lays "java/lang/Throwable" "java/lang/Throwable" "suppressedExceptions" "Ljava/util/List;") ∈ wsG := wsT2 _ (List.mem_of_getElem? (i := 44) (by decide +kernel)) rfl
theorem w_ly_IndexOutOfBoundsException_detailMessage : (Cond.lays "java/lang/IndexOutOfBoundsException" "java/lang/Throwable" "detailMessage" "Ljava/lang/String;") ∈ wsG := wsT2 _ (List.mem_of_getElem? (i := 45) (by decide +kernel)) rfl
theorem w_ly_Throwable_detailMessage : (Cond.lays "java/lang/Throwable" "java/lang/Throwable" "detailMessage" "Ljava/lang/String;") ∈ wsG := wsT2 _ (List.mem_of_getElem? (i := 46) (by decide +kernel)) rfl
theorem w_ly_IndexOutOfBoundsException_backtrace : (Cond.lays "java/lang/IndexOutOfBoundsException" "java/lang/Throwable" "backtrace" "Ljava/lang/Object;") ∈ wsG := wsT2 _ (List.mem_of_getElem? (i := 47) (by decide +kernel)) rfl
theorem w_ly_Throwable_backtrace : (Cond.lays "java/lang/Throwable" "java/lang/Throwable" "backtrace" "Ljava/lang/Object;") ∈ wsG := wsT2 _ (List.mem_of_getElem? (i := 48) (by decide +kernel)) rfl
theorem w_fl_Throwable_198 : (Cond.fieldLink "java/lang/Throwable" 198 "java/lang/Throwable" "backtrace" "Ljava/lang/Object;") ∈ wsG := wsT2 _ (List.mem_of_getElem? (i := 49) (by decide +kernel)) rfl
theorem w_ml_Throwable_1 : (Cond.methodLink "java/lang/Throwable" 1 objectInit) ∈ wsG := wsT2 _ (List.mem_of_getElem? (i := 53) (by decide +kernel)) rfl
theorem w_fl_Throwable_13 : (Cond.fieldLink "java/lang/Throwable" 13 "java/lang/Throwable" "UNASSIGNED_STACK" "[Ljava/lang/StackTraceElement;") ∈ wsG := wsT2 _ (List.mem_of_getElem? (i := 54) (by decide +kernel)) rfl
theorem w_fl_Throwable_20 : (Cond.fieldLink "java/lang/Throwable" 20 "java/lang/Throwable" "SUPPRESSED_SENTINEL" "Ljava/util/List;") ∈ wsG := wsT2 _ (List.mem_of_getElem? (i := 56) (by decide +kernel)) rfl
theorem w_is_Throwable : (Cond.instantiable "java/lang/Throwable" 6) ∈ wsG := wsT2 _ (List.mem_of_getElem? (i := 67) (by decide +kernel)) rfl
theorem w_fl_Throwable_31 : (Cond.fieldLink "java/lang/Throwable" 31 "java/lang/Throwable" "detailMessage" "Ljava/lang/String;") ∈ wsG := wsT2 _ (List.mem_of_getElem? (i := 83) (by decide +kernel)) rfl
theorem w_fl_Throwable_7 : (Cond.fieldLink "java/lang/Throwable" 7 "java/lang/Throwable" "cause" "Ljava/lang/Throwable;") ∈ wsG := wsT2 _ (List.mem_of_getElem? (i := 84) (by decide +kernel)) rfl
theorem w_fl_Throwable_17 : (Cond.fieldLink "java/lang/Throwable" 17 "java/lang/Throwable" "stackTrace" "[Ljava/lang/StackTraceElement;") ∈ wsG := wsT2 _ (List.mem_of_getElem? (i := 85) (by decide +kernel)) rfl
theorem w_fl_Throwable_24 : (Cond.fieldLink "java/lang/Throwable" 24 "java/lang/Throwable" "suppressedExceptions" "Ljava/util/List;") ∈ wsG := wsT2 _ (List.mem_of_getElem? (i := 86) (by decide +kernel)) rfl
theorem w_ly_IndexOutOfBoundsException_depth : (Cond.lays "java/lang/IndexOutOfBoundsException" "java/lang/Throwable" "depth" "I") ∈ wsG := wsT2 _ (List.mem_of_getElem? (i := 91) (by decide +kernel)) rfl
theorem w_ac_byte : (Cond.arrayClass FieldType.byte) ∈ wsG := wsT2 _ (List.mem_of_getElem? (i := 95) (by decide +kernel)) rfl
theorem w_ml_X7_43 : (Cond.methodLink RX7 43 yX4_save) ∈ wsG := wsT2 _ (List.mem_of_getElem? (i := 96) (by decide +kernel)) rfl
theorem w_im_yX4_save : (Cond.instanceMethod yX4_save) ∈ wsG := wsT2 _ (List.mem_of_getElem? (i := 97) (by decide +kernel)) rfl
theorem w_se_yX4_save : (Cond.selects RX4 yX4_save yX4_save) ∈ wsG := wsT2 _ (List.mem_of_getElem? (i := 98) (by decide +kernel)) rfl
theorem w_co_yX4_save : (Cond.code yX4_save cX4_save 3 none) ∈ wsG := wsT2 _ (List.mem_of_getElem? (i := 99) (by decide +kernel)) rfl
theorem w_ml_X4_25 : (Cond.methodLink RX4 25 Lib.Math.min.name) ∈ wsG := wsT2 _ (List.mem_of_getElem? (i := 100) (by decide +kernel)) rfl
theorem w_st_Mmin : (Cond.static Lib.Math.min.name) ∈ wsG := wsT2 _ (List.mem_of_getElem? (i := 101) (by decide +kernel)) rfl
theorem w_co_Mmin : (Cond.code Lib.Math.min.name Lib.Math.min.code 2 (some FieldType.int)) ∈ wsG := wsT2 _ (List.mem_of_getElem? (i := 102) (by decide +kernel)) rfl
theorem w_ml_X4_31 : (Cond.methodLink RX4 31 yX4_newestPlace) ∈ wsG := wsT2 _ (List.mem_of_getElem? (i := 103) (by decide +kernel)) rfl
theorem w_im_yX4_newestPlace : (Cond.instanceMethod yX4_newestPlace) ∈ wsG := wsT2 _ (List.mem_of_getElem? (i := 105) (by decide +kernel)) rfl
theorem w_co_yX4_newestPlace : (Cond.code yX4_newestPlace cX4_newestPlace 1 (some (FieldType.object "CamDrum$Machine"))) ∈ wsG := wsT2 _ (List.mem_of_getElem? (i := 106) (by decide +kernel)) rfl
theorem w_ml_X4_35 : (Cond.methodLink RX4 35 yX5_copyFrom) ∈ wsG := wsT2 _ (List.mem_of_getElem? (i := 108) (by decide +kernel)) rfl
theorem w_im_yX5_copyFrom : (Cond.instanceMethod yX5_copyFrom) ∈ wsG := wsT2 _ (List.mem_of_getElem? (i := 109) (by decide +kernel)) rfl
theorem w_se_yX5_copyFrom : (Cond.selects RX5 yX5_copyFrom yX5_copyFrom) ∈ wsG := wsT2 _ (List.mem_of_getElem? (i := 110) (by decide +kernel)) rfl
theorem w_co_yX5_copyFrom : (Cond.code yX5_copyFrom cX5_copyFrom 2 none) ∈ wsG := wsT2 _ (List.mem_of_getElem? (i := 111) (by decide +kernel)) rfl
theorem w_st_yX7_copyRow : (Cond.static yX7_copyRow) ∈ wsG := wsT2 _ (List.mem_of_getElem? (i := 113) (by decide +kernel)) rfl
theorem w_co_yX7_copyRow : (Cond.code yX7_copyRow cX7_copyRow 2 none) ∈ wsG := wsT2 _ (List.mem_of_getElem? (i := 114) (by decide +kernel)) rfl
theorem w_ml_X7_268 : (Cond.methodLink RX7 268 Lib.Math.min.name) ∈ wsG := wsT2 _ (List.mem_of_getElem? (i := 115) (by decide +kernel)) rfl
theorem w_ml_X7_289 : (Cond.methodLink RX7 289 arraycopyName) ∈ wsG := wsT2 _ (List.mem_of_getElem? (i := 116) (by decide +kernel)) rfl
theorem w_st_arraycopyName : (Cond.static arraycopyName) ∈ wsG := wsT2 _ (List.mem_of_getElem? (i := 117) (by decide +kernel)) rfl
theorem w_na_arraycopyName : (Cond.native arraycopyName) ∈ wsG := wsT2 _ (List.mem_of_getElem? (i := 118) (by decide +kernel)) rfl
theorem w_ml_X5_72 : (Cond.methodLink RX5 72 yX0_copyFrom) ∈ wsG := wsT2 _ (List.mem_of_getElem? (i := 119) (by decide +kernel)) rfl
theorem w_im_yX0_copyFrom : (Cond.instanceMethod yX0_copyFrom) ∈ wsG := wsT2 _ (List.mem_of_getElem? (i := 120) (by decide +kernel)) rfl
theorem w_se_yX0_copyFrom : (Cond.selects RX0 yX0_copyFrom yX0_copyFrom) ∈ wsG := wsT2 _ (List.mem_of_getElem? (i := 121) (by decide +kernel)) rfl
theorem w_co_yX0_copyFrom : (Cond.code yX0_copyFrom cX0_copyFrom 2 none) ∈ wsG := wsT2 _ (List.mem_of_getElem? (i := 122) (by decide +kernel)) rfl
theorem w_ml_X5_76 : (Cond.methodLink RX5 76 yX2_copyFrom) ∈ wsG := wsT2 _ (List.mem_of_getElem? (i := 123) (by decide +kernel)) rfl
theorem w_im_yX2_copyFrom : (Cond.instanceMethod yX2_copyFrom) ∈ wsG := wsT2 _ (List.mem_of_getElem? (i := 124) (by decide +kernel)) rfl
theorem w_se_yX2_copyFrom : (Cond.selects RX2 yX2_copyFrom yX2_copyFrom) ∈ wsG := wsT2 _ (List.mem_of_getElem? (i := 125) (by decide +kernel)) rfl
theorem w_co_yX2_copyFrom : (Cond.code yX2_copyFrom cX2_copyFrom 2 none) ∈ wsG := wsT2 _ (List.mem_of_getElem? (i := 126) (by decide +kernel)) rfl
theorem w_ml_X5_79 : (Cond.methodLink RX5 79 yX3_copyFrom) ∈ wsG := wsT2 _ (List.mem_of_getElem? (i := 128) (by decide +kernel)) rfl
theorem w_im_yX3_copyFrom : (Cond.instanceMethod yX3_copyFrom) ∈ wsG := wsT2 _ (List.mem_of_getElem? (i := 129) (by decide +kernel)) rfl
theorem w_se_yX3_copyFrom : (Cond.selects RX3 yX3_copyFrom yX3_copyFrom) ∈ wsG := wsT2 _ (List.mem_of_getElem? (i := 130) (by decide +kernel)) rfl
theorem w_co_yX3_copyFrom : (Cond.code yX3_copyFrom cX3_copyFrom 2 none) ∈ wsG := wsT2 _ (List.mem_of_getElem? (i := 131) (by decide +kernel)) rfl
theorem w_ml_X5_82 : (Cond.methodLink RX5 82 yX1_copyFrom) ∈ wsG := wsT2 _ (List.mem_of_getElem? (i := 133) (by decide +kernel)) rfl
theorem w_im_yX1_copyFrom : (Cond.instanceMethod yX1_copyFrom) ∈ wsG := wsT2 _ (List.mem_of_getElem? (i := 134) (by decide +kernel)) rfl
theorem w_se_yX1_copyFrom : (Cond.selects RX1 yX1_copyFrom yX1_copyFrom) ∈ wsG := wsT2 _ (List.mem_of_getElem? (i := 135) (by decide +kernel)) rfl
theorem w_co_yX1_copyFrom : (Cond.code yX1_copyFrom cX1_copyFrom 2 none) ∈ wsG := wsT2 _ (List.mem_of_getElem? (i := 136) (by decide +kernel)) rfl
theorem w_ml_X7_143 : (Cond.methodLink RX7 143 yX5_standAt) ∈ wsG := wsT2 _ (List.mem_of_getElem? (i := 138) (by decide +kernel)) rfl
theorem w_im_yX5_standAt : (Cond.instanceMethod yX5_standAt) ∈ wsG := wsT2 _ (List.mem_of_getElem? (i := 139) (by decide +kernel)) rfl
theorem w_se_yX5_standAt : (Cond.selects RX5 yX5_standAt yX5_standAt) ∈ wsG := wsT2 _ (List.mem_of_getElem? (i := 140) (by decide +kernel)) rfl
theorem w_co_yX5_standAt : (Cond.code yX5_standAt cX5_standAt 2 none) ∈ wsG := wsT2 _ (List.mem_of_getElem? (i := 141) (by decide +kernel)) rfl
theorem w_ml_L_45 : (Cond.methodLink RL 45 yX7_run) ∈ wsG := wsT2 _ (List.mem_of_getElem? (i := 142) (by decide +kernel)) rfl
theorem w_im_yX7_run : (Cond.instanceMethod yX7_run) ∈ wsG := wsT2 _ (List.mem_of_getElem? (i := 143) (by decide +kernel)) rfl
theorem w_se_yX7_run : (Cond.selects RX7 yX7_run yX7_run) ∈ wsG := wsT2 _ (List.mem_of_getElem? (i := 144) (by decide +kernel)) rfl
theorem w_co_yX7_run : (Cond.code yX7_run cX7_run 4 (some FieldType.int)) ∈ wsG := wsT2 _ (List.mem_of_getElem? (i := 145) (by decide +kernel)) rfl
theorem w_cl_X7_59 : (Cond.classLink RX7 59 "java/lang/IllegalArgumentException") ∈ wsG := wsT2 _ (List.mem_of_getElem? (i := 146) (by decide +kernel)) rfl
theorem w_is_IllegalArgumentException : (Cond.instantiable "java/lang/IllegalArgumentException" 6) ∈ wsG := wsT2 _ (List.mem_of_getElem? (i := 147) (by decide +kernel)) rfl
theorem w_ly_IllegalArgumentException_cause : (Cond.lays "java/lang/IllegalArgumentException" "java/lang/Throwable" "cause" "Ljava/lang/Throwable;") ∈ wsG := wsT2 _ (List.mem_of_getElem? (i := 150) (by decide +kernel)) rfl
theorem w_ly_IllegalArgumentException_stackTrace : (Cond.lays "java/lang/IllegalArgumentException" "java/lang/Throwable" "stackTrace" "[Ljava/lang/StackTraceElement;") ∈ wsG := wsT2 _ (List.mem_of_getElem? (i := 151) (by decide +kernel)) rfl
theorem w_ly_IllegalArgumentException_suppressedExceptions : (Cond.lays "java/lang/IllegalArgumentException" "java/lang/Throwable" "suppressedExceptions" "Ljava/util/List;") ∈ wsG := wsT2 _ (List.mem_of_getElem? (i := 152) (by decide +kernel)) rfl
theorem w_ly_IllegalArgumentException_detailMessage : (Cond.lays "java/lang/IllegalArgumentException" "java/lang/Throwable" "detailMessage" "Ljava/lang/String;") ∈ wsG := wsT2 _ (List.mem_of_getElem? (i := 153) (by decide +kernel)) rfl
theorem w_ly_IllegalArgumentException_backtrace : (Cond.lays "java/lang/IllegalArgumentException" "java/lang/Throwable" "backtrace" "Ljava/lang/Object;") ∈ wsG := wsT2 _ (List.mem_of_getElem? (i := 154) (by decide +kernel)) rfl
theorem w_ly_IllegalArgumentException_depth : (Cond.lays "java/lang/IllegalArgumentException" "java/lang/Throwable" "depth" "I") ∈ wsG := wsT2 _ (List.mem_of_getElem? (i := 160) (by decide +kernel)) rfl
theorem w_ct_X7_151 : (Cond.constant RX7 151 (100000)) ∈ wsG := wsT2 _ (List.mem_of_getElem? (i := 162) (by decide +kernel)) rfl
theorem w_cl_X7_125 : (Cond.classLink RX7 125 "java/lang/IllegalStateException") ∈ wsG := wsT2 _ (List.mem_of_getElem? (i := 163) (by decide +kernel)) rfl
theorem w_is_IllegalStateException : (Cond.instantiable "java/lang/IllegalStateException" 6) ∈ wsG := wsT2 _ (List.mem_of_getElem? (i := 164) (by decide +kernel)) rfl
theorem w_ly_IllegalStateException_cause : (Cond.lays "java/lang/IllegalStateException" "java/lang/Throwable" "cause" "Ljava/lang/Throwable;") ∈ wsG := wsT2 _ (List.mem_of_getElem? (i := 167) (by decide +kernel)) rfl
theorem w_ly_IllegalStateException_stackTrace : (Cond.lays "java/lang/IllegalStateException" "java/lang/Throwable" "stackTrace" "[Ljava/lang/StackTraceElement;") ∈ wsG := wsT2 _ (List.mem_of_getElem? (i := 168) (by decide +kernel)) rfl
theorem w_ly_IllegalStateException_suppressedExceptions : (Cond.lays "java/lang/IllegalStateException" "java/lang/Throwable" "suppressedExceptions" "Ljava/util/List;") ∈ wsG := wsT2 _ (List.mem_of_getElem? (i := 169) (by decide +kernel)) rfl
theorem w_ly_IllegalStateException_detailMessage : (Cond.lays "java/lang/IllegalStateException" "java/lang/Throwable" "detailMessage" "Ljava/lang/String;") ∈ wsG := wsT2 _ (List.mem_of_getElem? (i := 170) (by decide +kernel)) rfl
theorem w_ly_IllegalStateException_backtrace : (Cond.lays "java/lang/IllegalStateException" "java/lang/Throwable" "backtrace" "Ljava/lang/Object;") ∈ wsG := wsT2 _ (List.mem_of_getElem? (i := 171) (by decide +kernel)) rfl
theorem w_ly_IllegalStateException_depth : (Cond.lays "java/lang/IllegalStateException" "java/lang/Throwable" "depth" "I") ∈ wsG := wsT2 _ (List.mem_of_getElem? (i := 177) (by decide +kernel)) rfl
theorem w_ml_X7_157 : (Cond.methodLink RX7 157 yX5_tick) ∈ wsG := wsT2 _ (List.mem_of_getElem? (i := 179) (by decide +kernel)) rfl
theorem w_im_yX5_tick : (Cond.instanceMethod yX5_tick) ∈ wsG := wsT2 _ (List.mem_of_getElem? (i := 180) (by decide +kernel)) rfl
theorem w_se_yX5_tick : (Cond.selects RX5 yX5_tick yX5_tick) ∈ wsG := wsT2 _ (List.mem_of_getElem? (i := 181) (by decide +kernel)) rfl
theorem w_co_yX5_tick : (Cond.code yX5_tick cX5_tick 3 (some FieldType.int)) ∈ wsG := wsT2 _ (List.mem_of_getElem? (i := 182) (by decide +kernel)) rfl
theorem w_ml_X5_102 : (Cond.methodLink RX5 102 yX0_compress) ∈ wsG := wsT2 _ (List.mem_of_getElem? (i := 183) (by decide +kernel)) rfl
theorem w_im_yX0_compress : (Cond.instanceMethod yX0_compress) ∈ wsG := wsT2 _ (List.mem_of_getElem? (i := 184) (by decide +kernel)) rfl
theorem w_se_yX0_compress : (Cond.selects RX0 yX0_compress yX0_compress) ∈ wsG := wsT2 _ (List.mem_of_getElem? (i := 185) (by decide +kernel)) rfl
theorem w_co_yX0_compress : (Cond.code yX0_compress cX0_compress 1 none) ∈ wsG := wsT2 _ (List.mem_of_getElem? (i := 186) (by decide +kernel)) rfl
theorem w_ml_X0_33 : (Cond.methodLink RX0 33 yX0_letOffSurplus) ∈ wsG := wsT2 _ (List.mem_of_getElem? (i := 187) (by decide +kernel)) rfl
theorem w_im_yX0_letOffSurplus : (Cond.instanceMethod yX0_letOffSurplus) ∈ wsG := wsT2 _ (List.mem_of_getElem? (i := 188) (by decide +kernel)) rfl
theorem w_se_yX0_letOffSurplus : (Cond.selects RX0 yX0_letOffSurplus yX0_letOffSurplus) ∈ wsG := wsT2 _ (List.mem_of_getElem? (i := 189) (by decide +kernel)) rfl
theorem w_co_yX0_letOffSurplus : (Cond.code yX0_letOffSurplus cX0_letOffSurplus 2 none) ∈ wsG := wsT2 _ (List.mem_of_getElem? (i := 190) (by decide +kernel)) rfl
theorem w_ml_X0_36 : (Cond.methodLink RX0 36 Lib.Math.max.name) ∈ wsG := wsT2 _ (List.mem_of_getElem? (i := 191) (by decide +kernel)) rfl
theorem w_st_Mmax : (Cond.static Lib.Math.max.name) ∈ wsG := wsT2 _ (List.mem_of_getElem? (i := 192) (by decide +kernel)) rfl
theorem w_co_Mmax : (Cond.code Lib.Math.max.name Lib.Math.max.code 2 (some FieldType.int)) ∈ wsG := wsT2 _ (List.mem_of_getElem? (i := 193) (by decide +kernel)) rfl
theorem w_ml_X5_105 : (Cond.methodLink RX5 105 yX5_moveDrum) ∈ wsG := wsT2 _ (List.mem_of_getElem? (i := 194) (by decide +kernel)) rfl
theorem w_im_yX5_moveDrum : (Cond.instanceMethod yX5_moveDrum) ∈ wsG := wsT2 _ (List.mem_of_getElem? (i := 196) (by decide +kernel)) rfl
theorem w_co_yX5_moveDrum : (Cond.code yX5_moveDrum cX5_moveDrum 1 (some FieldType.int)) ∈ wsG := wsT2 _ (List.mem_of_getElem? (i := 197) (by decide +kernel)) rfl
theorem w_ml_X5_132 : (Cond.methodLink RX5 132 yX1_countSkip) ∈ wsG := wsT2 _ (List.mem_of_getElem? (i := 198) (by decide +kernel)) rfl
theorem w_im_yX1_countSkip : (Cond.instanceMethod yX1_countSkip) ∈ wsG := wsT2 _ (List.mem_of_getElem? (i := 199) (by decide +kernel)) rfl
theorem w_se_yX1_countSkip : (Cond.selects RX1 yX1_countSkip yX1_countSkip) ∈ wsG := wsT2 _ (List.mem_of_getElem? (i := 200) (by decide +kernel)) rfl
theorem w_co_yX1_countSkip : (Cond.code yX1_countSkip cX1_countSkip 2 none) ∈ wsG := wsT2 _ (List.mem_of_getElem? (i := 201) (by decide +kernel)) rfl
theorem w_ml_X5_95 : (Cond.methodLink RX5 95 yX5_standAt) ∈ wsG := wsT2 _ (List.mem_of_getElem? (i := 203) (by decide +kernel)) rfl
theorem w_ml_X5_109 : (Cond.methodLink RX5 109 yX5_hasCam) ∈ wsG := wsT2 _ (List.mem_of_getElem? (i := 204) (by decide +kernel)) rfl
theorem w_im_yX5_hasCam : (Cond.instanceMethod yX5_hasCam) ∈ wsG := wsT2 _ (List.mem_of_getElem? (i := 205) (by decide +kernel)) rfl
theorem w_se_yX5_hasCam : (Cond.selects RX5 yX5_hasCam yX5_hasCam) ∈ wsG := wsT2 _ (List.mem_of_getElem? (i := 206) (by decide +kernel)) rfl
theorem w_co_yX5_hasCam : (Cond.code yX5_hasCam cX5_hasCam 3 (some FieldType.boolean)) ∈ wsG := wsT2 _ (List.mem_of_getElem? (i := 207) (by decide +kernel)) rfl
theorem w_ml_X5_113 : (Cond.methodLink RX5 113 yX5_moveOut) ∈ wsG := wsT2 _ (List.mem_of_getElem? (i := 208) (by decide +kernel)) rfl
theorem w_im_yX5_moveOut : (Cond.instanceMethod yX5_moveOut) ∈ wsG := wsT2 _ (List.mem_of_getElem? (i := 210) (by decide +kernel)) rfl
theorem w_co_yX5_moveOut : (Cond.code yX5_moveOut cX5_moveOut 4 none) ∈ wsG := wsT2 _ (List.mem_of_getElem? (i := 211) (by decide +kernel)) rfl
theorem w_ml_X5_138 : (Cond.methodLink RX5 138 yX5_roomByGuards) ∈ wsG := wsT2 _ (List.mem_of_getElem? (i := 212) (by decide +kernel)) rfl
theorem w_im_yX5_roomByGuards : (Cond.instanceMethod yX5_roomByGuards) ∈ wsG := wsT2 _ (List.mem_of_getElem? (i := 213) (by decide +kernel)) rfl
theorem w_se_yX5_roomByGuards : (Cond.selects RX5 yX5_roomByGuards yX5_roomByGuards) ∈ wsG := wsT2 _ (List.mem_of_getElem? (i := 214) (by decide +kernel)) rfl
theorem w_co_yX5_roomByGuards : (Cond.code yX5_roomByGuards cX5_roomByGuards 4 (some FieldType.int)) ∈ wsG := wsT2 _ (List.mem_of_getElem? (i := 215) (by decide +kernel)) rfl
theorem w_ml_X5_177 : (Cond.methodLink RX5 177 yX5_holds) ∈ wsG := wsT2 _ (List.mem_of_getElem? (i := 216) (by decide +kernel)) rfl
theorem w_im_yX5_holds : (Cond.instanceMethod yX5_holds) ∈ wsG := wsT2 _ (List.mem_of_getElem? (i := 218) (by decide +kernel)) rfl
theorem w_co_yX5_holds : (Cond.code yX5_holds cX5_holds 3 (some FieldType.boolean)) ∈ wsG := wsT2 _ (List.mem_of_getElem? (i := 219) (by decide +kernel)) rfl
theorem w_ml_X5_141 : (Cond.methodLink RX5 141 Lib.Math.min.name) ∈ wsG := wsT2 _ (List.mem_of_getElem? (i := 220) (by decide +kernel)) rfl
theorem w_ml_X5_159 : (Cond.methodLink RX5 159 Lib.Math.max.name) ∈ wsG := wsT2 _ (List.mem_of_getElem? (i := 221) (by decide +kernel)) rfl
theorem w_ml_X5_150 : (Cond.methodLink RX5 150 yX0_enoughToMove) ∈ wsG := wsT2 _ (List.mem_of_getElem? (i := 222) (by decide +kernel)) rfl
theorem w_im_yX0_enoughToMove : (Cond.instanceMethod yX0_enoughToMove) ∈ wsG := wsT2 _ (List.mem_of_getElem? (i := 223) (by decide +kernel)) rfl
theorem w_se_yX0_enoughToMove : (Cond.selects RX0 yX0_enoughToMove yX0_enoughToMove) ∈ wsG := wsT2 _ (List.mem_of_getElem? (i := 224) (by decide +kernel)) rfl
theorem w_co_yX0_enoughToMove : (Cond.code yX0_enoughToMove cX0_enoughToMove 2 (some FieldType.int)) ∈ wsG := wsT2 _ (List.mem_of_getElem? (i := 225) (by decide +kernel)) rfl
theorem w_ml_X5_153 : (Cond.methodLink RX5 153 yX0_use) ∈ wsG := wsT2 _ (List.mem_of_getElem? (i := 226) (by decide +kernel)) rfl
theorem w_im_yX0_use : (Cond.instanceMethod yX0_use) ∈ wsG := wsT2 _ (List.mem_of_getElem? (i := 227) (by decide +kernel)) rfl
theorem w_se_yX0_use : (Cond.selects RX0 yX0_use yX0_use) ∈ wsG := wsT2 _ (List.mem_of_getElem? (i := 228) (by decide +kernel)) rfl
theorem w_co_yX0_use : (Cond.code yX0_use cX0_use 2 none) ∈ wsG := wsT2 _ (List.mem_of_getElem? (i := 229) (by decide +kernel)) rfl
theorem w_ml_X5_116 : (Cond.methodLink RX5 116 yX5_moveIn) ∈ wsG := wsT2 _ (List.mem_of_getElem? (i := 230) (by decide +kernel)) rfl
theorem w_im_yX5_moveIn : (Cond.instanceMethod yX5_moveIn) ∈ wsG := wsT2 _ (List.mem_of_getElem? (i := 232) (by decide +kernel)) rfl
theorem w_co_yX5_moveIn : (Cond.code yX5_moveIn cX5_moveIn 2 none) ∈ wsG := wsT2 _ (List.mem_of_getElem? (i := 233) (by decide +kernel)) rfl
theorem w_ml_X5_119 : (Cond.methodLink RX5 119 yX5_leakAt) ∈ wsG := wsT2 _ (List.mem_of_getElem? (i := 234) (by decide +kernel)) rfl
theorem w_im_yX5_leakAt : (Cond.instanceMethod yX5_leakAt) ∈ wsG := wsT2 _ (List.mem_of_getElem? (i := 236) (by decide +kernel)) rfl
theorem w_co_yX5_leakAt : (Cond.code yX5_leakAt cX5_leakAt 2 none) ∈ wsG := wsT2 _ (List.mem_of_getElem? (i := 237) (by decide +kernel)) rfl
theorem w_ml_X5_168 : (Cond.methodLink RX5 168 yX0_leakOut) ∈ wsG := wsT2 _ (List.mem_of_getElem? (i := 238) (by decide +kernel)) rfl
theorem w_im_yX0_leakOut : (Cond.instanceMethod yX0_leakOut) ∈ wsG := wsT2 _ (List.mem_of_getElem? (i := 239) (by decide +kernel)) rfl
theorem w_se_yX0_leakOut : (Cond.selects RX0 yX0_leakOut yX0_leakOut) ∈ wsG := wsT3 _ (List.mem_of_getElem? (i := 0) (by decide +kernel)) rfl
theorem w_co_yX0_leakOut : (Cond.code yX0_leakOut cX0_leakOut 3 (some FieldType.int)) ∈ wsG := wsT3 _ (List.mem_of_getElem? (i := 1) (by decide +kernel)) rfl
theorem w_ml_X0_42 : (Cond.methodLink RX0 42 Lib.Math.min.name) ∈ wsG := wsT3 _ (List.mem_of_getElem? (i := 2) (by decide +kernel)) rfl
theorem w_ml_X5_125 : (Cond.methodLink RX5 125 yX1_note) ∈ wsG := wsT3 _ (List.mem_of_getElem? (i := 3) (by decide +kernel)) rfl
theorem w_im_yX1_note : (Cond.instanceMethod yX1_note) ∈ wsG := wsT3 _ (List.mem_of_getElem? (i := 4) (by decide +kernel)) rfl
theorem w_se_yX1_note : (Cond.selects RX1 yX1_note yX1_note) ∈ wsG := wsT3 _ (List.mem_of_getElem? (i := 5) (by decide +kernel)) rfl
theorem w_co_yX1_note : (Cond.code yX1_note cX1_note 5 none) ∈ wsG := wsT3 _ (List.mem_of_getElem? (i := 6) (by decide +kernel)) rfl
theorem w_ml_L_31 : (Cond.methodLink RL 31 yX7_value) ∈ wsG := wsT3 _ (List.mem_of_getElem? (i := 7) (by decide +kernel)) rfl
theorem w_im_yX7_value : (Cond.instanceMethod yX7_value) ∈ wsG := wsT3 _ (List.mem_of_getElem? (i := 8) (by decide +kernel)) rfl
theorem w_se_yX7_value : (Cond.selects RX7 yX7_value yX7_value) ∈ wsG := wsT3 _ (List.mem_of_getElem? (i := 9) (by decide +kernel)) rfl
theorem w_co_yX7_value : (Cond.code yX7_value cX7_value 2 (some FieldType.int)) ∈ wsG := wsT3 _ (List.mem_of_getElem? (i := 10) (by decide +kernel)) rfl
theorem w_ml_X7_165 : (Cond.methodLink RX7 165 yX7_requireWhat) ∈ wsG := wsT3 _ (List.mem_of_getElem? (i := 11) (by decide +kernel)) rfl
theorem w_st_yX7_requireWhat : (Cond.static yX7_requireWhat) ∈ wsG := wsT3 _ (List.mem_of_getElem? (i := 12) (by decide +kernel)) rfl
theorem w_co_yX7_requireWhat : (Cond.code yX7_requireWhat cX7_requireWhat 2 none) ∈ wsG := wsT3 _ (List.mem_of_getElem? (i := 13) (by decide +kernel)) rfl
theorem w_ml_X7_176 : (Cond.methodLink RX7 176 yX5_number) ∈ wsG := wsT3 _ (List.mem_of_getElem? (i := 15) (by decide +kernel)) rfl
theorem w_im_yX5_number : (Cond.instanceMethod yX5_number) ∈ wsG := wsT3 _ (List.mem_of_getElem? (i := 16) (by decide +kernel)) rfl
theorem w_se_yX5_number : (Cond.selects RX5 yX5_number yX5_number) ∈ wsG := wsT3 _ (List.mem_of_getElem? (i := 17) (by decide +kernel)) rfl
theorem w_co_yX5_number : (Cond.code yX5_number cX5_number 2 (some FieldType.int)) ∈ wsG := wsT3 _ (List.mem_of_getElem? (i := 18) (by decide +kernel)) rfl
theorem w_ml_L_88 : (Cond.methodLink RL 88 yX7_ticksToCycle) ∈ wsG := wsT3 _ (List.mem_of_getElem? (i := 19) (by decide +kernel)) rfl
theorem w_im_yX7_ticksToCycle : (Cond.instanceMethod yX7_ticksToCycle) ∈ wsG := wsT3 _ (List.mem_of_getElem? (i := 20) (by decide +kernel)) rfl
theorem w_se_yX7_ticksToCycle : (Cond.selects RX7 yX7_ticksToCycle yX7_ticksToCycle) ∈ wsG := wsT3 _ (List.mem_of_getElem? (i := 21) (by decide +kernel)) rfl
theorem w_co_yX7_ticksToCycle : (Cond.code yX7_ticksToCycle cX7_ticksToCycle 1 (some FieldType.int)) ∈ wsG := wsT3 _ (List.mem_of_getElem? (i := 22) (by decide +kernel)) rfl
theorem w_ml_X7_191 : (Cond.methodLink RX7 191 yX5_copyFrom) ∈ wsG := wsT3 _ (List.mem_of_getElem? (i := 23) (by decide +kernel)) rfl
theorem w_ml_X7_194 : (Cond.methodLink RX7 194 yX5_tickUntilCycleEnds) ∈ wsG := wsT3 _ (List.mem_of_getElem? (i := 24) (by decide +kernel)) rfl
theorem w_im_yX5_tickUntilCycleEnds : (Cond.instanceMethod yX5_tickUntilCycleEnds) ∈ wsG := wsT3 _ (List.mem_of_getElem? (i := 25) (by decide +kernel)) rfl
theorem w_se_yX5_tickUntilCycleEnds : (Cond.selects RX5 yX5_tickUntilCycleEnds yX5_tickUntilCycleEnds) ∈ wsG := wsT3 _ (List.mem_of_getElem? (i := 26) (by decide +kernel)) rfl
theorem w_co_yX5_tickUntilCycleEnds : (Cond.code yX5_tickUntilCycleEnds cX5_tickUntilCycleEnds 3 (some FieldType.int)) ∈ wsG := wsT3 _ (List.mem_of_getElem? (i := 27) (by decide +kernel)) rfl
theorem w_ml_X5_187 : (Cond.methodLink RX5 187 yX5_tick) ∈ wsG := wsT3 _ (List.mem_of_getElem? (i := 28) (by decide +kernel)) rfl
theorem w_ml_L_92 : (Cond.methodLink RL 92 yX7_undo) ∈ wsG := wsT3 _ (List.mem_of_getElem? (i := 29) (by decide +kernel)) rfl
theorem w_im_yX7_undo : (Cond.instanceMethod yX7_undo) ∈ wsG := wsT3 _ (List.mem_of_getElem? (i := 30) (by decide +kernel)) rfl
theorem w_se_yX7_undo : (Cond.selects RX7 yX7_undo yX7_undo) ∈ wsG := wsT3 _ (List.mem_of_getElem? (i := 31) (by decide +kernel)) rfl
theorem w_co_yX7_undo : (Cond.code yX7_undo cX7_undo 1 (some FieldType.int)) ∈ wsG := wsT3 _ (List.mem_of_getElem? (i := 32) (by decide +kernel)) rfl
theorem w_ml_X7_239 : (Cond.methodLink RX7 239 yX4_restore) ∈ wsG := wsT3 _ (List.mem_of_getElem? (i := 34) (by decide +kernel)) rfl
theorem w_im_yX4_restore : (Cond.instanceMethod yX4_restore) ∈ wsG := wsT3 _ (List.mem_of_getElem? (i := 35) (by decide +kernel)) rfl
theorem w_se_yX4_restore : (Cond.selects RX4 yX4_restore yX4_restore) ∈ wsG := wsT3 _ (List.mem_of_getElem? (i := 36) (by decide +kernel)) rfl
theorem w_co_yX4_restore : (Cond.code yX4_restore cX4_restore 3 none) ∈ wsG := wsT3 _ (List.mem_of_getElem? (i := 37) (by decide +kernel)) rfl
theorem w_ml_L_72 : (Cond.methodLink RL 72 yL_cell) ∈ wsG := wsT3 _ (List.mem_of_getElem? (i := 38) (by decide +kernel)) rfl
theorem w_st_yL_cell : (Cond.static yL_cell) ∈ wsG := wsT3 _ (List.mem_of_getElem? (i := 39) (by decide +kernel)) rfl
theorem w_co_yL_cell : (Cond.code yL_cell cL_cell 2 (some FieldType.int)) ∈ wsG := wsT3 _ (List.mem_of_getElem? (i := 40) (by decide +kernel)) rfl
theorem w_ct_L_7 : (Cond.constant RL 7 (1116352408)) ∈ wsG := wsT3 _ (List.mem_of_getElem? (i := 41) (by decide +kernel)) rfl
theorem w_ml_L_9 : (Cond.methodLink RL 9 yL_up) ∈ wsG := wsT3 _ (List.mem_of_getElem? (i := 42) (by decide +kernel)) rfl
theorem w_st_yL_up : (Cond.static yL_up) ∈ wsG := wsT3 _ (List.mem_of_getElem? (i := 43) (by decide +kernel)) rfl
theorem w_co_yL_up : (Cond.code yL_up cL_up 2 (some FieldType.int)) ∈ wsG := wsT3 _ (List.mem_of_getElem? (i := 44) (by decide +kernel)) rfl
theorem w_ct_L_8 : (Cond.constant RL 8 (2147483647)) ∈ wsG := wsT3 _ (List.mem_of_getElem? (i := 45) (by decide +kernel)) rfl
theorem w_ml_L_76 : (Cond.methodLink RL 76 yL_isStep) ∈ wsG := wsT3 _ (List.mem_of_getElem? (i := 46) (by decide +kernel)) rfl
theorem w_st_yL_isStep : (Cond.static yL_isStep) ∈ wsG := wsT3 _ (List.mem_of_getElem? (i := 47) (by decide +kernel)) rfl
theorem w_co_yL_isStep : (Cond.code yL_isStep cL_isStep 7 (some FieldType.boolean)) ∈ wsG := wsT3 _ (List.mem_of_getElem? (i := 48) (by decide +kernel)) rfl
theorem w_ml_L_15 : (Cond.methodLink RL 15 yX7_setCam) ∈ wsG := wsT3 _ (List.mem_of_getElem? (i := 49) (by decide +kernel)) rfl
theorem w_im_yX7_setCam : (Cond.instanceMethod yX7_setCam) ∈ wsG := wsT3 _ (List.mem_of_getElem? (i := 50) (by decide +kernel)) rfl
theorem w_se_yX7_setCam : (Cond.selects RX7 yX7_setCam yX7_setCam) ∈ wsG := wsT3 _ (List.mem_of_getElem? (i := 51) (by decide +kernel)) rfl
theorem w_co_yX7_setCam : (Cond.code yX7_setCam cX7_setCam 4 (some FieldType.int)) ∈ wsG := wsT3 _ (List.mem_of_getElem? (i := 52) (by decide +kernel)) rfl
theorem w_ml_X7_36 : (Cond.methodLink RX7 36 yX7_requireCylinder) ∈ wsG := wsT3 _ (List.mem_of_getElem? (i := 53) (by decide +kernel)) rfl
theorem w_st_yX7_requireCylinder : (Cond.static yX7_requireCylinder) ∈ wsG := wsT3 _ (List.mem_of_getElem? (i := 54) (by decide +kernel)) rfl
theorem w_co_yX7_requireCylinder : (Cond.code yX7_requireCylinder cX7_requireCylinder 1 none) ∈ wsG := wsT3 _ (List.mem_of_getElem? (i := 55) (by decide +kernel)) rfl
theorem w_ml_X7_47 : (Cond.methodLink RX7 47 yX5_putCam) ∈ wsG := wsT3 _ (List.mem_of_getElem? (i := 57) (by decide +kernel)) rfl
theorem w_im_yX5_putCam : (Cond.instanceMethod yX5_putCam) ∈ wsG := wsT3 _ (List.mem_of_getElem? (i := 58) (by decide +kernel)) rfl
theorem w_se_yX5_putCam : (Cond.selects RX5 yX5_putCam yX5_putCam) ∈ wsG := wsT3 _ (List.mem_of_getElem? (i := 59) (by decide +kernel)) rfl
theorem w_co_yX5_putCam : (Cond.code yX5_putCam cX5_putCam 5 none) ∈ wsG := wsT3 _ (List.mem_of_getElem? (i := 60) (by decide +kernel)) rfl
theorem w_ml_X7_51 : (Cond.methodLink RX7 51 yX5_camsOf) ∈ wsG := wsT3 _ (List.mem_of_getElem? (i := 61) (by decide +kernel)) rfl
theorem w_im_yX5_camsOf : (Cond.instanceMethod yX5_camsOf) ∈ wsG := wsT3 _ (List.mem_of_getElem? (i := 62) (by decide +kernel)) rfl
theorem w_se_yX5_camsOf : (Cond.selects RX5 yX5_camsOf yX5_camsOf) ∈ wsG := wsT3 _ (List.mem_of_getElem? (i := 63) (by decide +kernel)) rfl
theorem w_co_yX5_camsOf : (Cond.code yX5_camsOf cX5_camsOf 2 (some FieldType.int)) ∈ wsG := wsT3 _ (List.mem_of_getElem? (i := 64) (by decide +kernel)) rfl
theorem w_ml_X5_85 : (Cond.methodLink RX5 85 yJ6_bitCount_0f7a4) ∈ wsG := wsT3 _ (List.mem_of_getElem? (i := 65) (by decide +kernel)) rfl
theorem w_st_yJ6_bitCount_0f7a4 : (Cond.static yJ6_bitCount_0f7a4) ∈ wsG := wsT3 _ (List.mem_of_getElem? (i := 66) (by decide +kernel)) rfl
theorem w_co_yJ6_bitCount_0f7a4 : (Cond.code yJ6_bitCount_0f7a4 cJ6_bitCount_0f7a4 1 (some FieldType.int)) ∈ wsG := wsT3 _ (List.mem_of_getElem? (i := 67) (by decide +kernel)) rfl
theorem w_ct_J6_265 : (Cond.constant RJ6 265 (1431655765)) ∈ wsG := wsT3 _ (List.mem_of_getElem? (i := 68) (by decide +kernel)) rfl
theorem w_ct_J6_266 : (Cond.constant RJ6 266 (858993459)) ∈ wsG := wsT3 _ (List.mem_of_getElem? (i := 69) (by decide +kernel)) rfl
theorem w_ct_J6_267 : (Cond.constant RJ6 267 (252645135)) ∈ wsG := wsT3 _ (List.mem_of_getElem? (i := 70) (by decide +kernel)) rfl
theorem w_ml_L_21 : (Cond.methodLink RL 21 yX7_setPawl) ∈ wsG := wsT3 _ (List.mem_of_getElem? (i := 71) (by decide +kernel)) rfl
theorem w_im_yX7_setPawl : (Cond.instanceMethod yX7_setPawl) ∈ wsG := wsT3 _ (List.mem_of_getElem? (i := 72) (by decide +kernel)) rfl
theorem w_se_yX7_setPawl : (Cond.selects RX7 yX7_setPawl yX7_setPawl) ∈ wsG := wsT3 _ (List.mem_of_getElem? (i := 73) (by decide +kernel)) rfl
theorem w_co_yX7_setPawl : (Cond.code yX7_setPawl cX7_setPawl 4 (some FieldType.int)) ∈ wsG := wsT3 _ (List.mem_of_getElem? (i := 74) (by decide +kernel)) rfl
theorem w_ml_L_24 : (Cond.methodLink RL 24 yX7_setCylinder) ∈ wsG := wsT3 _ (List.mem_of_getElem? (i := 76) (by decide +kernel)) rfl
theorem w_im_yX7_setCylinder : (Cond.instanceMethod yX7_setCylinder) ∈ wsG := wsT3 _ (List.mem_of_getElem? (i := 77) (by decide +kernel)) rfl
theorem w_se_yX7_setCylinder : (Cond.selects RX7 yX7_setCylinder yX7_setCylinder) ∈ wsG := wsT3 _ (List.mem_of_getElem? (i := 78) (by decide +kernel)) rfl
theorem w_co_yX7_setCylinder : (Cond.code yX7_setCylinder cX7_setCylinder 5 (some FieldType.int)) ∈ wsG := wsT3 _ (List.mem_of_getElem? (i := 79) (by decide +kernel)) rfl
theorem w_ml_L_28 : (Cond.methodLink RL 28 yX7_setAir) ∈ wsG := wsT3 _ (List.mem_of_getElem? (i := 81) (by decide +kernel)) rfl
theorem w_im_yX7_setAir : (Cond.instanceMethod yX7_setAir) ∈ wsG := wsT3 _ (List.mem_of_getElem? (i := 82) (by decide +kernel)) rfl
theorem w_se_yX7_setAir : (Cond.selects RX7 yX7_setAir yX7_setAir) ∈ wsG := wsT3 _ (List.mem_of_getElem? (i := 83) (by decide +kernel)) rfl
theorem w_co_yX7_setAir : (Cond.code yX7_setAir cX7_setAir 3 (some FieldType.int)) ∈ wsG := wsT3 _ (List.mem_of_getElem? (i := 84) (by decide +kernel)) rfl
theorem w_ml_X7_108 : (Cond.methodLink RX7 108 yX0_letOffSurplus) ∈ wsG := wsT3 _ (List.mem_of_getElem? (i := 86) (by decide +kernel)) rfl
theorem w_ml_L_35 : (Cond.methodLink RL 35 yX7_removeGuard) ∈ wsG := wsT3 _ (List.mem_of_getElem? (i := 87) (by decide +kernel)) rfl
theorem w_im_yX7_removeGuard : (Cond.instanceMethod yX7_removeGuard) ∈ wsG := wsT3 _ (List.mem_of_getElem? (i := 88) (by decide +kernel)) rfl
theorem w_se_yX7_removeGuard : (Cond.selects RX7 yX7_removeGuard yX7_removeGuard) ∈ wsG := wsT3 _ (List.mem_of_getElem? (i := 89) (by decide +kernel)) rfl
theorem w_co_yX7_removeGuard : (Cond.code yX7_removeGuard cX7_removeGuard 2 (some FieldType.int)) ∈ wsG := wsT3 _ (List.mem_of_getElem? (i := 90) (by decide +kernel)) rfl
theorem w_ml_X7_134 : (Cond.methodLink RX7 134 yX7_requireGuard) ∈ wsG := wsT3 _ (List.mem_of_getElem? (i := 91) (by decide +kernel)) rfl
theorem w_im_yX7_requireGuard : (Cond.instanceMethod yX7_requireGuard) ∈ wsG := wsT3 _ (List.mem_of_getElem? (i := 93) (by decide +kernel)) rfl
theorem w_co_yX7_requireGuard : (Cond.code yX7_requireGuard cX7_requireGuard 2 none) ∈ wsG := wsT3 _ (List.mem_of_getElem? (i := 94) (by decide +kernel)) rfl
theorem w_ml_X7_137 : (Cond.methodLink RX7 137 yX3_takeOut) ∈ wsG := wsT3 _ (List.mem_of_getElem? (i := 96) (by decide +kernel)) rfl
theorem w_im_yX3_takeOut : (Cond.instanceMethod yX3_takeOut) ∈ wsG := wsT3 _ (List.mem_of_getElem? (i := 97) (by decide +kernel)) rfl
theorem w_se_yX3_takeOut : (Cond.selects RX3 yX3_takeOut yX3_takeOut) ∈ wsG := wsT3 _ (List.mem_of_getElem? (i := 98) (by decide +kernel)) rfl
theorem w_co_yX3_takeOut : (Cond.code yX3_takeOut cX3_takeOut 3 none) ∈ wsG := wsT3 _ (List.mem_of_getElem? (i := 99) (by decide +kernel)) rfl
theorem w_ml_X3_33 : (Cond.methodLink RX3 33 Lib.Math.max.name) ∈ wsG := wsT3 _ (List.mem_of_getElem? (i := 100) (by decide +kernel)) rfl
theorem w_ml_L_38 : (Cond.methodLink RL 38 yX7_addGuard) ∈ wsG := wsT3 _ (List.mem_of_getElem? (i := 101) (by decide +kernel)) rfl
theorem w_im_yX7_addGuard : (Cond.instanceMethod yX7_addGuard) ∈ wsG := wsT3 _ (List.mem_of_getElem? (i := 102) (by decide +kernel)) rfl
theorem w_se_yX7_addGuard : (Cond.selects RX7 yX7_addGuard yX7_addGuard) ∈ wsG := wsT3 _ (List.mem_of_getElem? (i := 103) (by decide +kernel)) rfl
theorem w_co_yX7_addGuard : (Cond.code yX7_addGuard cX7_addGuard 4 (some FieldType.int)) ∈ wsG := wsT3 _ (List.mem_of_getElem? (i := 104) (by decide +kernel)) rfl
theorem w_ml_X7_130 : (Cond.methodLink RX7 130 yX3_putLast) ∈ wsG := wsT3 _ (List.mem_of_getElem? (i := 107) (by decide +kernel)) rfl
theorem w_im_yX3_putLast : (Cond.instanceMethod yX3_putLast) ∈ wsG := wsT3 _ (List.mem_of_getElem? (i := 108) (by decide +kernel)) rfl
theorem w_se_yX3_putLast : (Cond.selects RX3 yX3_putLast yX3_putLast) ∈ wsG := wsT3 _ (List.mem_of_getElem? (i := 109) (by decide +kernel)) rfl
theorem w_co_yX3_putLast : (Cond.code yX3_putLast cX3_putLast 4 (some FieldType.int)) ∈ wsG := wsT3 _ (List.mem_of_getElem? (i := 110) (by decide +kernel)) rfl
theorem w_ml_L_80 : (Cond.methodLink RL 80 yL_areAlike) ∈ wsG := wsT3 _ (List.mem_of_getElem? (i := 112) (by decide +kernel)) rfl
theorem w_st_yL_areAlike : (Cond.static yL_areAlike) ∈ wsG := wsT3 _ (List.mem_of_getElem? (i := 113) (by decide +kernel)) rfl
theorem w_co_yL_areAlike : (Cond.code yL_areAlike cL_areAlike 6 (some FieldType.boolean)) ∈ wsG := wsT3 _ (List.mem_of_getElem? (i := 114) (by decide +kernel)) rfl
theorem w_ml_L_48 : (Cond.methodLink RL 48 yX7_useful) ∈ wsG := wsT3 _ (List.mem_of_getElem? (i := 115) (by decide +kernel)) rfl
theorem w_im_yX7_useful : (Cond.instanceMethod yX7_useful) ∈ wsG := wsT3 _ (List.mem_of_getElem? (i := 116) (by decide +kernel)) rfl
theorem w_se_yX7_useful : (Cond.selects RX7 yX7_useful yX7_useful) ∈ wsG := wsT3 _ (List.mem_of_getElem? (i := 117) (by decide +kernel)) rfl
theorem w_co_yX7_useful : (Cond.code yX7_useful cX7_useful 1 (some FieldType.double)) ∈ wsG := wsT3 _ (List.mem_of_getElem? (i := 118) (by decide +kernel)) rfl
theorem w_ml_L_52 : (Cond.methodLink RL 52 yX7_cylinder) ∈ wsG := wsT3 _ (List.mem_of_getElem? (i := 119) (by decide +kernel)) rfl
theorem w_im_yX7_cylinder : (Cond.instanceMethod yX7_cylinder) ∈ wsG := wsT3 _ (List.mem_of_getElem? (i := 120) (by decide +kernel)) rfl
theorem w_se_yX7_cylinder : (Cond.selects RX7 yX7_cylinder yX7_cylinder) ∈ wsG := wsT3 _ (List.mem_of_getElem? (i := 121) (by decide +kernel)) rfl
theorem w_co_yX7_cylinder : (Cond.code yX7_cylinder cX7_cylinder 3 (some FieldType.int)) ∈ wsG := wsT3 _ (List.mem_of_getElem? (i := 122) (by decide +kernel)) rfl
theorem w_ml_X7_169 : (Cond.methodLink RX7 169 yX5_cylinderNumber) ∈ wsG := wsT3 _ (List.mem_of_getElem? (i := 123) (by decide +kernel)) rfl
theorem w_im_yX5_cylinderNumber : (Cond.instanceMethod yX5_cylinderNumber) ∈ wsG := wsT3 _ (List.mem_of_getElem? (i := 124) (by decide +kernel)) rfl
theorem w_se_yX5_cylinderNumber : (Cond.selects RX5 yX5_cylinderNumber yX5_cylinderNumber) ∈ wsG := wsT3 _ (List.mem_of_getElem? (i := 125) (by decide +kernel)) rfl
theorem w_co_yX5_cylinderNumber : (Cond.code yX5_cylinderNumber cX5_cylinderNumber 3 (some FieldType.int)) ∈ wsG := wsT3 _ (List.mem_of_getElem? (i := 126) (by decide +kernel)) rfl
theorem w_ml_X5_206 : (Cond.methodLink RX5 206 yX5_camsOf) ∈ wsG := wsT3 _ (List.mem_of_getElem? (i := 127) (by decide +kernel)) rfl
theorem w_ml_L_55 : (Cond.methodLink RL 55 yX7_ticksToOut) ∈ wsG := wsT3 _ (List.mem_of_getElem? (i := 128) (by decide +kernel)) rfl
theorem w_im_yX7_ticksToOut : (Cond.instanceMethod yX7_ticksToOut) ∈ wsG := wsT3 _ (List.mem_of_getElem? (i := 129) (by decide +kernel)) rfl
theorem w_se_yX7_ticksToOut : (Cond.selects RX7 yX7_ticksToOut yX7_ticksToOut) ∈ wsG := wsT3 _ (List.mem_of_getElem? (i := 130) (by decide +kernel)) rfl
theorem w_co_yX7_ticksToOut : (Cond.code yX7_ticksToOut cX7_ticksToOut 3 (some FieldType.int)) ∈ wsG := wsT3 _ (List.mem_of_getElem? (i := 131) (by decide +kernel)) rfl
theorem w_ml_L_58 : (Cond.methodLink RL 58 yX7_skips) ∈ wsG := wsT3 _ (List.mem_of_getElem? (i := 132) (by decide +kernel)) rfl
theorem w_im_yX7_skips : (Cond.instanceMethod yX7_skips) ∈ wsG := wsT3 _ (List.mem_of_getElem? (i := 133) (by decide +kernel)) rfl
theorem w_se_yX7_skips : (Cond.selects RX7 yX7_skips yX7_skips) ∈ wsG := wsT3 _ (List.mem_of_getElem? (i := 134) (by decide +kernel)) rfl
theorem w_co_yX7_skips : (Cond.code yX7_skips cX7_skips 2 (some FieldType.int)) ∈ wsG := wsT3 _ (List.mem_of_getElem? (i := 135) (by decide +kernel)) rfl
theorem w_ml_X7_188 : (Cond.methodLink RX7 188 yX1_skipsAt) ∈ wsG := wsT3 _ (List.mem_of_getElem? (i := 136) (by decide +kernel)) rfl
theorem w_im_yX1_skipsAt : (Cond.instanceMethod yX1_skipsAt) ∈ wsG := wsT3 _ (List.mem_of_getElem? (i := 137) (by decide +kernel)) rfl
theorem w_se_yX1_skipsAt : (Cond.selects RX1 yX1_skipsAt yX1_skipsAt) ∈ wsG := wsT3 _ (List.mem_of_getElem? (i := 138) (by decide +kernel)) rfl
theorem w_co_yX1_skipsAt : (Cond.code yX1_skipsAt cX1_skipsAt 2 (some FieldType.int)) ∈ wsG := wsT3 _ (List.mem_of_getElem? (i := 139) (by decide +kernel)) rfl
theorem w_ml_L_61 : (Cond.methodLink RL 61 yX7_chart) ∈ wsG := wsT3 _ (List.mem_of_getElem? (i := 140) (by decide +kernel)) rfl
theorem w_im_yX7_chart : (Cond.instanceMethod yX7_chart) ∈ wsG := wsT3 _ (List.mem_of_getElem? (i := 141) (by decide +kernel)) rfl
theorem w_se_yX7_chart : (Cond.selects RX7 yX7_chart yX7_chart) ∈ wsG := wsT3 _ (List.mem_of_getElem? (i := 142) (by decide +kernel)) rfl
theorem w_co_yX7_chart : (Cond.code yX7_chart cX7_chart 3 (some FieldType.int)) ∈ wsG := wsT3 _ (List.mem_of_getElem? (i := 143) (by decide +kernel)) rfl
theorem w_ml_X7_183 : (Cond.methodLink RX7 183 yX1_outAt) ∈ wsG := wsT3 _ (List.mem_of_getElem? (i := 144) (by decide +kernel)) rfl
theorem w_im_yX1_outAt : (Cond.instanceMethod yX1_outAt) ∈ wsG := wsT3 _ (List.mem_of_getElem? (i := 145) (by decide +kernel)) rfl
theorem w_se_yX1_outAt : (Cond.selects RX1 yX1_outAt yX1_outAt) ∈ wsG := wsT3 _ (List.mem_of_getElem? (i := 146) (by decide +kernel)) rfl
theorem w_co_yX1_outAt : (Cond.code yX1_outAt cX1_outAt 4 (some FieldType.int)) ∈ wsG := wsT3 _ (List.mem_of_getElem? (i := 147) (by decide +kernel)) rfl
theorem w_ml_L_64 : (Cond.methodLink RL 64 yX7_cam) ∈ wsG := wsT3 _ (List.mem_of_getElem? (i := 148) (by decide +kernel)) rfl
theorem w_im_yX7_cam : (Cond.instanceMethod yX7_cam) ∈ wsG := wsT3 _ (List.mem_of_getElem? (i := 149) (by decide +kernel)) rfl
theorem w_se_yX7_cam : (Cond.selects RX7 yX7_cam yX7_cam) ∈ wsG := wsT3 _ (List.mem_of_getElem? (i := 150) (by decide +kernel)) rfl
theorem w_co_yX7_cam : (Cond.code yX7_cam cX7_cam 3 (some FieldType.boolean)) ∈ wsG := wsT3 _ (List.mem_of_getElem? (i := 151) (by decide +kernel)) rfl
theorem w_ml_X7_161 : (Cond.methodLink RX7 161 yX5_hasCam) ∈ wsG := wsT3 _ (List.mem_of_getElem? (i := 152) (by decide +kernel)) rfl
theorem w_ml_L_68 : (Cond.methodLink RL 68 yX7_leastCompressor) ∈ wsG := wsT3 _ (List.mem_of_getElem? (i := 153) (by decide +kernel)) rfl
theorem w_im_yX7_leastCompressor : (Cond.instanceMethod yX7_leastCompressor) ∈ wsG := wsT3 _ (List.mem_of_getElem? (i := 154) (by decide +kernel)) rfl
theorem w_se_yX7_leastCompressor : (Cond.selects RX7 yX7_leastCompressor yX7_leastCompressor) ∈ wsG := wsT3 _ (List.mem_of_getElem? (i := 155) (by decide +kernel)) rfl
theorem w_co_yX7_leastCompressor : (Cond.code yX7_leastCompressor cX7_leastCompressor 3 (some FieldType.int)) ∈ wsG := wsT3 _ (List.mem_of_getElem? (i := 156) (by decide +kernel)) rfl
theorem w_ml_X7_197 : (Cond.methodLink RX7 197 yX7_goesWithoutSkip) ∈ wsG := wsT3 _ (List.mem_of_getElem? (i := 157) (by decide +kernel)) rfl
theorem w_im_yX7_goesWithoutSkip : (Cond.instanceMethod yX7_goesWithoutSkip) ∈ wsG := wsT3 _ (List.mem_of_getElem? (i := 159) (by decide +kernel)) rfl
theorem w_co_yX7_goesWithoutSkip : (Cond.code yX7_goesWithoutSkip cX7_goesWithoutSkip 4 (some FieldType.boolean)) ∈ wsG := wsT3 _ (List.mem_of_getElem? (i := 160) (by decide +kernel)) rfl
theorem w_ml_L_84 : (Cond.methodLink RL 84 yL_isSound) ∈ wsG := wsT3 _ (List.mem_of_getElem? (i := 161) (by decide +kernel)) rfl
theorem w_st_yL_isSound : (Cond.static yL_isSound) ∈ wsG := wsT3 _ (List.mem_of_getElem? (i := 162) (by decide +kernel)) rfl
theorem w_co_yL_isSound : (Cond.code yL_isSound cL_isSound 7 (some FieldType.boolean)) ∈ wsG := wsT3 _ (List.mem_of_getElem? (i := 163) (by decide +kernel)) rfl
theorem w_se_yX7_requireStep : (Cond.selects RX7 yX7_requireStep yX7_requireStep) ∈ wsG := wsT0 _ (List.mem_of_getElem? (i := 0) (by decide +kernel)) rfl
theorem w_se_yX4_newestPlace : (Cond.selects RX4 yX4_newestPlace yX4_newestPlace) ∈ wsG := wsT0 _ (List.mem_of_getElem? (i := 2) (by decide +kernel)) rfl
theorem w_se_yX5_moveDrum : (Cond.selects RX5 yX5_moveDrum yX5_moveDrum) ∈ wsG := wsT0 _ (List.mem_of_getElem? (i := 3) (by decide +kernel)) rfl
theorem w_se_yX5_moveOut : (Cond.selects RX5 yX5_moveOut yX5_moveOut) ∈ wsG := wsT0 _ (List.mem_of_getElem? (i := 4) (by decide +kernel)) rfl
theorem w_se_yX5_holds : (Cond.selects RX5 yX5_holds yX5_holds) ∈ wsG := wsT0 _ (List.mem_of_getElem? (i := 5) (by decide +kernel)) rfl
theorem w_se_yX5_moveIn : (Cond.selects RX5 yX5_moveIn yX5_moveIn) ∈ wsG := wsT0 _ (List.mem_of_getElem? (i := 6) (by decide +kernel)) rfl
theorem w_se_yX5_leakAt : (Cond.selects RX5 yX5_leakAt yX5_leakAt) ∈ wsG := wsT0 _ (List.mem_of_getElem? (i := 7) (by decide +kernel)) rfl
theorem w_se_yX7_requireGuard : (Cond.selects RX7 yX7_requireGuard yX7_requireGuard) ∈ wsG := wsT0 _ (List.mem_of_getElem? (i := 8) (by decide +kernel)) rfl
theorem w_se_yX7_goesWithoutSkip : (Cond.selects RX7 yX7_goesWithoutSkip yX7_goesWithoutSkip) ∈ wsG := wsT0 _ (List.mem_of_getElem? (i := 9) (by decide +kernel)) rfl
theorem wsI_X0 : ∀ w ∈ wsX00, w ∈ wsG := by
  show ∀ w ∈ [Cond.lays "CamDrum$Air" "CamDrum$Air" "tank" "I", Cond.lays "CamDrum$Air" "CamDrum$Air" "capacity" "I", Cond.lays "CamDrum$Air" "CamDrum$Air" "compressor" "I", Cond.lays "CamDrum$Air" "CamDrum$Air" "made" "I", Cond.lays "CamDrum$Air" "CamDrum$Air" "letOff" "I", Cond.lays "CamDrum$Air" "CamDrum$Air" "used" "I", Cond.lays "CamDrum$Air" "CamDrum$Air" "leaked" "I"], w ∈ wsG
  exact List.forall_mem_cons.mpr ⟨w_ly_X0_tank, List.forall_mem_cons.mpr ⟨w_ly_X0_capacity, List.forall_mem_cons.mpr ⟨w_ly_X0_compressor, List.forall_mem_cons.mpr ⟨w_ly_X0_made, List.forall_mem_cons.mpr ⟨w_ly_X0_letOff, List.forall_mem_cons.mpr ⟨w_ly_X0_used, List.forall_mem_cons.mpr ⟨w_ly_X0_leaked, fun _ h => absurd h List.not_mem_nil⟩⟩⟩⟩⟩⟩⟩
theorem wsI_X1 : ∀ w ∈ wsX10, w ∈ wsG := by
  show ∀ w ∈ [Cond.laysFinal "CamDrum$Chart" "CamDrum$Chart" "out" "[I", Cond.laysFinal "CamDrum$Chart" "CamDrum$Chart" "skipped" "[I"], w ∈ wsG
  exact List.forall_mem_cons.mpr ⟨w_ly_X1_out, List.forall_mem_cons.mpr ⟨w_ly_X1_skipped, fun _ h => absurd h List.not_mem_nil⟩⟩
theorem wsI_X2 : ∀ w ∈ wsX20, w ∈ wsG := by
  show ∀ w ∈ [Cond.laysFinal "CamDrum$Cylinders" "CamDrum$Cylinders" "out" "[I", Cond.laysFinal "CamDrum$Cylinders" "CamDrum$Cylinders" "size" "[I", Cond.laysFinal "CamDrum$Cylinders" "CamDrum$Cylinders" "speed" "[I", Cond.laysFinal "CamDrum$Cylinders" "CamDrum$Cylinders" "leak" "[I", Cond.laysFinal "CamDrum$Cylinders" "CamDrum$Cylinders" "used" "[I", Cond.laysFinal "CamDrum$Cylinders" "CamDrum$Cylinders" "leaked" "[I"], w ∈ wsG
  exact List.forall_mem_cons.mpr ⟨w_ly_X2_out, List.forall_mem_cons.mpr ⟨w_ly_X2_size, List.forall_mem_cons.mpr ⟨w_ly_X2_speed, List.forall_mem_cons.mpr ⟨w_ly_X2_leak, List.forall_mem_cons.mpr ⟨w_ly_X2_used, List.forall_mem_cons.mpr ⟨w_ly_X2_leaked, fun _ h => absurd h List.not_mem_nil⟩⟩⟩⟩⟩⟩
theorem wsI_X3 : ∀ w ∈ wsX30, w ∈ wsG := by
  show ∀ w ∈ [Cond.laysFinal "CamDrum$Guards" "CamDrum$Guards" "guarded" "[I", Cond.laysFinal "CamDrum$Guards" "CamDrum$Guards" "other" "[I", Cond.laysFinal "CamDrum$Guards" "CamDrum$Guards" "bound" "[I", Cond.lays "CamDrum$Guards" "CamDrum$Guards" "count" "I"], w ∈ wsG
  exact List.forall_mem_cons.mpr ⟨w_ly_X3_guarded, List.forall_mem_cons.mpr ⟨w_ly_X3_other, List.forall_mem_cons.mpr ⟨w_ly_X3_bound, List.forall_mem_cons.mpr ⟨w_ly_X3_count, fun _ h => absurd h List.not_mem_nil⟩⟩⟩⟩
theorem wsI_X4 : ∀ w ∈ wsX40, w ∈ wsG := by
  show ∀ w ∈ [Cond.laysFinal "CamDrum$History" "CamDrum$History" "kept" "[LCamDrum$Machine;", Cond.lays "CamDrum$History" "CamDrum$History" "newest" "I", Cond.lays "CamDrum$History" "CamDrum$History" "count" "I"], w ∈ wsG
  exact List.forall_mem_cons.mpr ⟨w_ly_X4_kept, List.forall_mem_cons.mpr ⟨w_ly_X4_newest, List.forall_mem_cons.mpr ⟨w_ly_X4_count, fun _ h => absurd h List.not_mem_nil⟩⟩⟩
theorem wsI_X5 : ∀ w ∈ wsX50, w ∈ wsG := by
  show ∀ w ∈ [Cond.lays "CamDrum$Machine" "CamDrum$Machine" "steps" "I", Cond.lays "CamDrum$Machine" "CamDrum$Machine" "step" "I", Cond.lays "CamDrum$Machine" "CamDrum$Machine" "stand" "I", Cond.lays "CamDrum$Machine" "CamDrum$Machine" "dwell" "I", Cond.lays "CamDrum$Machine" "CamDrum$Machine" "least" "I", Cond.lays "CamDrum$Machine" "CamDrum$Machine" "ticks" "I", Cond.lays "CamDrum$Machine" "CamDrum$Machine" "cycles" "I", Cond.lays "CamDrum$Machine" "CamDrum$Machine" "skipped" "I", Cond.laysFinal "CamDrum$Machine" "CamDrum$Machine" "tracks" "[I", Cond.laysFinal "CamDrum$Machine" "CamDrum$Machine" "air" "LCamDrum$Air;", Cond.laysFinal "CamDrum$Machine" "CamDrum$Machine" "cylinders" "LCamDrum$Cylinders;", Cond.laysFinal "CamDrum$Machine" "CamDrum$Machine" "guards" "LCamDrum$Guards;", Cond.laysFinal "CamDrum$Machine" "CamDrum$Machine" "chart" "LCamDrum$Chart;"], w ∈ wsG
  exact List.forall_mem_cons.mpr ⟨w_ly_X5_steps, List.forall_mem_cons.mpr ⟨w_ly_X5_step, List.forall_mem_cons.mpr ⟨w_ly_X5_stand, List.forall_mem_cons.mpr ⟨w_ly_X5_dwell, List.forall_mem_cons.mpr ⟨w_ly_X5_least, List.forall_mem_cons.mpr ⟨w_ly_X5_ticks, List.forall_mem_cons.mpr ⟨w_ly_X5_cycles, List.forall_mem_cons.mpr ⟨w_ly_X5_skipped, List.forall_mem_cons.mpr ⟨w_ly_X5_tracks, List.forall_mem_cons.mpr ⟨w_ly_X5_air, List.forall_mem_cons.mpr ⟨w_ly_X5_cylinders, List.forall_mem_cons.mpr ⟨w_ly_X5_guards, List.forall_mem_cons.mpr ⟨w_ly_X5_chart, fun _ h => absurd h List.not_mem_nil⟩⟩⟩⟩⟩⟩⟩⟩⟩⟩⟩⟩⟩
theorem wsI_X6 : ∀ w ∈ wsX60, w ∈ wsG := by
  show ∀ w ∈ [Cond.laysFinal "CamDrum$TrackText" "CamDrum$TrackText" "bytes" "[I", Cond.lays "CamDrum$TrackText" "CamDrum$TrackText" "length" "I", Cond.laysFinal "CamDrum$TrackText" "CamDrum$TrackText" "tracks" "[I", Cond.lays "CamDrum$TrackText" "CamDrum$TrackText" "steps" "I", Cond.lays "CamDrum$TrackText" "CamDrum$TrackText" "fault" "I", Cond.lays "CamDrum$TrackText" "CamDrum$TrackText" "at" "I"], w ∈ wsG
  exact List.forall_mem_cons.mpr ⟨w_ly_X6_bytes, List.forall_mem_cons.mpr ⟨w_ly_X6_length, List.forall_mem_cons.mpr ⟨w_ly_X6_tracks, List.forall_mem_cons.mpr ⟨w_ly_X6_steps, List.forall_mem_cons.mpr ⟨w_ly_X6_fault, List.forall_mem_cons.mpr ⟨w_ly_X6_at, fun _ h => absurd h List.not_mem_nil⟩⟩⟩⟩⟩⟩
theorem wsI_X7 : ∀ w ∈ wsX70, w ∈ wsG := by
  show ∀ w ∈ [Cond.laysFinal "CamDrum" "CamDrum" "now" "LCamDrum$Machine;", Cond.laysFinal "CamDrum" "CamDrum" "history" "LCamDrum$History;", Cond.laysFinal "CamDrum" "CamDrum" "text" "LCamDrum$TrackText;", Cond.laysFinal "CamDrum" "CamDrum" "trial" "LCamDrum$Machine;", Cond.laysFinal "CamDrum" "CamDrum" "earlier" "LCamDrum$Machine;"], w ∈ wsG
  exact List.forall_mem_cons.mpr ⟨w_ly_X7_now, List.forall_mem_cons.mpr ⟨w_ly_X7_history, List.forall_mem_cons.mpr ⟨w_ly_X7_text, List.forall_mem_cons.mpr ⟨w_ly_X7_trial, List.forall_mem_cons.mpr ⟨w_ly_X7_earlier, fun _ h => absurd h List.not_mem_nil⟩⟩⟩⟩⟩
