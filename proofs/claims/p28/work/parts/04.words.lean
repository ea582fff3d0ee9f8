def rg_T : List Cond := lw_tbl.filter goodWord
theorem rg_m0 {w : Cond} (h : w ∈ k2_sels lw_privs) (g : goodWord w = true) : w ∈ rg_T := List.mem_filter.mpr ⟨List.mem_append_left _ h, g⟩
theorem rg_mt {w : Cond} (h : w ∈ tables_1) (g : goodWord w = true) : w ∈ rg_T := List.mem_filter.mpr ⟨List.mem_append_right _ h, g⟩
theorem rg_m1 {w : Cond} (h : w ∈ tables_1_1) (g : goodWord w = true) : w ∈ rg_T := rg_mt (List.mem_append_left _ h) g
theorem rg_m2 {w : Cond} (h : w ∈ tables_1_2) (g : goodWord w = true) : w ∈ rg_T := rg_mt (List.mem_append_right _ (List.mem_append_left _ h)) g
theorem rg_m3 {w : Cond} (h : w ∈ tables_1_3) (g : goodWord w = true) : w ∈ rg_T := rg_mt (List.mem_append_right _ (List.mem_append_right _ (List.mem_append_left _ h))) g
theorem rg_m4 {w : Cond} (h : w ∈ tables_1_4) (g : goodWord w = true) : w ∈ rg_T := rg_mt (List.mem_append_right _ (List.mem_append_right _ (List.mem_append_right _ (h)))) g
theorem tw_n_L : (Cond.initialized "RengaHallLaw") ∈ rg_T := rg_m1 (List.mem_of_getElem? (i := 0) rfl) rfl
theorem tw_n_X6 : (Cond.initialized "RengaHall") ∈ rg_T := rg_m1 (List.mem_of_getElem? (i := 1) rfl) rfl
theorem tw_n_X4 : (Cond.initialized "RengaHall$Stock") ∈ rg_T := rg_m1 (List.mem_of_getElem? (i := 2) rfl) rfl
theorem tw_n_X1 : (Cond.initialized "RengaHall$Poem") ∈ rg_T := rg_m1 (List.mem_of_getElem? (i := 3) rfl) rfl
theorem tw_n_X5 : (Cond.initialized "RengaHall$Verse") ∈ rg_T := rg_m1 (List.mem_of_getElem? (i := 4) rfl) rfl
theorem tw_n_X2 : (Cond.initialized "RengaHall$Scribe") ∈ rg_T := rg_m1 (List.mem_of_getElem? (i := 5) rfl) rfl
theorem tw_n_X0 : (Cond.initialized "RengaHall$Means") ∈ rg_T := rg_m1 (List.mem_of_getElem? (i := 6) rfl) rfl
theorem tw_n_X3 : (Cond.initialized "RengaHall$Sheet") ∈ rg_T := rg_m1 (List.mem_of_getElem? (i := 7) rfl) rfl
theorem tw_n_Throwable : (Cond.initialized "java/lang/Throwable") ∈ rg_T := rg_m1 (List.mem_of_getElem? (i := 8) rfl) rfl
theorem tw_n_Exception : (Cond.initialized "java/lang/Exception") ∈ rg_T := rg_m1 (List.mem_of_getElem? (i := 9) rfl) rfl
theorem tw_n_RuntimeException : (Cond.initialized "java/lang/RuntimeException") ∈ rg_T := rg_m1 (List.mem_of_getElem? (i := 10) rfl) rfl
theorem tw_n_IllegalArgumentException : (Cond.initialized "java/lang/IllegalArgumentException") ∈ rg_T := rg_m1 (List.mem_of_getElem? (i := 11) rfl) rfl
theorem tw_n_IllegalStateException : (Cond.initialized "java/lang/IllegalStateException") ∈ rg_T := rg_m1 (List.mem_of_getElem? (i := 12) rfl) rfl
theorem tw_n_IndexOutOfBoundsException : (Cond.initialized "java/lang/IndexOutOfBoundsException") ∈ rg_T := rg_m1 (List.mem_of_getElem? (i := 13) rfl) rfl
theorem tw_n_J13 : (Cond.initialized "java/lang/Long") ∈ rg_T := rg_m1 (List.mem_of_getElem? (i := 14) rfl) rfl
theorem tw_n_J6 : (Cond.initialized "java/lang/Integer") ∈ rg_T := rg_m1 (List.mem_of_getElem? (i := 15) rfl) rfl
theorem tw_m_L_188 : (Cond.methodLink "RengaHallLaw" 188 yL_isHeld) ∈ rg_T := rg_m1 (List.mem_of_getElem? (i := 16) rfl) rfl
theorem tw_s_L_isHeld : (Cond.static yL_isHeld) ∈ rg_T := rg_m1 (List.mem_of_getElem? (i := 17) rfl) rfl
theorem tw_c_L_isHeld : (Cond.codeWith yL_isHeld cL_isHeld 2 (some FieldType.boolean) [(0, 4, 5, 182), (0, 4, 8, 184), (0, 4, 11, 186)]) ∈ rg_T := rg_m1 (List.mem_of_getElem? (i := 18) rfl) rfl
theorem tw_k_L_182 : (Cond.classLink "RengaHallLaw" 182 "java/lang/IndexOutOfBoundsException") ∈ rg_T := rg_m1 (List.mem_of_getElem? (i := 19) rfl) rfl
theorem tw_k_L_184 : (Cond.classLink "RengaHallLaw" 184 "java/lang/IllegalArgumentException") ∈ rg_T := rg_m1 (List.mem_of_getElem? (i := 20) rfl) rfl
theorem tw_k_L_186 : (Cond.classLink "RengaHallLaw" 186 "java/lang/IllegalStateException") ∈ rg_T := rg_m1 (List.mem_of_getElem? (i := 21) rfl) rfl
theorem tw_m_L_178 : (Cond.methodLink "RengaHallLaw" 178 yL_holds) ∈ rg_T := rg_m1 (List.mem_of_getElem? (i := 22) rfl) rfl
theorem tw_s_L_holds : (Cond.static yL_holds) ∈ rg_T := rg_m1 (List.mem_of_getElem? (i := 23) rfl) rfl
theorem tw_c_L_holds : (Cond.code yL_holds cL_holds 18 (some FieldType.boolean)) ∈ rg_T := rg_m1 (List.mem_of_getElem? (i := 24) rfl) rfl
theorem tw_k_L_55 : (Cond.classLink "RengaHallLaw" 55 "RengaHall") ∈ rg_T := rg_m1 (List.mem_of_getElem? (i := 25) rfl) rfl
theorem tw_o_X6 : (Cond.instantiable "RengaHall" 13) ∈ rg_T := rg_m1 (List.mem_of_getElem? (i := 26) rfl) rfl
theorem tw_m_L_143 : (Cond.methodLink "RengaHallLaw" 143 yX6_init) ∈ rg_T := rg_m1 (List.mem_of_getElem? (i := 27) rfl) rfl
theorem tw_i_X6_init : (Cond.instanceMethod yX6_init) ∈ rg_T := rg_m1 (List.mem_of_getElem? (i := 28) rfl) rfl
theorem tw_c_X6_init : (Cond.code yX6_init cX6_init 4 none) ∈ rg_T := rg_m1 (List.mem_of_getElem? (i := 29) rfl) rfl
theorem tw_m_X6_1 : (Cond.methodLink "RengaHall" 1 ⟨"java/lang/Object", "<init>", "()V"⟩) ∈ rg_T := rg_m1 (List.mem_of_getElem? (i := 30) rfl) rfl
theorem tw_i_objInit : (Cond.instanceMethod ⟨"java/lang/Object", "<init>", "()V"⟩) ∈ rg_T := rg_m1 (List.mem_of_getElem? (i := 31) rfl) rfl
theorem tw_c_objInit : (Cond.code ⟨"java/lang/Object", "<init>", "()V"⟩ object_method_1_code 1 none) ∈ rg_T := rg_m1 (List.mem_of_getElem? (i := 32) rfl) rfl
theorem tw_k_X6_7 : (Cond.classLink "RengaHall" 7 "RengaHall$Stock") ∈ rg_T := rg_m1 (List.mem_of_getElem? (i := 33) rfl) rfl
theorem tw_o_X4 : (Cond.instantiable "RengaHall$Stock" 5) ∈ rg_T := rg_m1 (List.mem_of_getElem? (i := 34) rfl) rfl
theorem tw_i_X4_init : (Cond.instanceMethod yX4_init) ∈ rg_T := rg_m1 (List.mem_of_getElem? (i := 36) rfl) rfl
theorem tw_c_X4_init : (Cond.code yX4_init cX4_init 1 none) ∈ rg_T := rg_m1 (List.mem_of_getElem? (i := 37) rfl) rfl
theorem tw_m_X4_3 : (Cond.methodLink "RengaHall$Stock" 3 ⟨"java/lang/Object", "<init>", "()V"⟩) ∈ rg_T := rg_m1 (List.mem_of_getElem? (i := 38) rfl) rfl
theorem tw_f_X4_9 : (Cond.fieldLink "RengaHall$Stock" 9 "RengaHall$Stock" "sounds" "[I") ∈ rg_T := rg_m1 (List.mem_of_getElem? (i := 39) rfl) rfl
theorem tw_f_X4_15 : (Cond.fieldLink "RengaHall$Stock" 15 "RengaHall$Stock" "seasons" "[I") ∈ rg_T := rg_m1 (List.mem_of_getElem? (i := 40) rfl) rfl
theorem tw_f_X4_18 : (Cond.fieldLink "RengaHall$Stock" 18 "RengaHall$Stock" "signs" "[I") ∈ rg_T := rg_m1 (List.mem_of_getElem? (i := 41) rfl) rfl
theorem tw_f_X4_21 : (Cond.fieldLink "RengaHall$Stock" 21 "RengaHall$Stock" "called" "[J") ∈ rg_T := rg_m1 (List.mem_of_getElem? (i := 42) rfl) rfl
theorem tw_f_X4_25 : (Cond.fieldLink "RengaHall$Stock" 25 "RengaHall$Stock" "count" "I") ∈ rg_T := rg_m1 (List.mem_of_getElem? (i := 43) rfl) rfl
theorem tw_a_int : (Cond.arrayClass FieldType.int) ∈ rg_T := rg_m1 (List.mem_of_getElem? (i := 56) rfl) rfl
theorem tw_a_long : (Cond.arrayClass FieldType.long) ∈ rg_T := rg_m1 (List.mem_of_getElem? (i := 57) rfl) rfl
theorem tw_k_X6_10 : (Cond.classLink "RengaHall" 10 "RengaHall$Poem") ∈ rg_T := rg_m1 (List.mem_of_getElem? (i := 58) rfl) rfl
theorem tw_o_X1 : (Cond.instantiable "RengaHall$Poem" 11) ∈ rg_T := rg_m1 (List.mem_of_getElem? (i := 59) rfl) rfl
theorem tw_m_X6_12 : (Cond.methodLink "RengaHall" 12 yX1_init) ∈ rg_T := rg_m1 (List.mem_of_getElem? (i := 60) rfl) rfl
theorem tw_i_X1_init : (Cond.instanceMethod yX1_init) ∈ rg_T := rg_m1 (List.mem_of_getElem? (i := 61) rfl) rfl
theorem tw_c_X1_init : (Cond.code yX1_init cX1_init 2 none) ∈ rg_T := rg_m1 (List.mem_of_getElem? (i := 62) rfl) rfl
theorem tw_m_X1_3 : (Cond.methodLink "RengaHall$Poem" 3 ⟨"java/lang/Object", "<init>", "()V"⟩) ∈ rg_T := rg_m1 (List.mem_of_getElem? (i := 63) rfl) rfl
theorem tw_k_X1_15 : (Cond.classLink "RengaHall$Poem" 15 "RengaHall$Verse") ∈ rg_T := rg_m1 (List.mem_of_getElem? (i := 64) rfl) rfl
theorem tw_k_X1_31 : (Cond.classLink "RengaHall$Poem" 31 "[[I") ∈ rg_T := rg_m1 (List.mem_of_getElem? (i := 66) rfl) rfl
theorem tw_o_X5 : (Cond.instantiable "RengaHall$Verse" 6) ∈ rg_T := rg_m1 (List.mem_of_getElem? (i := 68) rfl) rfl
theorem tw_i_X5_init : (Cond.instanceMethod yX5_init) ∈ rg_T := rg_m1 (List.mem_of_getElem? (i := 70) rfl) rfl
theorem tw_c_X5_init : (Cond.code yX5_init cX5_init 1 none) ∈ rg_T := rg_m1 (List.mem_of_getElem? (i := 71) rfl) rfl
theorem tw_m_X5_3 : (Cond.methodLink "RengaHall$Verse" 3 ⟨"java/lang/Object", "<init>", "()V"⟩) ∈ rg_T := rg_m1 (List.mem_of_getElem? (i := 72) rfl) rfl
theorem tw_f_X5_9 : (Cond.fieldLink "RengaHall$Verse" 9 "RengaHall$Verse" "words" "[I") ∈ rg_T := rg_m1 (List.mem_of_getElem? (i := 73) rfl) rfl
theorem tw_f_X5_19 : (Cond.fieldLink "RengaHall$Verse" 19 "RengaHall$Verse" "size" "I") ∈ rg_T := rg_m1 (List.mem_of_getElem? (i := 74) rfl) rfl
theorem tw_f_X5_22 : (Cond.fieldLink "RengaHall$Verse" 22 "RengaHall$Verse" "sounds" "I") ∈ rg_T := rg_m1 (List.mem_of_getElem? (i := 77) rfl) rfl
theorem tw_f_X5_15 : (Cond.fieldLink "RengaHall$Verse" 15 "RengaHall$Verse" "season" "I") ∈ rg_T := rg_m1 (List.mem_of_getElem? (i := 79) rfl) rfl
theorem tw_f_X5_25 : (Cond.fieldLink "RengaHall$Verse" 25 "RengaHall$Verse" "signs" "I") ∈ rg_T := rg_m1 (List.mem_of_getElem? (i := 82) rfl) rfl
theorem tw_f_X5_28 : (Cond.fieldLink "RengaHall$Verse" 28 "RengaHall$Verse" "wordSet" "J") ∈ rg_T := rg_m1 (List.mem_of_getElem? (i := 85) rfl) rfl
theorem tw_a_boolean : (Cond.arrayClass FieldType.boolean) ∈ rg_T := rg_m1 (List.mem_of_getElem? (i := 100) rfl) rfl
theorem tw_f_X1_37 : (Cond.fieldLink "RengaHall$Poem" 37 "RengaHall$Poem" "length" "I") ∈ rg_T := rg_m1 (List.mem_of_getElem? (i := 101) rfl) rfl
theorem tw_f_X1_44 : (Cond.fieldLink "RengaHall$Poem" 44 "RengaHall$Poem" "span" "I") ∈ rg_T := rg_m1 (List.mem_of_getElem? (i := 103) rfl) rfl
theorem tw_f_X1_47 : (Cond.fieldLink "RengaHall$Poem" 47 "RengaHall$Poem" "evenSounds" "I") ∈ rg_T := rg_m1 (List.mem_of_getElem? (i := 105) rfl) rfl
theorem tw_f_X1_50 : (Cond.fieldLink "RengaHall$Poem" 50 "RengaHall$Poem" "oddSounds" "I") ∈ rg_T := rg_m1 (List.mem_of_getElem? (i := 106) rfl) rfl
theorem tw_f_X1_41 : (Cond.fieldLink "RengaHall$Poem" 41 "RengaHall$Poem" "made" "I") ∈ rg_T := rg_m1 (List.mem_of_getElem? (i := 107) rfl) rfl
theorem tw_f_X1_9 : (Cond.fieldLink "RengaHall$Poem" 9 "RengaHall$Poem" "seats" "[I") ∈ rg_T := rg_m1 (List.mem_of_getElem? (i := 109) rfl) rfl
theorem tw_f_X1_17 : (Cond.fieldLink "RengaHall$Poem" 17 "RengaHall$Poem" "verses" "[LRengaHall$Verse;") ∈ rg_T := rg_m1 (List.mem_of_getElem? (i := 110) rfl) rfl
theorem tw_f_X1_21 : (Cond.fieldLink "RengaHall$Poem" 21 "RengaHall$Poem" "makers" "[I") ∈ rg_T := rg_m1 (List.mem_of_getElem? (i := 112) rfl) rfl
theorem tw_f_X1_24 : (Cond.fieldLink "RengaHall$Poem" 24 "RengaHall$Poem" "hidden" "[Z") ∈ rg_T := rg_m1 (List.mem_of_getElem? (i := 113) rfl) rfl
theorem tw_f_X1_28 : (Cond.fieldLink "RengaHall$Poem" 28 "RengaHall$Poem" "mended" "[Z") ∈ rg_T := rg_m1 (List.mem_of_getElem? (i := 115) rfl) rfl
theorem tw_f_X1_33 : (Cond.fieldLink "RengaHall$Poem" 33 "RengaHall$Poem" "points" "[[I") ∈ rg_T := rg_m1 (List.mem_of_getElem? (i := 117) rfl) rfl
theorem tw_k_X6_23 : (Cond.classLink "RengaHall" 23 "RengaHall$Scribe") ∈ rg_T := rg_m1 (List.mem_of_getElem? (i := 142) rfl) rfl
theorem tw_o_X2 : (Cond.instantiable "RengaHall$Scribe" 2) ∈ rg_T := rg_m1 (List.mem_of_getElem? (i := 143) rfl) rfl
theorem tw_m_X6_25 : (Cond.methodLink "RengaHall" 25 yX2_init) ∈ rg_T := rg_m1 (List.mem_of_getElem? (i := 144) rfl) rfl
theorem tw_i_X2_init : (Cond.instanceMethod yX2_init) ∈ rg_T := rg_m1 (List.mem_of_getElem? (i := 145) rfl) rfl
theorem tw_c_X2_init : (Cond.code yX2_init cX2_init 3 none) ∈ rg_T := rg_m1 (List.mem_of_getElem? (i := 146) rfl) rfl
theorem tw_m_X2_3 : (Cond.methodLink "RengaHall$Scribe" 3 ⟨"java/lang/Object", "<init>", "()V"⟩) ∈ rg_T := rg_m1 (List.mem_of_getElem? (i := 147) rfl) rfl
theorem tw_f_X2_9 : (Cond.fieldLink "RengaHall$Scribe" 9 "RengaHall$Scribe" "stock" "LRengaHall$Stock;") ∈ rg_T := rg_m1 (List.mem_of_getElem? (i := 148) rfl) rfl
theorem tw_f_X2_15 : (Cond.fieldLink "RengaHall$Scribe" 15 "RengaHall$Scribe" "poem" "LRengaHall$Poem;") ∈ rg_T := rg_m1 (List.mem_of_getElem? (i := 149) rfl) rfl
theorem tw_k_X6_32 : (Cond.classLink "RengaHall" 32 "RengaHall$Verse") ∈ rg_T := rg_m1 (List.mem_of_getElem? (i := 155) rfl) rfl
theorem tw_k_X6_42 : (Cond.classLink "RengaHall" 42 "RengaHall$Means") ∈ rg_T := rg_m1 (List.mem_of_getElem? (i := 157) rfl) rfl
theorem tw_o_X0 : (Cond.instantiable "RengaHall$Means" 2) ∈ rg_T := rg_m1 (List.mem_of_getElem? (i := 158) rfl) rfl
theorem tw_i_X0_init : (Cond.instanceMethod yX0_init) ∈ rg_T := rg_m1 (List.mem_of_getElem? (i := 160) rfl) rfl
theorem tw_c_X0_init : (Cond.code yX0_init cX0_init 1 none) ∈ rg_T := rg_m1 (List.mem_of_getElem? (i := 161) rfl) rfl
theorem tw_m_X0_3 : (Cond.methodLink "RengaHall$Means" 3 ⟨"java/lang/Object", "<init>", "()V"⟩) ∈ rg_T := rg_m1 (List.mem_of_getElem? (i := 162) rfl) rfl
theorem tw_f_X0_9 : (Cond.fieldLink "RengaHall$Means" 9 "RengaHall$Means" "sums" "[I") ∈ rg_T := rg_m1 (List.mem_of_getElem? (i := 163) rfl) rfl
theorem tw_f_X0_15 : (Cond.fieldLink "RengaHall$Means" 15 "RengaHall$Means" "counts" "[I") ∈ rg_T := rg_m1 (List.mem_of_getElem? (i := 164) rfl) rfl
theorem tw_k_X6_57 : (Cond.classLink "RengaHall" 57 "RengaHall$Sheet") ∈ rg_T := rg_m1 (List.mem_of_getElem? (i := 170) rfl) rfl
theorem tw_o_X3 : (Cond.instantiable "RengaHall$Sheet" 1) ∈ rg_T := rg_m1 (List.mem_of_getElem? (i := 172) rfl) rfl
theorem tw_i_X3_init : (Cond.instanceMethod yX3_init) ∈ rg_T := rg_m1 (List.mem_of_getElem? (i := 174) rfl) rfl
theorem tw_c_X3_init : (Cond.code yX3_init cX3_init 1 none) ∈ rg_T := rg_m1 (List.mem_of_getElem? (i := 175) rfl) rfl
theorem tw_m_X3_3 : (Cond.methodLink "RengaHall$Sheet" 3 ⟨"java/lang/Object", "<init>", "()V"⟩) ∈ rg_T := rg_m1 (List.mem_of_getElem? (i := 176) rfl) rfl
theorem tw_k_X3_9 : (Cond.classLink "RengaHall$Sheet" 9 "[[I") ∈ rg_T := rg_m1 (List.mem_of_getElem? (i := 177) rfl) rfl
theorem tw_f_X3_11 : (Cond.fieldLink "RengaHall$Sheet" 11 "RengaHall$Sheet" "words" "[[I") ∈ rg_T := rg_m1 (List.mem_of_getElem? (i := 178) rfl) rfl
theorem tw_f_X6_13 : (Cond.fieldLink "RengaHall" 13 "RengaHall" "stock" "LRengaHall$Stock;") ∈ rg_T := rg_m1 (List.mem_of_getElem? (i := 182) rfl) rfl
theorem tw_f_X6_19 : (Cond.fieldLink "RengaHall" 19 "RengaHall" "poem" "LRengaHall$Poem;") ∈ rg_T := rg_m1 (List.mem_of_getElem? (i := 183) rfl) rfl
theorem tw_f_X6_28 : (Cond.fieldLink "RengaHall" 28 "RengaHall" "scribe" "LRengaHall$Scribe;") ∈ rg_T := rg_m1 (List.mem_of_getElem? (i := 184) rfl) rfl
theorem tw_f_X6_35 : (Cond.fieldLink "RengaHall" 35 "RengaHall" "draft" "LRengaHall$Verse;") ∈ rg_T := rg_m1 (List.mem_of_getElem? (i := 185) rfl) rfl
theorem tw_f_X6_53 : (Cond.fieldLink "RengaHall" 53 "RengaHall" "offered" "[LRengaHall$Verse;") ∈ rg_T := rg_m1 (List.mem_of_getElem? (i := 186) rfl) rfl
theorem tw_f_X6_49 : (Cond.fieldLink "RengaHall" 49 "RengaHall" "offerers" "[I") ∈ rg_T := rg_m1 (List.mem_of_getElem? (i := 187) rfl) rfl
theorem tw_f_X6_59 : (Cond.fieldLink "RengaHall" 59 "RengaHall" "sheets" "[LRengaHall$Sheet;") ∈ rg_T := rg_m1 (List.mem_of_getElem? (i := 188) rfl) rfl
theorem tw_f_X6_39 : (Cond.fieldLink "RengaHall" 39 "RengaHall" "trial" "LRengaHall$Verse;") ∈ rg_T := rg_m1 (List.mem_of_getElem? (i := 189) rfl) rfl
theorem tw_f_X6_45 : (Cond.fieldLink "RengaHall" 45 "RengaHall" "means" "LRengaHall$Means;") ∈ rg_T := rg_m1 (List.mem_of_getElem? (i := 190) rfl) rfl
theorem tw_f_X6_100 : (Cond.fieldLink "RengaHall" 100 "RengaHall" "poetCount" "I") ∈ rg_T := rg_m1 (List.mem_of_getElem? (i := 191) rfl) rfl
theorem tw_f_X6_117 : (Cond.fieldLink "RengaHall" 117 "RengaHall" "offerCount" "I") ∈ rg_T := rg_m1 (List.mem_of_getElem? (i := 192) rfl) rfl
theorem tw_f_X6_120 : (Cond.fieldLink "RengaHall" 120 "RengaHall" "copyCount" "I") ∈ rg_T := rg_m1 (List.mem_of_getElem? (i := 193) rfl) rfl
theorem tw_f_X6_64 : (Cond.fieldLink "RengaHall" 64 "RengaHall" "latestCause" "I") ∈ rg_T := rg_m1 (List.mem_of_getElem? (i := 194) rfl) rfl
theorem tw_q_L_144 : (Cond.constant "RengaHallLaw" 144 (1000000000 : Int32)) ∈ rg_T := rg_m1 (List.mem_of_getElem? (i := 222) rfl) rfl
theorem tw_m_L_145 : (Cond.methodLink "RengaHallLaw" 145 yL_from) ∈ rg_T := rg_m1 (List.mem_of_getElem? (i := 223) rfl) rfl
theorem tw_s_L_from : (Cond.static yL_from) ∈ rg_T := rg_m1 (List.mem_of_getElem? (i := 224) rfl) rfl
theorem tw_c_L_from : (Cond.code yL_from cL_from 4 (some FieldType.int)) ∈ rg_T := rg_m1 (List.mem_of_getElem? (i := 225) rfl) rfl
theorem tw_q_L_7 : (Cond.constant "RengaHallLaw" 7 (622577 : Int32)) ∈ rg_T := rg_m1 (List.mem_of_getElem? (i := 226) rfl) rfl
theorem tw_q_L_8 : (Cond.constant "RengaHallLaw" 8 (2147483647 : Int32)) ∈ rg_T := rg_m1 (List.mem_of_getElem? (i := 227) rfl) rfl
theorem tw_m_L_149 : (Cond.methodLink "RengaHallLaw" 149 yX6_word) ∈ rg_T := rg_m1 (List.mem_of_getElem? (i := 228) rfl) rfl
theorem tw_i_X6_word : (Cond.instanceMethod yX6_word) ∈ rg_T := rg_m1 (List.mem_of_getElem? (i := 229) rfl) rfl
theorem tw_v_X6_word : (Cond.selects "RengaHall" yX6_word yX6_word) ∈ rg_T := rg_m1 (List.mem_of_getElem? (i := 230) rfl) rfl
theorem tw_c_X6_word : (Cond.code yX6_word cX6_word 4 (some FieldType.int)) ∈ rg_T := rg_m1 (List.mem_of_getElem? (i := 231) rfl) rfl
theorem tw_m_X6_68 : (Cond.methodLink "RengaHall" 68 yX6_needRange) ∈ rg_T := rg_m1 (List.mem_of_getElem? (i := 232) rfl) rfl
theorem tw_i_X6_needRange : (Cond.instanceMethod yX6_needRange) ∈ rg_T := rg_m1 (List.mem_of_getElem? (i := 234) rfl) rfl
theorem tw_c_X6_needRange : (Cond.code yX6_needRange cX6_needRange 4 none) ∈ rg_T := rg_m1 (List.mem_of_getElem? (i := 235) rfl) rfl
theorem tw_k_X6_91 : (Cond.classLink "RengaHall" 91 "java/lang/IllegalArgumentException") ∈ rg_T := rg_m1 (List.mem_of_getElem? (i := 236) rfl) rfl
theorem tw_m_X6_95 : (Cond.methodLink "RengaHall" 95 ⟨"java/lang/IllegalArgumentException", "<init>", "(Ljava/lang/String;)V"⟩) ∈ rg_T := rg_m2 (List.mem_of_getElem? (i := 38) rfl) rfl
theorem tw_a_byte : (Cond.arrayClass FieldType.byte) ∈ rg_T := rg_m2 (List.mem_of_getElem? (i := 63) rfl) rfl
theorem tw_m_X6_72 : (Cond.methodLink "RengaHall" 72 yX4_isFull) ∈ rg_T := rg_m2 (List.mem_of_getElem? (i := 64) rfl) rfl
theorem tw_i_X4_isFull : (Cond.instanceMethod yX4_isFull) ∈ rg_T := rg_m2 (List.mem_of_getElem? (i := 65) rfl) rfl
theorem tw_v_X4_isFull : (Cond.selects "RengaHall$Stock" yX4_isFull yX4_isFull) ∈ rg_T := rg_m2 (List.mem_of_getElem? (i := 66) rfl) rfl
theorem tw_c_X4_isFull : (Cond.code yX4_isFull cX4_isFull 1 (some FieldType.boolean)) ∈ rg_T := rg_m2 (List.mem_of_getElem? (i := 67) rfl) rfl
theorem tw_k_X6_76 : (Cond.classLink "RengaHall" 76 "java/lang/IllegalStateException") ∈ rg_T := rg_m2 (List.mem_of_getElem? (i := 68) rfl) rfl
theorem tw_m_X6_80 : (Cond.methodLink "RengaHall" 80 ⟨"java/lang/IllegalStateException", "<init>", "(Ljava/lang/String;)V"⟩) ∈ rg_T := rg_m2 (List.mem_of_getElem? (i := 78) rfl) rfl
theorem tw_m_X6_83 : (Cond.methodLink "RengaHall" 83 yX4_put) ∈ rg_T := rg_m2 (List.mem_of_getElem? (i := 84) rfl) rfl
theorem tw_i_X4_put : (Cond.instanceMethod yX4_put) ∈ rg_T := rg_m2 (List.mem_of_getElem? (i := 85) rfl) rfl
theorem tw_v_X4_put : (Cond.selects "RengaHall$Stock" yX4_put yX4_put) ∈ rg_T := rg_m2 (List.mem_of_getElem? (i := 86) rfl) rfl
theorem tw_c_X4_put : (Cond.code yX4_put cX4_put 4 (some FieldType.int)) ∈ rg_T := rg_m2 (List.mem_of_getElem? (i := 87) rfl) rfl
theorem tw_m_X4_29 : (Cond.methodLink "RengaHall$Stock" 29 yX4_isFull) ∈ rg_T := rg_m2 (List.mem_of_getElem? (i := 88) rfl) rfl
theorem tw_m_L_152 : (Cond.methodLink "RengaHallLaw" 152 yX6_poet) ∈ rg_T := rg_m2 (List.mem_of_getElem? (i := 89) rfl) rfl
theorem tw_i_X6_poet : (Cond.instanceMethod yX6_poet) ∈ rg_T := rg_m2 (List.mem_of_getElem? (i := 90) rfl) rfl
theorem tw_v_X6_poet : (Cond.selects "RengaHall" yX6_poet yX6_poet) ∈ rg_T := rg_m2 (List.mem_of_getElem? (i := 91) rfl) rfl
theorem tw_c_X6_poet : (Cond.code yX6_poet cX6_poet 1 (some FieldType.int)) ∈ rg_T := rg_m2 (List.mem_of_getElem? (i := 92) rfl) rfl
theorem tw_m_L_155 : (Cond.methodLink "RengaHallLaw" 155 yL_isBegun) ∈ rg_T := rg_m2 (List.mem_of_getElem? (i := 94) rfl) rfl
theorem tw_s_L_isBegun : (Cond.static yL_isBegun) ∈ rg_T := rg_m2 (List.mem_of_getElem? (i := 95) rfl) rfl
theorem tw_c_L_isBegun : (Cond.code yL_isBegun cL_isBegun 7 (some FieldType.boolean)) ∈ rg_T := rg_m2 (List.mem_of_getElem? (i := 96) rfl) rfl
theorem tw_m_L_118 : (Cond.methodLink "RengaHallLaw" 118 yX6_begin) ∈ rg_T := rg_m2 (List.mem_of_getElem? (i := 97) rfl) rfl
theorem tw_i_X6_begin : (Cond.instanceMethod yX6_begin) ∈ rg_T := rg_m2 (List.mem_of_getElem? (i := 98) rfl) rfl
theorem tw_v_X6_begin : (Cond.selects "RengaHall" yX6_begin yX6_begin) ∈ rg_T := rg_m2 (List.mem_of_getElem? (i := 99) rfl) rfl
theorem tw_c_X6_begin : (Cond.code yX6_begin cX6_begin 5 none) ∈ rg_T := rg_m2 (List.mem_of_getElem? (i := 100) rfl) rfl
theorem tw_m_X6_105 : (Cond.methodLink "RengaHall" 105 yX1_isOpen) ∈ rg_T := rg_m2 (List.mem_of_getElem? (i := 101) rfl) rfl
theorem tw_i_X1_isOpen : (Cond.instanceMethod yX1_isOpen) ∈ rg_T := rg_m2 (List.mem_of_getElem? (i := 102) rfl) rfl
theorem tw_v_X1_isOpen : (Cond.selects "RengaHall$Poem" yX1_isOpen yX1_isOpen) ∈ rg_T := rg_m2 (List.mem_of_getElem? (i := 103) rfl) rfl
theorem tw_c_X1_isOpen : (Cond.code yX1_isOpen cX1_isOpen 1 (some FieldType.boolean)) ∈ rg_T := rg_m2 (List.mem_of_getElem? (i := 104) rfl) rfl
theorem tw_m_X6_113 : (Cond.methodLink "RengaHall" 113 yX1_restart) ∈ rg_T := rg_m2 (List.mem_of_getElem? (i := 106) rfl) rfl
theorem tw_i_X1_restart : (Cond.instanceMethod yX1_restart) ∈ rg_T := rg_m2 (List.mem_of_getElem? (i := 107) rfl) rfl
theorem tw_v_X1_restart : (Cond.selects "RengaHall$Poem" yX1_restart yX1_restart) ∈ rg_T := rg_m2 (List.mem_of_getElem? (i := 108) rfl) rfl
theorem tw_c_X1_restart : (Cond.code yX1_restart cX1_restart 6 none) ∈ rg_T := rg_m2 (List.mem_of_getElem? (i := 109) rfl) rfl
theorem tw_m_L_159 : (Cond.methodLink "RengaHallLaw" 159 yL_isOffered) ∈ rg_T := rg_m2 (List.mem_of_getElem? (i := 110) rfl) rfl
theorem tw_s_L_isOffered : (Cond.static yL_isOffered) ∈ rg_T := rg_m2 (List.mem_of_getElem? (i := 111) rfl) rfl
theorem tw_c_L_isOffered : (Cond.code yL_isOffered cL_isOffered 14 (some FieldType.boolean)) ∈ rg_T := rg_m2 (List.mem_of_getElem? (i := 112) rfl) rfl
theorem tw_m_L_100 : (Cond.methodLink "RengaHallLaw" 100 yL_chance) ∈ rg_T := rg_m2 (List.mem_of_getElem? (i := 113) rfl) rfl
theorem tw_s_L_chance : (Cond.static yL_chance) ∈ rg_T := rg_m2 (List.mem_of_getElem? (i := 114) rfl) rfl
theorem tw_c_L_chance : (Cond.code yL_chance cL_chance 10 (some FieldType.int)) ∈ rg_T := rg_m2 (List.mem_of_getElem? (i := 115) rfl) rfl
theorem tw_m_L_46 : (Cond.methodLink "RengaHallLaw" 46 yL_looked) ∈ rg_T := rg_m2 (List.mem_of_getElem? (i := 116) rfl) rfl
theorem tw_s_L_looked : (Cond.static yL_looked) ∈ rg_T := rg_m2 (List.mem_of_getElem? (i := 117) rfl) rfl
theorem tw_c_L_looked : (Cond.code yL_looked cL_looked 9 (some FieldType.int)) ∈ rg_T := rg_m2 (List.mem_of_getElem? (i := 118) rfl) rfl
theorem tw_m_L_42 : (Cond.methodLink "RengaHallLaw" 42 yL_fault) ∈ rg_T := rg_m2 (List.mem_of_getElem? (i := 119) rfl) rfl
theorem tw_s_L_fault : (Cond.static yL_fault) ∈ rg_T := rg_m2 (List.mem_of_getElem? (i := 120) rfl) rfl
theorem tw_c_L_fault : (Cond.code yL_fault cL_fault 11 (some FieldType.int)) ∈ rg_T := rg_m2 (List.mem_of_getElem? (i := 121) rfl) rfl
theorem tw_m_L_19 : (Cond.methodLink "RengaHallLaw" 19 yL_signs) ∈ rg_T := rg_m2 (List.mem_of_getElem? (i := 122) rfl) rfl
theorem tw_s_L_signs : (Cond.static yL_signs) ∈ rg_T := rg_m2 (List.mem_of_getElem? (i := 123) rfl) rfl
theorem tw_c_L_signs : (Cond.code yL_signs cL_signs 5 (some FieldType.int)) ∈ rg_T := rg_m2 (List.mem_of_getElem? (i := 124) rfl) rfl
theorem tw_m_L_25 : (Cond.methodLink "RengaHallLaw" 25 yL_mixed) ∈ rg_T := rg_m2 (List.mem_of_getElem? (i := 125) rfl) rfl
theorem tw_s_L_mixed : (Cond.static yL_mixed) ∈ rg_T := rg_m2 (List.mem_of_getElem? (i := 126) rfl) rfl
theorem tw_c_L_mixed : (Cond.code yL_mixed cL_mixed 7 (some FieldType.int)) ∈ rg_T := rg_m2 (List.mem_of_getElem? (i := 127) rfl) rfl
theorem tw_m_L_9 : (Cond.methodLink "RengaHallLaw" 9 yL_season) ∈ rg_T := rg_m2 (List.mem_of_getElem? (i := 128) rfl) rfl
theorem tw_s_L_season : (Cond.static yL_season) ∈ rg_T := rg_m2 (List.mem_of_getElem? (i := 129) rfl) rfl
theorem tw_c_L_season : (Cond.code yL_season cL_season 6 (some FieldType.int)) ∈ rg_T := rg_m2 (List.mem_of_getElem? (i := 130) rfl) rfl
theorem tw_m_L_28 : (Cond.methodLink "RengaHallLaw" 28 yL_again) ∈ rg_T := rg_m2 (List.mem_of_getElem? (i := 131) rfl) rfl
theorem tw_s_L_again : (Cond.static yL_again) ∈ rg_T := rg_m2 (List.mem_of_getElem? (i := 132) rfl) rfl
theorem tw_c_L_again : (Cond.code yL_again cL_again 8 (some FieldType.int)) ∈ rg_T := rg_m2 (List.mem_of_getElem? (i := 133) rfl) rfl
theorem tw_m_L_15 : (Cond.methodLink "RengaHallLaw" 15 yL_has) ∈ rg_T := rg_m2 (List.mem_of_getElem? (i := 134) rfl) rfl
theorem tw_s_L_has : (Cond.static yL_has) ∈ rg_T := rg_m2 (List.mem_of_getElem? (i := 135) rfl) rfl
theorem tw_c_L_has : (Cond.code yL_has cL_has 5 (some FieldType.boolean)) ∈ rg_T := rg_m2 (List.mem_of_getElem? (i := 136) rfl) rfl
theorem tw_m_L_31 : (Cond.methodLink "RengaHallLaw" 31 yL_calls) ∈ rg_T := rg_m2 (List.mem_of_getElem? (i := 137) rfl) rfl
theorem tw_s_L_calls : (Cond.static yL_calls) ∈ rg_T := rg_m2 (List.mem_of_getElem? (i := 138) rfl) rfl
theorem tw_c_L_calls : (Cond.code yL_calls cL_calls 8 (some FieldType.boolean)) ∈ rg_T := rg_m2 (List.mem_of_getElem? (i := 139) rfl) rfl
theorem tw_m_L_35 : (Cond.methodLink "RengaHallLaw" 35 yL_lengthy) ∈ rg_T := rg_m2 (List.mem_of_getElem? (i := 140) rfl) rfl
theorem tw_s_L_lengthy : (Cond.static yL_lengthy) ∈ rg_T := rg_m2 (List.mem_of_getElem? (i := 141) rfl) rfl
theorem tw_c_L_lengthy : (Cond.code yL_lengthy cL_lengthy 7 (some FieldType.int)) ∈ rg_T := rg_m2 (List.mem_of_getElem? (i := 142) rfl) rfl
theorem tw_m_L_22 : (Cond.methodLink "RengaHallLaw" 22 yL_run) ∈ rg_T := rg_m2 (List.mem_of_getElem? (i := 143) rfl) rfl
theorem tw_s_L_run : (Cond.static yL_run) ∈ rg_T := rg_m2 (List.mem_of_getElem? (i := 144) rfl) rfl
theorem tw_c_L_run : (Cond.code yL_run cL_run 5 (some FieldType.int)) ∈ rg_T := rg_m2 (List.mem_of_getElem? (i := 145) rfl) rfl
theorem tw_m_L_38 : (Cond.methodLink "RengaHallLaw" 38 yL_seat) ∈ rg_T := rg_m2 (List.mem_of_getElem? (i := 146) rfl) rfl
theorem tw_s_L_seat : (Cond.static yL_seat) ∈ rg_T := rg_m2 (List.mem_of_getElem? (i := 147) rfl) rfl
theorem tw_c_L_seat : (Cond.code yL_seat cL_seat 7 (some FieldType.int)) ∈ rg_T := rg_m2 (List.mem_of_getElem? (i := 148) rfl) rfl
theorem tw_m_L_103 : (Cond.methodLink "RengaHallLaw" 103 yX6_clear) ∈ rg_T := rg_m2 (List.mem_of_getElem? (i := 149) rfl) rfl
theorem tw_i_X6_clear : (Cond.instanceMethod yX6_clear) ∈ rg_T := rg_m2 (List.mem_of_getElem? (i := 150) rfl) rfl
theorem tw_v_X6_clear : (Cond.selects "RengaHall" yX6_clear yX6_clear) ∈ rg_T := rg_m2 (List.mem_of_getElem? (i := 151) rfl) rfl
theorem tw_c_X6_clear : (Cond.code yX6_clear cX6_clear 2 (some FieldType.int)) ∈ rg_T := rg_m2 (List.mem_of_getElem? (i := 152) rfl) rfl
theorem tw_m_X6_151 : (Cond.methodLink "RengaHall" 151 yX5_empty) ∈ rg_T := rg_m2 (List.mem_of_getElem? (i := 153) rfl) rfl
theorem tw_i_X5_empty : (Cond.instanceMethod yX5_empty) ∈ rg_T := rg_m2 (List.mem_of_getElem? (i := 154) rfl) rfl
theorem tw_v_X5_empty : (Cond.selects "RengaHall$Verse" yX5_empty yX5_empty) ∈ rg_T := rg_m2 (List.mem_of_getElem? (i := 155) rfl) rfl
theorem tw_c_X5_empty : (Cond.code yX5_empty cX5_empty 1 none) ∈ rg_T := rg_m2 (List.mem_of_getElem? (i := 156) rfl) rfl
theorem tw_m_L_106 : (Cond.methodLink "RengaHallLaw" 106 yX6_add) ∈ rg_T := rg_m2 (List.mem_of_getElem? (i := 157) rfl) rfl
theorem tw_i_X6_add : (Cond.instanceMethod yX6_add) ∈ rg_T := rg_m2 (List.mem_of_getElem? (i := 158) rfl) rfl
theorem tw_v_X6_add : (Cond.selects "RengaHall" yX6_add yX6_add) ∈ rg_T := rg_m2 (List.mem_of_getElem? (i := 159) rfl) rfl
theorem tw_c_X6_add : (Cond.code yX6_add cX6_add 2 (some FieldType.int)) ∈ rg_T := rg_m2 (List.mem_of_getElem? (i := 160) rfl) rfl
theorem tw_m_X6_87 : (Cond.methodLink "RengaHall" 87 yX6_needWord) ∈ rg_T := rg_m2 (List.mem_of_getElem? (i := 161) rfl) rfl
theorem tw_i_X6_needWord : (Cond.instanceMethod yX6_needWord) ∈ rg_T := rg_m2 (List.mem_of_getElem? (i := 163) rfl) rfl
theorem tw_c_X6_needWord : (Cond.code yX6_needWord cX6_needWord 2 none) ∈ rg_T := rg_m2 (List.mem_of_getElem? (i := 164) rfl) rfl
theorem tw_m_X6_273 : (Cond.methodLink "RengaHall" 273 yX4_has) ∈ rg_T := rg_m2 (List.mem_of_getElem? (i := 165) rfl) rfl
theorem tw_i_X4_has : (Cond.instanceMethod yX4_has) ∈ rg_T := rg_m2 (List.mem_of_getElem? (i := 166) rfl) rfl
theorem tw_v_X4_has : (Cond.selects "RengaHall$Stock" yX4_has yX4_has) ∈ rg_T := rg_m2 (List.mem_of_getElem? (i := 167) rfl) rfl
theorem tw_c_X4_has : (Cond.code yX4_has cX4_has 2 (some FieldType.boolean)) ∈ rg_T := rg_m2 (List.mem_of_getElem? (i := 168) rfl) rfl
theorem tw_k_X6_126 : (Cond.classLink "RengaHall" 126 "java/lang/IndexOutOfBoundsException") ∈ rg_T := rg_m2 (List.mem_of_getElem? (i := 169) rfl) rfl
theorem tw_m_X6_130 : (Cond.methodLink "RengaHall" 130 ⟨"java/lang/IndexOutOfBoundsException", "<init>", "(Ljava/lang/String;)V"⟩) ∈ rg_T := rg_m2 (List.mem_of_getElem? (i := 179) rfl) rfl
theorem tw_m_X6_147 : (Cond.methodLink "RengaHall" 147 yX5_append) ∈ rg_T := rg_m2 (List.mem_of_getElem? (i := 186) rfl) rfl
theorem tw_i_X5_append : (Cond.instanceMethod yX5_append) ∈ rg_T := rg_m2 (List.mem_of_getElem? (i := 187) rfl) rfl
theorem tw_v_X5_append : (Cond.selects "RengaHall$Verse" yX5_append yX5_append) ∈ rg_T := rg_m2 (List.mem_of_getElem? (i := 188) rfl) rfl
theorem tw_c_X5_append : (Cond.code yX5_append cX5_append 3 none) ∈ rg_T := rg_m2 (List.mem_of_getElem? (i := 189) rfl) rfl
theorem tw_m_X5_32 : (Cond.methodLink "RengaHall$Verse" 32 yX4_has) ∈ rg_T := rg_m2 (List.mem_of_getElem? (i := 190) rfl) rfl
theorem tw_m_X5_38 : (Cond.methodLink "RengaHall$Verse" 38 yX4_soundsOf) ∈ rg_T := rg_m2 (List.mem_of_getElem? (i := 191) rfl) rfl
theorem tw_i_X4_soundsOf : (Cond.instanceMethod yX4_soundsOf) ∈ rg_T := rg_m2 (List.mem_of_getElem? (i := 192) rfl) rfl
theorem tw_v_X4_soundsOf : (Cond.selects "RengaHall$Stock" yX4_soundsOf yX4_soundsOf) ∈ rg_T := rg_m2 (List.mem_of_getElem? (i := 193) rfl) rfl
theorem tw_c_X4_soundsOf : (Cond.code yX4_soundsOf cX4_soundsOf 2 (some FieldType.int)) ∈ rg_T := rg_m2 (List.mem_of_getElem? (i := 194) rfl) rfl
theorem tw_m_X4_33 : (Cond.methodLink "RengaHall$Stock" 33 yX4_has) ∈ rg_T := rg_m2 (List.mem_of_getElem? (i := 195) rfl) rfl
theorem tw_m_X5_42 : (Cond.methodLink "RengaHall$Verse" 42 yX4_seasonOf) ∈ rg_T := rg_m2 (List.mem_of_getElem? (i := 196) rfl) rfl
theorem tw_i_X4_seasonOf : (Cond.instanceMethod yX4_seasonOf) ∈ rg_T := rg_m2 (List.mem_of_getElem? (i := 197) rfl) rfl
theorem tw_v_X4_seasonOf : (Cond.selects "RengaHall$Stock" yX4_seasonOf yX4_seasonOf) ∈ rg_T := rg_m2 (List.mem_of_getElem? (i := 198) rfl) rfl
theorem tw_c_X4_seasonOf : (Cond.code yX4_seasonOf cX4_seasonOf 2 (some FieldType.int)) ∈ rg_T := rg_m2 (List.mem_of_getElem? (i := 199) rfl) rfl
theorem tw_m_X5_45 : (Cond.methodLink "RengaHall$Verse" 45 yX4_signsOf) ∈ rg_T := rg_m2 (List.mem_of_getElem? (i := 200) rfl) rfl
theorem tw_i_X4_signsOf : (Cond.instanceMethod yX4_signsOf) ∈ rg_T := rg_m2 (List.mem_of_getElem? (i := 201) rfl) rfl
theorem tw_v_X4_signsOf : (Cond.selects "RengaHall$Stock" yX4_signsOf yX4_signsOf) ∈ rg_T := rg_m2 (List.mem_of_getElem? (i := 202) rfl) rfl
theorem tw_c_X4_signsOf : (Cond.code yX4_signsOf cX4_signsOf 2 (some FieldType.int)) ∈ rg_T := rg_m2 (List.mem_of_getElem? (i := 203) rfl) rfl
theorem tw_m_L_109 : (Cond.methodLink "RengaHallLaw" 109 yX6_offer) ∈ rg_T := rg_m2 (List.mem_of_getElem? (i := 204) rfl) rfl
theorem tw_i_X6_offer : (Cond.instanceMethod yX6_offer) ∈ rg_T := rg_m2 (List.mem_of_getElem? (i := 205) rfl) rfl
theorem tw_v_X6_offer : (Cond.selects "RengaHall" yX6_offer yX6_offer) ∈ rg_T := rg_m2 (List.mem_of_getElem? (i := 206) rfl) rfl
theorem tw_c_X6_offer : (Cond.code yX6_offer cX6_offer 3 (some FieldType.int)) ∈ rg_T := rg_m2 (List.mem_of_getElem? (i := 207) rfl) rfl
theorem tw_m_X6_154 : (Cond.methodLink "RengaHall" 154 yX6_needPoet) ∈ rg_T := rg_m2 (List.mem_of_getElem? (i := 208) rfl) rfl
theorem tw_i_X6_needPoet : (Cond.instanceMethod yX6_needPoet) ∈ rg_T := rg_m2 (List.mem_of_getElem? (i := 210) rfl) rfl
theorem tw_c_X6_needPoet : (Cond.code yX6_needPoet cX6_needPoet 2 none) ∈ rg_T := rg_m2 (List.mem_of_getElem? (i := 211) rfl) rfl
theorem tw_m_X6_161 : (Cond.methodLink "RengaHall" 161 yX2_firstFault) ∈ rg_T := rg_m2 (List.mem_of_getElem? (i := 215) rfl) rfl
theorem tw_i_X2_firstFault : (Cond.instanceMethod yX2_firstFault) ∈ rg_T := rg_m2 (List.mem_of_getElem? (i := 216) rfl) rfl
theorem tw_v_X2_firstFault : (Cond.selects "RengaHall$Scribe" yX2_firstFault yX2_firstFault) ∈ rg_T := rg_m2 (List.mem_of_getElem? (i := 217) rfl) rfl
theorem tw_c_X2_firstFault : (Cond.code yX2_firstFault cX2_firstFault 5 (some FieldType.int)) ∈ rg_T := rg_m2 (List.mem_of_getElem? (i := 218) rfl) rfl
theorem tw_m_X2_19 : (Cond.methodLink "RengaHall$Scribe" 19 yX2_causeOf) ∈ rg_T := rg_m2 (List.mem_of_getElem? (i := 219) rfl) rfl
theorem tw_i_X2_causeOf : (Cond.instanceMethod yX2_causeOf) ∈ rg_T := rg_m2 (List.mem_of_getElem? (i := 220) rfl) rfl
theorem tw_v_X2_causeOf : (Cond.selects "RengaHall$Scribe" yX2_causeOf yX2_causeOf) ∈ rg_T := rg_m2 (List.mem_of_getElem? (i := 221) rfl) rfl
theorem tw_c_X2_causeOf : (Cond.code yX2_causeOf cX2_causeOf 5 (some FieldType.int)) ∈ rg_T := rg_m2 (List.mem_of_getElem? (i := 222) rfl) rfl
theorem tw_m_X2_29 : (Cond.methodLink "RengaHall$Scribe" 29 yX1_soundsAt) ∈ rg_T := rg_m2 (List.mem_of_getElem? (i := 223) rfl) rfl
theorem tw_i_X1_soundsAt : (Cond.instanceMethod yX1_soundsAt) ∈ rg_T := rg_m2 (List.mem_of_getElem? (i := 224) rfl) rfl
theorem tw_v_X1_soundsAt : (Cond.selects "RengaHall$Poem" yX1_soundsAt yX1_soundsAt) ∈ rg_T := rg_m2 (List.mem_of_getElem? (i := 225) rfl) rfl
theorem tw_c_X1_soundsAt : (Cond.code yX1_soundsAt cX1_soundsAt 2 (some FieldType.int)) ∈ rg_T := rg_m2 (List.mem_of_getElem? (i := 226) rfl) rfl
theorem tw_m_X2_35 : (Cond.methodLink "RengaHall$Scribe" 35 yX2_unlikeSeasonPlace) ∈ rg_T := rg_m2 (List.mem_of_getElem? (i := 227) rfl) rfl
theorem tw_i_X2_unlikeSeasonPlace : (Cond.instanceMethod yX2_unlikeSeasonPlace) ∈ rg_T := rg_m2 (List.mem_of_getElem? (i := 229) rfl) rfl
theorem tw_c_X2_unlikeSeasonPlace : (Cond.code yX2_unlikeSeasonPlace cX2_unlikeSeasonPlace 4 (some FieldType.int)) ∈ rg_T := rg_m2 (List.mem_of_getElem? (i := 230) rfl) rfl
theorem tw_m_X2_75 : (Cond.methodLink "RengaHall$Scribe" 75 yX5_wordOrNone) ∈ rg_T := rg_m2 (List.mem_of_getElem? (i := 231) rfl) rfl
theorem tw_i_X5_wordOrNone : (Cond.instanceMethod yX5_wordOrNone) ∈ rg_T := rg_m2 (List.mem_of_getElem? (i := 232) rfl) rfl
theorem tw_v_X5_wordOrNone : (Cond.selects "RengaHall$Verse" yX5_wordOrNone yX5_wordOrNone) ∈ rg_T := rg_m2 (List.mem_of_getElem? (i := 233) rfl) rfl
theorem tw_c_X5_wordOrNone : (Cond.code yX5_wordOrNone cX5_wordOrNone 2 (some FieldType.int)) ∈ rg_T := rg_m2 (List.mem_of_getElem? (i := 234) rfl) rfl
theorem tw_m_X2_78 : (Cond.methodLink "RengaHall$Scribe" 78 yX4_seasonOf) ∈ rg_T := rg_m2 (List.mem_of_getElem? (i := 235) rfl) rfl
theorem tw_m_X2_39 : (Cond.methodLink "RengaHall$Scribe" 39 yX2_wordAgainPlace) ∈ rg_T := rg_m2 (List.mem_of_getElem? (i := 236) rfl) rfl
theorem tw_i_X2_wordAgainPlace : (Cond.instanceMethod yX2_wordAgainPlace) ∈ rg_T := rg_m2 (List.mem_of_getElem? (i := 238) rfl) rfl
theorem tw_c_X2_wordAgainPlace : (Cond.code yX2_wordAgainPlace cX2_wordAgainPlace 8 (some FieldType.int)) ∈ rg_T := rg_m2 (List.mem_of_getElem? (i := 239) rfl) rfl
theorem tw_m_X2_86 : (Cond.methodLink "RengaHall$Scribe" 86 yX1_wordSetAt) ∈ rg_T := rg_m3 (List.mem_of_getElem? (i := 0) rfl) rfl
theorem tw_i_X1_wordSetAt : (Cond.instanceMethod yX1_wordSetAt) ∈ rg_T := rg_m3 (List.mem_of_getElem? (i := 1) rfl) rfl
theorem tw_v_X1_wordSetAt : (Cond.selects "RengaHall$Poem" yX1_wordSetAt yX1_wordSetAt) ∈ rg_T := rg_m3 (List.mem_of_getElem? (i := 2) rfl) rfl
theorem tw_c_X1_wordSetAt : (Cond.code yX1_wordSetAt cX1_wordSetAt 2 (some FieldType.long)) ∈ rg_T := rg_m3 (List.mem_of_getElem? (i := 3) rfl) rfl
theorem tw_m_X1_57 : (Cond.methodLink "RengaHall$Poem" 57 yX1_has) ∈ rg_T := rg_m3 (List.mem_of_getElem? (i := 4) rfl) rfl
theorem tw_i_X1_has : (Cond.instanceMethod yX1_has) ∈ rg_T := rg_m3 (List.mem_of_getElem? (i := 5) rfl) rfl
theorem tw_v_X1_has : (Cond.selects "RengaHall$Poem" yX1_has yX1_has) ∈ rg_T := rg_m3 (List.mem_of_getElem? (i := 6) rfl) rfl
theorem tw_c_X1_has : (Cond.code yX1_has cX1_has 2 (some FieldType.boolean)) ∈ rg_T := rg_m3 (List.mem_of_getElem? (i := 7) rfl) rfl
theorem tw_m_X2_43 : (Cond.methodLink "RengaHall$Scribe" 43 yX1_makerAt) ∈ rg_T := rg_m3 (List.mem_of_getElem? (i := 8) rfl) rfl
theorem tw_i_X1_makerAt : (Cond.instanceMethod yX1_makerAt) ∈ rg_T := rg_m3 (List.mem_of_getElem? (i := 9) rfl) rfl
theorem tw_v_X1_makerAt : (Cond.selects "RengaHall$Poem" yX1_makerAt yX1_makerAt) ∈ rg_T := rg_m3 (List.mem_of_getElem? (i := 10) rfl) rfl
theorem tw_c_X1_makerAt : (Cond.code yX1_makerAt cX1_makerAt 2 (some FieldType.int)) ∈ rg_T := rg_m3 (List.mem_of_getElem? (i := 11) rfl) rfl
theorem tw_m_X2_46 : (Cond.methodLink "RengaHall$Scribe" 46 yX2_joins) ∈ rg_T := rg_m3 (List.mem_of_getElem? (i := 12) rfl) rfl
theorem tw_i_X2_joins : (Cond.instanceMethod yX2_joins) ∈ rg_T := rg_m3 (List.mem_of_getElem? (i := 14) rfl) rfl
theorem tw_c_X2_joins : (Cond.code yX2_joins cX2_joins 6 (some FieldType.boolean)) ∈ rg_T := rg_m3 (List.mem_of_getElem? (i := 15) rfl) rfl
theorem tw_m_X2_53 : (Cond.methodLink "RengaHall$Scribe" 53 yX1_signsAt) ∈ rg_T := rg_m3 (List.mem_of_getElem? (i := 16) rfl) rfl
theorem tw_i_X1_signsAt : (Cond.instanceMethod yX1_signsAt) ∈ rg_T := rg_m3 (List.mem_of_getElem? (i := 17) rfl) rfl
theorem tw_v_X1_signsAt : (Cond.selects "RengaHall$Poem" yX1_signsAt yX1_signsAt) ∈ rg_T := rg_m3 (List.mem_of_getElem? (i := 18) rfl) rfl
theorem tw_c_X1_signsAt : (Cond.code yX1_signsAt cX1_signsAt 2 (some FieldType.int)) ∈ rg_T := rg_m3 (List.mem_of_getElem? (i := 19) rfl) rfl
theorem tw_m_X2_90 : (Cond.methodLink "RengaHall$Scribe" 90 yX4_calledBy) ∈ rg_T := rg_m3 (List.mem_of_getElem? (i := 20) rfl) rfl
theorem tw_i_X4_calledBy : (Cond.instanceMethod yX4_calledBy) ∈ rg_T := rg_m3 (List.mem_of_getElem? (i := 21) rfl) rfl
theorem tw_v_X4_calledBy : (Cond.selects "RengaHall$Stock" yX4_calledBy yX4_calledBy) ∈ rg_T := rg_m3 (List.mem_of_getElem? (i := 22) rfl) rfl
theorem tw_c_X4_calledBy : (Cond.code yX4_calledBy cX4_calledBy 2 (some FieldType.long)) ∈ rg_T := rg_m3 (List.mem_of_getElem? (i := 23) rfl) rfl
theorem tw_m_X2_56 : (Cond.methodLink "RengaHall$Scribe" 56 yX2_lowestSubject) ∈ rg_T := rg_m3 (List.mem_of_getElem? (i := 24) rfl) rfl
theorem tw_i_X2_lowestSubject : (Cond.instanceMethod yX2_lowestSubject) ∈ rg_T := rg_m3 (List.mem_of_getElem? (i := 26) rfl) rfl
theorem tw_c_X2_lowestSubject : (Cond.code yX2_lowestSubject cX2_lowestSubject 3 (some FieldType.int)) ∈ rg_T := rg_m3 (List.mem_of_getElem? (i := 27) rfl) rfl
theorem tw_m_X2_62 : (Cond.methodLink "RengaHall$Scribe" 62 yX2_wrongSeason) ∈ rg_T := rg_m3 (List.mem_of_getElem? (i := 28) rfl) rfl
theorem tw_i_X2_wrongSeason : (Cond.instanceMethod yX2_wrongSeason) ∈ rg_T := rg_m3 (List.mem_of_getElem? (i := 30) rfl) rfl
theorem tw_c_X2_wrongSeason : (Cond.code yX2_wrongSeason cX2_wrongSeason 5 (some FieldType.int)) ∈ rg_T := rg_m3 (List.mem_of_getElem? (i := 31) rfl) rfl
theorem tw_m_X2_93 : (Cond.methodLink "RengaHall$Scribe" 93 yX1_seasonAt) ∈ rg_T := rg_m3 (List.mem_of_getElem? (i := 32) rfl) rfl
theorem tw_i_X1_seasonAt : (Cond.instanceMethod yX1_seasonAt) ∈ rg_T := rg_m3 (List.mem_of_getElem? (i := 33) rfl) rfl
theorem tw_v_X1_seasonAt : (Cond.selects "RengaHall$Poem" yX1_seasonAt yX1_seasonAt) ∈ rg_T := rg_m3 (List.mem_of_getElem? (i := 34) rfl) rfl
theorem tw_c_X1_seasonAt : (Cond.code yX1_seasonAt cX1_seasonAt 2 (some FieldType.int)) ∈ rg_T := rg_m3 (List.mem_of_getElem? (i := 35) rfl) rfl
theorem tw_m_X2_96 : (Cond.methodLink "RengaHall$Scribe" 96 yX1_runAt) ∈ rg_T := rg_m3 (List.mem_of_getElem? (i := 36) rfl) rfl
theorem tw_i_X1_runAt : (Cond.instanceMethod yX1_runAt) ∈ rg_T := rg_m3 (List.mem_of_getElem? (i := 37) rfl) rfl
theorem tw_v_X1_runAt : (Cond.selects "RengaHall$Poem" yX1_runAt yX1_runAt) ∈ rg_T := rg_m3 (List.mem_of_getElem? (i := 38) rfl) rfl
theorem tw_c_X1_runAt : (Cond.code yX1_runAt cX1_runAt 5 (some FieldType.int)) ∈ rg_T := rg_m3 (List.mem_of_getElem? (i := 39) rfl) rfl
theorem tw_m_X1_75 : (Cond.methodLink "RengaHall$Poem" 75 yX1_seasonAt) ∈ rg_T := rg_m3 (List.mem_of_getElem? (i := 40) rfl) rfl
theorem tw_m_X2_99 : (Cond.methodLink "RengaHall$Scribe" 99 yX2_leastRun) ∈ rg_T := rg_m3 (List.mem_of_getElem? (i := 41) rfl) rfl
theorem tw_i_X2_leastRun : (Cond.instanceMethod yX2_leastRun) ∈ rg_T := rg_m3 (List.mem_of_getElem? (i := 43) rfl) rfl
theorem tw_c_X2_leastRun : (Cond.code yX2_leastRun cX2_leastRun 2 (some FieldType.int)) ∈ rg_T := rg_m3 (List.mem_of_getElem? (i := 44) rfl) rfl
theorem tw_m_X2_109 : (Cond.methodLink "RengaHall$Scribe" 109 yX2_isLong) ∈ rg_T := rg_m3 (List.mem_of_getElem? (i := 45) rfl) rfl
theorem tw_i_X2_isLong : (Cond.instanceMethod yX2_isLong) ∈ rg_T := rg_m3 (List.mem_of_getElem? (i := 47) rfl) rfl
theorem tw_c_X2_isLong : (Cond.code yX2_isLong cX2_isLong 2 (some FieldType.boolean)) ∈ rg_T := rg_m3 (List.mem_of_getElem? (i := 48) rfl) rfl
theorem tw_m_X2_102 : (Cond.methodLink "RengaHall$Scribe" 102 yX2_mostRun) ∈ rg_T := rg_m3 (List.mem_of_getElem? (i := 49) rfl) rfl
theorem tw_i_X2_mostRun : (Cond.instanceMethod yX2_mostRun) ∈ rg_T := rg_m3 (List.mem_of_getElem? (i := 51) rfl) rfl
theorem tw_c_X2_mostRun : (Cond.code yX2_mostRun cX2_mostRun 2 (some FieldType.int)) ∈ rg_T := rg_m3 (List.mem_of_getElem? (i := 52) rfl) rfl
theorem tw_m_X2_105 : (Cond.methodLink "RengaHall$Scribe" 105 yX2_isLately) ∈ rg_T := rg_m3 (List.mem_of_getElem? (i := 53) rfl) rfl
theorem tw_i_X2_isLately : (Cond.instanceMethod yX2_isLately) ∈ rg_T := rg_m3 (List.mem_of_getElem? (i := 55) rfl) rfl
theorem tw_c_X2_isLately : (Cond.code yX2_isLately cX2_isLately 4 (some FieldType.boolean)) ∈ rg_T := rg_m3 (List.mem_of_getElem? (i := 56) rfl) rfl
theorem tw_m_X2_66 : (Cond.methodLink "RengaHall$Scribe" 66 yX1_seatAt) ∈ rg_T := rg_m3 (List.mem_of_getElem? (i := 57) rfl) rfl
theorem tw_i_X1_seatAt : (Cond.instanceMethod yX1_seatAt) ∈ rg_T := rg_m3 (List.mem_of_getElem? (i := 58) rfl) rfl
theorem tw_v_X1_seatAt : (Cond.selects "RengaHall$Poem" yX1_seatAt yX1_seatAt) ∈ rg_T := rg_m3 (List.mem_of_getElem? (i := 59) rfl) rfl
theorem tw_c_X1_seatAt : (Cond.code yX1_seatAt cX1_seatAt 2 (some FieldType.int)) ∈ rg_T := rg_m3 (List.mem_of_getElem? (i := 60) rfl) rfl
theorem tw_m_X2_69 : (Cond.methodLink "RengaHall$Scribe" 69 yX2_wrongSeat) ∈ rg_T := rg_m3 (List.mem_of_getElem? (i := 61) rfl) rfl
theorem tw_i_X2_wrongSeat : (Cond.instanceMethod yX2_wrongSeat) ∈ rg_T := rg_m3 (List.mem_of_getElem? (i := 63) rfl) rfl
theorem tw_c_X2_wrongSeat : (Cond.code yX2_wrongSeat cX2_wrongSeat 5 (some FieldType.int)) ∈ rg_T := rg_m3 (List.mem_of_getElem? (i := 64) rfl) rfl
theorem tw_m_X6_165 : (Cond.methodLink "RengaHall" 165 yX2_causeOf) ∈ rg_T := rg_m3 (List.mem_of_getElem? (i := 65) rfl) rfl
theorem tw_m_X6_169 : (Cond.methodLink "RengaHall" 169 yX5_take) ∈ rg_T := rg_m3 (List.mem_of_getElem? (i := 66) rfl) rfl
theorem tw_i_X5_take : (Cond.instanceMethod yX5_take) ∈ rg_T := rg_m3 (List.mem_of_getElem? (i := 67) rfl) rfl
theorem tw_v_X5_take : (Cond.selects "RengaHall$Verse" yX5_take yX5_take) ∈ rg_T := rg_m3 (List.mem_of_getElem? (i := 68) rfl) rfl
theorem tw_c_X5_take : (Cond.code yX5_take cX5_take 3 none) ∈ rg_T := rg_m3 (List.mem_of_getElem? (i := 69) rfl) rfl
theorem tw_m_X5_48 : (Cond.methodLink "RengaHall$Verse" 48 yX5_takeMended) ∈ rg_T := rg_m3 (List.mem_of_getElem? (i := 70) rfl) rfl
theorem tw_i_X5_takeMended : (Cond.instanceMethod yX5_takeMended) ∈ rg_T := rg_m3 (List.mem_of_getElem? (i := 71) rfl) rfl
theorem tw_v_X5_takeMended : (Cond.selects "RengaHall$Verse" yX5_takeMended yX5_takeMended) ∈ rg_T := rg_m3 (List.mem_of_getElem? (i := 72) rfl) rfl
theorem tw_c_X5_takeMended : (Cond.code yX5_takeMended cX5_takeMended 6 none) ∈ rg_T := rg_m3 (List.mem_of_getElem? (i := 73) rfl) rfl
theorem tw_m_X5_52 : (Cond.methodLink "RengaHall$Verse" 52 yX5_empty) ∈ rg_T := rg_m3 (List.mem_of_getElem? (i := 74) rfl) rfl
theorem tw_m_X5_55 : (Cond.methodLink "RengaHall$Verse" 55 yX5_wordOrNone) ∈ rg_T := rg_m3 (List.mem_of_getElem? (i := 75) rfl) rfl
theorem tw_m_X5_58 : (Cond.methodLink "RengaHall$Verse" 58 yX5_append) ∈ rg_T := rg_m3 (List.mem_of_getElem? (i := 76) rfl) rfl
theorem tw_m_L_163 : (Cond.methodLink "RengaHallLaw" 163 yL_isChosen) ∈ rg_T := rg_m3 (List.mem_of_getElem? (i := 77) rfl) rfl
theorem tw_s_L_isChosen : (Cond.static yL_isChosen) ∈ rg_T := rg_m3 (List.mem_of_getElem? (i := 78) rfl) rfl
theorem tw_c_L_isChosen : (Cond.code yL_isChosen cL_isChosen 8 (some FieldType.boolean)) ∈ rg_T := rg_m3 (List.mem_of_getElem? (i := 79) rfl) rfl
theorem tw_m_L_112 : (Cond.methodLink "RengaHallLaw" 112 yX6_choose) ∈ rg_T := rg_m3 (List.mem_of_getElem? (i := 80) rfl) rfl
theorem tw_i_X6_choose : (Cond.instanceMethod yX6_choose) ∈ rg_T := rg_m3 (List.mem_of_getElem? (i := 81) rfl) rfl
theorem tw_v_X6_choose : (Cond.selects "RengaHall" yX6_choose yX6_choose) ∈ rg_T := rg_m3 (List.mem_of_getElem? (i := 82) rfl) rfl
theorem tw_c_X6_choose : (Cond.code yX6_choose cX6_choose 2 (some FieldType.int)) ∈ rg_T := rg_m3 (List.mem_of_getElem? (i := 83) rfl) rfl
theorem tw_m_X6_175 : (Cond.methodLink "RengaHall" 175 yX1_extend) ∈ rg_T := rg_m3 (List.mem_of_getElem? (i := 85) rfl) rfl
theorem tw_i_X1_extend : (Cond.instanceMethod yX1_extend) ∈ rg_T := rg_m3 (List.mem_of_getElem? (i := 86) rfl) rfl
theorem tw_v_X1_extend : (Cond.selects "RengaHall$Poem" yX1_extend yX1_extend) ∈ rg_T := rg_m3 (List.mem_of_getElem? (i := 87) rfl) rfl
theorem tw_c_X1_extend : (Cond.code yX1_extend cX1_extend 5 none) ∈ rg_T := rg_m3 (List.mem_of_getElem? (i := 88) rfl) rfl
theorem tw_m_X1_53 : (Cond.methodLink "RengaHall$Poem" 53 yX5_take) ∈ rg_T := rg_m3 (List.mem_of_getElem? (i := 89) rfl) rfl
theorem tw_m_L_166 : (Cond.methodLink "RengaHallLaw" 166 yL_isMended) ∈ rg_T := rg_m3 (List.mem_of_getElem? (i := 90) rfl) rfl
theorem tw_s_L_isMended : (Cond.static yL_isMended) ∈ rg_T := rg_m3 (List.mem_of_getElem? (i := 91) rfl) rfl
theorem tw_c_L_isMended : (Cond.code yL_isMended cL_isMended 11 (some FieldType.boolean)) ∈ rg_T := rg_m3 (List.mem_of_getElem? (i := 92) rfl) rfl
theorem tw_m_L_115 : (Cond.methodLink "RengaHallLaw" 115 yX6_mend) ∈ rg_T := rg_m3 (List.mem_of_getElem? (i := 93) rfl) rfl
theorem tw_i_X6_mend : (Cond.instanceMethod yX6_mend) ∈ rg_T := rg_m3 (List.mem_of_getElem? (i := 94) rfl) rfl
theorem tw_v_X6_mend : (Cond.selects "RengaHall" yX6_mend yX6_mend) ∈ rg_T := rg_m3 (List.mem_of_getElem? (i := 95) rfl) rfl
theorem tw_c_X6_mend : (Cond.code yX6_mend cX6_mend 5 (some FieldType.int)) ∈ rg_T := rg_m3 (List.mem_of_getElem? (i := 96) rfl) rfl
theorem tw_m_X6_179 : (Cond.methodLink "RengaHall" 179 yX6_needLink) ∈ rg_T := rg_m3 (List.mem_of_getElem? (i := 97) rfl) rfl
theorem tw_i_X6_needLink : (Cond.instanceMethod yX6_needLink) ∈ rg_T := rg_m3 (List.mem_of_getElem? (i := 99) rfl) rfl
theorem tw_c_X6_needLink : (Cond.code yX6_needLink cX6_needLink 2 none) ∈ rg_T := rg_m3 (List.mem_of_getElem? (i := 100) rfl) rfl
theorem tw_m_X6_281 : (Cond.methodLink "RengaHall" 281 yX1_has) ∈ rg_T := rg_m3 (List.mem_of_getElem? (i := 101) rfl) rfl
theorem tw_m_X6_182 : (Cond.methodLink "RengaHall" 182 yX6_needPlace) ∈ rg_T := rg_m3 (List.mem_of_getElem? (i := 103) rfl) rfl
theorem tw_i_X6_needPlace : (Cond.instanceMethod yX6_needPlace) ∈ rg_T := rg_m3 (List.mem_of_getElem? (i := 105) rfl) rfl
theorem tw_c_X6_needPlace : (Cond.code yX6_needPlace cX6_needPlace 3 none) ∈ rg_T := rg_m3 (List.mem_of_getElem? (i := 106) rfl) rfl
theorem tw_m_X6_242 : (Cond.methodLink "RengaHall" 242 yX1_wordOrNone) ∈ rg_T := rg_m3 (List.mem_of_getElem? (i := 107) rfl) rfl
theorem tw_i_X1_wordOrNone : (Cond.instanceMethod yX1_wordOrNone) ∈ rg_T := rg_m3 (List.mem_of_getElem? (i := 108) rfl) rfl
theorem tw_v_X1_wordOrNone : (Cond.selects "RengaHall$Poem" yX1_wordOrNone yX1_wordOrNone) ∈ rg_T := rg_m3 (List.mem_of_getElem? (i := 109) rfl) rfl
theorem tw_c_X1_wordOrNone : (Cond.code yX1_wordOrNone cX1_wordOrNone 3 (some FieldType.int)) ∈ rg_T := rg_m3 (List.mem_of_getElem? (i := 110) rfl) rfl
theorem tw_m_X1_71 : (Cond.methodLink "RengaHall$Poem" 71 yX5_wordOrNone) ∈ rg_T := rg_m3 (List.mem_of_getElem? (i := 111) rfl) rfl
theorem tw_m_X6_131 : (Cond.methodLink "RengaHall" 131 yX6_needNoOffers) ∈ rg_T := rg_m3 (List.mem_of_getElem? (i := 113) rfl) rfl
theorem tw_i_X6_needNoOffers : (Cond.instanceMethod yX6_needNoOffers) ∈ rg_T := rg_m3 (List.mem_of_getElem? (i := 115) rfl) rfl
theorem tw_c_X6_needNoOffers : (Cond.code yX6_needNoOffers cX6_needNoOffers 1 none) ∈ rg_T := rg_m3 (List.mem_of_getElem? (i := 116) rfl) rfl
theorem tw_m_X6_188 : (Cond.methodLink "RengaHall" 188 yX5_takeMended) ∈ rg_T := rg_m3 (List.mem_of_getElem? (i := 118) rfl) rfl
theorem tw_m_X6_192 : (Cond.methodLink "RengaHall" 192 yX1_mendLatest) ∈ rg_T := rg_m3 (List.mem_of_getElem? (i := 119) rfl) rfl
theorem tw_i_X1_mendLatest : (Cond.instanceMethod yX1_mendLatest) ∈ rg_T := rg_m3 (List.mem_of_getElem? (i := 120) rfl) rfl
theorem tw_v_X1_mendLatest : (Cond.selects "RengaHall$Poem" yX1_mendLatest yX1_mendLatest) ∈ rg_T := rg_m3 (List.mem_of_getElem? (i := 121) rfl) rfl
theorem tw_c_X1_mendLatest : (Cond.code yX1_mendLatest cX1_mendLatest 3 none) ∈ rg_T := rg_m3 (List.mem_of_getElem? (i := 122) rfl) rfl
theorem tw_m_L_170 : (Cond.methodLink "RengaHallLaw" 170 yL_isTold) ∈ rg_T := rg_m3 (List.mem_of_getElem? (i := 123) rfl) rfl
theorem tw_s_L_isTold : (Cond.static yL_isTold) ∈ rg_T := rg_m3 (List.mem_of_getElem? (i := 124) rfl) rfl
theorem tw_c_L_isTold : (Cond.code yL_isTold cL_isTold 14 (some FieldType.boolean)) ∈ rg_T := rg_m3 (List.mem_of_getElem? (i := 125) rfl) rfl
theorem tw_m_L_122 : (Cond.methodLink "RengaHallLaw" 122 yX6_call) ∈ rg_T := rg_m3 (List.mem_of_getElem? (i := 126) rfl) rfl
theorem tw_i_X6_call : (Cond.instanceMethod yX6_call) ∈ rg_T := rg_m3 (List.mem_of_getElem? (i := 127) rfl) rfl
theorem tw_v_X6_call : (Cond.selects "RengaHall" yX6_call yX6_call) ∈ rg_T := rg_m3 (List.mem_of_getElem? (i := 128) rfl) rfl
theorem tw_c_X6_call : (Cond.code yX6_call cX6_call 3 (some FieldType.boolean)) ∈ rg_T := rg_m3 (List.mem_of_getElem? (i := 129) rfl) rfl
theorem tw_m_X6_96 : (Cond.methodLink "RengaHall" 96 yX4_bind) ∈ rg_T := rg_m3 (List.mem_of_getElem? (i := 131) rfl) rfl
theorem tw_i_X4_bind : (Cond.instanceMethod yX4_bind) ∈ rg_T := rg_m3 (List.mem_of_getElem? (i := 132) rfl) rfl
theorem tw_v_X4_bind : (Cond.selects "RengaHall$Stock" yX4_bind yX4_bind) ∈ rg_T := rg_m3 (List.mem_of_getElem? (i := 133) rfl) rfl
theorem tw_c_X4_bind : (Cond.code yX4_bind cX4_bind 4 (some FieldType.boolean)) ∈ rg_T := rg_m3 (List.mem_of_getElem? (i := 134) rfl) rfl
theorem tw_m_L_126 : (Cond.methodLink "RengaHallLaw" 126 yX6_seat) ∈ rg_T := rg_m3 (List.mem_of_getElem? (i := 135) rfl) rfl
theorem tw_i_X6_seat : (Cond.instanceMethod yX6_seat) ∈ rg_T := rg_m3 (List.mem_of_getElem? (i := 136) rfl) rfl
theorem tw_v_X6_seat : (Cond.selects "RengaHall" yX6_seat yX6_seat) ∈ rg_T := rg_m3 (List.mem_of_getElem? (i := 137) rfl) rfl
theorem tw_c_X6_seat : (Cond.code yX6_seat cX6_seat 4 (some FieldType.int)) ∈ rg_T := rg_m3 (List.mem_of_getElem? (i := 138) rfl) rfl
theorem tw_m_X6_134 : (Cond.methodLink "RengaHall" 134 yX1_seatAt) ∈ rg_T := rg_m3 (List.mem_of_getElem? (i := 140) rfl) rfl
theorem tw_m_X6_138 : (Cond.methodLink "RengaHall" 138 yX1_setSeat) ∈ rg_T := rg_m3 (List.mem_of_getElem? (i := 141) rfl) rfl
theorem tw_i_X1_setSeat : (Cond.instanceMethod yX1_setSeat) ∈ rg_T := rg_m3 (List.mem_of_getElem? (i := 142) rfl) rfl
theorem tw_v_X1_setSeat : (Cond.selects "RengaHall$Poem" yX1_setSeat yX1_setSeat) ∈ rg_T := rg_m3 (List.mem_of_getElem? (i := 143) rfl) rfl
theorem tw_c_X1_setSeat : (Cond.code yX1_setSeat cX1_setSeat 3 none) ∈ rg_T := rg_m3 (List.mem_of_getElem? (i := 144) rfl) rfl
theorem tw_m_L_128 : (Cond.methodLink "RengaHallLaw" 128 yX6_give) ∈ rg_T := rg_m3 (List.mem_of_getElem? (i := 145) rfl) rfl
theorem tw_i_X6_give : (Cond.instanceMethod yX6_give) ∈ rg_T := rg_m3 (List.mem_of_getElem? (i := 146) rfl) rfl
theorem tw_v_X6_give : (Cond.selects "RengaHall" yX6_give yX6_give) ∈ rg_T := rg_m3 (List.mem_of_getElem? (i := 147) rfl) rfl
theorem tw_c_X6_give : (Cond.code yX6_give cX6_give 5 (some FieldType.int)) ∈ rg_T := rg_m3 (List.mem_of_getElem? (i := 148) rfl) rfl
theorem tw_m_L_132 : (Cond.methodLink "RengaHallLaw" 132 yX6_hide) ∈ rg_T := rg_m3 (List.mem_of_getElem? (i := 150) rfl) rfl
theorem tw_i_X6_hide : (Cond.instanceMethod yX6_hide) ∈ rg_T := rg_m3 (List.mem_of_getElem? (i := 151) rfl) rfl
theorem tw_v_X6_hide : (Cond.selects "RengaHall" yX6_hide yX6_hide) ∈ rg_T := rg_m3 (List.mem_of_getElem? (i := 152) rfl) rfl
theorem tw_c_X6_hide : (Cond.code yX6_hide cX6_hide 4 (some FieldType.boolean)) ∈ rg_T := rg_m3 (List.mem_of_getElem? (i := 153) rfl) rfl
theorem tw_m_L_136 : (Cond.methodLink "RengaHallLaw" 136 yX6_copy) ∈ rg_T := rg_m3 (List.mem_of_getElem? (i := 154) rfl) rfl
theorem tw_i_X6_copy : (Cond.instanceMethod yX6_copy) ∈ rg_T := rg_m3 (List.mem_of_getElem? (i := 155) rfl) rfl
theorem tw_v_X6_copy : (Cond.selects "RengaHall" yX6_copy yX6_copy) ∈ rg_T := rg_m3 (List.mem_of_getElem? (i := 156) rfl) rfl
theorem tw_c_X6_copy : (Cond.code yX6_copy cX6_copy 2 (some FieldType.int)) ∈ rg_T := rg_m3 (List.mem_of_getElem? (i := 157) rfl) rfl
theorem tw_m_X6_201 : (Cond.methodLink "RengaHall" 201 yX6_needText) ∈ rg_T := rg_m3 (List.mem_of_getElem? (i := 158) rfl) rfl
theorem tw_i_X6_needText : (Cond.instanceMethod yX6_needText) ∈ rg_T := rg_m3 (List.mem_of_getElem? (i := 160) rfl) rfl
theorem tw_c_X6_needText : (Cond.code yX6_needText cX6_needText 2 none) ∈ rg_T := rg_m3 (List.mem_of_getElem? (i := 161) rfl) rfl
theorem tw_m_X6_213 : (Cond.methodLink "RengaHall" 213 yX6_needCopy) ∈ rg_T := rg_m3 (List.mem_of_getElem? (i := 162) rfl) rfl
theorem tw_i_X6_needCopy : (Cond.instanceMethod yX6_needCopy) ∈ rg_T := rg_m3 (List.mem_of_getElem? (i := 164) rfl) rfl
theorem tw_c_X6_needCopy : (Cond.code yX6_needCopy cX6_needCopy 2 none) ∈ rg_T := rg_m3 (List.mem_of_getElem? (i := 165) rfl) rfl
theorem tw_m_X6_204 : (Cond.methodLink "RengaHall" 204 yX6_needPoem) ∈ rg_T := rg_m3 (List.mem_of_getElem? (i := 167) rfl) rfl
theorem tw_i_X6_needPoem : (Cond.instanceMethod yX6_needPoem) ∈ rg_T := rg_m3 (List.mem_of_getElem? (i := 169) rfl) rfl
theorem tw_c_X6_needPoem : (Cond.code yX6_needPoem cX6_needPoem 1 none) ∈ rg_T := rg_m3 (List.mem_of_getElem? (i := 170) rfl) rfl
theorem tw_m_X6_288 : (Cond.methodLink "RengaHall" 288 yX1_isBegun) ∈ rg_T := rg_m3 (List.mem_of_getElem? (i := 171) rfl) rfl
theorem tw_i_X1_isBegun : (Cond.instanceMethod yX1_isBegun) ∈ rg_T := rg_m3 (List.mem_of_getElem? (i := 172) rfl) rfl
theorem tw_v_X1_isBegun : (Cond.selects "RengaHall$Poem" yX1_isBegun yX1_isBegun) ∈ rg_T := rg_m3 (List.mem_of_getElem? (i := 173) rfl) rfl
theorem tw_c_X1_isBegun : (Cond.code yX1_isBegun cX1_isBegun 1 (some FieldType.boolean)) ∈ rg_T := rg_m3 (List.mem_of_getElem? (i := 174) rfl) rfl
theorem tw_m_X6_209 : (Cond.methodLink "RengaHall" 209 yX6_fillSheet) ∈ rg_T := rg_m3 (List.mem_of_getElem? (i := 177) rfl) rfl
theorem tw_i_X6_fillSheet : (Cond.instanceMethod yX6_fillSheet) ∈ rg_T := rg_m3 (List.mem_of_getElem? (i := 179) rfl) rfl
theorem tw_c_X6_fillSheet : (Cond.code yX6_fillSheet cX6_fillSheet 5 none) ∈ rg_T := rg_m3 (List.mem_of_getElem? (i := 180) rfl) rfl
theorem tw_m_X6_216 : (Cond.methodLink "RengaHall" 216 yX6_textWord) ∈ rg_T := rg_m3 (List.mem_of_getElem? (i := 181) rfl) rfl
theorem tw_i_X6_textWord : (Cond.instanceMethod yX6_textWord) ∈ rg_T := rg_m3 (List.mem_of_getElem? (i := 183) rfl) rfl
theorem tw_c_X6_textWord : (Cond.code yX6_textWord cX6_textWord 5 (some FieldType.int)) ∈ rg_T := rg_m3 (List.mem_of_getElem? (i := 184) rfl) rfl
theorem tw_m_X6_309 : (Cond.methodLink "RengaHall" 309 yX3_wordOrNone) ∈ rg_T := rg_m3 (List.mem_of_getElem? (i := 185) rfl) rfl
theorem tw_i_X3_wordOrNone : (Cond.instanceMethod yX3_wordOrNone) ∈ rg_T := rg_m3 (List.mem_of_getElem? (i := 186) rfl) rfl
theorem tw_v_X3_wordOrNone : (Cond.selects "RengaHall$Sheet" yX3_wordOrNone yX3_wordOrNone) ∈ rg_T := rg_m3 (List.mem_of_getElem? (i := 187) rfl) rfl
theorem tw_c_X3_wordOrNone : (Cond.code yX3_wordOrNone cX3_wordOrNone 3 (some FieldType.int)) ∈ rg_T := rg_m3 (List.mem_of_getElem? (i := 188) rfl) rfl
theorem tw_m_X3_16 : (Cond.methodLink "RengaHall$Sheet" 16 yX3_isOnSheet) ∈ rg_T := rg_m3 (List.mem_of_getElem? (i := 189) rfl) rfl
theorem tw_i_X3_isOnSheet : (Cond.instanceMethod yX3_isOnSheet) ∈ rg_T := rg_m3 (List.mem_of_getElem? (i := 191) rfl) rfl
theorem tw_c_X3_isOnSheet : (Cond.code yX3_isOnSheet cX3_isOnSheet 3 (some FieldType.boolean)) ∈ rg_T := rg_m3 (List.mem_of_getElem? (i := 192) rfl) rfl
theorem tw_m_X6_221 : (Cond.methodLink "RengaHall" 221 yX3_put) ∈ rg_T := rg_m3 (List.mem_of_getElem? (i := 193) rfl) rfl
theorem tw_i_X3_put : (Cond.instanceMethod yX3_put) ∈ rg_T := rg_m3 (List.mem_of_getElem? (i := 194) rfl) rfl
theorem tw_v_X3_put : (Cond.selects "RengaHall$Sheet" yX3_put yX3_put) ∈ rg_T := rg_m3 (List.mem_of_getElem? (i := 195) rfl) rfl
theorem tw_c_X3_put : (Cond.code yX3_put cX3_put 4 none) ∈ rg_T := rg_m3 (List.mem_of_getElem? (i := 196) rfl) rfl
theorem tw_m_L_139 : (Cond.methodLink "RengaHallLaw" 139 yX6_write) ∈ rg_T := rg_m3 (List.mem_of_getElem? (i := 197) rfl) rfl
theorem tw_i_X6_write : (Cond.instanceMethod yX6_write) ∈ rg_T := rg_m3 (List.mem_of_getElem? (i := 198) rfl) rfl
theorem tw_v_X6_write : (Cond.selects "RengaHall" yX6_write yX6_write) ∈ rg_T := rg_m3 (List.mem_of_getElem? (i := 199) rfl) rfl
theorem tw_c_X6_write : (Cond.code yX6_write cX6_write 6 (some FieldType.int)) ∈ rg_T := rg_m3 (List.mem_of_getElem? (i := 200) rfl) rfl
theorem tw_m_L_174 : (Cond.methodLink "RengaHallLaw" 174 yL_isSame) ∈ rg_T := rg_m3 (List.mem_of_getElem? (i := 202) rfl) rfl
theorem tw_s_L_isSame : (Cond.static yL_isSame) ∈ rg_T := rg_m3 (List.mem_of_getElem? (i := 203) rfl) rfl
theorem tw_c_L_isSame : (Cond.code yL_isSame cL_isSame 15 (some FieldType.boolean)) ∈ rg_T := rg_m3 (List.mem_of_getElem? (i := 204) rfl) rfl
theorem tw_m_L_54 : (Cond.methodLink "RengaHallLaw" 54 yX6_links) ∈ rg_T := rg_m3 (List.mem_of_getElem? (i := 205) rfl) rfl
theorem tw_i_X6_links : (Cond.instanceMethod yX6_links) ∈ rg_T := rg_m3 (List.mem_of_getElem? (i := 206) rfl) rfl
theorem tw_v_X6_links : (Cond.selects "RengaHall" yX6_links yX6_links) ∈ rg_T := rg_m3 (List.mem_of_getElem? (i := 207) rfl) rfl
theorem tw_c_X6_links : (Cond.code yX6_links cX6_links 1 (some FieldType.int)) ∈ rg_T := rg_m3 (List.mem_of_getElem? (i := 208) rfl) rfl
theorem tw_m_L_60 : (Cond.methodLink "RengaHallLaw" 60 yX6_offers) ∈ rg_T := rg_m3 (List.mem_of_getElem? (i := 209) rfl) rfl
theorem tw_i_X6_offers : (Cond.instanceMethod yX6_offers) ∈ rg_T := rg_m3 (List.mem_of_getElem? (i := 210) rfl) rfl
theorem tw_v_X6_offers : (Cond.selects "RengaHall" yX6_offers yX6_offers) ∈ rg_T := rg_m3 (List.mem_of_getElem? (i := 211) rfl) rfl
theorem tw_c_X6_offers : (Cond.code yX6_offers cX6_offers 1 (some FieldType.int)) ∈ rg_T := rg_m3 (List.mem_of_getElem? (i := 212) rfl) rfl
theorem tw_m_L_63 : (Cond.methodLink "RengaHallLaw" 63 yX6_why) ∈ rg_T := rg_m3 (List.mem_of_getElem? (i := 213) rfl) rfl
theorem tw_i_X6_why : (Cond.instanceMethod yX6_why) ∈ rg_T := rg_m3 (List.mem_of_getElem? (i := 214) rfl) rfl
theorem tw_v_X6_why : (Cond.selects "RengaHall" yX6_why yX6_why) ∈ rg_T := rg_m3 (List.mem_of_getElem? (i := 215) rfl) rfl
theorem tw_c_X6_why : (Cond.code yX6_why cX6_why 1 (some FieldType.int)) ∈ rg_T := rg_m3 (List.mem_of_getElem? (i := 216) rfl) rfl
theorem tw_m_L_66 : (Cond.methodLink "RengaHallLaw" 66 yX6_prize) ∈ rg_T := rg_m3 (List.mem_of_getElem? (i := 217) rfl) rfl
theorem tw_i_X6_prize : (Cond.instanceMethod yX6_prize) ∈ rg_T := rg_m3 (List.mem_of_getElem? (i := 218) rfl) rfl
theorem tw_v_X6_prize : (Cond.selects "RengaHall" yX6_prize yX6_prize) ∈ rg_T := rg_m3 (List.mem_of_getElem? (i := 219) rfl) rfl
theorem tw_c_X6_prize : (Cond.code yX6_prize cX6_prize 4 (some FieldType.int)) ∈ rg_T := rg_m3 (List.mem_of_getElem? (i := 220) rfl) rfl
theorem tw_m_X6_252 : (Cond.methodLink "RengaHall" 252 yX0_reset) ∈ rg_T := rg_m3 (List.mem_of_getElem? (i := 221) rfl) rfl
theorem tw_i_X0_reset : (Cond.instanceMethod yX0_reset) ∈ rg_T := rg_m3 (List.mem_of_getElem? (i := 222) rfl) rfl
theorem tw_v_X0_reset : (Cond.selects "RengaHall$Means" yX0_reset yX0_reset) ∈ rg_T := rg_m3 (List.mem_of_getElem? (i := 223) rfl) rfl
theorem tw_c_X0_reset : (Cond.code yX0_reset cX0_reset 2 none) ∈ rg_T := rg_m3 (List.mem_of_getElem? (i := 224) rfl) rfl
theorem tw_m_X6_255 : (Cond.methodLink "RengaHall" 255 yX1_pointsOf) ∈ rg_T := rg_m3 (List.mem_of_getElem? (i := 225) rfl) rfl
theorem tw_i_X1_pointsOf : (Cond.instanceMethod yX1_pointsOf) ∈ rg_T := rg_m3 (List.mem_of_getElem? (i := 226) rfl) rfl
theorem tw_v_X1_pointsOf : (Cond.selects "RengaHall$Poem" yX1_pointsOf yX1_pointsOf) ∈ rg_T := rg_m3 (List.mem_of_getElem? (i := 227) rfl) rfl
theorem tw_c_X1_pointsOf : (Cond.code yX1_pointsOf cX1_pointsOf 4 (some FieldType.int)) ∈ rg_T := rg_m3 (List.mem_of_getElem? (i := 228) rfl) rfl
theorem tw_m_X6_227 : (Cond.methodLink "RengaHall" 227 yX1_makerAt) ∈ rg_T := rg_m3 (List.mem_of_getElem? (i := 229) rfl) rfl
theorem tw_m_X6_258 : (Cond.methodLink "RengaHall" 258 yX0_enter) ∈ rg_T := rg_m3 (List.mem_of_getElem? (i := 230) rfl) rfl
theorem tw_i_X0_enter : (Cond.instanceMethod yX0_enter) ∈ rg_T := rg_m3 (List.mem_of_getElem? (i := 231) rfl) rfl
theorem tw_v_X0_enter : (Cond.selects "RengaHall$Means" yX0_enter yX0_enter) ∈ rg_T := rg_m3 (List.mem_of_getElem? (i := 232) rfl) rfl
theorem tw_c_X0_enter : (Cond.code yX0_enter cX0_enter 3 none) ∈ rg_T := rg_m3 (List.mem_of_getElem? (i := 233) rfl) rfl
theorem tw_m_X6_261 : (Cond.methodLink "RengaHall" 261 yX0_greatest) ∈ rg_T := rg_m3 (List.mem_of_getElem? (i := 234) rfl) rfl
theorem tw_i_X0_greatest : (Cond.instanceMethod yX0_greatest) ∈ rg_T := rg_m3 (List.mem_of_getElem? (i := 235) rfl) rfl
theorem tw_v_X0_greatest : (Cond.selects "RengaHall$Means" yX0_greatest yX0_greatest) ∈ rg_T := rg_m3 (List.mem_of_getElem? (i := 236) rfl) rfl
theorem tw_c_X0_greatest : (Cond.code yX0_greatest cX0_greatest 3 (some FieldType.int)) ∈ rg_T := rg_m3 (List.mem_of_getElem? (i := 237) rfl) rfl
theorem tw_m_X0_18 : (Cond.methodLink "RengaHall$Means" 18 yX0_isGreater) ∈ rg_T := rg_m3 (List.mem_of_getElem? (i := 238) rfl) rfl
theorem tw_i_X0_isGreater : (Cond.instanceMethod yX0_isGreater) ∈ rg_T := rg_m4 (List.mem_of_getElem? (i := 0) rfl) rfl
theorem tw_c_X0_isGreater : (Cond.code yX0_isGreater cX0_isGreater 3 (some FieldType.boolean)) ∈ rg_T := rg_m4 (List.mem_of_getElem? (i := 1) rfl) rfl
theorem tw_m_L_69 : (Cond.methodLink "RengaHallLaw" 69 yL_prize) ∈ rg_T := rg_m4 (List.mem_of_getElem? (i := 2) rfl) rfl
theorem tw_s_L_prize : (Cond.static yL_prize) ∈ rg_T := rg_m4 (List.mem_of_getElem? (i := 3) rfl) rfl
theorem tw_c_L_prize : (Cond.code yL_prize cL_prize 11 (some FieldType.int)) ∈ rg_T := rg_m4 (List.mem_of_getElem? (i := 4) rfl) rfl
theorem tw_m_L_71 : (Cond.methodLink "RengaHallLaw" 71 yX6_ofLink) ∈ rg_T := rg_m4 (List.mem_of_getElem? (i := 5) rfl) rfl
theorem tw_i_X6_ofLink : (Cond.instanceMethod yX6_ofLink) ∈ rg_T := rg_m4 (List.mem_of_getElem? (i := 6) rfl) rfl
theorem tw_v_X6_ofLink : (Cond.selects "RengaHall" yX6_ofLink yX6_ofLink) ∈ rg_T := rg_m4 (List.mem_of_getElem? (i := 7) rfl) rfl
theorem tw_c_X6_ofLink : (Cond.code yX6_ofLink cX6_ofLink 3 (some FieldType.int)) ∈ rg_T := rg_m4 (List.mem_of_getElem? (i := 8) rfl) rfl
theorem tw_m_X6_230 : (Cond.methodLink "RengaHall" 230 yX1_seasonAt) ∈ rg_T := rg_m4 (List.mem_of_getElem? (i := 9) rfl) rfl
theorem tw_m_X6_233 : (Cond.methodLink "RengaHall" 233 yX1_signsAt) ∈ rg_T := rg_m4 (List.mem_of_getElem? (i := 10) rfl) rfl
theorem tw_m_X6_236 : (Cond.methodLink "RengaHall" 236 yX1_runAt) ∈ rg_T := rg_m4 (List.mem_of_getElem? (i := 11) rfl) rfl
theorem tw_m_L_75 : (Cond.methodLink "RengaHallLaw" 75 yX6_wordAt) ∈ rg_T := rg_m4 (List.mem_of_getElem? (i := 12) rfl) rfl
theorem tw_i_X6_wordAt : (Cond.instanceMethod yX6_wordAt) ∈ rg_T := rg_m4 (List.mem_of_getElem? (i := 13) rfl) rfl
theorem tw_v_X6_wordAt : (Cond.selects "RengaHall" yX6_wordAt yX6_wordAt) ∈ rg_T := rg_m4 (List.mem_of_getElem? (i := 14) rfl) rfl
theorem tw_c_X6_wordAt : (Cond.code yX6_wordAt cX6_wordAt 3 (some FieldType.int)) ∈ rg_T := rg_m4 (List.mem_of_getElem? (i := 15) rfl) rfl
theorem tw_m_L_78 : (Cond.methodLink "RengaHallLaw" 78 yX6_faultAnew) ∈ rg_T := rg_m4 (List.mem_of_getElem? (i := 16) rfl) rfl
theorem tw_i_X6_faultAnew : (Cond.instanceMethod yX6_faultAnew) ∈ rg_T := rg_m4 (List.mem_of_getElem? (i := 17) rfl) rfl
theorem tw_v_X6_faultAnew : (Cond.selects "RengaHall" yX6_faultAnew yX6_faultAnew) ∈ rg_T := rg_m4 (List.mem_of_getElem? (i := 18) rfl) rfl
theorem tw_c_X6_faultAnew : (Cond.code yX6_faultAnew cX6_faultAnew 2 (some FieldType.int)) ∈ rg_T := rg_m4 (List.mem_of_getElem? (i := 19) rfl) rfl
theorem tw_m_L_82 : (Cond.methodLink "RengaHallLaw" 82 yX6_hand) ∈ rg_T := rg_m4 (List.mem_of_getElem? (i := 20) rfl) rfl
theorem tw_i_X6_hand : (Cond.instanceMethod yX6_hand) ∈ rg_T := rg_m4 (List.mem_of_getElem? (i := 21) rfl) rfl
theorem tw_v_X6_hand : (Cond.selects "RengaHall" yX6_hand yX6_hand) ∈ rg_T := rg_m4 (List.mem_of_getElem? (i := 22) rfl) rfl
theorem tw_c_X6_hand : (Cond.code yX6_hand cX6_hand 3 (some FieldType.int)) ∈ rg_T := rg_m4 (List.mem_of_getElem? (i := 23) rfl) rfl
theorem tw_m_X6_268 : (Cond.methodLink "RengaHall" 268 yX6_likeness) ∈ rg_T := rg_m4 (List.mem_of_getElem? (i := 24) rfl) rfl
theorem tw_i_X6_likeness : (Cond.instanceMethod yX6_likeness) ∈ rg_T := rg_m4 (List.mem_of_getElem? (i := 26) rfl) rfl
theorem tw_c_X6_likeness : (Cond.code yX6_likeness cX6_likeness 5 (some FieldType.int)) ∈ rg_T := rg_m4 (List.mem_of_getElem? (i := 27) rfl) rfl
theorem tw_m_X6_295 : (Cond.methodLink "RengaHall" 295 yX1_wordSetAt) ∈ rg_T := rg_m4 (List.mem_of_getElem? (i := 28) rfl) rfl
theorem tw_m_X6_299 : (Cond.methodLink "RengaHall" 299 yJ13_bitCount_95d88) ∈ rg_T := rg_m4 (List.mem_of_getElem? (i := 29) rfl) rfl
theorem tw_s_J13_bitCount_95d88 : (Cond.static yJ13_bitCount_95d88) ∈ rg_T := rg_m4 (List.mem_of_getElem? (i := 30) rfl) rfl
theorem tw_c_J13_bitCount_95d88 : (Cond.code yJ13_bitCount_95d88 cJ13_bitCount_95d88 2 (some FieldType.int)) ∈ rg_T := rg_m4 (List.mem_of_getElem? (i := 31) rfl) rfl
theorem tw_q_J13_314 : (Cond.constantLong "java/lang/Long" 314 (6148914691236517205 : Int64)) ∈ rg_T := rg_m4 (List.mem_of_getElem? (i := 32) rfl) rfl
theorem tw_q_J13_316 : (Cond.constantLong "java/lang/Long" 316 (3689348814741910323 : Int64)) ∈ rg_T := rg_m4 (List.mem_of_getElem? (i := 33) rfl) rfl
theorem tw_q_J13_318 : (Cond.constantLong "java/lang/Long" 318 (1085102592571150095 : Int64)) ∈ rg_T := rg_m4 (List.mem_of_getElem? (i := 34) rfl) rfl
theorem tw_m_X6_305 : (Cond.methodLink "RengaHall" 305 yJ6_bitCount_0f7a4) ∈ rg_T := rg_m4 (List.mem_of_getElem? (i := 35) rfl) rfl
theorem tw_s_J6_bitCount_0f7a4 : (Cond.static yJ6_bitCount_0f7a4) ∈ rg_T := rg_m4 (List.mem_of_getElem? (i := 36) rfl) rfl
theorem tw_c_J6_bitCount_0f7a4 : (Cond.code yJ6_bitCount_0f7a4 cJ6_bitCount_0f7a4 1 (some FieldType.int)) ∈ rg_T := rg_m4 (List.mem_of_getElem? (i := 37) rfl) rfl
theorem tw_q_J6_265 : (Cond.constant "java/lang/Integer" 265 (1431655765 : Int32)) ∈ rg_T := rg_m4 (List.mem_of_getElem? (i := 38) rfl) rfl
theorem tw_q_J6_266 : (Cond.constant "java/lang/Integer" 266 (858993459 : Int32)) ∈ rg_T := rg_m4 (List.mem_of_getElem? (i := 39) rfl) rfl
theorem tw_q_J6_267 : (Cond.constant "java/lang/Integer" 267 (252645135 : Int32)) ∈ rg_T := rg_m4 (List.mem_of_getElem? (i := 40) rfl) rfl
theorem tw_m_L_85 : (Cond.methodLink "RengaHallLaw" 85 yL_hand) ∈ rg_T := rg_m4 (List.mem_of_getElem? (i := 41) rfl) rfl
theorem tw_s_L_hand : (Cond.static yL_hand) ∈ rg_T := rg_m4 (List.mem_of_getElem? (i := 42) rfl) rfl
theorem tw_c_L_hand : (Cond.code yL_hand cL_hand 12 (some FieldType.int)) ∈ rg_T := rg_m4 (List.mem_of_getElem? (i := 43) rfl) rfl
theorem tw_m_L_50 : (Cond.methodLink "RengaHallLaw" 50 yL_alike) ∈ rg_T := rg_m4 (List.mem_of_getElem? (i := 44) rfl) rfl
theorem tw_s_L_alike : (Cond.static yL_alike) ∈ rg_T := rg_m4 (List.mem_of_getElem? (i := 45) rfl) rfl
theorem tw_c_L_alike : (Cond.code yL_alike cL_alike 6 (some FieldType.int)) ∈ rg_T := rg_m4 (List.mem_of_getElem? (i := 46) rfl) rfl
theorem tw_m_L_88 : (Cond.methodLink "RengaHallLaw" 88 yX6_far) ∈ rg_T := rg_m4 (List.mem_of_getElem? (i := 47) rfl) rfl
theorem tw_i_X6_far : (Cond.instanceMethod yX6_far) ∈ rg_T := rg_m4 (List.mem_of_getElem? (i := 48) rfl) rfl
theorem tw_v_X6_far : (Cond.selects "RengaHall" yX6_far yX6_far) ∈ rg_T := rg_m4 (List.mem_of_getElem? (i := 49) rfl) rfl
theorem tw_c_X6_far : (Cond.code yX6_far cX6_far 3 (some FieldType.int)) ∈ rg_T := rg_m4 (List.mem_of_getElem? (i := 50) rfl) rfl
theorem tw_m_X6_265 : (Cond.methodLink "RengaHall" 265 yX6_distance) ∈ rg_T := rg_m4 (List.mem_of_getElem? (i := 51) rfl) rfl
theorem tw_i_X6_distance : (Cond.instanceMethod yX6_distance) ∈ rg_T := rg_m4 (List.mem_of_getElem? (i := 53) rfl) rfl
theorem tw_c_X6_distance : (Cond.code yX6_distance cX6_distance 6 (some FieldType.int)) ∈ rg_T := rg_m4 (List.mem_of_getElem? (i := 54) rfl) rfl
theorem tw_m_L_91 : (Cond.methodLink "RengaHallLaw" 91 yL_far) ∈ rg_T := rg_m4 (List.mem_of_getElem? (i := 55) rfl) rfl
theorem tw_s_L_far : (Cond.static yL_far) ∈ rg_T := rg_m4 (List.mem_of_getElem? (i := 56) rfl) rfl
theorem tw_c_L_far : (Cond.code yL_far cL_far 4 (some FieldType.int)) ∈ rg_T := rg_m4 (List.mem_of_getElem? (i := 57) rfl) rfl
theorem tw_m_L_94 : (Cond.methodLink "RengaHallLaw" 94 yX6_source) ∈ rg_T := rg_m4 (List.mem_of_getElem? (i := 58) rfl) rfl
theorem tw_i_X6_source : (Cond.instanceMethod yX6_source) ∈ rg_T := rg_m4 (List.mem_of_getElem? (i := 59) rfl) rfl
theorem tw_v_X6_source : (Cond.selects "RengaHall" yX6_source yX6_source) ∈ rg_T := rg_m4 (List.mem_of_getElem? (i := 60) rfl) rfl
theorem tw_c_X6_source : (Cond.code yX6_source cX6_source 6 (some FieldType.int)) ∈ rg_T := rg_m4 (List.mem_of_getElem? (i := 61) rfl) rfl
theorem tw_m_L_97 : (Cond.methodLink "RengaHallLaw" 97 yX6_chances) ∈ rg_T := rg_m4 (List.mem_of_getElem? (i := 62) rfl) rfl
theorem tw_i_X6_chances : (Cond.instanceMethod yX6_chances) ∈ rg_T := rg_m4 (List.mem_of_getElem? (i := 63) rfl) rfl
theorem tw_v_X6_chances : (Cond.selects "RengaHall" yX6_chances yX6_chances) ∈ rg_T := rg_m4 (List.mem_of_getElem? (i := 64) rfl) rfl
theorem tw_c_X6_chances : (Cond.code yX6_chances cX6_chances 5 (some FieldType.int)) ∈ rg_T := rg_m4 (List.mem_of_getElem? (i := 65) rfl) rfl
theorem tw_m_X6_249 : (Cond.methodLink "RengaHall" 249 yX6_chanceOf) ∈ rg_T := rg_m4 (List.mem_of_getElem? (i := 66) rfl) rfl
theorem tw_i_X6_chanceOf : (Cond.instanceMethod yX6_chanceOf) ∈ rg_T := rg_m4 (List.mem_of_getElem? (i := 68) rfl) rfl
theorem tw_c_X6_chanceOf : (Cond.code yX6_chanceOf cX6_chanceOf 4 (some FieldType.int)) ∈ rg_T := rg_m4 (List.mem_of_getElem? (i := 69) rfl) rfl
theorem tw_v_X6_needRange : Cond.selects "RengaHall" yX6_needRange yX6_needRange ∈ rg_T := rg_m0 (List.mem_of_getElem? (i := 0) rfl) rfl
theorem tw_v_X6_needWord : Cond.selects "RengaHall" yX6_needWord yX6_needWord ∈ rg_T := rg_m0 (List.mem_of_getElem? (i := 2) rfl) rfl
theorem tw_v_X6_needPoet : Cond.selects "RengaHall" yX6_needPoet yX6_needPoet ∈ rg_T := rg_m0 (List.mem_of_getElem? (i := 3) rfl) rfl
theorem tw_v_X2_unlikeSeasonPlace : Cond.selects "RengaHall$Scribe" yX2_unlikeSeasonPlace yX2_unlikeSeasonPlace ∈ rg_T := rg_m0 (List.mem_of_getElem? (i := 4) rfl) rfl
theorem tw_v_X2_wordAgainPlace : Cond.selects "RengaHall$Scribe" yX2_wordAgainPlace yX2_wordAgainPlace ∈ rg_T := rg_m0 (List.mem_of_getElem? (i := 5) rfl) rfl
theorem tw_v_X2_joins : Cond.selects "RengaHall$Scribe" yX2_joins yX2_joins ∈ rg_T := rg_m0 (List.mem_of_getElem? (i := 6) rfl) rfl
theorem tw_v_X2_lowestSubject : Cond.selects "RengaHall$Scribe" yX2_lowestSubject yX2_lowestSubject ∈ rg_T := rg_m0 (List.mem_of_getElem? (i := 7) rfl) rfl
theorem tw_v_X2_wrongSeason : Cond.selects "RengaHall$Scribe" yX2_wrongSeason yX2_wrongSeason ∈ rg_T := rg_m0 (List.mem_of_getElem? (i := 8) rfl) rfl
theorem tw_v_X2_leastRun : Cond.selects "RengaHall$Scribe" yX2_leastRun yX2_leastRun ∈ rg_T := rg_m0 (List.mem_of_getElem? (i := 9) rfl) rfl
theorem tw_v_X2_isLong : Cond.selects "RengaHall$Scribe" yX2_isLong yX2_isLong ∈ rg_T := rg_m0 (List.mem_of_getElem? (i := 10) rfl) rfl
theorem tw_v_X2_mostRun : Cond.selects "RengaHall$Scribe" yX2_mostRun yX2_mostRun ∈ rg_T := rg_m0 (List.mem_of_getElem? (i := 11) rfl) rfl
theorem tw_v_X2_isLately : Cond.selects "RengaHall$Scribe" yX2_isLately yX2_isLately ∈ rg_T := rg_m0 (List.mem_of_getElem? (i := 12) rfl) rfl
theorem tw_v_X2_wrongSeat : Cond.selects "RengaHall$Scribe" yX2_wrongSeat yX2_wrongSeat ∈ rg_T := rg_m0 (List.mem_of_getElem? (i := 13) rfl) rfl
theorem tw_v_X6_needLink : Cond.selects "RengaHall" yX6_needLink yX6_needLink ∈ rg_T := rg_m0 (List.mem_of_getElem? (i := 14) rfl) rfl
theorem tw_v_X6_needPlace : Cond.selects "RengaHall" yX6_needPlace yX6_needPlace ∈ rg_T := rg_m0 (List.mem_of_getElem? (i := 15) rfl) rfl
theorem tw_v_X6_needNoOffers : Cond.selects "RengaHall" yX6_needNoOffers yX6_needNoOffers ∈ rg_T := rg_m0 (List.mem_of_getElem? (i := 16) rfl) rfl
theorem tw_v_X6_needText : Cond.selects "RengaHall" yX6_needText yX6_needText ∈ rg_T := rg_m0 (List.mem_of_getElem? (i := 17) rfl) rfl
theorem tw_v_X6_needCopy : Cond.selects "RengaHall" yX6_needCopy yX6_needCopy ∈ rg_T := rg_m0 (List.mem_of_getElem? (i := 18) rfl) rfl
theorem tw_v_X6_needPoem : Cond.selects "RengaHall" yX6_needPoem yX6_needPoem ∈ rg_T := rg_m0 (List.mem_of_getElem? (i := 19) rfl) rfl
theorem tw_v_X6_fillSheet : Cond.selects "RengaHall" yX6_fillSheet yX6_fillSheet ∈ rg_T := rg_m0 (List.mem_of_getElem? (i := 20) rfl) rfl
theorem tw_v_X6_textWord : Cond.selects "RengaHall" yX6_textWord yX6_textWord ∈ rg_T := rg_m0 (List.mem_of_getElem? (i := 21) rfl) rfl
theorem tw_v_X3_isOnSheet : Cond.selects "RengaHall$Sheet" yX3_isOnSheet yX3_isOnSheet ∈ rg_T := rg_m0 (List.mem_of_getElem? (i := 22) rfl) rfl
theorem tw_v_X0_isGreater : Cond.selects "RengaHall$Means" yX0_isGreater yX0_isGreater ∈ rg_T := rg_m0 (List.mem_of_getElem? (i := 23) rfl) rfl
theorem tw_v_X6_likeness : Cond.selects "RengaHall" yX6_likeness yX6_likeness ∈ rg_T := rg_m0 (List.mem_of_getElem? (i := 24) rfl) rfl
theorem tw_v_X6_distance : Cond.selects "RengaHall" yX6_distance yX6_distance ∈ rg_T := rg_m0 (List.mem_of_getElem? (i := 25) rfl) rfl
theorem tw_v_X6_chanceOf : Cond.selects "RengaHall" yX6_chanceOf yX6_chanceOf ∈ rg_T := rg_m0 (List.mem_of_getElem? (i := 26) rfl) rfl
theorem tw_l_X0_0 : u_lay RX0 TX0 0 ∈ rg_T := rg_m1 (List.mem_of_getElem? (i := 165) rfl) rfl
theorem tw_l_X0_1 : u_lay RX0 TX0 1 ∈ rg_T := rg_m1 (List.mem_of_getElem? (i := 167) rfl) rfl
theorem inT_X0 : ∀ w ∈ u_ws RX0 TX0 2, w ∈ rg_T := by
  intro w hw
  obtain ⟨k, hk, rfl⟩ := List.mem_map.mp hw
  have hk := List.mem_range.mp hk
  match k, hk with
  | 0, _ => exact tw_l_X0_0
  | 1, _ => exact tw_l_X0_1
  | k + 2, hk => exact absurd hk (by omega)
theorem tw_l_X1_0 : u_lay RX1 TX1 0 ∈ rg_T := rg_m1 (List.mem_of_getElem? (i := 119) rfl) rfl
theorem tw_l_X1_1 : u_lay RX1 TX1 1 ∈ rg_T := rg_m1 (List.mem_of_getElem? (i := 121) rfl) rfl
theorem tw_l_X1_2 : u_lay RX1 TX1 2 ∈ rg_T := rg_m1 (List.mem_of_getElem? (i := 123) rfl) rfl
theorem tw_l_X1_3 : u_lay RX1 TX1 3 ∈ rg_T := rg_m1 (List.mem_of_getElem? (i := 125) rfl) rfl
theorem tw_l_X1_4 : u_lay RX1 TX1 4 ∈ rg_T := rg_m1 (List.mem_of_getElem? (i := 127) rfl) rfl
theorem tw_l_X1_5 : u_lay RX1 TX1 5 ∈ rg_T := rg_m1 (List.mem_of_getElem? (i := 129) rfl) rfl
theorem tw_l_X1_6 : u_lay RX1 TX1 6 ∈ rg_T := rg_m1 (List.mem_of_getElem? (i := 131) rfl) rfl
theorem tw_l_X1_7 : u_lay RX1 TX1 7 ∈ rg_T := rg_m1 (List.mem_of_getElem? (i := 133) rfl) rfl
theorem tw_l_X1_8 : u_lay RX1 TX1 8 ∈ rg_T := rg_m1 (List.mem_of_getElem? (i := 135) rfl) rfl
theorem tw_l_X1_9 : u_lay RX1 TX1 9 ∈ rg_T := rg_m1 (List.mem_of_getElem? (i := 137) rfl) rfl
theorem tw_l_X1_10 : u_lay RX1 TX1 10 ∈ rg_T := rg_m1 (List.mem_of_getElem? (i := 139) rfl) rfl
theorem inT_X1 : ∀ w ∈ u_ws RX1 TX1 11, w ∈ rg_T := by
  intro w hw
  obtain ⟨k, hk, rfl⟩ := List.mem_map.mp hw
  have hk := List.mem_range.mp hk
  match k, hk with
  | 0, _ => exact tw_l_X1_0
  | 1, _ => exact tw_l_X1_1
  | 2, _ => exact tw_l_X1_2
  | 3, _ => exact tw_l_X1_3
  | 4, _ => exact tw_l_X1_4
  | 5, _ => exact tw_l_X1_5
  | 6, _ => exact tw_l_X1_6
  | 7, _ => exact tw_l_X1_7
  | 8, _ => exact tw_l_X1_8
  | 9, _ => exact tw_l_X1_9
  | 10, _ => exact tw_l_X1_10
  | k + 11, hk => exact absurd hk (by omega)
theorem tw_l_X2_0 : u_lay RX2 TX2 0 ∈ rg_T := rg_m1 (List.mem_of_getElem? (i := 150) rfl) rfl
theorem tw_l_X2_1 : u_lay RX2 TX2 1 ∈ rg_T := rg_m1 (List.mem_of_getElem? (i := 152) rfl) rfl
theorem inT_X2 : ∀ w ∈ u_ws RX2 TX2 2, w ∈ rg_T := by
  intro w hw
  obtain ⟨k, hk, rfl⟩ := List.mem_map.mp hw
  have hk := List.mem_range.mp hk
  match k, hk with
  | 0, _ => exact tw_l_X2_0
  | 1, _ => exact tw_l_X2_1
  | k + 2, hk => exact absurd hk (by omega)
theorem tw_l_X3_0 : u_lay RX3 TX3 0 ∈ rg_T := rg_m1 (List.mem_of_getElem? (i := 179) rfl) rfl
theorem inT_X3 : ∀ w ∈ u_ws RX3 TX3 1, w ∈ rg_T := by
  intro w hw
  obtain ⟨k, hk, rfl⟩ := List.mem_map.mp hw
  have hk := List.mem_range.mp hk
  match k, hk with
  | 0, _ => exact tw_l_X3_0
  | k + 1, hk => exact absurd hk (by omega)
theorem tw_l_X4_0 : u_lay RX4 TX4 0 ∈ rg_T := rg_m1 (List.mem_of_getElem? (i := 45) rfl) rfl
theorem tw_l_X4_1 : u_lay RX4 TX4 1 ∈ rg_T := rg_m1 (List.mem_of_getElem? (i := 47) rfl) rfl
theorem tw_l_X4_2 : u_lay RX4 TX4 2 ∈ rg_T := rg_m1 (List.mem_of_getElem? (i := 49) rfl) rfl
theorem tw_l_X4_3 : u_lay RX4 TX4 3 ∈ rg_T := rg_m1 (List.mem_of_getElem? (i := 51) rfl) rfl
theorem tw_l_X4_4 : u_lay RX4 TX4 4 ∈ rg_T := rg_m1 (List.mem_of_getElem? (i := 53) rfl) rfl
theorem inT_X4 : ∀ w ∈ u_ws RX4 TX4 5, w ∈ rg_T := by
  intro w hw
  obtain ⟨k, hk, rfl⟩ := List.mem_map.mp hw
  have hk := List.mem_range.mp hk
  match k, hk with
  | 0, _ => exact tw_l_X4_0
  | 1, _ => exact tw_l_X4_1
  | 2, _ => exact tw_l_X4_2
  | 3, _ => exact tw_l_X4_3
  | 4, _ => exact tw_l_X4_4
  | k + 5, hk => exact absurd hk (by omega)
theorem tw_l_X5_0 : u_lay RX5 TX5 0 ∈ rg_T := rg_m1 (List.mem_of_getElem? (i := 87) rfl) rfl
theorem tw_l_X5_1 : u_lay RX5 TX5 1 ∈ rg_T := rg_m1 (List.mem_of_getElem? (i := 89) rfl) rfl
theorem tw_l_X5_2 : u_lay RX5 TX5 2 ∈ rg_T := rg_m1 (List.mem_of_getElem? (i := 91) rfl) rfl
theorem tw_l_X5_3 : u_lay RX5 TX5 3 ∈ rg_T := rg_m1 (List.mem_of_getElem? (i := 93) rfl) rfl
theorem tw_l_X5_4 : u_lay RX5 TX5 4 ∈ rg_T := rg_m1 (List.mem_of_getElem? (i := 95) rfl) rfl
theorem tw_l_X5_5 : u_lay RX5 TX5 5 ∈ rg_T := rg_m1 (List.mem_of_getElem? (i := 97) rfl) rfl
theorem inT_X5 : ∀ w ∈ u_ws RX5 TX5 6, w ∈ rg_T := by
  intro w hw
  obtain ⟨k, hk, rfl⟩ := List.mem_map.mp hw
  have hk := List.mem_range.mp hk
  match k, hk with
  | 0, _ => exact tw_l_X5_0
  | 1, _ => exact tw_l_X5_1
  | 2, _ => exact tw_l_X5_2
  | 3, _ => exact tw_l_X5_3
  | 4, _ => exact tw_l_X5_4
  | 5, _ => exact tw_l_X5_5
  | k + 6, hk => exact absurd hk (by omega)
theorem tw_l_X6_0 : u_lay RX6 TX6 0 ∈ rg_T := rg_m1 (List.mem_of_getElem? (i := 195) rfl) rfl
theorem tw_l_X6_1 : u_lay RX6 TX6 1 ∈ rg_T := rg_m1 (List.mem_of_getElem? (i := 197) rfl) rfl
theorem tw_l_X6_2 : u_lay RX6 TX6 2 ∈ rg_T := rg_m1 (List.mem_of_getElem? (i := 199) rfl) rfl
theorem tw_l_X6_3 : u_lay RX6 TX6 3 ∈ rg_T := rg_m1 (List.mem_of_getElem? (i := 201) rfl) rfl
theorem tw_l_X6_4 : u_lay RX6 TX6 4 ∈ rg_T := rg_m1 (List.mem_of_getElem? (i := 203) rfl) rfl
theorem tw_l_X6_5 : u_lay RX6 TX6 5 ∈ rg_T := rg_m1 (List.mem_of_getElem? (i := 205) rfl) rfl
theorem tw_l_X6_6 : u_lay RX6 TX6 6 ∈ rg_T := rg_m1 (List.mem_of_getElem? (i := 207) rfl) rfl
theorem tw_l_X6_7 : u_lay RX6 TX6 7 ∈ rg_T := rg_m1 (List.mem_of_getElem? (i := 209) rfl) rfl
theorem tw_l_X6_8 : u_lay RX6 TX6 8 ∈ rg_T := rg_m1 (List.mem_of_getElem? (i := 211) rfl) rfl
theorem tw_l_X6_9 : u_lay RX6 TX6 9 ∈ rg_T := rg_m1 (List.mem_of_getElem? (i := 213) rfl) rfl
theorem tw_l_X6_10 : u_lay RX6 TX6 10 ∈ rg_T := rg_m1 (List.mem_of_getElem? (i := 215) rfl) rfl
theorem tw_l_X6_11 : u_lay RX6 TX6 11 ∈ rg_T := rg_m1 (List.mem_of_getElem? (i := 217) rfl) rfl
theorem tw_l_X6_12 : u_lay RX6 TX6 12 ∈ rg_T := rg_m1 (List.mem_of_getElem? (i := 219) rfl) rfl
theorem inT_X6 : ∀ w ∈ u_ws RX6 TX6 13, w ∈ rg_T := by
  intro w hw
  obtain ⟨k, hk, rfl⟩ := List.mem_map.mp hw
  have hk := List.mem_range.mp hk
  match k, hk with
  | 0, _ => exact tw_l_X6_0
  | 1, _ => exact tw_l_X6_1
  | 2, _ => exact tw_l_X6_2
  | 3, _ => exact tw_l_X6_3
  | 4, _ => exact tw_l_X6_4
  | 5, _ => exact tw_l_X6_5
  | 6, _ => exact tw_l_X6_6
  | 7, _ => exact tw_l_X6_7
  | 8, _ => exact tw_l_X6_8
  | 9, _ => exact tw_l_X6_9
  | 10, _ => exact tw_l_X6_10
  | 11, _ => exact tw_l_X6_11
  | 12, _ => exact tw_l_X6_12
  | k + 13, hk => exact absurd hk (by omega)
