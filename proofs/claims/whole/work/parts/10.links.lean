/-! links of the constant pools (gen_names.py) -/
set_option maxRecDepth 4000 in
theorem n_L_7 : jc_nw "JudgedCodesLaw" 7 0 4 := ⟨_, _, rfl, jt1 (i := 25) rfl, jt1 (i := 26) rfl, jt1 (i := 1) rfl, ck_0⟩
set_option maxRecDepth 4000 in
theorem l_L_9 : Cond.methodLink "JudgedCodesLaw" 9 y_J_init.1 ∈ lw_tbl := jt1 (i := 27) rfl
set_option maxRecDepth 4000 in
theorem n_L_10 : jc_nw "JudgedCodesLaw" 10 10 9 := ⟨_, _, rfl, jt4 (i := 47) rfl, jt4 (i := 48) rfl, jt1 (i := 6) rfl, ck_10⟩
set_option maxRecDepth 4000 in
theorem l_L_12 : Cond.methodLink "JudgedCodesLaw" 12 y_m_init.1 ∈ lw_tbl := jt4 (i := 49) rfl
set_option maxRecDepth 4000 in
theorem l_L_13 : Cond.methodLink "JudgedCodesLaw" 13 y_J_code.1 ∈ lw_tbl := jt1 (i := 142) rfl
set_option maxRecDepth 4000 in
theorem l_L_17 : Cond.methodLink "JudgedCodesLaw" 17 y_m_code.1 ∈ lw_tbl := jt4 (i := 107) rfl
set_option maxRecDepth 4000 in
theorem l_L_18 : Cond.methodLink "JudgedCodesLaw" 18 y_J_local.1 ∈ lw_tbl := jt1 (i := 201) rfl
set_option maxRecDepth 4000 in
theorem l_L_22 : Cond.methodLink "JudgedCodesLaw" 22 y_m_local.1 ∈ lw_tbl := jt4 (i := 230) rfl
set_option maxRecDepth 4000 in
theorem l_L_23 : Cond.methodLink "JudgedCodesLaw" 23 y_J_add.1 ∈ lw_tbl := jt1 (i := 213) rfl
set_option maxRecDepth 4000 in
theorem l_L_26 : Cond.methodLink "JudgedCodesLaw" 26 y_m_add.1 ∈ lw_tbl := jt4 (i := 234) rfl
set_option maxRecDepth 4000 in
theorem l_L_27 : Cond.methodLink "JudgedCodesLaw" 27 y_J_row.1 ∈ lw_tbl := jt1 (i := 224) rfl
set_option maxRecDepth 4000 in
theorem l_L_31 : Cond.methodLink "JudgedCodesLaw" 31 y_m_row.1 ∈ lw_tbl := jt4 (i := 238) rfl
set_option maxRecDepth 4000 in
theorem l_L_32 : Cond.methodLink "JudgedCodesLaw" 32 y_J_judge.1 ∈ lw_tbl := jt2 (i := 14) rfl
set_option maxRecDepth 4000 in
theorem l_L_35 : Cond.methodLink "JudgedCodesLaw" 35 y_m_judge.1 ∈ lw_tbl := jt5 (i := 5) rfl
set_option maxRecDepth 4000 in
theorem l_L_36 : Cond.methodLink "JudgedCodesLaw" 36 y_J_thread.1 ∈ lw_tbl := jt2 (i := 128) rfl
set_option maxRecDepth 4000 in
theorem l_L_39 : Cond.methodLink "JudgedCodesLaw" 39 y_m_thread.1 ∈ lw_tbl := jt5 (i := 65) rfl
set_option maxRecDepth 4000 in
theorem l_L_40 : Cond.methodLink "JudgedCodesLaw" 40 y_J_run.1 ∈ lw_tbl := jt2 (i := 216) rfl
set_option maxRecDepth 4000 in
theorem l_L_43 : Cond.methodLink "JudgedCodesLaw" 43 y_m_run.1 ∈ lw_tbl := jt5 (i := 153) rfl
set_option maxRecDepth 4000 in
theorem l_L_44 : Cond.methodLink "JudgedCodesLaw" 44 y_J_told.1 ∈ lw_tbl := jt3 (i := 227) rfl
set_option maxRecDepth 4000 in
theorem l_L_47 : Cond.methodLink "JudgedCodesLaw" 47 y_m_told.1 ∈ lw_tbl := jt5 (i := 236) rfl
set_option maxRecDepth 4000 in
theorem l_L_48 : Cond.methodLink "JudgedCodesLaw" 48 y_J_object.1 ∈ lw_tbl := jt4 (i := 3) rfl
set_option maxRecDepth 4000 in
theorem l_L_51 : Cond.methodLink "JudgedCodesLaw" 51 y_m_object.1 ∈ lw_tbl := jt6 (i := 0) rfl
set_option maxRecDepth 4000 in
theorem l_L_52 : Cond.methodLink "JudgedCodesLaw" 52 y_J_value.1 ∈ lw_tbl := jt4 (i := 13) rfl
set_option maxRecDepth 4000 in
theorem l_L_55 : Cond.methodLink "JudgedCodesLaw" 55 y_m_value.1 ∈ lw_tbl := jt6 (i := 8) rfl
set_option maxRecDepth 4000 in
theorem l_L_56 : Cond.methodLink "JudgedCodesLaw" 56 y_J_global.1 ∈ lw_tbl := jt4 (i := 20) rfl
set_option maxRecDepth 4000 in
theorem l_L_59 : Cond.methodLink "JudgedCodesLaw" 59 y_m_global.1 ∈ lw_tbl := jt6 (i := 4) rfl
set_option maxRecDepth 4000 in
theorem l_L_60 : Cond.methodLink "JudgedCodesLaw" 60 y_J_stuck.1 ∈ lw_tbl := jt4 (i := 25) rfl
set_option maxRecDepth 4000 in
theorem l_L_64 : Cond.methodLink "JudgedCodesLaw" 64 y_m_stuck.1 ∈ lw_tbl := jt6 (i := 12) rfl
set_option maxRecDepth 4000 in
theorem l_L_65 : Cond.methodLink "JudgedCodesLaw" 65 y_J_reset.1 ∈ lw_tbl := jt4 (i := 34) rfl
set_option maxRecDepth 4000 in
theorem l_L_68 : Cond.methodLink "JudgedCodesLaw" 68 y_m_reset.1 ∈ lw_tbl := jt6 (i := 16) rfl
set_option maxRecDepth 4000 in
theorem l_J_1 : Cond.methodLink "JudgedCodes" 1 objectInit ∈ lw_tbl := jt1 (i := 30) rfl
set_option maxRecDepth 4000 in
theorem n_J_7 : jc_nw "JudgedCodes" 7 1 3 := ⟨_, _, rfl, jt1 (i := 33) rfl, jt1 (i := 34) rfl, jt1 (i := 2) rfl, ck_1⟩
set_option maxRecDepth 4000 in
theorem l_J_9 : Cond.methodLinkNest "JudgedCodes" 9 y_Cs_init.1 "JudgedCodes" ∈ lw_tbl := jt1 (i := 35) rfl
set_option maxRecDepth 4000 in
theorem f_J_10 : jc_fl "JudgedCodes" 10 0 0 "LJudgedCodes$Codes;" true := ⟨_, _, _, "JudgedCodes", rfl, by decide, jt1 (i := 129) rfl, Or.inl rfl, rfl, rfl, ck_0⟩
set_option maxRecDepth 4000 in
theorem n_J_16 : jc_nw "JudgedCodes" 16 2 8 := ⟨_, _, rfl, jt1 (i := 51) rfl, jt1 (i := 52) rfl, jt1 (i := 3) rfl, ck_2⟩
set_option maxRecDepth 4000 in
theorem l_J_18 : Cond.methodLink "JudgedCodes" 18 y_G_init.1 ∈ lw_tbl := jt1 (i := 53) rfl
set_option maxRecDepth 4000 in
theorem f_J_21 : jc_fl "JudgedCodes" 21 0 1 "LJudgedCodes$Judge;" true := ⟨_, _, _, "JudgedCodes", rfl, by decide, jt1 (i := 130) rfl, Or.inl rfl, rfl, rfl, ck_0⟩
set_option maxRecDepth 4000 in
theorem n_J_25 : jc_nw "JudgedCodes" 25 3 4 := ⟨_, _, rfl, jt1 (i := 84) rfl, jt1 (i := 85) rfl, jt1 (i := 4) rfl, ck_3⟩
set_option maxRecDepth 4000 in
theorem l_J_27 : Cond.methodLinkNest "JudgedCodes" 27 y_H_init.1 "JudgedCodes" ∈ lw_tbl := jt1 (i := 86) rfl
set_option maxRecDepth 4000 in
theorem f_J_28 : jc_fl "JudgedCodes" 28 0 2 "LJudgedCodes$Heap;" true := ⟨_, _, _, "JudgedCodes", rfl, by decide, jt1 (i := 131) rfl, Or.inl rfl, rfl, rfl, ck_0⟩
set_option maxRecDepth 4000 in
theorem n_J_32 : jc_nw "JudgedCodes" 32 4 5 := ⟨_, _, rfl, jt1 (i := 105) rfl, jt1 (i := 106) rfl, jt1 (i := 5) rfl, ck_4⟩
set_option maxRecDepth 4000 in
theorem l_J_34 : Cond.methodLink "JudgedCodes" 34 y_M_init.1 ∈ lw_tbl := jt1 (i := 107) rfl
set_option maxRecDepth 4000 in
theorem f_J_37 : jc_fl "JudgedCodes" 37 0 3 "LJudgedCodes$Machine;" true := ⟨_, _, _, "JudgedCodes", rfl, by decide, jt1 (i := 132) rfl, Or.inl rfl, rfl, rfl, ck_0⟩
set_option maxRecDepth 4000 in
theorem l_Cs_3 : Cond.methodLink "JudgedCodes$Codes" 3 objectInit ∈ lw_tbl := jt1 (i := 38) rfl
set_option maxRecDepth 4000 in
theorem c_Cs_9 : Cond.classLink "JudgedCodes$Codes" 9 "JudgedCodes$Code" ∈ lw_tbl := jt1 (i := 39) rfl
set_option maxRecDepth 4000 in
theorem f_Cs_11 : jc_fl "JudgedCodes$Codes" 11 1 0 "[LJudgedCodes$Code;" true := ⟨_, _, _, "JudgedCodes$Codes", rfl, by decide, jt1 (i := 41) rfl, Or.inl rfl, rfl, rfl, ck_1⟩
set_option maxRecDepth 4000 in
theorem l_G_3 : Cond.methodLink "JudgedCodes$Judge" 3 objectInit ∈ lw_tbl := jt1 (i := 56) rfl
set_option maxRecDepth 4000 in
theorem f_G_9 : jc_fl "JudgedCodes$Judge" 9 2 1 "[I" true := ⟨_, _, _, "JudgedCodes$Judge", rfl, by decide, jt1 (i := 58) rfl, Or.inl rfl, rfl, rfl, ck_2⟩
set_option maxRecDepth 4000 in
theorem f_G_15 : jc_fl "JudgedCodes$Judge" 15 2 2 "[I" true := ⟨_, _, _, "JudgedCodes$Judge", rfl, by decide, jt1 (i := 59) rfl, Or.inl rfl, rfl, rfl, ck_2⟩
set_option maxRecDepth 4000 in
theorem f_G_18 : jc_fl "JudgedCodes$Judge" 18 2 3 "[I" true := ⟨_, _, _, "JudgedCodes$Judge", rfl, by decide, jt1 (i := 60) rfl, Or.inl rfl, rfl, rfl, ck_2⟩
set_option maxRecDepth 4000 in
theorem f_G_21 : jc_fl "JudgedCodes$Judge" 21 2 4 "[Z" true := ⟨_, _, _, "JudgedCodes$Judge", rfl, by decide, jt1 (i := 61) rfl, Or.inl rfl, rfl, rfl, ck_2⟩
set_option maxRecDepth 4000 in
theorem f_G_25 : jc_fl "JudgedCodes$Judge" 25 2 0 "LJudgedCodes$Codes;" true := ⟨_, _, _, "JudgedCodes$Judge", rfl, by decide, jt1 (i := 57) rfl, Or.inl rfl, rfl, rfl, ck_2⟩
set_option maxRecDepth 4000 in
theorem l_H_3 : Cond.methodLink "JudgedCodes$Heap" 3 objectInit ∈ lw_tbl := jt1 (i := 89) rfl
set_option maxRecDepth 4000 in
theorem c_H_9 : Cond.classLink "JudgedCodes$Heap" 9 "JudgedCodes$Thing" ∈ lw_tbl := jt1 (i := 90) rfl
set_option maxRecDepth 4000 in
theorem f_H_11 : jc_fl "JudgedCodes$Heap" 11 3 0 "[LJudgedCodes$Thing;" true := ⟨_, _, _, "JudgedCodes$Heap", rfl, by decide, jt1 (i := 92) rfl, Or.inl rfl, rfl, rfl, ck_3⟩
set_option maxRecDepth 4000 in
theorem f_H_17 : jc_fl "JudgedCodes$Heap" 17 3 1 "[I" true := ⟨_, _, _, "JudgedCodes$Heap", rfl, by decide, jt1 (i := 93) rfl, Or.inl rfl, rfl, rfl, ck_3⟩
set_option maxRecDepth 4000 in
theorem l_M_3 : Cond.methodLink "JudgedCodes$Machine" 3 objectInit ∈ lw_tbl := jt1 (i := 110) rfl
set_option maxRecDepth 4000 in
theorem c_M_9 : Cond.classLink "JudgedCodes$Machine" 9 "JudgedCodes$Strand" ∈ lw_tbl := jt1 (i := 111) rfl
set_option maxRecDepth 4000 in
theorem f_M_11 : jc_fl "JudgedCodes$Machine" 11 4 3 "[LJudgedCodes$Strand;" true := ⟨_, _, _, "JudgedCodes$Machine", rfl, by decide, jt1 (i := 116) rfl, Or.inl rfl, rfl, rfl, ck_4⟩
set_option maxRecDepth 4000 in
theorem f_M_17 : jc_fl "JudgedCodes$Machine" 17 4 0 "LJudgedCodes$Codes;" true := ⟨_, _, _, "JudgedCodes$Machine", rfl, by decide, jt1 (i := 113) rfl, Or.inl rfl, rfl, rfl, ck_4⟩
set_option maxRecDepth 4000 in
theorem f_M_21 : jc_fl "JudgedCodes$Machine" 21 4 1 "LJudgedCodes$Judge;" true := ⟨_, _, _, "JudgedCodes$Machine", rfl, by decide, jt1 (i := 114) rfl, Or.inl rfl, rfl, rfl, ck_4⟩
set_option maxRecDepth 4000 in
theorem f_M_25 : jc_fl "JudgedCodes$Machine" 25 4 2 "LJudgedCodes$Heap;" true := ⟨_, _, _, "JudgedCodes$Machine", rfl, by decide, jt1 (i := 115) rfl, Or.inl rfl, rfl, rfl, ck_4⟩
set_option maxRecDepth 4000 in
theorem l_m_1 : Cond.methodLink "JudgedCodesModel" 1 objectInit ∈ lw_tbl := jt4 (i := 52) rfl
set_option maxRecDepth 4000 in
theorem n_m_7 : jc_nw "JudgedCodesModel" 7 15 3 := ⟨_, _, rfl, jt4 (i := 53) rfl, jt4 (i := 54) rfl, jt1 (i := 9) rfl, ck_15⟩
set_option maxRecDepth 4000 in
theorem l_m_9 : Cond.methodLink "JudgedCodesModel" 9 y_aL_init.1 ∈ lw_tbl := jt4 (i := 55) rfl
set_option maxRecDepth 4000 in
theorem f_m_10 : jc_fl "JudgedCodesModel" 10 10 0 "Ljava/util/ArrayList;" true := ⟨_, _, _, "JudgedCodesModel", rfl, by decide, jt4 (i := 79) rfl, Or.inl rfl, rfl, rfl, ck_10⟩
set_option maxRecDepth 4000 in
theorem f_m_16 : jc_fl "JudgedCodesModel" 16 10 2 "Ljava/util/ArrayList;" true := ⟨_, _, _, "JudgedCodesModel", rfl, by decide, jt4 (i := 81) rfl, Or.inl rfl, rfl, rfl, ck_10⟩
set_option maxRecDepth 4000 in
theorem f_m_19 : jc_fl "JudgedCodesModel" 19 10 4 "Ljava/util/ArrayList;" true := ⟨_, _, _, "JudgedCodesModel", rfl, by decide, jt4 (i := 83) rfl, Or.inl rfl, rfl, rfl, ck_10⟩
set_option maxRecDepth 4000 in
theorem f_m_22 : jc_fl "JudgedCodesModel" 22 10 6 "[I" true := ⟨_, _, _, "JudgedCodesModel", rfl, by decide, jt4 (i := 85) rfl, Or.inl rfl, rfl, rfl, ck_10⟩
set_option maxRecDepth 4000 in
theorem f_m_26 : jc_fl "JudgedCodesModel" 26 10 7 "[I" true := ⟨_, _, _, "JudgedCodesModel", rfl, by decide, jt4 (i := 86) rfl, Or.inl rfl, rfl, rfl, ck_10⟩
set_option maxRecDepth 4000 in
theorem l_aL_1 : Cond.methodLink "java/util/ArrayList" 1 y_aB_init.1 ∈ lw_tbl := jt4 (i := 58) rfl
set_option maxRecDepth 4000 in
theorem g_aL_39 : Cond.fieldLink "java/util/ArrayList" 39 "java/util/ArrayList" "DEFAULTCAPACITY_EMPTY_ELEMENTDATA" "[Ljava/lang/Object;" ∈ lw_tbl := jt4 (i := 65) rfl
set_option maxRecDepth 4000 in
theorem f_aL_9 : jc_fl "java/util/ArrayList" 9 15 0 "[Ljava/lang/Object;" false := ⟨_, _, _, "java/util/ArrayList", rfl, by decide, jt4 (i := 67) rfl, Or.inl rfl, rfl, rfl, ck_15⟩
set_option maxRecDepth 4000 in
theorem l_aB_1 : Cond.methodLink "java/util/AbstractList" 1 y_aC_init.1 ∈ lw_tbl := jt4 (i := 61) rfl
set_option maxRecDepth 4000 in
theorem f_aB_7 : jc_fl "java/util/AbstractList" 7 15 2 "I" false := ⟨_, _, _, "java/util/AbstractList", rfl, by decide, jt4 (i := 69) rfl, Or.inl rfl, rfl, rfl, ck_15⟩
set_option maxRecDepth 4000 in
theorem l_aC_1 : Cond.methodLink "java/util/AbstractCollection" 1 objectInit ∈ lw_tbl := jt4 (i := 64) rfl
set_option maxRecDepth 4000 in
theorem l_J_41 : Cond.methodLink "JudgedCodes" 41 y_J_isWithin.1 ∈ lw_tbl := jt1 (i := 146) rfl
set_option maxRecDepth 4000 in
theorem l_J_45 : Cond.methodLink "JudgedCodes" 45 y_M_hasStrands.1 ∈ lw_tbl := jt1 (i := 149) rfl
set_option maxRecDepth 4000 in
theorem l_J_49 : Cond.methodLink "JudgedCodes" 49 y_Cs_begin.1 ∈ lw_tbl := jt1 (i := 153) rfl
set_option maxRecDepth 4000 in
theorem f_M_29 : jc_fl "JudgedCodes$Machine" 29 4 4 "I" false := ⟨_, _, _, "JudgedCodes$Machine", rfl, by decide, jt1 (i := 117) rfl, Or.inl rfl, rfl, rfl, ck_4⟩
set_option maxRecDepth 4000 in
theorem f_Cs_17 : jc_fl "JudgedCodes$Codes" 17 1 1 "I" false := ⟨_, _, _, "JudgedCodes$Codes", rfl, by decide, jt1 (i := 42) rfl, Or.inl rfl, rfl, rfl, ck_1⟩
set_option maxRecDepth 4000 in
theorem n_Cs_9 : jc_nw "JudgedCodes$Codes" 9 6 10 := ⟨_, _, rfl, jt1 (i := 39) rfl, jt1 (i := 157) rfl, jt1 (i := 10) rfl, ck_6⟩
set_option maxRecDepth 4000 in
theorem l_Cs_21 : Cond.methodLink "JudgedCodes$Codes" 21 y_C_init.1 ∈ lw_tbl := jt1 (i := 158) rfl
set_option maxRecDepth 4000 in
theorem f_Cs_24 : jc_fl "JudgedCodes$Codes" 24 1 2 "LJudgedCodes$Code;" false := ⟨_, _, _, "JudgedCodes$Codes", rfl, by decide, jt1 (i := 43) rfl, Or.inl rfl, rfl, rfl, ck_1⟩
set_option maxRecDepth 4000 in
theorem l_C_3 : Cond.methodLink "JudgedCodes$Code" 3 objectInit ∈ lw_tbl := jt1 (i := 161) rfl
set_option maxRecDepth 4000 in
theorem f_C_9 : jc_fl "JudgedCodes$Code" 9 6 3 "[I" true := ⟨_, _, _, "JudgedCodes$Code", rfl, by decide, jt1 (i := 173) rfl, Or.inl rfl, rfl, rfl, ck_6⟩
set_option maxRecDepth 4000 in
theorem f_C_15 : jc_fl "JudgedCodes$Code" 15 6 4 "[I" true := ⟨_, _, _, "JudgedCodes$Code", rfl, by decide, jt1 (i := 174) rfl, Or.inl rfl, rfl, rfl, ck_6⟩
set_option maxRecDepth 4000 in
theorem f_C_18 : jc_fl "JudgedCodes$Code" 18 6 5 "[I" true := ⟨_, _, _, "JudgedCodes$Code", rfl, by decide, jt1 (i := 175) rfl, Or.inl rfl, rfl, rfl, ck_6⟩
set_option maxRecDepth 4000 in
theorem c_C_21 : Cond.classLink "JudgedCodes$Code" 21 "JudgedCodes$Row" ∈ lw_tbl := jt1 (i := 162) rfl
set_option maxRecDepth 4000 in
theorem f_C_23 : jc_fl "JudgedCodes$Code" 23 6 6 "[LJudgedCodes$Row;" true := ⟨_, _, _, "JudgedCodes$Code", rfl, by decide, jt1 (i := 176) rfl, Or.inl rfl, rfl, rfl, ck_6⟩
set_option maxRecDepth 4000 in
theorem f_C_27 : jc_fl "JudgedCodes$Code" 27 6 0 "I" true := ⟨_, _, _, "JudgedCodes$Code", rfl, by decide, jt1 (i := 164) rfl, Or.inl rfl, rfl, rfl, ck_6⟩
set_option maxRecDepth 4000 in
theorem f_C_31 : jc_fl "JudgedCodes$Code" 31 6 1 "I" true := ⟨_, _, _, "JudgedCodes$Code", rfl, by decide, jt1 (i := 167) rfl, Or.inl rfl, rfl, rfl, ck_6⟩
set_option maxRecDepth 4000 in
theorem f_C_34 : jc_fl "JudgedCodes$Code" 34 6 2 "I" true := ⟨_, _, _, "JudgedCodes$Code", rfl, by decide, jt1 (i := 170) rfl, Or.inl rfl, rfl, rfl, ck_6⟩
set_option maxRecDepth 4000 in
theorem f_m_29 : jc_fl "JudgedCodesModel" 29 10 3 "I" false := ⟨_, _, _, "JudgedCodesModel", rfl, by decide, jt4 (i := 82) rfl, Or.inl rfl, rfl, rfl, ck_10⟩
set_option maxRecDepth 4000 in
theorem l_m_33 : Cond.methodLink "JudgedCodesModel" 33 y_aL_size.1 ∈ lw_tbl := jt4 (i := 111) rfl
set_option maxRecDepth 4000 in
theorem n_m_37 : jc_nw "JudgedCodesModel" 37 11 12 := ⟨_, _, rfl, jt4 (i := 115) rfl, jt4 (i := 116) rfl, jt1 (i := 11) rfl, ck_11⟩
set_option maxRecDepth 4000 in
theorem l_m_39 : Cond.methodLink "JudgedCodesModel" 39 y_mC_init.1 ∈ lw_tbl := jt4 (i := 117) rfl
set_option maxRecDepth 4000 in
theorem f_m_42 : jc_fl "JudgedCodesModel" 42 10 1 "LJudgedCodesModel$Code;" false := ⟨_, _, _, "JudgedCodesModel", rfl, by decide, jt4 (i := 80) rfl, Or.inl rfl, rfl, rfl, ck_10⟩
set_option maxRecDepth 4000 in
theorem l_m_46 : Cond.methodLink "JudgedCodesModel" 46 y_aL_add1.1 ∈ lw_tbl := jt4 (i := 169) rfl
set_option maxRecDepth 4000 in
theorem f_aL_48 : jc_fl "java/util/ArrayList" 48 15 1 "I" false := ⟨_, _, _, "java/util/ArrayList", rfl, by decide, jt4 (i := 68) rfl, Or.inl rfl, rfl, rfl, ck_15⟩
set_option maxRecDepth 4000 in
theorem l_mC_3 : Cond.methodLink "JudgedCodesModel$Code" 3 objectInit ∈ lw_tbl := jt4 (i := 120) rfl
set_option maxRecDepth 4000 in
theorem f_mC_9 : jc_fl "JudgedCodesModel$Code" 9 11 2 "[I" true := ⟨_, _, _, "JudgedCodesModel$Code", rfl, by decide, jt4 (i := 125) rfl, Or.inl rfl, rfl, rfl, ck_11⟩
set_option maxRecDepth 4000 in
theorem f_mC_15 : jc_fl "JudgedCodesModel$Code" 15 11 4 "[I" true := ⟨_, _, _, "JudgedCodesModel$Code", rfl, by decide, jt4 (i := 128) rfl, Or.inl rfl, rfl, rfl, ck_11⟩
set_option maxRecDepth 4000 in
theorem f_mC_18 : jc_fl "JudgedCodesModel$Code" 18 11 5 "[I" true := ⟨_, _, _, "JudgedCodesModel$Code", rfl, by decide, jt4 (i := 130) rfl, Or.inl rfl, rfl, rfl, ck_11⟩
set_option maxRecDepth 4000 in
theorem f_mC_21 : jc_fl "JudgedCodesModel$Code" 21 11 7 "[I" true := ⟨_, _, _, "JudgedCodesModel$Code", rfl, by decide, jt4 (i := 134) rfl, Or.inl rfl, rfl, rfl, ck_11⟩
set_option maxRecDepth 4000 in
theorem f_mC_24 : jc_fl "JudgedCodesModel$Code" 24 11 8 "[I" true := ⟨_, _, _, "JudgedCodesModel$Code", rfl, by decide, jt4 (i := 136) rfl, Or.inl rfl, rfl, rfl, ck_11⟩
set_option maxRecDepth 4000 in
theorem f_mC_27 : jc_fl "JudgedCodesModel$Code" 27 11 9 "[I" true := ⟨_, _, _, "JudgedCodesModel$Code", rfl, by decide, jt4 (i := 138) rfl, Or.inl rfl, rfl, rfl, ck_11⟩
set_option maxRecDepth 4000 in
theorem f_mC_30 : jc_fl "JudgedCodesModel$Code" 30 11 10 "[I" true := ⟨_, _, _, "JudgedCodesModel$Code", rfl, by decide, jt4 (i := 140) rfl, Or.inl rfl, rfl, rfl, ck_11⟩
set_option maxRecDepth 4000 in
theorem f_mC_33 : jc_fl "JudgedCodesModel$Code" 33 11 0 "I" true := ⟨_, _, _, "JudgedCodesModel$Code", rfl, by decide, jt4 (i := 121) rfl, Or.inl rfl, rfl, rfl, ck_11⟩
set_option maxRecDepth 4000 in
theorem f_mC_37 : jc_fl "JudgedCodesModel$Code" 37 11 1 "I" true := ⟨_, _, _, "JudgedCodesModel$Code", rfl, by decide, jt4 (i := 123) rfl, Or.inl rfl, rfl, rfl, ck_11⟩
set_option maxRecDepth 4000 in
theorem f_aL_63 : jc_fl "java/util/ArrayList" 63 15 2 "I" false := ⟨_, _, _, "java/util/ArrayList", rfl, by decide, jt4 (i := 70) rfl, Or.inr (jt4 (i := 71) rfl), rfl, rfl, ck_15⟩
set_option maxRecDepth 4000 in
theorem l_aL_131 : Cond.methodLink "java/util/ArrayList" 131 y_aL_add3.1 ∈ lw_tbl := jt4 (i := 173) rfl
set_option maxRecDepth 4000 in
theorem l_aL_129 : Cond.methodLink "java/util/ArrayList" 129 y_aL_grow0.1 ∈ lw_tbl := jt4 (i := 177) rfl
set_option maxRecDepth 4000 in
theorem l_aL_69 : Cond.methodLink "java/util/ArrayList" 69 y_aL_grow1.1 ∈ lw_tbl := jt4 (i := 181) rfl
set_option maxRecDepth 4000 in
theorem l_aL_73 : Cond.methodLink "java/util/ArrayList" 73 y_aS_newLength.1 ∈ lw_tbl := jt4 (i := 185) rfl
set_option maxRecDepth 4000 in
theorem l_aL_66 : Cond.methodLink "java/util/ArrayList" 66 y_aR_copyOf2.1 ∈ lw_tbl := jt4 (i := 193) rfl
set_option maxRecDepth 4000 in
theorem l_aL_79 : Cond.methodLink "java/util/ArrayList" 79 y_aM_max.1 ∈ lw_tbl := jt4 (i := 228) rfl
set_option maxRecDepth 4000 in
theorem c_aL_7 : Cond.classLink "java/util/ArrayList" 7 "java/lang/Object" ∈ lw_tbl := jt4 (i := 229) rfl
set_option maxRecDepth 4000 in
theorem l_aS_194 : Cond.methodLink "jdk/internal/util/ArraysSupport" 194 y_aM_max.1 ∈ lw_tbl := jt4 (i := 188) rfl
set_option maxRecDepth 4000 in
theorem c_aS_200 : Cond.constant "jdk/internal/util/ArraysSupport" 200 2147483639 ∈ lw_tbl := jt4 (i := 189) rfl
set_option maxRecDepth 4000 in
theorem l_aS_201 : Cond.methodLink "jdk/internal/util/ArraysSupport" 201 y_aS_hugeLength.1 ∈ lw_tbl := jt4 (i := 190) rfl
set_option maxRecDepth 4000 in
theorem l_aR_86 : Cond.methodLink "java/util/Arrays" 86 ⟨"java/lang/Object", "getClass", "()Ljava/lang/Class;"⟩ ∈ lw_tbl := jt4 (i := 196) rfl
set_option maxRecDepth 4000 in
theorem l_aR_300 : Cond.methodLink "java/util/Arrays" 300 y_aR_copyOf3.1 ∈ lw_tbl := jt4 (i := 216) rfl
set_option maxRecDepth 4000 in
theorem c_aR_110 : Cond.classLink "java/util/Arrays" 110 "[Ljava/lang/Object;" ∈ lw_tbl := jt4 (i := 219) rfl
set_option maxRecDepth 4000 in
theorem c_aR_2 : Cond.classLink "java/util/Arrays" 2 "java/lang/Object" ∈ lw_tbl := jt4 (i := 221) rfl
set_option maxRecDepth 4000 in
theorem l_aR_304 : Cond.methodLink "java/util/Arrays" 304 y_aM_min.1 ∈ lw_tbl := jt4 (i := 222) rfl
set_option maxRecDepth 4000 in
theorem l_aR_150 : Cond.methodLink "java/util/Arrays" 150 ⟨"java/lang/System", "arraycopy", "(Ljava/lang/Object;ILjava/lang/Object;II)V"⟩ ∈ lw_tbl := jt4 (i := 225) rfl
set_option maxRecDepth 4000 in
theorem l_J_53 : Cond.methodLink "JudgedCodes" 53 y_Cs_open.1 ∈ lw_tbl := jt1 (i := 205) rfl
set_option maxRecDepth 4000 in
theorem l_J_57 : Cond.methodLink "JudgedCodes" 57 y_C_tellLocal.1 ∈ lw_tbl := jt1 (i := 209) rfl
set_option maxRecDepth 4000 in
theorem f_C_37 : jc_fl "JudgedCodes$Code" 37 6 7 "I" false := ⟨_, _, _, "JudgedCodes$Code", rfl, by decide, jt1 (i := 177) rfl, Or.inl rfl, rfl, rfl, ck_6⟩
set_option maxRecDepth 4000 in
theorem f_m_50 : jc_fl "JudgedCodesModel" 50 11 3 "I" false := ⟨_, _, _, "JudgedCodesModel$Code", rfl, by decide, jt4 (i := 127) rfl, Or.inl rfl, rfl, rfl, ck_11⟩
set_option maxRecDepth 4000 in
theorem f_m_53 : jc_fl "JudgedCodesModel" 53 11 2 "[I" true := ⟨_, _, _, "JudgedCodesModel$Code", rfl, by decide, jt4 (i := 126) rfl, Or.inl rfl, rfl, rfl, ck_11⟩
set_option maxRecDepth 4000 in
theorem l_J_63 : Cond.methodLink "JudgedCodes" 63 y_J_fits.1 ∈ lw_tbl := jt1 (i := 217) rfl
set_option maxRecDepth 4000 in
theorem l_J_67 : Cond.methodLink "JudgedCodes" 67 y_C_tellInstruction.1 ∈ lw_tbl := jt1 (i := 220) rfl
set_option maxRecDepth 4000 in
theorem f_C_40 : jc_fl "JudgedCodes$Code" 40 6 8 "I" false := ⟨_, _, _, "JudgedCodes$Code", rfl, by decide, jt1 (i := 178) rfl, Or.inl rfl, rfl, rfl, ck_6⟩
set_option maxRecDepth 4000 in
theorem f_m_56 : jc_fl "JudgedCodesModel" 56 11 6 "I" false := ⟨_, _, _, "JudgedCodesModel$Code", rfl, by decide, jt4 (i := 133) rfl, Or.inl rfl, rfl, rfl, ck_11⟩
set_option maxRecDepth 4000 in
theorem f_m_59 : jc_fl "JudgedCodesModel" 59 11 4 "[I" true := ⟨_, _, _, "JudgedCodesModel$Code", rfl, by decide, jt4 (i := 129) rfl, Or.inl rfl, rfl, rfl, ck_11⟩
set_option maxRecDepth 4000 in
theorem f_m_62 : jc_fl "JudgedCodesModel" 62 11 5 "[I" true := ⟨_, _, _, "JudgedCodesModel$Code", rfl, by decide, jt4 (i := 131) rfl, Or.inl rfl, rfl, rfl, ck_11⟩
set_option maxRecDepth 4000 in
theorem l_J_70 : Cond.methodLink "JudgedCodes" 70 y_C_tellRow.1 ∈ lw_tbl := jt1 (i := 228) rfl
set_option maxRecDepth 4000 in
theorem f_C_43 : jc_fl "JudgedCodes$Code" 43 6 9 "I" false := ⟨_, _, _, "JudgedCodes$Code", rfl, by decide, jt1 (i := 179) rfl, Or.inl rfl, rfl, rfl, ck_6⟩
set_option maxRecDepth 4000 in
theorem n_C_21 : jc_nw "JudgedCodes$Code" 21 5 4 := ⟨_, _, rfl, jt1 (i := 162) rfl, jt1 (i := 232) rfl, jt1 (i := 16) rfl, ck_5⟩
set_option maxRecDepth 4000 in
theorem l_C_46 : Cond.methodLink "JudgedCodes$Code" 46 y_R_init.1 ∈ lw_tbl := jt1 (i := 233) rfl
set_option maxRecDepth 4000 in
theorem l_R_3 : Cond.methodLink "JudgedCodes$Row" 3 objectInit ∈ lw_tbl := jt1 (i := 236) rfl
set_option maxRecDepth 4000 in
theorem f_R_9 : jc_fl "JudgedCodes$Row" 9 5 0 "I" true := ⟨_, _, _, "JudgedCodes$Row", rfl, by decide, jt1 (i := 237) rfl, Or.inl rfl, rfl, rfl, ck_5⟩
set_option maxRecDepth 4000 in
theorem f_R_15 : jc_fl "JudgedCodes$Row" 15 5 1 "I" true := ⟨_, _, _, "JudgedCodes$Row", rfl, by decide, jt1 (i := 239) rfl, Or.inl rfl, rfl, rfl, ck_5⟩
set_option maxRecDepth 4000 in
theorem f_R_18 : jc_fl "JudgedCodes$Row" 18 5 2 "I" true := ⟨_, _, _, "JudgedCodes$Row", rfl, by decide, jt2 (i := 1) rfl, Or.inl rfl, rfl, rfl, ck_5⟩
set_option maxRecDepth 4000 in
theorem f_R_21 : jc_fl "JudgedCodes$Row" 21 5 3 "I" true := ⟨_, _, _, "JudgedCodes$Row", rfl, by decide, jt2 (i := 4) rfl, Or.inl rfl, rfl, rfl, ck_5⟩
set_option maxRecDepth 4000 in
theorem l_m_65 : Cond.methodLink "JudgedCodesModel" 65 y_m_isPlace.1 ∈ lw_tbl := jt5 (i := 2) rfl
set_option maxRecDepth 4000 in
theorem f_m_69 : jc_fl "JudgedCodesModel" 69 11 11 "I" false := ⟨_, _, _, "JudgedCodesModel$Code", rfl, by decide, jt4 (i := 143) rfl, Or.inl rfl, rfl, rfl, ck_11⟩
set_option maxRecDepth 4000 in
theorem f_m_72 : jc_fl "JudgedCodesModel" 72 11 7 "[I" true := ⟨_, _, _, "JudgedCodesModel$Code", rfl, by decide, jt4 (i := 135) rfl, Or.inl rfl, rfl, rfl, ck_11⟩
set_option maxRecDepth 4000 in
theorem f_m_75 : jc_fl "JudgedCodesModel" 75 11 8 "[I" true := ⟨_, _, _, "JudgedCodesModel$Code", rfl, by decide, jt4 (i := 137) rfl, Or.inl rfl, rfl, rfl, ck_11⟩
set_option maxRecDepth 4000 in
theorem f_m_78 : jc_fl "JudgedCodesModel" 78 11 9 "[I" true := ⟨_, _, _, "JudgedCodesModel$Code", rfl, by decide, jt4 (i := 139) rfl, Or.inl rfl, rfl, rfl, ck_11⟩
set_option maxRecDepth 4000 in
theorem f_m_81 : jc_fl "JudgedCodesModel" 81 11 10 "[I" true := ⟨_, _, _, "JudgedCodesModel$Code", rfl, by decide, jt4 (i := 141) rfl, Or.inl rfl, rfl, rfl, ck_11⟩
set_option maxRecDepth 4000 in
theorem l_J_74 : Cond.methodLink "JudgedCodes" 74 y_Cs_find.1 ∈ lw_tbl := jt2 (i := 18) rfl
set_option maxRecDepth 4000 in
theorem l_J_78 : Cond.methodLink "JudgedCodes" 78 y_G_isGood.1 ∈ lw_tbl := jt2 (i := 22) rfl
set_option maxRecDepth 4000 in
theorem l_G_29 : Cond.methodLink "JudgedCodes$Judge" 29 y_C_size.1 ∈ lw_tbl := jt2 (i := 26) rfl
set_option maxRecDepth 4000 in
theorem l_G_35 : Cond.methodLink "JudgedCodes$Judge" 35 y_C_op.1 ∈ lw_tbl := jt2 (i := 30) rfl
set_option maxRecDepth 4000 in
theorem l_G_39 : Cond.methodLinkNest "JudgedCodes$Judge" 39 y_J_isLast.1 "JudgedCodes" ∈ lw_tbl := jt2 (i := 34) rfl
set_option maxRecDepth 4000 in
theorem l_G_43 : Cond.methodLink "JudgedCodes$Judge" 43 y_C_localCount.1 ∈ lw_tbl := jt2 (i := 37) rfl
set_option maxRecDepth 4000 in
theorem f_G_46 : jc_fl "JudgedCodes$Judge" 46 6 1 "I" true := ⟨_, _, _, "JudgedCodes$Code", rfl, by decide, jt1 (i := 168) rfl, Or.inl rfl, rfl, rfl, ck_6⟩
set_option maxRecDepth 4000 in
theorem l_G_50 : Cond.methodLink "JudgedCodes$Judge" 50 y_G_namesJumpPlaces.1 ∈ lw_tbl := jt2 (i := 41) rfl
set_option maxRecDepth 4000 in
theorem l_G_54 : Cond.methodLink "JudgedCodes$Judge" 54 y_G_namesRowPlaces.1 ∈ lw_tbl := jt2 (i := 56) rfl
set_option maxRecDepth 4000 in
theorem f_G_57 : jc_fl "JudgedCodes$Judge" 57 2 7 "Z" false := ⟨_, _, _, "JudgedCodes$Judge", rfl, by decide, jt1 (i := 64) rfl, Or.inl rfl, rfl, rfl, ck_2⟩
set_option maxRecDepth 4000 in
theorem l_G_61 : Cond.methodLink "JudgedCodes$Judge" 61 y_G_markPlaces.1 ∈ lw_tbl := jt2 (i := 68) rfl
set_option maxRecDepth 4000 in
theorem f_G_65 : jc_fl "JudgedCodes$Judge" 65 2 6 "I" false := ⟨_, _, _, "JudgedCodes$Judge", rfl, by decide, jt1 (i := 63) rfl, Or.inl rfl, rfl, rfl, ck_2⟩
set_option maxRecDepth 4000 in
theorem l_G_68 : Cond.methodLink "JudgedCodes$Judge" 68 y_G_arrive.1 ∈ lw_tbl := jt2 (i := 79) rfl
set_option maxRecDepth 4000 in
theorem l_G_72 : Cond.methodLink "JudgedCodes$Judge" 72 y_C_operand.1 ∈ lw_tbl := jt2 (i := 48) rfl
set_option maxRecDepth 4000 in
theorem l_G_75 : Cond.methodLink "JudgedCodes$Judge" 75 y_G_follow.1 ∈ lw_tbl := jt2 (i := 95) rfl
set_option maxRecDepth 4000 in
theorem l_G_100 : Cond.methodLinkNest "JudgedCodes$Judge" 100 y_J_isJump.1 "JudgedCodes" ∈ lw_tbl := jt2 (i := 45) rfl
set_option maxRecDepth 4000 in
theorem l_G_103 : Cond.methodLink "JudgedCodes$Judge" 103 y_C_hasInstruction.1 ∈ lw_tbl := jt2 (i := 52) rfl
set_option maxRecDepth 4000 in
theorem l_G_106 : Cond.methodLink "JudgedCodes$Judge" 106 y_C_rowCount.1 ∈ lw_tbl := jt2 (i := 60) rfl
set_option maxRecDepth 4000 in
theorem l_G_109 : Cond.methodLink "JudgedCodes$Judge" 109 y_C_rowAt.1 ∈ lw_tbl := jt2 (i := 64) rfl
set_option maxRecDepth 4000 in
theorem f_G_113 : jc_fl "JudgedCodes$Judge" 113 5 0 "I" true := ⟨_, _, _, "JudgedCodes$Row", rfl, by decide, jt1 (i := 238) rfl, Or.inl rfl, rfl, rfl, ck_5⟩
set_option maxRecDepth 4000 in
theorem f_G_118 : jc_fl "JudgedCodes$Judge" 118 5 1 "I" true := ⟨_, _, _, "JudgedCodes$Row", rfl, by decide, jt2 (i := 0) rfl, Or.inl rfl, rfl, rfl, ck_5⟩
set_option maxRecDepth 4000 in
theorem f_G_121 : jc_fl "JudgedCodes$Judge" 121 5 2 "I" true := ⟨_, _, _, "JudgedCodes$Row", rfl, by decide, jt2 (i := 2) rfl, Or.inl rfl, rfl, rfl, ck_5⟩
set_option maxRecDepth 4000 in
theorem l_G_124 : Cond.methodLink "JudgedCodes$Judge" 124 y_G_mark.1 ∈ lw_tbl := jt2 (i := 72) rfl
set_option maxRecDepth 4000 in
theorem l_G_128 : Cond.methodLink "JudgedCodes$Judge" 128 y_aM_max.1 ∈ lw_tbl := jt2 (i := 76) rfl
set_option maxRecDepth 4000 in
theorem l_G_134 : Cond.methodLink "JudgedCodes$Judge" 134 y_G_markAt.1 ∈ lw_tbl := jt2 (i := 83) rfl
set_option maxRecDepth 4000 in
theorem l_G_137 : Cond.methodLink "JudgedCodes$Judge" 137 y_G_demand.1 ∈ lw_tbl := jt2 (i := 87) rfl
set_option maxRecDepth 4000 in
theorem l_G_141 : Cond.methodLink "JudgedCodes$Judge" 141 y_G_give.1 ∈ lw_tbl := jt2 (i := 91) rfl
set_option maxRecDepth 4000 in
theorem l_G_145 : Cond.methodLink "JudgedCodes$Judge" 145 y_G_topKind.1 ∈ lw_tbl := jt2 (i := 99) rfl
set_option maxRecDepth 4000 in
theorem l_G_148 : Cond.methodLink "JudgedCodes$Judge" 148 y_G_take.1 ∈ lw_tbl := jt2 (i := 103) rfl
set_option maxRecDepth 4000 in
theorem l_G_151 : Cond.methodLink "JudgedCodes$Judge" 151 y_C_localKind.1 ∈ lw_tbl := jt2 (i := 107) rfl
set_option maxRecDepth 4000 in
theorem l_G_154 : Cond.methodLink "JudgedCodes$Judge" 154 y_G_leaveFor.1 ∈ lw_tbl := jt2 (i := 111) rfl
set_option maxRecDepth 4000 in
theorem l_G_157 : Cond.methodLink "JudgedCodes$Judge" 157 y_G_followUse.1 ∈ lw_tbl := jt2 (i := 115) rfl
set_option maxRecDepth 4000 in
theorem l_G_85 : Cond.methodLink "JudgedCodes$Judge" 85 y_Cs_find.1 ∈ lw_tbl := jt2 (i := 119) rfl
set_option maxRecDepth 4000 in
theorem l_G_160 : Cond.methodLink "JudgedCodes$Judge" 160 y_G_followCall.1 ∈ lw_tbl := jt2 (i := 120) rfl
set_option maxRecDepth 4000 in
theorem l_G_163 : Cond.methodLink "JudgedCodes$Judge" 163 y_G_followReturn.1 ∈ lw_tbl := jt2 (i := 124) rfl
set_option maxRecDepth 4000 in
theorem f_G_166 : jc_fl "JudgedCodes$Judge" 166 6 2 "I" true := ⟨_, _, _, "JudgedCodes$Code", rfl, by decide, jt1 (i := 171) rfl, Or.inl rfl, rfl, rfl, ck_6⟩
set_option maxRecDepth 4000 in
theorem l_m_123 : Cond.methodLink "JudgedCodesModel" 123 y_m_isCode.1 ∈ lw_tbl := jt5 (i := 9) rfl
set_option maxRecDepth 4000 in
theorem l_m_126 : Cond.methodLink "JudgedCodesModel" 126 y_aL_get.1 ∈ lw_tbl := jt5 (i := 13) rfl
set_option maxRecDepth 4000 in
theorem c_m_37 : Cond.classLink "JudgedCodesModel" 37 "JudgedCodesModel$Code" ∈ lw_tbl := jt4 (i := 115) rfl
set_option maxRecDepth 4000 in
theorem l_m_130 : Cond.methodLink "JudgedCodesModel" 130 y_m_isGood.1 ∈ lw_tbl := jt5 (i := 27) rfl
set_option maxRecDepth 4000 in
theorem l_aL_118 : Cond.methodLink "java/util/ArrayList" 118 y_aO_checkIndex.1 ∈ lw_tbl := jt5 (i := 17) rfl
set_option maxRecDepth 4000 in
theorem l_aL_123 : Cond.methodLink "java/util/ArrayList" 123 y_aL_elementData.1 ∈ lw_tbl := jt5 (i := 23) rfl
set_option maxRecDepth 4000 in
theorem l_aO_105 : Cond.methodLink "java/util/Objects" 105 y_aP_checkIndex.1 ∈ lw_tbl := jt5 (i := 20) rfl
set_option maxRecDepth 4000 in
theorem f_m_87 : jc_fl "JudgedCodesModel" 87 11 0 "I" true := ⟨_, _, _, "JudgedCodesModel$Code", rfl, by decide, jt4 (i := 122) rfl, Or.inl rfl, rfl, rfl, ck_11⟩
set_option maxRecDepth 4000 in
theorem l_m_90 : Cond.methodLink "JudgedCodesModel" 90 y_m_isLeaving.1 ∈ lw_tbl := jt5 (i := 31) rfl
set_option maxRecDepth 4000 in
theorem f_m_84 : jc_fl "JudgedCodesModel" 84 10 8 "I" false := ⟨_, _, _, "JudgedCodesModel", rfl, by decide, jt4 (i := 87) rfl, Or.inl rfl, rfl, rfl, ck_10⟩
set_option maxRecDepth 4000 in
theorem l_m_93 : Cond.methodLink "JudgedCodesModel" 93 y_mC_isLabel.1 ∈ lw_tbl := jt5 (i := 34) rfl
set_option maxRecDepth 4000 in
theorem l_m_96 : Cond.methodLink "JudgedCodesModel" 96 y_mC_isTaker.1 ∈ lw_tbl := jt5 (i := 38) rfl
set_option maxRecDepth 4000 in
theorem l_m_99 : Cond.methodLink "JudgedCodesModel" 99 y_m_isGoodStep.1 ∈ lw_tbl := jt5 (i := 42) rfl
set_option maxRecDepth 4000 in
theorem f_mC_40 : jc_fl "JudgedCodesModel$Code" 40 11 11 "I" false := ⟨_, _, _, "JudgedCodesModel$Code", rfl, by decide, jt4 (i := 142) rfl, Or.inl rfl, rfl, rfl, ck_11⟩
set_option maxRecDepth 4000 in
theorem f_mC_43 : jc_fl "JudgedCodesModel$Code" 43 11 6 "I" false := ⟨_, _, _, "JudgedCodesModel$Code", rfl, by decide, jt4 (i := 132) rfl, Or.inl rfl, rfl, rfl, ck_11⟩
set_option maxRecDepth 4000 in
theorem l_m_103 : Cond.methodLink "JudgedCodesModel" 103 y_m_gives.1 ∈ lw_tbl := jt5 (i := 46) rfl
set_option maxRecDepth 4000 in
theorem l_m_106 : Cond.methodLink "JudgedCodesModel" 106 y_m_takes.1 ∈ lw_tbl := jt5 (i := 50) rfl
set_option maxRecDepth 4000 in
theorem l_m_109 : Cond.methodLink "JudgedCodesModel" 109 y_m_kindOf.1 ∈ lw_tbl := jt5 (i := 54) rfl
set_option maxRecDepth 4000 in
theorem l_m_113 : Cond.methodLink "JudgedCodesModel" 113 y_m_isTarget.1 ∈ lw_tbl := jt5 (i := 57) rfl
set_option maxRecDepth 4000 in
theorem f_m_117 : jc_fl "JudgedCodesModel" 117 11 1 "I" true := ⟨_, _, _, "JudgedCodesModel$Code", rfl, by decide, jt4 (i := 124) rfl, Or.inl rfl, rfl, rfl, ck_11⟩
set_option maxRecDepth 4000 in
theorem l_m_120 : Cond.methodLink "JudgedCodesModel" 120 y_m_isGoodCall.1 ∈ lw_tbl := jt5 (i := 61) rfl
set_option maxRecDepth 4000 in
theorem l_J_82 : Cond.methodLink "JudgedCodes" 82 y_M_begin.1 ∈ lw_tbl := jt2 (i := 132) rfl
set_option maxRecDepth 4000 in
theorem l_M_33 : Cond.methodLink "JudgedCodes$Machine" 33 y_Cs_find.1 ∈ lw_tbl := jt2 (i := 136) rfl
set_option maxRecDepth 4000 in
theorem f_M_39 : jc_fl "JudgedCodes$Machine" 39 6 1 "I" true := ⟨_, _, _, "JudgedCodes$Code", rfl, by decide, jt1 (i := 169) rfl, Or.inl rfl, rfl, rfl, ck_6⟩
set_option maxRecDepth 4000 in
theorem l_M_44 : Cond.methodLink "JudgedCodes$Machine" 44 y_G_isGoodThroughout.1 ∈ lw_tbl := jt2 (i := 137) rfl
set_option maxRecDepth 4000 in
theorem n_M_9 : jc_nw "JudgedCodes$Machine" 9 9 7 := ⟨_, _, rfl, jt1 (i := 111) rfl, jt2 (i := 150) rfl, jt1 (i := 19) rfl, ck_9⟩
set_option maxRecDepth 4000 in
theorem l_M_50 : Cond.methodLink "JudgedCodes$Machine" 50 y_S_init.1 ∈ lw_tbl := jt2 (i := 151) rfl
set_option maxRecDepth 4000 in
theorem l_M_53 : Cond.methodLink "JudgedCodes$Machine" 53 y_S_begin.1 ∈ lw_tbl := jt2 (i := 200) rfl
set_option maxRecDepth 4000 in
theorem l_M_57 : Cond.methodLink "JudgedCodes$Machine" 57 y_Cs_close.1 ∈ lw_tbl := jt2 (i := 212) rfl
set_option maxRecDepth 4000 in
theorem f_G_79 : jc_fl "JudgedCodes$Judge" 79 2 5 "I" false := ⟨_, _, _, "JudgedCodes$Judge", rfl, by decide, jt1 (i := 62) rfl, Or.inl rfl, rfl, rfl, ck_2⟩
set_option maxRecDepth 4000 in
theorem l_G_82 : Cond.methodLink "JudgedCodes$Judge" 82 y_G_reach.1 ∈ lw_tbl := jt2 (i := 141) rfl
set_option maxRecDepth 4000 in
theorem l_G_91 : Cond.methodLink "JudgedCodes$Judge" 91 y_G_isGood.1 ∈ lw_tbl := jt2 (i := 145) rfl
set_option maxRecDepth 4000 in
theorem l_G_94 : Cond.methodLink "JudgedCodes$Judge" 94 y_G_reachCallsOf.1 ∈ lw_tbl := jt2 (i := 146) rfl
set_option maxRecDepth 4000 in
theorem f_G_97 : jc_fl "JudgedCodes$Judge" 97 6 0 "I" true := ⟨_, _, _, "JudgedCodes$Code", rfl, by decide, jt1 (i := 165) rfl, Or.inl rfl, rfl, rfl, ck_6⟩
set_option maxRecDepth 4000 in
theorem l_S_3 : Cond.methodLink "JudgedCodes$Strand" 3 objectInit ∈ lw_tbl := jt2 (i := 154) rfl
set_option maxRecDepth 4000 in
theorem c_S_9 : Cond.classLink "JudgedCodes$Strand" 9 "JudgedCodes$Frame" ∈ lw_tbl := jt2 (i := 155) rfl
set_option maxRecDepth 4000 in
theorem f_S_11 : jc_fl "JudgedCodes$Strand" 11 9 1 "[LJudgedCodes$Frame;" true := ⟨_, _, _, "JudgedCodes$Strand", rfl, by decide, jt2 (i := 179) rfl, Or.inl rfl, rfl, rfl, ck_9⟩
set_option maxRecDepth 4000 in
theorem f_S_17 : jc_fl "JudgedCodes$Strand" 17 9 0 "I" true := ⟨_, _, _, "JudgedCodes$Strand", rfl, by decide, jt2 (i := 178) rfl, Or.inl rfl, rfl, rfl, ck_9⟩
set_option maxRecDepth 4000 in
theorem n_S_9 : jc_nw "JudgedCodes$Strand" 9 8 5 := ⟨_, _, rfl, jt2 (i := 155) rfl, jt2 (i := 157) rfl, jt1 (i := 20) rfl, ck_8⟩
set_option maxRecDepth 4000 in
theorem l_S_21 : Cond.methodLinkNest "JudgedCodes$Strand" 21 y_F_init.1 "JudgedCodes" ∈ lw_tbl := jt2 (i := 158) rfl
set_option maxRecDepth 4000 in
theorem l_F_3 : Cond.methodLink "JudgedCodes$Frame" 3 objectInit ∈ lw_tbl := jt2 (i := 161) rfl
set_option maxRecDepth 4000 in
theorem f_F_9 : jc_fl "JudgedCodes$Frame" 9 8 0 "[I" true := ⟨_, _, _, "JudgedCodes$Frame", rfl, by decide, jt2 (i := 162) rfl, Or.inl rfl, rfl, rfl, ck_8⟩
set_option maxRecDepth 4000 in
theorem f_F_15 : jc_fl "JudgedCodes$Frame" 15 8 1 "[I" true := ⟨_, _, _, "JudgedCodes$Frame", rfl, by decide, jt2 (i := 163) rfl, Or.inl rfl, rfl, rfl, ck_8⟩
set_option maxRecDepth 4000 in
theorem f_S_22 : jc_fl "JudgedCodes$Strand" 22 9 2 "I" false := ⟨_, _, _, "JudgedCodes$Strand", rfl, by decide, jt2 (i := 180) rfl, Or.inl rfl, rfl, rfl, ck_9⟩
set_option maxRecDepth 4000 in
theorem f_S_25 : jc_fl "JudgedCodes$Strand" 25 9 3 "I" false := ⟨_, _, _, "JudgedCodes$Strand", rfl, by decide, jt2 (i := 181) rfl, Or.inl rfl, rfl, rfl, ck_9⟩
set_option maxRecDepth 4000 in
theorem f_S_28 : jc_fl "JudgedCodes$Strand" 28 9 4 "I" false := ⟨_, _, _, "JudgedCodes$Strand", rfl, by decide, jt2 (i := 182) rfl, Or.inl rfl, rfl, rfl, ck_9⟩
set_option maxRecDepth 4000 in
theorem f_S_31 : jc_fl "JudgedCodes$Strand" 31 9 5 "I" false := ⟨_, _, _, "JudgedCodes$Strand", rfl, by decide, jt2 (i := 183) rfl, Or.inl rfl, rfl, rfl, ck_9⟩
set_option maxRecDepth 4000 in
theorem f_S_34 : jc_fl "JudgedCodes$Strand" 34 9 6 "Z" false := ⟨_, _, _, "JudgedCodes$Strand", rfl, by decide, jt2 (i := 184) rfl, Or.inl rfl, rfl, rfl, ck_9⟩
set_option maxRecDepth 4000 in
theorem l_S_38 : Cond.methodLink "JudgedCodes$Strand" 38 y_S_beginFrame.1 ∈ lw_tbl := jt2 (i := 204) rfl
set_option maxRecDepth 4000 in
theorem l_S_42 : Cond.methodLink "JudgedCodes$Strand" 42 y_F_begin.1 ∈ lw_tbl := jt2 (i := 208) rfl
set_option maxRecDepth 4000 in
theorem f_F_18 : jc_fl "JudgedCodes$Frame" 18 8 2 "LJudgedCodes$Code;" false := ⟨_, _, _, "JudgedCodes$Frame", rfl, by decide, jt2 (i := 164) rfl, Or.inl rfl, rfl, rfl, ck_8⟩
set_option maxRecDepth 4000 in
theorem f_F_22 : jc_fl "JudgedCodes$Frame" 22 8 3 "I" false := ⟨_, _, _, "JudgedCodes$Frame", rfl, by decide, jt2 (i := 165) rfl, Or.inl rfl, rfl, rfl, ck_8⟩
set_option maxRecDepth 4000 in
theorem f_F_26 : jc_fl "JudgedCodes$Frame" 26 8 4 "I" false := ⟨_, _, _, "JudgedCodes$Frame", rfl, by decide, jt2 (i := 166) rfl, Or.inl rfl, rfl, rfl, ck_8⟩
set_option maxRecDepth 4000 in
theorem l_m_134 : Cond.methodLink "JudgedCodesModel" 134 y_m_isAllGood.1 ∈ lw_tbl := jt5 (i := 69) rfl
set_option maxRecDepth 4000 in
theorem n_m_137 : jc_nw "JudgedCodesModel" 137 14 7 := ⟨_, _, rfl, jt5 (i := 73) rfl, jt5 (i := 74) rfl, jt1 (i := 21) rfl, ck_14⟩
set_option maxRecDepth 4000 in
theorem l_m_139 : Cond.methodLink "JudgedCodesModel" 139 y_mT_init.1 ∈ lw_tbl := jt5 (i := 75) rfl
set_option maxRecDepth 4000 in
theorem c_m_137 : Cond.classLink "JudgedCodesModel" 137 "JudgedCodesModel$Thr" ∈ lw_tbl := jt5 (i := 73) rfl
set_option maxRecDepth 4000 in
theorem l_m_142 : Cond.methodLink "JudgedCodesModel" 142 y_mT_begin.1 ∈ lw_tbl := jt5 (i := 109) rfl
set_option maxRecDepth 4000 in
theorem l_m_145 : Cond.methodLink "JudgedCodesModel" 145 y_mT_push.1 ∈ lw_tbl := jt5 (i := 113) rfl
set_option maxRecDepth 4000 in
theorem f_m_149 : jc_fl "JudgedCodesModel" 149 14 0 "I" true := ⟨_, _, _, "JudgedCodesModel$Thr", rfl, by decide, jt5 (i := 82) rfl, Or.inl rfl, rfl, rfl, ck_14⟩
set_option maxRecDepth 4000 in
theorem l_mT_3 : Cond.methodLink "JudgedCodesModel$Thr" 3 objectInit ∈ lw_tbl := jt5 (i := 78) rfl
set_option maxRecDepth 4000 in
theorem n_mT_9 : jc_nw "JudgedCodesModel$Thr" 9 15 3 := ⟨_, _, rfl, jt5 (i := 79) rfl, jt4 (i := 54) rfl, jt1 (i := 9) rfl, ck_15⟩
set_option maxRecDepth 4000 in
theorem l_mT_11 : Cond.methodLink "JudgedCodesModel$Thr" 11 y_aL_init.1 ∈ lw_tbl := jt5 (i := 80) rfl
set_option maxRecDepth 4000 in
theorem f_mT_12 : jc_fl "JudgedCodesModel$Thr" 12 14 1 "Ljava/util/ArrayList;" true := ⟨_, _, _, "JudgedCodesModel$Thr", rfl, by decide, jt5 (i := 83) rfl, Or.inl rfl, rfl, rfl, ck_14⟩
set_option maxRecDepth 4000 in
theorem f_mT_18 : jc_fl "JudgedCodesModel$Thr" 18 14 0 "I" true := ⟨_, _, _, "JudgedCodesModel$Thr", rfl, by decide, jt5 (i := 81) rfl, Or.inl rfl, rfl, rfl, ck_14⟩
set_option maxRecDepth 4000 in
theorem f_mT_22 : jc_fl "JudgedCodesModel$Thr" 22 14 2 "I" false := ⟨_, _, _, "JudgedCodesModel$Thr", rfl, by decide, jt5 (i := 84) rfl, Or.inl rfl, rfl, rfl, ck_14⟩
set_option maxRecDepth 4000 in
theorem f_mT_25 : jc_fl "JudgedCodesModel$Thr" 25 14 3 "I" false := ⟨_, _, _, "JudgedCodesModel$Thr", rfl, by decide, jt5 (i := 86) rfl, Or.inl rfl, rfl, rfl, ck_14⟩
set_option maxRecDepth 4000 in
theorem f_mT_28 : jc_fl "JudgedCodesModel$Thr" 28 14 4 "I" false := ⟨_, _, _, "JudgedCodesModel$Thr", rfl, by decide, jt5 (i := 88) rfl, Or.inl rfl, rfl, rfl, ck_14⟩
set_option maxRecDepth 4000 in
theorem f_mT_31 : jc_fl "JudgedCodesModel$Thr" 31 14 5 "I" false := ⟨_, _, _, "JudgedCodesModel$Thr", rfl, by decide, jt5 (i := 90) rfl, Or.inl rfl, rfl, rfl, ck_14⟩
set_option maxRecDepth 4000 in
theorem f_mT_34 : jc_fl "JudgedCodesModel$Thr" 34 14 6 "I" false := ⟨_, _, _, "JudgedCodesModel$Thr", rfl, by decide, jt5 (i := 92) rfl, Or.inl rfl, rfl, rfl, ck_14⟩
set_option maxRecDepth 4000 in
theorem l_mT_43 : Cond.methodLink "JudgedCodesModel$Thr" 43 y_aL_size.1 ∈ lw_tbl := jt5 (i := 117) rfl
set_option maxRecDepth 4000 in
theorem n_mT_41 : jc_nw "JudgedCodesModel$Thr" 41 12 6 := ⟨_, _, rfl, jt5 (i := 118) rfl, jt5 (i := 119) rfl, jt1 (i := 22) rfl, ck_12⟩
set_option maxRecDepth 4000 in
theorem l_mT_47 : Cond.methodLinkNest "JudgedCodesModel$Thr" 47 y_mF_init.1 "JudgedCodesModel" ∈ lw_tbl := jt5 (i := 120) rfl
set_option maxRecDepth 4000 in
theorem l_mT_48 : Cond.methodLink "JudgedCodesModel$Thr" 48 y_aL_add1.1 ∈ lw_tbl := jt5 (i := 151) rfl
set_option maxRecDepth 4000 in
theorem l_mT_37 : Cond.methodLink "JudgedCodesModel$Thr" 37 y_aL_get.1 ∈ lw_tbl := jt5 (i := 152) rfl
set_option maxRecDepth 4000 in
theorem c_mT_41 : Cond.classLink "JudgedCodesModel$Thr" 41 "JudgedCodesModel$Frame" ∈ lw_tbl := jt5 (i := 118) rfl
set_option maxRecDepth 4000 in
theorem f_mT_52 : jc_fl "JudgedCodesModel$Thr" 52 12 0 "LJudgedCodesModel$Code;" false := ⟨_, _, _, "JudgedCodesModel$Frame", rfl, by decide, jt5 (i := 124) rfl, Or.inl rfl, rfl, rfl, ck_12⟩
set_option maxRecDepth 4000 in
theorem f_mT_56 : jc_fl "JudgedCodesModel$Thr" 56 12 1 "I" false := ⟨_, _, _, "JudgedCodesModel$Frame", rfl, by decide, jt5 (i := 126) rfl, Or.inl rfl, rfl, rfl, ck_12⟩
set_option maxRecDepth 4000 in
theorem f_mT_57 : jc_fl "JudgedCodesModel$Thr" 57 12 4 "I" false := ⟨_, _, _, "JudgedCodesModel$Frame", rfl, by decide, jt5 (i := 134) rfl, Or.inl rfl, rfl, rfl, ck_12⟩
set_option maxRecDepth 4000 in
theorem f_mT_60 : jc_fl "JudgedCodesModel$Thr" 60 12 5 "I" false := ⟨_, _, _, "JudgedCodesModel$Frame", rfl, by decide, jt5 (i := 136) rfl, Or.inl rfl, rfl, rfl, ck_12⟩
set_option maxRecDepth 4000 in
theorem f_mT_63 : jc_fl "JudgedCodesModel$Thr" 63 12 2 "[I" true := ⟨_, _, _, "JudgedCodesModel$Frame", rfl, by decide, jt5 (i := 129) rfl, Or.inl rfl, rfl, rfl, ck_12⟩
set_option maxRecDepth 4000 in
theorem l_mF_3 : Cond.methodLink "JudgedCodesModel$Frame" 3 objectInit ∈ lw_tbl := jt5 (i := 123) rfl
set_option maxRecDepth 4000 in
theorem f_mF_9 : jc_fl "JudgedCodesModel$Frame" 9 12 2 "[I" true := ⟨_, _, _, "JudgedCodesModel$Frame", rfl, by decide, jt5 (i := 128) rfl, Or.inl rfl, rfl, rfl, ck_12⟩
set_option maxRecDepth 4000 in
theorem f_mF_15 : jc_fl "JudgedCodesModel$Frame" 15 12 3 "[I" true := ⟨_, _, _, "JudgedCodesModel$Frame", rfl, by decide, jt5 (i := 131) rfl, Or.inl rfl, rfl, rfl, ck_12⟩
set_option maxRecDepth 4000 in
theorem l_J_84 : Cond.methodLink "JudgedCodes" 84 y_M_find.1 ∈ lw_tbl := jt2 (i := 220) rfl
set_option maxRecDepth 4000 in
theorem l_J_87 : Cond.methodLink "JudgedCodes" 87 y_M_advance.1 ∈ lw_tbl := jt2 (i := 224) rfl
set_option maxRecDepth 4000 in
theorem l_M_60 : Cond.methodLink "JudgedCodes$Machine" 60 y_S_hasEnded.1 ∈ lw_tbl := jt2 (i := 228) rfl
set_option maxRecDepth 4000 in
theorem l_M_64 : Cond.methodLink "JudgedCodes$Machine" 64 y_M_awaitedBy.1 ∈ lw_tbl := jt2 (i := 232) rfl
set_option maxRecDepth 4000 in
theorem l_M_68 : Cond.methodLink "JudgedCodes$Machine" 68 y_H_isFull.1 ∈ lw_tbl := jt3 (i := 33) rfl
set_option maxRecDepth 4000 in
theorem l_M_73 : Cond.methodLink "JudgedCodes$Machine" 73 y_M_objectHeldAgainst.1 ∈ lw_tbl := jt3 (i := 0) rfl
set_option maxRecDepth 4000 in
theorem l_M_76 : Cond.methodLink "JudgedCodes$Machine" 76 y_S_stop.1 ∈ lw_tbl := jt3 (i := 38) rfl
set_option maxRecDepth 4000 in
theorem l_M_79 : Cond.methodLink "JudgedCodes$Machine" 79 y_M_step.1 ∈ lw_tbl := jt3 (i := 42) rfl
set_option maxRecDepth 4000 in
theorem l_M_83 : Cond.methodLink "JudgedCodes$Machine" 83 y_S_state.1 ∈ lw_tbl := jt3 (i := 223) rfl
set_option maxRecDepth 4000 in
theorem l_M_87 : Cond.methodLink "JudgedCodes$Machine" 87 y_S_isStopped.1 ∈ lw_tbl := jt2 (i := 236) rfl
set_option maxRecDepth 4000 in
theorem l_M_90 : Cond.methodLink "JudgedCodes$Machine" 90 y_S_top.1 ∈ lw_tbl := jt3 (i := 4) rfl
set_option maxRecDepth 4000 in
theorem l_M_94 : Cond.methodLink "JudgedCodes$Machine" 94 y_F_ownCode.1 ∈ lw_tbl := jt3 (i := 8) rfl
set_option maxRecDepth 4000 in
theorem l_M_100 : Cond.methodLink "JudgedCodes$Machine" 100 y_F_at.1 ∈ lw_tbl := jt3 (i := 12) rfl
set_option maxRecDepth 4000 in
theorem l_M_103 : Cond.methodLink "JudgedCodes$Machine" 103 y_C_op.1 ∈ lw_tbl := jt3 (i := 16) rfl
set_option maxRecDepth 4000 in
theorem l_M_107 : Cond.methodLink "JudgedCodes$Machine" 107 y_F_peek.1 ∈ lw_tbl := jt3 (i := 17) rfl
set_option maxRecDepth 4000 in
theorem l_M_110 : Cond.methodLink "JudgedCodes$Machine" 110 y_H_find.1 ∈ lw_tbl := jt3 (i := 21) rfl
set_option maxRecDepth 4000 in
theorem l_M_113 : Cond.methodLink "JudgedCodes$Machine" 113 y_S_number.1 ∈ lw_tbl := jt3 (i := 25) rfl
set_option maxRecDepth 4000 in
theorem l_M_116 : Cond.methodLink "JudgedCodes$Machine" 116 y_T_isHeldByAnotherThan.1 ∈ lw_tbl := jt3 (i := 29) rfl
set_option maxRecDepth 4000 in
theorem f_H_21 : jc_fl "JudgedCodes$Heap" 21 3 2 "I" false := ⟨_, _, _, "JudgedCodes$Heap", rfl, by decide, jt1 (i := 94) rfl, Or.inl rfl, rfl, rfl, ck_3⟩
set_option maxRecDepth 4000 in
theorem f_T_22 : jc_fl "JudgedCodes$Thing" 22 7 2 "I" false := ⟨_, _, _, "JudgedCodes$Thing", rfl, by decide, jt3 (i := 200) rfl, Or.inl rfl, rfl, rfl, ck_7⟩
set_option maxRecDepth 4000 in
theorem f_H_25 : jc_fl "JudgedCodes$Heap" 25 3 3 "I" false := ⟨_, _, _, "JudgedCodes$Heap", rfl, by decide, jt1 (i := 95) rfl, Or.inl rfl, rfl, rfl, ck_3⟩
set_option maxRecDepth 4000 in
theorem c_H_28 : Cond.constant "JudgedCodes$Heap" 28 40000 ∈ lw_tbl := jt3 (i := 37) rfl
set_option maxRecDepth 4000 in
theorem l_M_125 : Cond.methodLink "JudgedCodes$Machine" 125 y_S_countStep.1 ∈ lw_tbl := jt3 (i := 46) rfl
set_option maxRecDepth 4000 in
theorem l_M_128 : Cond.methodLink "JudgedCodes$Machine" 128 y_M_failureOf.1 ∈ lw_tbl := jt3 (i := 50) rfl
set_option maxRecDepth 4000 in
theorem l_M_132 : Cond.methodLink "JudgedCodes$Machine" 132 y_C_operand.1 ∈ lw_tbl := jt3 (i := 70) rfl
set_option maxRecDepth 4000 in
theorem l_M_135 : Cond.methodLink "JudgedCodes$Machine" 135 y_M_perform.1 ∈ lw_tbl := jt3 (i := 71) rfl
set_option maxRecDepth 4000 in
theorem l_M_139 : Cond.methodLink "JudgedCodes$Machine" 139 y_H_make.1 ∈ lw_tbl := jt3 (i := 188) rfl
set_option maxRecDepth 4000 in
theorem l_M_142 : Cond.methodLink "JudgedCodes$Machine" 142 y_M_raise.1 ∈ lw_tbl := jt3 (i := 94) rfl
set_option maxRecDepth 4000 in
theorem l_M_146 : Cond.methodLink "JudgedCodes$Machine" 146 y_M_nullFailureOf.1 ∈ lw_tbl := jt3 (i := 54) rfl
set_option maxRecDepth 4000 in
theorem l_M_149 : Cond.methodLink "JudgedCodes$Machine" 149 y_M_failureOfLeave.1 ∈ lw_tbl := jt3 (i := 58) rfl
set_option maxRecDepth 4000 in
theorem l_M_153 : Cond.methodLink "JudgedCodes$Machine" 153 y_S_hasAllFrames.1 ∈ lw_tbl := jt3 (i := 66) rfl
set_option maxRecDepth 4000 in
theorem l_M_156 : Cond.methodLink "JudgedCodes$Machine" 156 y_T_isHeldBy.1 ∈ lw_tbl := jt3 (i := 62) rfl
set_option maxRecDepth 4000 in
theorem l_M_159 : Cond.methodLink "JudgedCodes$Machine" 159 y_F_goTo.1 ∈ lw_tbl := jt3 (i := 75) rfl
set_option maxRecDepth 4000 in
theorem l_M_162 : Cond.methodLink "JudgedCodes$Machine" 162 y_F_pop.1 ∈ lw_tbl := jt3 (i := 79) rfl
set_option maxRecDepth 4000 in
theorem l_M_165 : Cond.methodLink "JudgedCodes$Machine" 165 y_M_callCode.1 ∈ lw_tbl := jt3 (i := 85) rfl
set_option maxRecDepth 4000 in
theorem l_M_169 : Cond.methodLink "JudgedCodes$Machine" 169 y_M_giveBack.1 ∈ lw_tbl := jt3 (i := 146) rfl
set_option maxRecDepth 4000 in
theorem l_M_173 : Cond.methodLink "JudgedCodes$Machine" 173 y_M_compute.1 ∈ lw_tbl := jt3 (i := 155) rfl
set_option maxRecDepth 4000 in
theorem l_M_177 : Cond.methodLink "JudgedCodes$Machine" 177 y_F_push.1 ∈ lw_tbl := jt3 (i := 150) rfl
set_option maxRecDepth 4000 in
theorem l_M_180 : Cond.methodLink "JudgedCodes$Machine" 180 y_F_goOn.1 ∈ lw_tbl := jt3 (i := 151) rfl
set_option maxRecDepth 4000 in
theorem l_M_183 : Cond.methodLink "JudgedCodes$Machine" 183 y_M_useThing.1 ∈ lw_tbl := jt3 (i := 158) rfl
set_option maxRecDepth 4000 in
theorem l_M_186 : Cond.methodLink "JudgedCodes$Machine" 186 y_M_moveValue.1 ∈ lw_tbl := jt3 (i := 179) rfl
set_option maxRecDepth 4000 in
theorem l_F_29 : Cond.methodLink "JudgedCodes$Frame" 29 y_F_peek.1 ∈ lw_tbl := jt3 (i := 83) rfl
set_option maxRecDepth 4000 in
theorem l_F_33 : Cond.methodLink "JudgedCodes$Frame" 33 y_aM_max.1 ∈ lw_tbl := jt3 (i := 84) rfl
set_option maxRecDepth 4000 in
theorem l_M_218 : Cond.methodLink "JudgedCodes$Machine" 218 y_S_beginFrame.1 ∈ lw_tbl := jt3 (i := 89) rfl
set_option maxRecDepth 4000 in
theorem l_M_193 : Cond.methodLink "JudgedCodes$Machine" 193 y_F_setLocal.1 ∈ lw_tbl := jt3 (i := 90) rfl
set_option maxRecDepth 4000 in
theorem l_M_203 : Cond.methodLink "JudgedCodes$Machine" 203 y_T_kind.1 ∈ lw_tbl := jt3 (i := 98) rfl
set_option maxRecDepth 4000 in
theorem l_M_232 : Cond.methodLink "JudgedCodes$Machine" 232 y_S_frameCount.1 ∈ lw_tbl := jt3 (i := 102) rfl
set_option maxRecDepth 4000 in
theorem l_M_235 : Cond.methodLink "JudgedCodes$Machine" 235 y_C_takerOf.1 ∈ lw_tbl := jt3 (i := 106) rfl
set_option maxRecDepth 4000 in
theorem l_M_239 : Cond.methodLink "JudgedCodes$Machine" 239 y_F_holdOnly.1 ∈ lw_tbl := jt3 (i := 115) rfl
set_option maxRecDepth 4000 in
theorem l_M_225 : Cond.methodLink "JudgedCodes$Machine" 225 y_S_endFrame.1 ∈ lw_tbl := jt3 (i := 123) rfl
set_option maxRecDepth 4000 in
theorem l_M_228 : Cond.methodLink "JudgedCodes$Machine" 228 y_M_end.1 ∈ lw_tbl := jt3 (i := 128) rfl
set_option maxRecDepth 4000 in
theorem f_T_15 : jc_fl "JudgedCodes$Thing" 15 7 1 "I" false := ⟨_, _, _, "JudgedCodes$Thing", rfl, by decide, jt3 (i := 199) rfl, Or.inl rfl, rfl, rfl, ck_7⟩
set_option maxRecDepth 4000 in
theorem l_C_49 : Cond.methodLink "JudgedCodes$Code" 49 y_C_rowAt.1 ∈ lw_tbl := jt3 (i := 110) rfl
set_option maxRecDepth 4000 in
theorem l_C_53 : Cond.methodLink "JudgedCodes$Code" 53 y_R_takes.1 ∈ lw_tbl := jt3 (i := 111) rfl
set_option maxRecDepth 4000 in
theorem f_C_57 : jc_fl "JudgedCodes$Code" 57 5 2 "I" true := ⟨_, _, _, "JudgedCodes$Row", rfl, by decide, jt2 (i := 3) rfl, Or.inl rfl, rfl, rfl, ck_5⟩
set_option maxRecDepth 4000 in
theorem l_F_39 : Cond.methodLink "JudgedCodes$Frame" 39 y_F_push.1 ∈ lw_tbl := jt3 (i := 119) rfl
set_option maxRecDepth 4000 in
theorem l_S_46 : Cond.methodLink "JudgedCodes$Strand" 46 y_aM_max.1 ∈ lw_tbl := jt3 (i := 127) rfl
set_option maxRecDepth 4000 in
theorem l_M_242 : Cond.methodLink "JudgedCodes$Machine" 242 y_S_end.1 ∈ lw_tbl := jt3 (i := 132) rfl
set_option maxRecDepth 4000 in
theorem l_M_244 : Cond.methodLink "JudgedCodes$Machine" 244 y_H_freeAllHeldBy.1 ∈ lw_tbl := jt3 (i := 136) rfl
set_option maxRecDepth 4000 in
theorem l_H_38 : Cond.methodLink "JudgedCodes$Heap" 38 y_H_find.1 ∈ lw_tbl := jt3 (i := 140) rfl
set_option maxRecDepth 4000 in
theorem l_H_42 : Cond.methodLink "JudgedCodes$Heap" 42 y_T_isHeldBy.1 ∈ lw_tbl := jt3 (i := 141) rfl
set_option maxRecDepth 4000 in
theorem l_H_46 : Cond.methodLink "JudgedCodes$Heap" 46 y_T_setFree.1 ∈ lw_tbl := jt3 (i := 142) rfl
set_option maxRecDepth 4000 in
theorem f_T_25 : jc_fl "JudgedCodes$Thing" 25 7 3 "I" false := ⟨_, _, _, "JudgedCodes$Thing", rfl, by decide, jt3 (i := 201) rfl, Or.inl rfl, rfl, rfl, ck_7⟩
set_option maxRecDepth 4000 in
theorem f_M_222 : jc_fl "JudgedCodes$Machine" 222 6 2 "I" true := ⟨_, _, _, "JudgedCodes$Code", rfl, by decide, jt1 (i := 172) rfl, Or.inl rfl, rfl, rfl, ck_6⟩
set_option maxRecDepth 4000 in
theorem l_M_206 : Cond.methodLink "JudgedCodes$Machine" 206 y_T_field.1 ∈ lw_tbl := jt3 (i := 162) rfl
set_option maxRecDepth 4000 in
theorem l_M_209 : Cond.methodLink "JudgedCodes$Machine" 209 y_T_setField.1 ∈ lw_tbl := jt3 (i := 166) rfl
set_option maxRecDepth 4000 in
theorem l_M_212 : Cond.methodLink "JudgedCodes$Machine" 212 y_T_enter.1 ∈ lw_tbl := jt3 (i := 170) rfl
set_option maxRecDepth 4000 in
theorem l_M_215 : Cond.methodLink "JudgedCodes$Machine" 215 y_T_leave.1 ∈ lw_tbl := jt3 (i := 174) rfl
set_option maxRecDepth 4000 in
theorem f_T_9 : jc_fl "JudgedCodes$Thing" 9 7 0 "[I" true := ⟨_, _, _, "JudgedCodes$Thing", rfl, by decide, jt3 (i := 198) rfl, Or.inl rfl, rfl, rfl, ck_7⟩
set_option maxRecDepth 4000 in
theorem l_T_19 : Cond.methodLink "JudgedCodes$Thing" 19 y_T_setFree.1 ∈ lw_tbl := jt3 (i := 178) rfl
set_option maxRecDepth 4000 in
theorem l_M_190 : Cond.methodLink "JudgedCodes$Machine" 190 y_F_localAt.1 ∈ lw_tbl := jt3 (i := 183) rfl
set_option maxRecDepth 4000 in
theorem l_M_197 : Cond.methodLink "JudgedCodes$Machine" 197 y_H_globalAt.1 ∈ lw_tbl := jt3 (i := 215) rfl
set_option maxRecDepth 4000 in
theorem l_M_200 : Cond.methodLink "JudgedCodes$Machine" 200 y_H_setGlobal.1 ∈ lw_tbl := jt3 (i := 219) rfl
set_option maxRecDepth 4000 in
theorem l_F_43 : Cond.methodLink "JudgedCodes$Frame" 43 y_C_localCount.1 ∈ lw_tbl := jt3 (i := 187) rfl
set_option maxRecDepth 4000 in
theorem l_H_29 : Cond.methodLink "JudgedCodes$Heap" 29 y_H_isFull.1 ∈ lw_tbl := jt3 (i := 192) rfl
set_option maxRecDepth 4000 in
theorem n_H_9 : jc_nw "JudgedCodes$Heap" 9 7 4 := ⟨_, _, rfl, jt1 (i := 90) rfl, jt3 (i := 193) rfl, jt1 (i := 23) rfl, ck_7⟩
set_option maxRecDepth 4000 in
theorem l_H_33 : Cond.methodLinkNest "JudgedCodes$Heap" 33 y_T_init.1 "JudgedCodes" ∈ lw_tbl := jt3 (i := 194) rfl
set_option maxRecDepth 4000 in
theorem l_H_34 : Cond.methodLink "JudgedCodes$Heap" 34 y_T_begin.1 ∈ lw_tbl := jt3 (i := 211) rfl
set_option maxRecDepth 4000 in
theorem l_T_3 : Cond.methodLink "JudgedCodes$Thing" 3 objectInit ∈ lw_tbl := jt3 (i := 197) rfl
set_option maxRecDepth 4000 in
theorem f_m_163 : jc_fl "JudgedCodesModel" 163 14 4 "I" false := ⟨_, _, _, "JudgedCodesModel$Thr", rfl, by decide, jt5 (i := 89) rfl, Or.inl rfl, rfl, rfl, ck_14⟩
set_option maxRecDepth 4000 in
theorem l_m_166 : Cond.methodLink "JudgedCodesModel" 166 y_m_isHeldUp.1 ∈ lw_tbl := jt5 (i := 157) rfl
set_option maxRecDepth 4000 in
theorem f_m_170 : jc_fl "JudgedCodesModel" 170 10 5 "I" false := ⟨_, _, _, "JudgedCodesModel", rfl, by decide, jt4 (i := 84) rfl, Or.inl rfl, rfl, rfl, ck_10⟩
set_option maxRecDepth 4000 in
theorem c_m_173 : Cond.constant "JudgedCodesModel" 173 40000 ∈ lw_tbl := jt5 (i := 162) rfl
set_option maxRecDepth 4000 in
theorem f_m_152 : jc_fl "JudgedCodesModel" 152 14 6 "I" false := ⟨_, _, _, "JudgedCodesModel$Thr", rfl, by decide, jt5 (i := 93) rfl, Or.inl rfl, rfl, rfl, ck_14⟩
set_option maxRecDepth 4000 in
theorem l_m_174 : Cond.methodLink "JudgedCodesModel" 174 y_m_step.1 ∈ lw_tbl := jt5 (i := 163) rfl
set_option maxRecDepth 4000 in
theorem f_m_178 : jc_fl "JudgedCodesModel" 178 14 3 "I" false := ⟨_, _, _, "JudgedCodesModel$Thr", rfl, by decide, jt5 (i := 87) rfl, Or.inl rfl, rfl, rfl, ck_14⟩
set_option maxRecDepth 4000 in
theorem c_m_155 : Cond.classLink "JudgedCodesModel" 155 "JudgedCodesModel$Obj" ∈ lw_tbl := jt5 (i := 161) rfl
set_option maxRecDepth 4000 in
theorem f_m_157 : jc_fl "JudgedCodesModel" 157 13 3 "I" false := ⟨_, _, _, "JudgedCodesModel$Obj", rfl, by decide, jt5 (i := 194) rfl, Or.inl rfl, rfl, rfl, ck_13⟩
set_option maxRecDepth 4000 in
theorem f_m_160 : jc_fl "JudgedCodesModel" 160 13 2 "I" false := ⟨_, _, _, "JudgedCodesModel$Obj", rfl, by decide, jt5 (i := 193) rfl, Or.inl rfl, rfl, rfl, ck_13⟩
set_option maxRecDepth 4000 in
theorem l_m_186 : Cond.methodLink "JudgedCodesModel" 186 y_mT_top.1 ∈ lw_tbl := jt5 (i := 167) rfl
set_option maxRecDepth 4000 in
theorem f_m_190 : jc_fl "JudgedCodesModel" 190 12 0 "LJudgedCodesModel$Code;" false := ⟨_, _, _, "JudgedCodesModel$Frame", rfl, by decide, jt5 (i := 125) rfl, Or.inl rfl, rfl, rfl, ck_12⟩
set_option maxRecDepth 4000 in
theorem f_m_195 : jc_fl "JudgedCodesModel" 195 12 5 "I" false := ⟨_, _, _, "JudgedCodesModel$Frame", rfl, by decide, jt5 (i := 137) rfl, Or.inl rfl, rfl, rfl, ck_12⟩
set_option maxRecDepth 4000 in
theorem l_m_206 : Cond.methodLink "JudgedCodesModel" 206 y_mF_pop.1 ∈ lw_tbl := jt5 (i := 171) rfl
set_option maxRecDepth 4000 in
theorem l_m_209 : Cond.methodLink "JudgedCodesModel" 209 y_m_call.1 ∈ lw_tbl := jt5 (i := 175) rfl
set_option maxRecDepth 4000 in
theorem l_m_213 : Cond.methodLink "JudgedCodesModel" 213 y_mF_top.1 ∈ lw_tbl := jt5 (i := 216) rfl
set_option maxRecDepth 4000 in
theorem l_m_215 : Cond.methodLink "JudgedCodesModel" 215 y_m_fresh.1 ∈ lw_tbl := jt5 (i := 179) rfl
set_option maxRecDepth 4000 in
theorem l_m_219 : Cond.methodLink "JudgedCodesModel" 219 y_m_flies.1 ∈ lw_tbl := jt5 (i := 204) rfl
set_option maxRecDepth 4000 in
theorem l_m_223 : Cond.methodLink "JudgedCodesModel" 223 y_m_monitor.1 ∈ lw_tbl := jt5 (i := 220) rfl
set_option maxRecDepth 4000 in
theorem l_m_226 : Cond.methodLink "JudgedCodesModel" 226 y_m_ends.1 ∈ lw_tbl := jt5 (i := 224) rfl
set_option maxRecDepth 4000 in
theorem l_m_230 : Cond.methodLink "JudgedCodesModel" 230 y_m_field.1 ∈ lw_tbl := jt5 (i := 228) rfl
set_option maxRecDepth 4000 in
theorem l_m_234 : Cond.methodLink "JudgedCodesModel" 234 y_m_plain.1 ∈ lw_tbl := jt5 (i := 232) rfl
set_option maxRecDepth 4000 in
theorem f_mF_18 : jc_fl "JudgedCodesModel$Frame" 18 12 4 "I" false := ⟨_, _, _, "JudgedCodesModel$Frame", rfl, by decide, jt5 (i := 133) rfl, Or.inl rfl, rfl, rfl, ck_12⟩
set_option maxRecDepth 4000 in
theorem f_m_183 : jc_fl "JudgedCodesModel" 183 14 2 "I" false := ⟨_, _, _, "JudgedCodesModel$Thr", rfl, by decide, jt5 (i := 85) rfl, Or.inl rfl, rfl, rfl, ck_14⟩
set_option maxRecDepth 4000 in
theorem f_m_199 : jc_fl "JudgedCodesModel" 199 12 4 "I" false := ⟨_, _, _, "JudgedCodesModel$Frame", rfl, by decide, jt5 (i := 135) rfl, Or.inl rfl, rfl, rfl, ck_12⟩
set_option maxRecDepth 4000 in
theorem f_m_237 : jc_fl "JudgedCodesModel" 237 12 2 "[I" true := ⟨_, _, _, "JudgedCodesModel$Frame", rfl, by decide, jt5 (i := 130) rfl, Or.inl rfl, rfl, rfl, ck_12⟩
set_option maxRecDepth 4000 in
theorem f_m_238 : jc_fl "JudgedCodesModel" 238 12 3 "[I" true := ⟨_, _, _, "JudgedCodesModel$Frame", rfl, by decide, jt5 (i := 132) rfl, Or.inl rfl, rfl, rfl, ck_12⟩
set_option maxRecDepth 4000 in
theorem n_m_155 : jc_nw "JudgedCodesModel" 155 13 4 := ⟨_, _, rfl, jt5 (i := 161) rfl, jt5 (i := 183) rfl, jt1 (i := 24) rfl, ck_13⟩
set_option maxRecDepth 4000 in
theorem l_m_181 : Cond.methodLink "JudgedCodesModel" 181 y_mO_init.1 ∈ lw_tbl := jt5 (i := 184) rfl
set_option maxRecDepth 4000 in
theorem l_mO_1 : Cond.methodLink "JudgedCodesModel$Obj" 1 objectInit ∈ lw_tbl := jt5 (i := 187) rfl
set_option maxRecDepth 4000 in
theorem f_mO_7 : jc_fl "JudgedCodesModel$Obj" 7 13 1 "[I" true := ⟨_, _, _, "JudgedCodesModel$Obj", rfl, by decide, jt5 (i := 190) rfl, Or.inl rfl, rfl, rfl, ck_13⟩
set_option maxRecDepth 4000 in
theorem f_mO_13 : jc_fl "JudgedCodesModel$Obj" 13 13 2 "I" false := ⟨_, _, _, "JudgedCodesModel$Obj", rfl, by decide, jt5 (i := 192) rfl, Or.inl rfl, rfl, rfl, ck_13⟩
set_option maxRecDepth 4000 in
theorem f_mO_17 : jc_fl "JudgedCodesModel$Obj" 17 13 0 "I" true := ⟨_, _, _, "JudgedCodesModel$Obj", rfl, by decide, jt5 (i := 188) rfl, Or.inl rfl, rfl, rfl, ck_13⟩
set_option maxRecDepth 4000 in
theorem f_m_197 : jc_fl "JudgedCodesModel" 197 13 0 "I" true := ⟨_, _, _, "JudgedCodesModel$Obj", rfl, by decide, jt5 (i := 189) rfl, Or.inl rfl, rfl, rfl, ck_13⟩
set_option maxRecDepth 4000 in
theorem l_m_200 : Cond.methodLink "JudgedCodesModel" 200 y_mF_push.1 ∈ lw_tbl := jt5 (i := 208) rfl
set_option maxRecDepth 4000 in
theorem l_m_202 : Cond.methodLink "JudgedCodesModel" 202 y_m_over.1 ∈ lw_tbl := jt5 (i := 212) rfl
set_option maxRecDepth 4000 in
theorem f_m_182 : jc_fl "JudgedCodesModel" 182 14 5 "I" false := ⟨_, _, _, "JudgedCodesModel$Thr", rfl, by decide, jt5 (i := 91) rfl, Or.inl rfl, rfl, rfl, ck_14⟩
set_option maxRecDepth 4000 in
theorem f_m_241 : jc_fl "JudgedCodesModel" 241 13 1 "[I" true := ⟨_, _, _, "JudgedCodesModel$Obj", rfl, by decide, jt5 (i := 191) rfl, Or.inl rfl, rfl, rfl, ck_13⟩
set_option maxRecDepth 4000 in
theorem l_J_91 : Cond.methodLink "JudgedCodes" 91 y_M_awaitedBy.1 ∈ lw_tbl := jt3 (i := 231) rfl
set_option maxRecDepth 4000 in
theorem l_J_95 : Cond.methodLink "JudgedCodes" 95 y_S_tell.1 ∈ lw_tbl := jt3 (i := 232) rfl
set_option maxRecDepth 4000 in
theorem l_S_52 : Cond.methodLink "JudgedCodes$Strand" 52 y_S_top.1 ∈ lw_tbl := jt3 (i := 236) rfl
set_option maxRecDepth 4000 in
theorem l_S_56 : Cond.methodLink "JudgedCodes$Strand" 56 y_F_ownCode.1 ∈ lw_tbl := jt3 (i := 237) rfl
set_option maxRecDepth 4000 in
theorem f_S_60 : jc_fl "JudgedCodes$Strand" 60 6 0 "I" true := ⟨_, _, _, "JudgedCodes$Code", rfl, by decide, jt1 (i := 166) rfl, Or.inl rfl, rfl, rfl, ck_6⟩
set_option maxRecDepth 4000 in
theorem l_S_63 : Cond.methodLink "JudgedCodes$Strand" 63 y_F_at.1 ∈ lw_tbl := jt3 (i := 238) rfl
set_option maxRecDepth 4000 in
theorem l_S_67 : Cond.methodLink "JudgedCodes$Strand" 67 y_F_depth.1 ∈ lw_tbl := jt3 (i := 239) rfl
set_option maxRecDepth 4000 in
theorem f_m_244 : jc_fl "JudgedCodesModel" 244 12 1 "I" false := ⟨_, _, _, "JudgedCodesModel$Frame", rfl, by decide, jt5 (i := 127) rfl, Or.inl rfl, rfl, rfl, ck_12⟩
set_option maxRecDepth 4000 in
theorem l_J_100 : Cond.methodLink "JudgedCodes" 100 y_H_find.1 ∈ lw_tbl := jt4 (i := 7) rfl
set_option maxRecDepth 4000 in
theorem l_J_103 : Cond.methodLink "JudgedCodes" 103 y_T_tell.1 ∈ lw_tbl := jt4 (i := 8) rfl
set_option maxRecDepth 4000 in
theorem l_T_28 : Cond.methodLink "JudgedCodes$Thing" 28 y_T_field.1 ∈ lw_tbl := jt4 (i := 12) rfl
set_option maxRecDepth 4000 in
theorem l_J_106 : Cond.methodLink "JudgedCodes" 106 y_S_top.1 ∈ lw_tbl := jt4 (i := 17) rfl
set_option maxRecDepth 4000 in
theorem l_J_110 : Cond.methodLink "JudgedCodes" 110 y_F_peek.1 ∈ lw_tbl := jt4 (i := 18) rfl
set_option maxRecDepth 4000 in
theorem l_J_115 : Cond.methodLink "JudgedCodes" 115 y_F_localAt.1 ∈ lw_tbl := jt4 (i := 19) rfl
set_option maxRecDepth 4000 in
theorem l_J_118 : Cond.methodLink "JudgedCodes" 118 y_H_globalAt.1 ∈ lw_tbl := jt4 (i := 24) rfl
set_option maxRecDepth 4000 in
theorem l_J_121 : Cond.methodLink "JudgedCodes" 121 y_M_countStuck.1 ∈ lw_tbl := jt4 (i := 29) rfl
set_option maxRecDepth 4000 in
theorem l_M_122 : Cond.methodLink "JudgedCodes$Machine" 122 y_M_find.1 ∈ lw_tbl := jt4 (i := 33) rfl
set_option maxRecDepth 4000 in
theorem l_J_125 : Cond.methodLink "JudgedCodes" 125 y_Cs_close.1 ∈ lw_tbl := jt4 (i := 38) rfl
set_option maxRecDepth 4000 in
theorem l_J_128 : Cond.methodLink "JudgedCodes" 128 y_M_clear.1 ∈ lw_tbl := jt4 (i := 39) rfl
set_option maxRecDepth 4000 in
theorem l_J_131 : Cond.methodLink "JudgedCodes" 131 y_H_clear.1 ∈ lw_tbl := jt4 (i := 43) rfl
set_option maxRecDepth 4000 in
theorem l_m_245 : Cond.methodLink "JudgedCodesModel" 245 y_aL_clear.1 ∈ lw_tbl := jt6 (i := 20) rfl
set_option maxRecDepth 4000 in
theorem ao_C : Cond.arrayOver (.object "JudgedCodes$Code") ∈ lw_tbl := jt1 (i := 40) rfl
set_option maxRecDepth 4000 in
theorem ao_T : Cond.arrayOver (.object "JudgedCodes$Thing") ∈ lw_tbl := jt1 (i := 91) rfl
set_option maxRecDepth 4000 in
theorem ao_S : Cond.arrayOver (.object "JudgedCodes$Strand") ∈ lw_tbl := jt1 (i := 112) rfl
set_option maxRecDepth 4000 in
theorem ao_R : Cond.arrayOver (.object "JudgedCodes$Row") ∈ lw_tbl := jt1 (i := 163) rfl
set_option maxRecDepth 4000 in
theorem ao_F : Cond.arrayOver (.object "JudgedCodes$Frame") ∈ lw_tbl := jt2 (i := 156) rfl
set_option maxRecDepth 4000 in
theorem ao_oO : Cond.arrayOver (.object "java/lang/Object") ∈ lw_tbl := jt4 (i := 220) rfl
set_option maxRecDepth 4000 in
theorem ac_int : Cond.arrayClass .int ∈ lw_tbl := jt1 (i := 82) rfl
set_option maxRecDepth 4000 in
theorem ac_boolean : Cond.arrayClass .boolean ∈ lw_tbl := jt1 (i := 83) rfl
set_option maxRecDepth 4000 in
theorem ca_mC_mC : Cond.castable "JudgedCodesModel$Code" "JudgedCodesModel$Code" ∈ lw_tbl := jt6 (i := 24) rfl
set_option maxRecDepth 4000 in
theorem ca_mT_mT : Cond.castable "JudgedCodesModel$Thr" "JudgedCodesModel$Thr" ∈ lw_tbl := jt6 (i := 25) rfl
set_option maxRecDepth 4000 in
theorem ca_mF_mF : Cond.castable "JudgedCodesModel$Frame" "JudgedCodesModel$Frame" ∈ lw_tbl := jt6 (i := 26) rfl
set_option maxRecDepth 4000 in
theorem ca_mO_mO : Cond.castable "JudgedCodesModel$Obj" "JudgedCodesModel$Obj" ∈ lw_tbl := jt6 (i := 27) rfl
set_option maxRecDepth 4000 in
theorem ca_J_oO : Cond.castable "JudgedCodes" "java/lang/Object" ∈ lw_tbl := jt6 (i := 31) rfl
set_option maxRecDepth 4000 in
theorem ca_Cs_oO : Cond.castable "JudgedCodes$Codes" "java/lang/Object" ∈ lw_tbl := jt6 (i := 32) rfl
set_option maxRecDepth 4000 in
theorem ca_G_oO : Cond.castable "JudgedCodes$Judge" "java/lang/Object" ∈ lw_tbl := jt6 (i := 33) rfl
set_option maxRecDepth 4000 in
theorem ca_H_oO : Cond.castable "JudgedCodes$Heap" "java/lang/Object" ∈ lw_tbl := jt6 (i := 34) rfl
set_option maxRecDepth 4000 in
theorem ca_M_oO : Cond.castable "JudgedCodes$Machine" "java/lang/Object" ∈ lw_tbl := jt6 (i := 35) rfl
set_option maxRecDepth 4000 in
theorem ca_m_oO : Cond.castable "JudgedCodesModel" "java/lang/Object" ∈ lw_tbl := jt6 (i := 36) rfl
set_option maxRecDepth 4000 in
theorem ca_C_oO : Cond.castable "JudgedCodes$Code" "java/lang/Object" ∈ lw_tbl := jt6 (i := 37) rfl
set_option maxRecDepth 4000 in
theorem ca_mC_oO : Cond.castable "JudgedCodesModel$Code" "java/lang/Object" ∈ lw_tbl := jt6 (i := 38) rfl
set_option maxRecDepth 4000 in
theorem ca_R_oO : Cond.castable "JudgedCodes$Row" "java/lang/Object" ∈ lw_tbl := jt6 (i := 39) rfl
set_option maxRecDepth 4000 in
theorem ca_S_oO : Cond.castable "JudgedCodes$Strand" "java/lang/Object" ∈ lw_tbl := jt6 (i := 40) rfl
set_option maxRecDepth 4000 in
theorem ca_F_oO : Cond.castable "JudgedCodes$Frame" "java/lang/Object" ∈ lw_tbl := jt6 (i := 41) rfl
set_option maxRecDepth 4000 in
theorem ca_mT_oO : Cond.castable "JudgedCodesModel$Thr" "java/lang/Object" ∈ lw_tbl := jt6 (i := 42) rfl
set_option maxRecDepth 4000 in
theorem ca_mF_oO : Cond.castable "JudgedCodesModel$Frame" "java/lang/Object" ∈ lw_tbl := jt6 (i := 43) rfl
set_option maxRecDepth 4000 in
theorem ca_T_oO : Cond.castable "JudgedCodes$Thing" "java/lang/Object" ∈ lw_tbl := jt6 (i := 44) rfl
set_option maxRecDepth 4000 in
theorem ca_mO_oO : Cond.castable "JudgedCodesModel$Obj" "java/lang/Object" ∈ lw_tbl := jt6 (i := 45) rfl
set_option maxRecDepth 4000 in
theorem oi_i : Cond.instanceMethod objectInit ∈ lw_tbl := jt1 (i := 31) rfl
set_option maxRecDepth 4000 in
theorem oi_c : Cond.code objectInit ⟨#[0xb1]⟩ 1 none ∈ lw_tbl := jt1 (i := 32) rfl
