/-! the methods: name, code, locals, answer, frames and locals that its calls need (gen_names.py) -/
theorem jp {i : Nat} {w : Cond} (h : (k2_sels lw_privs)[i]? = some w) : w ∈ lw_tbl := List.mem_append_left _ (List.mem_of_getElem? h)
theorem jt1 {i : Nat} {w : Cond} (h : tables_1_1[i]? = some w) : w ∈ lw_tbl := List.mem_append_right _ (show w ∈ tables_1_1 ++ (tables_1_2 ++ (tables_1_3 ++ (tables_1_4 ++ (tables_1_5 ++ tables_1_6)))) from List.mem_append_left _ (List.mem_of_getElem? h))
theorem jt2 {i : Nat} {w : Cond} (h : tables_1_2[i]? = some w) : w ∈ lw_tbl := List.mem_append_right _ (show w ∈ tables_1_1 ++ (tables_1_2 ++ (tables_1_3 ++ (tables_1_4 ++ (tables_1_5 ++ tables_1_6)))) from List.mem_append_right _ (List.mem_append_left _ (List.mem_of_getElem? h)))
theorem jt3 {i : Nat} {w : Cond} (h : tables_1_3[i]? = some w) : w ∈ lw_tbl := List.mem_append_right _ (show w ∈ tables_1_1 ++ (tables_1_2 ++ (tables_1_3 ++ (tables_1_4 ++ (tables_1_5 ++ tables_1_6)))) from List.mem_append_right _ (List.mem_append_right _ (List.mem_append_left _ (List.mem_of_getElem? h))))
theorem jt4 {i : Nat} {w : Cond} (h : tables_1_4[i]? = some w) : w ∈ lw_tbl := List.mem_append_right _ (show w ∈ tables_1_1 ++ (tables_1_2 ++ (tables_1_3 ++ (tables_1_4 ++ (tables_1_5 ++ tables_1_6)))) from List.mem_append_right _ (List.mem_append_right _ (List.mem_append_right _ (List.mem_append_left _ (List.mem_of_getElem? h)))))
theorem jt5 {i : Nat} {w : Cond} (h : tables_1_5[i]? = some w) : w ∈ lw_tbl := List.mem_append_right _ (show w ∈ tables_1_1 ++ (tables_1_2 ++ (tables_1_3 ++ (tables_1_4 ++ (tables_1_5 ++ tables_1_6)))) from List.mem_append_right _ (List.mem_append_right _ (List.mem_append_right _ (List.mem_append_right _ (List.mem_append_left _ (List.mem_of_getElem? h))))))
theorem jt6 {i : Nat} {w : Cond} (h : tables_1_6[i]? = some w) : w ∈ lw_tbl := List.mem_append_right _ (show w ∈ tables_1_1 ++ (tables_1_2 ++ (tables_1_3 ++ (tables_1_4 ++ (tables_1_5 ++ tables_1_6)))) from List.mem_append_right _ (List.mem_append_right _ (List.mem_append_right _ (List.mem_append_right _ (List.mem_append_right _ (List.mem_of_getElem? h))))))
def y_L_law : jc_Y := (⟨"JudgedCodesLaw", "law", "([I)Z"⟩, code, 4, some .boolean, 11, 263)
def y_J_init : jc_Y := (⟨"JudgedCodes", "<init>", "()V"⟩, prog_1_method_1_code, 1, none, 2, 43)
def y_Cs_init : jc_Y := (⟨"JudgedCodes$Codes", "<init>", "()V"⟩, prog_3_method_1_code, 1, none, 1, 20)
def y_G_init : jc_Y := (⟨"JudgedCodes$Judge", "<init>", "(LJudgedCodes$Codes;)V"⟩, prog_6_method_1_code, 2, none, 1, 20)
def y_H_init : jc_Y := (⟨"JudgedCodes$Heap", "<init>", "()V"⟩, prog_5_method_1_code, 1, none, 1, 20)
def y_M_init : jc_Y := (⟨"JudgedCodes$Machine", "<init>", "(LJudgedCodes$Codes;LJudgedCodes$Judge;LJudgedCodes$Heap;)V"⟩, prog_7_method_1_code, 4, none, 1, 20)
def y_m_init : jc_Y := (⟨"JudgedCodesModel", "<init>", "()V"⟩, prog_12_method_1_code, 1, none, 4, 80)
def y_aL_init : jc_Y := (⟨"java/util/ArrayList", "<init>", "()V"⟩, prog_24_method_2_code, 1, none, 3, 60)
def y_aB_init : jc_Y := (⟨"java/util/AbstractList", "<init>", "()V"⟩, prog_23_method_1_code, 1, none, 2, 40)
def y_aC_init : jc_Y := (⟨"java/util/AbstractCollection", "<init>", "()V"⟩, prog_22_method_1_code, 1, none, 1, 20)
def y_J_code : jc_Y := (⟨"JudgedCodes", "code", "(II)I"⟩, prog_1_method_2_code, 3, (some FieldType.int), 3, 65)
def y_J_isWithin : jc_Y := (⟨"JudgedCodes", "isWithin", "(III)Z"⟩, prog_1_method_15_code, 3, (some FieldType.boolean), 0, 0)
def y_M_hasStrands : jc_Y := (⟨"JudgedCodes$Machine", "hasStrands", "()Z"⟩, prog_7_method_2_code, 1, (some FieldType.boolean), 0, 0)
def y_Cs_begin : jc_Y := (⟨"JudgedCodes$Codes", "begin", "(II)I"⟩, prog_3_method_2_code, 3, (some FieldType.int), 2, 43)
def y_C_init : jc_Y := (⟨"JudgedCodes$Code", "<init>", "(III)V"⟩, prog_2_method_1_code, 4, none, 1, 20)
def y_m_code : jc_Y := (⟨"JudgedCodesModel", "code", "(II)I"⟩, prog_12_method_3_code, 3, (some FieldType.int), 7, 165)
def y_aL_size : jc_Y := (⟨"java/util/ArrayList", "size", "()I"⟩, prog_24_method_8_code, 1, (some FieldType.int), 0, 0)
def y_mC_init : jc_Y := (⟨"JudgedCodesModel$Code", "<init>", "(II)V"⟩, prog_13_method_1_code, 3, none, 1, 20)
def y_aL_add1 : jc_Y := (⟨"java/util/ArrayList", "add", "(Ljava/lang/Object;)Z"⟩, prog_24_method_25_code, 2, (some FieldType.boolean), 6, 144)
def y_aL_add3 : jc_Y := (⟨"java/util/ArrayList", "add", "(Ljava/lang/Object;[Ljava/lang/Object;I)V"⟩, prog_24_method_24_code, 4, none, 5, 121)
def y_aL_grow0 : jc_Y := (⟨"java/util/ArrayList", "grow", "()[Ljava/lang/Object;"⟩, prog_24_method_7_code, 1, (some (FieldType.array (FieldType.object "java/lang/Object"))), 4, 101)
def y_aL_grow1 : jc_Y := (⟨"java/util/ArrayList", "grow", "(I)[Ljava/lang/Object;"⟩, prog_24_method_6_code, 4, (some (FieldType.array (FieldType.object "java/lang/Object"))), 3, 78)
def y_aS_newLength : jc_Y := (⟨"jdk/internal/util/ArraysSupport", "newLength", "(III)I"⟩, prog_31_method_27_code, 4, (some FieldType.int), 1, 22)
def y_aM_max : jc_Y := (⟨"java/lang/Math", "max", "(II)I"⟩, prog_20_method_65_code, 2, (some FieldType.int), 0, 0)
def y_aS_hugeLength : jc_Y := (⟨"jdk/internal/util/ArraysSupport", "hugeLength", "(II)I"⟩, prog_31_method_28_code, 3, (some FieldType.int), 0, 0)
def y_aR_copyOf2 : jc_Y := (⟨"java/util/Arrays", "copyOf", "([Ljava/lang/Object;I)[Ljava/lang/Object;"⟩, prog_25_method_119_code, 2, (some (FieldType.array (FieldType.object "java/lang/Object"))), 2, 57)
def y_aR_copyOf3 : jc_Y := (⟨"java/util/Arrays", "copyOf", "([Ljava/lang/Object;ILjava/lang/Class;)[Ljava/lang/Object;"⟩, prog_25_method_120_code, 4, (some (FieldType.array (FieldType.object "java/lang/Object"))), 1, 34)
def y_aM_min : jc_Y := (⟨"java/lang/Math", "min", "(II)I"⟩, prog_20_method_69_code, 2, (some FieldType.int), 0, 0)
def y_J_local : jc_Y := (⟨"JudgedCodes", "local", "(I)I"⟩, prog_1_method_3_code, 3, (some FieldType.int), 1, 22)
def y_Cs_open : jc_Y := (⟨"JudgedCodes$Codes", "open", "()LJudgedCodes$Code;"⟩, prog_3_method_3_code, 1, (some (FieldType.object "JudgedCodes$Code")), 0, 0)
def y_C_tellLocal : jc_Y := (⟨"JudgedCodes$Code", "tellLocal", "(I)I"⟩, prog_2_method_2_code, 2, (some FieldType.int), 0, 0)
def y_m_local : jc_Y := (⟨"JudgedCodesModel", "local", "(I)I"⟩, prog_12_method_4_code, 2, (some FieldType.int), 0, 0)
def y_J_add : jc_Y := (⟨"JudgedCodes", "add", "(II)I"⟩, prog_1_method_4_code, 4, (some FieldType.int), 2, 43)
def y_J_fits : jc_Y := (⟨"JudgedCodes", "fits", "(II)Z"⟩, prog_1_method_16_code, 2, (some FieldType.boolean), 1, 22)
def y_C_tellInstruction : jc_Y := (⟨"JudgedCodes$Code", "tellInstruction", "(II)I"⟩, prog_2_method_3_code, 3, (some FieldType.int), 0, 0)
def y_m_add : jc_Y := (⟨"JudgedCodesModel", "add", "(II)I"⟩, prog_12_method_5_code, 4, (some FieldType.int), 0, 0)
def y_J_row : jc_Y := (⟨"JudgedCodes", "row", "(IIII)I"⟩, prog_1_method_5_code, 7, (some FieldType.int), 3, 68)
def y_C_tellRow : jc_Y := (⟨"JudgedCodes$Code", "tellRow", "(IIII)I"⟩, prog_2_method_4_code, 5, (some FieldType.int), 2, 44)
def y_R_init : jc_Y := (⟨"JudgedCodes$Row", "<init>", "(IIII)V"⟩, prog_8_method_1_code, 5, none, 1, 20)
def y_m_row : jc_Y := (⟨"JudgedCodesModel", "row", "(IIII)I"⟩, prog_12_method_6_code, 5, (some FieldType.int), 1, 20)
def y_m_isPlace : jc_Y := (⟨"JudgedCodesModel", "isPlace", "(I)Z"⟩, prog_12_method_7_code, 1, (some FieldType.boolean), 0, 0)
def y_J_judge : jc_Y := (⟨"JudgedCodes", "judge", "(I)I"⟩, prog_1_method_6_code, 3, (some FieldType.int), 5, 109)
def y_Cs_find : jc_Y := (⟨"JudgedCodes$Codes", "find", "(I)LJudgedCodes$Code;"⟩, prog_3_method_5_code, 2, (some (FieldType.object "JudgedCodes$Code")), 0, 0)
def y_G_isGood : jc_Y := (⟨"JudgedCodes$Judge", "isGood", "(LJudgedCodes$Code;)Z"⟩, prog_6_method_2_code, 3, (some FieldType.boolean), 4, 87)
def y_C_size : jc_Y := (⟨"JudgedCodes$Code", "size", "()I"⟩, prog_2_method_5_code, 1, (some FieldType.int), 0, 0)
def y_C_op : jc_Y := (⟨"JudgedCodes$Code", "op", "(I)I"⟩, prog_2_method_9_code, 2, (some FieldType.int), 0, 0)
def y_J_isLast : jc_Y := (⟨"JudgedCodes", "isLast", "(I)Z"⟩, prog_1_method_18_code, 1, (some FieldType.boolean), 0, 0)
def y_C_localCount : jc_Y := (⟨"JudgedCodes$Code", "localCount", "()I"⟩, prog_2_method_6_code, 1, (some FieldType.int), 0, 0)
def y_G_namesJumpPlaces : jc_Y := (⟨"JudgedCodes$Judge", "namesJumpPlaces", "(LJudgedCodes$Code;)Z"⟩, prog_6_method_6_code, 3, (some FieldType.boolean), 1, 21)
def y_J_isJump : jc_Y := (⟨"JudgedCodes", "isJump", "(I)Z"⟩, prog_1_method_17_code, 1, (some FieldType.boolean), 0, 0)
def y_C_operand : jc_Y := (⟨"JudgedCodes$Code", "operand", "(I)I"⟩, prog_2_method_10_code, 2, (some FieldType.int), 0, 0)
def y_C_hasInstruction : jc_Y := (⟨"JudgedCodes$Code", "hasInstruction", "(I)Z"⟩, prog_2_method_12_code, 2, (some FieldType.boolean), 0, 0)
def y_G_namesRowPlaces : jc_Y := (⟨"JudgedCodes$Judge", "namesRowPlaces", "(LJudgedCodes$Code;)Z"⟩, prog_6_method_7_code, 4, (some FieldType.boolean), 1, 21)
def y_C_rowCount : jc_Y := (⟨"JudgedCodes$Code", "rowCount", "()I"⟩, prog_2_method_7_code, 1, (some FieldType.int), 0, 0)
def y_C_rowAt : jc_Y := (⟨"JudgedCodes$Code", "rowAt", "(I)LJudgedCodes$Row;"⟩, prog_2_method_11_code, 2, (some (FieldType.object "JudgedCodes$Row")), 0, 0)
def y_G_markPlaces : jc_Y := (⟨"JudgedCodes$Judge", "markPlaces", "(LJudgedCodes$Code;)V"⟩, prog_6_method_8_code, 4, none, 2, 43)
def y_G_mark : jc_Y := (⟨"JudgedCodes$Judge", "mark", "(II)V"⟩, prog_6_method_9_code, 3, none, 1, 21)
def y_G_arrive : jc_Y := (⟨"JudgedCodes$Judge", "arrive", "(IZ)V"⟩, prog_6_method_11_code, 4, none, 2, 42)
def y_G_markAt : jc_Y := (⟨"JudgedCodes$Judge", "markAt", "(I)I"⟩, prog_6_method_10_code, 2, (some FieldType.int), 0, 0)
def y_G_demand : jc_Y := (⟨"JudgedCodes$Judge", "demand", "(Z)V"⟩, prog_6_method_20_code, 2, none, 0, 0)
def y_G_give : jc_Y := (⟨"JudgedCodes$Judge", "give", "(I)V"⟩, prog_6_method_18_code, 2, none, 1, 21)
def y_G_follow : jc_Y := (⟨"JudgedCodes$Judge", "follow", "(LJudgedCodes$Code;II)V"⟩, prog_6_method_12_code, 4, none, 3, 64)
def y_G_topKind : jc_Y := (⟨"JudgedCodes$Judge", "topKind", "()I"⟩, prog_6_method_17_code, 1, (some FieldType.int), 0, 0)
def y_G_take : jc_Y := (⟨"JudgedCodes$Judge", "take", "(I)V"⟩, prog_6_method_19_code, 2, none, 1, 21)
def y_C_localKind : jc_Y := (⟨"JudgedCodes$Code", "localKind", "(I)I"⟩, prog_2_method_8_code, 2, (some FieldType.int), 0, 0)
def y_G_leaveFor : jc_Y := (⟨"JudgedCodes$Judge", "leaveFor", "(I)V"⟩, prog_6_method_16_code, 2, none, 1, 21)
def y_G_followUse : jc_Y := (⟨"JudgedCodes$Judge", "followUse", "(I)V"⟩, prog_6_method_13_code, 2, none, 2, 42)
def y_G_followCall : jc_Y := (⟨"JudgedCodes$Judge", "followCall", "(LJudgedCodes$Code;)V"⟩, prog_6_method_14_code, 3, none, 2, 42)
def y_G_followReturn : jc_Y := (⟨"JudgedCodes$Judge", "followReturn", "(LJudgedCodes$Code;)V"⟩, prog_6_method_15_code, 2, none, 2, 42)
def y_m_judge : jc_Y := (⟨"JudgedCodesModel", "judge", "(I)I"⟩, prog_12_method_17_code, 2, (some FieldType.int), 6, 133)
def y_m_isCode : jc_Y := (⟨"JudgedCodesModel", "isCode", "(I)Z"⟩, prog_12_method_8_code, 2, (some FieldType.boolean), 1, 20)
def y_aL_get : jc_Y := (⟨"java/util/ArrayList", "get", "(I)Ljava/lang/Object;"⟩, prog_24_method_20_code, 2, (some (FieldType.object "java/lang/Object")), 2, 43)
def y_aO_checkIndex : jc_Y := (⟨"java/util/Objects", "checkIndex", "(II)I"⟩, prog_28_method_17_code, 2, (some FieldType.int), 1, 22)
def y_aP_checkIndex : jc_Y := (⟨"jdk/internal/util/Preconditions", "checkIndex", "(IILjava/util/function/BiFunction;)I"⟩, prog_32_method_11_code, 3, (some FieldType.int), 0, 0)
def y_aL_elementData : jc_Y := (⟨"java/util/ArrayList", "elementData", "(I)Ljava/lang/Object;"⟩, prog_24_method_18_code, 2, (some (FieldType.object "java/lang/Object")), 0, 0)
def y_m_isGood : jc_Y := (⟨"JudgedCodesModel", "isGood", "(LJudgedCodesModel$Code;)Z"⟩, prog_12_method_12_code, 4, (some FieldType.boolean), 5, 110)
def y_m_isLeaving : jc_Y := (⟨"JudgedCodesModel", "isLeaving", "(I)Z"⟩, prog_12_method_11_code, 1, (some FieldType.boolean), 0, 0)
def y_mC_isLabel : jc_Y := (⟨"JudgedCodesModel$Code", "isLabel", "(I)Z"⟩, prog_13_method_3_code, 3, (some FieldType.boolean), 0, 0)
def y_mC_isTaker : jc_Y := (⟨"JudgedCodesModel$Code", "isTaker", "(I)Z"⟩, prog_13_method_2_code, 3, (some FieldType.boolean), 0, 0)
def y_m_isGoodStep : jc_Y := (⟨"JudgedCodesModel", "isGoodStep", "(LJudgedCodesModel$Code;II)Z"⟩, prog_12_method_15_code, 4, (some FieldType.boolean), 4, 87)
def y_m_gives : jc_Y := (⟨"JudgedCodesModel", "gives", "(I)Z"⟩, prog_12_method_9_code, 2, (some FieldType.boolean), 0, 0)
def y_m_takes : jc_Y := (⟨"JudgedCodesModel", "takes", "(I)Z"⟩, prog_12_method_10_code, 2, (some FieldType.boolean), 0, 0)
def y_m_kindOf : jc_Y := (⟨"JudgedCodesModel", "kindOf", "(LJudgedCodesModel$Code;I)I"⟩, prog_12_method_13_code, 2, (some FieldType.int), 0, 0)
def y_m_isTarget : jc_Y := (⟨"JudgedCodesModel", "isTarget", "(LJudgedCodesModel$Code;I)Z"⟩, prog_12_method_14_code, 3, (some FieldType.boolean), 1, 22)
def y_m_isGoodCall : jc_Y := (⟨"JudgedCodesModel", "isGoodCall", "(I)Z"⟩, prog_12_method_16_code, 4, (some FieldType.boolean), 3, 64)
def y_J_thread : jc_Y := (⟨"JudgedCodes", "thread", "(I)I"⟩, prog_1_method_7_code, 2, (some FieldType.int), 7, 154)
def y_M_begin : jc_Y := (⟨"JudgedCodes$Machine", "begin", "(I)I"⟩, prog_7_method_5_code, 3, (some FieldType.int), 6, 132)
def y_G_isGoodThroughout : jc_Y := (⟨"JudgedCodes$Judge", "isGoodThroughout", "(LJudgedCodes$Code;)Z"⟩, prog_6_method_3_code, 4, (some FieldType.boolean), 5, 109)
def y_G_reach : jc_Y := (⟨"JudgedCodes$Judge", "reach", "(LJudgedCodes$Code;)V"⟩, prog_6_method_5_code, 2, none, 0, 0)
def y_G_reachCallsOf : jc_Y := (⟨"JudgedCodes$Judge", "reachCallsOf", "(LJudgedCodes$Code;)V"⟩, prog_6_method_4_code, 3, none, 1, 21)
def y_S_init : jc_Y := (⟨"JudgedCodes$Strand", "<init>", "(I)V"⟩, prog_9_method_1_code, 3, none, 2, 40)
def y_F_init : jc_Y := (⟨"JudgedCodes$Frame", "<init>", "()V"⟩, prog_4_method_1_code, 1, none, 1, 20)
def y_S_begin : jc_Y := (⟨"JudgedCodes$Strand", "begin", "(LJudgedCodes$Code;)V"⟩, prog_9_method_2_code, 2, none, 2, 44)
def y_S_beginFrame : jc_Y := (⟨"JudgedCodes$Strand", "beginFrame", "(LJudgedCodes$Code;)LJudgedCodes$Frame;"⟩, prog_9_method_6_code, 3, (some (FieldType.object "JudgedCodes$Frame")), 1, 22)
def y_F_begin : jc_Y := (⟨"JudgedCodes$Frame", "begin", "(LJudgedCodes$Code;)V"⟩, prog_4_method_2_code, 3, none, 0, 0)
def y_Cs_close : jc_Y := (⟨"JudgedCodes$Codes", "close", "()V"⟩, prog_3_method_4_code, 1, none, 0, 0)
def y_m_thread : jc_Y := (⟨"JudgedCodesModel", "thread", "(I)I"⟩, prog_12_method_19_code, 4, (some FieldType.int), 8, 189)
def y_m_isAllGood : jc_Y := (⟨"JudgedCodesModel", "isAllGood", "(I)Z"⟩, prog_12_method_18_code, 7, (some FieldType.boolean), 6, 133)
def y_mT_init : jc_Y := (⟨"JudgedCodesModel$Thr", "<init>", "(I)V"⟩, prog_16_method_1_code, 2, none, 4, 80)
def y_mT_begin : jc_Y := (⟨"JudgedCodesModel$Thr", "begin", "()V"⟩, prog_16_method_2_code, 1, none, 0, 0)
def y_mT_push : jc_Y := (⟨"JudgedCodesModel$Thr", "push", "(LJudgedCodesModel$Code;I)LJudgedCodesModel$Frame;"⟩, prog_16_method_4_code, 5, (some (FieldType.object "JudgedCodesModel$Frame")), 7, 165)
def y_mF_init : jc_Y := (⟨"JudgedCodesModel$Frame", "<init>", "()V"⟩, prog_14_method_1_code, 1, none, 1, 20)
def y_J_run : jc_Y := (⟨"JudgedCodes", "run", "(II)I"⟩, prog_1_method_8_code, 4, (some FieldType.int), 7, 168)
def y_M_find : jc_Y := (⟨"JudgedCodes$Machine", "find", "(I)LJudgedCodes$Strand;"⟩, prog_7_method_3_code, 2, (some (FieldType.object "JudgedCodes$Strand")), 0, 0)
def y_M_advance : jc_Y := (⟨"JudgedCodes$Machine", "advance", "(LJudgedCodes$Strand;I)I"⟩, prog_7_method_6_code, 4, (some FieldType.int), 6, 145)
def y_S_hasEnded : jc_Y := (⟨"JudgedCodes$Strand", "hasEnded", "()Z"⟩, prog_9_method_9_code, 1, (some FieldType.boolean), 0, 0)
def y_M_awaitedBy : jc_Y := (⟨"JudgedCodes$Machine", "awaitedBy", "(LJudgedCodes$Strand;)I"⟩, prog_7_method_7_code, 2, (some FieldType.int), 2, 45)
def y_S_isStopped : jc_Y := (⟨"JudgedCodes$Strand", "isStopped", "()Z"⟩, prog_9_method_14_code, 1, (some FieldType.boolean), 0, 0)
def y_M_objectHeldAgainst : jc_Y := (⟨"JudgedCodes$Machine", "objectHeldAgainst", "(LJudgedCodes$Strand;)I"⟩, prog_7_method_8_code, 5, (some FieldType.int), 1, 21)
def y_S_top : jc_Y := (⟨"JudgedCodes$Strand", "top", "()LJudgedCodes$Frame;"⟩, prog_9_method_8_code, 1, (some (FieldType.object "JudgedCodes$Frame")), 0, 0)
def y_F_ownCode : jc_Y := (⟨"JudgedCodes$Frame", "ownCode", "()LJudgedCodes$Code;"⟩, prog_4_method_3_code, 1, (some (FieldType.object "JudgedCodes$Code")), 0, 0)
def y_F_at : jc_Y := (⟨"JudgedCodes$Frame", "at", "()I"⟩, prog_4_method_4_code, 1, (some FieldType.int), 0, 0)
def y_F_peek : jc_Y := (⟨"JudgedCodes$Frame", "peek", "(I)I"⟩, prog_4_method_10_code, 2, (some FieldType.int), 0, 0)
def y_H_find : jc_Y := (⟨"JudgedCodes$Heap", "find", "(I)LJudgedCodes$Thing;"⟩, prog_5_method_4_code, 2, (some (FieldType.object "JudgedCodes$Thing")), 0, 0)
def y_S_number : jc_Y := (⟨"JudgedCodes$Strand", "number", "()I"⟩, prog_9_method_3_code, 1, (some FieldType.int), 0, 0)
def y_T_isHeldByAnotherThan : jc_Y := (⟨"JudgedCodes$Thing", "isHeldByAnotherThan", "(I)Z"⟩, prog_10_method_7_code, 2, (some FieldType.boolean), 0, 0)
def y_H_isFull : jc_Y := (⟨"JudgedCodes$Heap", "isFull", "()Z"⟩, prog_5_method_2_code, 1, (some FieldType.boolean), 0, 0)
def y_S_stop : jc_Y := (⟨"JudgedCodes$Strand", "stop", "()V"⟩, prog_9_method_13_code, 1, none, 0, 0)
def y_M_step : jc_Y := (⟨"JudgedCodes$Machine", "step", "(LJudgedCodes$Strand;)V"⟩, prog_7_method_10_code, 6, none, 5, 120)
def y_S_countStep : jc_Y := (⟨"JudgedCodes$Strand", "countStep", "()V"⟩, prog_9_method_12_code, 1, none, 0, 0)
def y_M_failureOf : jc_Y := (⟨"JudgedCodes$Machine", "failureOf", "(LJudgedCodes$Strand;LJudgedCodes$Frame;I)I"⟩, prog_7_method_11_code, 4, (some FieldType.int), 2, 44)
def y_M_nullFailureOf : jc_Y := (⟨"JudgedCodes$Machine", "nullFailureOf", "(I)I"⟩, prog_7_method_12_code, 2, (some FieldType.int), 1, 21)
def y_M_failureOfLeave : jc_Y := (⟨"JudgedCodes$Machine", "failureOfLeave", "(LJudgedCodes$Strand;I)I"⟩, prog_7_method_13_code, 4, (some FieldType.int), 1, 21)
def y_T_isHeldBy : jc_Y := (⟨"JudgedCodes$Thing", "isHeldBy", "(I)Z"⟩, prog_10_method_6_code, 2, (some FieldType.boolean), 0, 0)
def y_S_hasAllFrames : jc_Y := (⟨"JudgedCodes$Strand", "hasAllFrames", "()Z"⟩, prog_9_method_5_code, 1, (some FieldType.boolean), 0, 0)
def y_M_perform : jc_Y := (⟨"JudgedCodes$Machine", "perform", "(LJudgedCodes$Strand;LJudgedCodes$Frame;II)V"⟩, prog_7_method_14_code, 6, none, 4, 95)
def y_F_goTo : jc_Y := (⟨"JudgedCodes$Frame", "goTo", "(I)V"⟩, prog_4_method_6_code, 2, none, 0, 0)
def y_F_pop : jc_Y := (⟨"JudgedCodes$Frame", "pop", "()I"⟩, prog_4_method_9_code, 2, (some FieldType.int), 1, 21)
def y_M_callCode : jc_Y := (⟨"JudgedCodes$Machine", "callCode", "(LJudgedCodes$Strand;LJudgedCodes$Frame;LJudgedCodes$Code;)V"⟩, prog_7_method_18_code, 6, none, 2, 44)
def y_F_setLocal : jc_Y := (⟨"JudgedCodes$Frame", "setLocal", "(II)V"⟩, prog_4_method_13_code, 3, none, 0, 0)
def y_M_raise : jc_Y := (⟨"JudgedCodes$Machine", "raise", "(LJudgedCodes$Strand;I)V"⟩, prog_7_method_20_code, 9, none, 3, 67)
def y_T_kind : jc_Y := (⟨"JudgedCodes$Thing", "kind", "()I"⟩, prog_10_method_3_code, 1, (some FieldType.int), 0, 0)
def y_S_frameCount : jc_Y := (⟨"JudgedCodes$Strand", "frameCount", "()I"⟩, prog_9_method_4_code, 1, (some FieldType.int), 0, 0)
def y_C_takerOf : jc_Y := (⟨"JudgedCodes$Code", "takerOf", "(II)I"⟩, prog_2_method_13_code, 5, (some FieldType.int), 1, 22)
def y_R_takes : jc_Y := (⟨"JudgedCodes$Row", "takes", "(II)Z"⟩, prog_8_method_2_code, 3, (some FieldType.boolean), 0, 0)
def y_F_holdOnly : jc_Y := (⟨"JudgedCodes$Frame", "holdOnly", "(I)V"⟩, prog_4_method_11_code, 2, none, 1, 21)
def y_F_push : jc_Y := (⟨"JudgedCodes$Frame", "push", "(I)V"⟩, prog_4_method_8_code, 2, none, 0, 0)
def y_S_endFrame : jc_Y := (⟨"JudgedCodes$Strand", "endFrame", "()V"⟩, prog_9_method_7_code, 1, none, 1, 21)
def y_M_end : jc_Y := (⟨"JudgedCodes$Machine", "end", "(LJudgedCodes$Strand;II)V"⟩, prog_7_method_21_code, 4, none, 2, 44)
def y_S_end : jc_Y := (⟨"JudgedCodes$Strand", "end", "(II)V"⟩, prog_9_method_11_code, 3, none, 0, 0)
def y_H_freeAllHeldBy : jc_Y := (⟨"JudgedCodes$Heap", "freeAllHeldBy", "(I)V"⟩, prog_5_method_7_code, 4, none, 1, 21)
def y_T_setFree : jc_Y := (⟨"JudgedCodes$Thing", "setFree", "()V"⟩, prog_10_method_10_code, 1, none, 0, 0)
def y_M_giveBack : jc_Y := (⟨"JudgedCodes$Machine", "giveBack", "(LJudgedCodes$Strand;LJudgedCodes$Frame;)V"⟩, prog_7_method_19_code, 6, none, 3, 67)
def y_F_goOn : jc_Y := (⟨"JudgedCodes$Frame", "goOn", "()V"⟩, prog_4_method_5_code, 1, none, 0, 0)
def y_M_compute : jc_Y := (⟨"JudgedCodes$Machine", "compute", "(III)I"⟩, prog_7_method_16_code, 3, (some FieldType.int), 0, 0)
def y_M_useThing : jc_Y := (⟨"JudgedCodes$Machine", "useThing", "(LJudgedCodes$Strand;LJudgedCodes$Frame;II)V"⟩, prog_7_method_17_code, 8, none, 2, 42)
def y_T_field : jc_Y := (⟨"JudgedCodes$Thing", "field", "(I)I"⟩, prog_10_method_4_code, 2, (some FieldType.int), 0, 0)
def y_T_setField : jc_Y := (⟨"JudgedCodes$Thing", "setField", "(II)V"⟩, prog_10_method_5_code, 3, none, 0, 0)
def y_T_enter : jc_Y := (⟨"JudgedCodes$Thing", "enter", "(I)V"⟩, prog_10_method_8_code, 2, none, 0, 0)
def y_T_leave : jc_Y := (⟨"JudgedCodes$Thing", "leave", "()V"⟩, prog_10_method_9_code, 1, none, 1, 20)
def y_M_moveValue : jc_Y := (⟨"JudgedCodes$Machine", "moveValue", "(LJudgedCodes$Frame;II)V"⟩, prog_7_method_15_code, 4, none, 3, 64)
def y_F_localAt : jc_Y := (⟨"JudgedCodes$Frame", "localAt", "(I)I"⟩, prog_4_method_12_code, 2, (some FieldType.int), 1, 20)
def y_H_make : jc_Y := (⟨"JudgedCodes$Heap", "make", "(I)I"⟩, prog_5_method_3_code, 3, (some FieldType.int), 2, 42)
def y_T_init : jc_Y := (⟨"JudgedCodes$Thing", "<init>", "()V"⟩, prog_10_method_1_code, 1, none, 1, 20)
def y_T_begin : jc_Y := (⟨"JudgedCodes$Thing", "begin", "(I)V"⟩, prog_10_method_2_code, 3, none, 1, 20)
def y_H_globalAt : jc_Y := (⟨"JudgedCodes$Heap", "globalAt", "(I)I"⟩, prog_5_method_5_code, 2, (some FieldType.int), 0, 0)
def y_H_setGlobal : jc_Y := (⟨"JudgedCodes$Heap", "setGlobal", "(II)V"⟩, prog_5_method_6_code, 3, none, 0, 0)
def y_S_state : jc_Y := (⟨"JudgedCodes$Strand", "state", "()I"⟩, prog_9_method_10_code, 1, (some FieldType.int), 0, 0)
def y_m_run : jc_Y := (⟨"JudgedCodesModel", "run", "(II)I"⟩, prog_12_method_21_code, 5, (some FieldType.int), 10, 239)
def y_m_isHeldUp : jc_Y := (⟨"JudgedCodesModel", "isHeldUp", "(LJudgedCodesModel$Thr;)Z"⟩, prog_12_method_20_code, 3, (some FieldType.boolean), 3, 64)
def y_m_step : jc_Y := (⟨"JudgedCodesModel", "step", "(LJudgedCodesModel$Thr;)V"⟩, prog_12_method_25_code, 5, none, 9, 215)
def y_mT_top : jc_Y := (⟨"JudgedCodesModel$Thr", "top", "()LJudgedCodesModel$Frame;"⟩, prog_16_method_3_code, 1, (some (FieldType.object "JudgedCodesModel$Frame")), 3, 64)
def y_mF_pop : jc_Y := (⟨"JudgedCodesModel$Frame", "pop", "()I"⟩, prog_14_method_3_code, 1, (some FieldType.int), 0, 0)
def y_m_call : jc_Y := (⟨"JudgedCodesModel", "call", "(LJudgedCodesModel$Thr;LJudgedCodesModel$Frame;I)V"⟩, prog_12_method_29_code, 7, none, 8, 189)
def y_m_fresh : jc_Y := (⟨"JudgedCodesModel", "fresh", "(I)I"⟩, prog_12_method_22_code, 2, (some FieldType.int), 7, 165)
def y_mO_init : jc_Y := (⟨"JudgedCodesModel$Obj", "<init>", "(I)V"⟩, prog_15_method_1_code, 2, none, 1, 20)
def y_m_flies : jc_Y := (⟨"JudgedCodesModel", "flies", "(LJudgedCodesModel$Thr;I)V"⟩, prog_12_method_24_code, 6, none, 4, 89)
def y_mF_push : jc_Y := (⟨"JudgedCodesModel$Frame", "push", "(I)V"⟩, prog_14_method_4_code, 2, none, 0, 0)
def y_m_over : jc_Y := (⟨"JudgedCodesModel", "over", "(LJudgedCodesModel$Thr;II)V"⟩, prog_12_method_23_code, 6, none, 3, 64)
def y_mF_top : jc_Y := (⟨"JudgedCodesModel$Frame", "top", "()I"⟩, prog_14_method_2_code, 1, (some FieldType.int), 0, 0)
def y_m_monitor : jc_Y := (⟨"JudgedCodesModel", "monitor", "(LJudgedCodesModel$Thr;LJudgedCodesModel$Frame;I)V"⟩, prog_12_method_28_code, 6, none, 8, 186)
def y_m_ends : jc_Y := (⟨"JudgedCodesModel", "ends", "(LJudgedCodesModel$Thr;LJudgedCodesModel$Frame;)V"⟩, prog_12_method_30_code, 5, none, 4, 89)
def y_m_field : jc_Y := (⟨"JudgedCodesModel", "field", "(LJudgedCodesModel$Thr;LJudgedCodesModel$Frame;II)V"⟩, prog_12_method_27_code, 8, none, 8, 186)
def y_m_plain : jc_Y := (⟨"JudgedCodesModel", "plain", "(LJudgedCodesModel$Thr;LJudgedCodesModel$Frame;II)V"⟩, prog_12_method_26_code, 7, none, 8, 186)
def y_J_told : jc_Y := (⟨"JudgedCodes", "told", "(II)I"⟩, prog_1_method_9_code, 4, (some FieldType.int), 3, 66)
def y_S_tell : jc_Y := (⟨"JudgedCodes$Strand", "tell", "(I)I"⟩, prog_9_method_15_code, 3, (some FieldType.int), 1, 20)
def y_F_depth : jc_Y := (⟨"JudgedCodes$Frame", "depth", "()I"⟩, prog_4_method_7_code, 1, (some FieldType.int), 0, 0)
def y_m_told : jc_Y := (⟨"JudgedCodesModel", "told", "(II)I"⟩, prog_12_method_31_code, 5, (some FieldType.int), 4, 86)
def y_J_object : jc_Y := (⟨"JudgedCodes", "object", "(II)I"⟩, prog_1_method_10_code, 4, (some FieldType.int), 2, 42)
def y_T_tell : jc_Y := (⟨"JudgedCodes$Thing", "tell", "(I)I"⟩, prog_10_method_11_code, 2, (some FieldType.int), 1, 21)
def y_m_object : jc_Y := (⟨"JudgedCodesModel", "object", "(II)I"⟩, prog_12_method_32_code, 4, (some FieldType.int), 3, 64)
def y_J_value : jc_Y := (⟨"JudgedCodes", "value", "(II)I"⟩, prog_1_method_11_code, 5, (some FieldType.int), 2, 41)
def y_m_value : jc_Y := (⟨"JudgedCodesModel", "value", "(II)I"⟩, prog_12_method_34_code, 5, (some FieldType.int), 4, 84)
def y_J_global : jc_Y := (⟨"JudgedCodes", "global", "(I)I"⟩, prog_1_method_12_code, 2, (some FieldType.int), 1, 22)
def y_m_global : jc_Y := (⟨"JudgedCodesModel", "global", "(I)I"⟩, prog_12_method_33_code, 2, (some FieldType.int), 0, 0)
def y_J_stuck : jc_Y := (⟨"JudgedCodes", "stuck", "()I"⟩, prog_1_method_13_code, 1, (some FieldType.int), 4, 89)
def y_M_countStuck : jc_Y := (⟨"JudgedCodes$Machine", "countStuck", "()I"⟩, prog_7_method_9_code, 4, (some FieldType.int), 3, 66)
def y_m_stuck : jc_Y := (⟨"JudgedCodesModel", "stuck", "()I"⟩, prog_12_method_35_code, 3, (some FieldType.int), 4, 86)
def y_J_reset : jc_Y := (⟨"JudgedCodes", "reset", "()V"⟩, prog_1_method_14_code, 1, none, 1, 21)
def y_M_clear : jc_Y := (⟨"JudgedCodes$Machine", "clear", "()V"⟩, prog_7_method_4_code, 1, none, 0, 0)
def y_H_clear : jc_Y := (⟨"JudgedCodes$Heap", "clear", "()V"⟩, prog_5_method_8_code, 2, none, 0, 0)
def y_m_reset : jc_Y := (⟨"JudgedCodesModel", "reset", "()V"⟩, prog_12_method_36_code, 2, none, 1, 23)
def y_aL_clear : jc_Y := (⟨"java/util/ArrayList", "clear", "()V"⟩, prog_24_method_40_code, 4, none, 0, 0)
set_option maxRecDepth 4000 in
theorem ck_0 : jc_ck ("JudgedCodes", jT_0, 4) := ⟨(show ∀ w ∈ [u_lay "JudgedCodes" jT_0 0, u_lay "JudgedCodes" jT_0 1, u_lay "JudgedCodes" jT_0 2, u_lay "JudgedCodes" jT_0 3], w ∈ lw_tbl from List.forall_mem_cons.mpr ⟨jt1 (i := 133) rfl, List.forall_mem_cons.mpr ⟨jt1 (i := 135) rfl, List.forall_mem_cons.mpr ⟨jt1 (i := 137) rfl, List.forall_mem_cons.mpr ⟨jt1 (i := 139) rfl, fun _ h => absurd h List.not_mem_nil⟩⟩⟩⟩), by decide +kernel, by decide +kernel, by decide +kernel⟩
set_option maxRecDepth 4000 in
theorem ck_1 : jc_ck ("JudgedCodes$Codes", jT_1, 3) := ⟨(show ∀ w ∈ [u_lay "JudgedCodes$Codes" jT_1 0, u_lay "JudgedCodes$Codes" jT_1 1, u_lay "JudgedCodes$Codes" jT_1 2], w ∈ lw_tbl from List.forall_mem_cons.mpr ⟨jt1 (i := 44) rfl, List.forall_mem_cons.mpr ⟨jt1 (i := 46) rfl, List.forall_mem_cons.mpr ⟨jt1 (i := 48) rfl, fun _ h => absurd h List.not_mem_nil⟩⟩⟩), by decide +kernel, by decide +kernel, by decide +kernel⟩
set_option maxRecDepth 4000 in
theorem ck_2 : jc_ck ("JudgedCodes$Judge", jT_2, 8) := ⟨(show ∀ w ∈ [u_lay "JudgedCodes$Judge" jT_2 0, u_lay "JudgedCodes$Judge" jT_2 1, u_lay "JudgedCodes$Judge" jT_2 2, u_lay "JudgedCodes$Judge" jT_2 3, u_lay "JudgedCodes$Judge" jT_2 4, u_lay "JudgedCodes$Judge" jT_2 5, u_lay "JudgedCodes$Judge" jT_2 6, u_lay "JudgedCodes$Judge" jT_2 7], w ∈ lw_tbl from List.forall_mem_cons.mpr ⟨jt1 (i := 65) rfl, List.forall_mem_cons.mpr ⟨jt1 (i := 67) rfl, List.forall_mem_cons.mpr ⟨jt1 (i := 69) rfl, List.forall_mem_cons.mpr ⟨jt1 (i := 71) rfl, List.forall_mem_cons.mpr ⟨jt1 (i := 73) rfl, List.forall_mem_cons.mpr ⟨jt1 (i := 75) rfl, List.forall_mem_cons.mpr ⟨jt1 (i := 77) rfl, List.forall_mem_cons.mpr ⟨jt1 (i := 79) rfl, fun _ h => absurd h List.not_mem_nil⟩⟩⟩⟩⟩⟩⟩⟩), by decide +kernel, by decide +kernel, by decide +kernel⟩
set_option maxRecDepth 4000 in
theorem ck_3 : jc_ck ("JudgedCodes$Heap", jT_3, 4) := ⟨(show ∀ w ∈ [u_lay "JudgedCodes$Heap" jT_3 0, u_lay "JudgedCodes$Heap" jT_3 1, u_lay "JudgedCodes$Heap" jT_3 2, u_lay "JudgedCodes$Heap" jT_3 3], w ∈ lw_tbl from List.forall_mem_cons.mpr ⟨jt1 (i := 96) rfl, List.forall_mem_cons.mpr ⟨jt1 (i := 98) rfl, List.forall_mem_cons.mpr ⟨jt1 (i := 100) rfl, List.forall_mem_cons.mpr ⟨jt1 (i := 102) rfl, fun _ h => absurd h List.not_mem_nil⟩⟩⟩⟩), by decide +kernel, by decide +kernel, by decide +kernel⟩
set_option maxRecDepth 4000 in
theorem ck_4 : jc_ck ("JudgedCodes$Machine", jT_4, 5) := ⟨(show ∀ w ∈ [u_lay "JudgedCodes$Machine" jT_4 0, u_lay "JudgedCodes$Machine" jT_4 1, u_lay "JudgedCodes$Machine" jT_4 2, u_lay "JudgedCodes$Machine" jT_4 3, u_lay "JudgedCodes$Machine" jT_4 4], w ∈ lw_tbl from List.forall_mem_cons.mpr ⟨jt1 (i := 118) rfl, List.forall_mem_cons.mpr ⟨jt1 (i := 120) rfl, List.forall_mem_cons.mpr ⟨jt1 (i := 122) rfl, List.forall_mem_cons.mpr ⟨jt1 (i := 124) rfl, List.forall_mem_cons.mpr ⟨jt1 (i := 126) rfl, fun _ h => absurd h List.not_mem_nil⟩⟩⟩⟩⟩), by decide +kernel, by decide +kernel, by decide +kernel⟩
set_option maxRecDepth 4000 in
theorem ck_5 : jc_ck ("JudgedCodes$Row", jT_5, 4) := ⟨(show ∀ w ∈ [u_lay "JudgedCodes$Row" jT_5 0, u_lay "JudgedCodes$Row" jT_5 1, u_lay "JudgedCodes$Row" jT_5 2, u_lay "JudgedCodes$Row" jT_5 3], w ∈ lw_tbl from List.forall_mem_cons.mpr ⟨jt2 (i := 5) rfl, List.forall_mem_cons.mpr ⟨jt2 (i := 7) rfl, List.forall_mem_cons.mpr ⟨jt2 (i := 9) rfl, List.forall_mem_cons.mpr ⟨jt2 (i := 11) rfl, fun _ h => absurd h List.not_mem_nil⟩⟩⟩⟩), by decide +kernel, by decide +kernel, by decide +kernel⟩
set_option maxRecDepth 4000 in
theorem ck_6 : jc_ck ("JudgedCodes$Code", jT_6, 10) := ⟨(show ∀ w ∈ [u_lay "JudgedCodes$Code" jT_6 0, u_lay "JudgedCodes$Code" jT_6 1, u_lay "JudgedCodes$Code" jT_6 2, u_lay "JudgedCodes$Code" jT_6 3, u_lay "JudgedCodes$Code" jT_6 4, u_lay "JudgedCodes$Code" jT_6 5, u_lay "JudgedCodes$Code" jT_6 6, u_lay "JudgedCodes$Code" jT_6 7, u_lay "JudgedCodes$Code" jT_6 8, u_lay "JudgedCodes$Code" jT_6 9], w ∈ lw_tbl from List.forall_mem_cons.mpr ⟨jt1 (i := 180) rfl, List.forall_mem_cons.mpr ⟨jt1 (i := 182) rfl, List.forall_mem_cons.mpr ⟨jt1 (i := 184) rfl, List.forall_mem_cons.mpr ⟨jt1 (i := 186) rfl, List.forall_mem_cons.mpr ⟨jt1 (i := 188) rfl, List.forall_mem_cons.mpr ⟨jt1 (i := 190) rfl, List.forall_mem_cons.mpr ⟨jt1 (i := 192) rfl, List.forall_mem_cons.mpr ⟨jt1 (i := 194) rfl, List.forall_mem_cons.mpr ⟨jt1 (i := 196) rfl, List.forall_mem_cons.mpr ⟨jt1 (i := 198) rfl, fun _ h => absurd h List.not_mem_nil⟩⟩⟩⟩⟩⟩⟩⟩⟩⟩), by decide +kernel, by decide +kernel, by decide +kernel⟩
set_option maxRecDepth 4000 in
theorem ck_7 : jc_ck ("JudgedCodes$Thing", jT_7, 4) := ⟨(show ∀ w ∈ [u_lay "JudgedCodes$Thing" jT_7 0, u_lay "JudgedCodes$Thing" jT_7 1, u_lay "JudgedCodes$Thing" jT_7 2, u_lay "JudgedCodes$Thing" jT_7 3], w ∈ lw_tbl from List.forall_mem_cons.mpr ⟨jt3 (i := 202) rfl, List.forall_mem_cons.mpr ⟨jt3 (i := 204) rfl, List.forall_mem_cons.mpr ⟨jt3 (i := 206) rfl, List.forall_mem_cons.mpr ⟨jt3 (i := 208) rfl, fun _ h => absurd h List.not_mem_nil⟩⟩⟩⟩), by decide +kernel, by decide +kernel, by decide +kernel⟩
set_option maxRecDepth 4000 in
theorem ck_8 : jc_ck ("JudgedCodes$Frame", jT_8, 5) := ⟨(show ∀ w ∈ [u_lay "JudgedCodes$Frame" jT_8 0, u_lay "JudgedCodes$Frame" jT_8 1, u_lay "JudgedCodes$Frame" jT_8 2, u_lay "JudgedCodes$Frame" jT_8 3, u_lay "JudgedCodes$Frame" jT_8 4], w ∈ lw_tbl from List.forall_mem_cons.mpr ⟨jt2 (i := 167) rfl, List.forall_mem_cons.mpr ⟨jt2 (i := 169) rfl, List.forall_mem_cons.mpr ⟨jt2 (i := 171) rfl, List.forall_mem_cons.mpr ⟨jt2 (i := 173) rfl, List.forall_mem_cons.mpr ⟨jt2 (i := 175) rfl, fun _ h => absurd h List.not_mem_nil⟩⟩⟩⟩⟩), by decide +kernel, by decide +kernel, by decide +kernel⟩
set_option maxRecDepth 4000 in
theorem ck_9 : jc_ck ("JudgedCodes$Strand", jT_9, 7) := ⟨(show ∀ w ∈ [u_lay "JudgedCodes$Strand" jT_9 0, u_lay "JudgedCodes$Strand" jT_9 1, u_lay "JudgedCodes$Strand" jT_9 2, u_lay "JudgedCodes$Strand" jT_9 3, u_lay "JudgedCodes$Strand" jT_9 4, u_lay "JudgedCodes$Strand" jT_9 5, u_lay "JudgedCodes$Strand" jT_9 6], w ∈ lw_tbl from List.forall_mem_cons.mpr ⟨jt2 (i := 185) rfl, List.forall_mem_cons.mpr ⟨jt2 (i := 187) rfl, List.forall_mem_cons.mpr ⟨jt2 (i := 189) rfl, List.forall_mem_cons.mpr ⟨jt2 (i := 191) rfl, List.forall_mem_cons.mpr ⟨jt2 (i := 193) rfl, List.forall_mem_cons.mpr ⟨jt2 (i := 195) rfl, List.forall_mem_cons.mpr ⟨jt2 (i := 197) rfl, fun _ h => absurd h List.not_mem_nil⟩⟩⟩⟩⟩⟩⟩), by decide +kernel, by decide +kernel, by decide +kernel⟩
set_option maxRecDepth 4000 in
theorem ck_10 : jc_ck ("JudgedCodesModel", jT_10, 9) := ⟨(show ∀ w ∈ [u_lay "JudgedCodesModel" jT_10 0, u_lay "JudgedCodesModel" jT_10 1, u_lay "JudgedCodesModel" jT_10 2, u_lay "JudgedCodesModel" jT_10 3, u_lay "JudgedCodesModel" jT_10 4, u_lay "JudgedCodesModel" jT_10 5, u_lay "JudgedCodesModel" jT_10 6, u_lay "JudgedCodesModel" jT_10 7, u_lay "JudgedCodesModel" jT_10 8], w ∈ lw_tbl from List.forall_mem_cons.mpr ⟨jt4 (i := 88) rfl, List.forall_mem_cons.mpr ⟨jt4 (i := 90) rfl, List.forall_mem_cons.mpr ⟨jt4 (i := 92) rfl, List.forall_mem_cons.mpr ⟨jt4 (i := 94) rfl, List.forall_mem_cons.mpr ⟨jt4 (i := 96) rfl, List.forall_mem_cons.mpr ⟨jt4 (i := 98) rfl, List.forall_mem_cons.mpr ⟨jt4 (i := 100) rfl, List.forall_mem_cons.mpr ⟨jt4 (i := 102) rfl, List.forall_mem_cons.mpr ⟨jt4 (i := 104) rfl, fun _ h => absurd h List.not_mem_nil⟩⟩⟩⟩⟩⟩⟩⟩⟩), by decide +kernel, by decide +kernel, by decide +kernel⟩
set_option maxRecDepth 4000 in
theorem ck_11 : jc_ck ("JudgedCodesModel$Code", jT_11, 12) := ⟨(show ∀ w ∈ [u_lay "JudgedCodesModel$Code" jT_11 0, u_lay "JudgedCodesModel$Code" jT_11 1, u_lay "JudgedCodesModel$Code" jT_11 2, u_lay "JudgedCodesModel$Code" jT_11 3, u_lay "JudgedCodesModel$Code" jT_11 4, u_lay "JudgedCodesModel$Code" jT_11 5, u_lay "JudgedCodesModel$Code" jT_11 6, u_lay "JudgedCodesModel$Code" jT_11 7, u_lay "JudgedCodesModel$Code" jT_11 8, u_lay "JudgedCodesModel$Code" jT_11 9, u_lay "JudgedCodesModel$Code" jT_11 10, u_lay "JudgedCodesModel$Code" jT_11 11], w ∈ lw_tbl from List.forall_mem_cons.mpr ⟨jt4 (i := 144) rfl, List.forall_mem_cons.mpr ⟨jt4 (i := 146) rfl, List.forall_mem_cons.mpr ⟨jt4 (i := 148) rfl, List.forall_mem_cons.mpr ⟨jt4 (i := 150) rfl, List.forall_mem_cons.mpr ⟨jt4 (i := 152) rfl, List.forall_mem_cons.mpr ⟨jt4 (i := 154) rfl, List.forall_mem_cons.mpr ⟨jt4 (i := 156) rfl, List.forall_mem_cons.mpr ⟨jt4 (i := 158) rfl, List.forall_mem_cons.mpr ⟨jt4 (i := 160) rfl, List.forall_mem_cons.mpr ⟨jt4 (i := 162) rfl, List.forall_mem_cons.mpr ⟨jt4 (i := 164) rfl, List.forall_mem_cons.mpr ⟨jt4 (i := 166) rfl, fun _ h => absurd h List.not_mem_nil⟩⟩⟩⟩⟩⟩⟩⟩⟩⟩⟩⟩), by decide +kernel, by decide +kernel, by decide +kernel⟩
set_option maxRecDepth 4000 in
theorem ck_12 : jc_ck ("JudgedCodesModel$Frame", jT_12, 6) := ⟨(show ∀ w ∈ [u_lay "JudgedCodesModel$Frame" jT_12 0, u_lay "JudgedCodesModel$Frame" jT_12 1, u_lay "JudgedCodesModel$Frame" jT_12 2, u_lay "JudgedCodesModel$Frame" jT_12 3, u_lay "JudgedCodesModel$Frame" jT_12 4, u_lay "JudgedCodesModel$Frame" jT_12 5], w ∈ lw_tbl from List.forall_mem_cons.mpr ⟨jt5 (i := 138) rfl, List.forall_mem_cons.mpr ⟨jt5 (i := 140) rfl, List.forall_mem_cons.mpr ⟨jt5 (i := 142) rfl, List.forall_mem_cons.mpr ⟨jt5 (i := 144) rfl, List.forall_mem_cons.mpr ⟨jt5 (i := 146) rfl, List.forall_mem_cons.mpr ⟨jt5 (i := 148) rfl, fun _ h => absurd h List.not_mem_nil⟩⟩⟩⟩⟩⟩), by decide +kernel, by decide +kernel, by decide +kernel⟩
set_option maxRecDepth 4000 in
theorem ck_13 : jc_ck ("JudgedCodesModel$Obj", jT_13, 4) := ⟨(show ∀ w ∈ [u_lay "JudgedCodesModel$Obj" jT_13 0, u_lay "JudgedCodesModel$Obj" jT_13 1, u_lay "JudgedCodesModel$Obj" jT_13 2, u_lay "JudgedCodesModel$Obj" jT_13 3], w ∈ lw_tbl from List.forall_mem_cons.mpr ⟨jt5 (i := 195) rfl, List.forall_mem_cons.mpr ⟨jt5 (i := 197) rfl, List.forall_mem_cons.mpr ⟨jt5 (i := 199) rfl, List.forall_mem_cons.mpr ⟨jt5 (i := 201) rfl, fun _ h => absurd h List.not_mem_nil⟩⟩⟩⟩), by decide +kernel, by decide +kernel, by decide +kernel⟩
set_option maxRecDepth 4000 in
theorem ck_14 : jc_ck ("JudgedCodesModel$Thr", jT_14, 7) := ⟨(show ∀ w ∈ [u_lay "JudgedCodesModel$Thr" jT_14 0, u_lay "JudgedCodesModel$Thr" jT_14 1, u_lay "JudgedCodesModel$Thr" jT_14 2, u_lay "JudgedCodesModel$Thr" jT_14 3, u_lay "JudgedCodesModel$Thr" jT_14 4, u_lay "JudgedCodesModel$Thr" jT_14 5, u_lay "JudgedCodesModel$Thr" jT_14 6], w ∈ lw_tbl from List.forall_mem_cons.mpr ⟨jt5 (i := 94) rfl, List.forall_mem_cons.mpr ⟨jt5 (i := 96) rfl, List.forall_mem_cons.mpr ⟨jt5 (i := 98) rfl, List.forall_mem_cons.mpr ⟨jt5 (i := 100) rfl, List.forall_mem_cons.mpr ⟨jt5 (i := 102) rfl, List.forall_mem_cons.mpr ⟨jt5 (i := 104) rfl, List.forall_mem_cons.mpr ⟨jt5 (i := 106) rfl, fun _ h => absurd h List.not_mem_nil⟩⟩⟩⟩⟩⟩⟩), by decide +kernel, by decide +kernel, by decide +kernel⟩
set_option maxRecDepth 4000 in
theorem ck_15 : jc_ck ("java/util/ArrayList", jT_15, 3) := ⟨(show ∀ w ∈ [u_lay "java/util/ArrayList" jT_15 0, u_lay "java/util/ArrayList" jT_15 1, u_lay "java/util/ArrayList" jT_15 2], w ∈ lw_tbl from List.forall_mem_cons.mpr ⟨jt4 (i := 72) rfl, List.forall_mem_cons.mpr ⟨jt4 (i := 74) rfl, List.forall_mem_cons.mpr ⟨jt4 (i := 76) rfl, fun _ h => absurd h List.not_mem_nil⟩⟩⟩), by decide +kernel, by decide +kernel, by decide +kernel⟩
set_option maxRecDepth 4000 in
theorem k_J_init : jc_kI y_J_init 0 := ⟨⟨jt1 (i := 29) rfl, jt1 (i := 1) rfl, ⟨by decide +kernel, by decide +kernel⟩, by decide +kernel⟩, rfl, rfl, jt1 (i := 28) rfl⟩
set_option maxRecDepth 4000 in
theorem k_Cs_init : jc_kI y_Cs_init 0 := ⟨⟨jt1 (i := 37) rfl, jt1 (i := 2) rfl, ⟨by decide +kernel, by decide +kernel⟩, by decide +kernel⟩, rfl, rfl, jt1 (i := 36) rfl⟩
set_option maxRecDepth 4000 in
theorem k_G_init : jc_kI y_G_init 1 := ⟨⟨jt1 (i := 55) rfl, jt1 (i := 3) rfl, ⟨by decide +kernel, by decide +kernel⟩, by decide +kernel⟩, rfl, rfl, jt1 (i := 54) rfl⟩
set_option maxRecDepth 4000 in
theorem k_H_init : jc_kI y_H_init 0 := ⟨⟨jt1 (i := 88) rfl, jt1 (i := 4) rfl, ⟨by decide +kernel, by decide +kernel⟩, by decide +kernel⟩, rfl, rfl, jt1 (i := 87) rfl⟩
set_option maxRecDepth 4000 in
theorem k_M_init : jc_kI y_M_init 3 := ⟨⟨jt1 (i := 109) rfl, jt1 (i := 5) rfl, ⟨by decide +kernel, by decide +kernel⟩, by decide +kernel⟩, rfl, rfl, jt1 (i := 108) rfl⟩
set_option maxRecDepth 4000 in
theorem k_m_init : jc_kI y_m_init 0 := ⟨⟨jt4 (i := 51) rfl, jt1 (i := 6) rfl, ⟨by decide +kernel, by decide +kernel⟩, by decide +kernel⟩, rfl, rfl, jt4 (i := 50) rfl⟩
set_option maxRecDepth 4000 in
theorem k_aL_init : jc_kI y_aL_init 0 := ⟨⟨jt4 (i := 57) rfl, jt1 (i := 9) rfl, ⟨by decide +kernel, by decide +kernel⟩, by decide +kernel⟩, rfl, rfl, jt4 (i := 56) rfl⟩
set_option maxRecDepth 4000 in
theorem k_aB_init : jc_kI y_aB_init 0 := ⟨⟨jt4 (i := 60) rfl, jt1 (i := 8) rfl, ⟨by decide +kernel, by decide +kernel⟩, by decide +kernel⟩, rfl, rfl, jt4 (i := 59) rfl⟩
set_option maxRecDepth 4000 in
theorem k_aC_init : jc_kI y_aC_init 0 := ⟨⟨jt4 (i := 63) rfl, jt1 (i := 7) rfl, ⟨by decide +kernel, by decide +kernel⟩, by decide +kernel⟩, rfl, rfl, jt4 (i := 62) rfl⟩
set_option maxRecDepth 4000 in
theorem k_J_code : jc_kV y_J_code 2 := ⟨⟨jt1 (i := 145) rfl, jt1 (i := 1) rfl, ⟨by decide +kernel, by decide +kernel⟩, by decide +kernel⟩, jt1 (i := 143) rfl, jt1 (i := 144) rfl⟩
set_option maxRecDepth 4000 in
theorem k_J_isWithin : jc_kS y_J_isWithin 3 := ⟨⟨jt1 (i := 148) rfl, jt1 (i := 1) rfl, ⟨by decide +kernel, by decide +kernel⟩, by decide +kernel⟩, jt1 (i := 147) rfl⟩
set_option maxRecDepth 4000 in
theorem k_M_hasStrands : jc_kV y_M_hasStrands 0 := ⟨⟨jt1 (i := 152) rfl, jt1 (i := 5) rfl, ⟨by decide +kernel, by decide +kernel⟩, by decide +kernel⟩, jt1 (i := 150) rfl, jt1 (i := 151) rfl⟩
set_option maxRecDepth 4000 in
theorem k_Cs_begin : jc_kV y_Cs_begin 2 := ⟨⟨jt1 (i := 156) rfl, jt1 (i := 2) rfl, ⟨by decide +kernel, by decide +kernel⟩, by decide +kernel⟩, jt1 (i := 154) rfl, jt1 (i := 155) rfl⟩
set_option maxRecDepth 4000 in
theorem k_C_init : jc_kI y_C_init 3 := ⟨⟨jt1 (i := 160) rfl, jt1 (i := 10) rfl, ⟨by decide +kernel, by decide +kernel⟩, by decide +kernel⟩, rfl, rfl, jt1 (i := 159) rfl⟩
set_option maxRecDepth 4000 in
theorem k_m_code : jc_kV y_m_code 2 := ⟨⟨jt4 (i := 110) rfl, jt1 (i := 6) rfl, ⟨by decide +kernel, by decide +kernel⟩, by decide +kernel⟩, jt4 (i := 108) rfl, jt4 (i := 109) rfl⟩
set_option maxRecDepth 4000 in
theorem k_aL_size : jc_kV y_aL_size 0 := ⟨⟨jt4 (i := 114) rfl, jt1 (i := 9) rfl, ⟨by decide +kernel, by decide +kernel⟩, by decide +kernel⟩, jt4 (i := 112) rfl, jt4 (i := 113) rfl⟩
set_option maxRecDepth 4000 in
theorem k_mC_init : jc_kI y_mC_init 2 := ⟨⟨jt4 (i := 119) rfl, jt1 (i := 11) rfl, ⟨by decide +kernel, by decide +kernel⟩, by decide +kernel⟩, rfl, rfl, jt4 (i := 118) rfl⟩
set_option maxRecDepth 4000 in
theorem k_aL_add1 : jc_kV y_aL_add1 1 := ⟨⟨jt4 (i := 172) rfl, jt1 (i := 9) rfl, ⟨by decide +kernel, by decide +kernel⟩, by decide +kernel⟩, jt4 (i := 170) rfl, jt4 (i := 171) rfl⟩
set_option maxRecDepth 4000 in
theorem k_aL_add3 : jc_kV y_aL_add3 3 := ⟨⟨jt4 (i := 176) rfl, jt1 (i := 9) rfl, ⟨by decide +kernel, by decide +kernel⟩, by decide +kernel⟩, jt4 (i := 175) rfl, jp (i := 29) rfl⟩
set_option maxRecDepth 4000 in
theorem k_aL_grow0 : jc_kV y_aL_grow0 0 := ⟨⟨jt4 (i := 180) rfl, jt1 (i := 9) rfl, ⟨by decide +kernel, by decide +kernel⟩, by decide +kernel⟩, jt4 (i := 179) rfl, jp (i := 30) rfl⟩
set_option maxRecDepth 4000 in
theorem k_aL_grow1 : jc_kV y_aL_grow1 1 := ⟨⟨jt4 (i := 184) rfl, jt1 (i := 9) rfl, ⟨by decide +kernel, by decide +kernel⟩, by decide +kernel⟩, jt4 (i := 183) rfl, jp (i := 31) rfl⟩
set_option maxRecDepth 4000 in
theorem k_aS_newLength : jc_kS y_aS_newLength 3 := ⟨⟨jt4 (i := 187) rfl, jt1 (i := 12) rfl, ⟨by decide +kernel, by decide +kernel⟩, by decide +kernel⟩, jt4 (i := 186) rfl⟩
set_option maxRecDepth 4000 in
theorem k_aM_max : jc_kS y_aM_max 2 := ⟨⟨jt2 (i := 78) rfl, jt1 (i := 13) rfl, ⟨by decide +kernel, by decide +kernel⟩, by decide +kernel⟩, jt2 (i := 77) rfl⟩
set_option maxRecDepth 4000 in
theorem k_aS_hugeLength : jc_kS y_aS_hugeLength 2 := ⟨⟨jt4 (i := 192) rfl, jt1 (i := 12) rfl, ⟨by decide +kernel, by decide +kernel⟩, by decide +kernel⟩, jt4 (i := 191) rfl⟩
set_option maxRecDepth 4000 in
theorem k_aR_copyOf2 : jc_kS y_aR_copyOf2 2 := ⟨⟨jt4 (i := 195) rfl, jt1 (i := 14) rfl, ⟨by decide +kernel, by decide +kernel⟩, by decide +kernel⟩, jt4 (i := 194) rfl⟩
set_option maxRecDepth 4000 in
theorem k_aR_copyOf3 : jc_kS y_aR_copyOf3 3 := ⟨⟨jt4 (i := 218) rfl, jt1 (i := 14) rfl, ⟨by decide +kernel, by decide +kernel⟩, by decide +kernel⟩, jt4 (i := 217) rfl⟩
set_option maxRecDepth 4000 in
theorem k_aM_min : jc_kS y_aM_min 2 := ⟨⟨jt4 (i := 224) rfl, jt1 (i := 13) rfl, ⟨by decide +kernel, by decide +kernel⟩, by decide +kernel⟩, jt4 (i := 223) rfl⟩
set_option maxRecDepth 4000 in
theorem k_J_local : jc_kV y_J_local 1 := ⟨⟨jt1 (i := 204) rfl, jt1 (i := 1) rfl, ⟨by decide +kernel, by decide +kernel⟩, by decide +kernel⟩, jt1 (i := 202) rfl, jt1 (i := 203) rfl⟩
set_option maxRecDepth 4000 in
theorem k_Cs_open : jc_kV y_Cs_open 0 := ⟨⟨jt1 (i := 208) rfl, jt1 (i := 2) rfl, ⟨by decide +kernel, by decide +kernel⟩, by decide +kernel⟩, jt1 (i := 206) rfl, jt1 (i := 207) rfl⟩
set_option maxRecDepth 4000 in
theorem k_C_tellLocal : jc_kV y_C_tellLocal 1 := ⟨⟨jt1 (i := 212) rfl, jt1 (i := 10) rfl, ⟨by decide +kernel, by decide +kernel⟩, by decide +kernel⟩, jt1 (i := 210) rfl, jt1 (i := 211) rfl⟩
set_option maxRecDepth 4000 in
theorem k_m_local : jc_kV y_m_local 1 := ⟨⟨jt4 (i := 233) rfl, jt1 (i := 6) rfl, ⟨by decide +kernel, by decide +kernel⟩, by decide +kernel⟩, jt4 (i := 231) rfl, jt4 (i := 232) rfl⟩
set_option maxRecDepth 4000 in
theorem k_J_add : jc_kV y_J_add 2 := ⟨⟨jt1 (i := 216) rfl, jt1 (i := 1) rfl, ⟨by decide +kernel, by decide +kernel⟩, by decide +kernel⟩, jt1 (i := 214) rfl, jt1 (i := 215) rfl⟩
set_option maxRecDepth 4000 in
theorem k_J_fits : jc_kS y_J_fits 2 := ⟨⟨jt1 (i := 219) rfl, jt1 (i := 1) rfl, ⟨by decide +kernel, by decide +kernel⟩, by decide +kernel⟩, jt1 (i := 218) rfl⟩
set_option maxRecDepth 4000 in
theorem k_C_tellInstruction : jc_kV y_C_tellInstruction 2 := ⟨⟨jt1 (i := 223) rfl, jt1 (i := 10) rfl, ⟨by decide +kernel, by decide +kernel⟩, by decide +kernel⟩, jt1 (i := 221) rfl, jt1 (i := 222) rfl⟩
set_option maxRecDepth 4000 in
theorem k_m_add : jc_kV y_m_add 2 := ⟨⟨jt4 (i := 237) rfl, jt1 (i := 6) rfl, ⟨by decide +kernel, by decide +kernel⟩, by decide +kernel⟩, jt4 (i := 235) rfl, jt4 (i := 236) rfl⟩
set_option maxRecDepth 4000 in
theorem k_J_row : jc_kV y_J_row 4 := ⟨⟨jt1 (i := 227) rfl, jt1 (i := 1) rfl, ⟨by decide +kernel, by decide +kernel⟩, by decide +kernel⟩, jt1 (i := 225) rfl, jt1 (i := 226) rfl⟩
set_option maxRecDepth 4000 in
theorem k_C_tellRow : jc_kV y_C_tellRow 4 := ⟨⟨jt1 (i := 231) rfl, jt1 (i := 10) rfl, ⟨by decide +kernel, by decide +kernel⟩, by decide +kernel⟩, jt1 (i := 229) rfl, jt1 (i := 230) rfl⟩
set_option maxRecDepth 4000 in
theorem k_R_init : jc_kI y_R_init 4 := ⟨⟨jt1 (i := 235) rfl, jt1 (i := 16) rfl, ⟨by decide +kernel, by decide +kernel⟩, by decide +kernel⟩, rfl, rfl, jt1 (i := 234) rfl⟩
set_option maxRecDepth 4000 in
theorem k_m_row : jc_kV y_m_row 4 := ⟨⟨jt5 (i := 1) rfl, jt1 (i := 6) rfl, ⟨by decide +kernel, by decide +kernel⟩, by decide +kernel⟩, jt4 (i := 239) rfl, jt5 (i := 0) rfl⟩
set_option maxRecDepth 4000 in
theorem k_m_isPlace : jc_kS y_m_isPlace 1 := ⟨⟨jt5 (i := 4) rfl, jt1 (i := 6) rfl, ⟨by decide +kernel, by decide +kernel⟩, by decide +kernel⟩, jt5 (i := 3) rfl⟩
set_option maxRecDepth 4000 in
theorem k_J_judge : jc_kV y_J_judge 1 := ⟨⟨jt2 (i := 17) rfl, jt1 (i := 1) rfl, ⟨by decide +kernel, by decide +kernel⟩, by decide +kernel⟩, jt2 (i := 15) rfl, jt2 (i := 16) rfl⟩
set_option maxRecDepth 4000 in
theorem k_Cs_find : jc_kV y_Cs_find 1 := ⟨⟨jt2 (i := 21) rfl, jt1 (i := 2) rfl, ⟨by decide +kernel, by decide +kernel⟩, by decide +kernel⟩, jt2 (i := 19) rfl, jt2 (i := 20) rfl⟩
set_option maxRecDepth 4000 in
theorem k_G_isGood : jc_kV y_G_isGood 1 := ⟨⟨jt2 (i := 25) rfl, jt1 (i := 3) rfl, ⟨by decide +kernel, by decide +kernel⟩, by decide +kernel⟩, jt2 (i := 23) rfl, jt2 (i := 24) rfl⟩
set_option maxRecDepth 4000 in
theorem k_C_size : jc_kV y_C_size 0 := ⟨⟨jt2 (i := 29) rfl, jt1 (i := 10) rfl, ⟨by decide +kernel, by decide +kernel⟩, by decide +kernel⟩, jt2 (i := 27) rfl, jt2 (i := 28) rfl⟩
set_option maxRecDepth 4000 in
theorem k_C_op : jc_kV y_C_op 1 := ⟨⟨jt2 (i := 33) rfl, jt1 (i := 10) rfl, ⟨by decide +kernel, by decide +kernel⟩, by decide +kernel⟩, jt2 (i := 31) rfl, jt2 (i := 32) rfl⟩
set_option maxRecDepth 4000 in
theorem k_J_isLast : jc_kS y_J_isLast 1 := ⟨⟨jt2 (i := 36) rfl, jt1 (i := 1) rfl, ⟨by decide +kernel, by decide +kernel⟩, by decide +kernel⟩, jt2 (i := 35) rfl⟩
set_option maxRecDepth 4000 in
theorem k_C_localCount : jc_kV y_C_localCount 0 := ⟨⟨jt2 (i := 40) rfl, jt1 (i := 10) rfl, ⟨by decide +kernel, by decide +kernel⟩, by decide +kernel⟩, jt2 (i := 38) rfl, jt2 (i := 39) rfl⟩
set_option maxRecDepth 4000 in
theorem k_G_namesJumpPlaces : jc_kV y_G_namesJumpPlaces 1 := ⟨⟨jt2 (i := 44) rfl, jt1 (i := 3) rfl, ⟨by decide +kernel, by decide +kernel⟩, by decide +kernel⟩, jt2 (i := 43) rfl, jp (i := 0) rfl⟩
set_option maxRecDepth 4000 in
theorem k_J_isJump : jc_kS y_J_isJump 1 := ⟨⟨jt2 (i := 47) rfl, jt1 (i := 1) rfl, ⟨by decide +kernel, by decide +kernel⟩, by decide +kernel⟩, jt2 (i := 46) rfl⟩
set_option maxRecDepth 4000 in
theorem k_C_operand : jc_kV y_C_operand 1 := ⟨⟨jt2 (i := 51) rfl, jt1 (i := 10) rfl, ⟨by decide +kernel, by decide +kernel⟩, by decide +kernel⟩, jt2 (i := 49) rfl, jt2 (i := 50) rfl⟩
set_option maxRecDepth 4000 in
theorem k_C_hasInstruction : jc_kV y_C_hasInstruction 1 := ⟨⟨jt2 (i := 55) rfl, jt1 (i := 10) rfl, ⟨by decide +kernel, by decide +kernel⟩, by decide +kernel⟩, jt2 (i := 53) rfl, jt2 (i := 54) rfl⟩
set_option maxRecDepth 4000 in
theorem k_G_namesRowPlaces : jc_kV y_G_namesRowPlaces 1 := ⟨⟨jt2 (i := 59) rfl, jt1 (i := 3) rfl, ⟨by decide +kernel, by decide +kernel⟩, by decide +kernel⟩, jt2 (i := 58) rfl, jp (i := 1) rfl⟩
set_option maxRecDepth 4000 in
theorem k_C_rowCount : jc_kV y_C_rowCount 0 := ⟨⟨jt2 (i := 63) rfl, jt1 (i := 10) rfl, ⟨by decide +kernel, by decide +kernel⟩, by decide +kernel⟩, jt2 (i := 61) rfl, jt2 (i := 62) rfl⟩
set_option maxRecDepth 4000 in
theorem k_C_rowAt : jc_kV y_C_rowAt 1 := ⟨⟨jt2 (i := 67) rfl, jt1 (i := 10) rfl, ⟨by decide +kernel, by decide +kernel⟩, by decide +kernel⟩, jt2 (i := 65) rfl, jt2 (i := 66) rfl⟩
set_option maxRecDepth 4000 in
theorem k_G_markPlaces : jc_kV y_G_markPlaces 1 := ⟨⟨jt2 (i := 71) rfl, jt1 (i := 3) rfl, ⟨by decide +kernel, by decide +kernel⟩, by decide +kernel⟩, jt2 (i := 70) rfl, jp (i := 2) rfl⟩
set_option maxRecDepth 4000 in
theorem k_G_mark : jc_kV y_G_mark 2 := ⟨⟨jt2 (i := 75) rfl, jt1 (i := 3) rfl, ⟨by decide +kernel, by decide +kernel⟩, by decide +kernel⟩, jt2 (i := 74) rfl, jp (i := 3) rfl⟩
set_option maxRecDepth 4000 in
theorem k_G_arrive : jc_kV y_G_arrive 2 := ⟨⟨jt2 (i := 82) rfl, jt1 (i := 3) rfl, ⟨by decide +kernel, by decide +kernel⟩, by decide +kernel⟩, jt2 (i := 81) rfl, jp (i := 4) rfl⟩
set_option maxRecDepth 4000 in
theorem k_G_markAt : jc_kV y_G_markAt 1 := ⟨⟨jt2 (i := 86) rfl, jt1 (i := 3) rfl, ⟨by decide +kernel, by decide +kernel⟩, by decide +kernel⟩, jt2 (i := 85) rfl, jp (i := 5) rfl⟩
set_option maxRecDepth 4000 in
theorem k_G_demand : jc_kV y_G_demand 1 := ⟨⟨jt2 (i := 90) rfl, jt1 (i := 3) rfl, ⟨by decide +kernel, by decide +kernel⟩, by decide +kernel⟩, jt2 (i := 89) rfl, jp (i := 6) rfl⟩
set_option maxRecDepth 4000 in
theorem k_G_give : jc_kV y_G_give 1 := ⟨⟨jt2 (i := 94) rfl, jt1 (i := 3) rfl, ⟨by decide +kernel, by decide +kernel⟩, by decide +kernel⟩, jt2 (i := 93) rfl, jp (i := 7) rfl⟩
set_option maxRecDepth 4000 in
theorem k_G_follow : jc_kV y_G_follow 3 := ⟨⟨jt2 (i := 98) rfl, jt1 (i := 3) rfl, ⟨by decide +kernel, by decide +kernel⟩, by decide +kernel⟩, jt2 (i := 97) rfl, jp (i := 8) rfl⟩
set_option maxRecDepth 4000 in
theorem k_G_topKind : jc_kV y_G_topKind 0 := ⟨⟨jt2 (i := 102) rfl, jt1 (i := 3) rfl, ⟨by decide +kernel, by decide +kernel⟩, by decide +kernel⟩, jt2 (i := 101) rfl, jp (i := 9) rfl⟩
set_option maxRecDepth 4000 in
theorem k_G_take : jc_kV y_G_take 1 := ⟨⟨jt2 (i := 106) rfl, jt1 (i := 3) rfl, ⟨by decide +kernel, by decide +kernel⟩, by decide +kernel⟩, jt2 (i := 105) rfl, jp (i := 10) rfl⟩
set_option maxRecDepth 4000 in
theorem k_C_localKind : jc_kV y_C_localKind 1 := ⟨⟨jt2 (i := 110) rfl, jt1 (i := 10) rfl, ⟨by decide +kernel, by decide +kernel⟩, by decide +kernel⟩, jt2 (i := 108) rfl, jt2 (i := 109) rfl⟩
set_option maxRecDepth 4000 in
theorem k_G_leaveFor : jc_kV y_G_leaveFor 1 := ⟨⟨jt2 (i := 114) rfl, jt1 (i := 3) rfl, ⟨by decide +kernel, by decide +kernel⟩, by decide +kernel⟩, jt2 (i := 113) rfl, jp (i := 11) rfl⟩
set_option maxRecDepth 4000 in
theorem k_G_followUse : jc_kV y_G_followUse 1 := ⟨⟨jt2 (i := 118) rfl, jt1 (i := 3) rfl, ⟨by decide +kernel, by decide +kernel⟩, by decide +kernel⟩, jt2 (i := 117) rfl, jp (i := 12) rfl⟩
set_option maxRecDepth 4000 in
theorem k_G_followCall : jc_kV y_G_followCall 1 := ⟨⟨jt2 (i := 123) rfl, jt1 (i := 3) rfl, ⟨by decide +kernel, by decide +kernel⟩, by decide +kernel⟩, jt2 (i := 122) rfl, jp (i := 13) rfl⟩
set_option maxRecDepth 4000 in
theorem k_G_followReturn : jc_kV y_G_followReturn 1 := ⟨⟨jt2 (i := 127) rfl, jt1 (i := 3) rfl, ⟨by decide +kernel, by decide +kernel⟩, by decide +kernel⟩, jt2 (i := 126) rfl, jp (i := 14) rfl⟩
set_option maxRecDepth 4000 in
theorem k_m_judge : jc_kV y_m_judge 1 := ⟨⟨jt5 (i := 8) rfl, jt1 (i := 6) rfl, ⟨by decide +kernel, by decide +kernel⟩, by decide +kernel⟩, jt5 (i := 6) rfl, jt5 (i := 7) rfl⟩
set_option maxRecDepth 4000 in
theorem k_m_isCode : jc_kV y_m_isCode 1 := ⟨⟨jt5 (i := 12) rfl, jt1 (i := 6) rfl, ⟨by decide +kernel, by decide +kernel⟩, by decide +kernel⟩, jt5 (i := 11) rfl, jp (i := 32) rfl⟩
set_option maxRecDepth 4000 in
theorem k_aL_get : jc_kV y_aL_get 1 := ⟨⟨jt5 (i := 16) rfl, jt1 (i := 9) rfl, ⟨by decide +kernel, by decide +kernel⟩, by decide +kernel⟩, jt5 (i := 14) rfl, jt5 (i := 15) rfl⟩
set_option maxRecDepth 4000 in
theorem k_aO_checkIndex : jc_kS y_aO_checkIndex 2 := ⟨⟨jt5 (i := 19) rfl, jt1 (i := 17) rfl, ⟨by decide +kernel, by decide +kernel⟩, by decide +kernel⟩, jt5 (i := 18) rfl⟩
set_option maxRecDepth 4000 in
theorem k_aP_checkIndex : jc_kS y_aP_checkIndex 3 := ⟨⟨jt5 (i := 22) rfl, jt1 (i := 18) rfl, ⟨by decide +kernel, by decide +kernel⟩, by decide +kernel⟩, jt5 (i := 21) rfl⟩
set_option maxRecDepth 4000 in
theorem k_aL_elementData : jc_kV y_aL_elementData 1 := ⟨⟨jt5 (i := 26) rfl, jt1 (i := 9) rfl, ⟨by decide +kernel, by decide +kernel⟩, by decide +kernel⟩, jt5 (i := 24) rfl, jt5 (i := 25) rfl⟩
set_option maxRecDepth 4000 in
theorem k_m_isGood : jc_kV y_m_isGood 1 := ⟨⟨jt5 (i := 30) rfl, jt1 (i := 6) rfl, ⟨by decide +kernel, by decide +kernel⟩, by decide +kernel⟩, jt5 (i := 29) rfl, jp (i := 33) rfl⟩
set_option maxRecDepth 4000 in
theorem k_m_isLeaving : jc_kS y_m_isLeaving 1 := ⟨⟨jt5 (i := 33) rfl, jt1 (i := 6) rfl, ⟨by decide +kernel, by decide +kernel⟩, by decide +kernel⟩, jt5 (i := 32) rfl⟩
set_option maxRecDepth 4000 in
theorem k_mC_isLabel : jc_kV y_mC_isLabel 1 := ⟨⟨jt5 (i := 37) rfl, jt1 (i := 11) rfl, ⟨by decide +kernel, by decide +kernel⟩, by decide +kernel⟩, jt5 (i := 35) rfl, jt5 (i := 36) rfl⟩
set_option maxRecDepth 4000 in
theorem k_mC_isTaker : jc_kV y_mC_isTaker 1 := ⟨⟨jt5 (i := 41) rfl, jt1 (i := 11) rfl, ⟨by decide +kernel, by decide +kernel⟩, by decide +kernel⟩, jt5 (i := 39) rfl, jt5 (i := 40) rfl⟩
set_option maxRecDepth 4000 in
theorem k_m_isGoodStep : jc_kV y_m_isGoodStep 3 := ⟨⟨jt5 (i := 45) rfl, jt1 (i := 6) rfl, ⟨by decide +kernel, by decide +kernel⟩, by decide +kernel⟩, jt5 (i := 44) rfl, jp (i := 34) rfl⟩
set_option maxRecDepth 4000 in
theorem k_m_gives : jc_kV y_m_gives 1 := ⟨⟨jt5 (i := 49) rfl, jt1 (i := 6) rfl, ⟨by decide +kernel, by decide +kernel⟩, by decide +kernel⟩, jt5 (i := 48) rfl, jp (i := 35) rfl⟩
set_option maxRecDepth 4000 in
theorem k_m_takes : jc_kV y_m_takes 1 := ⟨⟨jt5 (i := 53) rfl, jt1 (i := 6) rfl, ⟨by decide +kernel, by decide +kernel⟩, by decide +kernel⟩, jt5 (i := 52) rfl, jp (i := 36) rfl⟩
set_option maxRecDepth 4000 in
theorem k_m_kindOf : jc_kS y_m_kindOf 2 := ⟨⟨jt5 (i := 56) rfl, jt1 (i := 6) rfl, ⟨by decide +kernel, by decide +kernel⟩, by decide +kernel⟩, jt5 (i := 55) rfl⟩
set_option maxRecDepth 4000 in
theorem k_m_isTarget : jc_kV y_m_isTarget 2 := ⟨⟨jt5 (i := 60) rfl, jt1 (i := 6) rfl, ⟨by decide +kernel, by decide +kernel⟩, by decide +kernel⟩, jt5 (i := 59) rfl, jp (i := 37) rfl⟩
set_option maxRecDepth 4000 in
theorem k_m_isGoodCall : jc_kV y_m_isGoodCall 1 := ⟨⟨jt5 (i := 64) rfl, jt1 (i := 6) rfl, ⟨by decide +kernel, by decide +kernel⟩, by decide +kernel⟩, jt5 (i := 63) rfl, jp (i := 38) rfl⟩
set_option maxRecDepth 4000 in
theorem k_J_thread : jc_kV y_J_thread 1 := ⟨⟨jt2 (i := 131) rfl, jt1 (i := 1) rfl, ⟨by decide +kernel, by decide +kernel⟩, by decide +kernel⟩, jt2 (i := 129) rfl, jt2 (i := 130) rfl⟩
set_option maxRecDepth 4000 in
theorem k_M_begin : jc_kV y_M_begin 1 := ⟨⟨jt2 (i := 135) rfl, jt1 (i := 5) rfl, ⟨by decide +kernel, by decide +kernel⟩, by decide +kernel⟩, jt2 (i := 133) rfl, jt2 (i := 134) rfl⟩
set_option maxRecDepth 4000 in
theorem k_G_isGoodThroughout : jc_kV y_G_isGoodThroughout 1 := ⟨⟨jt2 (i := 140) rfl, jt1 (i := 3) rfl, ⟨by decide +kernel, by decide +kernel⟩, by decide +kernel⟩, jt2 (i := 138) rfl, jt2 (i := 139) rfl⟩
set_option maxRecDepth 4000 in
theorem k_G_reach : jc_kV y_G_reach 1 := ⟨⟨jt2 (i := 144) rfl, jt1 (i := 3) rfl, ⟨by decide +kernel, by decide +kernel⟩, by decide +kernel⟩, jt2 (i := 143) rfl, jp (i := 15) rfl⟩
set_option maxRecDepth 4000 in
theorem k_G_reachCallsOf : jc_kV y_G_reachCallsOf 1 := ⟨⟨jt2 (i := 149) rfl, jt1 (i := 3) rfl, ⟨by decide +kernel, by decide +kernel⟩, by decide +kernel⟩, jt2 (i := 148) rfl, jp (i := 16) rfl⟩
set_option maxRecDepth 4000 in
theorem k_S_init : jc_kI y_S_init 1 := ⟨⟨jt2 (i := 153) rfl, jt1 (i := 19) rfl, ⟨by decide +kernel, by decide +kernel⟩, by decide +kernel⟩, rfl, rfl, jt2 (i := 152) rfl⟩
set_option maxRecDepth 4000 in
theorem k_F_init : jc_kI y_F_init 0 := ⟨⟨jt2 (i := 160) rfl, jt1 (i := 20) rfl, ⟨by decide +kernel, by decide +kernel⟩, by decide +kernel⟩, rfl, rfl, jt2 (i := 159) rfl⟩
set_option maxRecDepth 4000 in
theorem k_S_begin : jc_kV y_S_begin 1 := ⟨⟨jt2 (i := 203) rfl, jt1 (i := 19) rfl, ⟨by decide +kernel, by decide +kernel⟩, by decide +kernel⟩, jt2 (i := 201) rfl, jt2 (i := 202) rfl⟩
set_option maxRecDepth 4000 in
theorem k_S_beginFrame : jc_kV y_S_beginFrame 1 := ⟨⟨jt2 (i := 207) rfl, jt1 (i := 19) rfl, ⟨by decide +kernel, by decide +kernel⟩, by decide +kernel⟩, jt2 (i := 205) rfl, jt2 (i := 206) rfl⟩
set_option maxRecDepth 4000 in
theorem k_F_begin : jc_kV y_F_begin 1 := ⟨⟨jt2 (i := 211) rfl, jt1 (i := 20) rfl, ⟨by decide +kernel, by decide +kernel⟩, by decide +kernel⟩, jt2 (i := 209) rfl, jt2 (i := 210) rfl⟩
set_option maxRecDepth 4000 in
theorem k_Cs_close : jc_kV y_Cs_close 0 := ⟨⟨jt2 (i := 215) rfl, jt1 (i := 2) rfl, ⟨by decide +kernel, by decide +kernel⟩, by decide +kernel⟩, jt2 (i := 213) rfl, jt2 (i := 214) rfl⟩
set_option maxRecDepth 4000 in
theorem k_m_thread : jc_kV y_m_thread 1 := ⟨⟨jt5 (i := 68) rfl, jt1 (i := 6) rfl, ⟨by decide +kernel, by decide +kernel⟩, by decide +kernel⟩, jt5 (i := 66) rfl, jt5 (i := 67) rfl⟩
set_option maxRecDepth 4000 in
theorem k_m_isAllGood : jc_kV y_m_isAllGood 1 := ⟨⟨jt5 (i := 72) rfl, jt1 (i := 6) rfl, ⟨by decide +kernel, by decide +kernel⟩, by decide +kernel⟩, jt5 (i := 71) rfl, jp (i := 39) rfl⟩
set_option maxRecDepth 4000 in
theorem k_mT_init : jc_kI y_mT_init 1 := ⟨⟨jt5 (i := 77) rfl, jt1 (i := 21) rfl, ⟨by decide +kernel, by decide +kernel⟩, by decide +kernel⟩, rfl, rfl, jt5 (i := 76) rfl⟩
set_option maxRecDepth 4000 in
theorem k_mT_begin : jc_kV y_mT_begin 0 := ⟨⟨jt5 (i := 112) rfl, jt1 (i := 21) rfl, ⟨by decide +kernel, by decide +kernel⟩, by decide +kernel⟩, jt5 (i := 110) rfl, jt5 (i := 111) rfl⟩
set_option maxRecDepth 4000 in
theorem k_mT_push : jc_kV y_mT_push 2 := ⟨⟨jt5 (i := 116) rfl, jt1 (i := 21) rfl, ⟨by decide +kernel, by decide +kernel⟩, by decide +kernel⟩, jt5 (i := 114) rfl, jt5 (i := 115) rfl⟩
set_option maxRecDepth 4000 in
theorem k_mF_init : jc_kI y_mF_init 0 := ⟨⟨jt5 (i := 122) rfl, jt1 (i := 22) rfl, ⟨by decide +kernel, by decide +kernel⟩, by decide +kernel⟩, rfl, rfl, jt5 (i := 121) rfl⟩
set_option maxRecDepth 4000 in
theorem k_J_run : jc_kV y_J_run 2 := ⟨⟨jt2 (i := 219) rfl, jt1 (i := 1) rfl, ⟨by decide +kernel, by decide +kernel⟩, by decide +kernel⟩, jt2 (i := 217) rfl, jt2 (i := 218) rfl⟩
set_option maxRecDepth 4000 in
theorem k_M_find : jc_kV y_M_find 1 := ⟨⟨jt2 (i := 223) rfl, jt1 (i := 5) rfl, ⟨by decide +kernel, by decide +kernel⟩, by decide +kernel⟩, jt2 (i := 221) rfl, jt2 (i := 222) rfl⟩
set_option maxRecDepth 4000 in
theorem k_M_advance : jc_kV y_M_advance 2 := ⟨⟨jt2 (i := 227) rfl, jt1 (i := 5) rfl, ⟨by decide +kernel, by decide +kernel⟩, by decide +kernel⟩, jt2 (i := 225) rfl, jt2 (i := 226) rfl⟩
set_option maxRecDepth 4000 in
theorem k_S_hasEnded : jc_kV y_S_hasEnded 0 := ⟨⟨jt2 (i := 231) rfl, jt1 (i := 19) rfl, ⟨by decide +kernel, by decide +kernel⟩, by decide +kernel⟩, jt2 (i := 229) rfl, jt2 (i := 230) rfl⟩
set_option maxRecDepth 4000 in
theorem k_M_awaitedBy : jc_kV y_M_awaitedBy 1 := ⟨⟨jt2 (i := 235) rfl, jt1 (i := 5) rfl, ⟨by decide +kernel, by decide +kernel⟩, by decide +kernel⟩, jt2 (i := 233) rfl, jt2 (i := 234) rfl⟩
set_option maxRecDepth 4000 in
theorem k_S_isStopped : jc_kV y_S_isStopped 0 := ⟨⟨jt2 (i := 239) rfl, jt1 (i := 19) rfl, ⟨by decide +kernel, by decide +kernel⟩, by decide +kernel⟩, jt2 (i := 237) rfl, jt2 (i := 238) rfl⟩
set_option maxRecDepth 4000 in
theorem k_M_objectHeldAgainst : jc_kV y_M_objectHeldAgainst 1 := ⟨⟨jt3 (i := 3) rfl, jt1 (i := 5) rfl, ⟨by decide +kernel, by decide +kernel⟩, by decide +kernel⟩, jt3 (i := 2) rfl, jp (i := 17) rfl⟩
set_option maxRecDepth 4000 in
theorem k_S_top : jc_kV y_S_top 0 := ⟨⟨jt3 (i := 7) rfl, jt1 (i := 19) rfl, ⟨by decide +kernel, by decide +kernel⟩, by decide +kernel⟩, jt3 (i := 5) rfl, jt3 (i := 6) rfl⟩
set_option maxRecDepth 4000 in
theorem k_F_ownCode : jc_kV y_F_ownCode 0 := ⟨⟨jt3 (i := 11) rfl, jt1 (i := 20) rfl, ⟨by decide +kernel, by decide +kernel⟩, by decide +kernel⟩, jt3 (i := 9) rfl, jt3 (i := 10) rfl⟩
set_option maxRecDepth 4000 in
theorem k_F_at : jc_kV y_F_at 0 := ⟨⟨jt3 (i := 15) rfl, jt1 (i := 20) rfl, ⟨by decide +kernel, by decide +kernel⟩, by decide +kernel⟩, jt3 (i := 13) rfl, jt3 (i := 14) rfl⟩
set_option maxRecDepth 4000 in
theorem k_F_peek : jc_kV y_F_peek 1 := ⟨⟨jt3 (i := 20) rfl, jt1 (i := 20) rfl, ⟨by decide +kernel, by decide +kernel⟩, by decide +kernel⟩, jt3 (i := 18) rfl, jt3 (i := 19) rfl⟩
set_option maxRecDepth 4000 in
theorem k_H_find : jc_kV y_H_find 1 := ⟨⟨jt3 (i := 24) rfl, jt1 (i := 4) rfl, ⟨by decide +kernel, by decide +kernel⟩, by decide +kernel⟩, jt3 (i := 22) rfl, jt3 (i := 23) rfl⟩
set_option maxRecDepth 4000 in
theorem k_S_number : jc_kV y_S_number 0 := ⟨⟨jt3 (i := 28) rfl, jt1 (i := 19) rfl, ⟨by decide +kernel, by decide +kernel⟩, by decide +kernel⟩, jt3 (i := 26) rfl, jt3 (i := 27) rfl⟩
set_option maxRecDepth 4000 in
theorem k_T_isHeldByAnotherThan : jc_kV y_T_isHeldByAnotherThan 1 := ⟨⟨jt3 (i := 32) rfl, jt1 (i := 23) rfl, ⟨by decide +kernel, by decide +kernel⟩, by decide +kernel⟩, jt3 (i := 30) rfl, jt3 (i := 31) rfl⟩
set_option maxRecDepth 4000 in
theorem k_H_isFull : jc_kV y_H_isFull 0 := ⟨⟨jt3 (i := 36) rfl, jt1 (i := 4) rfl, ⟨by decide +kernel, by decide +kernel⟩, by decide +kernel⟩, jt3 (i := 34) rfl, jt3 (i := 35) rfl⟩
set_option maxRecDepth 4000 in
theorem k_S_stop : jc_kV y_S_stop 0 := ⟨⟨jt3 (i := 41) rfl, jt1 (i := 19) rfl, ⟨by decide +kernel, by decide +kernel⟩, by decide +kernel⟩, jt3 (i := 39) rfl, jt3 (i := 40) rfl⟩
set_option maxRecDepth 4000 in
theorem k_M_step : jc_kV y_M_step 1 := ⟨⟨jt3 (i := 45) rfl, jt1 (i := 5) rfl, ⟨by decide +kernel, by decide +kernel⟩, by decide +kernel⟩, jt3 (i := 44) rfl, jp (i := 18) rfl⟩
set_option maxRecDepth 4000 in
theorem k_S_countStep : jc_kV y_S_countStep 0 := ⟨⟨jt3 (i := 49) rfl, jt1 (i := 19) rfl, ⟨by decide +kernel, by decide +kernel⟩, by decide +kernel⟩, jt3 (i := 47) rfl, jt3 (i := 48) rfl⟩
set_option maxRecDepth 4000 in
theorem k_M_failureOf : jc_kV y_M_failureOf 3 := ⟨⟨jt3 (i := 53) rfl, jt1 (i := 5) rfl, ⟨by decide +kernel, by decide +kernel⟩, by decide +kernel⟩, jt3 (i := 52) rfl, jp (i := 19) rfl⟩
set_option maxRecDepth 4000 in
theorem k_M_nullFailureOf : jc_kV y_M_nullFailureOf 1 := ⟨⟨jt3 (i := 57) rfl, jt1 (i := 5) rfl, ⟨by decide +kernel, by decide +kernel⟩, by decide +kernel⟩, jt3 (i := 56) rfl, jp (i := 20) rfl⟩
set_option maxRecDepth 4000 in
theorem k_M_failureOfLeave : jc_kV y_M_failureOfLeave 2 := ⟨⟨jt3 (i := 61) rfl, jt1 (i := 5) rfl, ⟨by decide +kernel, by decide +kernel⟩, by decide +kernel⟩, jt3 (i := 60) rfl, jp (i := 21) rfl⟩
set_option maxRecDepth 4000 in
theorem k_T_isHeldBy : jc_kV y_T_isHeldBy 1 := ⟨⟨jt3 (i := 65) rfl, jt1 (i := 23) rfl, ⟨by decide +kernel, by decide +kernel⟩, by decide +kernel⟩, jt3 (i := 63) rfl, jt3 (i := 64) rfl⟩
set_option maxRecDepth 4000 in
theorem k_S_hasAllFrames : jc_kV y_S_hasAllFrames 0 := ⟨⟨jt3 (i := 69) rfl, jt1 (i := 19) rfl, ⟨by decide +kernel, by decide +kernel⟩, by decide +kernel⟩, jt3 (i := 67) rfl, jt3 (i := 68) rfl⟩
set_option maxRecDepth 4000 in
theorem k_M_perform : jc_kV y_M_perform 4 := ⟨⟨jt3 (i := 74) rfl, jt1 (i := 5) rfl, ⟨by decide +kernel, by decide +kernel⟩, by decide +kernel⟩, jt3 (i := 73) rfl, jp (i := 22) rfl⟩
set_option maxRecDepth 4000 in
theorem k_F_goTo : jc_kV y_F_goTo 1 := ⟨⟨jt3 (i := 78) rfl, jt1 (i := 20) rfl, ⟨by decide +kernel, by decide +kernel⟩, by decide +kernel⟩, jt3 (i := 76) rfl, jt3 (i := 77) rfl⟩
set_option maxRecDepth 4000 in
theorem k_F_pop : jc_kV y_F_pop 0 := ⟨⟨jt3 (i := 82) rfl, jt1 (i := 20) rfl, ⟨by decide +kernel, by decide +kernel⟩, by decide +kernel⟩, jt3 (i := 80) rfl, jt3 (i := 81) rfl⟩
set_option maxRecDepth 4000 in
theorem k_M_callCode : jc_kV y_M_callCode 3 := ⟨⟨jt3 (i := 88) rfl, jt1 (i := 5) rfl, ⟨by decide +kernel, by decide +kernel⟩, by decide +kernel⟩, jt3 (i := 87) rfl, jp (i := 23) rfl⟩
set_option maxRecDepth 4000 in
theorem k_F_setLocal : jc_kV y_F_setLocal 2 := ⟨⟨jt3 (i := 93) rfl, jt1 (i := 20) rfl, ⟨by decide +kernel, by decide +kernel⟩, by decide +kernel⟩, jt3 (i := 91) rfl, jt3 (i := 92) rfl⟩
set_option maxRecDepth 4000 in
theorem k_M_raise : jc_kV y_M_raise 2 := ⟨⟨jt3 (i := 97) rfl, jt1 (i := 5) rfl, ⟨by decide +kernel, by decide +kernel⟩, by decide +kernel⟩, jt3 (i := 96) rfl, jp (i := 24) rfl⟩
set_option maxRecDepth 4000 in
theorem k_T_kind : jc_kV y_T_kind 0 := ⟨⟨jt3 (i := 101) rfl, jt1 (i := 23) rfl, ⟨by decide +kernel, by decide +kernel⟩, by decide +kernel⟩, jt3 (i := 99) rfl, jt3 (i := 100) rfl⟩
set_option maxRecDepth 4000 in
theorem k_S_frameCount : jc_kV y_S_frameCount 0 := ⟨⟨jt3 (i := 105) rfl, jt1 (i := 19) rfl, ⟨by decide +kernel, by decide +kernel⟩, by decide +kernel⟩, jt3 (i := 103) rfl, jt3 (i := 104) rfl⟩
set_option maxRecDepth 4000 in
theorem k_C_takerOf : jc_kV y_C_takerOf 2 := ⟨⟨jt3 (i := 109) rfl, jt1 (i := 10) rfl, ⟨by decide +kernel, by decide +kernel⟩, by decide +kernel⟩, jt3 (i := 107) rfl, jt3 (i := 108) rfl⟩
set_option maxRecDepth 4000 in
theorem k_R_takes : jc_kV y_R_takes 2 := ⟨⟨jt3 (i := 114) rfl, jt1 (i := 16) rfl, ⟨by decide +kernel, by decide +kernel⟩, by decide +kernel⟩, jt3 (i := 112) rfl, jt3 (i := 113) rfl⟩
set_option maxRecDepth 4000 in
theorem k_F_holdOnly : jc_kV y_F_holdOnly 1 := ⟨⟨jt3 (i := 118) rfl, jt1 (i := 20) rfl, ⟨by decide +kernel, by decide +kernel⟩, by decide +kernel⟩, jt3 (i := 116) rfl, jt3 (i := 117) rfl⟩
set_option maxRecDepth 4000 in
theorem k_F_push : jc_kV y_F_push 1 := ⟨⟨jt3 (i := 122) rfl, jt1 (i := 20) rfl, ⟨by decide +kernel, by decide +kernel⟩, by decide +kernel⟩, jt3 (i := 120) rfl, jt3 (i := 121) rfl⟩
set_option maxRecDepth 4000 in
theorem k_S_endFrame : jc_kV y_S_endFrame 0 := ⟨⟨jt3 (i := 126) rfl, jt1 (i := 19) rfl, ⟨by decide +kernel, by decide +kernel⟩, by decide +kernel⟩, jt3 (i := 124) rfl, jt3 (i := 125) rfl⟩
set_option maxRecDepth 4000 in
theorem k_M_end : jc_kV y_M_end 3 := ⟨⟨jt3 (i := 131) rfl, jt1 (i := 5) rfl, ⟨by decide +kernel, by decide +kernel⟩, by decide +kernel⟩, jt3 (i := 130) rfl, jp (i := 25) rfl⟩
set_option maxRecDepth 4000 in
theorem k_S_end : jc_kV y_S_end 2 := ⟨⟨jt3 (i := 135) rfl, jt1 (i := 19) rfl, ⟨by decide +kernel, by decide +kernel⟩, by decide +kernel⟩, jt3 (i := 133) rfl, jt3 (i := 134) rfl⟩
set_option maxRecDepth 4000 in
theorem k_H_freeAllHeldBy : jc_kV y_H_freeAllHeldBy 1 := ⟨⟨jt3 (i := 139) rfl, jt1 (i := 4) rfl, ⟨by decide +kernel, by decide +kernel⟩, by decide +kernel⟩, jt3 (i := 137) rfl, jt3 (i := 138) rfl⟩
set_option maxRecDepth 4000 in
theorem k_T_setFree : jc_kV y_T_setFree 0 := ⟨⟨jt3 (i := 145) rfl, jt1 (i := 23) rfl, ⟨by decide +kernel, by decide +kernel⟩, by decide +kernel⟩, jt3 (i := 143) rfl, jt3 (i := 144) rfl⟩
set_option maxRecDepth 4000 in
theorem k_M_giveBack : jc_kV y_M_giveBack 2 := ⟨⟨jt3 (i := 149) rfl, jt1 (i := 5) rfl, ⟨by decide +kernel, by decide +kernel⟩, by decide +kernel⟩, jt3 (i := 148) rfl, jp (i := 26) rfl⟩
set_option maxRecDepth 4000 in
theorem k_F_goOn : jc_kV y_F_goOn 0 := ⟨⟨jt3 (i := 154) rfl, jt1 (i := 20) rfl, ⟨by decide +kernel, by decide +kernel⟩, by decide +kernel⟩, jt3 (i := 152) rfl, jt3 (i := 153) rfl⟩
set_option maxRecDepth 4000 in
theorem k_M_compute : jc_kS y_M_compute 3 := ⟨⟨jt3 (i := 157) rfl, jt1 (i := 5) rfl, ⟨by decide +kernel, by decide +kernel⟩, by decide +kernel⟩, jt3 (i := 156) rfl⟩
set_option maxRecDepth 4000 in
theorem k_M_useThing : jc_kV y_M_useThing 4 := ⟨⟨jt3 (i := 161) rfl, jt1 (i := 5) rfl, ⟨by decide +kernel, by decide +kernel⟩, by decide +kernel⟩, jt3 (i := 160) rfl, jp (i := 27) rfl⟩
set_option maxRecDepth 4000 in
theorem k_T_field : jc_kV y_T_field 1 := ⟨⟨jt3 (i := 165) rfl, jt1 (i := 23) rfl, ⟨by decide +kernel, by decide +kernel⟩, by decide +kernel⟩, jt3 (i := 163) rfl, jt3 (i := 164) rfl⟩
set_option maxRecDepth 4000 in
theorem k_T_setField : jc_kV y_T_setField 2 := ⟨⟨jt3 (i := 169) rfl, jt1 (i := 23) rfl, ⟨by decide +kernel, by decide +kernel⟩, by decide +kernel⟩, jt3 (i := 167) rfl, jt3 (i := 168) rfl⟩
set_option maxRecDepth 4000 in
theorem k_T_enter : jc_kV y_T_enter 1 := ⟨⟨jt3 (i := 173) rfl, jt1 (i := 23) rfl, ⟨by decide +kernel, by decide +kernel⟩, by decide +kernel⟩, jt3 (i := 171) rfl, jt3 (i := 172) rfl⟩
set_option maxRecDepth 4000 in
theorem k_T_leave : jc_kV y_T_leave 0 := ⟨⟨jt3 (i := 177) rfl, jt1 (i := 23) rfl, ⟨by decide +kernel, by decide +kernel⟩, by decide +kernel⟩, jt3 (i := 175) rfl, jt3 (i := 176) rfl⟩
set_option maxRecDepth 4000 in
theorem k_M_moveValue : jc_kV y_M_moveValue 3 := ⟨⟨jt3 (i := 182) rfl, jt1 (i := 5) rfl, ⟨by decide +kernel, by decide +kernel⟩, by decide +kernel⟩, jt3 (i := 181) rfl, jp (i := 28) rfl⟩
set_option maxRecDepth 4000 in
theorem k_F_localAt : jc_kV y_F_localAt 1 := ⟨⟨jt3 (i := 186) rfl, jt1 (i := 20) rfl, ⟨by decide +kernel, by decide +kernel⟩, by decide +kernel⟩, jt3 (i := 184) rfl, jt3 (i := 185) rfl⟩
set_option maxRecDepth 4000 in
theorem k_H_make : jc_kV y_H_make 1 := ⟨⟨jt3 (i := 191) rfl, jt1 (i := 4) rfl, ⟨by decide +kernel, by decide +kernel⟩, by decide +kernel⟩, jt3 (i := 189) rfl, jt3 (i := 190) rfl⟩
set_option maxRecDepth 4000 in
theorem k_T_init : jc_kI y_T_init 0 := ⟨⟨jt3 (i := 196) rfl, jt1 (i := 23) rfl, ⟨by decide +kernel, by decide +kernel⟩, by decide +kernel⟩, rfl, rfl, jt3 (i := 195) rfl⟩
set_option maxRecDepth 4000 in
theorem k_T_begin : jc_kV y_T_begin 1 := ⟨⟨jt3 (i := 214) rfl, jt1 (i := 23) rfl, ⟨by decide +kernel, by decide +kernel⟩, by decide +kernel⟩, jt3 (i := 212) rfl, jt3 (i := 213) rfl⟩
set_option maxRecDepth 4000 in
theorem k_H_globalAt : jc_kV y_H_globalAt 1 := ⟨⟨jt3 (i := 218) rfl, jt1 (i := 4) rfl, ⟨by decide +kernel, by decide +kernel⟩, by decide +kernel⟩, jt3 (i := 216) rfl, jt3 (i := 217) rfl⟩
set_option maxRecDepth 4000 in
theorem k_H_setGlobal : jc_kV y_H_setGlobal 2 := ⟨⟨jt3 (i := 222) rfl, jt1 (i := 4) rfl, ⟨by decide +kernel, by decide +kernel⟩, by decide +kernel⟩, jt3 (i := 220) rfl, jt3 (i := 221) rfl⟩
set_option maxRecDepth 4000 in
theorem k_S_state : jc_kV y_S_state 0 := ⟨⟨jt3 (i := 226) rfl, jt1 (i := 19) rfl, ⟨by decide +kernel, by decide +kernel⟩, by decide +kernel⟩, jt3 (i := 224) rfl, jt3 (i := 225) rfl⟩
set_option maxRecDepth 4000 in
theorem k_m_run : jc_kV y_m_run 2 := ⟨⟨jt5 (i := 156) rfl, jt1 (i := 6) rfl, ⟨by decide +kernel, by decide +kernel⟩, by decide +kernel⟩, jt5 (i := 154) rfl, jt5 (i := 155) rfl⟩
set_option maxRecDepth 4000 in
theorem k_m_isHeldUp : jc_kV y_m_isHeldUp 1 := ⟨⟨jt5 (i := 160) rfl, jt1 (i := 6) rfl, ⟨by decide +kernel, by decide +kernel⟩, by decide +kernel⟩, jt5 (i := 159) rfl, jp (i := 40) rfl⟩
set_option maxRecDepth 4000 in
theorem k_m_step : jc_kV y_m_step 1 := ⟨⟨jt5 (i := 166) rfl, jt1 (i := 6) rfl, ⟨by decide +kernel, by decide +kernel⟩, by decide +kernel⟩, jt5 (i := 165) rfl, jp (i := 41) rfl⟩
set_option maxRecDepth 4000 in
theorem k_mT_top : jc_kV y_mT_top 0 := ⟨⟨jt5 (i := 170) rfl, jt1 (i := 21) rfl, ⟨by decide +kernel, by decide +kernel⟩, by decide +kernel⟩, jt5 (i := 168) rfl, jt5 (i := 169) rfl⟩
set_option maxRecDepth 4000 in
theorem k_mF_pop : jc_kV y_mF_pop 0 := ⟨⟨jt5 (i := 174) rfl, jt1 (i := 22) rfl, ⟨by decide +kernel, by decide +kernel⟩, by decide +kernel⟩, jt5 (i := 172) rfl, jt5 (i := 173) rfl⟩
set_option maxRecDepth 4000 in
theorem k_m_call : jc_kV y_m_call 3 := ⟨⟨jt5 (i := 178) rfl, jt1 (i := 6) rfl, ⟨by decide +kernel, by decide +kernel⟩, by decide +kernel⟩, jt5 (i := 177) rfl, jp (i := 42) rfl⟩
set_option maxRecDepth 4000 in
theorem k_m_fresh : jc_kV y_m_fresh 1 := ⟨⟨jt5 (i := 182) rfl, jt1 (i := 6) rfl, ⟨by decide +kernel, by decide +kernel⟩, by decide +kernel⟩, jt5 (i := 181) rfl, jp (i := 43) rfl⟩
set_option maxRecDepth 4000 in
theorem k_mO_init : jc_kI y_mO_init 1 := ⟨⟨jt5 (i := 186) rfl, jt1 (i := 24) rfl, ⟨by decide +kernel, by decide +kernel⟩, by decide +kernel⟩, rfl, rfl, jt5 (i := 185) rfl⟩
set_option maxRecDepth 4000 in
theorem k_m_flies : jc_kV y_m_flies 2 := ⟨⟨jt5 (i := 207) rfl, jt1 (i := 6) rfl, ⟨by decide +kernel, by decide +kernel⟩, by decide +kernel⟩, jt5 (i := 206) rfl, jp (i := 44) rfl⟩
set_option maxRecDepth 4000 in
theorem k_mF_push : jc_kV y_mF_push 1 := ⟨⟨jt5 (i := 211) rfl, jt1 (i := 22) rfl, ⟨by decide +kernel, by decide +kernel⟩, by decide +kernel⟩, jt5 (i := 209) rfl, jt5 (i := 210) rfl⟩
set_option maxRecDepth 4000 in
theorem k_m_over : jc_kV y_m_over 3 := ⟨⟨jt5 (i := 215) rfl, jt1 (i := 6) rfl, ⟨by decide +kernel, by decide +kernel⟩, by decide +kernel⟩, jt5 (i := 214) rfl, jp (i := 45) rfl⟩
set_option maxRecDepth 4000 in
theorem k_mF_top : jc_kV y_mF_top 0 := ⟨⟨jt5 (i := 219) rfl, jt1 (i := 22) rfl, ⟨by decide +kernel, by decide +kernel⟩, by decide +kernel⟩, jt5 (i := 217) rfl, jt5 (i := 218) rfl⟩
set_option maxRecDepth 4000 in
theorem k_m_monitor : jc_kV y_m_monitor 3 := ⟨⟨jt5 (i := 223) rfl, jt1 (i := 6) rfl, ⟨by decide +kernel, by decide +kernel⟩, by decide +kernel⟩, jt5 (i := 222) rfl, jp (i := 46) rfl⟩
set_option maxRecDepth 4000 in
theorem k_m_ends : jc_kV y_m_ends 2 := ⟨⟨jt5 (i := 227) rfl, jt1 (i := 6) rfl, ⟨by decide +kernel, by decide +kernel⟩, by decide +kernel⟩, jt5 (i := 226) rfl, jp (i := 47) rfl⟩
set_option maxRecDepth 4000 in
theorem k_m_field : jc_kV y_m_field 4 := ⟨⟨jt5 (i := 231) rfl, jt1 (i := 6) rfl, ⟨by decide +kernel, by decide +kernel⟩, by decide +kernel⟩, jt5 (i := 230) rfl, jp (i := 48) rfl⟩
set_option maxRecDepth 4000 in
theorem k_m_plain : jc_kV y_m_plain 4 := ⟨⟨jt5 (i := 235) rfl, jt1 (i := 6) rfl, ⟨by decide +kernel, by decide +kernel⟩, by decide +kernel⟩, jt5 (i := 234) rfl, jp (i := 49) rfl⟩
set_option maxRecDepth 4000 in
theorem k_J_told : jc_kV y_J_told 2 := ⟨⟨jt3 (i := 230) rfl, jt1 (i := 1) rfl, ⟨by decide +kernel, by decide +kernel⟩, by decide +kernel⟩, jt3 (i := 228) rfl, jt3 (i := 229) rfl⟩
set_option maxRecDepth 4000 in
theorem k_S_tell : jc_kV y_S_tell 1 := ⟨⟨jt3 (i := 235) rfl, jt1 (i := 19) rfl, ⟨by decide +kernel, by decide +kernel⟩, by decide +kernel⟩, jt3 (i := 233) rfl, jt3 (i := 234) rfl⟩
set_option maxRecDepth 4000 in
theorem k_F_depth : jc_kV y_F_depth 0 := ⟨⟨jt4 (i := 2) rfl, jt1 (i := 20) rfl, ⟨by decide +kernel, by decide +kernel⟩, by decide +kernel⟩, jt4 (i := 0) rfl, jt4 (i := 1) rfl⟩
set_option maxRecDepth 4000 in
theorem k_m_told : jc_kV y_m_told 2 := ⟨⟨jt5 (i := 239) rfl, jt1 (i := 6) rfl, ⟨by decide +kernel, by decide +kernel⟩, by decide +kernel⟩, jt5 (i := 237) rfl, jt5 (i := 238) rfl⟩
set_option maxRecDepth 4000 in
theorem k_J_object : jc_kV y_J_object 2 := ⟨⟨jt4 (i := 6) rfl, jt1 (i := 1) rfl, ⟨by decide +kernel, by decide +kernel⟩, by decide +kernel⟩, jt4 (i := 4) rfl, jt4 (i := 5) rfl⟩
set_option maxRecDepth 4000 in
theorem k_T_tell : jc_kV y_T_tell 1 := ⟨⟨jt4 (i := 11) rfl, jt1 (i := 23) rfl, ⟨by decide +kernel, by decide +kernel⟩, by decide +kernel⟩, jt4 (i := 9) rfl, jt4 (i := 10) rfl⟩
set_option maxRecDepth 4000 in
theorem k_m_object : jc_kV y_m_object 2 := ⟨⟨jt6 (i := 3) rfl, jt1 (i := 6) rfl, ⟨by decide +kernel, by decide +kernel⟩, by decide +kernel⟩, jt6 (i := 1) rfl, jt6 (i := 2) rfl⟩
set_option maxRecDepth 4000 in
theorem k_J_value : jc_kV y_J_value 2 := ⟨⟨jt4 (i := 16) rfl, jt1 (i := 1) rfl, ⟨by decide +kernel, by decide +kernel⟩, by decide +kernel⟩, jt4 (i := 14) rfl, jt4 (i := 15) rfl⟩
set_option maxRecDepth 4000 in
theorem k_m_value : jc_kV y_m_value 2 := ⟨⟨jt6 (i := 11) rfl, jt1 (i := 6) rfl, ⟨by decide +kernel, by decide +kernel⟩, by decide +kernel⟩, jt6 (i := 9) rfl, jt6 (i := 10) rfl⟩
set_option maxRecDepth 4000 in
theorem k_J_global : jc_kV y_J_global 1 := ⟨⟨jt4 (i := 23) rfl, jt1 (i := 1) rfl, ⟨by decide +kernel, by decide +kernel⟩, by decide +kernel⟩, jt4 (i := 21) rfl, jt4 (i := 22) rfl⟩
set_option maxRecDepth 4000 in
theorem k_m_global : jc_kV y_m_global 1 := ⟨⟨jt6 (i := 7) rfl, jt1 (i := 6) rfl, ⟨by decide +kernel, by decide +kernel⟩, by decide +kernel⟩, jt6 (i := 5) rfl, jt6 (i := 6) rfl⟩
set_option maxRecDepth 4000 in
theorem k_J_stuck : jc_kV y_J_stuck 0 := ⟨⟨jt4 (i := 28) rfl, jt1 (i := 1) rfl, ⟨by decide +kernel, by decide +kernel⟩, by decide +kernel⟩, jt4 (i := 26) rfl, jt4 (i := 27) rfl⟩
set_option maxRecDepth 4000 in
theorem k_M_countStuck : jc_kV y_M_countStuck 0 := ⟨⟨jt4 (i := 32) rfl, jt1 (i := 5) rfl, ⟨by decide +kernel, by decide +kernel⟩, by decide +kernel⟩, jt4 (i := 30) rfl, jt4 (i := 31) rfl⟩
set_option maxRecDepth 4000 in
theorem k_m_stuck : jc_kV y_m_stuck 0 := ⟨⟨jt6 (i := 15) rfl, jt1 (i := 6) rfl, ⟨by decide +kernel, by decide +kernel⟩, by decide +kernel⟩, jt6 (i := 13) rfl, jt6 (i := 14) rfl⟩
set_option maxRecDepth 4000 in
theorem k_J_reset : jc_kV y_J_reset 0 := ⟨⟨jt4 (i := 37) rfl, jt1 (i := 1) rfl, ⟨by decide +kernel, by decide +kernel⟩, by decide +kernel⟩, jt4 (i := 35) rfl, jt4 (i := 36) rfl⟩
set_option maxRecDepth 4000 in
theorem k_M_clear : jc_kV y_M_clear 0 := ⟨⟨jt4 (i := 42) rfl, jt1 (i := 5) rfl, ⟨by decide +kernel, by decide +kernel⟩, by decide +kernel⟩, jt4 (i := 40) rfl, jt4 (i := 41) rfl⟩
set_option maxRecDepth 4000 in
theorem k_H_clear : jc_kV y_H_clear 0 := ⟨⟨jt4 (i := 46) rfl, jt1 (i := 4) rfl, ⟨by decide +kernel, by decide +kernel⟩, by decide +kernel⟩, jt4 (i := 44) rfl, jt4 (i := 45) rfl⟩
set_option maxRecDepth 4000 in
theorem k_m_reset : jc_kV y_m_reset 0 := ⟨⟨jt6 (i := 19) rfl, jt1 (i := 6) rfl, ⟨by decide +kernel, by decide +kernel⟩, by decide +kernel⟩, jt6 (i := 17) rfl, jt6 (i := 18) rfl⟩
set_option maxRecDepth 4000 in
theorem k_aL_clear : jc_kV y_aL_clear 0 := ⟨⟨jt6 (i := 23) rfl, jt1 (i := 9) rfl, ⟨by decide +kernel, by decide +kernel⟩, by decide +kernel⟩, jt6 (i := 21) rfl, jt6 (i := 22) rfl⟩
