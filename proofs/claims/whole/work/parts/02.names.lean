/-! NAMES, by program (wip/whole/names.py): the good words of the tables, by their places; methods; fields -/
def zT : List Cond := lw_tbl.filter goodWord
theorem zT_in {w : Cond} (h : w ∈ lw_tbl) (g : goodWord w = true) : w ∈ zT := List.mem_filter.mpr ⟨h, g⟩
theorem zT_good {w : Cond} (h : w ∈ zT) : (w.onTables && w.keeps) = true ∨ ∃ ty, w = .arrayClass ty := good_of_word (List.mem_filter.mp h).2
theorem zT_hts {args : Array Value} {s : State} (h : ∀ w ∈ lw_tbl, w.before args s = true) : ∀ w ∈ zT, w.before args s = true := fun w hw => h w (List.mem_filter.mp hw).1
def yK_init : MethodName := ⟨"PolynomialDesk", "<init>", "()V"⟩
abbrev bK_init : ByteArray := prog_1_method_1_code
def yR_init : MethodName := ⟨"PolynomialDesk$Ring", "<init>", "()V"⟩
abbrev bR_init : ByteArray := prog_4_method_1_code
def yR_prepare : MethodName := ⟨"PolynomialDesk$Ring", "prepare", "(III)V"⟩
abbrev bR_prepare : ByteArray := prog_4_method_2_code
def yJ_fill : MethodName := ⟨"java/util/Arrays", "fill", "([II)V"⟩
abbrev bJ_fill : ByteArray := prog_17_method_103_code
def yR_listMonomials : MethodName := ⟨"PolynomialDesk$Ring", "listMonomials", "(III)V"⟩
abbrev bR_listMonomials : ByteArray := prog_4_method_3_code
def yR_recordMonomial : MethodName := ⟨"PolynomialDesk$Ring", "recordMonomial", "(I)V"⟩
abbrev bR_recordMonomial : ByteArray := prog_4_method_4_code
def yE_init : MethodName := ⟨"PolynomialDesk$Reader", "<init>", "(LPolynomialDesk$Ring;)V"⟩
abbrev bE_init : ByteArray := prog_3_method_1_code
def yP_init : MethodName := ⟨"PolynomialDesk$Printer", "<init>", "(LPolynomialDesk$Ring;)V"⟩
abbrev bP_init : ByteArray := prog_2_method_1_code
def yK_put : MethodName := ⟨"PolynomialDesk", "put", "(JI)Z"⟩
abbrev bK_put : ByteArray := prog_1_method_3_code
def yE_takeBytes : MethodName := ⟨"PolynomialDesk$Reader", "takeBytes", "(JI)Z"⟩
abbrev bE_takeBytes : ByteArray := prog_3_method_2_code
def yK_fault : MethodName := ⟨"PolynomialDesk", "fault", "(I)I"⟩
abbrev bK_fault : ByteArray := prog_1_method_5_code
def yE_latestFault : MethodName := ⟨"PolynomialDesk$Reader", "latestFault", "()I"⟩
abbrev bE_latestFault : ByteArray := prog_3_method_3_code
def yE_latestPlace : MethodName := ⟨"PolynomialDesk$Reader", "latestPlace", "()I"⟩
abbrev bE_latestPlace : ByteArray := prog_3_method_4_code
def yK_about : MethodName := ⟨"PolynomialDesk", "about", "(II)I"⟩
abbrev bK_about : ByteArray := prog_1_method_11_code
def yK_isPolynomial : MethodName := ⟨"PolynomialDesk", "isPolynomial", "(I)Z"⟩
abbrev bK_isPolynomial : ByteArray := prog_1_method_15_code
def yR_countTerms : MethodName := ⟨"PolynomialDesk$Ring", "countTerms", "([I)I"⟩
abbrev bR_countTerms : ByteArray := prog_4_method_7_code
def yR_degreeOf : MethodName := ⟨"PolynomialDesk$Ring", "degreeOf", "([I)I"⟩
abbrev bR_degreeOf : ByteArray := prog_4_method_9_code
def yR_leadingOf : MethodName := ⟨"PolynomialDesk$Ring", "leadingOf", "([I)I"⟩
abbrev bR_leadingOf : ByteArray := prog_4_method_23_code
def yK_term : MethodName := ⟨"PolynomialDesk", "term", "(III)I"⟩
abbrev bK_term : ByteArray := prog_1_method_12_code
def yR_indexOfTerm : MethodName := ⟨"PolynomialDesk$Ring", "indexOfTerm", "([II)I"⟩
abbrev bR_indexOfTerm : ByteArray := prog_4_method_8_code
def yR_exponentOf : MethodName := ⟨"PolynomialDesk$Ring", "exponentOf", "(II)I"⟩
abbrev bR_exponentOf : ByteArray := prog_4_method_6_code
def yK_output : MethodName := ⟨"PolynomialDesk", "output", "(I)I"⟩
abbrev bK_output : ByteArray := prog_1_method_14_code
def yP_byteAt : MethodName := ⟨"PolynomialDesk$Printer", "byteAt", "(I)I"⟩
abbrev bP_byteAt : ByteArray := prog_2_method_3_code
def yL_field : MethodName := ⟨"PolynomialDeskLaw", "field", "(LPolynomialDesk;III)I"⟩
abbrev bL_field : ByteArray := method_3_code
def yK_field : MethodName := ⟨"PolynomialDesk", "field", "(III)V"⟩
abbrev bK_field : ByteArray := prog_1_method_2_code
def yK_isPrime : MethodName := ⟨"PolynomialDesk", "isPrime", "(I)Z"⟩
abbrev bK_isPrime : ByteArray := prog_1_method_18_code
def yP_clear : MethodName := ⟨"PolynomialDesk$Printer", "clear", "()V"⟩
abbrev bP_clear : ByteArray := prog_2_method_2_code
def yL_read : MethodName := ⟨"PolynomialDeskLaw", "read", "(LPolynomialDesk;I[J)I"⟩
abbrev bL_read : ByteArray := method_4_code
def yK_read : MethodName := ⟨"PolynomialDesk", "read", "(I)I"⟩
abbrev bK_read : ByteArray := prog_1_method_4_code
def yK_requirePolynomial : MethodName := ⟨"PolynomialDesk", "requirePolynomial", "(I)V"⟩
abbrev bK_requirePolynomial : ByteArray := prog_1_method_16_code
def yE_readText : MethodName := ⟨"PolynomialDesk$Reader", "readText", "([I)Z"⟩
abbrev bE_readText : ByteArray := prog_3_method_5_code
def yE_readSum : MethodName := ⟨"PolynomialDesk$Reader", "readSum", "(I)V"⟩
abbrev bE_readSum : ByteArray := prog_3_method_6_code
def yE_nextByte : MethodName := ⟨"PolynomialDesk$Reader", "nextByte", "()I"⟩
abbrev bE_nextByte : ByteArray := prog_3_method_12_code
def yE_readTerm : MethodName := ⟨"PolynomialDesk$Reader", "readTerm", "(I)V"⟩
abbrev bE_readTerm : ByteArray := prog_3_method_7_code
def yE_readFactor : MethodName := ⟨"PolynomialDesk$Reader", "readFactor", "(I)V"⟩
abbrev bE_readFactor : ByteArray := prog_3_method_8_code
def yE_readBareFactor : MethodName := ⟨"PolynomialDesk$Reader", "readBareFactor", "(I)V"⟩
abbrev bE_readBareFactor : ByteArray := prog_3_method_9_code
def yE_variableOf : MethodName := ⟨"PolynomialDesk$Reader", "variableOf", "(I)I"⟩
abbrev bE_variableOf : ByteArray := prog_3_method_16_code
def yE_isDigit : MethodName := ⟨"PolynomialDesk$Reader", "isDigit", "(I)Z"⟩
abbrev bE_isDigit : ByteArray := prog_3_method_15_code
def yE_readNumber : MethodName := ⟨"PolynomialDesk$Reader", "readNumber", "(I)I"⟩
abbrev bE_readNumber : ByteArray := prog_3_method_11_code
def yE_noteFault : MethodName := ⟨"PolynomialDesk$Reader", "noteFault", "(II)V"⟩
abbrev bE_noteFault : ByteArray := prog_3_method_13_code
def yR_writeNumber : MethodName := ⟨"PolynomialDesk$Ring", "writeNumber", "(I[I)V"⟩
abbrev bR_writeNumber : ByteArray := prog_4_method_12_code
def yR_reduce : MethodName := ⟨"PolynomialDesk$Ring", "reduce", "(I)I"⟩
abbrev bR_reduce : ByteArray := prog_4_method_24_code
def yR_addAt : MethodName := ⟨"PolynomialDesk$Ring", "addAt", "(II[I)V"⟩
abbrev bR_addAt : ByteArray := prog_4_method_22_code
def yR_variables : MethodName := ⟨"PolynomialDesk$Ring", "variables", "()I"⟩
abbrev bR_variables : ByteArray := prog_4_method_5_code
def yR_writeVariable : MethodName := ⟨"PolynomialDesk$Ring", "writeVariable", "(I[I)V"⟩
abbrev bR_writeVariable : ByteArray := prog_4_method_13_code
def yE_readGroup : MethodName := ⟨"PolynomialDesk$Reader", "readGroup", "(I)V"⟩
abbrev bE_readGroup : ByteArray := prog_3_method_10_code
def yR_writeCopy : MethodName := ⟨"PolynomialDesk$Ring", "writeCopy", "([I[I)V"⟩
abbrev bR_writeCopy : ByteArray := prog_4_method_14_code
def yR_isPowerTooHigh : MethodName := ⟨"PolynomialDesk$Ring", "isPowerTooHigh", "([II)Z"⟩
abbrev bR_isPowerTooHigh : ByteArray := prog_4_method_11_code
def yR_writePower : MethodName := ⟨"PolynomialDesk$Ring", "writePower", "([II[I)V"⟩
abbrev bR_writePower : ByteArray := prog_4_method_17_code
def yR_writeProduct : MethodName := ⟨"PolynomialDesk$Ring", "writeProduct", "([I[I[I)V"⟩
abbrev bR_writeProduct : ByteArray := prog_4_method_16_code
def yR_isProductTooHigh : MethodName := ⟨"PolynomialDesk$Ring", "isProductTooHigh", "([I[I)Z"⟩
abbrev bR_isProductTooHigh : ByteArray := prog_4_method_10_code
def yR_writeSum : MethodName := ⟨"PolynomialDesk$Ring", "writeSum", "([II[I[I)V"⟩
abbrev bR_writeSum : ByteArray := prog_4_method_15_code
def yE_isSign : MethodName := ⟨"PolynomialDesk$Reader", "isSign", "(I)Z"⟩
abbrev bE_isSign : ByteArray := prog_3_method_14_code
def yL_add : MethodName := ⟨"PolynomialDeskLaw", "add", "(LPolynomialDesk;IIII)I"⟩
abbrev bL_add : ByteArray := method_5_code
def yK_add : MethodName := ⟨"PolynomialDesk", "add", "(IIII)V"⟩
abbrev bK_add : ByteArray := prog_1_method_6_code
def yL_multiply : MethodName := ⟨"PolynomialDeskLaw", "multiply", "(LPolynomialDesk;III)I"⟩
abbrev bL_multiply : ByteArray := method_6_code
def yK_multiply : MethodName := ⟨"PolynomialDesk", "multiply", "(III)V"⟩
abbrev bK_multiply : ByteArray := prog_1_method_7_code
def yL_derive : MethodName := ⟨"PolynomialDeskLaw", "derive", "(LPolynomialDesk;III)I"⟩
abbrev bL_derive : ByteArray := method_7_code
def yK_derive : MethodName := ⟨"PolynomialDesk", "derive", "(III)V"⟩
abbrev bK_derive : ByteArray := prog_1_method_8_code
def yK_requireVariable : MethodName := ⟨"PolynomialDesk", "requireVariable", "(I)V"⟩
abbrev bK_requireVariable : ByteArray := prog_1_method_17_code
def yR_writeDerivative : MethodName := ⟨"PolynomialDesk$Ring", "writeDerivative", "([II[I)V"⟩
abbrev bR_writeDerivative : ByteArray := prog_4_method_18_code
def yL_set : MethodName := ⟨"PolynomialDeskLaw", "set", "(LPolynomialDesk;IIII)I"⟩
abbrev bL_set : ByteArray := method_8_code
def yK_set : MethodName := ⟨"PolynomialDesk", "set", "(IIII)V"⟩
abbrev bK_set : ByteArray := prog_1_method_9_code
def yR_writeSubstitute : MethodName := ⟨"PolynomialDesk$Ring", "writeSubstitute", "([III[I)V"⟩
abbrev bR_writeSubstitute : ByteArray := prog_4_method_19_code
def yR_timesPower : MethodName := ⟨"PolynomialDesk$Ring", "timesPower", "(III)I"⟩
abbrev bR_timesPower : ByteArray := prog_4_method_21_code
def yL_value : MethodName := ⟨"PolynomialDeskLaw", "value", "(LPolynomialDesk;IIIII[J)I"⟩
abbrev bL_value : ByteArray := method_9_code
def yK_value : MethodName := ⟨"PolynomialDesk", "value", "(IIIII)I"⟩
abbrev bK_value : ByteArray := prog_1_method_10_code
def yR_evaluate : MethodName := ⟨"PolynomialDesk$Ring", "evaluate", "([I[I)I"⟩
abbrev bR_evaluate : ByteArray := prog_4_method_20_code
def yL_print : MethodName := ⟨"PolynomialDeskLaw", "print", "(LPolynomialDesk;I[J)I"⟩
abbrev bL_print : ByteArray := method_10_code
def yK_print : MethodName := ⟨"PolynomialDesk", "print", "(I)I"⟩
abbrev bK_print : ByteArray := prog_1_method_13_code
def yP_writePolynomial : MethodName := ⟨"PolynomialDesk$Printer", "writePolynomial", "([I)I"⟩
abbrev bP_writePolynomial : ByteArray := prog_2_method_4_code
def yP_writeByte : MethodName := ⟨"PolynomialDesk$Printer", "writeByte", "(C)V"⟩
abbrev bP_writeByte : ByteArray := prog_2_method_7_code
def yP_writeTerm : MethodName := ⟨"PolynomialDesk$Printer", "writeTerm", "(II)V"⟩
abbrev bP_writeTerm : ByteArray := prog_2_method_5_code
def yP_writeNumber : MethodName := ⟨"PolynomialDesk$Printer", "writeNumber", "(I)V"⟩
abbrev bP_writeNumber : ByteArray := prog_2_method_6_code
def yM_init : MethodName := ⟨"PolynomialDeskModel", "<init>", "()V"⟩
abbrev bM_init : ByteArray := prog_6_method_1_code
def yM_prepare : MethodName := ⟨"PolynomialDeskModel", "prepare", "(III)V"⟩
abbrev bM_prepare : ByteArray := prog_6_method_4_code
def yM_list : MethodName := ⟨"PolynomialDeskModel", "list", "(I)V"⟩
abbrev bM_list : ByteArray := prog_6_method_5_code
def yM_isGreater : MethodName := ⟨"PolynomialDeskModel", "isGreater", "(II)Z"⟩
abbrev bM_isGreater : ByteArray := prog_6_method_6_code
def yM_thrown : MethodName := ⟨"PolynomialDeskModel", "thrown", "()I"⟩
abbrev bM_thrown : ByteArray := prog_6_method_2_code
def yM_field : MethodName := ⟨"PolynomialDeskModel", "field", "(III)V"⟩
abbrev bM_field : ByteArray := prog_6_method_7_code
def yM_isPrime : MethodName := ⟨"PolynomialDeskModel", "isPrime", "(I)Z"⟩
abbrev bM_isPrime : ByteArray := prog_6_method_3_code
def yM_put : MethodName := ⟨"PolynomialDeskModel", "put", "(JI)Z"⟩
abbrev bM_put : ByteArray := prog_6_method_18_code
def yM_read : MethodName := ⟨"PolynomialDeskModel", "read", "(I)I"⟩
abbrev bM_read : ByteArray := prog_6_method_31_code
def yM_isPolynomial : MethodName := ⟨"PolynomialDeskModel", "isPolynomial", "(I)Z"⟩
abbrev bM_isPolynomial : ByteArray := prog_6_method_33_code
def yM_begin : MethodName := ⟨"PolynomialDeskModel", "begin", "()V"⟩
abbrev bM_begin : ByteArray := prog_6_method_27_code
def yM_sum : MethodName := ⟨"PolynomialDeskModel", "sum", "()I"⟩
abbrev bM_sum : ByteArray := prog_6_method_19_code
def yM_clear : MethodName := ⟨"PolynomialDeskModel", "clear", "(I)V"⟩
abbrev bM_clear : ByteArray := prog_6_method_11_code
def yM_lay : MethodName := ⟨"PolynomialDeskModel", "lay", "(III)V"⟩
abbrev bM_lay : ByteArray := prog_6_method_10_code
def yM_here : MethodName := ⟨"PolynomialDeskModel", "here", "()I"⟩
abbrev bM_here : ByteArray := prog_6_method_22_code
def yM_readFactor : MethodName := ⟨"PolynomialDeskModel", "readFactor", "(I)V"⟩
abbrev bM_readFactor : ByteArray := prog_6_method_28_code
def yM_fail : MethodName := ⟨"PolynomialDeskModel", "fail", "(II)V"⟩
abbrev bM_fail : ByteArray := prog_6_method_23_code
def yM_variable : MethodName := ⟨"PolynomialDeskModel", "variable", "(I)I"⟩
abbrev bM_variable : ByteArray := prog_6_method_26_code
def yM_isDigit : MethodName := ⟨"PolynomialDeskModel", "isDigit", "(I)Z"⟩
abbrev bM_isDigit : ByteArray := prog_6_method_24_code
def yM_factor : MethodName := ⟨"PolynomialDeskModel", "factor", "()I"⟩
abbrev bM_factor : ByteArray := prog_6_method_21_code
def yM_number : MethodName := ⟨"PolynomialDeskModel", "number", "(I)J"⟩
abbrev bM_number : ByteArray := prog_6_method_25_code
def yM_modulo : MethodName := ⟨"PolynomialDeskModel", "modulo", "(J)I"⟩
abbrev bM_modulo : ByteArray := prog_6_method_8_code
def yM_readPower : MethodName := ⟨"PolynomialDeskModel", "readPower", "(I)V"⟩
abbrev bM_readPower : ByteArray := prog_6_method_29_code
def yM_degreeOf : MethodName := ⟨"PolynomialDeskModel", "degreeOf", "(I)I"⟩
abbrev bM_degreeOf : ByteArray := prog_6_method_13_code
def yM_cell : MethodName := ⟨"PolynomialDeskModel", "cell", "(II)I"⟩
abbrev bM_cell : ByteArray := prog_6_method_9_code
def yM_times : MethodName := ⟨"PolynomialDeskModel", "times", "(III)V"⟩
abbrev bM_times : ByteArray := prog_6_method_17_code
def yM_copy : MethodName := ⟨"PolynomialDeskModel", "copy", "(II)V"⟩
abbrev bM_copy : ByteArray := prog_6_method_12_code
def yM_goOn : MethodName := ⟨"PolynomialDeskModel", "goOn", "(I)V"⟩
abbrev bM_goOn : ByteArray := prog_6_method_30_code
def yM_product : MethodName := ⟨"PolynomialDeskModel", "product", "()I"⟩
abbrev bM_product : ByteArray := prog_6_method_20_code
def yM_isTooHigh : MethodName := ⟨"PolynomialDeskModel", "isTooHigh", "(II)Z"⟩
abbrev bM_isTooHigh : ByteArray := prog_6_method_16_code
def yM_addTo : MethodName := ⟨"PolynomialDeskModel", "addTo", "(III)V"⟩
abbrev bM_addTo : ByteArray := prog_6_method_15_code
def yM_terms : MethodName := ⟨"PolynomialDeskModel", "terms", "(I)I"⟩
abbrev bM_terms : ByteArray := prog_6_method_14_code
def yM_fault : MethodName := ⟨"PolynomialDeskModel", "fault", "(I)I"⟩
abbrev bM_fault : ByteArray := prog_6_method_32_code
def yM_add : MethodName := ⟨"PolynomialDeskModel", "add", "(IIII)V"⟩
abbrev bM_add : ByteArray := prog_6_method_35_code
def yM_lacks : MethodName := ⟨"PolynomialDeskModel", "lacks", "(IIZ)Z"⟩
abbrev bM_lacks : ByteArray := prog_6_method_34_code
def yM_multiply : MethodName := ⟨"PolynomialDeskModel", "multiply", "(III)V"⟩
abbrev bM_multiply : ByteArray := prog_6_method_36_code
def yM_derive : MethodName := ⟨"PolynomialDeskModel", "derive", "(III)V"⟩
abbrev bM_derive : ByteArray := prog_6_method_37_code
def yM_set : MethodName := ⟨"PolynomialDeskModel", "set", "(IIII)V"⟩
abbrev bM_set : ByteArray := prog_6_method_39_code
def yM_power : MethodName := ⟨"PolynomialDeskModel", "power", "(II)I"⟩
abbrev bM_power : ByteArray := prog_6_method_38_code
def yM_value : MethodName := ⟨"PolynomialDeskModel", "value", "(IIIII)I"⟩
abbrev bM_value : ByteArray := prog_6_method_40_code
def yM_about : MethodName := ⟨"PolynomialDeskModel", "about", "(II)I"⟩
abbrev bM_about : ByteArray := prog_6_method_41_code
def yM_term : MethodName := ⟨"PolynomialDeskModel", "term", "(III)I"⟩
abbrev bM_term : ByteArray := prog_6_method_43_code
def yM_placeOf : MethodName := ⟨"PolynomialDeskModel", "placeOf", "(II)I"⟩
abbrev bM_placeOf : ByteArray := prog_6_method_42_code
def yM_print : MethodName := ⟨"PolynomialDeskModel", "print", "(I)I"⟩
abbrev bM_print : ByteArray := prog_6_method_47_code
def yM_say : MethodName := ⟨"PolynomialDeskModel", "say", "(I)V"⟩
abbrev bM_say : ByteArray := prog_6_method_44_code
def yM_sayTerm : MethodName := ⟨"PolynomialDeskModel", "sayTerm", "(II)V"⟩
abbrev bM_sayTerm : ByteArray := prog_6_method_46_code
def yM_sayNumber : MethodName := ⟨"PolynomialDeskModel", "sayNumber", "(I)V"⟩
abbrev bM_sayNumber : ByteArray := prog_6_method_45_code
def yM_output : MethodName := ⟨"PolynomialDeskModel", "output", "(I)I"⟩
abbrev bM_output : ByteArray := prog_6_method_48_code
abbrev bL_law : ByteArray := code
abbrev kK_init : Cond := .code yK_init bK_init 1 none
theorem mk_K_init : kK_init ∈ zT := zT_in (List.mem_append_right _ (List.mem_append_left _ (List.mem_of_getElem? (l := tables_1_1) (i := 22) rfl))) rfl
abbrev wK_init : List Cond := kK_init :: zT
abbrev kR_init : Cond := .code yR_init bR_init 1 none
theorem mk_R_init : kR_init ∈ zT := zT_in (List.mem_append_right _ (List.mem_append_left _ (List.mem_of_getElem? (l := tables_1_1) (i := 30) rfl))) rfl
abbrev wR_init : List Cond := kR_init :: zT
abbrev kR_prepare : Cond := .code yR_prepare bR_prepare 6 none
theorem mk_R_prepare : kR_prepare ∈ zT := zT_in (List.mem_append_right _ (List.mem_append_left _ (List.mem_of_getElem? (l := tables_1_1) (i := 78) rfl))) rfl
abbrev wR_prepare : List Cond := kR_prepare :: zT
abbrev kJ_fill : Cond := .code yJ_fill bJ_fill 4 none
theorem mk_J_fill : kJ_fill ∈ zT := zT_in (List.mem_append_right _ (List.mem_append_left _ (List.mem_of_getElem? (l := tables_1_1) (i := 83) rfl))) rfl
abbrev wJ_fill : List Cond := kJ_fill :: zT
abbrev kR_listMonomials : Cond := .code yR_listMonomials bR_listMonomials 7 none
theorem mk_R_listMonomials : kR_listMonomials ∈ zT := zT_in (List.mem_append_right _ (List.mem_append_left _ (List.mem_of_getElem? (l := tables_1_1) (i := 87) rfl))) rfl
abbrev wR_listMonomials : List Cond := kR_listMonomials :: zT
abbrev kR_recordMonomial : Cond := .code yR_recordMonomial bR_recordMonomial 4 none
theorem mk_R_recordMonomial : kR_recordMonomial ∈ zT := zT_in (List.mem_append_right _ (List.mem_append_left _ (List.mem_of_getElem? (l := tables_1_1) (i := 91) rfl))) rfl
abbrev wR_recordMonomial : List Cond := kR_recordMonomial :: zT
abbrev kE_init : Cond := .code yE_init bE_init 2 none
theorem mk_E_init : kE_init ∈ zT := zT_in (List.mem_append_right _ (List.mem_append_left _ (List.mem_of_getElem? (l := tables_1_1) (i := 96) rfl))) rfl
abbrev wE_init : List Cond := kE_init :: zT
abbrev kP_init : Cond := .code yP_init bP_init 2 none
theorem mk_P_init : kP_init ∈ zT := zT_in (List.mem_append_right _ (List.mem_append_left _ (List.mem_of_getElem? (l := tables_1_1) (i := 132) rfl))) rfl
abbrev wP_init : List Cond := kP_init :: zT
abbrev kK_put : Cond := .code yK_put bK_put 4 (some .boolean)
theorem mk_K_put : kK_put ∈ zT := zT_in (List.mem_append_right _ (List.mem_append_left _ (List.mem_of_getElem? (l := tables_1_1) (i := 164) rfl))) rfl
abbrev wK_put : List Cond := kK_put :: zT
abbrev kE_takeBytes : Cond := .code yE_takeBytes bE_takeBytes 5 (some .boolean)
theorem mk_E_takeBytes : kE_takeBytes ∈ zT := zT_in (List.mem_append_right _ (List.mem_append_left _ (List.mem_of_getElem? (l := tables_1_1) (i := 168) rfl))) rfl
abbrev wE_takeBytes : List Cond := kE_takeBytes :: zT
abbrev kK_fault : Cond := .code yK_fault bK_fault 2 (some .int)
theorem mk_K_fault : kK_fault ∈ zT := zT_in (List.mem_append_right _ (List.mem_append_left _ (List.mem_of_getElem? (l := tables_1_1) (i := 173) rfl))) rfl
abbrev wK_fault : List Cond := kK_fault :: zT
abbrev kE_latestFault : Cond := .code yE_latestFault bE_latestFault 1 (some .int)
theorem mk_E_latestFault : kE_latestFault ∈ zT := zT_in (List.mem_append_right _ (List.mem_append_left _ (List.mem_of_getElem? (l := tables_1_1) (i := 177) rfl))) rfl
abbrev wE_latestFault : List Cond := kE_latestFault :: zT
abbrev kE_latestPlace : Cond := .code yE_latestPlace bE_latestPlace 1 (some .int)
theorem mk_E_latestPlace : kE_latestPlace ∈ zT := zT_in (List.mem_append_right _ (List.mem_append_left _ (List.mem_of_getElem? (l := tables_1_1) (i := 181) rfl))) rfl
abbrev wE_latestPlace : List Cond := kE_latestPlace :: zT
abbrev kK_about : Cond := .code yK_about bK_about 3 (some .int)
theorem mk_K_about : kK_about ∈ zT := zT_in (List.mem_append_right _ (List.mem_append_left _ (List.mem_of_getElem? (l := tables_1_1) (i := 185) rfl))) rfl
abbrev wK_about : List Cond := kK_about :: zT
abbrev kK_isPolynomial : Cond := .code yK_isPolynomial bK_isPolynomial 1 (some .boolean)
theorem mk_K_isPolynomial : kK_isPolynomial ∈ zT := zT_in (List.mem_append_right _ (List.mem_append_left _ (List.mem_of_getElem? (l := tables_1_1) (i := 188) rfl))) rfl
abbrev wK_isPolynomial : List Cond := kK_isPolynomial :: zT
abbrev kR_countTerms : Cond := .code yR_countTerms bR_countTerms 4 (some .int)
theorem mk_R_countTerms : kR_countTerms ∈ zT := zT_in (List.mem_append_right _ (List.mem_append_left _ (List.mem_of_getElem? (l := tables_1_1) (i := 192) rfl))) rfl
abbrev wR_countTerms : List Cond := kR_countTerms :: zT
abbrev kR_degreeOf : Cond := .code yR_degreeOf bR_degreeOf 3 (some .int)
theorem mk_R_degreeOf : kR_degreeOf ∈ zT := zT_in (List.mem_append_right _ (List.mem_append_left _ (List.mem_of_getElem? (l := tables_1_1) (i := 196) rfl))) rfl
abbrev wR_degreeOf : List Cond := kR_degreeOf :: zT
abbrev kR_leadingOf : Cond := .code yR_leadingOf bR_leadingOf 3 (some .int)
theorem mk_R_leadingOf : kR_leadingOf ∈ zT := zT_in (List.mem_append_right _ (List.mem_append_left _ (List.mem_of_getElem? (l := tables_1_1) (i := 200) rfl))) rfl
abbrev wR_leadingOf : List Cond := kR_leadingOf :: zT
abbrev kK_term : Cond := .code yK_term bK_term 5 (some .int)
theorem mk_K_term : kK_term ∈ zT := zT_in (List.mem_append_right _ (List.mem_append_left _ (List.mem_of_getElem? (l := tables_1_1) (i := 204) rfl))) rfl
abbrev wK_term : List Cond := kK_term :: zT
abbrev kR_indexOfTerm : Cond := .code yR_indexOfTerm bR_indexOfTerm 5 (some .int)
theorem mk_R_indexOfTerm : kR_indexOfTerm ∈ zT := zT_in (List.mem_append_right _ (List.mem_append_left _ (List.mem_of_getElem? (l := tables_1_1) (i := 208) rfl))) rfl
abbrev wR_indexOfTerm : List Cond := kR_indexOfTerm :: zT
abbrev kR_exponentOf : Cond := .code yR_exponentOf bR_exponentOf 3 (some .int)
theorem mk_R_exponentOf : kR_exponentOf ∈ zT := zT_in (List.mem_append_right _ (List.mem_append_left _ (List.mem_of_getElem? (l := tables_1_1) (i := 212) rfl))) rfl
abbrev wR_exponentOf : List Cond := kR_exponentOf :: zT
abbrev kK_output : Cond := .code yK_output bK_output 2 (some .int)
theorem mk_K_output : kK_output ∈ zT := zT_in (List.mem_append_right _ (List.mem_append_left _ (List.mem_of_getElem? (l := tables_1_1) (i := 216) rfl))) rfl
abbrev wK_output : List Cond := kK_output :: zT
abbrev kP_byteAt : Cond := .code yP_byteAt bP_byteAt 2 (some .int)
theorem mk_P_byteAt : kP_byteAt ∈ zT := zT_in (List.mem_append_right _ (List.mem_append_left _ (List.mem_of_getElem? (l := tables_1_1) (i := 220) rfl))) rfl
abbrev wP_byteAt : List Cond := kP_byteAt :: zT
abbrev kL_field : Cond := .codeWith yL_field bL_field 5 (some .int) [(0, 7, 10, 13)]
abbrev kK_field : Cond := .code yK_field bK_field 5 none
theorem mk_K_field : kK_field ∈ zT := zT_in (List.mem_append_right _ (List.mem_append_left _ (List.mem_of_getElem? (l := tables_1_1) (i := 228) rfl))) rfl
abbrev wK_field : List Cond := kK_field :: zT
abbrev kK_isPrime : Cond := .code yK_isPrime bK_isPrime 2 (some .boolean)
theorem mk_K_isPrime : kK_isPrime ∈ zT := zT_in (List.mem_append_right _ (List.mem_append_left _ (List.mem_of_getElem? (l := tables_1_1) (i := 231) rfl))) rfl
abbrev wK_isPrime : List Cond := kK_isPrime :: zT
abbrev kP_clear : Cond := .code yP_clear bP_clear 1 none
theorem mk_P_clear : kP_clear ∈ zT := zT_in (List.mem_append_right _ (List.mem_append_right _ (List.mem_append_left _ (List.mem_of_getElem? (l := tables_1_2) (i := 66) rfl)))) rfl
abbrev wP_clear : List Cond := kP_clear :: zT
abbrev kL_read : Cond := .codeWith yL_read bL_read 4 (some .int) [(0, 9, 12, 19), (0, 9, 15, 13)]
abbrev kK_read : Cond := .code yK_read bK_read 2 (some .int)
theorem mk_K_read : kK_read ∈ zT := zT_in (List.mem_append_right _ (List.mem_append_right _ (List.mem_append_left _ (List.mem_of_getElem? (l := tables_1_2) (i := 74) rfl)))) rfl
abbrev wK_read : List Cond := kK_read :: zT
abbrev kK_requirePolynomial : Cond := .code yK_requirePolynomial bK_requirePolynomial 1 none
theorem mk_K_requirePolynomial : kK_requirePolynomial ∈ zT := zT_in (List.mem_append_right _ (List.mem_append_right _ (List.mem_append_left _ (List.mem_of_getElem? (l := tables_1_2) (i := 77) rfl)))) rfl
abbrev wK_requirePolynomial : List Cond := kK_requirePolynomial :: zT
abbrev kE_readText : Cond := .code yE_readText bE_readText 2 (some .boolean)
theorem mk_E_readText : kE_readText ∈ zT := zT_in (List.mem_append_right _ (List.mem_append_right _ (List.mem_append_left _ (List.mem_of_getElem? (l := tables_1_2) (i := 97) rfl)))) rfl
abbrev wE_readText : List Cond := kE_readText :: zT
abbrev kE_readSum : Cond := .code yE_readSum bE_readSum 5 none
theorem mk_E_readSum : kE_readSum ∈ zT := zT_in (List.mem_append_right _ (List.mem_append_right _ (List.mem_append_left _ (List.mem_of_getElem? (l := tables_1_2) (i := 101) rfl)))) rfl
abbrev wE_readSum : List Cond := kE_readSum :: zT
abbrev kE_nextByte : Cond := .code yE_nextByte bE_nextByte 1 (some .int)
theorem mk_E_nextByte : kE_nextByte ∈ zT := zT_in (List.mem_append_right _ (List.mem_append_right _ (List.mem_append_left _ (List.mem_of_getElem? (l := tables_1_2) (i := 106) rfl)))) rfl
abbrev wE_nextByte : List Cond := kE_nextByte :: zT
abbrev kE_readTerm : Cond := .code yE_readTerm bE_readTerm 5 none
theorem mk_E_readTerm : kE_readTerm ∈ zT := zT_in (List.mem_append_right _ (List.mem_append_right _ (List.mem_append_left _ (List.mem_of_getElem? (l := tables_1_2) (i := 110) rfl)))) rfl
abbrev wE_readTerm : List Cond := kE_readTerm :: zT
abbrev kE_readFactor : Cond := .code yE_readFactor bE_readFactor 4 none
theorem mk_E_readFactor : kE_readFactor ∈ zT := zT_in (List.mem_append_right _ (List.mem_append_right _ (List.mem_append_left _ (List.mem_of_getElem? (l := tables_1_2) (i := 114) rfl)))) rfl
abbrev wE_readFactor : List Cond := kE_readFactor :: zT
abbrev kE_readBareFactor : Cond := .code yE_readBareFactor bE_readBareFactor 4 none
theorem mk_E_readBareFactor : kE_readBareFactor ∈ zT := zT_in (List.mem_append_right _ (List.mem_append_right _ (List.mem_append_left _ (List.mem_of_getElem? (l := tables_1_2) (i := 118) rfl)))) rfl
abbrev wE_readBareFactor : List Cond := kE_readBareFactor :: zT
abbrev kE_variableOf : Cond := .code yE_variableOf bE_variableOf 1 (some .int)
theorem mk_E_variableOf : kE_variableOf ∈ zT := zT_in (List.mem_append_right _ (List.mem_append_right _ (List.mem_append_left _ (List.mem_of_getElem? (l := tables_1_2) (i := 121) rfl)))) rfl
abbrev wE_variableOf : List Cond := kE_variableOf :: zT
abbrev kE_isDigit : Cond := .code yE_isDigit bE_isDigit 1 (some .boolean)
theorem mk_E_isDigit : kE_isDigit ∈ zT := zT_in (List.mem_append_right _ (List.mem_append_right _ (List.mem_append_left _ (List.mem_of_getElem? (l := tables_1_2) (i := 124) rfl)))) rfl
abbrev wE_isDigit : List Cond := kE_isDigit :: zT
abbrev kE_readNumber : Cond := .code yE_readNumber bE_readNumber 4 (some .int)
theorem mk_E_readNumber : kE_readNumber ∈ zT := zT_in (List.mem_append_right _ (List.mem_append_right _ (List.mem_append_left _ (List.mem_of_getElem? (l := tables_1_2) (i := 128) rfl)))) rfl
abbrev wE_readNumber : List Cond := kE_readNumber :: zT
abbrev kE_noteFault : Cond := .code yE_noteFault bE_noteFault 3 none
theorem mk_E_noteFault : kE_noteFault ∈ zT := zT_in (List.mem_append_right _ (List.mem_append_right _ (List.mem_append_left _ (List.mem_of_getElem? (l := tables_1_2) (i := 132) rfl)))) rfl
abbrev wE_noteFault : List Cond := kE_noteFault :: zT
abbrev kR_writeNumber : Cond := .code yR_writeNumber bR_writeNumber 3 none
theorem mk_R_writeNumber : kR_writeNumber ∈ zT := zT_in (List.mem_append_right _ (List.mem_append_right _ (List.mem_append_left _ (List.mem_of_getElem? (l := tables_1_2) (i := 136) rfl)))) rfl
abbrev wR_writeNumber : List Cond := kR_writeNumber :: zT
abbrev kR_reduce : Cond := .code yR_reduce bR_reduce 3 (some .int)
theorem mk_R_reduce : kR_reduce ∈ zT := zT_in (List.mem_append_right _ (List.mem_append_right _ (List.mem_append_left _ (List.mem_of_getElem? (l := tables_1_2) (i := 140) rfl)))) rfl
abbrev wR_reduce : List Cond := kR_reduce :: zT
abbrev kR_addAt : Cond := .code yR_addAt bR_addAt 5 none
theorem mk_R_addAt : kR_addAt ∈ zT := zT_in (List.mem_append_right _ (List.mem_append_right _ (List.mem_append_left _ (List.mem_of_getElem? (l := tables_1_2) (i := 144) rfl)))) rfl
abbrev wR_addAt : List Cond := kR_addAt :: zT
abbrev kR_variables : Cond := .code yR_variables bR_variables 1 (some .int)
theorem mk_R_variables : kR_variables ∈ zT := zT_in (List.mem_append_right _ (List.mem_append_right _ (List.mem_append_left _ (List.mem_of_getElem? (l := tables_1_2) (i := 148) rfl)))) rfl
abbrev wR_variables : List Cond := kR_variables :: zT
abbrev kR_writeVariable : Cond := .code yR_writeVariable bR_writeVariable 3 none
theorem mk_R_writeVariable : kR_writeVariable ∈ zT := zT_in (List.mem_append_right _ (List.mem_append_right _ (List.mem_append_left _ (List.mem_of_getElem? (l := tables_1_2) (i := 152) rfl)))) rfl
abbrev wR_writeVariable : List Cond := kR_writeVariable :: zT
abbrev kE_readGroup : Cond := .code yE_readGroup bE_readGroup 2 none
theorem mk_E_readGroup : kE_readGroup ∈ zT := zT_in (List.mem_append_right _ (List.mem_append_right _ (List.mem_append_left _ (List.mem_of_getElem? (l := tables_1_2) (i := 156) rfl)))) rfl
abbrev wE_readGroup : List Cond := kE_readGroup :: zT
abbrev kR_writeCopy : Cond := .code yR_writeCopy bR_writeCopy 3 none
theorem mk_R_writeCopy : kR_writeCopy ∈ zT := zT_in (List.mem_append_right _ (List.mem_append_right _ (List.mem_append_left _ (List.mem_of_getElem? (l := tables_1_2) (i := 160) rfl)))) rfl
abbrev wR_writeCopy : List Cond := kR_writeCopy :: zT
abbrev kR_isPowerTooHigh : Cond := .code yR_isPowerTooHigh bR_isPowerTooHigh 4 (some .boolean)
theorem mk_R_isPowerTooHigh : kR_isPowerTooHigh ∈ zT := zT_in (List.mem_append_right _ (List.mem_append_right _ (List.mem_append_left _ (List.mem_of_getElem? (l := tables_1_2) (i := 167) rfl)))) rfl
abbrev wR_isPowerTooHigh : List Cond := kR_isPowerTooHigh :: zT
abbrev kR_writePower : Cond := .code yR_writePower bR_writePower 5 none
theorem mk_R_writePower : kR_writePower ∈ zT := zT_in (List.mem_append_right _ (List.mem_append_right _ (List.mem_append_left _ (List.mem_of_getElem? (l := tables_1_2) (i := 172) rfl)))) rfl
abbrev wR_writePower : List Cond := kR_writePower :: zT
abbrev kR_writeProduct : Cond := .code yR_writeProduct bR_writeProduct 7 none
theorem mk_R_writeProduct : kR_writeProduct ∈ zT := zT_in (List.mem_append_right _ (List.mem_append_right _ (List.mem_append_left _ (List.mem_of_getElem? (l := tables_1_2) (i := 177) rfl)))) rfl
abbrev wR_writeProduct : List Cond := kR_writeProduct :: zT
abbrev kR_isProductTooHigh : Cond := .code yR_isProductTooHigh bR_isProductTooHigh 5 (some .boolean)
theorem mk_R_isProductTooHigh : kR_isProductTooHigh ∈ zT := zT_in (List.mem_append_right _ (List.mem_append_right _ (List.mem_append_left _ (List.mem_of_getElem? (l := tables_1_2) (i := 181) rfl)))) rfl
abbrev wR_isProductTooHigh : List Cond := kR_isProductTooHigh :: zT
abbrev kR_writeSum : Cond := .code yR_writeSum bR_writeSum 7 none
theorem mk_R_writeSum : kR_writeSum ∈ zT := zT_in (List.mem_append_right _ (List.mem_append_right _ (List.mem_append_left _ (List.mem_of_getElem? (l := tables_1_2) (i := 186) rfl)))) rfl
abbrev wR_writeSum : List Cond := kR_writeSum :: zT
abbrev kE_isSign : Cond := .code yE_isSign bE_isSign 1 (some .boolean)
theorem mk_E_isSign : kE_isSign ∈ zT := zT_in (List.mem_append_right _ (List.mem_append_right _ (List.mem_append_left _ (List.mem_of_getElem? (l := tables_1_2) (i := 189) rfl)))) rfl
abbrev wE_isSign : List Cond := kE_isSign :: zT
abbrev kL_add : Cond := .codeWith yL_add bL_add 6 (some .int) [(0, 9, 12, 19)]
abbrev kK_add : Cond := .code yK_add bK_add 5 none
theorem mk_K_add : kK_add ∈ zT := zT_in (List.mem_append_right _ (List.mem_append_right _ (List.mem_append_left _ (List.mem_of_getElem? (l := tables_1_2) (i := 197) rfl)))) rfl
abbrev wK_add : List Cond := kK_add :: zT
abbrev kL_multiply : Cond := .codeWith yL_multiply bL_multiply 5 (some .int) [(0, 7, 10, 19), (0, 7, 14, 28)]
abbrev kK_multiply : Cond := .code yK_multiply bK_multiply 4 none
theorem mk_K_multiply : kK_multiply ∈ zT := zT_in (List.mem_append_right _ (List.mem_append_right _ (List.mem_append_left _ (List.mem_of_getElem? (l := tables_1_2) (i := 206) rfl)))) rfl
abbrev wK_multiply : List Cond := kK_multiply :: zT
abbrev kL_derive : Cond := .codeWith yL_derive bL_derive 5 (some .int) [(0, 7, 10, 19)]
abbrev kK_derive : Cond := .code yK_derive bK_derive 4 none
theorem mk_K_derive : kK_derive ∈ zT := zT_in (List.mem_append_right _ (List.mem_append_right _ (List.mem_append_left _ (List.mem_of_getElem? (l := tables_1_2) (i := 231) rfl)))) rfl
abbrev wK_derive : List Cond := kK_derive :: zT
abbrev kK_requireVariable : Cond := .code yK_requireVariable bK_requireVariable 2 none
theorem mk_K_requireVariable : kK_requireVariable ∈ zT := zT_in (List.mem_append_right _ (List.mem_append_right _ (List.mem_append_left _ (List.mem_of_getElem? (l := tables_1_2) (i := 235) rfl)))) rfl
abbrev wK_requireVariable : List Cond := kK_requireVariable :: zT
abbrev kR_writeDerivative : Cond := .code yR_writeDerivative bR_writeDerivative 6 none
theorem mk_R_writeDerivative : kR_writeDerivative ∈ zT := zT_in (List.mem_append_right _ (List.mem_append_right _ (List.mem_append_right _ (List.mem_append_left _ (List.mem_of_getElem? (l := tables_1_3) (i := 1) rfl))))) rfl
abbrev wR_writeDerivative : List Cond := kR_writeDerivative :: zT
abbrev kL_set : Cond := .codeWith yL_set bL_set 6 (some .int) [(0, 9, 12, 19)]
abbrev kK_set : Cond := .code yK_set bK_set 5 none
theorem mk_K_set : kK_set ∈ zT := zT_in (List.mem_append_right _ (List.mem_append_right _ (List.mem_append_right _ (List.mem_append_left _ (List.mem_of_getElem? (l := tables_1_3) (i := 9) rfl))))) rfl
abbrev wK_set : List Cond := kK_set :: zT
abbrev kR_writeSubstitute : Cond := .code yR_writeSubstitute bR_writeSubstitute 8 none
theorem mk_R_writeSubstitute : kR_writeSubstitute ∈ zT := zT_in (List.mem_append_right _ (List.mem_append_right _ (List.mem_append_right _ (List.mem_append_left _ (List.mem_of_getElem? (l := tables_1_3) (i := 13) rfl))))) rfl
abbrev wR_writeSubstitute : List Cond := kR_writeSubstitute :: zT
abbrev kR_timesPower : Cond := .code yR_timesPower bR_timesPower 6 (some .int)
theorem mk_R_timesPower : kR_timesPower ∈ zT := zT_in (List.mem_append_right _ (List.mem_append_right _ (List.mem_append_right _ (List.mem_append_left _ (List.mem_of_getElem? (l := tables_1_3) (i := 17) rfl))))) rfl
abbrev wR_timesPower : List Cond := kR_timesPower :: zT
abbrev kL_value : Cond := .codeWith yL_value bL_value 8 (some .int) [(0, 16, 19, 19)]
abbrev kK_value : Cond := .code yK_value bK_value 6 (some .int)
theorem mk_K_value : kK_value ∈ zT := zT_in (List.mem_append_right _ (List.mem_append_right _ (List.mem_append_right _ (List.mem_append_left _ (List.mem_of_getElem? (l := tables_1_3) (i := 24) rfl))))) rfl
abbrev wK_value : List Cond := kK_value :: zT
abbrev kR_evaluate : Cond := .code yR_evaluate bR_evaluate 7 (some .int)
theorem mk_R_evaluate : kR_evaluate ∈ zT := zT_in (List.mem_append_right _ (List.mem_append_right _ (List.mem_append_right _ (List.mem_append_left _ (List.mem_of_getElem? (l := tables_1_3) (i := 28) rfl))))) rfl
abbrev wR_evaluate : List Cond := kR_evaluate :: zT
abbrev kL_print : Cond := .codeWith yL_print bL_print 4 (some .int) [(0, 9, 12, 19)]
abbrev kK_print : Cond := .code yK_print bK_print 2 (some .int)
theorem mk_K_print : kK_print ∈ zT := zT_in (List.mem_append_right _ (List.mem_append_right _ (List.mem_append_right _ (List.mem_append_left _ (List.mem_of_getElem? (l := tables_1_3) (i := 35) rfl))))) rfl
abbrev wK_print : List Cond := kK_print :: zT
abbrev kP_writePolynomial : Cond := .code yP_writePolynomial bP_writePolynomial 3 (some .int)
theorem mk_P_writePolynomial : kP_writePolynomial ∈ zT := zT_in (List.mem_append_right _ (List.mem_append_right _ (List.mem_append_right _ (List.mem_append_left _ (List.mem_of_getElem? (l := tables_1_3) (i := 39) rfl))))) rfl
abbrev wP_writePolynomial : List Cond := kP_writePolynomial :: zT
abbrev kP_writeByte : Cond := .code yP_writeByte bP_writeByte 2 none
theorem mk_P_writeByte : kP_writeByte ∈ zT := zT_in (List.mem_append_right _ (List.mem_append_right _ (List.mem_append_right _ (List.mem_append_left _ (List.mem_of_getElem? (l := tables_1_3) (i := 44) rfl))))) rfl
abbrev wP_writeByte : List Cond := kP_writeByte :: zT
abbrev kP_writeTerm : Cond := .code yP_writeTerm bP_writeTerm 6 none
theorem mk_P_writeTerm : kP_writeTerm ∈ zT := zT_in (List.mem_append_right _ (List.mem_append_right _ (List.mem_append_right _ (List.mem_append_left _ (List.mem_of_getElem? (l := tables_1_3) (i := 48) rfl))))) rfl
abbrev wP_writeTerm : List Cond := kP_writeTerm :: zT
abbrev kP_writeNumber : Cond := .code yP_writeNumber bP_writeNumber 5 none
theorem mk_P_writeNumber : kP_writeNumber ∈ zT := zT_in (List.mem_append_right _ (List.mem_append_right _ (List.mem_append_right _ (List.mem_append_left _ (List.mem_of_getElem? (l := tables_1_3) (i := 52) rfl))))) rfl
abbrev wP_writeNumber : List Cond := kP_writeNumber :: zT
abbrev kM_init : Cond := .code yM_init bM_init 1 none
theorem mk_M_init : kM_init ∈ zT := zT_in (List.mem_append_right _ (List.mem_append_right _ (List.mem_append_right _ (List.mem_append_left _ (List.mem_of_getElem? (l := tables_1_3) (i := 99) rfl))))) rfl
abbrev wM_init : List Cond := kM_init :: zT
abbrev kM_prepare : Cond := .code yM_prepare bM_prepare 7 none
theorem mk_M_prepare : kM_prepare ∈ zT := zT_in (List.mem_append_right _ (List.mem_append_right _ (List.mem_append_right _ (List.mem_append_left _ (List.mem_of_getElem? (l := tables_1_3) (i := 105) rfl))))) rfl
abbrev wM_prepare : List Cond := kM_prepare :: zT
abbrev kM_list : Cond := .code yM_list bM_list 3 none
theorem mk_M_list : kM_list ∈ zT := zT_in (List.mem_append_right _ (List.mem_append_right _ (List.mem_append_right _ (List.mem_append_left _ (List.mem_of_getElem? (l := tables_1_3) (i := 109) rfl))))) rfl
abbrev wM_list : List Cond := kM_list :: zT
abbrev kM_isGreater : Cond := .code yM_isGreater bM_isGreater 6 (some .boolean)
theorem mk_M_isGreater : kM_isGreater ∈ zT := zT_in (List.mem_append_right _ (List.mem_append_right _ (List.mem_append_right _ (List.mem_append_left _ (List.mem_of_getElem? (l := tables_1_3) (i := 113) rfl))))) rfl
abbrev wM_isGreater : List Cond := kM_isGreater :: zT
abbrev kM_thrown : Cond := .code yM_thrown bM_thrown 1 (some .int)
theorem mk_M_thrown : kM_thrown ∈ zT := zT_in (List.mem_append_right _ (List.mem_append_right _ (List.mem_append_right _ (List.mem_append_left _ (List.mem_of_getElem? (l := tables_1_3) (i := 199) rfl))))) rfl
abbrev wM_thrown : List Cond := kM_thrown :: zT
abbrev kM_field : Cond := .code yM_field bM_field 4 none
theorem mk_M_field : kM_field ∈ zT := zT_in (List.mem_append_right _ (List.mem_append_right _ (List.mem_append_right _ (List.mem_append_left _ (List.mem_of_getElem? (l := tables_1_3) (i := 203) rfl))))) rfl
abbrev wM_field : List Cond := kM_field :: zT
abbrev kM_isPrime : Cond := .code yM_isPrime bM_isPrime 2 (some .boolean)
theorem mk_M_isPrime : kM_isPrime ∈ zT := zT_in (List.mem_append_right _ (List.mem_append_right _ (List.mem_append_right _ (List.mem_append_left _ (List.mem_of_getElem? (l := tables_1_3) (i := 206) rfl))))) rfl
abbrev wM_isPrime : List Cond := kM_isPrime :: zT
abbrev kM_put : Cond := .code yM_put bM_put 5 (some .boolean)
theorem mk_M_put : kM_put ∈ zT := zT_in (List.mem_append_right _ (List.mem_append_right _ (List.mem_append_right _ (List.mem_append_left _ (List.mem_of_getElem? (l := tables_1_3) (i := 210) rfl))))) rfl
abbrev wM_put : List Cond := kM_put :: zT
abbrev kM_read : Cond := .code yM_read bM_read 4 (some .int)
theorem mk_M_read : kM_read ∈ zT := zT_in (List.mem_append_right _ (List.mem_append_right _ (List.mem_append_right _ (List.mem_append_left _ (List.mem_of_getElem? (l := tables_1_3) (i := 214) rfl))))) rfl
abbrev wM_read : List Cond := kM_read :: zT
abbrev kM_isPolynomial : Cond := .code yM_isPolynomial bM_isPolynomial 1 (some .boolean)
theorem mk_M_isPolynomial : kM_isPolynomial ∈ zT := zT_in (List.mem_append_right _ (List.mem_append_right _ (List.mem_append_right _ (List.mem_append_left _ (List.mem_of_getElem? (l := tables_1_3) (i := 217) rfl))))) rfl
abbrev wM_isPolynomial : List Cond := kM_isPolynomial :: zT
abbrev kM_begin : Cond := .code yM_begin bM_begin 1 none
theorem mk_M_begin : kM_begin ∈ zT := zT_in (List.mem_append_right _ (List.mem_append_right _ (List.mem_append_right _ (List.mem_append_left _ (List.mem_of_getElem? (l := tables_1_3) (i := 221) rfl))))) rfl
abbrev wM_begin : List Cond := kM_begin :: zT
abbrev kM_sum : Cond := .code yM_sum bM_sum 1 (some .int)
theorem mk_M_sum : kM_sum ∈ zT := zT_in (List.mem_append_right _ (List.mem_append_right _ (List.mem_append_right _ (List.mem_append_left _ (List.mem_of_getElem? (l := tables_1_3) (i := 225) rfl))))) rfl
abbrev wM_sum : List Cond := kM_sum :: zT
abbrev kM_clear : Cond := .code yM_clear bM_clear 3 none
theorem mk_M_clear : kM_clear ∈ zT := zT_in (List.mem_append_right _ (List.mem_append_right _ (List.mem_append_right _ (List.mem_append_left _ (List.mem_of_getElem? (l := tables_1_3) (i := 229) rfl))))) rfl
abbrev wM_clear : List Cond := kM_clear :: zT
abbrev kM_lay : Cond := .code yM_lay bM_lay 4 none
theorem mk_M_lay : kM_lay ∈ zT := zT_in (List.mem_append_right _ (List.mem_append_right _ (List.mem_append_right _ (List.mem_append_left _ (List.mem_of_getElem? (l := tables_1_3) (i := 233) rfl))))) rfl
abbrev wM_lay : List Cond := kM_lay :: zT
abbrev kM_here : Cond := .code yM_here bM_here 1 (some .int)
theorem mk_M_here : kM_here ∈ zT := zT_in (List.mem_append_right _ (List.mem_append_right _ (List.mem_append_right _ (List.mem_append_left _ (List.mem_of_getElem? (l := tables_1_3) (i := 237) rfl))))) rfl
abbrev wM_here : List Cond := kM_here :: zT
abbrev kM_readFactor : Cond := .code yM_readFactor bM_readFactor 3 none
theorem mk_M_readFactor : kM_readFactor ∈ zT := zT_in (List.mem_append_right _ (List.mem_append_right _ (List.mem_append_right _ (List.mem_append_right _ (List.mem_of_getElem? (l := tables_1_4) (i := 1) rfl))))) rfl
abbrev wM_readFactor : List Cond := kM_readFactor :: zT
abbrev kM_fail : Cond := .code yM_fail bM_fail 3 none
theorem mk_M_fail : kM_fail ∈ zT := zT_in (List.mem_append_right _ (List.mem_append_right _ (List.mem_append_right _ (List.mem_append_right _ (List.mem_of_getElem? (l := tables_1_4) (i := 5) rfl))))) rfl
abbrev wM_fail : List Cond := kM_fail :: zT
abbrev kM_variable : Cond := .code yM_variable bM_variable 3 (some .int)
theorem mk_M_variable : kM_variable ∈ zT := zT_in (List.mem_append_right _ (List.mem_append_right _ (List.mem_append_right _ (List.mem_append_right _ (List.mem_of_getElem? (l := tables_1_4) (i := 9) rfl))))) rfl
abbrev wM_variable : List Cond := kM_variable :: zT
abbrev kM_isDigit : Cond := .code yM_isDigit bM_isDigit 1 (some .boolean)
theorem mk_M_isDigit : kM_isDigit ∈ zT := zT_in (List.mem_append_right _ (List.mem_append_right _ (List.mem_append_right _ (List.mem_append_right _ (List.mem_of_getElem? (l := tables_1_4) (i := 12) rfl))))) rfl
abbrev wM_isDigit : List Cond := kM_isDigit :: zT
abbrev kM_factor : Cond := .code yM_factor bM_factor 1 (some .int)
theorem mk_M_factor : kM_factor ∈ zT := zT_in (List.mem_append_right _ (List.mem_append_right _ (List.mem_append_right _ (List.mem_append_right _ (List.mem_of_getElem? (l := tables_1_4) (i := 16) rfl))))) rfl
abbrev wM_factor : List Cond := kM_factor :: zT
abbrev kM_number : Cond := .code yM_number bM_number 5 (some .long)
theorem mk_M_number : kM_number ∈ zT := zT_in (List.mem_append_right _ (List.mem_append_right _ (List.mem_append_right _ (List.mem_append_right _ (List.mem_of_getElem? (l := tables_1_4) (i := 20) rfl))))) rfl
abbrev wM_number : List Cond := kM_number :: zT
abbrev kM_modulo : Cond := .code yM_modulo bM_modulo 4 (some .int)
theorem mk_M_modulo : kM_modulo ∈ zT := zT_in (List.mem_append_right _ (List.mem_append_right _ (List.mem_append_right _ (List.mem_append_right _ (List.mem_of_getElem? (l := tables_1_4) (i := 26) rfl))))) rfl
abbrev wM_modulo : List Cond := kM_modulo :: zT
abbrev kM_readPower : Cond := .code yM_readPower bM_readPower 6 none
theorem mk_M_readPower : kM_readPower ∈ zT := zT_in (List.mem_append_right _ (List.mem_append_right _ (List.mem_append_right _ (List.mem_append_right _ (List.mem_of_getElem? (l := tables_1_4) (i := 30) rfl))))) rfl
abbrev wM_readPower : List Cond := kM_readPower :: zT
abbrev kM_degreeOf : Cond := .code yM_degreeOf bM_degreeOf 3 (some .int)
theorem mk_M_degreeOf : kM_degreeOf ∈ zT := zT_in (List.mem_append_right _ (List.mem_append_right _ (List.mem_append_right _ (List.mem_append_right _ (List.mem_of_getElem? (l := tables_1_4) (i := 34) rfl))))) rfl
abbrev wM_degreeOf : List Cond := kM_degreeOf :: zT
abbrev kM_cell : Cond := .code yM_cell bM_cell 3 (some .int)
theorem mk_M_cell : kM_cell ∈ zT := zT_in (List.mem_append_right _ (List.mem_append_right _ (List.mem_append_right _ (List.mem_append_right _ (List.mem_of_getElem? (l := tables_1_4) (i := 38) rfl))))) rfl
abbrev wM_cell : List Cond := kM_cell :: zT
abbrev kM_times : Cond := .code yM_times bM_times 8 none
theorem mk_M_times : kM_times ∈ zT := zT_in (List.mem_append_right _ (List.mem_append_right _ (List.mem_append_right _ (List.mem_append_right _ (List.mem_of_getElem? (l := tables_1_4) (i := 42) rfl))))) rfl
abbrev wM_times : List Cond := kM_times :: zT
abbrev kM_copy : Cond := .code yM_copy bM_copy 4 none
theorem mk_M_copy : kM_copy ∈ zT := zT_in (List.mem_append_right _ (List.mem_append_right _ (List.mem_append_right _ (List.mem_append_right _ (List.mem_of_getElem? (l := tables_1_4) (i := 46) rfl))))) rfl
abbrev wM_copy : List Cond := kM_copy :: zT
abbrev kM_goOn : Cond := .code yM_goOn bM_goOn 4 none
theorem mk_M_goOn : kM_goOn ∈ zT := zT_in (List.mem_append_right _ (List.mem_append_right _ (List.mem_append_right _ (List.mem_append_right _ (List.mem_of_getElem? (l := tables_1_4) (i := 50) rfl))))) rfl
abbrev wM_goOn : List Cond := kM_goOn :: zT
abbrev kM_product : Cond := .code yM_product bM_product 1 (some .int)
theorem mk_M_product : kM_product ∈ zT := zT_in (List.mem_append_right _ (List.mem_append_right _ (List.mem_append_right _ (List.mem_append_right _ (List.mem_of_getElem? (l := tables_1_4) (i := 54) rfl))))) rfl
abbrev wM_product : List Cond := kM_product :: zT
abbrev kM_isTooHigh : Cond := .code yM_isTooHigh bM_isTooHigh 5 (some .boolean)
theorem mk_M_isTooHigh : kM_isTooHigh ∈ zT := zT_in (List.mem_append_right _ (List.mem_append_right _ (List.mem_append_right _ (List.mem_append_right _ (List.mem_of_getElem? (l := tables_1_4) (i := 58) rfl))))) rfl
abbrev wM_isTooHigh : List Cond := kM_isTooHigh :: zT
abbrev kM_addTo : Cond := .code yM_addTo bM_addTo 5 none
theorem mk_M_addTo : kM_addTo ∈ zT := zT_in (List.mem_append_right _ (List.mem_append_right _ (List.mem_append_right _ (List.mem_append_right _ (List.mem_of_getElem? (l := tables_1_4) (i := 62) rfl))))) rfl
abbrev wM_addTo : List Cond := kM_addTo :: zT
abbrev kM_terms : Cond := .code yM_terms bM_terms 4 (some .int)
theorem mk_M_terms : kM_terms ∈ zT := zT_in (List.mem_append_right _ (List.mem_append_right _ (List.mem_append_right _ (List.mem_append_right _ (List.mem_of_getElem? (l := tables_1_4) (i := 66) rfl))))) rfl
abbrev wM_terms : List Cond := kM_terms :: zT
abbrev kM_fault : Cond := .code yM_fault bM_fault 2 (some .int)
theorem mk_M_fault : kM_fault ∈ zT := zT_in (List.mem_append_right _ (List.mem_append_right _ (List.mem_append_right _ (List.mem_append_right _ (List.mem_of_getElem? (l := tables_1_4) (i := 70) rfl))))) rfl
abbrev wM_fault : List Cond := kM_fault :: zT
abbrev kM_add : Cond := .code yM_add bM_add 5 none
theorem mk_M_add : kM_add ∈ zT := zT_in (List.mem_append_right _ (List.mem_append_right _ (List.mem_append_right _ (List.mem_append_right _ (List.mem_of_getElem? (l := tables_1_4) (i := 74) rfl))))) rfl
abbrev wM_add : List Cond := kM_add :: zT
abbrev kM_lacks : Cond := .code yM_lacks bM_lacks 4 (some .boolean)
theorem mk_M_lacks : kM_lacks ∈ zT := zT_in (List.mem_append_right _ (List.mem_append_right _ (List.mem_append_right _ (List.mem_append_right _ (List.mem_of_getElem? (l := tables_1_4) (i := 78) rfl))))) rfl
abbrev wM_lacks : List Cond := kM_lacks :: zT
abbrev kM_multiply : Cond := .code yM_multiply bM_multiply 4 none
theorem mk_M_multiply : kM_multiply ∈ zT := zT_in (List.mem_append_right _ (List.mem_append_right _ (List.mem_append_right _ (List.mem_append_right _ (List.mem_of_getElem? (l := tables_1_4) (i := 82) rfl))))) rfl
abbrev wM_multiply : List Cond := kM_multiply :: zT
abbrev kM_derive : Cond := .code yM_derive bM_derive 7 none
theorem mk_M_derive : kM_derive ∈ zT := zT_in (List.mem_append_right _ (List.mem_append_right _ (List.mem_append_right _ (List.mem_append_right _ (List.mem_of_getElem? (l := tables_1_4) (i := 86) rfl))))) rfl
abbrev wM_derive : List Cond := kM_derive :: zT
abbrev kM_set : Cond := .code yM_set bM_set 9 none
theorem mk_M_set : kM_set ∈ zT := zT_in (List.mem_append_right _ (List.mem_append_right _ (List.mem_append_right _ (List.mem_append_right _ (List.mem_of_getElem? (l := tables_1_4) (i := 90) rfl))))) rfl
abbrev wM_set : List Cond := kM_set :: zT
abbrev kM_power : Cond := .code yM_power bM_power 5 (some .int)
theorem mk_M_power : kM_power ∈ zT := zT_in (List.mem_append_right _ (List.mem_append_right _ (List.mem_append_right _ (List.mem_append_right _ (List.mem_of_getElem? (l := tables_1_4) (i := 94) rfl))))) rfl
abbrev wM_power : List Cond := kM_power :: zT
abbrev kM_value : Cond := .code yM_value bM_value 10 (some .int)
theorem mk_M_value : kM_value ∈ zT := zT_in (List.mem_append_right _ (List.mem_append_right _ (List.mem_append_right _ (List.mem_append_right _ (List.mem_of_getElem? (l := tables_1_4) (i := 98) rfl))))) rfl
abbrev wM_value : List Cond := kM_value :: zT
abbrev kM_about : Cond := .code yM_about bM_about 3 (some .int)
theorem mk_M_about : kM_about ∈ zT := zT_in (List.mem_append_right _ (List.mem_append_right _ (List.mem_append_right _ (List.mem_append_right _ (List.mem_of_getElem? (l := tables_1_4) (i := 102) rfl))))) rfl
abbrev wM_about : List Cond := kM_about :: zT
abbrev kM_term : Cond := .code yM_term bM_term 5 (some .int)
theorem mk_M_term : kM_term ∈ zT := zT_in (List.mem_append_right _ (List.mem_append_right _ (List.mem_append_right _ (List.mem_append_right _ (List.mem_of_getElem? (l := tables_1_4) (i := 106) rfl))))) rfl
abbrev wM_term : List Cond := kM_term :: zT
abbrev kM_placeOf : Cond := .code yM_placeOf bM_placeOf 5 (some .int)
theorem mk_M_placeOf : kM_placeOf ∈ zT := zT_in (List.mem_append_right _ (List.mem_append_right _ (List.mem_append_right _ (List.mem_append_right _ (List.mem_of_getElem? (l := tables_1_4) (i := 110) rfl))))) rfl
abbrev wM_placeOf : List Cond := kM_placeOf :: zT
abbrev kM_print : Cond := .code yM_print bM_print 3 (some .int)
theorem mk_M_print : kM_print ∈ zT := zT_in (List.mem_append_right _ (List.mem_append_right _ (List.mem_append_right _ (List.mem_append_right _ (List.mem_of_getElem? (l := tables_1_4) (i := 114) rfl))))) rfl
abbrev wM_print : List Cond := kM_print :: zT
abbrev kM_say : Cond := .code yM_say bM_say 2 none
theorem mk_M_say : kM_say ∈ zT := zT_in (List.mem_append_right _ (List.mem_append_right _ (List.mem_append_right _ (List.mem_append_right _ (List.mem_of_getElem? (l := tables_1_4) (i := 118) rfl))))) rfl
abbrev wM_say : List Cond := kM_say :: zT
abbrev kM_sayTerm : Cond := .code yM_sayTerm bM_sayTerm 7 none
theorem mk_M_sayTerm : kM_sayTerm ∈ zT := zT_in (List.mem_append_right _ (List.mem_append_right _ (List.mem_append_right _ (List.mem_append_right _ (List.mem_of_getElem? (l := tables_1_4) (i := 122) rfl))))) rfl
abbrev wM_sayTerm : List Cond := kM_sayTerm :: zT
abbrev kM_sayNumber : Cond := .code yM_sayNumber bM_sayNumber 3 none
theorem mk_M_sayNumber : kM_sayNumber ∈ zT := zT_in (List.mem_append_right _ (List.mem_append_right _ (List.mem_append_right _ (List.mem_append_right _ (List.mem_of_getElem? (l := tables_1_4) (i := 126) rfl))))) rfl
abbrev wM_sayNumber : List Cond := kM_sayNumber :: zT
abbrev kM_output : Cond := .code yM_output bM_output 2 (some .int)
theorem mk_M_output : kM_output ∈ zT := zT_in (List.mem_append_right _ (List.mem_append_right _ (List.mem_append_right _ (List.mem_append_right _ (List.mem_of_getElem? (l := tables_1_4) (i := 130) rfl))))) rfl
abbrev wM_output : List Cond := kM_output :: zT
theorem mn_L : (.initialized "PolynomialDeskLaw" : Cond) ∈ zT := zT_in (List.mem_append_right _ (List.mem_append_left _ (List.mem_of_getElem? (l := tables_1_1) (i := 0) rfl))) rfl
theorem mn_K : (.initialized "PolynomialDesk" : Cond) ∈ zT := zT_in (List.mem_append_right _ (List.mem_append_left _ (List.mem_of_getElem? (l := tables_1_1) (i := 1) rfl))) rfl
theorem mn_R : (.initialized "PolynomialDesk$Ring" : Cond) ∈ zT := zT_in (List.mem_append_right _ (List.mem_append_left _ (List.mem_of_getElem? (l := tables_1_1) (i := 2) rfl))) rfl
theorem mn_J : (.initialized "java/util/Arrays" : Cond) ∈ zT := zT_in (List.mem_append_right _ (List.mem_append_left _ (List.mem_of_getElem? (l := tables_1_1) (i := 3) rfl))) rfl
theorem mn_E : (.initialized "PolynomialDesk$Reader" : Cond) ∈ zT := zT_in (List.mem_append_right _ (List.mem_append_left _ (List.mem_of_getElem? (l := tables_1_1) (i := 4) rfl))) rfl
theorem mn_P : (.initialized "PolynomialDesk$Printer" : Cond) ∈ zT := zT_in (List.mem_append_right _ (List.mem_append_left _ (List.mem_of_getElem? (l := tables_1_1) (i := 5) rfl))) rfl
theorem mn_M : (.initialized "PolynomialDeskModel" : Cond) ∈ zT := zT_in (List.mem_append_right _ (List.mem_append_left _ (List.mem_of_getElem? (l := tables_1_1) (i := 6) rfl))) rfl
theorem mn_Throwable : (.initialized "java/lang/Throwable" : Cond) ∈ zT := zT_in (List.mem_append_right _ (List.mem_append_left _ (List.mem_of_getElem? (l := tables_1_1) (i := 7) rfl))) rfl
theorem mn_Exception : (.initialized "java/lang/Exception" : Cond) ∈ zT := zT_in (List.mem_append_right _ (List.mem_append_left _ (List.mem_of_getElem? (l := tables_1_1) (i := 8) rfl))) rfl
theorem mn_RuntimeException : (.initialized "java/lang/RuntimeException" : Cond) ∈ zT := zT_in (List.mem_append_right _ (List.mem_append_left _ (List.mem_of_getElem? (l := tables_1_1) (i := 9) rfl))) rfl
theorem mn_IllegalArgumentException : (.initialized "java/lang/IllegalArgumentException" : Cond) ∈ zT := zT_in (List.mem_append_right _ (List.mem_append_left _ (List.mem_of_getElem? (l := tables_1_1) (i := 10) rfl))) rfl
theorem mn_IndexOutOfBoundsException : (.initialized "java/lang/IndexOutOfBoundsException" : Cond) ∈ zT := zT_in (List.mem_append_right _ (List.mem_append_left _ (List.mem_of_getElem? (l := tables_1_1) (i := 11) rfl))) rfl
theorem mn_System : (.initialized "java/lang/System" : Cond) ∈ zT := zT_in (List.mem_append_right _ (List.mem_append_left _ (List.mem_of_getElem? (l := tables_1_1) (i := 12) rfl))) rfl
theorem mn_IllegalStateException : (.initialized "java/lang/IllegalStateException" : Cond) ∈ zT := zT_in (List.mem_append_right _ (List.mem_append_left _ (List.mem_of_getElem? (l := tables_1_1) (i := 13) rfl))) rfl
theorem mn_String : (.initialized "java/lang/String" : Cond) ∈ zT := zT_in (List.mem_append_right _ (List.mem_append_left _ (List.mem_of_getElem? (l := tables_1_1) (i := 14) rfl))) rfl
theorem mn_StringLatin1 : (.initialized "java/lang/StringLatin1" : Cond) ∈ zT := zT_in (List.mem_append_right _ (List.mem_append_left _ (List.mem_of_getElem? (l := tables_1_1) (i := 15) rfl))) rfl
theorem mn_Preconditions : (.initialized "jdk/internal/util/Preconditions" : Cond) ∈ zT := zT_in (List.mem_append_right _ (List.mem_append_left _ (List.mem_of_getElem? (l := tables_1_1) (i := 16) rfl))) rfl
theorem mn_StringUTF16 : (.initialized "java/lang/StringUTF16" : Cond) ∈ zT := zT_in (List.mem_append_right _ (List.mem_append_left _ (List.mem_of_getElem? (l := tables_1_1) (i := 17) rfl))) rfl
theorem mc_L_8 : (.classLink "PolynomialDeskLaw" 8 "PolynomialDesk" : Cond) ∈ zT := zT_in (List.mem_append_right _ (List.mem_append_left _ (List.mem_of_getElem? (l := tables_1_1) (i := 18) rfl))) rfl
theorem mb_K : (.instantiable "PolynomialDesk" 5 : Cond) ∈ zT := zT_in (List.mem_append_right _ (List.mem_append_left _ (List.mem_of_getElem? (l := tables_1_1) (i := 19) rfl))) rfl
theorem ml_L_43 : (.methodLink "PolynomialDeskLaw" 43 yK_init : Cond) ∈ zT := zT_in (List.mem_append_right _ (List.mem_append_left _ (List.mem_of_getElem? (l := tables_1_1) (i := 20) rfl))) rfl
theorem mi_K_init : (.instanceMethod yK_init : Cond) ∈ zT := zT_in (List.mem_append_right _ (List.mem_append_left _ (List.mem_of_getElem? (l := tables_1_1) (i := 21) rfl))) rfl
theorem ml_K_1 : (.methodLink "PolynomialDesk" 1 ⟨"java/lang/Object", "<init>", "()V"⟩ : Cond) ∈ zT := zT_in (List.mem_append_right _ (List.mem_append_left _ (List.mem_of_getElem? (l := tables_1_1) (i := 23) rfl))) rfl
theorem mi_obj : (.instanceMethod ⟨"java/lang/Object", "<init>", "()V"⟩ : Cond) ∈ zT := zT_in (List.mem_append_right _ (List.mem_append_left _ (List.mem_of_getElem? (l := tables_1_1) (i := 24) rfl))) rfl
theorem mk_obj : (.code ⟨"java/lang/Object", "<init>", "()V"⟩ object_method_1_code 1 none : Cond) ∈ zT := zT_in (List.mem_append_right _ (List.mem_append_left _ (List.mem_of_getElem? (l := tables_1_1) (i := 25) rfl))) rfl
theorem mc_K_7 : (.classLink "PolynomialDesk" 7 "PolynomialDesk$Ring" : Cond) ∈ zT := zT_in (List.mem_append_right _ (List.mem_append_left _ (List.mem_of_getElem? (l := tables_1_1) (i := 26) rfl))) rfl
theorem mb_R : (.instantiable "PolynomialDesk$Ring" 13 : Cond) ∈ zT := zT_in (List.mem_append_right _ (List.mem_append_left _ (List.mem_of_getElem? (l := tables_1_1) (i := 27) rfl))) rfl
theorem ml_K_9 : (.methodLink "PolynomialDesk" 9 yR_init : Cond) ∈ zT := zT_in (List.mem_append_right _ (List.mem_append_left _ (List.mem_of_getElem? (l := tables_1_1) (i := 28) rfl))) rfl
theorem mi_R_init : (.instanceMethod yR_init : Cond) ∈ zT := zT_in (List.mem_append_right _ (List.mem_append_left _ (List.mem_of_getElem? (l := tables_1_1) (i := 29) rfl))) rfl
theorem ml_R_3 : (.methodLink "PolynomialDesk$Ring" 3 ⟨"java/lang/Object", "<init>", "()V"⟩ : Cond) ∈ zT := zT_in (List.mem_append_right _ (List.mem_append_left _ (List.mem_of_getElem? (l := tables_1_1) (i := 31) rfl))) rfl
theorem mc_R_11 : (.classLink "PolynomialDesk$Ring" 11 "[[I" : Cond) ∈ zT := zT_in (List.mem_append_right _ (List.mem_append_left _ (List.mem_of_getElem? (l := tables_1_1) (i := 32) rfl))) rfl
theorem mf_R_38 : (.fieldLink "PolynomialDesk$Ring" 38 "PolynomialDesk$Ring" "prime" "I" : Cond) ∈ zT := zT_in (List.mem_append_right _ (List.mem_append_left _ (List.mem_of_getElem? (l := tables_1_1) (i := 34) rfl))) rfl
theorem mf_R_42 : (.fieldLink "PolynomialDesk$Ring" 42 "PolynomialDesk$Ring" "variables" "I" : Cond) ∈ zT := zT_in (List.mem_append_right _ (List.mem_append_left _ (List.mem_of_getElem? (l := tables_1_1) (i := 35) rfl))) rfl
theorem mf_R_45 : (.fieldLink "PolynomialDesk$Ring" 45 "PolynomialDesk$Ring" "order" "I" : Cond) ∈ zT := zT_in (List.mem_append_right _ (List.mem_append_left _ (List.mem_of_getElem? (l := tables_1_1) (i := 36) rfl))) rfl
theorem mf_R_51 : (.fieldLink "PolynomialDesk$Ring" 51 "PolynomialDesk$Ring" "highest" "I" : Cond) ∈ zT := zT_in (List.mem_append_right _ (List.mem_append_left _ (List.mem_of_getElem? (l := tables_1_1) (i := 37) rfl))) rfl
theorem mf_R_54 : (.fieldLink "PolynomialDesk$Ring" 54 "PolynomialDesk$Ring" "count" "I" : Cond) ∈ zT := zT_in (List.mem_append_right _ (List.mem_append_left _ (List.mem_of_getElem? (l := tables_1_1) (i := 38) rfl))) rfl
theorem mf_R_13 : (.fieldLink "PolynomialDesk$Ring" 13 "PolynomialDesk$Ring" "exponents" "[[I" : Cond) ∈ zT := zT_in (List.mem_append_right _ (List.mem_append_left _ (List.mem_of_getElem? (l := tables_1_1) (i := 39) rfl))) rfl
theorem mf_R_16 : (.fieldLink "PolynomialDesk$Ring" 16 "PolynomialDesk$Ring" "degrees" "[I" : Cond) ∈ zT := zT_in (List.mem_append_right _ (List.mem_append_left _ (List.mem_of_getElem? (l := tables_1_1) (i := 40) rfl))) rfl
theorem mf_R_20 : (.fieldLink "PolynomialDesk$Ring" 20 "PolynomialDesk$Ring" "keys" "[I" : Cond) ∈ zT := zT_in (List.mem_append_right _ (List.mem_append_left _ (List.mem_of_getElem? (l := tables_1_1) (i := 41) rfl))) rfl
theorem mf_R_23 : (.fieldLink "PolynomialDesk$Ring" 23 "PolynomialDesk$Ring" "weights" "[I" : Cond) ∈ zT := zT_in (List.mem_append_right _ (List.mem_append_left _ (List.mem_of_getElem? (l := tables_1_1) (i := 42) rfl))) rfl
theorem mf_R_26 : (.fieldLink "PolynomialDesk$Ring" 26 "PolynomialDesk$Ring" "indexes" "[I" : Cond) ∈ zT := zT_in (List.mem_append_right _ (List.mem_append_left _ (List.mem_of_getElem? (l := tables_1_1) (i := 43) rfl))) rfl
theorem mf_R_29 : (.fieldLink "PolynomialDesk$Ring" 29 "PolynomialDesk$Ring" "chosen" "[I" : Cond) ∈ zT := zT_in (List.mem_append_right _ (List.mem_append_left _ (List.mem_of_getElem? (l := tables_1_1) (i := 44) rfl))) rfl
theorem mf_R_32 : (.fieldLink "PolynomialDesk$Ring" 32 "PolynomialDesk$Ring" "scratch" "[I" : Cond) ∈ zT := zT_in (List.mem_append_right _ (List.mem_append_left _ (List.mem_of_getElem? (l := tables_1_1) (i := 45) rfl))) rfl
theorem mf_R_35 : (.fieldLink "PolynomialDesk$Ring" 35 "PolynomialDesk$Ring" "base" "[I" : Cond) ∈ zT := zT_in (List.mem_append_right _ (List.mem_append_left _ (List.mem_of_getElem? (l := tables_1_1) (i := 46) rfl))) rfl
theorem ma_int : (.arrayClass .int : Cond) ∈ zT := zT_in (List.mem_append_right _ (List.mem_append_left _ (List.mem_of_getElem? (l := tables_1_1) (i := 74) rfl))) rfl
theorem ml_K_16 : (.methodLink "PolynomialDesk" 16 yR_prepare : Cond) ∈ zT := zT_in (List.mem_append_right _ (List.mem_append_left _ (List.mem_of_getElem? (l := tables_1_1) (i := 75) rfl))) rfl
theorem mi_R_prepare : (.instanceMethod yR_prepare : Cond) ∈ zT := zT_in (List.mem_append_right _ (List.mem_append_left _ (List.mem_of_getElem? (l := tables_1_1) (i := 76) rfl))) rfl
theorem ms_R_prepare : (.selects "PolynomialDesk$Ring" yR_prepare yR_prepare : Cond) ∈ zT := zT_in (List.mem_append_right _ (List.mem_append_left _ (List.mem_of_getElem? (l := tables_1_1) (i := 77) rfl))) rfl
theorem mf_R_48 : (.fieldLink "PolynomialDesk$Ring" 48 "PolynomialDesk$Ring" "HIGHEST" "[I" : Cond) ∈ zT := zT_in (List.mem_append_right _ (List.mem_append_left _ (List.mem_of_getElem? (l := tables_1_1) (i := 79) rfl))) rfl
theorem ml_R_57 : (.methodLink "PolynomialDesk$Ring" 57 yJ_fill : Cond) ∈ zT := zT_in (List.mem_append_right _ (List.mem_append_left _ (List.mem_of_getElem? (l := tables_1_1) (i := 81) rfl))) rfl
theorem mt_J_fill : (.static yJ_fill : Cond) ∈ zT := zT_in (List.mem_append_right _ (List.mem_append_left _ (List.mem_of_getElem? (l := tables_1_1) (i := 82) rfl))) rfl
theorem ml_R_63 : (.methodLink "PolynomialDesk$Ring" 63 yR_listMonomials : Cond) ∈ zT := zT_in (List.mem_append_right _ (List.mem_append_left _ (List.mem_of_getElem? (l := tables_1_1) (i := 84) rfl))) rfl
theorem mi_R_listMonomials : (.instanceMethod yR_listMonomials : Cond) ∈ zT := zT_in (List.mem_append_right _ (List.mem_append_left _ (List.mem_of_getElem? (l := tables_1_1) (i := 86) rfl))) rfl
theorem ml_R_67 : (.methodLink "PolynomialDesk$Ring" 67 yR_recordMonomial : Cond) ∈ zT := zT_in (List.mem_append_right _ (List.mem_append_left _ (List.mem_of_getElem? (l := tables_1_1) (i := 88) rfl))) rfl
theorem mi_R_recordMonomial : (.instanceMethod yR_recordMonomial : Cond) ∈ zT := zT_in (List.mem_append_right _ (List.mem_append_left _ (List.mem_of_getElem? (l := tables_1_1) (i := 90) rfl))) rfl
theorem mc_K_20 : (.classLink "PolynomialDesk" 20 "PolynomialDesk$Reader" : Cond) ∈ zT := zT_in (List.mem_append_right _ (List.mem_append_left _ (List.mem_of_getElem? (l := tables_1_1) (i := 92) rfl))) rfl
theorem mb_E : (.instantiable "PolynomialDesk$Reader" 9 : Cond) ∈ zT := zT_in (List.mem_append_right _ (List.mem_append_left _ (List.mem_of_getElem? (l := tables_1_1) (i := 93) rfl))) rfl
theorem ml_K_22 : (.methodLink "PolynomialDesk" 22 yE_init : Cond) ∈ zT := zT_in (List.mem_append_right _ (List.mem_append_left _ (List.mem_of_getElem? (l := tables_1_1) (i := 94) rfl))) rfl
theorem mi_E_init : (.instanceMethod yE_init : Cond) ∈ zT := zT_in (List.mem_append_right _ (List.mem_append_left _ (List.mem_of_getElem? (l := tables_1_1) (i := 95) rfl))) rfl
theorem ml_E_3 : (.methodLink "PolynomialDesk$Reader" 3 ⟨"java/lang/Object", "<init>", "()V"⟩ : Cond) ∈ zT := zT_in (List.mem_append_right _ (List.mem_append_left _ (List.mem_of_getElem? (l := tables_1_1) (i := 97) rfl))) rfl
theorem mc_E_25 : (.classLink "PolynomialDesk$Reader" 25 "[[I" : Cond) ∈ zT := zT_in (List.mem_append_right _ (List.mem_append_left _ (List.mem_of_getElem? (l := tables_1_1) (i := 98) rfl))) rfl
theorem mf_E_9 : (.fieldLink "PolynomialDesk$Reader" 9 "PolynomialDesk$Reader" "ring" "LPolynomialDesk$Ring;" : Cond) ∈ zT := zT_in (List.mem_append_right _ (List.mem_append_left _ (List.mem_of_getElem? (l := tables_1_1) (i := 99) rfl))) rfl
theorem mf_E_15 : (.fieldLink "PolynomialDesk$Reader" 15 "PolynomialDesk$Reader" "text" "[C" : Cond) ∈ zT := zT_in (List.mem_append_right _ (List.mem_append_left _ (List.mem_of_getElem? (l := tables_1_1) (i := 100) rfl))) rfl
theorem mf_E_37 : (.fieldLink "PolynomialDesk$Reader" 37 "PolynomialDesk$Reader" "length" "I" : Cond) ∈ zT := zT_in (List.mem_append_right _ (List.mem_append_left _ (List.mem_of_getElem? (l := tables_1_1) (i := 101) rfl))) rfl
theorem mf_E_45 : (.fieldLink "PolynomialDesk$Reader" 45 "PolynomialDesk$Reader" "at" "I" : Cond) ∈ zT := zT_in (List.mem_append_right _ (List.mem_append_left _ (List.mem_of_getElem? (l := tables_1_1) (i := 102) rfl))) rfl
theorem mf_E_42 : (.fieldLink "PolynomialDesk$Reader" 42 "PolynomialDesk$Reader" "fault" "I" : Cond) ∈ zT := zT_in (List.mem_append_right _ (List.mem_append_left _ (List.mem_of_getElem? (l := tables_1_1) (i := 103) rfl))) rfl
theorem mf_E_19 : (.fieldLink "PolynomialDesk$Reader" 19 "PolynomialDesk$Reader" "place" "I" : Cond) ∈ zT := zT_in (List.mem_append_right _ (List.mem_append_left _ (List.mem_of_getElem? (l := tables_1_1) (i := 104) rfl))) rfl
theorem mf_E_27 : (.fieldLink "PolynomialDesk$Reader" 27 "PolynomialDesk$Reader" "sums" "[[I" : Cond) ∈ zT := zT_in (List.mem_append_right _ (List.mem_append_left _ (List.mem_of_getElem? (l := tables_1_1) (i := 105) rfl))) rfl
theorem mf_E_30 : (.fieldLink "PolynomialDesk$Reader" 30 "PolynomialDesk$Reader" "products" "[[I" : Cond) ∈ zT := zT_in (List.mem_append_right _ (List.mem_append_left _ (List.mem_of_getElem? (l := tables_1_1) (i := 106) rfl))) rfl
theorem mf_E_33 : (.fieldLink "PolynomialDesk$Reader" 33 "PolynomialDesk$Reader" "factor" "[I" : Cond) ∈ zT := zT_in (List.mem_append_right _ (List.mem_append_left _ (List.mem_of_getElem? (l := tables_1_1) (i := 107) rfl))) rfl
theorem ma_char : (.arrayClass .char : Cond) ∈ zT := zT_in (List.mem_append_right _ (List.mem_append_left _ (List.mem_of_getElem? (l := tables_1_1) (i := 127) rfl))) rfl
theorem mc_K_29 : (.classLink "PolynomialDesk" 29 "PolynomialDesk$Printer" : Cond) ∈ zT := zT_in (List.mem_append_right _ (List.mem_append_left _ (List.mem_of_getElem? (l := tables_1_1) (i := 128) rfl))) rfl
theorem mb_P : (.instantiable "PolynomialDesk$Printer" 3 : Cond) ∈ zT := zT_in (List.mem_append_right _ (List.mem_append_left _ (List.mem_of_getElem? (l := tables_1_1) (i := 129) rfl))) rfl
theorem ml_K_31 : (.methodLink "PolynomialDesk" 31 yP_init : Cond) ∈ zT := zT_in (List.mem_append_right _ (List.mem_append_left _ (List.mem_of_getElem? (l := tables_1_1) (i := 130) rfl))) rfl
theorem mi_P_init : (.instanceMethod yP_init : Cond) ∈ zT := zT_in (List.mem_append_right _ (List.mem_append_left _ (List.mem_of_getElem? (l := tables_1_1) (i := 131) rfl))) rfl
theorem ml_P_3 : (.methodLink "PolynomialDesk$Printer" 3 ⟨"java/lang/Object", "<init>", "()V"⟩ : Cond) ∈ zT := zT_in (List.mem_append_right _ (List.mem_append_left _ (List.mem_of_getElem? (l := tables_1_1) (i := 133) rfl))) rfl
theorem mf_P_9 : (.fieldLink "PolynomialDesk$Printer" 9 "PolynomialDesk$Printer" "ring" "LPolynomialDesk$Ring;" : Cond) ∈ zT := zT_in (List.mem_append_right _ (List.mem_append_left _ (List.mem_of_getElem? (l := tables_1_1) (i := 134) rfl))) rfl
theorem mf_P_17 : (.fieldLink "PolynomialDesk$Printer" 17 "PolynomialDesk$Printer" "bytes" "[C" : Cond) ∈ zT := zT_in (List.mem_append_right _ (List.mem_append_left _ (List.mem_of_getElem? (l := tables_1_1) (i := 135) rfl))) rfl
theorem mf_P_21 : (.fieldLink "PolynomialDesk$Printer" 21 "PolynomialDesk$Printer" "length" "I" : Cond) ∈ zT := zT_in (List.mem_append_right _ (List.mem_append_left _ (List.mem_of_getElem? (l := tables_1_1) (i := 136) rfl))) rfl
theorem mc_K_36 : (.classLink "PolynomialDesk" 36 "[[I" : Cond) ∈ zT := zT_in (List.mem_append_right _ (List.mem_append_left _ (List.mem_of_getElem? (l := tables_1_1) (i := 144) rfl))) rfl
theorem mf_K_10 : (.fieldLink "PolynomialDesk" 10 "PolynomialDesk" "ring" "LPolynomialDesk$Ring;" : Cond) ∈ zT := zT_in (List.mem_append_right _ (List.mem_append_left _ (List.mem_of_getElem? (l := tables_1_1) (i := 145) rfl))) rfl
theorem mf_K_25 : (.fieldLink "PolynomialDesk" 25 "PolynomialDesk" "reader" "LPolynomialDesk$Reader;" : Cond) ∈ zT := zT_in (List.mem_append_right _ (List.mem_append_left _ (List.mem_of_getElem? (l := tables_1_1) (i := 146) rfl))) rfl
theorem mf_K_32 : (.fieldLink "PolynomialDesk" 32 "PolynomialDesk" "printer" "LPolynomialDesk$Printer;" : Cond) ∈ zT := zT_in (List.mem_append_right _ (List.mem_append_left _ (List.mem_of_getElem? (l := tables_1_1) (i := 147) rfl))) rfl
theorem mf_K_38 : (.fieldLink "PolynomialDesk" 38 "PolynomialDesk" "polynomials" "[[I" : Cond) ∈ zT := zT_in (List.mem_append_right _ (List.mem_append_left _ (List.mem_of_getElem? (l := tables_1_1) (i := 148) rfl))) rfl
theorem mf_K_41 : (.fieldLink "PolynomialDesk" 41 "PolynomialDesk" "numbers" "[I" : Cond) ∈ zT := zT_in (List.mem_append_right _ (List.mem_append_left _ (List.mem_of_getElem? (l := tables_1_1) (i := 149) rfl))) rfl
theorem ml_L_59 : (.methodLink "PolynomialDeskLaw" 59 yK_put : Cond) ∈ zT := zT_in (List.mem_append_right _ (List.mem_append_left _ (List.mem_of_getElem? (l := tables_1_1) (i := 161) rfl))) rfl
theorem mi_K_put : (.instanceMethod yK_put : Cond) ∈ zT := zT_in (List.mem_append_right _ (List.mem_append_left _ (List.mem_of_getElem? (l := tables_1_1) (i := 162) rfl))) rfl
theorem ms_K_put : (.selects "PolynomialDesk" yK_put yK_put : Cond) ∈ zT := zT_in (List.mem_append_right _ (List.mem_append_left _ (List.mem_of_getElem? (l := tables_1_1) (i := 163) rfl))) rfl
theorem ml_K_69 : (.methodLink "PolynomialDesk" 69 yE_takeBytes : Cond) ∈ zT := zT_in (List.mem_append_right _ (List.mem_append_left _ (List.mem_of_getElem? (l := tables_1_1) (i := 165) rfl))) rfl
theorem mi_E_takeBytes : (.instanceMethod yE_takeBytes : Cond) ∈ zT := zT_in (List.mem_append_right _ (List.mem_append_left _ (List.mem_of_getElem? (l := tables_1_1) (i := 166) rfl))) rfl
theorem ms_E_takeBytes : (.selects "PolynomialDesk$Reader" yE_takeBytes yE_takeBytes : Cond) ∈ zT := zT_in (List.mem_append_right _ (List.mem_append_left _ (List.mem_of_getElem? (l := tables_1_1) (i := 167) rfl))) rfl
theorem mq_E_40 : (.constantLong "PolynomialDesk$Reader" 40 (255) : Cond) ∈ zT := zT_in (List.mem_append_right _ (List.mem_append_left _ (List.mem_of_getElem? (l := tables_1_1) (i := 169) rfl))) rfl
theorem ml_L_68 : (.methodLink "PolynomialDeskLaw" 68 yK_fault : Cond) ∈ zT := zT_in (List.mem_append_right _ (List.mem_append_left _ (List.mem_of_getElem? (l := tables_1_1) (i := 170) rfl))) rfl
theorem mi_K_fault : (.instanceMethod yK_fault : Cond) ∈ zT := zT_in (List.mem_append_right _ (List.mem_append_left _ (List.mem_of_getElem? (l := tables_1_1) (i := 171) rfl))) rfl
theorem ms_K_fault : (.selects "PolynomialDesk" yK_fault yK_fault : Cond) ∈ zT := zT_in (List.mem_append_right _ (List.mem_append_left _ (List.mem_of_getElem? (l := tables_1_1) (i := 172) rfl))) rfl
theorem ml_K_87 : (.methodLink "PolynomialDesk" 87 yE_latestFault : Cond) ∈ zT := zT_in (List.mem_append_right _ (List.mem_append_left _ (List.mem_of_getElem? (l := tables_1_1) (i := 174) rfl))) rfl
theorem mi_E_latestFault : (.instanceMethod yE_latestFault : Cond) ∈ zT := zT_in (List.mem_append_right _ (List.mem_append_left _ (List.mem_of_getElem? (l := tables_1_1) (i := 175) rfl))) rfl
theorem ms_E_latestFault : (.selects "PolynomialDesk$Reader" yE_latestFault yE_latestFault : Cond) ∈ zT := zT_in (List.mem_append_right _ (List.mem_append_left _ (List.mem_of_getElem? (l := tables_1_1) (i := 176) rfl))) rfl
theorem ml_K_91 : (.methodLink "PolynomialDesk" 91 yE_latestPlace : Cond) ∈ zT := zT_in (List.mem_append_right _ (List.mem_append_left _ (List.mem_of_getElem? (l := tables_1_1) (i := 178) rfl))) rfl
theorem mi_E_latestPlace : (.instanceMethod yE_latestPlace : Cond) ∈ zT := zT_in (List.mem_append_right _ (List.mem_append_left _ (List.mem_of_getElem? (l := tables_1_1) (i := 179) rfl))) rfl
theorem ms_E_latestPlace : (.selects "PolynomialDesk$Reader" yE_latestPlace yE_latestPlace : Cond) ∈ zT := zT_in (List.mem_append_right _ (List.mem_append_left _ (List.mem_of_getElem? (l := tables_1_1) (i := 180) rfl))) rfl
theorem ml_L_89 : (.methodLink "PolynomialDeskLaw" 89 yK_about : Cond) ∈ zT := zT_in (List.mem_append_right _ (List.mem_append_left _ (List.mem_of_getElem? (l := tables_1_1) (i := 182) rfl))) rfl
theorem mi_K_about : (.instanceMethod yK_about : Cond) ∈ zT := zT_in (List.mem_append_right _ (List.mem_append_left _ (List.mem_of_getElem? (l := tables_1_1) (i := 183) rfl))) rfl
theorem ms_K_about : (.selects "PolynomialDesk" yK_about yK_about : Cond) ∈ zT := zT_in (List.mem_append_right _ (List.mem_append_left _ (List.mem_of_getElem? (l := tables_1_1) (i := 184) rfl))) rfl
theorem ml_K_126 : (.methodLink "PolynomialDesk" 126 yK_isPolynomial : Cond) ∈ zT := zT_in (List.mem_append_right _ (List.mem_append_left _ (List.mem_of_getElem? (l := tables_1_1) (i := 186) rfl))) rfl
theorem mt_K_isPolynomial : (.static yK_isPolynomial : Cond) ∈ zT := zT_in (List.mem_append_right _ (List.mem_append_left _ (List.mem_of_getElem? (l := tables_1_1) (i := 187) rfl))) rfl
theorem ml_K_83 : (.methodLink "PolynomialDesk" 83 yR_countTerms : Cond) ∈ zT := zT_in (List.mem_append_right _ (List.mem_append_left _ (List.mem_of_getElem? (l := tables_1_1) (i := 189) rfl))) rfl
theorem mi_R_countTerms : (.instanceMethod yR_countTerms : Cond) ∈ zT := zT_in (List.mem_append_right _ (List.mem_append_left _ (List.mem_of_getElem? (l := tables_1_1) (i := 190) rfl))) rfl
theorem ms_R_countTerms : (.selects "PolynomialDesk$Ring" yR_countTerms yR_countTerms : Cond) ∈ zT := zT_in (List.mem_append_right _ (List.mem_append_left _ (List.mem_of_getElem? (l := tables_1_1) (i := 191) rfl))) rfl
theorem ml_K_129 : (.methodLink "PolynomialDesk" 129 yR_degreeOf : Cond) ∈ zT := zT_in (List.mem_append_right _ (List.mem_append_left _ (List.mem_of_getElem? (l := tables_1_1) (i := 193) rfl))) rfl
theorem mi_R_degreeOf : (.instanceMethod yR_degreeOf : Cond) ∈ zT := zT_in (List.mem_append_right _ (List.mem_append_left _ (List.mem_of_getElem? (l := tables_1_1) (i := 194) rfl))) rfl
theorem ms_R_degreeOf : (.selects "PolynomialDesk$Ring" yR_degreeOf yR_degreeOf : Cond) ∈ zT := zT_in (List.mem_append_right _ (List.mem_append_left _ (List.mem_of_getElem? (l := tables_1_1) (i := 195) rfl))) rfl
theorem ml_R_71 : (.methodLink "PolynomialDesk$Ring" 71 yR_leadingOf : Cond) ∈ zT := zT_in (List.mem_append_right _ (List.mem_append_left _ (List.mem_of_getElem? (l := tables_1_1) (i := 197) rfl))) rfl
theorem mi_R_leadingOf : (.instanceMethod yR_leadingOf : Cond) ∈ zT := zT_in (List.mem_append_right _ (List.mem_append_left _ (List.mem_of_getElem? (l := tables_1_1) (i := 199) rfl))) rfl
theorem ml_L_94 : (.methodLink "PolynomialDeskLaw" 94 yK_term : Cond) ∈ zT := zT_in (List.mem_append_right _ (List.mem_append_left _ (List.mem_of_getElem? (l := tables_1_1) (i := 201) rfl))) rfl
theorem mi_K_term : (.instanceMethod yK_term : Cond) ∈ zT := zT_in (List.mem_append_right _ (List.mem_append_left _ (List.mem_of_getElem? (l := tables_1_1) (i := 202) rfl))) rfl
theorem ms_K_term : (.selects "PolynomialDesk" yK_term yK_term : Cond) ∈ zT := zT_in (List.mem_append_right _ (List.mem_append_left _ (List.mem_of_getElem? (l := tables_1_1) (i := 203) rfl))) rfl
theorem ml_K_132 : (.methodLink "PolynomialDesk" 132 yR_indexOfTerm : Cond) ∈ zT := zT_in (List.mem_append_right _ (List.mem_append_left _ (List.mem_of_getElem? (l := tables_1_1) (i := 205) rfl))) rfl
theorem mi_R_indexOfTerm : (.instanceMethod yR_indexOfTerm : Cond) ∈ zT := zT_in (List.mem_append_right _ (List.mem_append_left _ (List.mem_of_getElem? (l := tables_1_1) (i := 206) rfl))) rfl
theorem ms_R_indexOfTerm : (.selects "PolynomialDesk$Ring" yR_indexOfTerm yR_indexOfTerm : Cond) ∈ zT := zT_in (List.mem_append_right _ (List.mem_append_left _ (List.mem_of_getElem? (l := tables_1_1) (i := 207) rfl))) rfl
theorem ml_K_136 : (.methodLink "PolynomialDesk" 136 yR_exponentOf : Cond) ∈ zT := zT_in (List.mem_append_right _ (List.mem_append_left _ (List.mem_of_getElem? (l := tables_1_1) (i := 209) rfl))) rfl
theorem mi_R_exponentOf : (.instanceMethod yR_exponentOf : Cond) ∈ zT := zT_in (List.mem_append_right _ (List.mem_append_left _ (List.mem_of_getElem? (l := tables_1_1) (i := 210) rfl))) rfl
theorem ms_R_exponentOf : (.selects "PolynomialDesk$Ring" yR_exponentOf yR_exponentOf : Cond) ∈ zT := zT_in (List.mem_append_right _ (List.mem_append_left _ (List.mem_of_getElem? (l := tables_1_1) (i := 211) rfl))) rfl
theorem ml_L_102 : (.methodLink "PolynomialDeskLaw" 102 yK_output : Cond) ∈ zT := zT_in (List.mem_append_right _ (List.mem_append_left _ (List.mem_of_getElem? (l := tables_1_1) (i := 213) rfl))) rfl
theorem mi_K_output : (.instanceMethod yK_output : Cond) ∈ zT := zT_in (List.mem_append_right _ (List.mem_append_left _ (List.mem_of_getElem? (l := tables_1_1) (i := 214) rfl))) rfl
theorem ms_K_output : (.selects "PolynomialDesk" yK_output yK_output : Cond) ∈ zT := zT_in (List.mem_append_right _ (List.mem_append_left _ (List.mem_of_getElem? (l := tables_1_1) (i := 215) rfl))) rfl
theorem ml_K_143 : (.methodLink "PolynomialDesk" 143 yP_byteAt : Cond) ∈ zT := zT_in (List.mem_append_right _ (List.mem_append_left _ (List.mem_of_getElem? (l := tables_1_1) (i := 217) rfl))) rfl
theorem mi_P_byteAt : (.instanceMethod yP_byteAt : Cond) ∈ zT := zT_in (List.mem_append_right _ (List.mem_append_left _ (List.mem_of_getElem? (l := tables_1_1) (i := 218) rfl))) rfl
theorem ms_P_byteAt : (.selects "PolynomialDesk$Printer" yP_byteAt yP_byteAt : Cond) ∈ zT := zT_in (List.mem_append_right _ (List.mem_append_left _ (List.mem_of_getElem? (l := tables_1_1) (i := 219) rfl))) rfl
theorem ml_L_47 : (.methodLink "PolynomialDeskLaw" 47 yL_field : Cond) ∈ zT := zT_in (List.mem_append_right _ (List.mem_append_left _ (List.mem_of_getElem? (l := tables_1_1) (i := 221) rfl))) rfl
theorem mt_L_field : (.static yL_field : Cond) ∈ zT := zT_in (List.mem_append_right _ (List.mem_append_left _ (List.mem_of_getElem? (l := tables_1_1) (i := 222) rfl))) rfl
theorem mc_L_13 : (.classLink "PolynomialDeskLaw" 13 "java/lang/IllegalArgumentException" : Cond) ∈ zT := zT_in (List.mem_append_right _ (List.mem_append_left _ (List.mem_of_getElem? (l := tables_1_1) (i := 224) rfl))) rfl
theorem ml_L_7 : (.methodLink "PolynomialDeskLaw" 7 yK_field : Cond) ∈ zT := zT_in (List.mem_append_right _ (List.mem_append_left _ (List.mem_of_getElem? (l := tables_1_1) (i := 225) rfl))) rfl
theorem mi_K_field : (.instanceMethod yK_field : Cond) ∈ zT := zT_in (List.mem_append_right _ (List.mem_append_left _ (List.mem_of_getElem? (l := tables_1_1) (i := 226) rfl))) rfl
theorem ms_K_field : (.selects "PolynomialDesk" yK_field yK_field : Cond) ∈ zT := zT_in (List.mem_append_right _ (List.mem_append_left _ (List.mem_of_getElem? (l := tables_1_1) (i := 227) rfl))) rfl
theorem ml_K_45 : (.methodLink "PolynomialDesk" 45 yK_isPrime : Cond) ∈ zT := zT_in (List.mem_append_right _ (List.mem_append_left _ (List.mem_of_getElem? (l := tables_1_1) (i := 229) rfl))) rfl
theorem mt_K_isPrime : (.static yK_isPrime : Cond) ∈ zT := zT_in (List.mem_append_right _ (List.mem_append_left _ (List.mem_of_getElem? (l := tables_1_1) (i := 230) rfl))) rfl
theorem mc_K_49 : (.classLink "PolynomialDesk" 49 "java/lang/IllegalArgumentException" : Cond) ∈ zT := zT_in (List.mem_append_right _ (List.mem_append_left _ (List.mem_of_getElem? (l := tables_1_1) (i := 232) rfl))) rfl
theorem ml_K_53 : (.methodLink "PolynomialDesk" 53 ⟨"java/lang/IllegalArgumentException", "<init>", "(Ljava/lang/String;)V"⟩ : Cond) ∈ zT := zT_in (List.mem_append_right _ (List.mem_append_right _ (List.mem_append_left _ (List.mem_of_getElem? (l := tables_1_2) (i := 34) rfl)))) rfl
theorem ma_byte : (.arrayClass .byte : Cond) ∈ zT := zT_in (List.mem_append_right _ (List.mem_append_right _ (List.mem_append_left _ (List.mem_of_getElem? (l := tables_1_2) (i := 59) rfl)))) rfl
theorem ml_K_60 : (.methodLink "PolynomialDesk" 60 yJ_fill : Cond) ∈ zT := zT_in (List.mem_append_right _ (List.mem_append_right _ (List.mem_append_left _ (List.mem_of_getElem? (l := tables_1_2) (i := 62) rfl)))) rfl
theorem ml_K_66 : (.methodLink "PolynomialDesk" 66 yP_clear : Cond) ∈ zT := zT_in (List.mem_append_right _ (List.mem_append_right _ (List.mem_append_left _ (List.mem_of_getElem? (l := tables_1_2) (i := 63) rfl)))) rfl
theorem mi_P_clear : (.instanceMethod yP_clear : Cond) ∈ zT := zT_in (List.mem_append_right _ (List.mem_append_right _ (List.mem_append_left _ (List.mem_of_getElem? (l := tables_1_2) (i := 64) rfl)))) rfl
theorem ms_P_clear : (.selects "PolynomialDesk$Printer" yP_clear yP_clear : Cond) ∈ zT := zT_in (List.mem_append_right _ (List.mem_append_right _ (List.mem_append_left _ (List.mem_of_getElem? (l := tables_1_2) (i := 65) rfl)))) rfl
theorem ml_L_64 : (.methodLink "PolynomialDeskLaw" 64 yL_read : Cond) ∈ zT := zT_in (List.mem_append_right _ (List.mem_append_right _ (List.mem_append_left _ (List.mem_of_getElem? (l := tables_1_2) (i := 67) rfl)))) rfl
theorem mt_L_read : (.static yL_read : Cond) ∈ zT := zT_in (List.mem_append_right _ (List.mem_append_right _ (List.mem_append_left _ (List.mem_of_getElem? (l := tables_1_2) (i := 68) rfl)))) rfl
theorem mc_L_19 : (.classLink "PolynomialDeskLaw" 19 "java/lang/IndexOutOfBoundsException" : Cond) ∈ zT := zT_in (List.mem_append_right _ (List.mem_append_right _ (List.mem_append_left _ (List.mem_of_getElem? (l := tables_1_2) (i := 70) rfl)))) rfl
theorem ml_L_15 : (.methodLink "PolynomialDeskLaw" 15 yK_read : Cond) ∈ zT := zT_in (List.mem_append_right _ (List.mem_append_right _ (List.mem_append_left _ (List.mem_of_getElem? (l := tables_1_2) (i := 71) rfl)))) rfl
theorem mi_K_read : (.instanceMethod yK_read : Cond) ∈ zT := zT_in (List.mem_append_right _ (List.mem_append_right _ (List.mem_append_left _ (List.mem_of_getElem? (l := tables_1_2) (i := 72) rfl)))) rfl
theorem ms_K_read : (.selects "PolynomialDesk" yK_read yK_read : Cond) ∈ zT := zT_in (List.mem_append_right _ (List.mem_append_right _ (List.mem_append_left _ (List.mem_of_getElem? (l := tables_1_2) (i := 73) rfl)))) rfl
theorem ml_K_73 : (.methodLink "PolynomialDesk" 73 yK_requirePolynomial : Cond) ∈ zT := zT_in (List.mem_append_right _ (List.mem_append_right _ (List.mem_append_left _ (List.mem_of_getElem? (l := tables_1_2) (i := 75) rfl)))) rfl
theorem mt_K_requirePolynomial : (.static yK_requirePolynomial : Cond) ∈ zT := zT_in (List.mem_append_right _ (List.mem_append_right _ (List.mem_append_left _ (List.mem_of_getElem? (l := tables_1_2) (i := 76) rfl)))) rfl
theorem mc_K_147 : (.classLink "PolynomialDesk" 147 "java/lang/IndexOutOfBoundsException" : Cond) ∈ zT := zT_in (List.mem_append_right _ (List.mem_append_right _ (List.mem_append_left _ (List.mem_of_getElem? (l := tables_1_2) (i := 78) rfl)))) rfl
theorem ml_K_151 : (.methodLink "PolynomialDesk" 151 ⟨"java/lang/IndexOutOfBoundsException", "<init>", "(Ljava/lang/String;)V"⟩ : Cond) ∈ zT := zT_in (List.mem_append_right _ (List.mem_append_right _ (List.mem_append_left _ (List.mem_of_getElem? (l := tables_1_2) (i := 88) rfl)))) rfl
theorem ml_K_77 : (.methodLink "PolynomialDesk" 77 yE_readText : Cond) ∈ zT := zT_in (List.mem_append_right _ (List.mem_append_right _ (List.mem_append_left _ (List.mem_of_getElem? (l := tables_1_2) (i := 94) rfl)))) rfl
theorem mi_E_readText : (.instanceMethod yE_readText : Cond) ∈ zT := zT_in (List.mem_append_right _ (List.mem_append_right _ (List.mem_append_left _ (List.mem_of_getElem? (l := tables_1_2) (i := 95) rfl)))) rfl
theorem ms_E_readText : (.selects "PolynomialDesk$Reader" yE_readText yE_readText : Cond) ∈ zT := zT_in (List.mem_append_right _ (List.mem_append_right _ (List.mem_append_left _ (List.mem_of_getElem? (l := tables_1_2) (i := 96) rfl)))) rfl
theorem ml_E_48 : (.methodLink "PolynomialDesk$Reader" 48 yE_readSum : Cond) ∈ zT := zT_in (List.mem_append_right _ (List.mem_append_right _ (List.mem_append_left _ (List.mem_of_getElem? (l := tables_1_2) (i := 98) rfl)))) rfl
theorem mi_E_readSum : (.instanceMethod yE_readSum : Cond) ∈ zT := zT_in (List.mem_append_right _ (List.mem_append_right _ (List.mem_append_left _ (List.mem_of_getElem? (l := tables_1_2) (i := 100) rfl)))) rfl
theorem ml_E_64 : (.methodLink "PolynomialDesk$Reader" 64 yJ_fill : Cond) ∈ zT := zT_in (List.mem_append_right _ (List.mem_append_right _ (List.mem_append_left _ (List.mem_of_getElem? (l := tables_1_2) (i := 102) rfl)))) rfl
theorem ml_E_52 : (.methodLink "PolynomialDesk$Reader" 52 yE_nextByte : Cond) ∈ zT := zT_in (List.mem_append_right _ (List.mem_append_right _ (List.mem_append_left _ (List.mem_of_getElem? (l := tables_1_2) (i := 103) rfl)))) rfl
theorem mi_E_nextByte : (.instanceMethod yE_nextByte : Cond) ∈ zT := zT_in (List.mem_append_right _ (List.mem_append_right _ (List.mem_append_left _ (List.mem_of_getElem? (l := tables_1_2) (i := 105) rfl)))) rfl
theorem ml_E_70 : (.methodLink "PolynomialDesk$Reader" 70 yE_readTerm : Cond) ∈ zT := zT_in (List.mem_append_right _ (List.mem_append_right _ (List.mem_append_left _ (List.mem_of_getElem? (l := tables_1_2) (i := 107) rfl)))) rfl
theorem mi_E_readTerm : (.instanceMethod yE_readTerm : Cond) ∈ zT := zT_in (List.mem_append_right _ (List.mem_append_right _ (List.mem_append_left _ (List.mem_of_getElem? (l := tables_1_2) (i := 109) rfl)))) rfl
theorem ml_E_81 : (.methodLink "PolynomialDesk$Reader" 81 yE_readFactor : Cond) ∈ zT := zT_in (List.mem_append_right _ (List.mem_append_right _ (List.mem_append_left _ (List.mem_of_getElem? (l := tables_1_2) (i := 111) rfl)))) rfl
theorem mi_E_readFactor : (.instanceMethod yE_readFactor : Cond) ∈ zT := zT_in (List.mem_append_right _ (List.mem_append_right _ (List.mem_append_left _ (List.mem_of_getElem? (l := tables_1_2) (i := 113) rfl)))) rfl
theorem ml_E_92 : (.methodLink "PolynomialDesk$Reader" 92 yE_readBareFactor : Cond) ∈ zT := zT_in (List.mem_append_right _ (List.mem_append_right _ (List.mem_append_left _ (List.mem_of_getElem? (l := tables_1_2) (i := 115) rfl)))) rfl
theorem mi_E_readBareFactor : (.instanceMethod yE_readBareFactor : Cond) ∈ zT := zT_in (List.mem_append_right _ (List.mem_append_right _ (List.mem_append_left _ (List.mem_of_getElem? (l := tables_1_2) (i := 117) rfl)))) rfl
theorem ml_E_107 : (.methodLink "PolynomialDesk$Reader" 107 yE_variableOf : Cond) ∈ zT := zT_in (List.mem_append_right _ (List.mem_append_right _ (List.mem_append_left _ (List.mem_of_getElem? (l := tables_1_2) (i := 119) rfl)))) rfl
theorem mt_E_variableOf : (.static yE_variableOf : Cond) ∈ zT := zT_in (List.mem_append_right _ (List.mem_append_right _ (List.mem_append_left _ (List.mem_of_getElem? (l := tables_1_2) (i := 120) rfl)))) rfl
theorem ml_E_110 : (.methodLink "PolynomialDesk$Reader" 110 yE_isDigit : Cond) ∈ zT := zT_in (List.mem_append_right _ (List.mem_append_right _ (List.mem_append_left _ (List.mem_of_getElem? (l := tables_1_2) (i := 122) rfl)))) rfl
theorem mt_E_isDigit : (.static yE_isDigit : Cond) ∈ zT := zT_in (List.mem_append_right _ (List.mem_append_right _ (List.mem_append_left _ (List.mem_of_getElem? (l := tables_1_2) (i := 123) rfl)))) rfl
theorem ml_E_95 : (.methodLink "PolynomialDesk$Reader" 95 yE_readNumber : Cond) ∈ zT := zT_in (List.mem_append_right _ (List.mem_append_right _ (List.mem_append_left _ (List.mem_of_getElem? (l := tables_1_2) (i := 125) rfl)))) rfl
theorem mi_E_readNumber : (.instanceMethod yE_readNumber : Cond) ∈ zT := zT_in (List.mem_append_right _ (List.mem_append_right _ (List.mem_append_left _ (List.mem_of_getElem? (l := tables_1_2) (i := 127) rfl)))) rfl
theorem ml_E_56 : (.methodLink "PolynomialDesk$Reader" 56 yE_noteFault : Cond) ∈ zT := zT_in (List.mem_append_right _ (List.mem_append_right _ (List.mem_append_left _ (List.mem_of_getElem? (l := tables_1_2) (i := 129) rfl)))) rfl
theorem mi_E_noteFault : (.instanceMethod yE_noteFault : Cond) ∈ zT := zT_in (List.mem_append_right _ (List.mem_append_right _ (List.mem_append_left _ (List.mem_of_getElem? (l := tables_1_2) (i := 131) rfl)))) rfl
theorem ml_E_113 : (.methodLink "PolynomialDesk$Reader" 113 yR_writeNumber : Cond) ∈ zT := zT_in (List.mem_append_right _ (List.mem_append_right _ (List.mem_append_left _ (List.mem_of_getElem? (l := tables_1_2) (i := 133) rfl)))) rfl
theorem mi_R_writeNumber : (.instanceMethod yR_writeNumber : Cond) ∈ zT := zT_in (List.mem_append_right _ (List.mem_append_right _ (List.mem_append_left _ (List.mem_of_getElem? (l := tables_1_2) (i := 134) rfl)))) rfl
theorem ms_R_writeNumber : (.selects "PolynomialDesk$Ring" yR_writeNumber yR_writeNumber : Cond) ∈ zT := zT_in (List.mem_append_right _ (List.mem_append_right _ (List.mem_append_left _ (List.mem_of_getElem? (l := tables_1_2) (i := 135) rfl)))) rfl
theorem ml_R_78 : (.methodLink "PolynomialDesk$Ring" 78 yR_reduce : Cond) ∈ zT := zT_in (List.mem_append_right _ (List.mem_append_right _ (List.mem_append_left _ (List.mem_of_getElem? (l := tables_1_2) (i := 137) rfl)))) rfl
theorem mi_R_reduce : (.instanceMethod yR_reduce : Cond) ∈ zT := zT_in (List.mem_append_right _ (List.mem_append_right _ (List.mem_append_left _ (List.mem_of_getElem? (l := tables_1_2) (i := 139) rfl)))) rfl
theorem ml_R_82 : (.methodLink "PolynomialDesk$Ring" 82 yR_addAt : Cond) ∈ zT := zT_in (List.mem_append_right _ (List.mem_append_right _ (List.mem_append_left _ (List.mem_of_getElem? (l := tables_1_2) (i := 141) rfl)))) rfl
theorem mi_R_addAt : (.instanceMethod yR_addAt : Cond) ∈ zT := zT_in (List.mem_append_right _ (List.mem_append_right _ (List.mem_append_left _ (List.mem_of_getElem? (l := tables_1_2) (i := 143) rfl)))) rfl
theorem ml_E_117 : (.methodLink "PolynomialDesk$Reader" 117 yR_variables : Cond) ∈ zT := zT_in (List.mem_append_right _ (List.mem_append_right _ (List.mem_append_left _ (List.mem_of_getElem? (l := tables_1_2) (i := 145) rfl)))) rfl
theorem mi_R_variables : (.instanceMethod yR_variables : Cond) ∈ zT := zT_in (List.mem_append_right _ (List.mem_append_right _ (List.mem_append_left _ (List.mem_of_getElem? (l := tables_1_2) (i := 146) rfl)))) rfl
theorem ms_R_variables : (.selects "PolynomialDesk$Ring" yR_variables yR_variables : Cond) ∈ zT := zT_in (List.mem_append_right _ (List.mem_append_right _ (List.mem_append_left _ (List.mem_of_getElem? (l := tables_1_2) (i := 147) rfl)))) rfl
theorem ml_E_120 : (.methodLink "PolynomialDesk$Reader" 120 yR_writeVariable : Cond) ∈ zT := zT_in (List.mem_append_right _ (List.mem_append_right _ (List.mem_append_left _ (List.mem_of_getElem? (l := tables_1_2) (i := 149) rfl)))) rfl
theorem mi_R_writeVariable : (.instanceMethod yR_writeVariable : Cond) ∈ zT := zT_in (List.mem_append_right _ (List.mem_append_right _ (List.mem_append_left _ (List.mem_of_getElem? (l := tables_1_2) (i := 150) rfl)))) rfl
theorem ms_R_writeVariable : (.selects "PolynomialDesk$Ring" yR_writeVariable yR_writeVariable : Cond) ∈ zT := zT_in (List.mem_append_right _ (List.mem_append_right _ (List.mem_append_left _ (List.mem_of_getElem? (l := tables_1_2) (i := 151) rfl)))) rfl
theorem ml_E_123 : (.methodLink "PolynomialDesk$Reader" 123 yE_readGroup : Cond) ∈ zT := zT_in (List.mem_append_right _ (List.mem_append_right _ (List.mem_append_left _ (List.mem_of_getElem? (l := tables_1_2) (i := 153) rfl)))) rfl
theorem mi_E_readGroup : (.instanceMethod yE_readGroup : Cond) ∈ zT := zT_in (List.mem_append_right _ (List.mem_append_right _ (List.mem_append_left _ (List.mem_of_getElem? (l := tables_1_2) (i := 155) rfl)))) rfl
theorem ml_E_60 : (.methodLink "PolynomialDesk$Reader" 60 yR_writeCopy : Cond) ∈ zT := zT_in (List.mem_append_right _ (List.mem_append_right _ (List.mem_append_left _ (List.mem_of_getElem? (l := tables_1_2) (i := 157) rfl)))) rfl
theorem mi_R_writeCopy : (.instanceMethod yR_writeCopy : Cond) ∈ zT := zT_in (List.mem_append_right _ (List.mem_append_right _ (List.mem_append_left _ (List.mem_of_getElem? (l := tables_1_2) (i := 158) rfl)))) rfl
theorem ms_R_writeCopy : (.selects "PolynomialDesk$Ring" yR_writeCopy yR_writeCopy : Cond) ∈ zT := zT_in (List.mem_append_right _ (List.mem_append_right _ (List.mem_append_left _ (List.mem_of_getElem? (l := tables_1_2) (i := 159) rfl)))) rfl
theorem ml_R_86 : (.methodLink "PolynomialDesk$Ring" 86 ⟨"java/lang/System", "arraycopy", "(Ljava/lang/Object;ILjava/lang/Object;II)V"⟩ : Cond) ∈ zT := zT_in (List.mem_append_right _ (List.mem_append_right _ (List.mem_append_left _ (List.mem_of_getElem? (l := tables_1_2) (i := 161) rfl)))) rfl
theorem mt_copy : (.static ⟨"java/lang/System", "arraycopy", "(Ljava/lang/Object;ILjava/lang/Object;II)V"⟩ : Cond) ∈ zT := zT_in (List.mem_append_right _ (List.mem_append_right _ (List.mem_append_left _ (List.mem_of_getElem? (l := tables_1_2) (i := 162) rfl)))) rfl
theorem mx_copy : (.native ⟨"java/lang/System", "arraycopy", "(Ljava/lang/Object;ILjava/lang/Object;II)V"⟩ : Cond) ∈ zT := zT_in (List.mem_append_right _ (List.mem_append_right _ (List.mem_append_left _ (List.mem_of_getElem? (l := tables_1_2) (i := 163) rfl)))) rfl
theorem ml_E_99 : (.methodLink "PolynomialDesk$Reader" 99 yR_isPowerTooHigh : Cond) ∈ zT := zT_in (List.mem_append_right _ (List.mem_append_right _ (List.mem_append_left _ (List.mem_of_getElem? (l := tables_1_2) (i := 164) rfl)))) rfl
theorem mi_R_isPowerTooHigh : (.instanceMethod yR_isPowerTooHigh : Cond) ∈ zT := zT_in (List.mem_append_right _ (List.mem_append_right _ (List.mem_append_left _ (List.mem_of_getElem? (l := tables_1_2) (i := 165) rfl)))) rfl
theorem ms_R_isPowerTooHigh : (.selects "PolynomialDesk$Ring" yR_isPowerTooHigh yR_isPowerTooHigh : Cond) ∈ zT := zT_in (List.mem_append_right _ (List.mem_append_right _ (List.mem_append_left _ (List.mem_of_getElem? (l := tables_1_2) (i := 166) rfl)))) rfl
theorem ml_R_75 : (.methodLink "PolynomialDesk$Ring" 75 yR_degreeOf : Cond) ∈ zT := zT_in (List.mem_append_right _ (List.mem_append_right _ (List.mem_append_left _ (List.mem_of_getElem? (l := tables_1_2) (i := 168) rfl)))) rfl
theorem ml_E_103 : (.methodLink "PolynomialDesk$Reader" 103 yR_writePower : Cond) ∈ zT := zT_in (List.mem_append_right _ (List.mem_append_right _ (List.mem_append_left _ (List.mem_of_getElem? (l := tables_1_2) (i := 169) rfl)))) rfl
theorem mi_R_writePower : (.instanceMethod yR_writePower : Cond) ∈ zT := zT_in (List.mem_append_right _ (List.mem_append_right _ (List.mem_append_left _ (List.mem_of_getElem? (l := tables_1_2) (i := 170) rfl)))) rfl
theorem ms_R_writePower : (.selects "PolynomialDesk$Ring" yR_writePower yR_writePower : Cond) ∈ zT := zT_in (List.mem_append_right _ (List.mem_append_right _ (List.mem_append_left _ (List.mem_of_getElem? (l := tables_1_2) (i := 171) rfl)))) rfl
theorem ml_R_92 : (.methodLink "PolynomialDesk$Ring" 92 yR_writeNumber : Cond) ∈ zT := zT_in (List.mem_append_right _ (List.mem_append_right _ (List.mem_append_left _ (List.mem_of_getElem? (l := tables_1_2) (i := 173) rfl)))) rfl
theorem ml_R_96 : (.methodLink "PolynomialDesk$Ring" 96 yR_writeProduct : Cond) ∈ zT := zT_in (List.mem_append_right _ (List.mem_append_right _ (List.mem_append_left _ (List.mem_of_getElem? (l := tables_1_2) (i := 174) rfl)))) rfl
theorem mi_R_writeProduct : (.instanceMethod yR_writeProduct : Cond) ∈ zT := zT_in (List.mem_append_right _ (List.mem_append_right _ (List.mem_append_left _ (List.mem_of_getElem? (l := tables_1_2) (i := 175) rfl)))) rfl
theorem ms_R_writeProduct : (.selects "PolynomialDesk$Ring" yR_writeProduct yR_writeProduct : Cond) ∈ zT := zT_in (List.mem_append_right _ (List.mem_append_right _ (List.mem_append_left _ (List.mem_of_getElem? (l := tables_1_2) (i := 176) rfl)))) rfl
theorem ml_E_84 : (.methodLink "PolynomialDesk$Reader" 84 yR_isProductTooHigh : Cond) ∈ zT := zT_in (List.mem_append_right _ (List.mem_append_right _ (List.mem_append_left _ (List.mem_of_getElem? (l := tables_1_2) (i := 178) rfl)))) rfl
theorem mi_R_isProductTooHigh : (.instanceMethod yR_isProductTooHigh : Cond) ∈ zT := zT_in (List.mem_append_right _ (List.mem_append_right _ (List.mem_append_left _ (List.mem_of_getElem? (l := tables_1_2) (i := 179) rfl)))) rfl
theorem ms_R_isProductTooHigh : (.selects "PolynomialDesk$Ring" yR_isProductTooHigh yR_isProductTooHigh : Cond) ∈ zT := zT_in (List.mem_append_right _ (List.mem_append_right _ (List.mem_append_left _ (List.mem_of_getElem? (l := tables_1_2) (i := 180) rfl)))) rfl
theorem ml_E_88 : (.methodLink "PolynomialDesk$Reader" 88 yR_writeProduct : Cond) ∈ zT := zT_in (List.mem_append_right _ (List.mem_append_right _ (List.mem_append_left _ (List.mem_of_getElem? (l := tables_1_2) (i := 182) rfl)))) rfl
theorem ml_E_73 : (.methodLink "PolynomialDesk$Reader" 73 yR_writeSum : Cond) ∈ zT := zT_in (List.mem_append_right _ (List.mem_append_right _ (List.mem_append_left _ (List.mem_of_getElem? (l := tables_1_2) (i := 183) rfl)))) rfl
theorem mi_R_writeSum : (.instanceMethod yR_writeSum : Cond) ∈ zT := zT_in (List.mem_append_right _ (List.mem_append_right _ (List.mem_append_left _ (List.mem_of_getElem? (l := tables_1_2) (i := 184) rfl)))) rfl
theorem ms_R_writeSum : (.selects "PolynomialDesk$Ring" yR_writeSum yR_writeSum : Cond) ∈ zT := zT_in (List.mem_append_right _ (List.mem_append_right _ (List.mem_append_left _ (List.mem_of_getElem? (l := tables_1_2) (i := 185) rfl)))) rfl
theorem ml_E_77 : (.methodLink "PolynomialDesk$Reader" 77 yE_isSign : Cond) ∈ zT := zT_in (List.mem_append_right _ (List.mem_append_right _ (List.mem_append_left _ (List.mem_of_getElem? (l := tables_1_2) (i := 187) rfl)))) rfl
theorem mt_E_isSign : (.static yE_isSign : Cond) ∈ zT := zT_in (List.mem_append_right _ (List.mem_append_right _ (List.mem_append_left _ (List.mem_of_getElem? (l := tables_1_2) (i := 188) rfl)))) rfl
theorem ml_L_72 : (.methodLink "PolynomialDeskLaw" 72 yL_add : Cond) ∈ zT := zT_in (List.mem_append_right _ (List.mem_append_right _ (List.mem_append_left _ (List.mem_of_getElem? (l := tables_1_2) (i := 191) rfl)))) rfl
theorem mt_L_add : (.static yL_add : Cond) ∈ zT := zT_in (List.mem_append_right _ (List.mem_append_right _ (List.mem_append_left _ (List.mem_of_getElem? (l := tables_1_2) (i := 192) rfl)))) rfl
theorem ml_L_21 : (.methodLink "PolynomialDeskLaw" 21 yK_add : Cond) ∈ zT := zT_in (List.mem_append_right _ (List.mem_append_right _ (List.mem_append_left _ (List.mem_of_getElem? (l := tables_1_2) (i := 194) rfl)))) rfl
theorem mi_K_add : (.instanceMethod yK_add : Cond) ∈ zT := zT_in (List.mem_append_right _ (List.mem_append_right _ (List.mem_append_left _ (List.mem_of_getElem? (l := tables_1_2) (i := 195) rfl)))) rfl
theorem ms_K_add : (.selects "PolynomialDesk" yK_add yK_add : Cond) ∈ zT := zT_in (List.mem_append_right _ (List.mem_append_right _ (List.mem_append_left _ (List.mem_of_getElem? (l := tables_1_2) (i := 196) rfl)))) rfl
theorem ml_K_94 : (.methodLink "PolynomialDesk" 94 yR_writeSum : Cond) ∈ zT := zT_in (List.mem_append_right _ (List.mem_append_right _ (List.mem_append_left _ (List.mem_of_getElem? (l := tables_1_2) (i := 198) rfl)))) rfl
theorem ml_L_76 : (.methodLink "PolynomialDeskLaw" 76 yL_multiply : Cond) ∈ zT := zT_in (List.mem_append_right _ (List.mem_append_right _ (List.mem_append_left _ (List.mem_of_getElem? (l := tables_1_2) (i := 199) rfl)))) rfl
theorem mt_L_multiply : (.static yL_multiply : Cond) ∈ zT := zT_in (List.mem_append_right _ (List.mem_append_right _ (List.mem_append_left _ (List.mem_of_getElem? (l := tables_1_2) (i := 200) rfl)))) rfl
theorem mc_L_28 : (.classLink "PolynomialDeskLaw" 28 "java/lang/IllegalStateException" : Cond) ∈ zT := zT_in (List.mem_append_right _ (List.mem_append_right _ (List.mem_append_left _ (List.mem_of_getElem? (l := tables_1_2) (i := 202) rfl)))) rfl
theorem ml_L_25 : (.methodLink "PolynomialDeskLaw" 25 yK_multiply : Cond) ∈ zT := zT_in (List.mem_append_right _ (List.mem_append_right _ (List.mem_append_left _ (List.mem_of_getElem? (l := tables_1_2) (i := 203) rfl)))) rfl
theorem mi_K_multiply : (.instanceMethod yK_multiply : Cond) ∈ zT := zT_in (List.mem_append_right _ (List.mem_append_right _ (List.mem_append_left _ (List.mem_of_getElem? (l := tables_1_2) (i := 204) rfl)))) rfl
theorem ms_K_multiply : (.selects "PolynomialDesk" yK_multiply yK_multiply : Cond) ∈ zT := zT_in (List.mem_append_right _ (List.mem_append_right _ (List.mem_append_left _ (List.mem_of_getElem? (l := tables_1_2) (i := 205) rfl)))) rfl
theorem ml_K_98 : (.methodLink "PolynomialDesk" 98 yR_isProductTooHigh : Cond) ∈ zT := zT_in (List.mem_append_right _ (List.mem_append_right _ (List.mem_append_left _ (List.mem_of_getElem? (l := tables_1_2) (i := 207) rfl)))) rfl
theorem mc_K_102 : (.classLink "PolynomialDesk" 102 "java/lang/IllegalStateException" : Cond) ∈ zT := zT_in (List.mem_append_right _ (List.mem_append_right _ (List.mem_append_left _ (List.mem_of_getElem? (l := tables_1_2) (i := 208) rfl)))) rfl
theorem ml_K_106 : (.methodLink "PolynomialDesk" 106 ⟨"java/lang/IllegalStateException", "<init>", "(Ljava/lang/String;)V"⟩ : Cond) ∈ zT := zT_in (List.mem_append_right _ (List.mem_append_right _ (List.mem_append_left _ (List.mem_of_getElem? (l := tables_1_2) (i := 218) rfl)))) rfl
theorem ml_K_107 : (.methodLink "PolynomialDesk" 107 yR_writeProduct : Cond) ∈ zT := zT_in (List.mem_append_right _ (List.mem_append_right _ (List.mem_append_left _ (List.mem_of_getElem? (l := tables_1_2) (i := 224) rfl)))) rfl
theorem ml_L_79 : (.methodLink "PolynomialDeskLaw" 79 yL_derive : Cond) ∈ zT := zT_in (List.mem_append_right _ (List.mem_append_right _ (List.mem_append_left _ (List.mem_of_getElem? (l := tables_1_2) (i := 225) rfl)))) rfl
theorem mt_L_derive : (.static yL_derive : Cond) ∈ zT := zT_in (List.mem_append_right _ (List.mem_append_right _ (List.mem_append_left _ (List.mem_of_getElem? (l := tables_1_2) (i := 226) rfl)))) rfl
theorem ml_L_30 : (.methodLink "PolynomialDeskLaw" 30 yK_derive : Cond) ∈ zT := zT_in (List.mem_append_right _ (List.mem_append_right _ (List.mem_append_left _ (List.mem_of_getElem? (l := tables_1_2) (i := 228) rfl)))) rfl
theorem mi_K_derive : (.instanceMethod yK_derive : Cond) ∈ zT := zT_in (List.mem_append_right _ (List.mem_append_right _ (List.mem_append_left _ (List.mem_of_getElem? (l := tables_1_2) (i := 229) rfl)))) rfl
theorem ms_K_derive : (.selects "PolynomialDesk" yK_derive yK_derive : Cond) ∈ zT := zT_in (List.mem_append_right _ (List.mem_append_right _ (List.mem_append_left _ (List.mem_of_getElem? (l := tables_1_2) (i := 230) rfl)))) rfl
theorem ml_K_111 : (.methodLink "PolynomialDesk" 111 yK_requireVariable : Cond) ∈ zT := zT_in (List.mem_append_right _ (List.mem_append_right _ (List.mem_append_left _ (List.mem_of_getElem? (l := tables_1_2) (i := 232) rfl)))) rfl
theorem mi_K_requireVariable : (.instanceMethod yK_requireVariable : Cond) ∈ zT := zT_in (List.mem_append_right _ (List.mem_append_right _ (List.mem_append_left _ (List.mem_of_getElem? (l := tables_1_2) (i := 234) rfl)))) rfl
theorem ml_K_152 : (.methodLink "PolynomialDesk" 152 yR_variables : Cond) ∈ zT := zT_in (List.mem_append_right _ (List.mem_append_right _ (List.mem_append_left _ (List.mem_of_getElem? (l := tables_1_2) (i := 236) rfl)))) rfl
theorem ml_K_114 : (.methodLink "PolynomialDesk" 114 yR_writeDerivative : Cond) ∈ zT := zT_in (List.mem_append_right _ (List.mem_append_right _ (List.mem_append_left _ (List.mem_of_getElem? (l := tables_1_2) (i := 238) rfl)))) rfl
theorem mi_R_writeDerivative : (.instanceMethod yR_writeDerivative : Cond) ∈ zT := zT_in (List.mem_append_right _ (List.mem_append_right _ (List.mem_append_left _ (List.mem_of_getElem? (l := tables_1_2) (i := 239) rfl)))) rfl
theorem ms_R_writeDerivative : (.selects "PolynomialDesk$Ring" yR_writeDerivative yR_writeDerivative : Cond) ∈ zT := zT_in (List.mem_append_right _ (List.mem_append_right _ (List.mem_append_right _ (List.mem_append_left _ (List.mem_of_getElem? (l := tables_1_3) (i := 0) rfl))))) rfl
theorem ml_R_100 : (.methodLink "PolynomialDesk$Ring" 100 yR_exponentOf : Cond) ∈ zT := zT_in (List.mem_append_right _ (List.mem_append_right _ (List.mem_append_right _ (List.mem_append_left _ (List.mem_of_getElem? (l := tables_1_3) (i := 2) rfl))))) rfl
theorem ml_L_82 : (.methodLink "PolynomialDeskLaw" 82 yL_set : Cond) ∈ zT := zT_in (List.mem_append_right _ (List.mem_append_right _ (List.mem_append_right _ (List.mem_append_left _ (List.mem_of_getElem? (l := tables_1_3) (i := 3) rfl))))) rfl
theorem mt_L_set : (.static yL_set : Cond) ∈ zT := zT_in (List.mem_append_right _ (List.mem_append_right _ (List.mem_append_right _ (List.mem_append_left _ (List.mem_of_getElem? (l := tables_1_3) (i := 4) rfl))))) rfl
theorem ml_L_33 : (.methodLink "PolynomialDeskLaw" 33 yK_set : Cond) ∈ zT := zT_in (List.mem_append_right _ (List.mem_append_right _ (List.mem_append_right _ (List.mem_append_left _ (List.mem_of_getElem? (l := tables_1_3) (i := 6) rfl))))) rfl
theorem mi_K_set : (.instanceMethod yK_set : Cond) ∈ zT := zT_in (List.mem_append_right _ (List.mem_append_right _ (List.mem_append_right _ (List.mem_append_left _ (List.mem_of_getElem? (l := tables_1_3) (i := 7) rfl))))) rfl
theorem ms_K_set : (.selects "PolynomialDesk" yK_set yK_set : Cond) ∈ zT := zT_in (List.mem_append_right _ (List.mem_append_right _ (List.mem_append_right _ (List.mem_append_left _ (List.mem_of_getElem? (l := tables_1_3) (i := 8) rfl))))) rfl
theorem ml_K_118 : (.methodLink "PolynomialDesk" 118 yR_writeSubstitute : Cond) ∈ zT := zT_in (List.mem_append_right _ (List.mem_append_right _ (List.mem_append_right _ (List.mem_append_left _ (List.mem_of_getElem? (l := tables_1_3) (i := 10) rfl))))) rfl
theorem mi_R_writeSubstitute : (.instanceMethod yR_writeSubstitute : Cond) ∈ zT := zT_in (List.mem_append_right _ (List.mem_append_right _ (List.mem_append_right _ (List.mem_append_left _ (List.mem_of_getElem? (l := tables_1_3) (i := 11) rfl))))) rfl
theorem ms_R_writeSubstitute : (.selects "PolynomialDesk$Ring" yR_writeSubstitute yR_writeSubstitute : Cond) ∈ zT := zT_in (List.mem_append_right _ (List.mem_append_right _ (List.mem_append_right _ (List.mem_append_left _ (List.mem_of_getElem? (l := tables_1_3) (i := 12) rfl))))) rfl
theorem ml_R_104 : (.methodLink "PolynomialDesk$Ring" 104 yR_timesPower : Cond) ∈ zT := zT_in (List.mem_append_right _ (List.mem_append_right _ (List.mem_append_right _ (List.mem_append_left _ (List.mem_of_getElem? (l := tables_1_3) (i := 14) rfl))))) rfl
theorem mi_R_timesPower : (.instanceMethod yR_timesPower : Cond) ∈ zT := zT_in (List.mem_append_right _ (List.mem_append_right _ (List.mem_append_right _ (List.mem_append_left _ (List.mem_of_getElem? (l := tables_1_3) (i := 16) rfl))))) rfl
theorem ml_L_85 : (.methodLink "PolynomialDeskLaw" 85 yL_value : Cond) ∈ zT := zT_in (List.mem_append_right _ (List.mem_append_right _ (List.mem_append_right _ (List.mem_append_left _ (List.mem_of_getElem? (l := tables_1_3) (i := 18) rfl))))) rfl
theorem mt_L_value : (.static yL_value : Cond) ∈ zT := zT_in (List.mem_append_right _ (List.mem_append_right _ (List.mem_append_right _ (List.mem_append_left _ (List.mem_of_getElem? (l := tables_1_3) (i := 19) rfl))))) rfl
theorem ml_L_36 : (.methodLink "PolynomialDeskLaw" 36 yK_value : Cond) ∈ zT := zT_in (List.mem_append_right _ (List.mem_append_right _ (List.mem_append_right _ (List.mem_append_left _ (List.mem_of_getElem? (l := tables_1_3) (i := 21) rfl))))) rfl
theorem mi_K_value : (.instanceMethod yK_value : Cond) ∈ zT := zT_in (List.mem_append_right _ (List.mem_append_right _ (List.mem_append_right _ (List.mem_append_left _ (List.mem_of_getElem? (l := tables_1_3) (i := 22) rfl))))) rfl
theorem ms_K_value : (.selects "PolynomialDesk" yK_value yK_value : Cond) ∈ zT := zT_in (List.mem_append_right _ (List.mem_append_right _ (List.mem_append_right _ (List.mem_append_left _ (List.mem_of_getElem? (l := tables_1_3) (i := 23) rfl))))) rfl
theorem ml_K_122 : (.methodLink "PolynomialDesk" 122 yR_evaluate : Cond) ∈ zT := zT_in (List.mem_append_right _ (List.mem_append_right _ (List.mem_append_right _ (List.mem_append_left _ (List.mem_of_getElem? (l := tables_1_3) (i := 25) rfl))))) rfl
theorem mi_R_evaluate : (.instanceMethod yR_evaluate : Cond) ∈ zT := zT_in (List.mem_append_right _ (List.mem_append_right _ (List.mem_append_right _ (List.mem_append_left _ (List.mem_of_getElem? (l := tables_1_3) (i := 26) rfl))))) rfl
theorem ms_R_evaluate : (.selects "PolynomialDesk$Ring" yR_evaluate yR_evaluate : Cond) ∈ zT := zT_in (List.mem_append_right _ (List.mem_append_right _ (List.mem_append_right _ (List.mem_append_left _ (List.mem_of_getElem? (l := tables_1_3) (i := 27) rfl))))) rfl
theorem ml_L_99 : (.methodLink "PolynomialDeskLaw" 99 yL_print : Cond) ∈ zT := zT_in (List.mem_append_right _ (List.mem_append_right _ (List.mem_append_right _ (List.mem_append_left _ (List.mem_of_getElem? (l := tables_1_3) (i := 29) rfl))))) rfl
theorem mt_L_print : (.static yL_print : Cond) ∈ zT := zT_in (List.mem_append_right _ (List.mem_append_right _ (List.mem_append_right _ (List.mem_append_left _ (List.mem_of_getElem? (l := tables_1_3) (i := 30) rfl))))) rfl
theorem ml_L_40 : (.methodLink "PolynomialDeskLaw" 40 yK_print : Cond) ∈ zT := zT_in (List.mem_append_right _ (List.mem_append_right _ (List.mem_append_right _ (List.mem_append_left _ (List.mem_of_getElem? (l := tables_1_3) (i := 32) rfl))))) rfl
theorem mi_K_print : (.instanceMethod yK_print : Cond) ∈ zT := zT_in (List.mem_append_right _ (List.mem_append_right _ (List.mem_append_right _ (List.mem_append_left _ (List.mem_of_getElem? (l := tables_1_3) (i := 33) rfl))))) rfl
theorem ms_K_print : (.selects "PolynomialDesk" yK_print yK_print : Cond) ∈ zT := zT_in (List.mem_append_right _ (List.mem_append_right _ (List.mem_append_right _ (List.mem_append_left _ (List.mem_of_getElem? (l := tables_1_3) (i := 34) rfl))))) rfl
theorem ml_K_140 : (.methodLink "PolynomialDesk" 140 yP_writePolynomial : Cond) ∈ zT := zT_in (List.mem_append_right _ (List.mem_append_right _ (List.mem_append_right _ (List.mem_append_left _ (List.mem_of_getElem? (l := tables_1_3) (i := 36) rfl))))) rfl
theorem mi_P_writePolynomial : (.instanceMethod yP_writePolynomial : Cond) ∈ zT := zT_in (List.mem_append_right _ (List.mem_append_right _ (List.mem_append_right _ (List.mem_append_left _ (List.mem_of_getElem? (l := tables_1_3) (i := 37) rfl))))) rfl
theorem ms_P_writePolynomial : (.selects "PolynomialDesk$Printer" yP_writePolynomial yP_writePolynomial : Cond) ∈ zT := zT_in (List.mem_append_right _ (List.mem_append_right _ (List.mem_append_right _ (List.mem_append_left _ (List.mem_of_getElem? (l := tables_1_3) (i := 38) rfl))))) rfl
theorem ml_P_25 : (.methodLink "PolynomialDesk$Printer" 25 yP_clear : Cond) ∈ zT := zT_in (List.mem_append_right _ (List.mem_append_right _ (List.mem_append_right _ (List.mem_append_left _ (List.mem_of_getElem? (l := tables_1_3) (i := 40) rfl))))) rfl
theorem ml_P_28 : (.methodLink "PolynomialDesk$Printer" 28 yP_writeByte : Cond) ∈ zT := zT_in (List.mem_append_right _ (List.mem_append_right _ (List.mem_append_right _ (List.mem_append_left _ (List.mem_of_getElem? (l := tables_1_3) (i := 41) rfl))))) rfl
theorem mi_P_writeByte : (.instanceMethod yP_writeByte : Cond) ∈ zT := zT_in (List.mem_append_right _ (List.mem_append_right _ (List.mem_append_right _ (List.mem_append_left _ (List.mem_of_getElem? (l := tables_1_3) (i := 43) rfl))))) rfl
theorem ml_P_32 : (.methodLink "PolynomialDesk$Printer" 32 yP_writeTerm : Cond) ∈ zT := zT_in (List.mem_append_right _ (List.mem_append_right _ (List.mem_append_right _ (List.mem_append_left _ (List.mem_of_getElem? (l := tables_1_3) (i := 45) rfl))))) rfl
theorem mi_P_writeTerm : (.instanceMethod yP_writeTerm : Cond) ∈ zT := zT_in (List.mem_append_right _ (List.mem_append_right _ (List.mem_append_right _ (List.mem_append_left _ (List.mem_of_getElem? (l := tables_1_3) (i := 47) rfl))))) rfl
theorem ml_P_36 : (.methodLink "PolynomialDesk$Printer" 36 yP_writeNumber : Cond) ∈ zT := zT_in (List.mem_append_right _ (List.mem_append_right _ (List.mem_append_right _ (List.mem_append_left _ (List.mem_of_getElem? (l := tables_1_3) (i := 49) rfl))))) rfl
theorem mi_P_writeNumber : (.instanceMethod yP_writeNumber : Cond) ∈ zT := zT_in (List.mem_append_right _ (List.mem_append_right _ (List.mem_append_right _ (List.mem_append_left _ (List.mem_of_getElem? (l := tables_1_3) (i := 51) rfl))))) rfl
theorem ml_P_40 : (.methodLink "PolynomialDesk$Printer" 40 yR_exponentOf : Cond) ∈ zT := zT_in (List.mem_append_right _ (List.mem_append_right _ (List.mem_append_right _ (List.mem_append_left _ (List.mem_of_getElem? (l := tables_1_3) (i := 53) rfl))))) rfl
theorem ml_P_46 : (.methodLink "PolynomialDesk$Printer" 46 ⟨"java/lang/String", "charAt", "(I)C"⟩ : Cond) ∈ zT := zT_in (List.mem_append_right _ (List.mem_append_right _ (List.mem_append_right _ (List.mem_append_left _ (List.mem_of_getElem? (l := tables_1_3) (i := 55) rfl))))) rfl
theorem mc_L_44 : (.classLink "PolynomialDeskLaw" 44 "PolynomialDeskModel" : Cond) ∈ zT := zT_in (List.mem_append_right _ (List.mem_append_right _ (List.mem_append_right _ (List.mem_append_left _ (List.mem_of_getElem? (l := tables_1_3) (i := 95) rfl))))) rfl
theorem mb_M : (.instantiable "PolynomialDeskModel" 27 : Cond) ∈ zT := zT_in (List.mem_append_right _ (List.mem_append_right _ (List.mem_append_right _ (List.mem_append_left _ (List.mem_of_getElem? (l := tables_1_3) (i := 96) rfl))))) rfl
theorem ml_L_46 : (.methodLink "PolynomialDeskLaw" 46 yM_init : Cond) ∈ zT := zT_in (List.mem_append_right _ (List.mem_append_right _ (List.mem_append_right _ (List.mem_append_left _ (List.mem_of_getElem? (l := tables_1_3) (i := 97) rfl))))) rfl
theorem mi_M_init : (.instanceMethod yM_init : Cond) ∈ zT := zT_in (List.mem_append_right _ (List.mem_append_right _ (List.mem_append_right _ (List.mem_append_left _ (List.mem_of_getElem? (l := tables_1_3) (i := 98) rfl))))) rfl
theorem ml_M_1 : (.methodLink "PolynomialDeskModel" 1 ⟨"java/lang/Object", "<init>", "()V"⟩ : Cond) ∈ zT := zT_in (List.mem_append_right _ (List.mem_append_right _ (List.mem_append_right _ (List.mem_append_left _ (List.mem_of_getElem? (l := tables_1_3) (i := 100) rfl))))) rfl
theorem mq_M_26 : (.constant "PolynomialDeskModel" 26 (94608) : Cond) ∈ zT := zT_in (List.mem_append_right _ (List.mem_append_right _ (List.mem_append_right _ (List.mem_append_left _ (List.mem_of_getElem? (l := tables_1_3) (i := 101) rfl))))) rfl
theorem ml_M_48 : (.methodLink "PolynomialDeskModel" 48 yM_prepare : Cond) ∈ zT := zT_in (List.mem_append_right _ (List.mem_append_right _ (List.mem_append_right _ (List.mem_append_left _ (List.mem_of_getElem? (l := tables_1_3) (i := 102) rfl))))) rfl
theorem mi_M_prepare : (.instanceMethod yM_prepare : Cond) ∈ zT := zT_in (List.mem_append_right _ (List.mem_append_right _ (List.mem_append_right _ (List.mem_append_left _ (List.mem_of_getElem? (l := tables_1_3) (i := 104) rfl))))) rfl
theorem ml_M_70 : (.methodLink "PolynomialDeskModel" 70 yM_list : Cond) ∈ zT := zT_in (List.mem_append_right _ (List.mem_append_right _ (List.mem_append_right _ (List.mem_append_left _ (List.mem_of_getElem? (l := tables_1_3) (i := 106) rfl))))) rfl
theorem mi_M_list : (.instanceMethod yM_list : Cond) ∈ zT := zT_in (List.mem_append_right _ (List.mem_append_right _ (List.mem_append_right _ (List.mem_append_left _ (List.mem_of_getElem? (l := tables_1_3) (i := 108) rfl))))) rfl
theorem ml_M_77 : (.methodLink "PolynomialDeskModel" 77 yM_isGreater : Cond) ∈ zT := zT_in (List.mem_append_right _ (List.mem_append_right _ (List.mem_append_right _ (List.mem_append_left _ (List.mem_of_getElem? (l := tables_1_3) (i := 110) rfl))))) rfl
theorem mi_M_isGreater : (.instanceMethod yM_isGreater : Cond) ∈ zT := zT_in (List.mem_append_right _ (List.mem_append_right _ (List.mem_append_right _ (List.mem_append_left _ (List.mem_of_getElem? (l := tables_1_3) (i := 112) rfl))))) rfl
theorem mf_M_52 : (.fieldLink "PolynomialDeskModel" 52 "PolynomialDeskModel" "thrown" "I" : Cond) ∈ zT := zT_in (List.mem_append_right _ (List.mem_append_right _ (List.mem_append_right _ (List.mem_append_left _ (List.mem_of_getElem? (l := tables_1_3) (i := 114) rfl))))) rfl
theorem mf_M_7 : (.fieldLink "PolynomialDeskModel" 7 "PolynomialDeskModel" "prime" "I" : Cond) ∈ zT := zT_in (List.mem_append_right _ (List.mem_append_right _ (List.mem_append_right _ (List.mem_append_left _ (List.mem_of_getElem? (l := tables_1_3) (i := 115) rfl))))) rfl
theorem mf_M_55 : (.fieldLink "PolynomialDeskModel" 55 "PolynomialDeskModel" "many" "I" : Cond) ∈ zT := zT_in (List.mem_append_right _ (List.mem_append_right _ (List.mem_append_right _ (List.mem_append_left _ (List.mem_of_getElem? (l := tables_1_3) (i := 116) rfl))))) rfl
theorem mf_M_58 : (.fieldLink "PolynomialDeskModel" 58 "PolynomialDeskModel" "order" "I" : Cond) ∈ zT := zT_in (List.mem_append_right _ (List.mem_append_right _ (List.mem_append_right _ (List.mem_append_left _ (List.mem_of_getElem? (l := tables_1_3) (i := 117) rfl))))) rfl
theorem mf_M_61 : (.fieldLink "PolynomialDeskModel" 61 "PolynomialDeskModel" "highest" "I" : Cond) ∈ zT := zT_in (List.mem_append_right _ (List.mem_append_right _ (List.mem_append_right _ (List.mem_append_left _ (List.mem_of_getElem? (l := tables_1_3) (i := 118) rfl))))) rfl
theorem mf_M_64 : (.fieldLink "PolynomialDeskModel" 64 "PolynomialDeskModel" "base" "I" : Cond) ∈ zT := zT_in (List.mem_append_right _ (List.mem_append_right _ (List.mem_append_right _ (List.mem_append_left _ (List.mem_of_getElem? (l := tables_1_3) (i := 119) rfl))))) rfl
theorem mf_M_13 : (.fieldLink "PolynomialDeskModel" 13 "PolynomialDeskModel" "degree" "[I" : Cond) ∈ zT := zT_in (List.mem_append_right _ (List.mem_append_right _ (List.mem_append_right _ (List.mem_append_left _ (List.mem_of_getElem? (l := tables_1_3) (i := 120) rfl))))) rfl
theorem mf_M_17 : (.fieldLink "PolynomialDeskModel" 17 "PolynomialDeskModel" "exponents" "[I" : Cond) ∈ zT := zT_in (List.mem_append_right _ (List.mem_append_right _ (List.mem_append_right _ (List.mem_append_left _ (List.mem_of_getElem? (l := tables_1_3) (i := 121) rfl))))) rfl
theorem mf_M_20 : (.fieldLink "PolynomialDeskModel" 20 "PolynomialDeskModel" "listed" "[I" : Cond) ∈ zT := zT_in (List.mem_append_right _ (List.mem_append_right _ (List.mem_append_right _ (List.mem_append_left _ (List.mem_of_getElem? (l := tables_1_3) (i := 122) rfl))))) rfl
theorem mf_M_23 : (.fieldLink "PolynomialDeskModel" 23 "PolynomialDeskModel" "unit" "[I" : Cond) ∈ zT := zT_in (List.mem_append_right _ (List.mem_append_right _ (List.mem_append_right _ (List.mem_append_left _ (List.mem_of_getElem? (l := tables_1_3) (i := 123) rfl))))) rfl
theorem mf_M_67 : (.fieldLink "PolynomialDeskModel" 67 "PolynomialDeskModel" "monomials" "I" : Cond) ∈ zT := zT_in (List.mem_append_right _ (List.mem_append_right _ (List.mem_append_right _ (List.mem_append_left _ (List.mem_of_getElem? (l := tables_1_3) (i := 124) rfl))))) rfl
theorem mf_M_27 : (.fieldLink "PolynomialDeskModel" 27 "PolynomialDeskModel" "cells" "[I" : Cond) ∈ zT := zT_in (List.mem_append_right _ (List.mem_append_right _ (List.mem_append_right _ (List.mem_append_left _ (List.mem_of_getElem? (l := tables_1_3) (i := 125) rfl))))) rfl
theorem mf_M_30 : (.fieldLink "PolynomialDeskModel" 30 "PolynomialDeskModel" "hand" "[I" : Cond) ∈ zT := zT_in (List.mem_append_right _ (List.mem_append_right _ (List.mem_append_right _ (List.mem_append_left _ (List.mem_of_getElem? (l := tables_1_3) (i := 126) rfl))))) rfl
theorem mf_M_103 : (.fieldLink "PolynomialDeskModel" 103 "PolynomialDeskModel" "inHand" "I" : Cond) ∈ zT := zT_in (List.mem_append_right _ (List.mem_append_right _ (List.mem_append_right _ (List.mem_append_left _ (List.mem_of_getElem? (l := tables_1_3) (i := 127) rfl))))) rfl
theorem mf_M_182 : (.fieldLink "PolynomialDeskModel" 182 "PolynomialDeskModel" "fault" "I" : Cond) ∈ zT := zT_in (List.mem_append_right _ (List.mem_append_right _ (List.mem_append_right _ (List.mem_append_left _ (List.mem_of_getElem? (l := tables_1_3) (i := 128) rfl))))) rfl
theorem mf_M_33 : (.fieldLink "PolynomialDeskModel" 33 "PolynomialDeskModel" "place" "I" : Cond) ∈ zT := zT_in (List.mem_append_right _ (List.mem_append_right _ (List.mem_append_right _ (List.mem_append_left _ (List.mem_of_getElem? (l := tables_1_3) (i := 129) rfl))))) rfl
theorem mf_M_112 : (.fieldLink "PolynomialDeskModel" 112 "PolynomialDeskModel" "n" "I" : Cond) ∈ zT := zT_in (List.mem_append_right _ (List.mem_append_right _ (List.mem_append_right _ (List.mem_append_left _ (List.mem_of_getElem? (l := tables_1_3) (i := 130) rfl))))) rfl
theorem mf_M_109 : (.fieldLink "PolynomialDeskModel" 109 "PolynomialDeskModel" "at" "I" : Cond) ∈ zT := zT_in (List.mem_append_right _ (List.mem_append_right _ (List.mem_append_right _ (List.mem_append_left _ (List.mem_of_getElem? (l := tables_1_3) (i := 131) rfl))))) rfl
theorem mf_M_136 : (.fieldLink "PolynomialDeskModel" 136 "PolynomialDeskModel" "state" "I" : Cond) ∈ zT := zT_in (List.mem_append_right _ (List.mem_append_right _ (List.mem_append_right _ (List.mem_append_left _ (List.mem_of_getElem? (l := tables_1_3) (i := 132) rfl))))) rfl
theorem mf_M_106 : (.fieldLink "PolynomialDeskModel" 106 "PolynomialDeskModel" "depth" "I" : Cond) ∈ zT := zT_in (List.mem_append_right _ (List.mem_append_right _ (List.mem_append_right _ (List.mem_append_left _ (List.mem_of_getElem? (l := tables_1_3) (i := 133) rfl))))) rfl
theorem mf_M_115 : (.fieldLink "PolynomialDeskModel" 115 "PolynomialDeskModel" "failed" "I" : Cond) ∈ zT := zT_in (List.mem_append_right _ (List.mem_append_right _ (List.mem_append_right _ (List.mem_append_left _ (List.mem_of_getElem? (l := tables_1_3) (i := 134) rfl))))) rfl
theorem mf_M_118 : (.fieldLink "PolynomialDeskModel" 118 "PolynomialDeskModel" "failedAt" "I" : Cond) ∈ zT := zT_in (List.mem_append_right _ (List.mem_append_right _ (List.mem_append_right _ (List.mem_append_left _ (List.mem_of_getElem? (l := tables_1_3) (i := 135) rfl))))) rfl
theorem mf_M_36 : (.fieldLink "PolynomialDeskModel" 36 "PolynomialDeskModel" "text" "[I" : Cond) ∈ zT := zT_in (List.mem_append_right _ (List.mem_append_right _ (List.mem_append_right _ (List.mem_append_left _ (List.mem_of_getElem? (l := tables_1_3) (i := 136) rfl))))) rfl
theorem mf_M_39 : (.fieldLink "PolynomialDeskModel" 39 "PolynomialDeskModel" "sign" "[I" : Cond) ∈ zT := zT_in (List.mem_append_right _ (List.mem_append_right _ (List.mem_append_right _ (List.mem_append_left _ (List.mem_of_getElem? (l := tables_1_3) (i := 137) rfl))))) rfl
theorem mf_M_42 : (.fieldLink "PolynomialDeskModel" 42 "PolynomialDeskModel" "star" "[I" : Cond) ∈ zT := zT_in (List.mem_append_right _ (List.mem_append_right _ (List.mem_append_right _ (List.mem_append_left _ (List.mem_of_getElem? (l := tables_1_3) (i := 138) rfl))))) rfl
theorem mf_M_45 : (.fieldLink "PolynomialDeskModel" 45 "PolynomialDeskModel" "out" "[I" : Cond) ∈ zT := zT_in (List.mem_append_right _ (List.mem_append_right _ (List.mem_append_right _ (List.mem_append_left _ (List.mem_of_getElem? (l := tables_1_3) (i := 139) rfl))))) rfl
theorem mf_M_74 : (.fieldLink "PolynomialDeskModel" 74 "PolynomialDeskModel" "printed" "I" : Cond) ∈ zT := zT_in (List.mem_append_right _ (List.mem_append_right _ (List.mem_append_right _ (List.mem_append_left _ (List.mem_of_getElem? (l := tables_1_3) (i := 140) rfl))))) rfl
theorem ml_L_53 : (.methodLink "PolynomialDeskLaw" 53 yM_thrown : Cond) ∈ zT := zT_in (List.mem_append_right _ (List.mem_append_right _ (List.mem_append_right _ (List.mem_append_left _ (List.mem_of_getElem? (l := tables_1_3) (i := 196) rfl))))) rfl
theorem mi_M_thrown : (.instanceMethod yM_thrown : Cond) ∈ zT := zT_in (List.mem_append_right _ (List.mem_append_right _ (List.mem_append_right _ (List.mem_append_left _ (List.mem_of_getElem? (l := tables_1_3) (i := 197) rfl))))) rfl
theorem ms_M_thrown : (.selects "PolynomialDeskModel" yM_thrown yM_thrown : Cond) ∈ zT := zT_in (List.mem_append_right _ (List.mem_append_right _ (List.mem_append_right _ (List.mem_append_left _ (List.mem_of_getElem? (l := tables_1_3) (i := 198) rfl))))) rfl
theorem ml_L_52 : (.methodLink "PolynomialDeskLaw" 52 yM_field : Cond) ∈ zT := zT_in (List.mem_append_right _ (List.mem_append_right _ (List.mem_append_right _ (List.mem_append_left _ (List.mem_of_getElem? (l := tables_1_3) (i := 200) rfl))))) rfl
theorem mi_M_field : (.instanceMethod yM_field : Cond) ∈ zT := zT_in (List.mem_append_right _ (List.mem_append_right _ (List.mem_append_right _ (List.mem_append_left _ (List.mem_of_getElem? (l := tables_1_3) (i := 201) rfl))))) rfl
theorem ms_M_field : (.selects "PolynomialDeskModel" yM_field yM_field : Cond) ∈ zT := zT_in (List.mem_append_right _ (List.mem_append_right _ (List.mem_append_right _ (List.mem_append_left _ (List.mem_of_getElem? (l := tables_1_3) (i := 202) rfl))))) rfl
theorem ml_M_81 : (.methodLink "PolynomialDeskModel" 81 yM_isPrime : Cond) ∈ zT := zT_in (List.mem_append_right _ (List.mem_append_right _ (List.mem_append_right _ (List.mem_append_left _ (List.mem_of_getElem? (l := tables_1_3) (i := 204) rfl))))) rfl
theorem mt_M_isPrime : (.static yM_isPrime : Cond) ∈ zT := zT_in (List.mem_append_right _ (List.mem_append_right _ (List.mem_append_right _ (List.mem_append_left _ (List.mem_of_getElem? (l := tables_1_3) (i := 205) rfl))))) rfl
theorem ml_L_63 : (.methodLink "PolynomialDeskLaw" 63 yM_put : Cond) ∈ zT := zT_in (List.mem_append_right _ (List.mem_append_right _ (List.mem_append_right _ (List.mem_append_left _ (List.mem_of_getElem? (l := tables_1_3) (i := 207) rfl))))) rfl
theorem mi_M_put : (.instanceMethod yM_put : Cond) ∈ zT := zT_in (List.mem_append_right _ (List.mem_append_right _ (List.mem_append_right _ (List.mem_append_left _ (List.mem_of_getElem? (l := tables_1_3) (i := 208) rfl))))) rfl
theorem ms_M_put : (.selects "PolynomialDeskModel" yM_put yM_put : Cond) ∈ zT := zT_in (List.mem_append_right _ (List.mem_append_right _ (List.mem_append_right _ (List.mem_append_left _ (List.mem_of_getElem? (l := tables_1_3) (i := 209) rfl))))) rfl
theorem ml_L_67 : (.methodLink "PolynomialDeskLaw" 67 yM_read : Cond) ∈ zT := zT_in (List.mem_append_right _ (List.mem_append_right _ (List.mem_append_right _ (List.mem_append_left _ (List.mem_of_getElem? (l := tables_1_3) (i := 211) rfl))))) rfl
theorem mi_M_read : (.instanceMethod yM_read : Cond) ∈ zT := zT_in (List.mem_append_right _ (List.mem_append_right _ (List.mem_append_right _ (List.mem_append_left _ (List.mem_of_getElem? (l := tables_1_3) (i := 212) rfl))))) rfl
theorem ms_M_read : (.selects "PolynomialDeskModel" yM_read yM_read : Cond) ∈ zT := zT_in (List.mem_append_right _ (List.mem_append_right _ (List.mem_append_right _ (List.mem_append_left _ (List.mem_of_getElem? (l := tables_1_3) (i := 213) rfl))))) rfl
theorem ml_M_170 : (.methodLink "PolynomialDeskModel" 170 yM_isPolynomial : Cond) ∈ zT := zT_in (List.mem_append_right _ (List.mem_append_right _ (List.mem_append_right _ (List.mem_append_left _ (List.mem_of_getElem? (l := tables_1_3) (i := 215) rfl))))) rfl
theorem mt_M_isPolynomial : (.static yM_isPolynomial : Cond) ∈ zT := zT_in (List.mem_append_right _ (List.mem_append_right _ (List.mem_append_right _ (List.mem_append_left _ (List.mem_of_getElem? (l := tables_1_3) (i := 216) rfl))))) rfl
theorem ml_M_139 : (.methodLink "PolynomialDeskModel" 139 yM_begin : Cond) ∈ zT := zT_in (List.mem_append_right _ (List.mem_append_right _ (List.mem_append_right _ (List.mem_append_left _ (List.mem_of_getElem? (l := tables_1_3) (i := 218) rfl))))) rfl
theorem mi_M_begin : (.instanceMethod yM_begin : Cond) ∈ zT := zT_in (List.mem_append_right _ (List.mem_append_right _ (List.mem_append_right _ (List.mem_append_left _ (List.mem_of_getElem? (l := tables_1_3) (i := 220) rfl))))) rfl
theorem ml_M_132 : (.methodLink "PolynomialDeskModel" 132 yM_sum : Cond) ∈ zT := zT_in (List.mem_append_right _ (List.mem_append_right _ (List.mem_append_right _ (List.mem_append_left _ (List.mem_of_getElem? (l := tables_1_3) (i := 222) rfl))))) rfl
theorem mi_M_sum : (.instanceMethod yM_sum : Cond) ∈ zT := zT_in (List.mem_append_right _ (List.mem_append_right _ (List.mem_append_right _ (List.mem_append_left _ (List.mem_of_getElem? (l := tables_1_3) (i := 224) rfl))))) rfl
theorem ml_M_100 : (.methodLink "PolynomialDeskModel" 100 yM_clear : Cond) ∈ zT := zT_in (List.mem_append_right _ (List.mem_append_right _ (List.mem_append_right _ (List.mem_append_left _ (List.mem_of_getElem? (l := tables_1_3) (i := 226) rfl))))) rfl
theorem mi_M_clear : (.instanceMethod yM_clear : Cond) ∈ zT := zT_in (List.mem_append_right _ (List.mem_append_right _ (List.mem_append_right _ (List.mem_append_left _ (List.mem_of_getElem? (l := tables_1_3) (i := 228) rfl))))) rfl
theorem ml_M_85 : (.methodLink "PolynomialDeskModel" 85 yM_lay : Cond) ∈ zT := zT_in (List.mem_append_right _ (List.mem_append_right _ (List.mem_append_right _ (List.mem_append_left _ (List.mem_of_getElem? (l := tables_1_3) (i := 230) rfl))))) rfl
theorem mi_M_lay : (.instanceMethod yM_lay : Cond) ∈ zT := zT_in (List.mem_append_right _ (List.mem_append_right _ (List.mem_append_right _ (List.mem_append_left _ (List.mem_of_getElem? (l := tables_1_3) (i := 232) rfl))))) rfl
theorem ml_M_152 : (.methodLink "PolynomialDeskModel" 152 yM_here : Cond) ∈ zT := zT_in (List.mem_append_right _ (List.mem_append_right _ (List.mem_append_right _ (List.mem_append_left _ (List.mem_of_getElem? (l := tables_1_3) (i := 234) rfl))))) rfl
theorem mi_M_here : (.instanceMethod yM_here : Cond) ∈ zT := zT_in (List.mem_append_right _ (List.mem_append_right _ (List.mem_append_right _ (List.mem_append_left _ (List.mem_of_getElem? (l := tables_1_3) (i := 236) rfl))))) rfl
theorem ml_M_173 : (.methodLink "PolynomialDeskModel" 173 yM_readFactor : Cond) ∈ zT := zT_in (List.mem_append_right _ (List.mem_append_right _ (List.mem_append_right _ (List.mem_append_left _ (List.mem_of_getElem? (l := tables_1_3) (i := 238) rfl))))) rfl
theorem mi_M_readFactor : (.instanceMethod yM_readFactor : Cond) ∈ zT := zT_in (List.mem_append_right _ (List.mem_append_right _ (List.mem_append_right _ (List.mem_append_right _ (List.mem_of_getElem? (l := tables_1_4) (i := 0) rfl))))) rfl
theorem ml_M_128 : (.methodLink "PolynomialDeskModel" 128 yM_fail : Cond) ∈ zT := zT_in (List.mem_append_right _ (List.mem_append_right _ (List.mem_append_right _ (List.mem_append_right _ (List.mem_of_getElem? (l := tables_1_4) (i := 2) rfl))))) rfl
theorem mi_M_fail : (.instanceMethod yM_fail : Cond) ∈ zT := zT_in (List.mem_append_right _ (List.mem_append_right _ (List.mem_append_right _ (List.mem_append_right _ (List.mem_of_getElem? (l := tables_1_4) (i := 4) rfl))))) rfl
theorem ml_M_142 : (.methodLink "PolynomialDeskModel" 142 yM_variable : Cond) ∈ zT := zT_in (List.mem_append_right _ (List.mem_append_right _ (List.mem_append_right _ (List.mem_append_right _ (List.mem_of_getElem? (l := tables_1_4) (i := 6) rfl))))) rfl
theorem mi_M_variable : (.instanceMethod yM_variable : Cond) ∈ zT := zT_in (List.mem_append_right _ (List.mem_append_right _ (List.mem_append_right _ (List.mem_append_right _ (List.mem_of_getElem? (l := tables_1_4) (i := 8) rfl))))) rfl
theorem ml_M_121 : (.methodLink "PolynomialDeskModel" 121 yM_isDigit : Cond) ∈ zT := zT_in (List.mem_append_right _ (List.mem_append_right _ (List.mem_append_right _ (List.mem_append_right _ (List.mem_of_getElem? (l := tables_1_4) (i := 10) rfl))))) rfl
theorem mt_M_isDigit : (.static yM_isDigit : Cond) ∈ zT := zT_in (List.mem_append_right _ (List.mem_append_right _ (List.mem_append_right _ (List.mem_append_right _ (List.mem_of_getElem? (l := tables_1_4) (i := 11) rfl))))) rfl
theorem ml_M_145 : (.methodLink "PolynomialDeskModel" 145 yM_factor : Cond) ∈ zT := zT_in (List.mem_append_right _ (List.mem_append_right _ (List.mem_append_right _ (List.mem_append_right _ (List.mem_of_getElem? (l := tables_1_4) (i := 13) rfl))))) rfl
theorem mi_M_factor : (.instanceMethod yM_factor : Cond) ∈ zT := zT_in (List.mem_append_right _ (List.mem_append_right _ (List.mem_append_right _ (List.mem_append_right _ (List.mem_of_getElem? (l := tables_1_4) (i := 15) rfl))))) rfl
theorem ml_M_148 : (.methodLink "PolynomialDeskModel" 148 yM_number : Cond) ∈ zT := zT_in (List.mem_append_right _ (List.mem_append_right _ (List.mem_append_right _ (List.mem_append_right _ (List.mem_of_getElem? (l := tables_1_4) (i := 17) rfl))))) rfl
theorem mi_M_number : (.instanceMethod yM_number : Cond) ∈ zT := zT_in (List.mem_append_right _ (List.mem_append_right _ (List.mem_append_right _ (List.mem_append_right _ (List.mem_of_getElem? (l := tables_1_4) (i := 19) rfl))))) rfl
theorem mq_M_124 : (.constantLong "PolynomialDeskModel" 124 (10) : Cond) ∈ zT := zT_in (List.mem_append_right _ (List.mem_append_right _ (List.mem_append_right _ (List.mem_append_right _ (List.mem_of_getElem? (l := tables_1_4) (i := 21) rfl))))) rfl
theorem mq_M_126 : (.constantLong "PolynomialDeskModel" 126 (48) : Cond) ∈ zT := zT_in (List.mem_append_right _ (List.mem_append_right _ (List.mem_append_right _ (List.mem_append_right _ (List.mem_of_getElem? (l := tables_1_4) (i := 22) rfl))))) rfl
theorem ml_M_92 : (.methodLink "PolynomialDeskModel" 92 yM_modulo : Cond) ∈ zT := zT_in (List.mem_append_right _ (List.mem_append_right _ (List.mem_append_right _ (List.mem_append_right _ (List.mem_of_getElem? (l := tables_1_4) (i := 23) rfl))))) rfl
theorem mi_M_modulo : (.instanceMethod yM_modulo : Cond) ∈ zT := zT_in (List.mem_append_right _ (List.mem_append_right _ (List.mem_append_right _ (List.mem_append_right _ (List.mem_of_getElem? (l := tables_1_4) (i := 25) rfl))))) rfl
theorem ml_M_176 : (.methodLink "PolynomialDeskModel" 176 yM_readPower : Cond) ∈ zT := zT_in (List.mem_append_right _ (List.mem_append_right _ (List.mem_append_right _ (List.mem_append_right _ (List.mem_of_getElem? (l := tables_1_4) (i := 27) rfl))))) rfl
theorem mi_M_readPower : (.instanceMethod yM_readPower : Cond) ∈ zT := zT_in (List.mem_append_right _ (List.mem_append_right _ (List.mem_append_right _ (List.mem_append_right _ (List.mem_of_getElem? (l := tables_1_4) (i := 29) rfl))))) rfl
theorem ml_M_96 : (.methodLink "PolynomialDeskModel" 96 yM_degreeOf : Cond) ∈ zT := zT_in (List.mem_append_right _ (List.mem_append_right _ (List.mem_append_right _ (List.mem_append_right _ (List.mem_of_getElem? (l := tables_1_4) (i := 31) rfl))))) rfl
theorem mi_M_degreeOf : (.instanceMethod yM_degreeOf : Cond) ∈ zT := zT_in (List.mem_append_right _ (List.mem_append_right _ (List.mem_append_right _ (List.mem_append_right _ (List.mem_of_getElem? (l := tables_1_4) (i := 33) rfl))))) rfl
theorem ml_M_88 : (.methodLink "PolynomialDeskModel" 88 yM_cell : Cond) ∈ zT := zT_in (List.mem_append_right _ (List.mem_append_right _ (List.mem_append_right _ (List.mem_append_right _ (List.mem_of_getElem? (l := tables_1_4) (i := 35) rfl))))) rfl
theorem mi_M_cell : (.instanceMethod yM_cell : Cond) ∈ zT := zT_in (List.mem_append_right _ (List.mem_append_right _ (List.mem_append_right _ (List.mem_append_right _ (List.mem_of_getElem? (l := tables_1_4) (i := 37) rfl))))) rfl
theorem ml_M_155 : (.methodLink "PolynomialDeskModel" 155 yM_times : Cond) ∈ zT := zT_in (List.mem_append_right _ (List.mem_append_right _ (List.mem_append_right _ (List.mem_append_right _ (List.mem_of_getElem? (l := tables_1_4) (i := 39) rfl))))) rfl
theorem mi_M_times : (.instanceMethod yM_times : Cond) ∈ zT := zT_in (List.mem_append_right _ (List.mem_append_right _ (List.mem_append_right _ (List.mem_append_right _ (List.mem_of_getElem? (l := tables_1_4) (i := 41) rfl))))) rfl
theorem ml_M_158 : (.methodLink "PolynomialDeskModel" 158 yM_copy : Cond) ∈ zT := zT_in (List.mem_append_right _ (List.mem_append_right _ (List.mem_append_right _ (List.mem_append_right _ (List.mem_of_getElem? (l := tables_1_4) (i := 43) rfl))))) rfl
theorem mi_M_copy : (.instanceMethod yM_copy : Cond) ∈ zT := zT_in (List.mem_append_right _ (List.mem_append_right _ (List.mem_append_right _ (List.mem_append_right _ (List.mem_of_getElem? (l := tables_1_4) (i := 45) rfl))))) rfl
theorem ml_M_179 : (.methodLink "PolynomialDeskModel" 179 yM_goOn : Cond) ∈ zT := zT_in (List.mem_append_right _ (List.mem_append_right _ (List.mem_append_right _ (List.mem_append_right _ (List.mem_of_getElem? (l := tables_1_4) (i := 47) rfl))))) rfl
theorem mi_M_goOn : (.instanceMethod yM_goOn : Cond) ∈ zT := zT_in (List.mem_append_right _ (List.mem_append_right _ (List.mem_append_right _ (List.mem_append_right _ (List.mem_of_getElem? (l := tables_1_4) (i := 49) rfl))))) rfl
theorem ml_M_161 : (.methodLink "PolynomialDeskModel" 161 yM_product : Cond) ∈ zT := zT_in (List.mem_append_right _ (List.mem_append_right _ (List.mem_append_right _ (List.mem_append_right _ (List.mem_of_getElem? (l := tables_1_4) (i := 51) rfl))))) rfl
theorem mi_M_product : (.instanceMethod yM_product : Cond) ∈ zT := zT_in (List.mem_append_right _ (List.mem_append_right _ (List.mem_append_right _ (List.mem_append_right _ (List.mem_of_getElem? (l := tables_1_4) (i := 53) rfl))))) rfl
theorem ml_M_164 : (.methodLink "PolynomialDeskModel" 164 yM_isTooHigh : Cond) ∈ zT := zT_in (List.mem_append_right _ (List.mem_append_right _ (List.mem_append_right _ (List.mem_append_right _ (List.mem_of_getElem? (l := tables_1_4) (i := 55) rfl))))) rfl
theorem mi_M_isTooHigh : (.instanceMethod yM_isTooHigh : Cond) ∈ zT := zT_in (List.mem_append_right _ (List.mem_append_right _ (List.mem_append_right _ (List.mem_append_right _ (List.mem_of_getElem? (l := tables_1_4) (i := 57) rfl))))) rfl
theorem ml_M_167 : (.methodLink "PolynomialDeskModel" 167 yM_addTo : Cond) ∈ zT := zT_in (List.mem_append_right _ (List.mem_append_right _ (List.mem_append_right _ (List.mem_append_right _ (List.mem_of_getElem? (l := tables_1_4) (i := 59) rfl))))) rfl
theorem mi_M_addTo : (.instanceMethod yM_addTo : Cond) ∈ zT := zT_in (List.mem_append_right _ (List.mem_append_right _ (List.mem_append_right _ (List.mem_append_right _ (List.mem_of_getElem? (l := tables_1_4) (i := 61) rfl))))) rfl
theorem ml_M_185 : (.methodLink "PolynomialDeskModel" 185 yM_terms : Cond) ∈ zT := zT_in (List.mem_append_right _ (List.mem_append_right _ (List.mem_append_right _ (List.mem_append_right _ (List.mem_of_getElem? (l := tables_1_4) (i := 63) rfl))))) rfl
theorem mi_M_terms : (.instanceMethod yM_terms : Cond) ∈ zT := zT_in (List.mem_append_right _ (List.mem_append_right _ (List.mem_append_right _ (List.mem_append_right _ (List.mem_of_getElem? (l := tables_1_4) (i := 65) rfl))))) rfl
theorem ml_L_71 : (.methodLink "PolynomialDeskLaw" 71 yM_fault : Cond) ∈ zT := zT_in (List.mem_append_right _ (List.mem_append_right _ (List.mem_append_right _ (List.mem_append_right _ (List.mem_of_getElem? (l := tables_1_4) (i := 67) rfl))))) rfl
theorem mi_M_fault : (.instanceMethod yM_fault : Cond) ∈ zT := zT_in (List.mem_append_right _ (List.mem_append_right _ (List.mem_append_right _ (List.mem_append_right _ (List.mem_of_getElem? (l := tables_1_4) (i := 68) rfl))))) rfl
theorem ms_M_fault : (.selects "PolynomialDeskModel" yM_fault yM_fault : Cond) ∈ zT := zT_in (List.mem_append_right _ (List.mem_append_right _ (List.mem_append_right _ (List.mem_append_right _ (List.mem_of_getElem? (l := tables_1_4) (i := 69) rfl))))) rfl
theorem ml_L_75 : (.methodLink "PolynomialDeskLaw" 75 yM_add : Cond) ∈ zT := zT_in (List.mem_append_right _ (List.mem_append_right _ (List.mem_append_right _ (List.mem_append_right _ (List.mem_of_getElem? (l := tables_1_4) (i := 71) rfl))))) rfl
theorem mi_M_add : (.instanceMethod yM_add : Cond) ∈ zT := zT_in (List.mem_append_right _ (List.mem_append_right _ (List.mem_append_right _ (List.mem_append_right _ (List.mem_of_getElem? (l := tables_1_4) (i := 72) rfl))))) rfl
theorem ms_M_add : (.selects "PolynomialDeskModel" yM_add yM_add : Cond) ∈ zT := zT_in (List.mem_append_right _ (List.mem_append_right _ (List.mem_append_right _ (List.mem_append_right _ (List.mem_of_getElem? (l := tables_1_4) (i := 73) rfl))))) rfl
theorem ml_M_188 : (.methodLink "PolynomialDeskModel" 188 yM_lacks : Cond) ∈ zT := zT_in (List.mem_append_right _ (List.mem_append_right _ (List.mem_append_right _ (List.mem_append_right _ (List.mem_of_getElem? (l := tables_1_4) (i := 75) rfl))))) rfl
theorem mi_M_lacks : (.instanceMethod yM_lacks : Cond) ∈ zT := zT_in (List.mem_append_right _ (List.mem_append_right _ (List.mem_append_right _ (List.mem_append_right _ (List.mem_of_getElem? (l := tables_1_4) (i := 77) rfl))))) rfl
theorem ml_L_78 : (.methodLink "PolynomialDeskLaw" 78 yM_multiply : Cond) ∈ zT := zT_in (List.mem_append_right _ (List.mem_append_right _ (List.mem_append_right _ (List.mem_append_right _ (List.mem_of_getElem? (l := tables_1_4) (i := 79) rfl))))) rfl
theorem mi_M_multiply : (.instanceMethod yM_multiply : Cond) ∈ zT := zT_in (List.mem_append_right _ (List.mem_append_right _ (List.mem_append_right _ (List.mem_append_right _ (List.mem_of_getElem? (l := tables_1_4) (i := 80) rfl))))) rfl
theorem ms_M_multiply : (.selects "PolynomialDeskModel" yM_multiply yM_multiply : Cond) ∈ zT := zT_in (List.mem_append_right _ (List.mem_append_right _ (List.mem_append_right _ (List.mem_append_right _ (List.mem_of_getElem? (l := tables_1_4) (i := 81) rfl))))) rfl
theorem ml_L_81 : (.methodLink "PolynomialDeskLaw" 81 yM_derive : Cond) ∈ zT := zT_in (List.mem_append_right _ (List.mem_append_right _ (List.mem_append_right _ (List.mem_append_right _ (List.mem_of_getElem? (l := tables_1_4) (i := 83) rfl))))) rfl
theorem mi_M_derive : (.instanceMethod yM_derive : Cond) ∈ zT := zT_in (List.mem_append_right _ (List.mem_append_right _ (List.mem_append_right _ (List.mem_append_right _ (List.mem_of_getElem? (l := tables_1_4) (i := 84) rfl))))) rfl
theorem ms_M_derive : (.selects "PolynomialDeskModel" yM_derive yM_derive : Cond) ∈ zT := zT_in (List.mem_append_right _ (List.mem_append_right _ (List.mem_append_right _ (List.mem_append_right _ (List.mem_of_getElem? (l := tables_1_4) (i := 85) rfl))))) rfl
theorem ml_L_84 : (.methodLink "PolynomialDeskLaw" 84 yM_set : Cond) ∈ zT := zT_in (List.mem_append_right _ (List.mem_append_right _ (List.mem_append_right _ (List.mem_append_right _ (List.mem_of_getElem? (l := tables_1_4) (i := 87) rfl))))) rfl
theorem mi_M_set : (.instanceMethod yM_set : Cond) ∈ zT := zT_in (List.mem_append_right _ (List.mem_append_right _ (List.mem_append_right _ (List.mem_append_right _ (List.mem_of_getElem? (l := tables_1_4) (i := 88) rfl))))) rfl
theorem ms_M_set : (.selects "PolynomialDeskModel" yM_set yM_set : Cond) ∈ zT := zT_in (List.mem_append_right _ (List.mem_append_right _ (List.mem_append_right _ (List.mem_append_right _ (List.mem_of_getElem? (l := tables_1_4) (i := 89) rfl))))) rfl
theorem ml_M_192 : (.methodLink "PolynomialDeskModel" 192 yM_power : Cond) ∈ zT := zT_in (List.mem_append_right _ (List.mem_append_right _ (List.mem_append_right _ (List.mem_append_right _ (List.mem_of_getElem? (l := tables_1_4) (i := 91) rfl))))) rfl
theorem mi_M_power : (.instanceMethod yM_power : Cond) ∈ zT := zT_in (List.mem_append_right _ (List.mem_append_right _ (List.mem_append_right _ (List.mem_append_right _ (List.mem_of_getElem? (l := tables_1_4) (i := 93) rfl))))) rfl
theorem ml_L_88 : (.methodLink "PolynomialDeskLaw" 88 yM_value : Cond) ∈ zT := zT_in (List.mem_append_right _ (List.mem_append_right _ (List.mem_append_right _ (List.mem_append_right _ (List.mem_of_getElem? (l := tables_1_4) (i := 95) rfl))))) rfl
theorem mi_M_value : (.instanceMethod yM_value : Cond) ∈ zT := zT_in (List.mem_append_right _ (List.mem_append_right _ (List.mem_append_right _ (List.mem_append_right _ (List.mem_of_getElem? (l := tables_1_4) (i := 96) rfl))))) rfl
theorem ms_M_value : (.selects "PolynomialDeskModel" yM_value yM_value : Cond) ∈ zT := zT_in (List.mem_append_right _ (List.mem_append_right _ (List.mem_append_right _ (List.mem_append_right _ (List.mem_of_getElem? (l := tables_1_4) (i := 97) rfl))))) rfl
theorem ml_L_93 : (.methodLink "PolynomialDeskLaw" 93 yM_about : Cond) ∈ zT := zT_in (List.mem_append_right _ (List.mem_append_right _ (List.mem_append_right _ (List.mem_append_right _ (List.mem_of_getElem? (l := tables_1_4) (i := 99) rfl))))) rfl
theorem mi_M_about : (.instanceMethod yM_about : Cond) ∈ zT := zT_in (List.mem_append_right _ (List.mem_append_right _ (List.mem_append_right _ (List.mem_append_right _ (List.mem_of_getElem? (l := tables_1_4) (i := 100) rfl))))) rfl
theorem ms_M_about : (.selects "PolynomialDeskModel" yM_about yM_about : Cond) ∈ zT := zT_in (List.mem_append_right _ (List.mem_append_right _ (List.mem_append_right _ (List.mem_append_right _ (List.mem_of_getElem? (l := tables_1_4) (i := 101) rfl))))) rfl
theorem ml_L_98 : (.methodLink "PolynomialDeskLaw" 98 yM_term : Cond) ∈ zT := zT_in (List.mem_append_right _ (List.mem_append_right _ (List.mem_append_right _ (List.mem_append_right _ (List.mem_of_getElem? (l := tables_1_4) (i := 103) rfl))))) rfl
theorem mi_M_term : (.instanceMethod yM_term : Cond) ∈ zT := zT_in (List.mem_append_right _ (List.mem_append_right _ (List.mem_append_right _ (List.mem_append_right _ (List.mem_of_getElem? (l := tables_1_4) (i := 104) rfl))))) rfl
theorem ms_M_term : (.selects "PolynomialDeskModel" yM_term yM_term : Cond) ∈ zT := zT_in (List.mem_append_right _ (List.mem_append_right _ (List.mem_append_right _ (List.mem_append_right _ (List.mem_of_getElem? (l := tables_1_4) (i := 105) rfl))))) rfl
theorem ml_M_195 : (.methodLink "PolynomialDeskModel" 195 yM_placeOf : Cond) ∈ zT := zT_in (List.mem_append_right _ (List.mem_append_right _ (List.mem_append_right _ (List.mem_append_right _ (List.mem_of_getElem? (l := tables_1_4) (i := 107) rfl))))) rfl
theorem mi_M_placeOf : (.instanceMethod yM_placeOf : Cond) ∈ zT := zT_in (List.mem_append_right _ (List.mem_append_right _ (List.mem_append_right _ (List.mem_append_right _ (List.mem_of_getElem? (l := tables_1_4) (i := 109) rfl))))) rfl
theorem ml_L_101 : (.methodLink "PolynomialDeskLaw" 101 yM_print : Cond) ∈ zT := zT_in (List.mem_append_right _ (List.mem_append_right _ (List.mem_append_right _ (List.mem_append_right _ (List.mem_of_getElem? (l := tables_1_4) (i := 111) rfl))))) rfl
theorem mi_M_print : (.instanceMethod yM_print : Cond) ∈ zT := zT_in (List.mem_append_right _ (List.mem_append_right _ (List.mem_append_right _ (List.mem_append_right _ (List.mem_of_getElem? (l := tables_1_4) (i := 112) rfl))))) rfl
theorem ms_M_print : (.selects "PolynomialDeskModel" yM_print yM_print : Cond) ∈ zT := zT_in (List.mem_append_right _ (List.mem_append_right _ (List.mem_append_right _ (List.mem_append_right _ (List.mem_of_getElem? (l := tables_1_4) (i := 113) rfl))))) rfl
theorem ml_M_198 : (.methodLink "PolynomialDeskModel" 198 yM_say : Cond) ∈ zT := zT_in (List.mem_append_right _ (List.mem_append_right _ (List.mem_append_right _ (List.mem_append_right _ (List.mem_of_getElem? (l := tables_1_4) (i := 115) rfl))))) rfl
theorem mi_M_say : (.instanceMethod yM_say : Cond) ∈ zT := zT_in (List.mem_append_right _ (List.mem_append_right _ (List.mem_append_right _ (List.mem_append_right _ (List.mem_of_getElem? (l := tables_1_4) (i := 117) rfl))))) rfl
theorem ml_M_204 : (.methodLink "PolynomialDeskModel" 204 yM_sayTerm : Cond) ∈ zT := zT_in (List.mem_append_right _ (List.mem_append_right _ (List.mem_append_right _ (List.mem_append_right _ (List.mem_of_getElem? (l := tables_1_4) (i := 119) rfl))))) rfl
theorem mi_M_sayTerm : (.instanceMethod yM_sayTerm : Cond) ∈ zT := zT_in (List.mem_append_right _ (List.mem_append_right _ (List.mem_append_right _ (List.mem_append_right _ (List.mem_of_getElem? (l := tables_1_4) (i := 121) rfl))))) rfl
theorem ml_M_201 : (.methodLink "PolynomialDeskModel" 201 yM_sayNumber : Cond) ∈ zT := zT_in (List.mem_append_right _ (List.mem_append_right _ (List.mem_append_right _ (List.mem_append_right _ (List.mem_of_getElem? (l := tables_1_4) (i := 123) rfl))))) rfl
theorem mi_M_sayNumber : (.instanceMethod yM_sayNumber : Cond) ∈ zT := zT_in (List.mem_append_right _ (List.mem_append_right _ (List.mem_append_right _ (List.mem_append_right _ (List.mem_of_getElem? (l := tables_1_4) (i := 125) rfl))))) rfl
theorem ml_L_105 : (.methodLink "PolynomialDeskLaw" 105 yM_output : Cond) ∈ zT := zT_in (List.mem_append_right _ (List.mem_append_right _ (List.mem_append_right _ (List.mem_append_right _ (List.mem_of_getElem? (l := tables_1_4) (i := 127) rfl))))) rfl
theorem mi_M_output : (.instanceMethod yM_output : Cond) ∈ zT := zT_in (List.mem_append_right _ (List.mem_append_right _ (List.mem_append_right _ (List.mem_append_right _ (List.mem_of_getElem? (l := tables_1_4) (i := 128) rfl))))) rfl
theorem ms_M_output : (.selects "PolynomialDeskModel" yM_output yM_output : Cond) ∈ zT := zT_in (List.mem_append_right _ (List.mem_append_right _ (List.mem_append_right _ (List.mem_append_right _ (List.mem_of_getElem? (l := tables_1_4) (i := 129) rfl))))) rfl
theorem mq_L_57 : (.constantLong "PolynomialDeskLaw" 57 (4294967295) : Cond) ∈ zT := zT_in (List.mem_append_right _ (List.mem_append_right _ (List.mem_append_right _ (List.mem_append_right _ (List.mem_of_getElem? (l := tables_1_4) (i := 131) rfl))))) rfl
theorem ma_long : (.arrayClass .long : Cond) ∈ zT := zT_in (List.mem_append_right _ (List.mem_append_right _ (List.mem_append_right _ (List.mem_append_right _ (List.mem_of_getElem? (l := tables_1_4) (i := 132) rfl))))) rfl
theorem ms_R_listMonomials : (.selects "PolynomialDesk$Ring" yR_listMonomials yR_listMonomials : Cond) ∈ zT := zT_in (List.mem_append_left _ (List.mem_of_getElem? (l := k2_sels lw_privs) (i := 0) rfl)) rfl
theorem ms_R_recordMonomial : (.selects "PolynomialDesk$Ring" yR_recordMonomial yR_recordMonomial : Cond) ∈ zT := zT_in (List.mem_append_left _ (List.mem_of_getElem? (l := k2_sels lw_privs) (i := 1) rfl)) rfl
theorem ms_R_leadingOf : (.selects "PolynomialDesk$Ring" yR_leadingOf yR_leadingOf : Cond) ∈ zT := zT_in (List.mem_append_left _ (List.mem_of_getElem? (l := k2_sels lw_privs) (i := 2) rfl)) rfl
theorem ms_E_readSum : (.selects "PolynomialDesk$Reader" yE_readSum yE_readSum : Cond) ∈ zT := zT_in (List.mem_append_left _ (List.mem_of_getElem? (l := k2_sels lw_privs) (i := 4) rfl)) rfl
theorem ms_E_nextByte : (.selects "PolynomialDesk$Reader" yE_nextByte yE_nextByte : Cond) ∈ zT := zT_in (List.mem_append_left _ (List.mem_of_getElem? (l := k2_sels lw_privs) (i := 5) rfl)) rfl
theorem ms_E_readTerm : (.selects "PolynomialDesk$Reader" yE_readTerm yE_readTerm : Cond) ∈ zT := zT_in (List.mem_append_left _ (List.mem_of_getElem? (l := k2_sels lw_privs) (i := 6) rfl)) rfl
theorem ms_E_readFactor : (.selects "PolynomialDesk$Reader" yE_readFactor yE_readFactor : Cond) ∈ zT := zT_in (List.mem_append_left _ (List.mem_of_getElem? (l := k2_sels lw_privs) (i := 7) rfl)) rfl
theorem ms_E_readBareFactor : (.selects "PolynomialDesk$Reader" yE_readBareFactor yE_readBareFactor : Cond) ∈ zT := zT_in (List.mem_append_left _ (List.mem_of_getElem? (l := k2_sels lw_privs) (i := 8) rfl)) rfl
theorem ms_E_readNumber : (.selects "PolynomialDesk$Reader" yE_readNumber yE_readNumber : Cond) ∈ zT := zT_in (List.mem_append_left _ (List.mem_of_getElem? (l := k2_sels lw_privs) (i := 9) rfl)) rfl
theorem ms_E_noteFault : (.selects "PolynomialDesk$Reader" yE_noteFault yE_noteFault : Cond) ∈ zT := zT_in (List.mem_append_left _ (List.mem_of_getElem? (l := k2_sels lw_privs) (i := 10) rfl)) rfl
theorem ms_R_reduce : (.selects "PolynomialDesk$Ring" yR_reduce yR_reduce : Cond) ∈ zT := zT_in (List.mem_append_left _ (List.mem_of_getElem? (l := k2_sels lw_privs) (i := 11) rfl)) rfl
theorem ms_R_addAt : (.selects "PolynomialDesk$Ring" yR_addAt yR_addAt : Cond) ∈ zT := zT_in (List.mem_append_left _ (List.mem_of_getElem? (l := k2_sels lw_privs) (i := 12) rfl)) rfl
theorem ms_E_readGroup : (.selects "PolynomialDesk$Reader" yE_readGroup yE_readGroup : Cond) ∈ zT := zT_in (List.mem_append_left _ (List.mem_of_getElem? (l := k2_sels lw_privs) (i := 13) rfl)) rfl
theorem ms_K_requireVariable : (.selects "PolynomialDesk" yK_requireVariable yK_requireVariable : Cond) ∈ zT := zT_in (List.mem_append_left _ (List.mem_of_getElem? (l := k2_sels lw_privs) (i := 14) rfl)) rfl
theorem ms_R_timesPower : (.selects "PolynomialDesk$Ring" yR_timesPower yR_timesPower : Cond) ∈ zT := zT_in (List.mem_append_left _ (List.mem_of_getElem? (l := k2_sels lw_privs) (i := 15) rfl)) rfl
theorem ms_P_writeByte : (.selects "PolynomialDesk$Printer" yP_writeByte yP_writeByte : Cond) ∈ zT := zT_in (List.mem_append_left _ (List.mem_of_getElem? (l := k2_sels lw_privs) (i := 16) rfl)) rfl
theorem ms_P_writeTerm : (.selects "PolynomialDesk$Printer" yP_writeTerm yP_writeTerm : Cond) ∈ zT := zT_in (List.mem_append_left _ (List.mem_of_getElem? (l := k2_sels lw_privs) (i := 17) rfl)) rfl
theorem ms_P_writeNumber : (.selects "PolynomialDesk$Printer" yP_writeNumber yP_writeNumber : Cond) ∈ zT := zT_in (List.mem_append_left _ (List.mem_of_getElem? (l := k2_sels lw_privs) (i := 18) rfl)) rfl
theorem ms_M_prepare : (.selects "PolynomialDeskModel" yM_prepare yM_prepare : Cond) ∈ zT := zT_in (List.mem_append_left _ (List.mem_of_getElem? (l := k2_sels lw_privs) (i := 19) rfl)) rfl
theorem ms_M_list : (.selects "PolynomialDeskModel" yM_list yM_list : Cond) ∈ zT := zT_in (List.mem_append_left _ (List.mem_of_getElem? (l := k2_sels lw_privs) (i := 20) rfl)) rfl
theorem ms_M_isGreater : (.selects "PolynomialDeskModel" yM_isGreater yM_isGreater : Cond) ∈ zT := zT_in (List.mem_append_left _ (List.mem_of_getElem? (l := k2_sels lw_privs) (i := 21) rfl)) rfl
theorem ms_M_begin : (.selects "PolynomialDeskModel" yM_begin yM_begin : Cond) ∈ zT := zT_in (List.mem_append_left _ (List.mem_of_getElem? (l := k2_sels lw_privs) (i := 22) rfl)) rfl
theorem ms_M_sum : (.selects "PolynomialDeskModel" yM_sum yM_sum : Cond) ∈ zT := zT_in (List.mem_append_left _ (List.mem_of_getElem? (l := k2_sels lw_privs) (i := 23) rfl)) rfl
theorem ms_M_clear : (.selects "PolynomialDeskModel" yM_clear yM_clear : Cond) ∈ zT := zT_in (List.mem_append_left _ (List.mem_of_getElem? (l := k2_sels lw_privs) (i := 24) rfl)) rfl
theorem ms_M_lay : (.selects "PolynomialDeskModel" yM_lay yM_lay : Cond) ∈ zT := zT_in (List.mem_append_left _ (List.mem_of_getElem? (l := k2_sels lw_privs) (i := 25) rfl)) rfl
theorem ms_M_here : (.selects "PolynomialDeskModel" yM_here yM_here : Cond) ∈ zT := zT_in (List.mem_append_left _ (List.mem_of_getElem? (l := k2_sels lw_privs) (i := 26) rfl)) rfl
theorem ms_M_readFactor : (.selects "PolynomialDeskModel" yM_readFactor yM_readFactor : Cond) ∈ zT := zT_in (List.mem_append_left _ (List.mem_of_getElem? (l := k2_sels lw_privs) (i := 27) rfl)) rfl
theorem ms_M_fail : (.selects "PolynomialDeskModel" yM_fail yM_fail : Cond) ∈ zT := zT_in (List.mem_append_left _ (List.mem_of_getElem? (l := k2_sels lw_privs) (i := 28) rfl)) rfl
theorem ms_M_variable : (.selects "PolynomialDeskModel" yM_variable yM_variable : Cond) ∈ zT := zT_in (List.mem_append_left _ (List.mem_of_getElem? (l := k2_sels lw_privs) (i := 29) rfl)) rfl
theorem ms_M_factor : (.selects "PolynomialDeskModel" yM_factor yM_factor : Cond) ∈ zT := zT_in (List.mem_append_left _ (List.mem_of_getElem? (l := k2_sels lw_privs) (i := 30) rfl)) rfl
theorem ms_M_number : (.selects "PolynomialDeskModel" yM_number yM_number : Cond) ∈ zT := zT_in (List.mem_append_left _ (List.mem_of_getElem? (l := k2_sels lw_privs) (i := 31) rfl)) rfl
theorem ms_M_modulo : (.selects "PolynomialDeskModel" yM_modulo yM_modulo : Cond) ∈ zT := zT_in (List.mem_append_left _ (List.mem_of_getElem? (l := k2_sels lw_privs) (i := 32) rfl)) rfl
theorem ms_M_readPower : (.selects "PolynomialDeskModel" yM_readPower yM_readPower : Cond) ∈ zT := zT_in (List.mem_append_left _ (List.mem_of_getElem? (l := k2_sels lw_privs) (i := 33) rfl)) rfl
theorem ms_M_degreeOf : (.selects "PolynomialDeskModel" yM_degreeOf yM_degreeOf : Cond) ∈ zT := zT_in (List.mem_append_left _ (List.mem_of_getElem? (l := k2_sels lw_privs) (i := 34) rfl)) rfl
theorem ms_M_cell : (.selects "PolynomialDeskModel" yM_cell yM_cell : Cond) ∈ zT := zT_in (List.mem_append_left _ (List.mem_of_getElem? (l := k2_sels lw_privs) (i := 35) rfl)) rfl
theorem ms_M_times : (.selects "PolynomialDeskModel" yM_times yM_times : Cond) ∈ zT := zT_in (List.mem_append_left _ (List.mem_of_getElem? (l := k2_sels lw_privs) (i := 36) rfl)) rfl
theorem ms_M_copy : (.selects "PolynomialDeskModel" yM_copy yM_copy : Cond) ∈ zT := zT_in (List.mem_append_left _ (List.mem_of_getElem? (l := k2_sels lw_privs) (i := 37) rfl)) rfl
theorem ms_M_goOn : (.selects "PolynomialDeskModel" yM_goOn yM_goOn : Cond) ∈ zT := zT_in (List.mem_append_left _ (List.mem_of_getElem? (l := k2_sels lw_privs) (i := 38) rfl)) rfl
theorem ms_M_product : (.selects "PolynomialDeskModel" yM_product yM_product : Cond) ∈ zT := zT_in (List.mem_append_left _ (List.mem_of_getElem? (l := k2_sels lw_privs) (i := 39) rfl)) rfl
theorem ms_M_isTooHigh : (.selects "PolynomialDeskModel" yM_isTooHigh yM_isTooHigh : Cond) ∈ zT := zT_in (List.mem_append_left _ (List.mem_of_getElem? (l := k2_sels lw_privs) (i := 40) rfl)) rfl
theorem ms_M_addTo : (.selects "PolynomialDeskModel" yM_addTo yM_addTo : Cond) ∈ zT := zT_in (List.mem_append_left _ (List.mem_of_getElem? (l := k2_sels lw_privs) (i := 41) rfl)) rfl
theorem ms_M_terms : (.selects "PolynomialDeskModel" yM_terms yM_terms : Cond) ∈ zT := zT_in (List.mem_append_left _ (List.mem_of_getElem? (l := k2_sels lw_privs) (i := 42) rfl)) rfl
theorem ms_M_lacks : (.selects "PolynomialDeskModel" yM_lacks yM_lacks : Cond) ∈ zT := zT_in (List.mem_append_left _ (List.mem_of_getElem? (l := k2_sels lw_privs) (i := 43) rfl)) rfl
theorem ms_M_power : (.selects "PolynomialDeskModel" yM_power yM_power : Cond) ∈ zT := zT_in (List.mem_append_left _ (List.mem_of_getElem? (l := k2_sels lw_privs) (i := 44) rfl)) rfl
theorem ms_M_placeOf : (.selects "PolynomialDeskModel" yM_placeOf yM_placeOf : Cond) ∈ zT := zT_in (List.mem_append_left _ (List.mem_of_getElem? (l := k2_sels lw_privs) (i := 45) rfl)) rfl
theorem ms_M_say : (.selects "PolynomialDeskModel" yM_say yM_say : Cond) ∈ zT := zT_in (List.mem_append_left _ (List.mem_of_getElem? (l := k2_sels lw_privs) (i := 46) rfl)) rfl
theorem ms_M_sayTerm : (.selects "PolynomialDeskModel" yM_sayTerm yM_sayTerm : Cond) ∈ zT := zT_in (List.mem_append_left _ (List.mem_of_getElem? (l := k2_sels lw_privs) (i := 47) rfl)) rfl
theorem ms_M_sayNumber : (.selects "PolynomialDeskModel" yM_sayNumber yM_sayNumber : Cond) ∈ zT := zT_in (List.mem_append_left _ (List.mem_of_getElem? (l := k2_sels lw_privs) (i := 48) rfl)) rfl
def TP : u_T := fun k => match k with
  | 0 => ("PolynomialDesk$Printer", "ring", "LPolynomialDesk$Ring;", true)
  | 1 => ("PolynomialDesk$Printer", "bytes", "[C", true)
  | _ => ("PolynomialDesk$Printer", "length", "I", false)
def tP : Nat → FieldType := fun k => match k with
  | 0 => .object "PolynomialDesk$Ring"
  | 1 => .array .char
  | _ => .int
theorem nP : ∀ a, a < 3 → ∀ b, b < 3 → a ≠ b → (TP a).2.1 ≠ (TP b).2.1 := by decide +kernel
theorem tP_ok : ∀ k, k < 3 → parseFieldDescriptor (TP k).2.2.1 = some (tP k) := by decide +kernel
theorem uP : ∀ w ∈ u_ws "PolynomialDesk$Printer" TP 3, w ∈ zT := by decide +kernel
def TE : u_T := fun k => match k with
  | 0 => ("PolynomialDesk$Reader", "ring", "LPolynomialDesk$Ring;", true)
  | 1 => ("PolynomialDesk$Reader", "text", "[C", true)
  | 2 => ("PolynomialDesk$Reader", "length", "I", false)
  | 3 => ("PolynomialDesk$Reader", "at", "I", false)
  | 4 => ("PolynomialDesk$Reader", "fault", "I", false)
  | 5 => ("PolynomialDesk$Reader", "place", "I", false)
  | 6 => ("PolynomialDesk$Reader", "sums", "[[I", true)
  | 7 => ("PolynomialDesk$Reader", "products", "[[I", true)
  | _ => ("PolynomialDesk$Reader", "factor", "[I", true)
def tE : Nat → FieldType := fun k => match k with
  | 0 => .object "PolynomialDesk$Ring"
  | 1 => .array .char
  | 2 => .int
  | 3 => .int
  | 4 => .int
  | 5 => .int
  | 6 => .array (.array .int)
  | 7 => .array (.array .int)
  | _ => .array .int
theorem nE : ∀ a, a < 9 → ∀ b, b < 9 → a ≠ b → (TE a).2.1 ≠ (TE b).2.1 := by decide +kernel
theorem tE_ok : ∀ k, k < 9 → parseFieldDescriptor (TE k).2.2.1 = some (tE k) := by decide +kernel
theorem uE : ∀ w ∈ u_ws "PolynomialDesk$Reader" TE 9, w ∈ zT := by decide +kernel
def TR : u_T := fun k => match k with
  | 0 => ("PolynomialDesk$Ring", "prime", "I", false)
  | 1 => ("PolynomialDesk$Ring", "variables", "I", false)
  | 2 => ("PolynomialDesk$Ring", "order", "I", false)
  | 3 => ("PolynomialDesk$Ring", "highest", "I", false)
  | 4 => ("PolynomialDesk$Ring", "count", "I", false)
  | 5 => ("PolynomialDesk$Ring", "exponents", "[[I", true)
  | 6 => ("PolynomialDesk$Ring", "degrees", "[I", true)
  | 7 => ("PolynomialDesk$Ring", "keys", "[I", true)
  | 8 => ("PolynomialDesk$Ring", "weights", "[I", true)
  | 9 => ("PolynomialDesk$Ring", "indexes", "[I", true)
  | 10 => ("PolynomialDesk$Ring", "chosen", "[I", true)
  | 11 => ("PolynomialDesk$Ring", "scratch", "[I", true)
  | _ => ("PolynomialDesk$Ring", "base", "[I", true)
def tR : Nat → FieldType := fun k => match k with
  | 0 => .int
  | 1 => .int
  | 2 => .int
  | 3 => .int
  | 4 => .int
  | 5 => .array (.array .int)
  | 6 => .array .int
  | 7 => .array .int
  | 8 => .array .int
  | 9 => .array .int
  | 10 => .array .int
  | 11 => .array .int
  | _ => .array .int
theorem nR : ∀ a, a < 13 → ∀ b, b < 13 → a ≠ b → (TR a).2.1 ≠ (TR b).2.1 := by decide +kernel
theorem tR_ok : ∀ k, k < 13 → parseFieldDescriptor (TR k).2.2.1 = some (tR k) := by decide +kernel
theorem uR : ∀ w ∈ u_ws "PolynomialDesk$Ring" TR 13, w ∈ zT := by decide +kernel
def TK : u_T := fun k => match k with
  | 0 => ("PolynomialDesk", "ring", "LPolynomialDesk$Ring;", true)
  | 1 => ("PolynomialDesk", "reader", "LPolynomialDesk$Reader;", true)
  | 2 => ("PolynomialDesk", "printer", "LPolynomialDesk$Printer;", true)
  | 3 => ("PolynomialDesk", "polynomials", "[[I", true)
  | _ => ("PolynomialDesk", "numbers", "[I", true)
def tK : Nat → FieldType := fun k => match k with
  | 0 => .object "PolynomialDesk$Ring"
  | 1 => .object "PolynomialDesk$Reader"
  | 2 => .object "PolynomialDesk$Printer"
  | 3 => .array (.array .int)
  | _ => .array .int
theorem nK : ∀ a, a < 5 → ∀ b, b < 5 → a ≠ b → (TK a).2.1 ≠ (TK b).2.1 := by decide +kernel
theorem tK_ok : ∀ k, k < 5 → parseFieldDescriptor (TK k).2.2.1 = some (tK k) := by decide +kernel
theorem uK : ∀ w ∈ u_ws "PolynomialDesk" TK 5, w ∈ zT := by decide +kernel
def TM : u_T := fun k => match k with
  | 0 => ("PolynomialDeskModel", "thrown", "I", false)
  | 1 => ("PolynomialDeskModel", "prime", "I", false)
  | 2 => ("PolynomialDeskModel", "many", "I", false)
  | 3 => ("PolynomialDeskModel", "order", "I", false)
  | 4 => ("PolynomialDeskModel", "highest", "I", false)
  | 5 => ("PolynomialDeskModel", "base", "I", false)
  | 6 => ("PolynomialDeskModel", "degree", "[I", true)
  | 7 => ("PolynomialDeskModel", "exponents", "[I", true)
  | 8 => ("PolynomialDeskModel", "listed", "[I", true)
  | 9 => ("PolynomialDeskModel", "unit", "[I", true)
  | 10 => ("PolynomialDeskModel", "monomials", "I", false)
  | 11 => ("PolynomialDeskModel", "cells", "[I", true)
  | 12 => ("PolynomialDeskModel", "hand", "[I", true)
  | 13 => ("PolynomialDeskModel", "inHand", "I", false)
  | 14 => ("PolynomialDeskModel", "fault", "I", false)
  | 15 => ("PolynomialDeskModel", "place", "I", false)
  | 16 => ("PolynomialDeskModel", "n", "I", false)
  | 17 => ("PolynomialDeskModel", "at", "I", false)
  | 18 => ("PolynomialDeskModel", "state", "I", false)
  | 19 => ("PolynomialDeskModel", "depth", "I", false)
  | 20 => ("PolynomialDeskModel", "failed", "I", false)
  | 21 => ("PolynomialDeskModel", "failedAt", "I", false)
  | 22 => ("PolynomialDeskModel", "text", "[I", true)
  | 23 => ("PolynomialDeskModel", "sign", "[I", true)
  | 24 => ("PolynomialDeskModel", "star", "[I", true)
  | 25 => ("PolynomialDeskModel", "out", "[I", true)
  | _ => ("PolynomialDeskModel", "printed", "I", false)
def tM : Nat → FieldType := fun k => match k with
  | 0 => .int
  | 1 => .int
  | 2 => .int
  | 3 => .int
  | 4 => .int
  | 5 => .int
  | 6 => .array .int
  | 7 => .array .int
  | 8 => .array .int
  | 9 => .array .int
  | 10 => .int
  | 11 => .array .int
  | 12 => .array .int
  | 13 => .int
  | 14 => .int
  | 15 => .int
  | 16 => .int
  | 17 => .int
  | 18 => .int
  | 19 => .int
  | 20 => .int
  | 21 => .int
  | 22 => .array .int
  | 23 => .array .int
  | 24 => .array .int
  | 25 => .array .int
  | _ => .int
theorem nM : ∀ a, a < 27 → ∀ b, b < 27 → a ≠ b → (TM a).2.1 ≠ (TM b).2.1 := by decide +kernel
theorem tM_ok : ∀ k, k < 27 → parseFieldDescriptor (TM k).2.2.1 = some (tM k) := by decide +kernel
theorem uM : ∀ w ∈ u_ws "PolynomialDeskModel" TM 27, w ∈ zT := by decide +kernel
abbrev zcl : List vw_C := [("PolynomialDesk$Printer", TP, 3), ("PolynomialDesk$Reader", TE, 9), ("PolynomialDesk$Ring", TR, 13), ("PolynomialDesk", TK, 5), ("PolynomialDeskModel", TM, 27)]
