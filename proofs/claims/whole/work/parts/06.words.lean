theorem wd_0 : (Cond.fieldLink "PrefixCodes" 15 "PrefixCodes" "codesMade" "I" : Cond) ∈ gW := List.mem_filter.mpr ⟨gt2 _ (List.mem_of_getElem? (i := 90) rfl), rfl⟩
theorem wd_1 : (Cond.fieldLink "PrefixCodes" 11 "PrefixCodes" "codes" "[LPrefixCodes$Code;" : Cond) ∈ gW := List.mem_filter.mpr ⟨gt2 _ (List.mem_of_getElem? (i := 89) rfl), rfl⟩
theorem wd_2 : (Cond.code ⟨"PrefixCodes", "isOutside", "(III)Z"⟩ prog_1_method_28_code 3 (some .boolean) : Cond) ∈ gW := List.mem_filter.mpr ⟨gt2 _ (List.mem_of_getElem? (i := 126) rfl), rfl⟩
theorem wd_3 : (Cond.methodLink "PrefixCodes" 76 ⟨"PrefixCodes", "isOutside", "(III)Z"⟩ : Cond) ∈ gW := List.mem_filter.mpr ⟨gt2 _ (List.mem_of_getElem? (i := 124) rfl), rfl⟩
theorem wd_4 : (Cond.initialized "PrefixCodes" : Cond) ∈ gW := List.mem_filter.mpr ⟨gt1 _ (List.mem_of_getElem? (i := 1) rfl), rfl⟩
theorem wd_5 : (Cond.static ⟨"PrefixCodes", "isOutside", "(III)Z"⟩ : Cond) ∈ gW := List.mem_filter.mpr ⟨gt2 _ (List.mem_of_getElem? (i := 125) rfl), rfl⟩
theorem wd_6 : (Cond.fieldLink "PrefixCodes" 104 "PrefixCodes$Code" "symbols" "I" : Cond) ∈ gW := List.mem_filter.mpr ⟨gt1 _ (List.mem_of_getElem? (i := 105) rfl), rfl⟩
theorem wd_7 : (Cond.code ⟨"PrefixCodes", "codeAt", "(I)LPrefixCodes$Code;"⟩ prog_1_method_29_code 2 (some (.object "PrefixCodes$Code")) : Cond) ∈ gW := List.mem_filter.mpr ⟨gt2 _ (List.mem_of_getElem? (i := 143) rfl), rfl⟩
theorem wd_8 : (Cond.methodLink "PrefixCodes" 97 ⟨"PrefixCodes", "codeAt", "(I)LPrefixCodes$Code;"⟩ : Cond) ∈ gW := List.mem_filter.mpr ⟨gt2 _ (List.mem_of_getElem? (i := 140) rfl), rfl⟩
theorem wd_9 : (Cond.instanceMethod ⟨"PrefixCodes", "codeAt", "(I)LPrefixCodes$Code;"⟩ : Cond) ∈ gW := List.mem_filter.mpr ⟨gt2 _ (List.mem_of_getElem? (i := 142) rfl), rfl⟩
theorem wd_10 : (Cond.selects "PrefixCodes" ⟨"PrefixCodes", "codeAt", "(I)LPrefixCodes$Code;"⟩ ⟨"PrefixCodes", "codeAt", "(I)LPrefixCodes$Code;"⟩ : Cond) ∈ gW := List.mem_filter.mpr ⟨gp1 (⟨"PrefixCodes", "codeAt", "(I)LPrefixCodes$Code;"⟩, 10) (List.mem_of_getElem? (i := 2) rfl), rfl⟩
theorem wd_11 : (Cond.fieldLink "PrefixCodes$Code" 21 "PrefixCodes$Code" "manyOfLength" "[I" : Cond) ∈ gW := List.mem_filter.mpr ⟨gt1 _ (List.mem_of_getElem? (i := 120) rfl), rfl⟩
theorem wd_12 : (Cond.fieldLink "PrefixCodes$Code" 43 "PrefixCodes$Code" "symbols" "I" : Cond) ∈ gW := List.mem_filter.mpr ⟨gt1 _ (List.mem_of_getElem? (i := 102) rfl), rfl⟩
theorem wd_13 : (Cond.fieldLink "PrefixCodes$Code" 9 "PrefixCodes$Code" "lengths" "[I" : Cond) ∈ gW := List.mem_filter.mpr ⟨gt1 _ (List.mem_of_getElem? (i := 106) rfl), rfl⟩
theorem wd_14 : (Cond.code ⟨"java/util/Arrays", "fill", "([II)V"⟩ prog_21_method_103_code 4 none : Cond) ∈ gW := List.mem_filter.mpr ⟨gt2 _ (List.mem_of_getElem? (i := 154) rfl), rfl⟩
theorem wd_15 : (Cond.methodLink "PrefixCodes$Code" 59 ⟨"java/util/Arrays", "fill", "([II)V"⟩ : Cond) ∈ gW := List.mem_filter.mpr ⟨gt2 _ (List.mem_of_getElem? (i := 152) rfl), rfl⟩
theorem wd_16 : (Cond.initialized "java/util/Arrays" : Cond) ∈ gW := List.mem_filter.mpr ⟨gt1 _ (List.mem_of_getElem? (i := 13) rfl), rfl⟩
theorem wd_17 : (Cond.static ⟨"java/util/Arrays", "fill", "([II)V"⟩ : Cond) ∈ gW := List.mem_filter.mpr ⟨gt2 _ (List.mem_of_getElem? (i := 153) rfl), rfl⟩
theorem wd_18 : (Cond.fieldLink "PrefixCodes$Code" 30 "PrefixCodes$Code" "filled" "I" : Cond) ∈ gW := List.mem_filter.mpr ⟨gt1 _ (List.mem_of_getElem? (i := 123) rfl), rfl⟩
theorem wd_19 : (Cond.fieldLink "PrefixCodes$Code" 34 "PrefixCodes$Code" "having" "I" : Cond) ∈ gW := List.mem_filter.mpr ⟨gt1 _ (List.mem_of_getElem? (i := 125) rfl), rfl⟩
theorem wd_20 : (Cond.fieldLink "PrefixCodes$Code" 37 "PrefixCodes$Code" "greatest" "I" : Cond) ∈ gW := List.mem_filter.mpr ⟨gt1 _ (List.mem_of_getElem? (i := 128) rfl), rfl⟩
theorem wd_21 : (Cond.fieldLink "PrefixCodes$Code" 24 "PrefixCodes$Code" "firstWord" "[I" : Cond) ∈ gW := List.mem_filter.mpr ⟨gt1 _ (List.mem_of_getElem? (i := 121) rfl), rfl⟩
theorem wd_22 : (Cond.fieldLink "PrefixCodes$Code" 27 "PrefixCodes$Code" "firstPlace" "[I" : Cond) ∈ gW := List.mem_filter.mpr ⟨gt1 _ (List.mem_of_getElem? (i := 122) rfl), rfl⟩
theorem wd_23 : (Cond.fieldLink "PrefixCodes$Code" 15 "PrefixCodes$Code" "words" "[I" : Cond) ∈ gW := List.mem_filter.mpr ⟨gt1 _ (List.mem_of_getElem? (i := 113) rfl), rfl⟩
theorem wd_24 : (Cond.fieldLink "PrefixCodes$Code" 18 "PrefixCodes$Code" "ordered" "[I" : Cond) ∈ gW := List.mem_filter.mpr ⟨gt1 _ (List.mem_of_getElem? (i := 118) rfl), rfl⟩
theorem wd_25 : (Cond.constant "PrefixCodes$Code" 65 (32768 : Int32) : Cond) ∈ gW := List.mem_filter.mpr ⟨gt2 _ (List.mem_of_getElem? (i := 167) rfl), rfl⟩
theorem wd_26 : (Cond.fieldLink "PrefixCodes$Code" 40 "PrefixCodes$Code" "kind" "I" : Cond) ∈ gW := List.mem_filter.mpr ⟨gt1 _ (List.mem_of_getElem? (i := 130) rfl), rfl⟩
theorem wd_27 : (Cond.code ⟨"PrefixCodes$Code", "countLengths", "()V"⟩ prog_3_method_3_code 2 none : Cond) ∈ gW := List.mem_filter.mpr ⟨gt2 _ (List.mem_of_getElem? (i := 151) rfl), rfl⟩
theorem wd_28 : (Cond.methodLink "PrefixCodes$Code" 46 ⟨"PrefixCodes$Code", "countLengths", "()V"⟩ : Cond) ∈ gW := List.mem_filter.mpr ⟨gt2 _ (List.mem_of_getElem? (i := 148) rfl), rfl⟩
theorem wd_29 : (Cond.initialized "PrefixCodes$Code" : Cond) ∈ gW := List.mem_filter.mpr ⟨gt1 _ (List.mem_of_getElem? (i := 6) rfl), rfl⟩
theorem wd_30 : (Cond.instanceMethod ⟨"PrefixCodes$Code", "countLengths", "()V"⟩ : Cond) ∈ gW := List.mem_filter.mpr ⟨gt2 _ (List.mem_of_getElem? (i := 150) rfl), rfl⟩
theorem wd_31 : (Cond.selects "PrefixCodes$Code" ⟨"PrefixCodes$Code", "countLengths", "()V"⟩ ⟨"PrefixCodes$Code", "countLengths", "()V"⟩ : Cond) ∈ gW := List.mem_filter.mpr ⟨gp1 (⟨"PrefixCodes$Code", "countLengths", "()V"⟩, 11) (List.mem_of_getElem? (i := 3) rfl), rfl⟩
theorem wd_32 : (Cond.code ⟨"PrefixCodes$Code", "placeLengths", "()V"⟩ prog_3_method_4_code 3 none : Cond) ∈ gW := List.mem_filter.mpr ⟨gt2 _ (List.mem_of_getElem? (i := 158) rfl), rfl⟩
theorem wd_33 : (Cond.methodLink "PrefixCodes$Code" 49 ⟨"PrefixCodes$Code", "placeLengths", "()V"⟩ : Cond) ∈ gW := List.mem_filter.mpr ⟨gt2 _ (List.mem_of_getElem? (i := 155) rfl), rfl⟩
theorem wd_34 : (Cond.instanceMethod ⟨"PrefixCodes$Code", "placeLengths", "()V"⟩ : Cond) ∈ gW := List.mem_filter.mpr ⟨gt2 _ (List.mem_of_getElem? (i := 157) rfl), rfl⟩
theorem wd_35 : (Cond.selects "PrefixCodes$Code" ⟨"PrefixCodes$Code", "placeLengths", "()V"⟩ ⟨"PrefixCodes$Code", "placeLengths", "()V"⟩ : Cond) ∈ gW := List.mem_filter.mpr ⟨gp1 (⟨"PrefixCodes$Code", "placeLengths", "()V"⟩, 11) (List.mem_of_getElem? (i := 4) rfl), rfl⟩
theorem wd_36 : (Cond.code ⟨"PrefixCodes$Code", "nameSymbols", "()V"⟩ prog_3_method_5_code 3 none : Cond) ∈ gW := List.mem_filter.mpr ⟨gt2 _ (List.mem_of_getElem? (i := 162) rfl), rfl⟩
theorem wd_37 : (Cond.methodLink "PrefixCodes$Code" 52 ⟨"PrefixCodes$Code", "nameSymbols", "()V"⟩ : Cond) ∈ gW := List.mem_filter.mpr ⟨gt2 _ (List.mem_of_getElem? (i := 159) rfl), rfl⟩
theorem wd_38 : (Cond.instanceMethod ⟨"PrefixCodes$Code", "nameSymbols", "()V"⟩ : Cond) ∈ gW := List.mem_filter.mpr ⟨gt2 _ (List.mem_of_getElem? (i := 161) rfl), rfl⟩
theorem wd_39 : (Cond.selects "PrefixCodes$Code" ⟨"PrefixCodes$Code", "nameSymbols", "()V"⟩ ⟨"PrefixCodes$Code", "nameSymbols", "()V"⟩ : Cond) ∈ gW := List.mem_filter.mpr ⟨gp1 (⟨"PrefixCodes$Code", "nameSymbols", "()V"⟩, 11) (List.mem_of_getElem? (i := 5) rfl), rfl⟩
theorem wd_40 : (Cond.code ⟨"PrefixCodes$Code", "judged", "()I"⟩ prog_3_method_6_code 1 (some .int) : Cond) ∈ gW := List.mem_filter.mpr ⟨gt2 _ (List.mem_of_getElem? (i := 166) rfl), rfl⟩
theorem wd_41 : (Cond.methodLink "PrefixCodes$Code" 55 ⟨"PrefixCodes$Code", "judged", "()I"⟩ : Cond) ∈ gW := List.mem_filter.mpr ⟨gt2 _ (List.mem_of_getElem? (i := 163) rfl), rfl⟩
theorem wd_42 : (Cond.instanceMethod ⟨"PrefixCodes$Code", "judged", "()I"⟩ : Cond) ∈ gW := List.mem_filter.mpr ⟨gt2 _ (List.mem_of_getElem? (i := 165) rfl), rfl⟩
theorem wd_43 : (Cond.selects "PrefixCodes$Code" ⟨"PrefixCodes$Code", "judged", "()I"⟩ ⟨"PrefixCodes$Code", "judged", "()I"⟩ : Cond) ∈ gW := List.mem_filter.mpr ⟨gp1 (⟨"PrefixCodes$Code", "judged", "()I"⟩, 11) (List.mem_of_getElem? (i := 6) rfl), rfl⟩
theorem wd_44 : (Cond.fieldLink "PrefixCodes" 91 "PrefixCodes$Code" "lengths" "[I" : Cond) ∈ gW := List.mem_filter.mpr ⟨gt1 _ (List.mem_of_getElem? (i := 111) rfl), rfl⟩
theorem wd_45 : (Cond.code ⟨"PrefixCodes", "codeWith", "(II)LPrefixCodes$Code;"⟩ prog_1_method_30_code 4 (some (.object "PrefixCodes$Code")) : Cond) ∈ gW := List.mem_filter.mpr ⟨gt2 _ (List.mem_of_getElem? (i := 139) rfl), rfl⟩
theorem wd_46 : (Cond.methodLink "PrefixCodes" 87 ⟨"PrefixCodes", "codeWith", "(II)LPrefixCodes$Code;"⟩ : Cond) ∈ gW := List.mem_filter.mpr ⟨gt2 _ (List.mem_of_getElem? (i := 136) rfl), rfl⟩
theorem wd_47 : (Cond.instanceMethod ⟨"PrefixCodes", "codeWith", "(II)LPrefixCodes$Code;"⟩ : Cond) ∈ gW := List.mem_filter.mpr ⟨gt2 _ (List.mem_of_getElem? (i := 138) rfl), rfl⟩
theorem wd_48 : (Cond.selects "PrefixCodes" ⟨"PrefixCodes", "codeWith", "(II)LPrefixCodes$Code;"⟩ ⟨"PrefixCodes", "codeWith", "(II)LPrefixCodes$Code;"⟩ : Cond) ∈ gW := List.mem_filter.mpr ⟨gp1 (⟨"PrefixCodes", "codeWith", "(II)LPrefixCodes$Code;"⟩, 10) (List.mem_of_getElem? (i := 1) rfl), rfl⟩
theorem wd_49 : (Cond.code ⟨"PrefixCodes$Code", "renumber", "()V"⟩ prog_3_method_2_code 1 none : Cond) ∈ gW := List.mem_filter.mpr ⟨gt2 _ (List.mem_of_getElem? (i := 147) rfl), rfl⟩
theorem wd_50 : (Cond.methodLink "PrefixCodes" 94 ⟨"PrefixCodes$Code", "renumber", "()V"⟩ : Cond) ∈ gW := List.mem_filter.mpr ⟨gt2 _ (List.mem_of_getElem? (i := 144) rfl), rfl⟩
theorem wd_51 : (Cond.instanceMethod ⟨"PrefixCodes$Code", "renumber", "()V"⟩ : Cond) ∈ gW := List.mem_filter.mpr ⟨gt2 _ (List.mem_of_getElem? (i := 145) rfl), rfl⟩
theorem wd_52 : (Cond.selects "PrefixCodes$Code" ⟨"PrefixCodes$Code", "renumber", "()V"⟩ ⟨"PrefixCodes$Code", "renumber", "()V"⟩ : Cond) ∈ gW := List.mem_filter.mpr ⟨gt2 _ (List.mem_of_getElem? (i := 146) rfl), rfl⟩
theorem wd_53 : (Cond.fieldLink "PrefixCodes" 101 "PrefixCodes$Code" "kind" "I" : Cond) ∈ gW := List.mem_filter.mpr ⟨gt1 _ (List.mem_of_getElem? (i := 131) rfl), rfl⟩
theorem wd_54 : (Cond.fieldLink "PrefixCodes" 107 "PrefixCodes$Code" "filled" "I" : Cond) ∈ gW := List.mem_filter.mpr ⟨gt1 _ (List.mem_of_getElem? (i := 124) rfl), rfl⟩
theorem wd_55 : (Cond.fieldLink "PrefixCodes" 110 "PrefixCodes$Code" "having" "I" : Cond) ∈ gW := List.mem_filter.mpr ⟨gt1 _ (List.mem_of_getElem? (i := 127) rfl), rfl⟩
theorem wd_56 : (Cond.fieldLink "PrefixCodes" 113 "PrefixCodes$Code" "greatest" "I" : Cond) ∈ gW := List.mem_filter.mpr ⟨gt1 _ (List.mem_of_getElem? (i := 129) rfl), rfl⟩
theorem wd_57 : (Cond.fieldLink "PrefixCodes" 124 "PrefixCodes$Code" "words" "[I" : Cond) ∈ gW := List.mem_filter.mpr ⟨gt1 _ (List.mem_of_getElem? (i := 116) rfl), rfl⟩
theorem wd_58 : (Cond.code ⟨"PrefixCodes$Code", "hasWord", "(I)Z"⟩ prog_3_method_7_code 2 (some .boolean) : Cond) ∈ gW := List.mem_filter.mpr ⟨gt2 _ (List.mem_of_getElem? (i := 179) rfl), rfl⟩
theorem wd_59 : (Cond.methodLink "PrefixCodes" 116 ⟨"PrefixCodes$Code", "hasWord", "(I)Z"⟩ : Cond) ∈ gW := List.mem_filter.mpr ⟨gt2 _ (List.mem_of_getElem? (i := 176) rfl), rfl⟩
theorem wd_60 : (Cond.instanceMethod ⟨"PrefixCodes$Code", "hasWord", "(I)Z"⟩ : Cond) ∈ gW := List.mem_filter.mpr ⟨gt2 _ (List.mem_of_getElem? (i := 177) rfl), rfl⟩
theorem wd_61 : (Cond.selects "PrefixCodes$Code" ⟨"PrefixCodes$Code", "hasWord", "(I)Z"⟩ ⟨"PrefixCodes$Code", "hasWord", "(I)Z"⟩ : Cond) ∈ gW := List.mem_filter.mpr ⟨gt2 _ (List.mem_of_getElem? (i := 178) rfl), rfl⟩
theorem wd_62 : (Cond.code ⟨"PrefixCodes$Code", "turnedWord", "(I)I"⟩ prog_3_method_9_code 4 (some .int) : Cond) ∈ gW := List.mem_filter.mpr ⟨gt2 _ (List.mem_of_getElem? (i := 183) rfl), rfl⟩
theorem wd_63 : (Cond.methodLink "PrefixCodes" 120 ⟨"PrefixCodes$Code", "turnedWord", "(I)I"⟩ : Cond) ∈ gW := List.mem_filter.mpr ⟨gt2 _ (List.mem_of_getElem? (i := 180) rfl), rfl⟩
theorem wd_64 : (Cond.instanceMethod ⟨"PrefixCodes$Code", "turnedWord", "(I)I"⟩ : Cond) ∈ gW := List.mem_filter.mpr ⟨gt2 _ (List.mem_of_getElem? (i := 181) rfl), rfl⟩
theorem wd_65 : (Cond.selects "PrefixCodes$Code" ⟨"PrefixCodes$Code", "turnedWord", "(I)I"⟩ ⟨"PrefixCodes$Code", "turnedWord", "(I)I"⟩ : Cond) ∈ gW := List.mem_filter.mpr ⟨gt2 _ (List.mem_of_getElem? (i := 182) rfl), rfl⟩
theorem wd_66 : (Cond.constant "PrefixCodes" 127 (1000000 : Int32) : Cond) ∈ gW := List.mem_filter.mpr ⟨gt2 _ (List.mem_of_getElem? (i := 188) rfl), rfl⟩
theorem wd_67 : (Cond.fieldLink "PrefixCodes" 19 "PrefixCodes" "counts" "[I" : Cond) ∈ gW := List.mem_filter.mpr ⟨gt2 _ (List.mem_of_getElem? (i := 91) rfl), rfl⟩
theorem wd_68 : (Cond.fieldLink "PrefixCodes$Text" 15 "PrefixCodes$Text" "size" "I" : Cond) ∈ gW := List.mem_filter.mpr ⟨gt1 _ (List.mem_of_getElem? (i := 236) rfl), rfl⟩
theorem wd_69 : (Cond.fieldLink "PrefixCodes$Text" 9 "PrefixCodes$Text" "row" "[I" : Cond) ∈ gW := List.mem_filter.mpr ⟨gt1 _ (List.mem_of_getElem? (i := 233) rfl), rfl⟩
theorem wd_70 : (Cond.methodLink "PrefixCodes$Text" 31 ⟨"java/util/Arrays", "fill", "([II)V"⟩ : Cond) ∈ gW := List.mem_filter.mpr ⟨gt2 _ (List.mem_of_getElem? (i := 197) rfl), rfl⟩
theorem wd_71 : (Cond.fieldLink "PrefixCodes" 56 "PrefixCodes" "text" "LPrefixCodes$Text;" : Cond) ∈ gW := List.mem_filter.mpr ⟨gt2 _ (List.mem_of_getElem? (i := 96) rfl), rfl⟩
theorem wd_72 : (Cond.code ⟨"PrefixCodes$Text", "tally", "([I)V"⟩ prog_11_method_4_code 3 none : Cond) ∈ gW := List.mem_filter.mpr ⟨gt2 _ (List.mem_of_getElem? (i := 196) rfl), rfl⟩
theorem wd_73 : (Cond.methodLink "PrefixCodes" 128 ⟨"PrefixCodes$Text", "tally", "([I)V"⟩ : Cond) ∈ gW := List.mem_filter.mpr ⟨gt2 _ (List.mem_of_getElem? (i := 193) rfl), rfl⟩
theorem wd_74 : (Cond.initialized "PrefixCodes$Text" : Cond) ∈ gW := List.mem_filter.mpr ⟨gt1 _ (List.mem_of_getElem? (i := 8) rfl), rfl⟩
theorem wd_75 : (Cond.instanceMethod ⟨"PrefixCodes$Text", "tally", "([I)V"⟩ : Cond) ∈ gW := List.mem_filter.mpr ⟨gt2 _ (List.mem_of_getElem? (i := 194) rfl), rfl⟩
theorem wd_76 : (Cond.selects "PrefixCodes$Text" ⟨"PrefixCodes$Text", "tally", "([I)V"⟩ ⟨"PrefixCodes$Text", "tally", "([I)V"⟩ : Cond) ∈ gW := List.mem_filter.mpr ⟨gt2 _ (List.mem_of_getElem? (i := 195) rfl), rfl⟩
theorem wd_77 : (Cond.code ⟨"PrefixCodes", "countedBelow", "(I)I"⟩ prog_1_method_32_code 4 (some .int) : Cond) ∈ gW := List.mem_filter.mpr ⟨gt2 _ (List.mem_of_getElem? (i := 201) rfl), rfl⟩
theorem wd_78 : (Cond.methodLink "PrefixCodes" 132 ⟨"PrefixCodes", "countedBelow", "(I)I"⟩ : Cond) ∈ gW := List.mem_filter.mpr ⟨gt2 _ (List.mem_of_getElem? (i := 198) rfl), rfl⟩
theorem wd_79 : (Cond.instanceMethod ⟨"PrefixCodes", "countedBelow", "(I)I"⟩ : Cond) ∈ gW := List.mem_filter.mpr ⟨gt2 _ (List.mem_of_getElem? (i := 200) rfl), rfl⟩
theorem wd_80 : (Cond.selects "PrefixCodes" ⟨"PrefixCodes", "countedBelow", "(I)I"⟩ ⟨"PrefixCodes", "countedBelow", "(I)I"⟩ : Cond) ∈ gW := List.mem_filter.mpr ⟨gp1 (⟨"PrefixCodes", "countedBelow", "(I)I"⟩, 10) (List.mem_of_getElem? (i := 7) rfl), rfl⟩
theorem wd_81 : (Cond.fieldLink "PrefixCodes$Packages" 18 "PrefixCodes$Packages" "many" "I" : Cond) ∈ gW := List.mem_filter.mpr ⟨gt1 _ (List.mem_of_getElem? (i := 66) rfl), rfl⟩
theorem wd_82 : (Cond.fieldLink "PrefixCodes$Packages" 15 "PrefixCodes$Packages" "weights" "[I" : Cond) ∈ gW := List.mem_filter.mpr ⟨gt1 _ (List.mem_of_getElem? (i := 65) rfl), rfl⟩
theorem wd_83 : (Cond.fieldLink "PrefixCodes$Packages" 9 "PrefixCodes$Packages" "ordered" "[I" : Cond) ∈ gW := List.mem_filter.mpr ⟨gt1 _ (List.mem_of_getElem? (i := 64) rfl), rfl⟩
theorem wd_84 : (Cond.code ⟨"PrefixCodes$Packages", "insert", "(II)V"⟩ prog_6_method_4_code 4 none : Cond) ∈ gW := List.mem_filter.mpr ⟨gt2 _ (List.mem_of_getElem? (i := 218) rfl), rfl⟩
theorem wd_85 : (Cond.methodLink "PrefixCodes$Packages" 66 ⟨"PrefixCodes$Packages", "insert", "(II)V"⟩ : Cond) ∈ gW := List.mem_filter.mpr ⟨gt2 _ (List.mem_of_getElem? (i := 215) rfl), rfl⟩
theorem wd_86 : (Cond.initialized "PrefixCodes$Packages" : Cond) ∈ gW := List.mem_filter.mpr ⟨gt1 _ (List.mem_of_getElem? (i := 3) rfl), rfl⟩
theorem wd_87 : (Cond.instanceMethod ⟨"PrefixCodes$Packages", "insert", "(II)V"⟩ : Cond) ∈ gW := List.mem_filter.mpr ⟨gt2 _ (List.mem_of_getElem? (i := 217) rfl), rfl⟩
theorem wd_88 : (Cond.selects "PrefixCodes$Packages" ⟨"PrefixCodes$Packages", "insert", "(II)V"⟩ ⟨"PrefixCodes$Packages", "insert", "(II)V"⟩ : Cond) ∈ gW := List.mem_filter.mpr ⟨gp1 (⟨"PrefixCodes$Packages", "insert", "(II)V"⟩, 6) (List.mem_of_getElem? (i := 9) rfl), rfl⟩
theorem wd_89 : (Cond.fieldLink "PrefixCodes$Packages" 27 "PrefixCodes$Packages" "sizes" "[I" : Cond) ∈ gW := List.mem_filter.mpr ⟨gt1 _ (List.mem_of_getElem? (i := 68) rfl), rfl⟩
theorem wd_90 : (Cond.fieldLink "PrefixCodes$Packages" 24 "PrefixCodes$Packages" "row" "[[J" : Cond) ∈ gW := List.mem_filter.mpr ⟨gt1 _ (List.mem_of_getElem? (i := 67) rfl), rfl⟩
theorem wd_91 : (Cond.fieldLink "PrefixCodes$Packages" 32 "PrefixCodes$Packages" "isSymbol" "[[I" : Cond) ∈ gW := List.mem_filter.mpr ⟨gt1 _ (List.mem_of_getElem? (i := 69) rfl), rfl⟩
theorem wd_92 : (Cond.fieldLink "PrefixCodes$Packages" 35 "PrefixCodes$Code" "lengths" "[I" : Cond) ∈ gW := List.mem_filter.mpr ⟨gt1 _ (List.mem_of_getElem? (i := 107) rfl), rfl⟩
theorem wd_93 : (Cond.fieldLink "PrefixCodes$Packages" 46 "PrefixCodes$Code" "symbols" "I" : Cond) ∈ gW := List.mem_filter.mpr ⟨gt1 _ (List.mem_of_getElem? (i := 103) rfl), rfl⟩
theorem wd_94 : (Cond.methodLink "PrefixCodes$Packages" 40 ⟨"java/util/Arrays", "fill", "([II)V"⟩ : Cond) ∈ gW := List.mem_filter.mpr ⟨gt2 _ (List.mem_of_getElem? (i := 210) rfl), rfl⟩
theorem wd_95 : (Cond.code ⟨"PrefixCodes$Packages", "order", "([II)V"⟩ prog_6_method_3_code 4 none : Cond) ∈ gW := List.mem_filter.mpr ⟨gt2 _ (List.mem_of_getElem? (i := 214) rfl), rfl⟩
theorem wd_96 : (Cond.methodLink "PrefixCodes$Packages" 49 ⟨"PrefixCodes$Packages", "order", "([II)V"⟩ : Cond) ∈ gW := List.mem_filter.mpr ⟨gt2 _ (List.mem_of_getElem? (i := 211) rfl), rfl⟩
theorem wd_97 : (Cond.instanceMethod ⟨"PrefixCodes$Packages", "order", "([II)V"⟩ : Cond) ∈ gW := List.mem_filter.mpr ⟨gt2 _ (List.mem_of_getElem? (i := 213) rfl), rfl⟩
theorem wd_98 : (Cond.selects "PrefixCodes$Packages" ⟨"PrefixCodes$Packages", "order", "([II)V"⟩ ⟨"PrefixCodes$Packages", "order", "([II)V"⟩ : Cond) ∈ gW := List.mem_filter.mpr ⟨gp1 (⟨"PrefixCodes$Packages", "order", "([II)V"⟩, 6) (List.mem_of_getElem? (i := 8) rfl), rfl⟩
theorem wd_99 : (Cond.methodLink "PrefixCodes$Packages" 63 ⟨"PrefixCodes$Code", "renumber", "()V"⟩ : Cond) ∈ gW := List.mem_filter.mpr ⟨gt2 _ (List.mem_of_getElem? (i := 231) rfl), rfl⟩
theorem wd_100 : (Cond.code ⟨"PrefixCodes$Packages", "makeFirstRow", "()V"⟩ prog_6_method_5_code 2 none : Cond) ∈ gW := List.mem_filter.mpr ⟨gt2 _ (List.mem_of_getElem? (i := 222) rfl), rfl⟩
theorem wd_101 : (Cond.methodLink "PrefixCodes$Packages" 52 ⟨"PrefixCodes$Packages", "makeFirstRow", "()V"⟩ : Cond) ∈ gW := List.mem_filter.mpr ⟨gt2 _ (List.mem_of_getElem? (i := 219) rfl), rfl⟩
theorem wd_102 : (Cond.instanceMethod ⟨"PrefixCodes$Packages", "makeFirstRow", "()V"⟩ : Cond) ∈ gW := List.mem_filter.mpr ⟨gt2 _ (List.mem_of_getElem? (i := 221) rfl), rfl⟩
theorem wd_103 : (Cond.selects "PrefixCodes$Packages" ⟨"PrefixCodes$Packages", "makeFirstRow", "()V"⟩ ⟨"PrefixCodes$Packages", "makeFirstRow", "()V"⟩ : Cond) ∈ gW := List.mem_filter.mpr ⟨gp1 (⟨"PrefixCodes$Packages", "makeFirstRow", "()V"⟩, 6) (List.mem_of_getElem? (i := 10) rfl), rfl⟩
theorem wd_104 : (Cond.code ⟨"PrefixCodes$Packages", "goBack", "(I[I)V"⟩ prog_6_method_7_code 7 none : Cond) ∈ gW := List.mem_filter.mpr ⟨gt2 _ (List.mem_of_getElem? (i := 230) rfl), rfl⟩
theorem wd_105 : (Cond.methodLink "PrefixCodes$Packages" 59 ⟨"PrefixCodes$Packages", "goBack", "(I[I)V"⟩ : Cond) ∈ gW := List.mem_filter.mpr ⟨gt2 _ (List.mem_of_getElem? (i := 227) rfl), rfl⟩
theorem wd_106 : (Cond.instanceMethod ⟨"PrefixCodes$Packages", "goBack", "(I[I)V"⟩ : Cond) ∈ gW := List.mem_filter.mpr ⟨gt2 _ (List.mem_of_getElem? (i := 229) rfl), rfl⟩
theorem wd_107 : (Cond.selects "PrefixCodes$Packages" ⟨"PrefixCodes$Packages", "goBack", "(I[I)V"⟩ ⟨"PrefixCodes$Packages", "goBack", "(I[I)V"⟩ : Cond) ∈ gW := List.mem_filter.mpr ⟨gp1 (⟨"PrefixCodes$Packages", "goBack", "(I[I)V"⟩, 6) (List.mem_of_getElem? (i := 12) rfl), rfl⟩
theorem wd_108 : (Cond.code ⟨"PrefixCodes$Packages", "makeRow", "(I)V"⟩ prog_6_method_6_code 10 none : Cond) ∈ gW := List.mem_filter.mpr ⟨gt2 _ (List.mem_of_getElem? (i := 226) rfl), rfl⟩
theorem wd_109 : (Cond.methodLink "PrefixCodes$Packages" 55 ⟨"PrefixCodes$Packages", "makeRow", "(I)V"⟩ : Cond) ∈ gW := List.mem_filter.mpr ⟨gt2 _ (List.mem_of_getElem? (i := 223) rfl), rfl⟩
theorem wd_110 : (Cond.instanceMethod ⟨"PrefixCodes$Packages", "makeRow", "(I)V"⟩ : Cond) ∈ gW := List.mem_filter.mpr ⟨gt2 _ (List.mem_of_getElem? (i := 225) rfl), rfl⟩
theorem wd_111 : (Cond.selects "PrefixCodes$Packages" ⟨"PrefixCodes$Packages", "makeRow", "(I)V"⟩ ⟨"PrefixCodes$Packages", "makeRow", "(I)V"⟩ : Cond) ∈ gW := List.mem_filter.mpr ⟨gp1 (⟨"PrefixCodes$Packages", "makeRow", "(I)V"⟩, 6) (List.mem_of_getElem? (i := 11) rfl), rfl⟩
theorem wd_112 : (Cond.constantLong "PrefixCodes" 139 (-101 : Int64) : Cond) ∈ gW := List.mem_filter.mpr ⟨gt2 _ (List.mem_of_getElem? (i := 236) rfl), rfl⟩
theorem wd_113 : (Cond.fieldLink "PrefixCodes" 26 "PrefixCodes" "stream" "LPrefixCodes$Stream;" : Cond) ∈ gW := List.mem_filter.mpr ⟨gt2 _ (List.mem_of_getElem? (i := 92) rfl), rfl⟩
theorem wd_114 : (Cond.fieldLink "PrefixCodes" 141 "PrefixCodes$Stream" "size" "I" : Cond) ∈ gW := List.mem_filter.mpr ⟨gt1 _ (List.mem_of_getElem? (i := 39) rfl), rfl⟩
theorem wd_115 : (Cond.fieldLink "PrefixCodes$Stream" 15 "PrefixCodes$Stream" "head" "I" : Cond) ∈ gW := List.mem_filter.mpr ⟨gt1 _ (List.mem_of_getElem? (i := 37) rfl), rfl⟩
theorem wd_116 : (Cond.fieldLink "PrefixCodes$Stream" 11 "PrefixCodes$Stream" "cells" "[I" : Cond) ∈ gW := List.mem_filter.mpr ⟨gt1 _ (List.mem_of_getElem? (i := 36) rfl), rfl⟩
theorem wd_117 : (Cond.code ⟨"PrefixCodes$Stream", "placeOf", "(I)I"⟩ prog_9_method_2_code 2 (some .int) : Cond) ∈ gW := List.mem_filter.mpr ⟨gt3 _ (List.mem_of_getElem? (i := 24) rfl), rfl⟩
theorem wd_118 : (Cond.methodLink "PrefixCodes$Stream" 29 ⟨"PrefixCodes$Stream", "placeOf", "(I)I"⟩ : Cond) ∈ gW := List.mem_filter.mpr ⟨gt3 _ (List.mem_of_getElem? (i := 21) rfl), rfl⟩
theorem wd_119 : (Cond.initialized "PrefixCodes$Stream" : Cond) ∈ gW := List.mem_filter.mpr ⟨gt1 _ (List.mem_of_getElem? (i := 2) rfl), rfl⟩
theorem wd_120 : (Cond.instanceMethod ⟨"PrefixCodes$Stream", "placeOf", "(I)I"⟩ : Cond) ∈ gW := List.mem_filter.mpr ⟨gt3 _ (List.mem_of_getElem? (i := 23) rfl), rfl⟩
theorem wd_121 : (Cond.selects "PrefixCodes$Stream" ⟨"PrefixCodes$Stream", "placeOf", "(I)I"⟩ ⟨"PrefixCodes$Stream", "placeOf", "(I)I"⟩ : Cond) ∈ gW := List.mem_filter.mpr ⟨gp1 (⟨"PrefixCodes$Stream", "placeOf", "(I)I"⟩, 5) (List.mem_of_getElem? (i := 14) rfl), rfl⟩
theorem wd_122 : (Cond.code ⟨"PrefixCodes$Stream", "bitOf", "(I)I"⟩ prog_9_method_3_code 2 (some .int) : Cond) ∈ gW := List.mem_filter.mpr ⟨gt3 _ (List.mem_of_getElem? (i := 40) rfl), rfl⟩
theorem wd_123 : (Cond.methodLink "PrefixCodes$Stream" 33 ⟨"PrefixCodes$Stream", "bitOf", "(I)I"⟩ : Cond) ∈ gW := List.mem_filter.mpr ⟨gt3 _ (List.mem_of_getElem? (i := 37) rfl), rfl⟩
theorem wd_124 : (Cond.instanceMethod ⟨"PrefixCodes$Stream", "bitOf", "(I)I"⟩ : Cond) ∈ gW := List.mem_filter.mpr ⟨gt3 _ (List.mem_of_getElem? (i := 39) rfl), rfl⟩
theorem wd_125 : (Cond.selects "PrefixCodes$Stream" ⟨"PrefixCodes$Stream", "bitOf", "(I)I"⟩ ⟨"PrefixCodes$Stream", "bitOf", "(I)I"⟩ : Cond) ∈ gW := List.mem_filter.mpr ⟨gp1 (⟨"PrefixCodes$Stream", "bitOf", "(I)I"⟩, 5) (List.mem_of_getElem? (i := 15) rfl), rfl⟩
theorem wd_126 : (Cond.fieldLink "PrefixCodes$Stream" 19 "PrefixCodes$Stream" "size" "I" : Cond) ∈ gW := List.mem_filter.mpr ⟨gt1 _ (List.mem_of_getElem? (i := 38) rfl), rfl⟩
theorem wd_127 : (Cond.fieldLink "PrefixCodes$Stream" 25 "PrefixCodes$Stream" "overflowed" "Z" : Cond) ∈ gW := List.mem_filter.mpr ⟨gt1 _ (List.mem_of_getElem? (i := 41) rfl), rfl⟩
theorem wd_128 : (Cond.code ⟨"PrefixCodes$Stream", "append", "(I)V"⟩ prog_9_method_7_code 5 none : Cond) ∈ gW := List.mem_filter.mpr ⟨gt3 _ (List.mem_of_getElem? (i := 20) rfl), rfl⟩
theorem wd_129 : (Cond.methodLink "PrefixCodes$Stream" 36 ⟨"PrefixCodes$Stream", "append", "(I)V"⟩ : Cond) ∈ gW := List.mem_filter.mpr ⟨gt3 _ (List.mem_of_getElem? (i := 17) rfl), rfl⟩
theorem wd_130 : (Cond.instanceMethod ⟨"PrefixCodes$Stream", "append", "(I)V"⟩ : Cond) ∈ gW := List.mem_filter.mpr ⟨gt3 _ (List.mem_of_getElem? (i := 18) rfl), rfl⟩
theorem wd_131 : (Cond.selects "PrefixCodes$Stream" ⟨"PrefixCodes$Stream", "append", "(I)V"⟩ ⟨"PrefixCodes$Stream", "append", "(I)V"⟩ : Cond) ∈ gW := List.mem_filter.mpr ⟨gt3 _ (List.mem_of_getElem? (i := 19) rfl), rfl⟩
theorem wd_132 : (Cond.code ⟨"PrefixCodes$Stream", "appendNumber", "(II)V"⟩ prog_9_method_8_code 4 none : Cond) ∈ gW := List.mem_filter.mpr ⟨gt3 _ (List.mem_of_getElem? (i := 16) rfl), rfl⟩
theorem wd_133 : (Cond.methodLink "PrefixCodes" 248 ⟨"PrefixCodes$Stream", "appendNumber", "(II)V"⟩ : Cond) ∈ gW := List.mem_filter.mpr ⟨gt3 _ (List.mem_of_getElem? (i := 13) rfl), rfl⟩
theorem wd_134 : (Cond.instanceMethod ⟨"PrefixCodes$Stream", "appendNumber", "(II)V"⟩ : Cond) ∈ gW := List.mem_filter.mpr ⟨gt3 _ (List.mem_of_getElem? (i := 14) rfl), rfl⟩
theorem wd_135 : (Cond.selects "PrefixCodes$Stream" ⟨"PrefixCodes$Stream", "appendNumber", "(II)V"⟩ ⟨"PrefixCodes$Stream", "appendNumber", "(II)V"⟩ : Cond) ∈ gW := List.mem_filter.mpr ⟨gt3 _ (List.mem_of_getElem? (i := 15) rfl), rfl⟩
theorem wd_136 : (Cond.code ⟨"PrefixCodes", "putBits", "(II)I"⟩ prog_1_method_33_code 3 (some .int) : Cond) ∈ gW := List.mem_filter.mpr ⟨gt3 _ (List.mem_of_getElem? (i := 12) rfl), rfl⟩
theorem wd_137 : (Cond.methodLink "PrefixCodes" 154 ⟨"PrefixCodes", "putBits", "(II)I"⟩ : Cond) ∈ gW := List.mem_filter.mpr ⟨gt3 _ (List.mem_of_getElem? (i := 9) rfl), rfl⟩
theorem wd_138 : (Cond.instanceMethod ⟨"PrefixCodes", "putBits", "(II)I"⟩ : Cond) ∈ gW := List.mem_filter.mpr ⟨gt3 _ (List.mem_of_getElem? (i := 11) rfl), rfl⟩
theorem wd_139 : (Cond.selects "PrefixCodes" ⟨"PrefixCodes", "putBits", "(II)I"⟩ ⟨"PrefixCodes", "putBits", "(II)I"⟩ : Cond) ∈ gW := List.mem_filter.mpr ⟨gp1 (⟨"PrefixCodes", "putBits", "(II)I"⟩, 10) (List.mem_of_getElem? (i := 13) rfl), rfl⟩
theorem wd_140 : (Cond.code ⟨"PrefixCodes$Stream", "removeFirst", "()I"⟩ prog_9_method_9_code 2 (some .int) : Cond) ∈ gW := List.mem_filter.mpr ⟨gt3 _ (List.mem_of_getElem? (i := 36) rfl), rfl⟩
theorem wd_141 : (Cond.methodLink "PrefixCodes$Stream" 43 ⟨"PrefixCodes$Stream", "removeFirst", "()I"⟩ : Cond) ∈ gW := List.mem_filter.mpr ⟨gt3 _ (List.mem_of_getElem? (i := 33) rfl), rfl⟩
theorem wd_142 : (Cond.instanceMethod ⟨"PrefixCodes$Stream", "removeFirst", "()I"⟩ : Cond) ∈ gW := List.mem_filter.mpr ⟨gt3 _ (List.mem_of_getElem? (i := 34) rfl), rfl⟩
theorem wd_143 : (Cond.selects "PrefixCodes$Stream" ⟨"PrefixCodes$Stream", "removeFirst", "()I"⟩ ⟨"PrefixCodes$Stream", "removeFirst", "()I"⟩ : Cond) ∈ gW := List.mem_filter.mpr ⟨gt3 _ (List.mem_of_getElem? (i := 35) rfl), rfl⟩
theorem wd_144 : (Cond.code ⟨"PrefixCodes$Stream", "removeNumber", "(I)I"⟩ prog_9_method_11_code 4 (some .int) : Cond) ∈ gW := List.mem_filter.mpr ⟨gt3 _ (List.mem_of_getElem? (i := 32) rfl), rfl⟩
theorem wd_145 : (Cond.methodLink "PrefixCodes" 158 ⟨"PrefixCodes$Stream", "removeNumber", "(I)I"⟩ : Cond) ∈ gW := List.mem_filter.mpr ⟨gt3 _ (List.mem_of_getElem? (i := 29) rfl), rfl⟩
theorem wd_146 : (Cond.instanceMethod ⟨"PrefixCodes$Stream", "removeNumber", "(I)I"⟩ : Cond) ∈ gW := List.mem_filter.mpr ⟨gt3 _ (List.mem_of_getElem? (i := 30) rfl), rfl⟩
theorem wd_147 : (Cond.selects "PrefixCodes$Stream" ⟨"PrefixCodes$Stream", "removeNumber", "(I)I"⟩ ⟨"PrefixCodes$Stream", "removeNumber", "(I)I"⟩ : Cond) ∈ gW := List.mem_filter.mpr ⟨gt3 _ (List.mem_of_getElem? (i := 31) rfl), rfl⟩
theorem wd_148 : (Cond.code ⟨"PrefixCodes$Stream", "at", "(I)I"⟩ prog_9_method_4_code 2 (some .int) : Cond) ∈ gW := List.mem_filter.mpr ⟨gt3 _ (List.mem_of_getElem? (i := 64) rfl), rfl⟩
theorem wd_149 : (Cond.methodLink "PrefixCodes$Stream" 40 ⟨"PrefixCodes$Stream", "at", "(I)I"⟩ : Cond) ∈ gW := List.mem_filter.mpr ⟨gt3 _ (List.mem_of_getElem? (i := 61) rfl), rfl⟩
theorem wd_150 : (Cond.instanceMethod ⟨"PrefixCodes$Stream", "at", "(I)I"⟩ : Cond) ∈ gW := List.mem_filter.mpr ⟨gt3 _ (List.mem_of_getElem? (i := 62) rfl), rfl⟩
theorem wd_151 : (Cond.selects "PrefixCodes$Stream" ⟨"PrefixCodes$Stream", "at", "(I)I"⟩ ⟨"PrefixCodes$Stream", "at", "(I)I"⟩ : Cond) ∈ gW := List.mem_filter.mpr ⟨gt3 _ (List.mem_of_getElem? (i := 63) rfl), rfl⟩
theorem wd_152 : (Cond.methodLink "PrefixCodes$Code" 71 ⟨"PrefixCodes$Stream", "removeFirst", "()I"⟩ : Cond) ∈ gW := List.mem_filter.mpr ⟨gt3 _ (List.mem_of_getElem? (i := 65) rfl), rfl⟩
theorem wd_153 : (Cond.code ⟨"PrefixCodes$Stream", "removeLast", "()I"⟩ prog_9_method_10_code 2 (some .int) : Cond) ∈ gW := List.mem_filter.mpr ⟨gt3 _ (List.mem_of_getElem? (i := 60) rfl), rfl⟩
theorem wd_154 : (Cond.methodLink "PrefixCodes$Code" 66 ⟨"PrefixCodes$Stream", "removeLast", "()I"⟩ : Cond) ∈ gW := List.mem_filter.mpr ⟨gt3 _ (List.mem_of_getElem? (i := 57) rfl), rfl⟩
theorem wd_155 : (Cond.instanceMethod ⟨"PrefixCodes$Stream", "removeLast", "()I"⟩ : Cond) ∈ gW := List.mem_filter.mpr ⟨gt3 _ (List.mem_of_getElem? (i := 58) rfl), rfl⟩
theorem wd_156 : (Cond.selects "PrefixCodes$Stream" ⟨"PrefixCodes$Stream", "removeLast", "()I"⟩ ⟨"PrefixCodes$Stream", "removeLast", "()I"⟩ : Cond) ∈ gW := List.mem_filter.mpr ⟨gt3 _ (List.mem_of_getElem? (i := 59) rfl), rfl⟩
theorem wd_157 : (Cond.code ⟨"PrefixCodes$Code", "canBeRead", "()Z"⟩ prog_3_method_8_code 1 (some .boolean) : Cond) ∈ gW := List.mem_filter.mpr ⟨gt3 _ (List.mem_of_getElem? (i := 52) rfl), rfl⟩
theorem wd_158 : (Cond.methodLink "PrefixCodes" 161 ⟨"PrefixCodes$Code", "canBeRead", "()Z"⟩ : Cond) ∈ gW := List.mem_filter.mpr ⟨gt3 _ (List.mem_of_getElem? (i := 49) rfl), rfl⟩
theorem wd_159 : (Cond.instanceMethod ⟨"PrefixCodes$Code", "canBeRead", "()Z"⟩ : Cond) ∈ gW := List.mem_filter.mpr ⟨gt3 _ (List.mem_of_getElem? (i := 50) rfl), rfl⟩
theorem wd_160 : (Cond.selects "PrefixCodes$Code" ⟨"PrefixCodes$Code", "canBeRead", "()Z"⟩ ⟨"PrefixCodes$Code", "canBeRead", "()Z"⟩ : Cond) ∈ gW := List.mem_filter.mpr ⟨gt3 _ (List.mem_of_getElem? (i := 51) rfl), rfl⟩
theorem wd_161 : (Cond.code ⟨"PrefixCodes$Code", "removeSymbol", "(LPrefixCodes$Stream;Z)I"⟩ prog_3_method_10_code 7 (some .int) : Cond) ∈ gW := List.mem_filter.mpr ⟨gt3 _ (List.mem_of_getElem? (i := 56) rfl), rfl⟩
theorem wd_162 : (Cond.methodLink "PrefixCodes" 165 ⟨"PrefixCodes$Code", "removeSymbol", "(LPrefixCodes$Stream;Z)I"⟩ : Cond) ∈ gW := List.mem_filter.mpr ⟨gt3 _ (List.mem_of_getElem? (i := 53) rfl), rfl⟩
theorem wd_163 : (Cond.instanceMethod ⟨"PrefixCodes$Code", "removeSymbol", "(LPrefixCodes$Stream;Z)I"⟩ : Cond) ∈ gW := List.mem_filter.mpr ⟨gt3 _ (List.mem_of_getElem? (i := 54) rfl), rfl⟩
theorem wd_164 : (Cond.selects "PrefixCodes$Code" ⟨"PrefixCodes$Code", "removeSymbol", "(LPrefixCodes$Stream;Z)I"⟩ ⟨"PrefixCodes$Code", "removeSymbol", "(LPrefixCodes$Stream;Z)I"⟩ : Cond) ∈ gW := List.mem_filter.mpr ⟨gt3 _ (List.mem_of_getElem? (i := 55) rfl), rfl⟩
theorem wd_165 : (Cond.fieldLink "PrefixCodes$Stream" 22 "PrefixCodes$Stream" "sizeAtBegin" "I" : Cond) ∈ gW := List.mem_filter.mpr ⟨gt1 _ (List.mem_of_getElem? (i := 40) rfl), rfl⟩
theorem wd_166 : (Cond.fieldLink "PrefixCodes$Manners" 40 "PrefixCodes$Code" "symbols" "I" : Cond) ∈ gW := List.mem_filter.mpr ⟨gt1 _ (List.mem_of_getElem? (i := 104) rfl), rfl⟩
theorem wd_167 : (Cond.fieldLink "PrefixCodes$Manners" 15 "PrefixCodes$Manners" "stream" "LPrefixCodes$Stream;" : Cond) ∈ gW := List.mem_filter.mpr ⟨gt1 _ (List.mem_of_getElem? (i := 178) rfl), rfl⟩
theorem wd_168 : (Cond.fieldLink "PrefixCodes$Manners" 35 "PrefixCodes$Code" "lengths" "[I" : Cond) ∈ gW := List.mem_filter.mpr ⟨gt1 _ (List.mem_of_getElem? (i := 108) rfl), rfl⟩
theorem wd_169 : (Cond.methodLink "PrefixCodes$Manners" 59 ⟨"PrefixCodes$Stream", "appendNumber", "(II)V"⟩ : Cond) ∈ gW := List.mem_filter.mpr ⟨gt3 _ (List.mem_of_getElem? (i := 82) rfl), rfl⟩
theorem wd_170 : (Cond.methodLink "PrefixCodes$Manners" 68 ⟨"PrefixCodes$Stream", "append", "(I)V"⟩ : Cond) ∈ gW := List.mem_filter.mpr ⟨gt3 _ (List.mem_of_getElem? (i := 87) rfl), rfl⟩
theorem wd_171 : (Cond.fieldLink "PrefixCodes$Commands" 67 "PrefixCodes$Commands" "SHORTEST_RUN" "[I" : Cond) ∈ gW := List.mem_filter.mpr ⟨gt3 _ (List.mem_of_getElem? (i := 103) rfl), rfl⟩
theorem wd_172 : (Cond.code ⟨"PrefixCodes$Commands", "runFrom", "([III)I"⟩ prog_4_method_5_code 4 (some .int) : Cond) ∈ gW := List.mem_filter.mpr ⟨gt3 _ (List.mem_of_getElem? (i := 102) rfl), rfl⟩
theorem wd_173 : (Cond.methodLink "PrefixCodes$Commands" 82 ⟨"PrefixCodes$Commands", "runFrom", "([III)I"⟩ : Cond) ∈ gW := List.mem_filter.mpr ⟨gt3 _ (List.mem_of_getElem? (i := 100) rfl), rfl⟩
theorem wd_174 : (Cond.initialized "PrefixCodes$Commands" : Cond) ∈ gW := List.mem_filter.mpr ⟨gt1 _ (List.mem_of_getElem? (i := 5) rfl), rfl⟩
theorem wd_175 : (Cond.static ⟨"PrefixCodes$Commands", "runFrom", "([III)I"⟩ : Cond) ∈ gW := List.mem_filter.mpr ⟨gt3 _ (List.mem_of_getElem? (i := 101) rfl), rfl⟩
theorem wd_176 : (Cond.fieldLink "PrefixCodes$Commands" 30 "PrefixCodes$Commands" "size" "I" : Cond) ∈ gW := List.mem_filter.mpr ⟨gt1 _ (List.mem_of_getElem? (i := 162) rfl), rfl⟩
theorem wd_177 : (Cond.fieldLink "PrefixCodes$Commands" 20 "PrefixCodes$Commands" "often" "[I" : Cond) ∈ gW := List.mem_filter.mpr ⟨gt1 _ (List.mem_of_getElem? (i := 159) rfl), rfl⟩
theorem wd_178 : (Cond.fieldLink "PrefixCodes$Commands" 24 "PrefixCodes$Commands" "row" "[I" : Cond) ∈ gW := List.mem_filter.mpr ⟨gt1 _ (List.mem_of_getElem? (i := 160) rfl), rfl⟩
theorem wd_179 : (Cond.fieldLink "PrefixCodes$Commands" 27 "PrefixCodes$Commands" "runs" "[I" : Cond) ∈ gW := List.mem_filter.mpr ⟨gt1 _ (List.mem_of_getElem? (i := 161) rfl), rfl⟩
theorem wd_180 : (Cond.methodLink "PrefixCodes$Commands" 94 ⟨"java/lang/Math", "max", "(II)I"⟩ : Cond) ∈ gW := List.mem_filter.mpr ⟨gt3 _ (List.mem_of_getElem? (i := 110) rfl), rfl⟩
theorem wd_181 : (Cond.static ⟨"java/lang/Math", "max", "(II)I"⟩ : Cond) ∈ gW := List.mem_filter.mpr ⟨gt3 _ (List.mem_of_getElem? (i := 111) rfl), rfl⟩
theorem wd_182 : (Cond.initialized "java/lang/Math" : Cond) ∈ gW := List.mem_filter.mpr ⟨gt1 _ (List.mem_of_getElem? (i := 18) rfl), rfl⟩
theorem wd_183 : (Cond.code ⟨"java/lang/Math", "max", "(II)I"⟩ prog_16_method_65_code 2 (some .int) : Cond) ∈ gW := List.mem_filter.mpr ⟨gt3 _ (List.mem_of_getElem? (i := 112) rfl), rfl⟩
theorem wd_184 : (Cond.fieldLink "PrefixCodes$Commands" 85 "PrefixCodes$Commands" "LONGEST_RUN" "[I" : Cond) ∈ gW := List.mem_filter.mpr ⟨gt3 _ (List.mem_of_getElem? (i := 105) rfl), rfl⟩
theorem wd_185 : (Cond.methodLink "PrefixCodes$Commands" 88 ⟨"java/lang/Math", "min", "(II)I"⟩ : Cond) ∈ gW := List.mem_filter.mpr ⟨gt3 _ (List.mem_of_getElem? (i := 107) rfl), rfl⟩
theorem wd_186 : (Cond.static ⟨"java/lang/Math", "min", "(II)I"⟩ : Cond) ∈ gW := List.mem_filter.mpr ⟨gt3 _ (List.mem_of_getElem? (i := 108) rfl), rfl⟩
theorem wd_187 : (Cond.code ⟨"java/lang/Math", "min", "(II)I"⟩ prog_16_method_69_code 2 (some .int) : Cond) ∈ gW := List.mem_filter.mpr ⟨gt3 _ (List.mem_of_getElem? (i := 109) rfl), rfl⟩
theorem wd_188 : (Cond.methodLink "PrefixCodes$Commands" 73 ⟨"java/util/Arrays", "fill", "([II)V"⟩ : Cond) ∈ gW := List.mem_filter.mpr ⟨gt3 _ (List.mem_of_getElem? (i := 96) rfl), rfl⟩
theorem wd_189 : (Cond.code ⟨"PrefixCodes$Commands", "commandAt", "([III)I"⟩ prog_4_method_4_code 6 (some .int) : Cond) ∈ gW := List.mem_filter.mpr ⟨gt3 _ (List.mem_of_getElem? (i := 99) rfl), rfl⟩
theorem wd_190 : (Cond.methodLink "PrefixCodes$Commands" 78 ⟨"PrefixCodes$Commands", "commandAt", "([III)I"⟩ : Cond) ∈ gW := List.mem_filter.mpr ⟨gt3 _ (List.mem_of_getElem? (i := 97) rfl), rfl⟩
theorem wd_191 : (Cond.static ⟨"PrefixCodes$Commands", "commandAt", "([III)I"⟩ : Cond) ∈ gW := List.mem_filter.mpr ⟨gt3 _ (List.mem_of_getElem? (i := 98) rfl), rfl⟩
theorem wd_192 : (Cond.fieldLink "PrefixCodes$Commands" 16 "PrefixCodes$Commands" "code" "LPrefixCodes$Code;" : Cond) ∈ gW := List.mem_filter.mpr ⟨gt1 _ (List.mem_of_getElem? (i := 158) rfl), rfl⟩
theorem wd_193 : (Cond.fieldLink "PrefixCodes$Commands" 58 "PrefixCodes$Code" "lengths" "[I" : Cond) ∈ gW := List.mem_filter.mpr ⟨gt1 _ (List.mem_of_getElem? (i := 110) rfl), rfl⟩
theorem wd_194 : (Cond.fieldLink "PrefixCodes$Commands" 97 "PrefixCodes$Commands" "TELLING_ORDER" "[I" : Cond) ∈ gW := List.mem_filter.mpr ⟨gt3 _ (List.mem_of_getElem? (i := 118) rfl), rfl⟩
theorem wd_195 : (Cond.fieldLink "PrefixCodes$Commands" 34 "PrefixCodes$Commands" "stream" "LPrefixCodes$Stream;" : Cond) ∈ gW := List.mem_filter.mpr ⟨gt1 _ (List.mem_of_getElem? (i := 156) rfl), rfl⟩
theorem wd_196 : (Cond.methodLink "PrefixCodes$Commands" 61 ⟨"PrefixCodes$Stream", "appendNumber", "(II)V"⟩ : Cond) ∈ gW := List.mem_filter.mpr ⟨gt3 _ (List.mem_of_getElem? (i := 120) rfl), rfl⟩
theorem wd_197 : (Cond.fieldLink "PrefixCodes$Commands" 38 "PrefixCodes$Commands" "packages" "LPrefixCodes$Packages;" : Cond) ∈ gW := List.mem_filter.mpr ⟨gt1 _ (List.mem_of_getElem? (i := 157) rfl), rfl⟩
theorem wd_198 : (Cond.fieldLink "PrefixCodes$Commands" 55 "PrefixCodes$Code" "words" "[I" : Cond) ∈ gW := List.mem_filter.mpr ⟨gt1 _ (List.mem_of_getElem? (i := 114) rfl), rfl⟩
theorem wd_199 : (Cond.fieldLink "PrefixCodes$Commands" 70 "PrefixCodes$Commands" "RUN_BITS" "[I" : Cond) ∈ gW := List.mem_filter.mpr ⟨gt3 _ (List.mem_of_getElem? (i := 121) rfl), rfl⟩
theorem wd_200 : (Cond.code ⟨"PrefixCodes$Commands", "gather", "([II)V"⟩ prog_4_method_3_code 6 none : Cond) ∈ gW := List.mem_filter.mpr ⟨gt3 _ (List.mem_of_getElem? (i := 95) rfl), rfl⟩
theorem wd_201 : (Cond.methodLink "PrefixCodes$Commands" 42 ⟨"PrefixCodes$Commands", "gather", "([II)V"⟩ : Cond) ∈ gW := List.mem_filter.mpr ⟨gt3 _ (List.mem_of_getElem? (i := 92) rfl), rfl⟩
theorem wd_202 : (Cond.instanceMethod ⟨"PrefixCodes$Commands", "gather", "([II)V"⟩ : Cond) ∈ gW := List.mem_filter.mpr ⟨gt3 _ (List.mem_of_getElem? (i := 94) rfl), rfl⟩
theorem wd_203 : (Cond.selects "PrefixCodes$Commands" ⟨"PrefixCodes$Commands", "gather", "([II)V"⟩ ⟨"PrefixCodes$Commands", "gather", "([II)V"⟩ : Cond) ∈ gW := List.mem_filter.mpr ⟨gp2 (⟨"PrefixCodes$Commands", "gather", "([II)V"⟩, 7) (List.mem_of_getElem? (i := 2) rfl), rfl⟩
theorem wd_204 : (Cond.code ⟨"PrefixCodes$Packages", "fit", "([IILPrefixCodes$Code;)V"⟩ prog_6_method_2_code 5 none : Cond) ∈ gW := List.mem_filter.mpr ⟨gt2 _ (List.mem_of_getElem? (i := 209) rfl), rfl⟩
theorem wd_205 : (Cond.methodLink "PrefixCodes$Commands" 46 ⟨"PrefixCodes$Packages", "fit", "([IILPrefixCodes$Code;)V"⟩ : Cond) ∈ gW := List.mem_filter.mpr ⟨gt3 _ (List.mem_of_getElem? (i := 113) rfl), rfl⟩
theorem wd_206 : (Cond.instanceMethod ⟨"PrefixCodes$Packages", "fit", "([IILPrefixCodes$Code;)V"⟩ : Cond) ∈ gW := List.mem_filter.mpr ⟨gt2 _ (List.mem_of_getElem? (i := 207) rfl), rfl⟩
theorem wd_207 : (Cond.selects "PrefixCodes$Packages" ⟨"PrefixCodes$Packages", "fit", "([IILPrefixCodes$Code;)V"⟩ ⟨"PrefixCodes$Packages", "fit", "([IILPrefixCodes$Code;)V"⟩ : Cond) ∈ gW := List.mem_filter.mpr ⟨gt2 _ (List.mem_of_getElem? (i := 208) rfl), rfl⟩
theorem wd_208 : (Cond.code ⟨"PrefixCodes$Commands", "appendCode", "()V"⟩ prog_4_method_6_code 3 none : Cond) ∈ gW := List.mem_filter.mpr ⟨gt3 _ (List.mem_of_getElem? (i := 117) rfl), rfl⟩
theorem wd_209 : (Cond.methodLink "PrefixCodes$Commands" 52 ⟨"PrefixCodes$Commands", "appendCode", "()V"⟩ : Cond) ∈ gW := List.mem_filter.mpr ⟨gt3 _ (List.mem_of_getElem? (i := 114) rfl), rfl⟩
theorem wd_210 : (Cond.instanceMethod ⟨"PrefixCodes$Commands", "appendCode", "()V"⟩ : Cond) ∈ gW := List.mem_filter.mpr ⟨gt3 _ (List.mem_of_getElem? (i := 116) rfl), rfl⟩
theorem wd_211 : (Cond.selects "PrefixCodes$Commands" ⟨"PrefixCodes$Commands", "appendCode", "()V"⟩ ⟨"PrefixCodes$Commands", "appendCode", "()V"⟩ : Cond) ∈ gW := List.mem_filter.mpr ⟨gp2 (⟨"PrefixCodes$Commands", "appendCode", "()V"⟩, 7) (List.mem_of_getElem? (i := 3) rfl), rfl⟩
theorem wd_212 : (Cond.fieldLink "PrefixCodes$Manners" 24 "PrefixCodes$Manners" "commands" "LPrefixCodes$Commands;" : Cond) ∈ gW := List.mem_filter.mpr ⟨gt1 _ (List.mem_of_getElem? (i := 179) rfl), rfl⟩
theorem wd_213 : (Cond.code ⟨"PrefixCodes$Manners", "appendPlain", "(LPrefixCodes$Code;)V"⟩ prog_5_method_4_code 3 none : Cond) ∈ gW := List.mem_filter.mpr ⟨gt3 _ (List.mem_of_getElem? (i := 81) rfl), rfl⟩
theorem wd_214 : (Cond.methodLink "PrefixCodes$Manners" 28 ⟨"PrefixCodes$Manners", "appendPlain", "(LPrefixCodes$Code;)V"⟩ : Cond) ∈ gW := List.mem_filter.mpr ⟨gt3 _ (List.mem_of_getElem? (i := 78) rfl), rfl⟩
theorem wd_215 : (Cond.initialized "PrefixCodes$Manners" : Cond) ∈ gW := List.mem_filter.mpr ⟨gt1 _ (List.mem_of_getElem? (i := 4) rfl), rfl⟩
theorem wd_216 : (Cond.instanceMethod ⟨"PrefixCodes$Manners", "appendPlain", "(LPrefixCodes$Code;)V"⟩ : Cond) ∈ gW := List.mem_filter.mpr ⟨gt3 _ (List.mem_of_getElem? (i := 80) rfl), rfl⟩
theorem wd_217 : (Cond.selects "PrefixCodes$Manners" ⟨"PrefixCodes$Manners", "appendPlain", "(LPrefixCodes$Code;)V"⟩ ⟨"PrefixCodes$Manners", "appendPlain", "(LPrefixCodes$Code;)V"⟩ : Cond) ∈ gW := List.mem_filter.mpr ⟨gp2 (⟨"PrefixCodes$Manners", "appendPlain", "(LPrefixCodes$Code;)V"⟩, 3) (List.mem_of_getElem? (i := 0) rfl), rfl⟩
theorem wd_218 : (Cond.code ⟨"PrefixCodes$Manners", "appendSteps", "(LPrefixCodes$Code;)V"⟩ prog_5_method_6_code 6 none : Cond) ∈ gW := List.mem_filter.mpr ⟨gt3 _ (List.mem_of_getElem? (i := 86) rfl), rfl⟩
theorem wd_219 : (Cond.methodLink "PrefixCodes$Manners" 32 ⟨"PrefixCodes$Manners", "appendSteps", "(LPrefixCodes$Code;)V"⟩ : Cond) ∈ gW := List.mem_filter.mpr ⟨gt3 _ (List.mem_of_getElem? (i := 83) rfl), rfl⟩
theorem wd_220 : (Cond.instanceMethod ⟨"PrefixCodes$Manners", "appendSteps", "(LPrefixCodes$Code;)V"⟩ : Cond) ∈ gW := List.mem_filter.mpr ⟨gt3 _ (List.mem_of_getElem? (i := 85) rfl), rfl⟩
theorem wd_221 : (Cond.selects "PrefixCodes$Manners" ⟨"PrefixCodes$Manners", "appendSteps", "(LPrefixCodes$Code;)V"⟩ ⟨"PrefixCodes$Manners", "appendSteps", "(LPrefixCodes$Code;)V"⟩ : Cond) ∈ gW := List.mem_filter.mpr ⟨gp2 (⟨"PrefixCodes$Manners", "appendSteps", "(LPrefixCodes$Code;)V"⟩, 3) (List.mem_of_getElem? (i := 1) rfl), rfl⟩
theorem wd_222 : (Cond.code ⟨"PrefixCodes$Commands", "append", "([II)V"⟩ prog_4_method_2_code 6 none : Cond) ∈ gW := List.mem_filter.mpr ⟨gt3 _ (List.mem_of_getElem? (i := 91) rfl), rfl⟩
theorem wd_223 : (Cond.methodLink "PrefixCodes$Manners" 44 ⟨"PrefixCodes$Commands", "append", "([II)V"⟩ : Cond) ∈ gW := List.mem_filter.mpr ⟨gt3 _ (List.mem_of_getElem? (i := 88) rfl), rfl⟩
theorem wd_224 : (Cond.instanceMethod ⟨"PrefixCodes$Commands", "append", "([II)V"⟩ : Cond) ∈ gW := List.mem_filter.mpr ⟨gt3 _ (List.mem_of_getElem? (i := 89) rfl), rfl⟩
theorem wd_225 : (Cond.selects "PrefixCodes$Commands" ⟨"PrefixCodes$Commands", "append", "([II)V"⟩ ⟨"PrefixCodes$Commands", "append", "([II)V"⟩ : Cond) ∈ gW := List.mem_filter.mpr ⟨gt3 _ (List.mem_of_getElem? (i := 90) rfl), rfl⟩
theorem wd_226 : (Cond.fieldLink "PrefixCodes" 42 "PrefixCodes" "manners" "LPrefixCodes$Manners;" : Cond) ∈ gW := List.mem_filter.mpr ⟨gt2 _ (List.mem_of_getElem? (i := 94) rfl), rfl⟩
theorem wd_227 : (Cond.code ⟨"PrefixCodes$Stream", "begin", "()V"⟩ prog_9_method_5_code 1 none : Cond) ∈ gW := List.mem_filter.mpr ⟨gt3 _ (List.mem_of_getElem? (i := 73) rfl), rfl⟩
theorem wd_228 : (Cond.methodLink "PrefixCodes" 169 ⟨"PrefixCodes$Stream", "begin", "()V"⟩ : Cond) ∈ gW := List.mem_filter.mpr ⟨gt3 _ (List.mem_of_getElem? (i := 70) rfl), rfl⟩
theorem wd_229 : (Cond.instanceMethod ⟨"PrefixCodes$Stream", "begin", "()V"⟩ : Cond) ∈ gW := List.mem_filter.mpr ⟨gt3 _ (List.mem_of_getElem? (i := 71) rfl), rfl⟩
theorem wd_230 : (Cond.selects "PrefixCodes$Stream" ⟨"PrefixCodes$Stream", "begin", "()V"⟩ ⟨"PrefixCodes$Stream", "begin", "()V"⟩ : Cond) ∈ gW := List.mem_filter.mpr ⟨gt3 _ (List.mem_of_getElem? (i := 72) rfl), rfl⟩
theorem wd_231 : (Cond.code ⟨"PrefixCodes$Manners", "append", "(LPrefixCodes$Code;I)V"⟩ prog_5_method_2_code 3 none : Cond) ∈ gW := List.mem_filter.mpr ⟨gt3 _ (List.mem_of_getElem? (i := 77) rfl), rfl⟩
theorem wd_232 : (Cond.methodLink "PrefixCodes" 172 ⟨"PrefixCodes$Manners", "append", "(LPrefixCodes$Code;I)V"⟩ : Cond) ∈ gW := List.mem_filter.mpr ⟨gt3 _ (List.mem_of_getElem? (i := 74) rfl), rfl⟩
theorem wd_233 : (Cond.instanceMethod ⟨"PrefixCodes$Manners", "append", "(LPrefixCodes$Code;I)V"⟩ : Cond) ∈ gW := List.mem_filter.mpr ⟨gt3 _ (List.mem_of_getElem? (i := 75) rfl), rfl⟩
theorem wd_234 : (Cond.selects "PrefixCodes$Manners" ⟨"PrefixCodes$Manners", "append", "(LPrefixCodes$Code;I)V"⟩ ⟨"PrefixCodes$Manners", "append", "(LPrefixCodes$Code;I)V"⟩ : Cond) ∈ gW := List.mem_filter.mpr ⟨gt3 _ (List.mem_of_getElem? (i := 76) rfl), rfl⟩
theorem wd_235 : (Cond.code ⟨"PrefixCodes$Stream", "settle", "()I"⟩ prog_9_method_6_code 1 (some .int) : Cond) ∈ gW := List.mem_filter.mpr ⟨gt3 _ (List.mem_of_getElem? (i := 126) rfl), rfl⟩
theorem wd_236 : (Cond.methodLink "PrefixCodes" 176 ⟨"PrefixCodes$Stream", "settle", "()I"⟩ : Cond) ∈ gW := List.mem_filter.mpr ⟨gt3 _ (List.mem_of_getElem? (i := 123) rfl), rfl⟩
theorem wd_237 : (Cond.instanceMethod ⟨"PrefixCodes$Stream", "settle", "()I"⟩ : Cond) ∈ gW := List.mem_filter.mpr ⟨gt3 _ (List.mem_of_getElem? (i := 124) rfl), rfl⟩
theorem wd_238 : (Cond.selects "PrefixCodes$Stream" ⟨"PrefixCodes$Stream", "settle", "()I"⟩ ⟨"PrefixCodes$Stream", "settle", "()I"⟩ : Cond) ∈ gW := List.mem_filter.mpr ⟨gt3 _ (List.mem_of_getElem? (i := 125) rfl), rfl⟩
theorem wd_239 : (Cond.fieldLink "PrefixCodes$Manners" 9 "PrefixCodes$Manners" "found" "[I" : Cond) ∈ gW := List.mem_filter.mpr ⟨gt1 _ (List.mem_of_getElem? (i := 180) rfl), rfl⟩
theorem wd_240 : (Cond.methodLink "PrefixCodes$Manners" 65 ⟨"PrefixCodes$Stream", "removeNumber", "(I)I"⟩ : Cond) ∈ gW := List.mem_filter.mpr ⟨gt3 _ (List.mem_of_getElem? (i := 139) rfl), rfl⟩
theorem wd_241 : (Cond.methodLink "PrefixCodes$Manners" 74 ⟨"PrefixCodes$Stream", "removeFirst", "()I"⟩ : Cond) ∈ gW := List.mem_filter.mpr ⟨gt3 _ (List.mem_of_getElem? (i := 148) rfl), rfl⟩
theorem wd_242 : (Cond.code ⟨"PrefixCodes$Manners", "stepsFrom", "(I)I"⟩ prog_5_method_8_code 6 (some .int) : Cond) ∈ gW := List.mem_filter.mpr ⟨gt3 _ (List.mem_of_getElem? (i := 147) rfl), rfl⟩
theorem wd_243 : (Cond.methodLink "PrefixCodes$Manners" 71 ⟨"PrefixCodes$Manners", "stepsFrom", "(I)I"⟩ : Cond) ∈ gW := List.mem_filter.mpr ⟨gt3 _ (List.mem_of_getElem? (i := 144) rfl), rfl⟩
theorem wd_244 : (Cond.instanceMethod ⟨"PrefixCodes$Manners", "stepsFrom", "(I)I"⟩ : Cond) ∈ gW := List.mem_filter.mpr ⟨gt3 _ (List.mem_of_getElem? (i := 146) rfl), rfl⟩
theorem wd_245 : (Cond.selects "PrefixCodes$Manners" ⟨"PrefixCodes$Manners", "stepsFrom", "(I)I"⟩ ⟨"PrefixCodes$Manners", "stepsFrom", "(I)I"⟩ : Cond) ∈ gW := List.mem_filter.mpr ⟨gp2 (⟨"PrefixCodes$Manners", "stepsFrom", "(I)I"⟩, 3) (List.mem_of_getElem? (i := 6) rfl), rfl⟩
theorem wd_246 : (Cond.fieldLink "PrefixCodes$Commands" 114 "PrefixCodes$Code" "kind" "I" : Cond) ∈ gW := List.mem_filter.mpr ⟨gt1 _ (List.mem_of_getElem? (i := 132) rfl), rfl⟩
theorem wd_247 : (Cond.methodLink "PrefixCodes$Commands" 107 ⟨"PrefixCodes$Stream", "removeNumber", "(I)I"⟩ : Cond) ∈ gW := List.mem_filter.mpr ⟨gt3 _ (List.mem_of_getElem? (i := 158) rfl), rfl⟩
theorem wd_248 : (Cond.methodLink "PrefixCodes$Commands" 111 ⟨"PrefixCodes$Code", "renumber", "()V"⟩ : Cond) ∈ gW := List.mem_filter.mpr ⟨gt3 _ (List.mem_of_getElem? (i := 159) rfl), rfl⟩
theorem wd_249 : (Cond.methodLink "PrefixCodes$Commands" 117 ⟨"PrefixCodes$Code", "removeSymbol", "(LPrefixCodes$Stream;Z)I"⟩ : Cond) ∈ gW := List.mem_filter.mpr ⟨gt3 _ (List.mem_of_getElem? (i := 164) rfl), rfl⟩
theorem wd_250 : (Cond.code ⟨"PrefixCodes$Commands", "removeCode", "()I"⟩ prog_4_method_8_code 4 (some .int) : Cond) ∈ gW := List.mem_filter.mpr ⟨gt3 _ (List.mem_of_getElem? (i := 157) rfl), rfl⟩
theorem wd_251 : (Cond.methodLink "PrefixCodes$Commands" 100 ⟨"PrefixCodes$Commands", "removeCode", "()I"⟩ : Cond) ∈ gW := List.mem_filter.mpr ⟨gt3 _ (List.mem_of_getElem? (i := 154) rfl), rfl⟩
theorem wd_252 : (Cond.instanceMethod ⟨"PrefixCodes$Commands", "removeCode", "()I"⟩ : Cond) ∈ gW := List.mem_filter.mpr ⟨gt3 _ (List.mem_of_getElem? (i := 156) rfl), rfl⟩
theorem wd_253 : (Cond.selects "PrefixCodes$Commands" ⟨"PrefixCodes$Commands", "removeCode", "()I"⟩ ⟨"PrefixCodes$Commands", "removeCode", "()I"⟩ : Cond) ∈ gW := List.mem_filter.mpr ⟨gp2 (⟨"PrefixCodes$Commands", "removeCode", "()I"⟩, 7) (List.mem_of_getElem? (i := 7) rfl), rfl⟩
theorem wd_254 : (Cond.code ⟨"PrefixCodes$Commands", "removeCommand", "([III)I"⟩ prog_4_method_9_code 9 (some .int) : Cond) ∈ gW := List.mem_filter.mpr ⟨gt3 _ (List.mem_of_getElem? (i := 163) rfl), rfl⟩
theorem wd_255 : (Cond.methodLink "PrefixCodes$Commands" 104 ⟨"PrefixCodes$Commands", "removeCommand", "([III)I"⟩ : Cond) ∈ gW := List.mem_filter.mpr ⟨gt3 _ (List.mem_of_getElem? (i := 160) rfl), rfl⟩
theorem wd_256 : (Cond.instanceMethod ⟨"PrefixCodes$Commands", "removeCommand", "([III)I"⟩ : Cond) ∈ gW := List.mem_filter.mpr ⟨gt3 _ (List.mem_of_getElem? (i := 162) rfl), rfl⟩
theorem wd_257 : (Cond.selects "PrefixCodes$Commands" ⟨"PrefixCodes$Commands", "removeCommand", "([III)I"⟩ ⟨"PrefixCodes$Commands", "removeCommand", "([III)I"⟩ : Cond) ∈ gW := List.mem_filter.mpr ⟨gp2 (⟨"PrefixCodes$Commands", "removeCommand", "([III)I"⟩, 7) (List.mem_of_getElem? (i := 8) rfl), rfl⟩
theorem wd_258 : (Cond.code ⟨"PrefixCodes$Manners", "removePlain", "(I)I"⟩ prog_5_method_5_code 4 (some .int) : Cond) ∈ gW := List.mem_filter.mpr ⟨gt3 _ (List.mem_of_getElem? (i := 138) rfl), rfl⟩
theorem wd_259 : (Cond.methodLink "PrefixCodes$Manners" 48 ⟨"PrefixCodes$Manners", "removePlain", "(I)I"⟩ : Cond) ∈ gW := List.mem_filter.mpr ⟨gt3 _ (List.mem_of_getElem? (i := 135) rfl), rfl⟩
theorem wd_260 : (Cond.instanceMethod ⟨"PrefixCodes$Manners", "removePlain", "(I)I"⟩ : Cond) ∈ gW := List.mem_filter.mpr ⟨gt3 _ (List.mem_of_getElem? (i := 137) rfl), rfl⟩
theorem wd_261 : (Cond.selects "PrefixCodes$Manners" ⟨"PrefixCodes$Manners", "removePlain", "(I)I"⟩ ⟨"PrefixCodes$Manners", "removePlain", "(I)I"⟩ : Cond) ∈ gW := List.mem_filter.mpr ⟨gp2 (⟨"PrefixCodes$Manners", "removePlain", "(I)I"⟩, 3) (List.mem_of_getElem? (i := 4) rfl), rfl⟩
theorem wd_262 : (Cond.code ⟨"PrefixCodes$Manners", "removeSteps", "(I)I"⟩ prog_5_method_7_code 4 (some .int) : Cond) ∈ gW := List.mem_filter.mpr ⟨gt3 _ (List.mem_of_getElem? (i := 143) rfl), rfl⟩
theorem wd_263 : (Cond.methodLink "PrefixCodes$Manners" 52 ⟨"PrefixCodes$Manners", "removeSteps", "(I)I"⟩ : Cond) ∈ gW := List.mem_filter.mpr ⟨gt3 _ (List.mem_of_getElem? (i := 140) rfl), rfl⟩
theorem wd_264 : (Cond.instanceMethod ⟨"PrefixCodes$Manners", "removeSteps", "(I)I"⟩ : Cond) ∈ gW := List.mem_filter.mpr ⟨gt3 _ (List.mem_of_getElem? (i := 142) rfl), rfl⟩
theorem wd_265 : (Cond.selects "PrefixCodes$Manners" ⟨"PrefixCodes$Manners", "removeSteps", "(I)I"⟩ ⟨"PrefixCodes$Manners", "removeSteps", "(I)I"⟩ : Cond) ∈ gW := List.mem_filter.mpr ⟨gp2 (⟨"PrefixCodes$Manners", "removeSteps", "(I)I"⟩, 3) (List.mem_of_getElem? (i := 5) rfl), rfl⟩
theorem wd_266 : (Cond.code ⟨"PrefixCodes$Commands", "remove", "([II)I"⟩ prog_4_method_7_code 6 (some .int) : Cond) ∈ gW := List.mem_filter.mpr ⟨gt3 _ (List.mem_of_getElem? (i := 153) rfl), rfl⟩
theorem wd_267 : (Cond.methodLink "PrefixCodes$Manners" 55 ⟨"PrefixCodes$Commands", "remove", "([II)I"⟩ : Cond) ∈ gW := List.mem_filter.mpr ⟨gt3 _ (List.mem_of_getElem? (i := 150) rfl), rfl⟩
theorem wd_268 : (Cond.instanceMethod ⟨"PrefixCodes$Commands", "remove", "([II)I"⟩ : Cond) ∈ gW := List.mem_filter.mpr ⟨gt3 _ (List.mem_of_getElem? (i := 151) rfl), rfl⟩
theorem wd_269 : (Cond.selects "PrefixCodes$Commands" ⟨"PrefixCodes$Commands", "remove", "([II)I"⟩ ⟨"PrefixCodes$Commands", "remove", "([II)I"⟩ : Cond) ∈ gW := List.mem_filter.mpr ⟨gt3 _ (List.mem_of_getElem? (i := 152) rfl), rfl⟩
theorem wd_270 : (Cond.fieldLink "PrefixCodes$Table" 31 "PrefixCodes$Table" "parts" "I" : Cond) ∈ gW := List.mem_filter.mpr ⟨gt1 _ (List.mem_of_getElem? (i := 202) rfl), rfl⟩
theorem wd_271 : (Cond.fieldLink "PrefixCodes$Table" 34 "PrefixCodes$Table" "prefixes" "[I" : Cond) ∈ gW := List.mem_filter.mpr ⟨gt1 _ (List.mem_of_getElem? (i := 203) rfl), rfl⟩
theorem wd_272 : (Cond.fieldLink "PrefixCodes$Table" 37 "PrefixCodes$Table" "partBits" "[I" : Cond) ∈ gW := List.mem_filter.mpr ⟨gt1 _ (List.mem_of_getElem? (i := 204) rfl), rfl⟩
theorem wd_273 : (Cond.fieldLink "PrefixCodes$Table" 9 "PrefixCodes$Table" "root" "I" : Cond) ∈ gW := List.mem_filter.mpr ⟨gt1 _ (List.mem_of_getElem? (i := 195) rfl), rfl⟩
theorem wd_274 : (Cond.fieldLink "PrefixCodes$Table" 43 "PrefixCodes$Code" "having" "I" : Cond) ∈ gW := List.mem_filter.mpr ⟨gt1 _ (List.mem_of_getElem? (i := 126) rfl), rfl⟩
theorem wd_275 : (Cond.fieldLink "PrefixCodes$Table" 18 "PrefixCodes$Table" "words" "I" : Cond) ∈ gW := List.mem_filter.mpr ⟨gt1 _ (List.mem_of_getElem? (i := 198) rfl), rfl⟩
theorem wd_276 : (Cond.fieldLink "PrefixCodes$Table" 48 "PrefixCodes$Code" "ordered" "[I" : Cond) ∈ gW := List.mem_filter.mpr ⟨gt1 _ (List.mem_of_getElem? (i := 119) rfl), rfl⟩
theorem wd_277 : (Cond.fieldLink "PrefixCodes$Table" 21 "PrefixCodes$Table" "symbols" "[I" : Cond) ∈ gW := List.mem_filter.mpr ⟨gt1 _ (List.mem_of_getElem? (i := 199) rfl), rfl⟩
theorem wd_278 : (Cond.fieldLink "PrefixCodes$Table" 25 "PrefixCodes$Table" "lengths" "[I" : Cond) ∈ gW := List.mem_filter.mpr ⟨gt1 _ (List.mem_of_getElem? (i := 200) rfl), rfl⟩
theorem wd_279 : (Cond.fieldLink "PrefixCodes$Table" 51 "PrefixCodes$Code" "lengths" "[I" : Cond) ∈ gW := List.mem_filter.mpr ⟨gt1 _ (List.mem_of_getElem? (i := 109) rfl), rfl⟩
theorem wd_280 : (Cond.fieldLink "PrefixCodes$Table" 28 "PrefixCodes$Table" "numbers" "[I" : Cond) ∈ gW := List.mem_filter.mpr ⟨gt1 _ (List.mem_of_getElem? (i := 201) rfl), rfl⟩
theorem wd_281 : (Cond.fieldLink "PrefixCodes$Table" 52 "PrefixCodes$Code" "words" "[I" : Cond) ∈ gW := List.mem_filter.mpr ⟨gt1 _ (List.mem_of_getElem? (i := 115) rfl), rfl⟩
theorem wd_282 : (Cond.fieldLink "PrefixCodes$Table" 15 "PrefixCodes$Table" "entries" "I" : Cond) ∈ gW := List.mem_filter.mpr ⟨gt1 _ (List.mem_of_getElem? (i := 196) rfl), rfl⟩
theorem wd_283 : (Cond.fieldLink "PrefixCodes$Table" 40 "PrefixCodes$Table" "starts" "[I" : Cond) ∈ gW := List.mem_filter.mpr ⟨gt1 _ (List.mem_of_getElem? (i := 205) rfl), rfl⟩
theorem wd_284 : (Cond.code ⟨"PrefixCodes$Table", "extendParts", "(II)V"⟩ prog_10_method_3_code 3 none : Cond) ∈ gW := List.mem_filter.mpr ⟨gt3 _ (List.mem_of_getElem? (i := 183) rfl), rfl⟩
theorem wd_285 : (Cond.methodLink "PrefixCodes$Table" 54 ⟨"PrefixCodes$Table", "extendParts", "(II)V"⟩ : Cond) ∈ gW := List.mem_filter.mpr ⟨gt3 _ (List.mem_of_getElem? (i := 180) rfl), rfl⟩
theorem wd_286 : (Cond.initialized "PrefixCodes$Table" : Cond) ∈ gW := List.mem_filter.mpr ⟨gt1 _ (List.mem_of_getElem? (i := 7) rfl), rfl⟩
theorem wd_287 : (Cond.instanceMethod ⟨"PrefixCodes$Table", "extendParts", "(II)V"⟩ : Cond) ∈ gW := List.mem_filter.mpr ⟨gt3 _ (List.mem_of_getElem? (i := 182) rfl), rfl⟩
theorem wd_288 : (Cond.selects "PrefixCodes$Table" ⟨"PrefixCodes$Table", "extendParts", "(II)V"⟩ ⟨"PrefixCodes$Table", "extendParts", "(II)V"⟩ : Cond) ∈ gW := List.mem_filter.mpr ⟨gp2 (⟨"PrefixCodes$Table", "extendParts", "(II)V"⟩, 10) (List.mem_of_getElem? (i := 9) rfl), rfl⟩
theorem wd_289 : (Cond.fieldLink "PrefixCodes" 49 "PrefixCodes" "lastTable" "LPrefixCodes$Table;" : Cond) ∈ gW := List.mem_filter.mpr ⟨gt2 _ (List.mem_of_getElem? (i := 95) rfl), rfl⟩
theorem wd_290 : (Cond.fieldLink "PrefixCodes" 198 "PrefixCodes$Table" "entries" "I" : Cond) ∈ gW := List.mem_filter.mpr ⟨gt1 _ (List.mem_of_getElem? (i := 197) rfl), rfl⟩
theorem wd_291 : (Cond.code ⟨"PrefixCodes$Table", "build", "(LPrefixCodes$Code;I)V"⟩ prog_10_method_2_code 5 none : Cond) ∈ gW := List.mem_filter.mpr ⟨gt3 _ (List.mem_of_getElem? (i := 179) rfl), rfl⟩
theorem wd_292 : (Cond.methodLink "PrefixCodes" 195 ⟨"PrefixCodes$Table", "build", "(LPrefixCodes$Code;I)V"⟩ : Cond) ∈ gW := List.mem_filter.mpr ⟨gt3 _ (List.mem_of_getElem? (i := 176) rfl), rfl⟩
theorem wd_293 : (Cond.instanceMethod ⟨"PrefixCodes$Table", "build", "(LPrefixCodes$Code;I)V"⟩ : Cond) ∈ gW := List.mem_filter.mpr ⟨gt3 _ (List.mem_of_getElem? (i := 177) rfl), rfl⟩
theorem wd_294 : (Cond.selects "PrefixCodes$Table" ⟨"PrefixCodes$Table", "build", "(LPrefixCodes$Code;I)V"⟩ ⟨"PrefixCodes$Table", "build", "(LPrefixCodes$Code;I)V"⟩ : Cond) ∈ gW := List.mem_filter.mpr ⟨gt3 _ (List.mem_of_getElem? (i := 178) rfl), rfl⟩
theorem wd_295 : (Cond.code ⟨"PrefixCodes$Table", "pick", "(IIII)I"⟩ prog_10_method_6_code 4 (some .int) : Cond) ∈ gW := List.mem_filter.mpr ⟨gt4 _ (List.mem_of_getElem? (i := 145) rfl), rfl⟩
theorem wd_296 : (Cond.methodLink "PrefixCodes$Table" 62 ⟨"PrefixCodes$Table", "pick", "(IIII)I"⟩ : Cond) ∈ gW := List.mem_filter.mpr ⟨gt4 _ (List.mem_of_getElem? (i := 143) rfl), rfl⟩
theorem wd_297 : (Cond.static ⟨"PrefixCodes$Table", "pick", "(IIII)I"⟩ : Cond) ∈ gW := List.mem_filter.mpr ⟨gt4 _ (List.mem_of_getElem? (i := 144) rfl), rfl⟩
theorem wd_298 : (Cond.code ⟨"PrefixCodes$Table", "partAround", "(I)I"⟩ prog_10_method_8_code 3 (some .int) : Cond) ∈ gW := List.mem_filter.mpr ⟨gt4 _ (List.mem_of_getElem? (i := 157) rfl), rfl⟩
theorem wd_299 : (Cond.methodLink "PrefixCodes$Table" 73 ⟨"PrefixCodes$Table", "partAround", "(I)I"⟩ : Cond) ∈ gW := List.mem_filter.mpr ⟨gt4 _ (List.mem_of_getElem? (i := 154) rfl), rfl⟩
theorem wd_300 : (Cond.instanceMethod ⟨"PrefixCodes$Table", "partAround", "(I)I"⟩ : Cond) ∈ gW := List.mem_filter.mpr ⟨gt4 _ (List.mem_of_getElem? (i := 156) rfl), rfl⟩
theorem wd_301 : (Cond.selects "PrefixCodes$Table" ⟨"PrefixCodes$Table", "partAround", "(I)I"⟩ ⟨"PrefixCodes$Table", "partAround", "(I)I"⟩ : Cond) ∈ gW := List.mem_filter.mpr ⟨gp3 (⟨"PrefixCodes$Table", "partAround", "(I)I"⟩, 10) (List.mem_of_getElem? (i := 4) rfl), rfl⟩
theorem wd_302 : (Cond.code ⟨"PrefixCodes$Table", "wordFor", "(II)I"⟩ prog_10_method_9_code 4 (some .int) : Cond) ∈ gW := List.mem_filter.mpr ⟨gt4 _ (List.mem_of_getElem? (i := 149) rfl), rfl⟩
theorem wd_303 : (Cond.methodLink "PrefixCodes$Table" 66 ⟨"PrefixCodes$Table", "wordFor", "(II)I"⟩ : Cond) ∈ gW := List.mem_filter.mpr ⟨gt4 _ (List.mem_of_getElem? (i := 146) rfl), rfl⟩
theorem wd_304 : (Cond.instanceMethod ⟨"PrefixCodes$Table", "wordFor", "(II)I"⟩ : Cond) ∈ gW := List.mem_filter.mpr ⟨gt4 _ (List.mem_of_getElem? (i := 148) rfl), rfl⟩
theorem wd_305 : (Cond.selects "PrefixCodes$Table" ⟨"PrefixCodes$Table", "wordFor", "(II)I"⟩ ⟨"PrefixCodes$Table", "wordFor", "(II)I"⟩ : Cond) ∈ gW := List.mem_filter.mpr ⟨gp3 (⟨"PrefixCodes$Table", "wordFor", "(II)I"⟩, 10) (List.mem_of_getElem? (i := 2) rfl), rfl⟩
theorem wd_306 : (Cond.code ⟨"PrefixCodes$Table", "tellWord", "(II)I"⟩ prog_10_method_5_code 3 (some .int) : Cond) ∈ gW := List.mem_filter.mpr ⟨gt4 _ (List.mem_of_getElem? (i := 153) rfl), rfl⟩
theorem wd_307 : (Cond.methodLink "PrefixCodes$Table" 70 ⟨"PrefixCodes$Table", "tellWord", "(II)I"⟩ : Cond) ∈ gW := List.mem_filter.mpr ⟨gt4 _ (List.mem_of_getElem? (i := 150) rfl), rfl⟩
theorem wd_308 : (Cond.instanceMethod ⟨"PrefixCodes$Table", "tellWord", "(II)I"⟩ : Cond) ∈ gW := List.mem_filter.mpr ⟨gt4 _ (List.mem_of_getElem? (i := 152) rfl), rfl⟩
theorem wd_309 : (Cond.selects "PrefixCodes$Table" ⟨"PrefixCodes$Table", "tellWord", "(II)I"⟩ ⟨"PrefixCodes$Table", "tellWord", "(II)I"⟩ : Cond) ∈ gW := List.mem_filter.mpr ⟨gp3 (⟨"PrefixCodes$Table", "tellWord", "(II)I"⟩, 10) (List.mem_of_getElem? (i := 3) rfl), rfl⟩
theorem wd_310 : (Cond.code ⟨"PrefixCodes$Table", "partWithPrefix", "(I)I"⟩ prog_10_method_7_code 3 (some .int) : Cond) ∈ gW := List.mem_filter.mpr ⟨gt4 _ (List.mem_of_getElem? (i := 142) rfl), rfl⟩
theorem wd_311 : (Cond.methodLink "PrefixCodes$Table" 58 ⟨"PrefixCodes$Table", "partWithPrefix", "(I)I"⟩ : Cond) ∈ gW := List.mem_filter.mpr ⟨gt4 _ (List.mem_of_getElem? (i := 139) rfl), rfl⟩
theorem wd_312 : (Cond.instanceMethod ⟨"PrefixCodes$Table", "partWithPrefix", "(I)I"⟩ : Cond) ∈ gW := List.mem_filter.mpr ⟨gt4 _ (List.mem_of_getElem? (i := 141) rfl), rfl⟩
theorem wd_313 : (Cond.selects "PrefixCodes$Table" ⟨"PrefixCodes$Table", "partWithPrefix", "(I)I"⟩ ⟨"PrefixCodes$Table", "partWithPrefix", "(I)I"⟩ : Cond) ∈ gW := List.mem_filter.mpr ⟨gp3 (⟨"PrefixCodes$Table", "partWithPrefix", "(I)I"⟩, 10) (List.mem_of_getElem? (i := 1) rfl), rfl⟩
theorem wd_314 : (Cond.fieldLink "PrefixCodes$Text" 19 "PrefixCodes$Text" "offered" "[I" : Cond) ∈ gW := List.mem_filter.mpr ⟨gt1 _ (List.mem_of_getElem? (i := 239) rfl), rfl⟩
theorem wd_315 : (Cond.methodLink "PrefixCodes$Text" 25 ⟨"java/lang/System", "arraycopy", "(Ljava/lang/Object;ILjava/lang/Object;II)V"⟩ : Cond) ∈ gW := List.mem_filter.mpr ⟨gt3 _ (List.mem_of_getElem? (i := 192) rfl), rfl⟩
theorem wd_316 : (Cond.native ⟨"java/lang/System", "arraycopy", "(Ljava/lang/Object;ILjava/lang/Object;II)V"⟩ : Cond) ∈ gW := List.mem_filter.mpr ⟨gt3 _ (List.mem_of_getElem? (i := 171) rfl), rfl⟩
theorem wd_317 : (Cond.static ⟨"java/lang/System", "arraycopy", "(Ljava/lang/Object;ILjava/lang/Object;II)V"⟩ : Cond) ∈ gW := List.mem_filter.mpr ⟨gt3 _ (List.mem_of_getElem? (i := 170) rfl), rfl⟩
theorem wd_318 : (Cond.initialized "java/lang/System" : Cond) ∈ gW := List.mem_filter.mpr ⟨gt1 _ (List.mem_of_getElem? (i := 19) rfl), rfl⟩
theorem wd_319 : (Cond.fieldLink "PrefixCodes" 206 "PrefixCodes$Text" "offered" "[I" : Cond) ∈ gW := List.mem_filter.mpr ⟨gt2 _ (List.mem_of_getElem? (i := 0) rfl), rfl⟩
theorem wd_320 : (Cond.code ⟨"PrefixCodes$Text", "extend", "()I"⟩ prog_11_method_2_code 2 (some .int) : Cond) ∈ gW := List.mem_filter.mpr ⟨gt3 _ (List.mem_of_getElem? (i := 191) rfl), rfl⟩
theorem wd_321 : (Cond.methodLink "PrefixCodes" 209 ⟨"PrefixCodes$Text", "extend", "()I"⟩ : Cond) ∈ gW := List.mem_filter.mpr ⟨gt3 _ (List.mem_of_getElem? (i := 188) rfl), rfl⟩
theorem wd_322 : (Cond.instanceMethod ⟨"PrefixCodes$Text", "extend", "()I"⟩ : Cond) ∈ gW := List.mem_filter.mpr ⟨gt3 _ (List.mem_of_getElem? (i := 189) rfl), rfl⟩
theorem wd_323 : (Cond.selects "PrefixCodes$Text" ⟨"PrefixCodes$Text", "extend", "()I"⟩ ⟨"PrefixCodes$Text", "extend", "()I"⟩ : Cond) ∈ gW := List.mem_filter.mpr ⟨gt3 _ (List.mem_of_getElem? (i := 190) rfl), rfl⟩
theorem wd_324 : (Cond.fieldLink "PrefixCodes" 212 "PrefixCodes$Text" "size" "I" : Cond) ∈ gW := List.mem_filter.mpr ⟨gt1 _ (List.mem_of_getElem? (i := 238) rfl), rfl⟩
theorem wd_325 : (Cond.fieldLink "PrefixCodes$Text" 22 "PrefixCodes$Text" "often" "[I" : Cond) ∈ gW := List.mem_filter.mpr ⟨gt2 _ (List.mem_of_getElem? (i := 1) rfl), rfl⟩
theorem wd_326 : (Cond.methodLink "PrefixCodes$Text" 37 ⟨"PrefixCodes$Text", "tally", "([I)V"⟩ : Cond) ∈ gW := List.mem_filter.mpr ⟨gt3 _ (List.mem_of_getElem? (i := 205) rfl), rfl⟩
theorem wd_327 : (Cond.fieldLink "PrefixCodes$Choice" 47 "PrefixCodes$Text" "size" "I" : Cond) ∈ gW := List.mem_filter.mpr ⟨gt1 _ (List.mem_of_getElem? (i := 237) rfl), rfl⟩
theorem wd_328 : (Cond.fieldLink "PrefixCodes$Choice" 15 "PrefixCodes$Choice" "textSize" "I" : Cond) ∈ gW := List.mem_filter.mpr ⟨gt2 _ (List.mem_of_getElem? (i := 32) rfl), rfl⟩
theorem wd_329 : (Cond.fieldLink "PrefixCodes$Choice" 52 "PrefixCodes$Text" "row" "[I" : Cond) ∈ gW := List.mem_filter.mpr ⟨gt1 _ (List.mem_of_getElem? (i := 234) rfl), rfl⟩
theorem wd_330 : (Cond.fieldLink "PrefixCodes$Choice" 9 "PrefixCodes$Choice" "text" "[I" : Cond) ∈ gW := List.mem_filter.mpr ⟨gt2 _ (List.mem_of_getElem? (i := 31) rfl), rfl⟩
theorem wd_331 : (Cond.methodLink "PrefixCodes$Choice" 55 ⟨"java/lang/System", "arraycopy", "(Ljava/lang/Object;ILjava/lang/Object;II)V"⟩ : Cond) ∈ gW := List.mem_filter.mpr ⟨gt3 _ (List.mem_of_getElem? (i := 210) rfl), rfl⟩
theorem wd_332 : (Cond.fieldLink "PrefixCodes$Choice" 34 "PrefixCodes$Choice" "manyCodes" "I" : Cond) ∈ gW := List.mem_filter.mpr ⟨gt2 _ (List.mem_of_getElem? (i := 40) rfl), rfl⟩
theorem wd_333 : (Cond.fieldLink "PrefixCodes$Choice" 19 "PrefixCodes$Choice" "groupSize" "I" : Cond) ∈ gW := List.mem_filter.mpr ⟨gt2 _ (List.mem_of_getElem? (i := 33) rfl), rfl⟩
theorem wd_334 : (Cond.fieldLink "PrefixCodes$Choice" 22 "PrefixCodes$Choice" "groups" "I" : Cond) ∈ gW := List.mem_filter.mpr ⟨gt2 _ (List.mem_of_getElem? (i := 34) rfl), rfl⟩
theorem wd_335 : (Cond.fieldLink "PrefixCodes$Choice" 25 "PrefixCodes$Choice" "codeOfGroup" "[I" : Cond) ∈ gW := List.mem_filter.mpr ⟨gt2 _ (List.mem_of_getElem? (i := 36) rfl), rfl⟩
theorem wd_336 : (Cond.methodLink "PrefixCodes$Choice" 68 ⟨"java/lang/Math", "min", "(II)I"⟩ : Cond) ∈ gW := List.mem_filter.mpr ⟨gt3 _ (List.mem_of_getElem? (i := 228) rfl), rfl⟩
theorem wd_337 : (Cond.fieldLink "PrefixCodes$Choice" 37 "PrefixCodes$Choice" "often" "[I" : Cond) ∈ gW := List.mem_filter.mpr ⟨gt2 _ (List.mem_of_getElem? (i := 41) rfl), rfl⟩
theorem wd_338 : (Cond.methodLink "PrefixCodes$Choice" 84 ⟨"java/util/Arrays", "fill", "([II)V"⟩ : Cond) ∈ gW := List.mem_filter.mpr ⟨gt3 _ (List.mem_of_getElem? (i := 223) rfl), rfl⟩
theorem wd_339 : (Cond.code ⟨"PrefixCodes$Choice", "endOf", "(I)I"⟩ prog_2_method_4_code 2 (some .int) : Cond) ∈ gW := List.mem_filter.mpr ⟨gt3 _ (List.mem_of_getElem? (i := 227) rfl), rfl⟩
theorem wd_340 : (Cond.methodLink "PrefixCodes$Choice" 90 ⟨"PrefixCodes$Choice", "endOf", "(I)I"⟩ : Cond) ∈ gW := List.mem_filter.mpr ⟨gt3 _ (List.mem_of_getElem? (i := 224) rfl), rfl⟩
theorem wd_341 : (Cond.initialized "PrefixCodes$Choice" : Cond) ∈ gW := List.mem_filter.mpr ⟨gt1 _ (List.mem_of_getElem? (i := 9) rfl), rfl⟩
theorem wd_342 : (Cond.instanceMethod ⟨"PrefixCodes$Choice", "endOf", "(I)I"⟩ : Cond) ∈ gW := List.mem_filter.mpr ⟨gt3 _ (List.mem_of_getElem? (i := 226) rfl), rfl⟩
theorem wd_343 : (Cond.selects "PrefixCodes$Choice" ⟨"PrefixCodes$Choice", "endOf", "(I)I"⟩ ⟨"PrefixCodes$Choice", "endOf", "(I)I"⟩ : Cond) ∈ gW := List.mem_filter.mpr ⟨gp2 (⟨"PrefixCodes$Choice", "endOf", "(I)I"⟩, 9) (List.mem_of_getElem? (i := 12) rfl), rfl⟩
theorem wd_344 : (Cond.fieldLink "PrefixCodes$Choice" 30 "PrefixCodes$Choice" "codes" "[LPrefixCodes$Code;" : Cond) ∈ gW := List.mem_filter.mpr ⟨gt2 _ (List.mem_of_getElem? (i := 38) rfl), rfl⟩
theorem wd_345 : (Cond.code ⟨"PrefixCodes$Choice", "countFor", "(I)V"⟩ prog_2_method_6_code 4 none : Cond) ∈ gW := List.mem_filter.mpr ⟨gt3 _ (List.mem_of_getElem? (i := 222) rfl), rfl⟩
theorem wd_346 : (Cond.methodLink "PrefixCodes$Choice" 74 ⟨"PrefixCodes$Choice", "countFor", "(I)V"⟩ : Cond) ∈ gW := List.mem_filter.mpr ⟨gt3 _ (List.mem_of_getElem? (i := 219) rfl), rfl⟩
theorem wd_347 : (Cond.instanceMethod ⟨"PrefixCodes$Choice", "countFor", "(I)V"⟩ : Cond) ∈ gW := List.mem_filter.mpr ⟨gt3 _ (List.mem_of_getElem? (i := 221) rfl), rfl⟩
theorem wd_348 : (Cond.selects "PrefixCodes$Choice" ⟨"PrefixCodes$Choice", "countFor", "(I)V"⟩ ⟨"PrefixCodes$Choice", "countFor", "(I)V"⟩ : Cond) ∈ gW := List.mem_filter.mpr ⟨gp2 (⟨"PrefixCodes$Choice", "countFor", "(I)V"⟩, 9) (List.mem_of_getElem? (i := 11) rfl), rfl⟩
theorem wd_349 : (Cond.methodLink "PrefixCodes$Choice" 78 ⟨"PrefixCodes$Packages", "fit", "([IILPrefixCodes$Code;)V"⟩ : Cond) ∈ gW := List.mem_filter.mpr ⟨gt3 _ (List.mem_of_getElem? (i := 229) rfl), rfl⟩
theorem wd_350 : (Cond.fieldLink "PrefixCodes$Choice" 97 "PrefixCodes$Code" "lengths" "[I" : Cond) ∈ gW := List.mem_filter.mpr ⟨gt1 _ (List.mem_of_getElem? (i := 112) rfl), rfl⟩
theorem wd_351 : (Cond.code ⟨"PrefixCodes$Choice", "bitsBy", "(II)I"⟩ prog_2_method_8_code 6 (some .int) : Cond) ∈ gW := List.mem_filter.mpr ⟨gt3 _ (List.mem_of_getElem? (i := 237) rfl), rfl⟩
theorem wd_352 : (Cond.methodLink "PrefixCodes$Choice" 94 ⟨"PrefixCodes$Choice", "bitsBy", "(II)I"⟩ : Cond) ∈ gW := List.mem_filter.mpr ⟨gt3 _ (List.mem_of_getElem? (i := 234) rfl), rfl⟩
theorem wd_353 : (Cond.instanceMethod ⟨"PrefixCodes$Choice", "bitsBy", "(II)I"⟩ : Cond) ∈ gW := List.mem_filter.mpr ⟨gt3 _ (List.mem_of_getElem? (i := 236) rfl), rfl⟩
theorem wd_354 : (Cond.selects "PrefixCodes$Choice" ⟨"PrefixCodes$Choice", "bitsBy", "(II)I"⟩ ⟨"PrefixCodes$Choice", "bitsBy", "(II)I"⟩ : Cond) ∈ gW := List.mem_filter.mpr ⟨gp2 (⟨"PrefixCodes$Choice", "bitsBy", "(II)I"⟩, 9) (List.mem_of_getElem? (i := 14) rfl), rfl⟩
theorem wd_355 : (Cond.code ⟨"PrefixCodes$Choice", "fitCodes", "(LPrefixCodes$Packages;I)V"⟩ prog_2_method_5_code 4 none : Cond) ∈ gW := List.mem_filter.mpr ⟨gt3 _ (List.mem_of_getElem? (i := 218) rfl), rfl⟩
theorem wd_356 : (Cond.methodLink "PrefixCodes$Choice" 61 ⟨"PrefixCodes$Choice", "fitCodes", "(LPrefixCodes$Packages;I)V"⟩ : Cond) ∈ gW := List.mem_filter.mpr ⟨gt3 _ (List.mem_of_getElem? (i := 215) rfl), rfl⟩
theorem wd_357 : (Cond.instanceMethod ⟨"PrefixCodes$Choice", "fitCodes", "(LPrefixCodes$Packages;I)V"⟩ : Cond) ∈ gW := List.mem_filter.mpr ⟨gt3 _ (List.mem_of_getElem? (i := 217) rfl), rfl⟩
theorem wd_358 : (Cond.selects "PrefixCodes$Choice" ⟨"PrefixCodes$Choice", "fitCodes", "(LPrefixCodes$Packages;I)V"⟩ ⟨"PrefixCodes$Choice", "fitCodes", "(LPrefixCodes$Packages;I)V"⟩ : Cond) ∈ gW := List.mem_filter.mpr ⟨gp2 (⟨"PrefixCodes$Choice", "fitCodes", "(LPrefixCodes$Packages;I)V"⟩, 9) (List.mem_of_getElem? (i := 10) rfl), rfl⟩
theorem wd_359 : (Cond.code ⟨"PrefixCodes$Choice", "regroup", "()V"⟩ prog_2_method_7_code 6 none : Cond) ∈ gW := List.mem_filter.mpr ⟨gt3 _ (List.mem_of_getElem? (i := 233) rfl), rfl⟩
theorem wd_360 : (Cond.methodLink "PrefixCodes$Choice" 65 ⟨"PrefixCodes$Choice", "regroup", "()V"⟩ : Cond) ∈ gW := List.mem_filter.mpr ⟨gt3 _ (List.mem_of_getElem? (i := 230) rfl), rfl⟩
theorem wd_361 : (Cond.instanceMethod ⟨"PrefixCodes$Choice", "regroup", "()V"⟩ : Cond) ∈ gW := List.mem_filter.mpr ⟨gt3 _ (List.mem_of_getElem? (i := 232) rfl), rfl⟩
theorem wd_362 : (Cond.selects "PrefixCodes$Choice" ⟨"PrefixCodes$Choice", "regroup", "()V"⟩ ⟨"PrefixCodes$Choice", "regroup", "()V"⟩ : Cond) ∈ gW := List.mem_filter.mpr ⟨gp2 (⟨"PrefixCodes$Choice", "regroup", "()V"⟩, 9) (List.mem_of_getElem? (i := 13) rfl), rfl⟩
theorem wd_363 : (Cond.fieldLink "PrefixCodes" 63 "PrefixCodes" "choice" "LPrefixCodes$Choice;" : Cond) ∈ gW := List.mem_filter.mpr ⟨gt2 _ (List.mem_of_getElem? (i := 97) rfl), rfl⟩
theorem wd_364 : (Cond.fieldLink "PrefixCodes" 223 "PrefixCodes$Choice" "groups" "I" : Cond) ∈ gW := List.mem_filter.mpr ⟨gt2 _ (List.mem_of_getElem? (i := 35) rfl), rfl⟩
theorem wd_365 : (Cond.fieldLink "PrefixCodes" 226 "PrefixCodes$Choice" "codeOfGroup" "[I" : Cond) ∈ gW := List.mem_filter.mpr ⟨gt2 _ (List.mem_of_getElem? (i := 37) rfl), rfl⟩
theorem wd_366 : (Cond.methodLink "PrefixCodes$Choice" 100 ⟨"PrefixCodes$Code", "hasWord", "(I)Z"⟩ : Cond) ∈ gW := List.mem_filter.mpr ⟨gt4 _ (List.mem_of_getElem? (i := 10) rfl), rfl⟩
theorem wd_367 : (Cond.fieldLink "PrefixCodes$Selectors" 15 "PrefixCodes$Selectors" "many" "I" : Cond) ∈ gW := List.mem_filter.mpr ⟨gt2 _ (List.mem_of_getElem? (i := 25) rfl), rfl⟩
theorem wd_368 : (Cond.fieldLink "PrefixCodes$Selectors" 9 "PrefixCodes$Selectors" "row" "[I" : Cond) ∈ gW := List.mem_filter.mpr ⟨gt2 _ (List.mem_of_getElem? (i := 24) rfl), rfl⟩
theorem wd_369 : (Cond.methodLink "PrefixCodes$Selectors" 19 ⟨"PrefixCodes$Stream", "append", "(I)V"⟩ : Cond) ∈ gW := List.mem_filter.mpr ⟨gt4 _ (List.mem_of_getElem? (i := 23) rfl), rfl⟩
theorem wd_370 : (Cond.code ⟨"PrefixCodes$Selectors", "moveAhead", "(I)V"⟩ prog_8_method_5_code 4 none : Cond) ∈ gW := List.mem_filter.mpr ⟨gt4 _ (List.mem_of_getElem? (i := 27) rfl), rfl⟩
theorem wd_371 : (Cond.methodLink "PrefixCodes$Selectors" 25 ⟨"PrefixCodes$Selectors", "moveAhead", "(I)V"⟩ : Cond) ∈ gW := List.mem_filter.mpr ⟨gt4 _ (List.mem_of_getElem? (i := 24) rfl), rfl⟩
theorem wd_372 : (Cond.initialized "PrefixCodes$Selectors" : Cond) ∈ gW := List.mem_filter.mpr ⟨gt1 _ (List.mem_of_getElem? (i := 10) rfl), rfl⟩
theorem wd_373 : (Cond.instanceMethod ⟨"PrefixCodes$Selectors", "moveAhead", "(I)V"⟩ : Cond) ∈ gW := List.mem_filter.mpr ⟨gt4 _ (List.mem_of_getElem? (i := 26) rfl), rfl⟩
theorem wd_374 : (Cond.selects "PrefixCodes$Selectors" ⟨"PrefixCodes$Selectors", "moveAhead", "(I)V"⟩ ⟨"PrefixCodes$Selectors", "moveAhead", "(I)V"⟩ : Cond) ∈ gW := List.mem_filter.mpr ⟨gp2 (⟨"PrefixCodes$Selectors", "moveAhead", "(I)V"⟩, 2) (List.mem_of_getElem? (i := 15) rfl), rfl⟩
theorem wd_375 : (Cond.fieldLink "PrefixCodes$Choice" 43 "PrefixCodes$Choice" "selectors" "LPrefixCodes$Selectors;" : Cond) ∈ gW := List.mem_filter.mpr ⟨gt2 _ (List.mem_of_getElem? (i := 42) rfl), rfl⟩
theorem wd_376 : (Cond.fieldLink "PrefixCodes$Choice" 111 "PrefixCodes$Code" "words" "[I" : Cond) ∈ gW := List.mem_filter.mpr ⟨gt1 _ (List.mem_of_getElem? (i := 117) rfl), rfl⟩
theorem wd_377 : (Cond.code ⟨"PrefixCodes$Selectors", "begin", "(I)V"⟩ prog_8_method_2_code 3 none : Cond) ∈ gW := List.mem_filter.mpr ⟨gt4 _ (List.mem_of_getElem? (i := 18) rfl), rfl⟩
theorem wd_378 : (Cond.methodLink "PrefixCodes$Choice" 104 ⟨"PrefixCodes$Selectors", "begin", "(I)V"⟩ : Cond) ∈ gW := List.mem_filter.mpr ⟨gt4 _ (List.mem_of_getElem? (i := 15) rfl), rfl⟩
theorem wd_379 : (Cond.instanceMethod ⟨"PrefixCodes$Selectors", "begin", "(I)V"⟩ : Cond) ∈ gW := List.mem_filter.mpr ⟨gt4 _ (List.mem_of_getElem? (i := 16) rfl), rfl⟩
theorem wd_380 : (Cond.selects "PrefixCodes$Selectors" ⟨"PrefixCodes$Selectors", "begin", "(I)V"⟩ ⟨"PrefixCodes$Selectors", "begin", "(I)V"⟩ : Cond) ∈ gW := List.mem_filter.mpr ⟨gt4 _ (List.mem_of_getElem? (i := 17) rfl), rfl⟩
theorem wd_381 : (Cond.methodLink "PrefixCodes$Choice" 114 ⟨"PrefixCodes$Stream", "appendNumber", "(II)V"⟩ : Cond) ∈ gW := List.mem_filter.mpr ⟨gt4 _ (List.mem_of_getElem? (i := 28) rfl), rfl⟩
theorem wd_382 : (Cond.code ⟨"PrefixCodes$Selectors", "append", "(LPrefixCodes$Stream;I)V"⟩ prog_8_method_3_code 4 none : Cond) ∈ gW := List.mem_filter.mpr ⟨gt4 _ (List.mem_of_getElem? (i := 22) rfl), rfl⟩
theorem wd_383 : (Cond.methodLink "PrefixCodes$Choice" 107 ⟨"PrefixCodes$Selectors", "append", "(LPrefixCodes$Stream;I)V"⟩ : Cond) ∈ gW := List.mem_filter.mpr ⟨gt4 _ (List.mem_of_getElem? (i := 19) rfl), rfl⟩
theorem wd_384 : (Cond.instanceMethod ⟨"PrefixCodes$Selectors", "append", "(LPrefixCodes$Stream;I)V"⟩ : Cond) ∈ gW := List.mem_filter.mpr ⟨gt4 _ (List.mem_of_getElem? (i := 20) rfl), rfl⟩
theorem wd_385 : (Cond.selects "PrefixCodes$Selectors" ⟨"PrefixCodes$Selectors", "append", "(LPrefixCodes$Stream;I)V"⟩ ⟨"PrefixCodes$Selectors", "append", "(LPrefixCodes$Stream;I)V"⟩ : Cond) ∈ gW := List.mem_filter.mpr ⟨gt4 _ (List.mem_of_getElem? (i := 21) rfl), rfl⟩
theorem wd_386 : (Cond.code ⟨"PrefixCodes$Choice", "canBeWritten", "()Z"⟩ prog_2_method_9_code 4 (some .boolean) : Cond) ∈ gW := List.mem_filter.mpr ⟨gt4 _ (List.mem_of_getElem? (i := 9) rfl), rfl⟩
theorem wd_387 : (Cond.methodLink "PrefixCodes" 229 ⟨"PrefixCodes$Choice", "canBeWritten", "()Z"⟩ : Cond) ∈ gW := List.mem_filter.mpr ⟨gt4 _ (List.mem_of_getElem? (i := 6) rfl), rfl⟩
theorem wd_388 : (Cond.instanceMethod ⟨"PrefixCodes$Choice", "canBeWritten", "()Z"⟩ : Cond) ∈ gW := List.mem_filter.mpr ⟨gt4 _ (List.mem_of_getElem? (i := 7) rfl), rfl⟩
theorem wd_389 : (Cond.selects "PrefixCodes$Choice" ⟨"PrefixCodes$Choice", "canBeWritten", "()Z"⟩ ⟨"PrefixCodes$Choice", "canBeWritten", "()Z"⟩ : Cond) ∈ gW := List.mem_filter.mpr ⟨gt4 _ (List.mem_of_getElem? (i := 8) rfl), rfl⟩
theorem wd_390 : (Cond.code ⟨"PrefixCodes$Choice", "append", "(LPrefixCodes$Stream;)V"⟩ prog_2_method_10_code 5 none : Cond) ∈ gW := List.mem_filter.mpr ⟨gt4 _ (List.mem_of_getElem? (i := 14) rfl), rfl⟩
theorem wd_391 : (Cond.methodLink "PrefixCodes" 232 ⟨"PrefixCodes$Choice", "append", "(LPrefixCodes$Stream;)V"⟩ : Cond) ∈ gW := List.mem_filter.mpr ⟨gt4 _ (List.mem_of_getElem? (i := 11) rfl), rfl⟩
theorem wd_392 : (Cond.instanceMethod ⟨"PrefixCodes$Choice", "append", "(LPrefixCodes$Stream;)V"⟩ : Cond) ∈ gW := List.mem_filter.mpr ⟨gt4 _ (List.mem_of_getElem? (i := 12) rfl), rfl⟩
theorem wd_393 : (Cond.selects "PrefixCodes$Choice" ⟨"PrefixCodes$Choice", "append", "(LPrefixCodes$Stream;)V"⟩ ⟨"PrefixCodes$Choice", "append", "(LPrefixCodes$Stream;)V"⟩ : Cond) ∈ gW := List.mem_filter.mpr ⟨gt4 _ (List.mem_of_getElem? (i := 13) rfl), rfl⟩
theorem wd_394 : (Cond.fieldLink "PrefixCodes$Reader" 20 "PrefixCodes$Reader" "selectors" "LPrefixCodes$Selectors;" : Cond) ∈ gW := List.mem_filter.mpr ⟨gt2 _ (List.mem_of_getElem? (i := 74) rfl), rfl⟩
theorem wd_395 : (Cond.methodLink "PrefixCodes$Reader" 35 ⟨"PrefixCodes$Selectors", "begin", "(I)V"⟩ : Cond) ∈ gW := List.mem_filter.mpr ⟨gt4 _ (List.mem_of_getElem? (i := 37) rfl), rfl⟩
theorem wd_396 : (Cond.methodLink "PrefixCodes$Selectors" 28 ⟨"PrefixCodes$Stream", "removeFirst", "()I"⟩ : Cond) ∈ gW := List.mem_filter.mpr ⟨gt4 _ (List.mem_of_getElem? (i := 46) rfl), rfl⟩
theorem wd_397 : (Cond.fieldLink "PrefixCodes$Reader" 31 "PrefixCodes$Reader" "stream" "LPrefixCodes$Stream;" : Cond) ∈ gW := List.mem_filter.mpr ⟨gt2 _ (List.mem_of_getElem? (i := 71) rfl), rfl⟩
theorem wd_398 : (Cond.fieldLink "PrefixCodes$Reader" 24 "PrefixCodes$Reader" "codeOfGroup" "[I" : Cond) ∈ gW := List.mem_filter.mpr ⟨gt2 _ (List.mem_of_getElem? (i := 75) rfl), rfl⟩
theorem wd_399 : (Cond.fieldLink "PrefixCodes$Reader" 11 "PrefixCodes$Reader" "codes" "[LPrefixCodes$Code;" : Cond) ∈ gW := List.mem_filter.mpr ⟨gt2 _ (List.mem_of_getElem? (i := 72) rfl), rfl⟩
theorem wd_400 : (Cond.fieldLink "PrefixCodes$Reader" 28 "PrefixCodes$Reader" "found" "[I" : Cond) ∈ gW := List.mem_filter.mpr ⟨gt2 _ (List.mem_of_getElem? (i := 76) rfl), rfl⟩
theorem wd_401 : (Cond.methodLink "PrefixCodes$Reader" 43 ⟨"PrefixCodes$Code", "removeSymbol", "(LPrefixCodes$Stream;Z)I"⟩ : Cond) ∈ gW := List.mem_filter.mpr ⟨gt4 _ (List.mem_of_getElem? (i := 47) rfl), rfl⟩
theorem wd_402 : (Cond.code ⟨"PrefixCodes$Selectors", "remove", "(LPrefixCodes$Stream;)I"⟩ prog_8_method_4_code 4 (some .int) : Cond) ∈ gW := List.mem_filter.mpr ⟨gt4 _ (List.mem_of_getElem? (i := 45) rfl), rfl⟩
theorem wd_403 : (Cond.methodLink "PrefixCodes$Reader" 39 ⟨"PrefixCodes$Selectors", "remove", "(LPrefixCodes$Stream;)I"⟩ : Cond) ∈ gW := List.mem_filter.mpr ⟨gt4 _ (List.mem_of_getElem? (i := 42) rfl), rfl⟩
theorem wd_404 : (Cond.instanceMethod ⟨"PrefixCodes$Selectors", "remove", "(LPrefixCodes$Stream;)I"⟩ : Cond) ∈ gW := List.mem_filter.mpr ⟨gt4 _ (List.mem_of_getElem? (i := 43) rfl), rfl⟩
theorem wd_405 : (Cond.selects "PrefixCodes$Selectors" ⟨"PrefixCodes$Selectors", "remove", "(LPrefixCodes$Stream;)I"⟩ ⟨"PrefixCodes$Selectors", "remove", "(LPrefixCodes$Stream;)I"⟩ : Cond) ∈ gW := List.mem_filter.mpr ⟨gt4 _ (List.mem_of_getElem? (i := 44) rfl), rfl⟩
theorem wd_406 : (Cond.fieldLink "PrefixCodes" 72 "PrefixCodes" "reader" "LPrefixCodes$Reader;" : Cond) ∈ gW := List.mem_filter.mpr ⟨gt2 _ (List.mem_of_getElem? (i := 98) rfl), rfl⟩
theorem wd_407 : (Cond.fieldLink "PrefixCodes" 236 "PrefixCodes$Reader" "codes" "[LPrefixCodes$Code;" : Cond) ∈ gW := List.mem_filter.mpr ⟨gt2 _ (List.mem_of_getElem? (i := 73) rfl), rfl⟩
theorem wd_408 : (Cond.fieldLink "PrefixCodes" 238 "PrefixCodes$Reader" "found" "[I" : Cond) ∈ gW := List.mem_filter.mpr ⟨gt2 _ (List.mem_of_getElem? (i := 77) rfl), rfl⟩
theorem wd_409 : (Cond.code ⟨"PrefixCodes$Reader", "begin", "(I)V"⟩ prog_7_method_2_code 2 none : Cond) ∈ gW := List.mem_filter.mpr ⟨gt4 _ (List.mem_of_getElem? (i := 36) rfl), rfl⟩
theorem wd_410 : (Cond.methodLink "PrefixCodes" 234 ⟨"PrefixCodes$Reader", "begin", "(I)V"⟩ : Cond) ∈ gW := List.mem_filter.mpr ⟨gt4 _ (List.mem_of_getElem? (i := 33) rfl), rfl⟩
theorem wd_411 : (Cond.initialized "PrefixCodes$Reader" : Cond) ∈ gW := List.mem_filter.mpr ⟨gt1 _ (List.mem_of_getElem? (i := 11) rfl), rfl⟩
theorem wd_412 : (Cond.instanceMethod ⟨"PrefixCodes$Reader", "begin", "(I)V"⟩ : Cond) ∈ gW := List.mem_filter.mpr ⟨gt4 _ (List.mem_of_getElem? (i := 34) rfl), rfl⟩
theorem wd_413 : (Cond.selects "PrefixCodes$Reader" ⟨"PrefixCodes$Reader", "begin", "(I)V"⟩ ⟨"PrefixCodes$Reader", "begin", "(I)V"⟩ : Cond) ∈ gW := List.mem_filter.mpr ⟨gt4 _ (List.mem_of_getElem? (i := 35) rfl), rfl⟩
theorem wd_414 : (Cond.code ⟨"PrefixCodes$Reader", "remove", "(II)I"⟩ prog_7_method_3_code 7 (some .int) : Cond) ∈ gW := List.mem_filter.mpr ⟨gt4 _ (List.mem_of_getElem? (i := 41) rfl), rfl⟩
theorem wd_415 : (Cond.methodLink "PrefixCodes" 237 ⟨"PrefixCodes$Reader", "remove", "(II)I"⟩ : Cond) ∈ gW := List.mem_filter.mpr ⟨gt4 _ (List.mem_of_getElem? (i := 38) rfl), rfl⟩
theorem wd_416 : (Cond.instanceMethod ⟨"PrefixCodes$Reader", "remove", "(II)I"⟩ : Cond) ∈ gW := List.mem_filter.mpr ⟨gt4 _ (List.mem_of_getElem? (i := 39) rfl), rfl⟩
theorem wd_417 : (Cond.selects "PrefixCodes$Reader" ⟨"PrefixCodes$Reader", "remove", "(II)I"⟩ ⟨"PrefixCodes$Reader", "remove", "(II)I"⟩ : Cond) ∈ gW := List.mem_filter.mpr ⟨gt4 _ (List.mem_of_getElem? (i := 40) rfl), rfl⟩
theorem wd_418 : (Cond.code ⟨"PrefixCodes$Text", "become", "([II)V"⟩ prog_11_method_3_code 3 none : Cond) ∈ gW := List.mem_filter.mpr ⟨gt4 _ (List.mem_of_getElem? (i := 51) rfl), rfl⟩
theorem wd_419 : (Cond.methodLink "PrefixCodes" 239 ⟨"PrefixCodes$Text", "become", "([II)V"⟩ : Cond) ∈ gW := List.mem_filter.mpr ⟨gt4 _ (List.mem_of_getElem? (i := 48) rfl), rfl⟩
theorem wd_420 : (Cond.instanceMethod ⟨"PrefixCodes$Text", "become", "([II)V"⟩ : Cond) ∈ gW := List.mem_filter.mpr ⟨gt4 _ (List.mem_of_getElem? (i := 49) rfl), rfl⟩
theorem wd_421 : (Cond.selects "PrefixCodes$Text" ⟨"PrefixCodes$Text", "become", "([II)V"⟩ ⟨"PrefixCodes$Text", "become", "([II)V"⟩ : Cond) ∈ gW := List.mem_filter.mpr ⟨gt4 _ (List.mem_of_getElem? (i := 50) rfl), rfl⟩
theorem wd_422 : (Cond.fieldLink "PrefixCodes" 245 "PrefixCodes$Text" "row" "[I" : Cond) ∈ gW := List.mem_filter.mpr ⟨gt1 _ (List.mem_of_getElem? (i := 235) rfl), rfl⟩
theorem wd_423 : (Cond.fieldLink "PrefixCodesModel" 81 "PrefixCodesModel" "thrown" "I" : Cond) ∈ gW := List.mem_filter.mpr ⟨gt4 _ (List.mem_of_getElem? (i := 174) rfl), rfl⟩
theorem wd_424 : (Cond.fieldLink "PrefixCodesModel" 84 "PrefixCodesModel" "codes" "I" : Cond) ∈ gW := List.mem_filter.mpr ⟨gt4 _ (List.mem_of_getElem? (i := 175) rfl), rfl⟩
theorem wd_425 : (Cond.fieldLink "PrefixCodesModel" 7 "PrefixCodesModel" "symbols" "[I" : Cond) ∈ gW := List.mem_filter.mpr ⟨gt4 _ (List.mem_of_getElem? (i := 176) rfl), rfl⟩
theorem wd_426 : (Cond.code ⟨"PrefixCodesModel", "has", "(I)Z"⟩ prog_13_method_3_code 2 (some .boolean) : Cond) ∈ gW := List.mem_filter.mpr ⟨gt5 _ (List.mem_of_getElem? (i := 57) rfl), rfl⟩
theorem wd_427 : (Cond.methodLink "PrefixCodesModel" 87 ⟨"PrefixCodesModel", "has", "(I)Z"⟩ : Cond) ∈ gW := List.mem_filter.mpr ⟨gt5 _ (List.mem_of_getElem? (i := 54) rfl), rfl⟩
theorem wd_428 : (Cond.initialized "PrefixCodesModel" : Cond) ∈ gW := List.mem_filter.mpr ⟨gt1 _ (List.mem_of_getElem? (i := 12) rfl), rfl⟩
theorem wd_429 : (Cond.instanceMethod ⟨"PrefixCodesModel", "has", "(I)Z"⟩ : Cond) ∈ gW := List.mem_filter.mpr ⟨gt5 _ (List.mem_of_getElem? (i := 56) rfl), rfl⟩
theorem wd_430 : (Cond.selects "PrefixCodesModel" ⟨"PrefixCodesModel", "has", "(I)Z"⟩ ⟨"PrefixCodesModel", "has", "(I)Z"⟩ : Cond) ∈ gW := List.mem_filter.mpr ⟨gp3 (⟨"PrefixCodesModel", "has", "(I)Z"⟩, 33) (List.mem_of_getElem? (i := 7) rfl), rfl⟩
theorem wd_431 : (Cond.fieldLink "PrefixCodesModel" 13 "PrefixCodesModel" "lengths" "[I" : Cond) ∈ gW := List.mem_filter.mpr ⟨gt4 _ (List.mem_of_getElem? (i := 177) rfl), rfl⟩
theorem wd_432 : (Cond.code ⟨"PrefixCodesModel", "made", "(I)I"⟩ prog_13_method_6_code 4 (some .int) : Cond) ∈ gW := List.mem_filter.mpr ⟨gt5 _ (List.mem_of_getElem? (i := 45) rfl), rfl⟩
theorem wd_433 : (Cond.methodLink "PrefixCodesModel" 91 ⟨"PrefixCodesModel", "made", "(I)I"⟩ : Cond) ∈ gW := List.mem_filter.mpr ⟨gt5 _ (List.mem_of_getElem? (i := 42) rfl), rfl⟩
theorem wd_434 : (Cond.instanceMethod ⟨"PrefixCodesModel", "made", "(I)I"⟩ : Cond) ∈ gW := List.mem_filter.mpr ⟨gt5 _ (List.mem_of_getElem? (i := 44) rfl), rfl⟩
theorem wd_435 : (Cond.selects "PrefixCodesModel" ⟨"PrefixCodesModel", "made", "(I)I"⟩ ⟨"PrefixCodesModel", "made", "(I)I"⟩ : Cond) ∈ gW := List.mem_filter.mpr ⟨gp3 (⟨"PrefixCodesModel", "made", "(I)I"⟩, 33) (List.mem_of_getElem? (i := 5) rfl), rfl⟩
theorem wd_436 : (Cond.code ⟨"PrefixCodesModel", "hasSymbol", "(II)Z"⟩ prog_13_method_4_code 3 (some .boolean) : Cond) ∈ gW := List.mem_filter.mpr ⟨gt5 _ (List.mem_of_getElem? (i := 53) rfl), rfl⟩
theorem wd_437 : (Cond.methodLink "PrefixCodesModel" 95 ⟨"PrefixCodesModel", "hasSymbol", "(II)Z"⟩ : Cond) ∈ gW := List.mem_filter.mpr ⟨gt5 _ (List.mem_of_getElem? (i := 50) rfl), rfl⟩
theorem wd_438 : (Cond.instanceMethod ⟨"PrefixCodesModel", "hasSymbol", "(II)Z"⟩ : Cond) ∈ gW := List.mem_filter.mpr ⟨gt5 _ (List.mem_of_getElem? (i := 52) rfl), rfl⟩
theorem wd_439 : (Cond.selects "PrefixCodesModel" ⟨"PrefixCodesModel", "hasSymbol", "(II)Z"⟩ ⟨"PrefixCodesModel", "hasSymbol", "(II)Z"⟩ : Cond) ∈ gW := List.mem_filter.mpr ⟨gp3 (⟨"PrefixCodesModel", "hasSymbol", "(II)Z"⟩, 33) (List.mem_of_getElem? (i := 6) rfl), rfl⟩
theorem wd_440 : (Cond.code ⟨"PrefixCodesModel", "lengthOf", "(II)I"⟩ prog_13_method_5_code 3 (some .int) : Cond) ∈ gW := List.mem_filter.mpr ⟨gt5 _ (List.mem_of_getElem? (i := 61) rfl), rfl⟩
theorem wd_441 : (Cond.methodLink "PrefixCodesModel" 99 ⟨"PrefixCodesModel", "lengthOf", "(II)I"⟩ : Cond) ∈ gW := List.mem_filter.mpr ⟨gt5 _ (List.mem_of_getElem? (i := 58) rfl), rfl⟩
theorem wd_442 : (Cond.instanceMethod ⟨"PrefixCodesModel", "lengthOf", "(II)I"⟩ : Cond) ∈ gW := List.mem_filter.mpr ⟨gt5 _ (List.mem_of_getElem? (i := 60) rfl), rfl⟩
theorem wd_443 : (Cond.selects "PrefixCodesModel" ⟨"PrefixCodesModel", "lengthOf", "(II)I"⟩ ⟨"PrefixCodesModel", "lengthOf", "(II)I"⟩ : Cond) ∈ gW := List.mem_filter.mpr ⟨gp3 (⟨"PrefixCodesModel", "lengthOf", "(II)I"⟩, 33) (List.mem_of_getElem? (i := 8) rfl), rfl⟩
theorem wd_444 : (Cond.constant "PrefixCodesModel" 103 (32768 : Int32) : Cond) ∈ gW := List.mem_filter.mpr ⟨gt5 _ (List.mem_of_getElem? (i := 78) rfl), rfl⟩
theorem wd_445 : (Cond.code ⟨"PrefixCodesModel", "words", "(I)I"⟩ prog_13_method_10_code 4 (some .int) : Cond) ∈ gW := List.mem_filter.mpr ⟨gt5 _ (List.mem_of_getElem? (i := 73) rfl), rfl⟩
theorem wd_446 : (Cond.methodLink "PrefixCodesModel" 104 ⟨"PrefixCodesModel", "words", "(I)I"⟩ : Cond) ∈ gW := List.mem_filter.mpr ⟨gt5 _ (List.mem_of_getElem? (i := 70) rfl), rfl⟩
theorem wd_447 : (Cond.instanceMethod ⟨"PrefixCodesModel", "words", "(I)I"⟩ : Cond) ∈ gW := List.mem_filter.mpr ⟨gt5 _ (List.mem_of_getElem? (i := 72) rfl), rfl⟩
theorem wd_448 : (Cond.selects "PrefixCodesModel" ⟨"PrefixCodesModel", "words", "(I)I"⟩ ⟨"PrefixCodesModel", "words", "(I)I"⟩ : Cond) ∈ gW := List.mem_filter.mpr ⟨gp3 (⟨"PrefixCodesModel", "words", "(I)I"⟩, 33) (List.mem_of_getElem? (i := 10) rfl), rfl⟩
theorem wd_449 : (Cond.code ⟨"PrefixCodesModel", "filled", "(I)I"⟩ prog_13_method_9_code 4 (some .int) : Cond) ∈ gW := List.mem_filter.mpr ⟨gt5 _ (List.mem_of_getElem? (i := 77) rfl), rfl⟩
theorem wd_450 : (Cond.methodLink "PrefixCodesModel" 107 ⟨"PrefixCodesModel", "filled", "(I)I"⟩ : Cond) ∈ gW := List.mem_filter.mpr ⟨gt5 _ (List.mem_of_getElem? (i := 74) rfl), rfl⟩
theorem wd_451 : (Cond.instanceMethod ⟨"PrefixCodesModel", "filled", "(I)I"⟩ : Cond) ∈ gW := List.mem_filter.mpr ⟨gt5 _ (List.mem_of_getElem? (i := 76) rfl), rfl⟩
theorem wd_452 : (Cond.selects "PrefixCodesModel" ⟨"PrefixCodesModel", "filled", "(I)I"⟩ ⟨"PrefixCodesModel", "filled", "(I)I"⟩ : Cond) ∈ gW := List.mem_filter.mpr ⟨gp3 (⟨"PrefixCodesModel", "filled", "(I)I"⟩, 33) (List.mem_of_getElem? (i := 11) rfl), rfl⟩
theorem wd_453 : (Cond.code ⟨"PrefixCodesModel", "longest", "(I)I"⟩ prog_13_method_11_code 4 (some .int) : Cond) ∈ gW := List.mem_filter.mpr ⟨gt5 _ (List.mem_of_getElem? (i := 82) rfl), rfl⟩
theorem wd_454 : (Cond.methodLink "PrefixCodesModel" 110 ⟨"PrefixCodesModel", "longest", "(I)I"⟩ : Cond) ∈ gW := List.mem_filter.mpr ⟨gt5 _ (List.mem_of_getElem? (i := 79) rfl), rfl⟩
theorem wd_455 : (Cond.instanceMethod ⟨"PrefixCodesModel", "longest", "(I)I"⟩ : Cond) ∈ gW := List.mem_filter.mpr ⟨gt5 _ (List.mem_of_getElem? (i := 81) rfl), rfl⟩
theorem wd_456 : (Cond.selects "PrefixCodesModel" ⟨"PrefixCodesModel", "longest", "(I)I"⟩ ⟨"PrefixCodesModel", "longest", "(I)I"⟩ : Cond) ∈ gW := List.mem_filter.mpr ⟨gp3 (⟨"PrefixCodesModel", "longest", "(I)I"⟩, 33) (List.mem_of_getElem? (i := 12) rfl), rfl⟩
theorem wd_457 : (Cond.code ⟨"PrefixCodesModel", "kind", "(I)I"⟩ prog_13_method_12_code 4 (some .int) : Cond) ∈ gW := List.mem_filter.mpr ⟨gt5 _ (List.mem_of_getElem? (i := 69) rfl), rfl⟩
theorem wd_458 : (Cond.methodLink "PrefixCodesModel" 113 ⟨"PrefixCodesModel", "kind", "(I)I"⟩ : Cond) ∈ gW := List.mem_filter.mpr ⟨gt5 _ (List.mem_of_getElem? (i := 66) rfl), rfl⟩
theorem wd_459 : (Cond.instanceMethod ⟨"PrefixCodesModel", "kind", "(I)I"⟩ : Cond) ∈ gW := List.mem_filter.mpr ⟨gt5 _ (List.mem_of_getElem? (i := 68) rfl), rfl⟩
theorem wd_460 : (Cond.selects "PrefixCodesModel" ⟨"PrefixCodesModel", "kind", "(I)I"⟩ ⟨"PrefixCodesModel", "kind", "(I)I"⟩ : Cond) ∈ gW := List.mem_filter.mpr ⟨gp3 (⟨"PrefixCodesModel", "kind", "(I)I"⟩, 33) (List.mem_of_getElem? (i := 9) rfl), rfl⟩
theorem wd_461 : (Cond.code ⟨"PrefixCodesModel", "wordOf", "(II)I"⟩ prog_13_method_14_code 7 (some .int) : Cond) ∈ gW := List.mem_filter.mpr ⟨gt5 _ (List.mem_of_getElem? (i := 90) rfl), rfl⟩
theorem wd_462 : (Cond.methodLink "PrefixCodesModel" 116 ⟨"PrefixCodesModel", "wordOf", "(II)I"⟩ : Cond) ∈ gW := List.mem_filter.mpr ⟨gt5 _ (List.mem_of_getElem? (i := 87) rfl), rfl⟩
theorem wd_463 : (Cond.instanceMethod ⟨"PrefixCodesModel", "wordOf", "(II)I"⟩ : Cond) ∈ gW := List.mem_filter.mpr ⟨gt5 _ (List.mem_of_getElem? (i := 89) rfl), rfl⟩
theorem wd_464 : (Cond.selects "PrefixCodesModel" ⟨"PrefixCodesModel", "wordOf", "(II)I"⟩ ⟨"PrefixCodesModel", "wordOf", "(II)I"⟩ : Cond) ∈ gW := List.mem_filter.mpr ⟨gp3 (⟨"PrefixCodesModel", "wordOf", "(II)I"⟩, 33) (List.mem_of_getElem? (i := 13) rfl), rfl⟩
theorem wd_465 : (Cond.code ⟨"PrefixCodesModel", "turn", "(II)I"⟩ prog_13_method_15_code 4 (some .int) : Cond) ∈ gW := List.mem_filter.mpr ⟨gt5 _ (List.mem_of_getElem? (i := 93) rfl), rfl⟩
theorem wd_466 : (Cond.methodLink "PrefixCodesModel" 119 ⟨"PrefixCodesModel", "turn", "(II)I"⟩ : Cond) ∈ gW := List.mem_filter.mpr ⟨gt5 _ (List.mem_of_getElem? (i := 91) rfl), rfl⟩
theorem wd_467 : (Cond.static ⟨"PrefixCodesModel", "turn", "(II)I"⟩ : Cond) ∈ gW := List.mem_filter.mpr ⟨gt5 _ (List.mem_of_getElem? (i := 92) rfl), rfl⟩
theorem wd_468 : (Cond.constant "PrefixCodesModel" 122 (1000000 : Int32) : Cond) ∈ gW := List.mem_filter.mpr ⟨gt5 _ (List.mem_of_getElem? (i := 98) rfl), rfl⟩
theorem wd_469 : (Cond.fieldLink "PrefixCodesModel" 16 "PrefixCodesModel" "counts" "[I" : Cond) ∈ gW := List.mem_filter.mpr ⟨gt4 _ (List.mem_of_getElem? (i := 178) rfl), rfl⟩
theorem wd_470 : (Cond.fieldLink "PrefixCodesModel" 123 "PrefixCodesModel" "textSize" "I" : Cond) ∈ gW := List.mem_filter.mpr ⟨gt4 _ (List.mem_of_getElem? (i := 196) rfl), rfl⟩
theorem wd_471 : (Cond.fieldLink "PrefixCodesModel" 59 "PrefixCodesModel" "text" "[I" : Cond) ∈ gW := List.mem_filter.mpr ⟨gt4 _ (List.mem_of_getElem? (i := 195) rfl), rfl⟩
theorem wd_472 : (Cond.code ⟨"PrefixCodesModel", "different", "([II)I"⟩ prog_13_method_19_code 4 (some .int) : Cond) ∈ gW := List.mem_filter.mpr ⟨gt5 _ (List.mem_of_getElem? (i := 105) rfl), rfl⟩
theorem wd_473 : (Cond.methodLink "PrefixCodesModel" 126 ⟨"PrefixCodesModel", "different", "([II)I"⟩ : Cond) ∈ gW := List.mem_filter.mpr ⟨gt5 _ (List.mem_of_getElem? (i := 103) rfl), rfl⟩
theorem wd_474 : (Cond.static ⟨"PrefixCodesModel", "different", "([II)I"⟩ : Cond) ∈ gW := List.mem_filter.mpr ⟨gt5 _ (List.mem_of_getElem? (i := 104) rfl), rfl⟩
theorem wd_475 : (Cond.fieldLink "PrefixCodesModel" 29 "PrefixCodesModel" "rowSize" "[I" : Cond) ∈ gW := List.mem_filter.mpr ⟨gt4 _ (List.mem_of_getElem? (i := 182) rfl), rfl⟩
theorem wd_476 : (Cond.fieldLink "PrefixCodesModel" 19 "PrefixCodesModel" "weight" "[J" : Cond) ∈ gW := List.mem_filter.mpr ⟨gt4 _ (List.mem_of_getElem? (i := 179) rfl), rfl⟩
theorem wd_477 : (Cond.fieldLink "PrefixCodesModel" 23 "PrefixCodesModel" "item" "[I" : Cond) ∈ gW := List.mem_filter.mpr ⟨gt4 _ (List.mem_of_getElem? (i := 180) rfl), rfl⟩
theorem wd_478 : (Cond.fieldLink "PrefixCodesModel" 32 "PrefixCodesModel" "given" "[I" : Cond) ∈ gW := List.mem_filter.mpr ⟨gt4 _ (List.mem_of_getElem? (i := 183) rfl), rfl⟩
theorem wd_479 : (Cond.fieldLink "PrefixCodesModel" 26 "PrefixCodesModel" "often" "[I" : Cond) ∈ gW := List.mem_filter.mpr ⟨gt4 _ (List.mem_of_getElem? (i := 181) rfl), rfl⟩
theorem wd_480 : (Cond.code ⟨"PrefixCodesModel", "join", "(II)V"⟩ prog_13_method_21_code 12 none : Cond) ∈ gW := List.mem_filter.mpr ⟨gt5 _ (List.mem_of_getElem? (i := 117) rfl), rfl⟩
theorem wd_481 : (Cond.methodLink "PrefixCodesModel" 130 ⟨"PrefixCodesModel", "join", "(II)V"⟩ : Cond) ∈ gW := List.mem_filter.mpr ⟨gt5 _ (List.mem_of_getElem? (i := 114) rfl), rfl⟩
theorem wd_482 : (Cond.instanceMethod ⟨"PrefixCodesModel", "join", "(II)V"⟩ : Cond) ∈ gW := List.mem_filter.mpr ⟨gt5 _ (List.mem_of_getElem? (i := 116) rfl), rfl⟩
theorem wd_483 : (Cond.selects "PrefixCodesModel" ⟨"PrefixCodesModel", "join", "(II)V"⟩ ⟨"PrefixCodesModel", "join", "(II)V"⟩ : Cond) ∈ gW := List.mem_filter.mpr ⟨gp3 (⟨"PrefixCodesModel", "join", "(II)V"⟩, 33) (List.mem_of_getElem? (i := 15) rfl), rfl⟩
theorem wd_484 : (Cond.code ⟨"PrefixCodesModel", "packages", "(III)V"⟩ prog_13_method_20_code 11 none : Cond) ∈ gW := List.mem_filter.mpr ⟨gt5 _ (List.mem_of_getElem? (i := 113) rfl), rfl⟩
theorem wd_485 : (Cond.methodLink "PrefixCodesModel" 134 ⟨"PrefixCodesModel", "packages", "(III)V"⟩ : Cond) ∈ gW := List.mem_filter.mpr ⟨gt5 _ (List.mem_of_getElem? (i := 110) rfl), rfl⟩
theorem wd_486 : (Cond.instanceMethod ⟨"PrefixCodesModel", "packages", "(III)V"⟩ : Cond) ∈ gW := List.mem_filter.mpr ⟨gt5 _ (List.mem_of_getElem? (i := 112) rfl), rfl⟩
theorem wd_487 : (Cond.selects "PrefixCodesModel" ⟨"PrefixCodesModel", "packages", "(III)V"⟩ ⟨"PrefixCodesModel", "packages", "(III)V"⟩ : Cond) ∈ gW := List.mem_filter.mpr ⟨gp3 (⟨"PrefixCodesModel", "packages", "(III)V"⟩, 33) (List.mem_of_getElem? (i := 14) rfl), rfl⟩
theorem wd_488 : (Cond.constantLong "PrefixCodesModel" 138 (-101 : Int64) : Cond) ∈ gW := List.mem_filter.mpr ⟨gt5 _ (List.mem_of_getElem? (i := 122) rfl), rfl⟩
theorem wd_489 : (Cond.fieldLink "PrefixCodesModel" 140 "PrefixCodesModel" "to" "I" : Cond) ∈ gW := List.mem_filter.mpr ⟨gt4 _ (List.mem_of_getElem? (i := 186) rfl), rfl⟩
theorem wd_490 : (Cond.fieldLink "PrefixCodesModel" 143 "PrefixCodesModel" "from" "I" : Cond) ∈ gW := List.mem_filter.mpr ⟨gt4 _ (List.mem_of_getElem? (i := 185) rfl), rfl⟩
theorem wd_491 : (Cond.fieldLink "PrefixCodesModel" 36 "PrefixCodesModel" "stream" "[B" : Cond) ∈ gW := List.mem_filter.mpr ⟨gt4 _ (List.mem_of_getElem? (i := 184) rfl), rfl⟩
theorem wd_492 : (Cond.constant "PrefixCodesModel" 35 (60000 : Int32) : Cond) ∈ gW := List.mem_filter.mpr ⟨gt4 _ (List.mem_of_getElem? (i := 172) rfl), rfl⟩
theorem wd_493 : (Cond.code ⟨"PrefixCodesModel", "hasRoom", "(I)Z"⟩ prog_13_method_27_code 2 (some .boolean) : Cond) ∈ gW := List.mem_filter.mpr ⟨gt5 _ (List.mem_of_getElem? (i := 142) rfl), rfl⟩
theorem wd_494 : (Cond.methodLink "PrefixCodesModel" 146 ⟨"PrefixCodesModel", "hasRoom", "(I)Z"⟩ : Cond) ∈ gW := List.mem_filter.mpr ⟨gt5 _ (List.mem_of_getElem? (i := 139) rfl), rfl⟩
theorem wd_495 : (Cond.instanceMethod ⟨"PrefixCodesModel", "hasRoom", "(I)Z"⟩ : Cond) ∈ gW := List.mem_filter.mpr ⟨gt5 _ (List.mem_of_getElem? (i := 141) rfl), rfl⟩
theorem wd_496 : (Cond.selects "PrefixCodesModel" ⟨"PrefixCodesModel", "hasRoom", "(I)Z"⟩ ⟨"PrefixCodesModel", "hasRoom", "(I)Z"⟩ : Cond) ∈ gW := List.mem_filter.mpr ⟨gp4 (⟨"PrefixCodesModel", "hasRoom", "(I)Z"⟩, 33) (List.mem_of_getElem? (i := 0) rfl), rfl⟩
theorem wd_497 : (Cond.code ⟨"PrefixCodesModel", "putBits", "(II)V"⟩ prog_13_method_28_code 4 none : Cond) ∈ gW := List.mem_filter.mpr ⟨gt5 _ (List.mem_of_getElem? (i := 146) rfl), rfl⟩
theorem wd_498 : (Cond.methodLink "PrefixCodesModel" 149 ⟨"PrefixCodesModel", "putBits", "(II)V"⟩ : Cond) ∈ gW := List.mem_filter.mpr ⟨gt5 _ (List.mem_of_getElem? (i := 143) rfl), rfl⟩
theorem wd_499 : (Cond.instanceMethod ⟨"PrefixCodesModel", "putBits", "(II)V"⟩ : Cond) ∈ gW := List.mem_filter.mpr ⟨gt5 _ (List.mem_of_getElem? (i := 145) rfl), rfl⟩
theorem wd_500 : (Cond.selects "PrefixCodesModel" ⟨"PrefixCodesModel", "putBits", "(II)V"⟩ ⟨"PrefixCodesModel", "putBits", "(II)V"⟩ : Cond) ∈ gW := List.mem_filter.mpr ⟨gp4 (⟨"PrefixCodesModel", "putBits", "(II)V"⟩, 33) (List.mem_of_getElem? (i := 1) rfl), rfl⟩
theorem wd_501 : (Cond.code ⟨"PrefixCodesModel", "word", "(IIZ)I"⟩ prog_13_method_16_code 6 (some .int) : Cond) ∈ gW := List.mem_filter.mpr ⟨gt5 _ (List.mem_of_getElem? (i := 86) rfl), rfl⟩
theorem wd_502 : (Cond.methodLink "PrefixCodesModel" 152 ⟨"PrefixCodesModel", "word", "(IIZ)I"⟩ : Cond) ∈ gW := List.mem_filter.mpr ⟨gt5 _ (List.mem_of_getElem? (i := 155) rfl), rfl⟩
theorem wd_503 : (Cond.instanceMethod ⟨"PrefixCodesModel", "word", "(IIZ)I"⟩ : Cond) ∈ gW := List.mem_filter.mpr ⟨gt5 _ (List.mem_of_getElem? (i := 84) rfl), rfl⟩
theorem wd_504 : (Cond.selects "PrefixCodesModel" ⟨"PrefixCodesModel", "word", "(IIZ)I"⟩ ⟨"PrefixCodesModel", "word", "(IIZ)I"⟩ : Cond) ∈ gW := List.mem_filter.mpr ⟨gt5 _ (List.mem_of_getElem? (i := 85) rfl), rfl⟩
theorem wd_505 : (Cond.code ⟨"PrefixCodesModel", "taken", "(IZ)I"⟩ prog_13_method_32_code 8 (some .int) : Cond) ∈ gW := List.mem_filter.mpr ⟨gt5 _ (List.mem_of_getElem? (i := 163) rfl), rfl⟩
theorem wd_506 : (Cond.methodLink "PrefixCodesModel" 156 ⟨"PrefixCodesModel", "taken", "(IZ)I"⟩ : Cond) ∈ gW := List.mem_filter.mpr ⟨gt5 _ (List.mem_of_getElem? (i := 160) rfl), rfl⟩
theorem wd_507 : (Cond.instanceMethod ⟨"PrefixCodesModel", "taken", "(IZ)I"⟩ : Cond) ∈ gW := List.mem_filter.mpr ⟨gt5 _ (List.mem_of_getElem? (i := 162) rfl), rfl⟩
theorem wd_508 : (Cond.selects "PrefixCodesModel" ⟨"PrefixCodesModel", "taken", "(IZ)I"⟩ ⟨"PrefixCodesModel", "taken", "(IZ)I"⟩ : Cond) ∈ gW := List.mem_filter.mpr ⟨gp4 (⟨"PrefixCodesModel", "taken", "(IZ)I"⟩, 33) (List.mem_of_getElem? (i := 2) rfl), rfl⟩
theorem wd_509 : (Cond.fieldLink "PrefixCodesModel" 40 "PrefixCodesModel" "command" "[I" : Cond) ∈ gW := List.mem_filter.mpr ⟨gt4 _ (List.mem_of_getElem? (i := 187) rfl), rfl⟩
theorem wd_510 : (Cond.fieldLink "PrefixCodesModel" 160 "PrefixCodesModel" "commands" "I" : Cond) ∈ gW := List.mem_filter.mpr ⟨gt4 _ (List.mem_of_getElem? (i := 189) rfl), rfl⟩
theorem wd_511 : (Cond.fieldLink "PrefixCodesModel" 43 "PrefixCodesModel" "more" "[I" : Cond) ∈ gW := List.mem_filter.mpr ⟨gt4 _ (List.mem_of_getElem? (i := 188) rfl), rfl⟩
theorem wd_512 : (Cond.code ⟨"PrefixCodesModel", "tell", "(II)V"⟩ prog_13_method_36_code 3 none : Cond) ∈ gW := List.mem_filter.mpr ⟨gt5 _ (List.mem_of_getElem? (i := 183) rfl), rfl⟩
theorem wd_513 : (Cond.methodLink "PrefixCodesModel" 163 ⟨"PrefixCodesModel", "tell", "(II)V"⟩ : Cond) ∈ gW := List.mem_filter.mpr ⟨gt5 _ (List.mem_of_getElem? (i := 180) rfl), rfl⟩
theorem wd_514 : (Cond.instanceMethod ⟨"PrefixCodesModel", "tell", "(II)V"⟩ : Cond) ∈ gW := List.mem_filter.mpr ⟨gt5 _ (List.mem_of_getElem? (i := 182) rfl), rfl⟩
theorem wd_515 : (Cond.selects "PrefixCodesModel" ⟨"PrefixCodesModel", "tell", "(II)V"⟩ ⟨"PrefixCodesModel", "tell", "(II)V"⟩ : Cond) ∈ gW := List.mem_filter.mpr ⟨gp4 (⟨"PrefixCodesModel", "tell", "(II)V"⟩, 33) (List.mem_of_getElem? (i := 6) rfl), rfl⟩
theorem wd_516 : (Cond.code ⟨"PrefixCodesModel", "fillCommands", "(I)V"⟩ prog_13_method_37_code 7 none : Cond) ∈ gW := List.mem_filter.mpr ⟨gt5 _ (List.mem_of_getElem? (i := 179) rfl), rfl⟩
theorem wd_517 : (Cond.methodLink "PrefixCodesModel" 169 ⟨"PrefixCodesModel", "fillCommands", "(I)V"⟩ : Cond) ∈ gW := List.mem_filter.mpr ⟨gt5 _ (List.mem_of_getElem? (i := 176) rfl), rfl⟩
theorem wd_518 : (Cond.instanceMethod ⟨"PrefixCodesModel", "fillCommands", "(I)V"⟩ : Cond) ∈ gW := List.mem_filter.mpr ⟨gt5 _ (List.mem_of_getElem? (i := 178) rfl), rfl⟩
theorem wd_519 : (Cond.selects "PrefixCodesModel" ⟨"PrefixCodesModel", "fillCommands", "(I)V"⟩ ⟨"PrefixCodesModel", "fillCommands", "(I)V"⟩ : Cond) ∈ gW := List.mem_filter.mpr ⟨gp4 (⟨"PrefixCodesModel", "fillCommands", "(I)V"⟩, 33) (List.mem_of_getElem? (i := 5) rfl), rfl⟩
theorem wd_520 : (Cond.code ⟨"PrefixCodesModel", "extra", "(I)I"⟩ prog_13_method_35_code 1 (some .int) : Cond) ∈ gW := List.mem_filter.mpr ⟨gt5 _ (List.mem_of_getElem? (i := 189) rfl), rfl⟩
theorem wd_521 : (Cond.methodLink "PrefixCodesModel" 176 ⟨"PrefixCodesModel", "extra", "(I)I"⟩ : Cond) ∈ gW := List.mem_filter.mpr ⟨gt5 _ (List.mem_of_getElem? (i := 187) rfl), rfl⟩
theorem wd_522 : (Cond.static ⟨"PrefixCodesModel", "extra", "(I)I"⟩ : Cond) ∈ gW := List.mem_filter.mpr ⟨gt5 _ (List.mem_of_getElem? (i := 188) rfl), rfl⟩
theorem wd_523 : (Cond.code ⟨"PrefixCodesModel", "orderOf", "(I)I"⟩ prog_13_method_34_code 1 (some .int) : Cond) ∈ gW := List.mem_filter.mpr ⟨gt5 _ (List.mem_of_getElem? (i := 186) rfl), rfl⟩
theorem wd_524 : (Cond.methodLink "PrefixCodesModel" 173 ⟨"PrefixCodesModel", "orderOf", "(I)I"⟩ : Cond) ∈ gW := List.mem_filter.mpr ⟨gt5 _ (List.mem_of_getElem? (i := 184) rfl), rfl⟩
theorem wd_525 : (Cond.static ⟨"PrefixCodesModel", "orderOf", "(I)I"⟩ : Cond) ∈ gW := List.mem_filter.mpr ⟨gt5 _ (List.mem_of_getElem? (i := 185) rfl), rfl⟩
theorem wd_526 : (Cond.code ⟨"PrefixCodesModel", "runs", "(IZ)I"⟩ prog_13_method_39_code 8 (some .int) : Cond) ∈ gW := List.mem_filter.mpr ⟨gt5 _ (List.mem_of_getElem? (i := 175) rfl), rfl⟩
theorem wd_527 : (Cond.methodLink "PrefixCodesModel" 166 ⟨"PrefixCodesModel", "runs", "(IZ)I"⟩ : Cond) ∈ gW := List.mem_filter.mpr ⟨gt5 _ (List.mem_of_getElem? (i := 172) rfl), rfl⟩
theorem wd_528 : (Cond.instanceMethod ⟨"PrefixCodesModel", "runs", "(IZ)I"⟩ : Cond) ∈ gW := List.mem_filter.mpr ⟨gt5 _ (List.mem_of_getElem? (i := 174) rfl), rfl⟩
theorem wd_529 : (Cond.selects "PrefixCodesModel" ⟨"PrefixCodesModel", "runs", "(IZ)I"⟩ ⟨"PrefixCodesModel", "runs", "(IZ)I"⟩ : Cond) ∈ gW := List.mem_filter.mpr ⟨gp4 (⟨"PrefixCodesModel", "runs", "(IZ)I"⟩, 33) (List.mem_of_getElem? (i := 4) rfl), rfl⟩
theorem wd_530 : (Cond.code ⟨"PrefixCodesModel", "packed", "(IIZ)I"⟩ prog_13_method_38_code 9 (some .int) : Cond) ∈ gW := List.mem_filter.mpr ⟨gt5 _ (List.mem_of_getElem? (i := 171) rfl), rfl⟩
theorem wd_531 : (Cond.methodLink "PrefixCodesModel" 179 ⟨"PrefixCodesModel", "packed", "(IIZ)I"⟩ : Cond) ∈ gW := List.mem_filter.mpr ⟨gt5 _ (List.mem_of_getElem? (i := 168) rfl), rfl⟩
theorem wd_532 : (Cond.instanceMethod ⟨"PrefixCodesModel", "packed", "(IIZ)I"⟩ : Cond) ∈ gW := List.mem_filter.mpr ⟨gt5 _ (List.mem_of_getElem? (i := 170) rfl), rfl⟩
theorem wd_533 : (Cond.selects "PrefixCodesModel" ⟨"PrefixCodesModel", "packed", "(IIZ)I"⟩ ⟨"PrefixCodesModel", "packed", "(IIZ)I"⟩ : Cond) ∈ gW := List.mem_filter.mpr ⟨gp4 (⟨"PrefixCodesModel", "packed", "(IIZ)I"⟩, 33) (List.mem_of_getElem? (i := 3) rfl), rfl⟩
theorem wd_534 : (Cond.fieldLink "PrefixCodesModel" 46 "PrefixCodesModel" "read" "[I" : Cond) ∈ gW := List.mem_filter.mpr ⟨gt4 _ (List.mem_of_getElem? (i := 190) rfl), rfl⟩
theorem wd_535 : (Cond.code ⟨"PrefixCodesModel", "takeNumber", "(I)I"⟩ prog_13_method_30_code 4 (some .int) : Cond) ∈ gW := List.mem_filter.mpr ⟨gt5 _ (List.mem_of_getElem? (i := 150) rfl), rfl⟩
theorem wd_536 : (Cond.methodLink "PrefixCodesModel" 191 ⟨"PrefixCodesModel", "takeNumber", "(I)I"⟩ : Cond) ∈ gW := List.mem_filter.mpr ⟨gt5 _ (List.mem_of_getElem? (i := 198) rfl), rfl⟩
theorem wd_537 : (Cond.instanceMethod ⟨"PrefixCodesModel", "takeNumber", "(I)I"⟩ : Cond) ∈ gW := List.mem_filter.mpr ⟨gt5 _ (List.mem_of_getElem? (i := 148) rfl), rfl⟩
theorem wd_538 : (Cond.selects "PrefixCodesModel" ⟨"PrefixCodesModel", "takeNumber", "(I)I"⟩ ⟨"PrefixCodesModel", "takeNumber", "(I)I"⟩ : Cond) ∈ gW := List.mem_filter.mpr ⟨gt5 _ (List.mem_of_getElem? (i := 149) rfl), rfl⟩
theorem wd_539 : (Cond.code ⟨"PrefixCodesModel", "readRuns", "(I)I"⟩ prog_13_method_44_code 10 (some .int) : Cond) ∈ gW := List.mem_filter.mpr ⟨gt5 _ (List.mem_of_getElem? (i := 206) rfl), rfl⟩
theorem wd_540 : (Cond.methodLink "PrefixCodesModel" 188 ⟨"PrefixCodesModel", "readRuns", "(I)I"⟩ : Cond) ∈ gW := List.mem_filter.mpr ⟨gt5 _ (List.mem_of_getElem? (i := 203) rfl), rfl⟩
theorem wd_541 : (Cond.instanceMethod ⟨"PrefixCodesModel", "readRuns", "(I)I"⟩ : Cond) ∈ gW := List.mem_filter.mpr ⟨gt5 _ (List.mem_of_getElem? (i := 205) rfl), rfl⟩
theorem wd_542 : (Cond.selects "PrefixCodesModel" ⟨"PrefixCodesModel", "readRuns", "(I)I"⟩ ⟨"PrefixCodesModel", "readRuns", "(I)I"⟩ : Cond) ∈ gW := List.mem_filter.mpr ⟨gp4 (⟨"PrefixCodesModel", "readRuns", "(I)I"⟩, 33) (List.mem_of_getElem? (i := 9) rfl), rfl⟩
theorem wd_543 : (Cond.code ⟨"PrefixCodesModel", "steps", "(I)I"⟩ prog_13_method_43_code 6 (some .int) : Cond) ∈ gW := List.mem_filter.mpr ⟨gt5 _ (List.mem_of_getElem? (i := 202) rfl), rfl⟩
theorem wd_544 : (Cond.methodLink "PrefixCodesModel" 185 ⟨"PrefixCodesModel", "steps", "(I)I"⟩ : Cond) ∈ gW := List.mem_filter.mpr ⟨gt5 _ (List.mem_of_getElem? (i := 199) rfl), rfl⟩
theorem wd_545 : (Cond.instanceMethod ⟨"PrefixCodesModel", "steps", "(I)I"⟩ : Cond) ∈ gW := List.mem_filter.mpr ⟨gt5 _ (List.mem_of_getElem? (i := 201) rfl), rfl⟩
theorem wd_546 : (Cond.selects "PrefixCodesModel" ⟨"PrefixCodesModel", "steps", "(I)I"⟩ ⟨"PrefixCodesModel", "steps", "(I)I"⟩ : Cond) ∈ gW := List.mem_filter.mpr ⟨gp4 (⟨"PrefixCodesModel", "steps", "(I)I"⟩, 33) (List.mem_of_getElem? (i := 8) rfl), rfl⟩
theorem wd_547 : (Cond.code ⟨"PrefixCodesModel", "plain", "(I)I"⟩ prog_13_method_42_code 4 (some .int) : Cond) ∈ gW := List.mem_filter.mpr ⟨gt5 _ (List.mem_of_getElem? (i := 197) rfl), rfl⟩
theorem wd_548 : (Cond.methodLink "PrefixCodesModel" 182 ⟨"PrefixCodesModel", "plain", "(I)I"⟩ : Cond) ∈ gW := List.mem_filter.mpr ⟨gt5 _ (List.mem_of_getElem? (i := 194) rfl), rfl⟩
theorem wd_549 : (Cond.instanceMethod ⟨"PrefixCodesModel", "plain", "(I)I"⟩ : Cond) ∈ gW := List.mem_filter.mpr ⟨gt5 _ (List.mem_of_getElem? (i := 196) rfl), rfl⟩
theorem wd_550 : (Cond.selects "PrefixCodesModel" ⟨"PrefixCodesModel", "plain", "(I)I"⟩ ⟨"PrefixCodesModel", "plain", "(I)I"⟩ : Cond) ∈ gW := List.mem_filter.mpr ⟨gp4 (⟨"PrefixCodesModel", "plain", "(I)I"⟩, 33) (List.mem_of_getElem? (i := 7) rfl), rfl⟩
theorem wd_551 : (Cond.fieldLink "PrefixCodesModel" 50 "PrefixCodesModel" "entryKind" "[B" : Cond) ∈ gW := List.mem_filter.mpr ⟨gt4 _ (List.mem_of_getElem? (i := 191) rfl), rfl⟩
theorem wd_552 : (Cond.fieldLink "PrefixCodesModel" 53 "PrefixCodesModel" "entryWhat" "[I" : Cond) ∈ gW := List.mem_filter.mpr ⟨gt4 _ (List.mem_of_getElem? (i := 192) rfl), rfl⟩
theorem wd_553 : (Cond.fieldLink "PrefixCodesModel" 56 "PrefixCodesModel" "entryBits" "[I" : Cond) ∈ gW := List.mem_filter.mpr ⟨gt4 _ (List.mem_of_getElem? (i := 193) rfl), rfl⟩
theorem wd_554 : (Cond.code ⟨"PrefixCodesModel", "putEntry", "(IIII)V"⟩ prog_13_method_47_code 5 none : Cond) ∈ gW := List.mem_filter.mpr ⟨gt5 _ (List.mem_of_getElem? (i := 218) rfl), rfl⟩
theorem wd_555 : (Cond.methodLink "PrefixCodesModel" 200 ⟨"PrefixCodesModel", "putEntry", "(IIII)V"⟩ : Cond) ∈ gW := List.mem_filter.mpr ⟨gt5 _ (List.mem_of_getElem? (i := 215) rfl), rfl⟩
theorem wd_556 : (Cond.instanceMethod ⟨"PrefixCodesModel", "putEntry", "(IIII)V"⟩ : Cond) ∈ gW := List.mem_filter.mpr ⟨gt5 _ (List.mem_of_getElem? (i := 217) rfl), rfl⟩
theorem wd_557 : (Cond.selects "PrefixCodesModel" ⟨"PrefixCodesModel", "putEntry", "(IIII)V"⟩ ⟨"PrefixCodesModel", "putEntry", "(IIII)V"⟩ : Cond) ∈ gW := List.mem_filter.mpr ⟨gp4 (⟨"PrefixCodesModel", "putEntry", "(IIII)V"⟩, 33) (List.mem_of_getElem? (i := 11) rfl), rfl⟩
theorem wd_558 : (Cond.fieldLink "PrefixCodesModel" 194 "PrefixCodesModel" "entries" "I" : Cond) ∈ gW := List.mem_filter.mpr ⟨gt4 _ (List.mem_of_getElem? (i := 194) rfl), rfl⟩
theorem wd_559 : (Cond.code ⟨"PrefixCodesModel", "clearEntries", "(II)V"⟩ prog_13_method_46_code 4 none : Cond) ∈ gW := List.mem_filter.mpr ⟨gt5 _ (List.mem_of_getElem? (i := 214) rfl), rfl⟩
theorem wd_560 : (Cond.methodLink "PrefixCodesModel" 197 ⟨"PrefixCodesModel", "clearEntries", "(II)V"⟩ : Cond) ∈ gW := List.mem_filter.mpr ⟨gt5 _ (List.mem_of_getElem? (i := 211) rfl), rfl⟩
theorem wd_561 : (Cond.instanceMethod ⟨"PrefixCodesModel", "clearEntries", "(II)V"⟩ : Cond) ∈ gW := List.mem_filter.mpr ⟨gt5 _ (List.mem_of_getElem? (i := 213) rfl), rfl⟩
theorem wd_562 : (Cond.selects "PrefixCodesModel" ⟨"PrefixCodesModel", "clearEntries", "(II)V"⟩ ⟨"PrefixCodesModel", "clearEntries", "(II)V"⟩ : Cond) ∈ gW := List.mem_filter.mpr ⟨gp4 (⟨"PrefixCodesModel", "clearEntries", "(II)V"⟩, 33) (List.mem_of_getElem? (i := 10) rfl), rfl⟩
theorem wd_563 : (Cond.code ⟨"PrefixCodesModel", "part", "(IIII)V"⟩ prog_13_method_48_code 11 none : Cond) ∈ gW := List.mem_filter.mpr ⟨gt5 _ (List.mem_of_getElem? (i := 222) rfl), rfl⟩
theorem wd_564 : (Cond.methodLink "PrefixCodesModel" 204 ⟨"PrefixCodesModel", "part", "(IIII)V"⟩ : Cond) ∈ gW := List.mem_filter.mpr ⟨gt5 _ (List.mem_of_getElem? (i := 219) rfl), rfl⟩
theorem wd_565 : (Cond.instanceMethod ⟨"PrefixCodesModel", "part", "(IIII)V"⟩ : Cond) ∈ gW := List.mem_filter.mpr ⟨gt5 _ (List.mem_of_getElem? (i := 221) rfl), rfl⟩
theorem wd_566 : (Cond.selects "PrefixCodesModel" ⟨"PrefixCodesModel", "part", "(IIII)V"⟩ ⟨"PrefixCodesModel", "part", "(IIII)V"⟩ : Cond) ∈ gW := List.mem_filter.mpr ⟨gp4 (⟨"PrefixCodesModel", "part", "(IIII)V"⟩, 33) (List.mem_of_getElem? (i := 12) rfl), rfl⟩
theorem wd_567 : (Cond.code ⟨"PrefixCodesModel", "at", "(IIIIII)I"⟩ prog_13_method_51_code 6 (some .int) : Cond) ∈ gW := List.mem_filter.mpr ⟨gt5 _ (List.mem_of_getElem? (i := 233) rfl), rfl⟩
theorem wd_568 : (Cond.methodLink "PrefixCodesModel" 207 ⟨"PrefixCodesModel", "at", "(IIIIII)I"⟩ : Cond) ∈ gW := List.mem_filter.mpr ⟨gt5 _ (List.mem_of_getElem? (i := 231) rfl), rfl⟩
theorem wd_569 : (Cond.static ⟨"PrefixCodesModel", "at", "(IIIIII)I"⟩ : Cond) ∈ gW := List.mem_filter.mpr ⟨gt5 _ (List.mem_of_getElem? (i := 232) rfl), rfl⟩
theorem wd_570 : (Cond.fieldLink "PrefixCodesModel" 211 "PrefixCodesModel" "groups" "I" : Cond) ∈ gW := List.mem_filter.mpr ⟨gt4 _ (List.mem_of_getElem? (i := 200) rfl), rfl⟩
theorem wd_571 : (Cond.fieldLink "PrefixCodesModel" 214 "PrefixCodesModel" "chosenCodes" "I" : Cond) ∈ gW := List.mem_filter.mpr ⟨gt4 _ (List.mem_of_getElem? (i := 198) rfl), rfl⟩
theorem wd_572 : (Cond.fieldLink "PrefixCodesModel" 217 "PrefixCodesModel" "thenSize" "I" : Cond) ∈ gW := List.mem_filter.mpr ⟨gt4 _ (List.mem_of_getElem? (i := 203) rfl), rfl⟩
theorem wd_573 : (Cond.fieldLink "PrefixCodesModel" 69 "PrefixCodesModel" "then" "[I" : Cond) ∈ gW := List.mem_filter.mpr ⟨gt4 _ (List.mem_of_getElem? (i := 202) rfl), rfl⟩
theorem wd_574 : (Cond.fieldLink "PrefixCodesModel" 66 "PrefixCodesModel" "groupCode" "[I" : Cond) ∈ gW := List.mem_filter.mpr ⟨gt4 _ (List.mem_of_getElem? (i := 201) rfl), rfl⟩
theorem wd_575 : (Cond.fieldLink "PrefixCodesModel" 220 "PrefixCodesModel" "chosenSize" "I" : Cond) ∈ gW := List.mem_filter.mpr ⟨gt4 _ (List.mem_of_getElem? (i := 199) rfl), rfl⟩
theorem wd_576 : (Cond.fieldLink "PrefixCodesModel" 62 "PrefixCodesModel" "chosen" "I" : Cond) ∈ gW := List.mem_filter.mpr ⟨gt4 _ (List.mem_of_getElem? (i := 197) rfl), rfl⟩
theorem wd_577 : (Cond.code ⟨"PrefixCodesModel", "make", "(I)V"⟩ prog_13_method_54_code 4 none : Cond) ∈ gW := List.mem_filter.mpr ⟨gt6 _ (List.mem_of_getElem? (i := 9) rfl), rfl⟩
theorem wd_578 : (Cond.methodLink "PrefixCodesModel" 226 ⟨"PrefixCodesModel", "make", "(I)V"⟩ : Cond) ∈ gW := List.mem_filter.mpr ⟨gt6 _ (List.mem_of_getElem? (i := 6) rfl), rfl⟩
theorem wd_579 : (Cond.instanceMethod ⟨"PrefixCodesModel", "make", "(I)V"⟩ : Cond) ∈ gW := List.mem_filter.mpr ⟨gt6 _ (List.mem_of_getElem? (i := 8) rfl), rfl⟩
theorem wd_580 : (Cond.selects "PrefixCodesModel" ⟨"PrefixCodesModel", "make", "(I)V"⟩ ⟨"PrefixCodesModel", "make", "(I)V"⟩ : Cond) ∈ gW := List.mem_filter.mpr ⟨gp4 (⟨"PrefixCodesModel", "make", "(I)V"⟩, 33) (List.mem_of_getElem? (i := 14) rfl), rfl⟩
theorem wd_581 : (Cond.code ⟨"PrefixCodesModel", "best", "(I)I"⟩ prog_13_method_56_code 7 (some .int) : Cond) ∈ gW := List.mem_filter.mpr ⟨gt6 _ (List.mem_of_getElem? (i := 13) rfl), rfl⟩
theorem wd_582 : (Cond.methodLink "PrefixCodesModel" 229 ⟨"PrefixCodesModel", "best", "(I)I"⟩ : Cond) ∈ gW := List.mem_filter.mpr ⟨gt6 _ (List.mem_of_getElem? (i := 10) rfl), rfl⟩
theorem wd_583 : (Cond.instanceMethod ⟨"PrefixCodesModel", "best", "(I)I"⟩ : Cond) ∈ gW := List.mem_filter.mpr ⟨gt6 _ (List.mem_of_getElem? (i := 12) rfl), rfl⟩
theorem wd_584 : (Cond.selects "PrefixCodesModel" ⟨"PrefixCodesModel", "best", "(I)I"⟩ ⟨"PrefixCodesModel", "best", "(I)I"⟩ : Cond) ∈ gW := List.mem_filter.mpr ⟨gp4 (⟨"PrefixCodesModel", "best", "(I)I"⟩, 33) (List.mem_of_getElem? (i := 15) rfl), rfl⟩
theorem wd_585 : (Cond.code ⟨"PrefixCodesModel", "groupOf", "(II)I"⟩ prog_13_method_53_code 3 (some .int) : Cond) ∈ gW := List.mem_filter.mpr ⟨gt6 _ (List.mem_of_getElem? (i := 5) rfl), rfl⟩
theorem wd_586 : (Cond.methodLink "PrefixCodesModel" 223 ⟨"PrefixCodesModel", "groupOf", "(II)I"⟩ : Cond) ∈ gW := List.mem_filter.mpr ⟨gt6 _ (List.mem_of_getElem? (i := 2) rfl), rfl⟩
theorem wd_587 : (Cond.instanceMethod ⟨"PrefixCodesModel", "groupOf", "(II)I"⟩ : Cond) ∈ gW := List.mem_filter.mpr ⟨gt6 _ (List.mem_of_getElem? (i := 4) rfl), rfl⟩
theorem wd_588 : (Cond.selects "PrefixCodesModel" ⟨"PrefixCodesModel", "groupOf", "(II)I"⟩ ⟨"PrefixCodesModel", "groupOf", "(II)I"⟩ : Cond) ∈ gW := List.mem_filter.mpr ⟨gp4 (⟨"PrefixCodesModel", "groupOf", "(II)I"⟩, 33) (List.mem_of_getElem? (i := 13) rfl), rfl⟩
theorem wd_589 : (Cond.fieldLink "PrefixCodesModel" 72 "PrefixCodesModel" "places" "[I" : Cond) ∈ gW := List.mem_filter.mpr ⟨gt4 _ (List.mem_of_getElem? (i := 204) rfl), rfl⟩
theorem wd_590 : (Cond.code ⟨"PrefixCodesModel", "begin", "(I)V"⟩ prog_13_method_58_code 3 none : Cond) ∈ gW := List.mem_filter.mpr ⟨gt6 _ (List.mem_of_getElem? (i := 25) rfl), rfl⟩
theorem wd_591 : (Cond.methodLink "PrefixCodesModel" 232 ⟨"PrefixCodesModel", "begin", "(I)V"⟩ : Cond) ∈ gW := List.mem_filter.mpr ⟨gt6 _ (List.mem_of_getElem? (i := 22) rfl), rfl⟩
theorem wd_592 : (Cond.instanceMethod ⟨"PrefixCodesModel", "begin", "(I)V"⟩ : Cond) ∈ gW := List.mem_filter.mpr ⟨gt6 _ (List.mem_of_getElem? (i := 24) rfl), rfl⟩
theorem wd_593 : (Cond.selects "PrefixCodesModel" ⟨"PrefixCodesModel", "begin", "(I)V"⟩ ⟨"PrefixCodesModel", "begin", "(I)V"⟩ : Cond) ∈ gW := List.mem_filter.mpr ⟨gp5 (⟨"PrefixCodesModel", "begin", "(I)V"⟩, 33) (List.mem_of_getElem? (i := 0) rfl), rfl⟩
theorem wd_594 : (Cond.code ⟨"PrefixCodesModel", "front", "(I)I"⟩ prog_13_method_59_code 4 (some .int) : Cond) ∈ gW := List.mem_filter.mpr ⟨gt6 _ (List.mem_of_getElem? (i := 29) rfl), rfl⟩
theorem wd_595 : (Cond.methodLink "PrefixCodesModel" 235 ⟨"PrefixCodesModel", "front", "(I)I"⟩ : Cond) ∈ gW := List.mem_filter.mpr ⟨gt6 _ (List.mem_of_getElem? (i := 26) rfl), rfl⟩
theorem wd_596 : (Cond.instanceMethod ⟨"PrefixCodesModel", "front", "(I)I"⟩ : Cond) ∈ gW := List.mem_filter.mpr ⟨gt6 _ (List.mem_of_getElem? (i := 28) rfl), rfl⟩
theorem wd_597 : (Cond.selects "PrefixCodesModel" ⟨"PrefixCodesModel", "front", "(I)I"⟩ ⟨"PrefixCodesModel", "front", "(I)I"⟩ : Cond) ∈ gW := List.mem_filter.mpr ⟨gp5 (⟨"PrefixCodesModel", "front", "(I)I"⟩, 33) (List.mem_of_getElem? (i := 1) rfl), rfl⟩
theorem wd_598 : (Cond.fieldLink "PrefixCodesModel" 75 "PrefixCodesModel" "readGroup" "[I" : Cond) ∈ gW := List.mem_filter.mpr ⟨gt4 _ (List.mem_of_getElem? (i := 205) rfl), rfl⟩
theorem wd_599 : (Cond.fieldLink "PrefixCodesModel" 78 "PrefixCodesModel" "readText" "[I" : Cond) ∈ gW := List.mem_filter.mpr ⟨gt4 _ (List.mem_of_getElem? (i := 206) rfl), rfl⟩
theorem wd_600 : (Cond.laysFinal "PrefixCodes" "PrefixCodes" "codes" "[LPrefixCodes$Code;" : Cond) ∈ gW := List.mem_filter.mpr ⟨gt2 _ (List.mem_of_getElem? (i := 99) rfl), rfl⟩
theorem wd_601 : (Cond.lays "PrefixCodes" "PrefixCodes" "codesMade" "I" : Cond) ∈ gW := List.mem_filter.mpr ⟨gt2 _ (List.mem_of_getElem? (i := 101) rfl), rfl⟩
theorem wd_602 : (Cond.laysFinal "PrefixCodes" "PrefixCodes" "counts" "[I" : Cond) ∈ gW := List.mem_filter.mpr ⟨gt2 _ (List.mem_of_getElem? (i := 103) rfl), rfl⟩
theorem wd_603 : (Cond.laysFinal "PrefixCodes" "PrefixCodes" "stream" "LPrefixCodes$Stream;" : Cond) ∈ gW := List.mem_filter.mpr ⟨gt2 _ (List.mem_of_getElem? (i := 105) rfl), rfl⟩
theorem wd_604 : (Cond.laysFinal "PrefixCodes" "PrefixCodes" "packages" "LPrefixCodes$Packages;" : Cond) ∈ gW := List.mem_filter.mpr ⟨gt2 _ (List.mem_of_getElem? (i := 107) rfl), rfl⟩
theorem wd_605 : (Cond.laysFinal "PrefixCodes" "PrefixCodes" "manners" "LPrefixCodes$Manners;" : Cond) ∈ gW := List.mem_filter.mpr ⟨gt2 _ (List.mem_of_getElem? (i := 109) rfl), rfl⟩
theorem wd_606 : (Cond.laysFinal "PrefixCodes" "PrefixCodes" "lastTable" "LPrefixCodes$Table;" : Cond) ∈ gW := List.mem_filter.mpr ⟨gt2 _ (List.mem_of_getElem? (i := 111) rfl), rfl⟩
theorem wd_607 : (Cond.laysFinal "PrefixCodes" "PrefixCodes" "text" "LPrefixCodes$Text;" : Cond) ∈ gW := List.mem_filter.mpr ⟨gt2 _ (List.mem_of_getElem? (i := 113) rfl), rfl⟩
theorem wd_608 : (Cond.laysFinal "PrefixCodes" "PrefixCodes" "choice" "LPrefixCodes$Choice;" : Cond) ∈ gW := List.mem_filter.mpr ⟨gt2 _ (List.mem_of_getElem? (i := 115) rfl), rfl⟩
theorem wd_609 : (Cond.laysFinal "PrefixCodes" "PrefixCodes" "reader" "LPrefixCodes$Reader;" : Cond) ∈ gW := List.mem_filter.mpr ⟨gt2 _ (List.mem_of_getElem? (i := 117) rfl), rfl⟩
theorem wd_610 : (Cond.lays "PrefixCodesModel" "PrefixCodesModel" "thrown" "I" : Cond) ∈ gW := List.mem_filter.mpr ⟨gt4 _ (List.mem_of_getElem? (i := 207) rfl), rfl⟩
theorem wd_611 : (Cond.lays "PrefixCodesModel" "PrefixCodesModel" "codes" "I" : Cond) ∈ gW := List.mem_filter.mpr ⟨gt4 _ (List.mem_of_getElem? (i := 209) rfl), rfl⟩
theorem wd_612 : (Cond.laysFinal "PrefixCodesModel" "PrefixCodesModel" "symbols" "[I" : Cond) ∈ gW := List.mem_filter.mpr ⟨gt4 _ (List.mem_of_getElem? (i := 211) rfl), rfl⟩
theorem wd_613 : (Cond.laysFinal "PrefixCodesModel" "PrefixCodesModel" "lengths" "[I" : Cond) ∈ gW := List.mem_filter.mpr ⟨gt4 _ (List.mem_of_getElem? (i := 213) rfl), rfl⟩
theorem wd_614 : (Cond.laysFinal "PrefixCodesModel" "PrefixCodesModel" "counts" "[I" : Cond) ∈ gW := List.mem_filter.mpr ⟨gt4 _ (List.mem_of_getElem? (i := 215) rfl), rfl⟩
theorem wd_615 : (Cond.laysFinal "PrefixCodesModel" "PrefixCodesModel" "weight" "[J" : Cond) ∈ gW := List.mem_filter.mpr ⟨gt4 _ (List.mem_of_getElem? (i := 217) rfl), rfl⟩
theorem wd_616 : (Cond.laysFinal "PrefixCodesModel" "PrefixCodesModel" "item" "[I" : Cond) ∈ gW := List.mem_filter.mpr ⟨gt4 _ (List.mem_of_getElem? (i := 219) rfl), rfl⟩
theorem wd_617 : (Cond.laysFinal "PrefixCodesModel" "PrefixCodesModel" "often" "[I" : Cond) ∈ gW := List.mem_filter.mpr ⟨gt4 _ (List.mem_of_getElem? (i := 221) rfl), rfl⟩
theorem wd_618 : (Cond.laysFinal "PrefixCodesModel" "PrefixCodesModel" "rowSize" "[I" : Cond) ∈ gW := List.mem_filter.mpr ⟨gt4 _ (List.mem_of_getElem? (i := 223) rfl), rfl⟩
theorem wd_619 : (Cond.laysFinal "PrefixCodesModel" "PrefixCodesModel" "given" "[I" : Cond) ∈ gW := List.mem_filter.mpr ⟨gt4 _ (List.mem_of_getElem? (i := 225) rfl), rfl⟩
theorem wd_620 : (Cond.laysFinal "PrefixCodesModel" "PrefixCodesModel" "stream" "[B" : Cond) ∈ gW := List.mem_filter.mpr ⟨gt4 _ (List.mem_of_getElem? (i := 227) rfl), rfl⟩
theorem wd_621 : (Cond.lays "PrefixCodesModel" "PrefixCodesModel" "from" "I" : Cond) ∈ gW := List.mem_filter.mpr ⟨gt4 _ (List.mem_of_getElem? (i := 229) rfl), rfl⟩
theorem wd_622 : (Cond.lays "PrefixCodesModel" "PrefixCodesModel" "to" "I" : Cond) ∈ gW := List.mem_filter.mpr ⟨gt4 _ (List.mem_of_getElem? (i := 231) rfl), rfl⟩
theorem wd_623 : (Cond.laysFinal "PrefixCodesModel" "PrefixCodesModel" "command" "[I" : Cond) ∈ gW := List.mem_filter.mpr ⟨gt4 _ (List.mem_of_getElem? (i := 233) rfl), rfl⟩
theorem wd_624 : (Cond.laysFinal "PrefixCodesModel" "PrefixCodesModel" "more" "[I" : Cond) ∈ gW := List.mem_filter.mpr ⟨gt4 _ (List.mem_of_getElem? (i := 235) rfl), rfl⟩
theorem wd_625 : (Cond.lays "PrefixCodesModel" "PrefixCodesModel" "commands" "I" : Cond) ∈ gW := List.mem_filter.mpr ⟨gt4 _ (List.mem_of_getElem? (i := 237) rfl), rfl⟩
theorem wd_626 : (Cond.laysFinal "PrefixCodesModel" "PrefixCodesModel" "read" "[I" : Cond) ∈ gW := List.mem_filter.mpr ⟨gt4 _ (List.mem_of_getElem? (i := 239) rfl), rfl⟩
theorem wd_627 : (Cond.laysFinal "PrefixCodesModel" "PrefixCodesModel" "entryKind" "[B" : Cond) ∈ gW := List.mem_filter.mpr ⟨gt5 _ (List.mem_of_getElem? (i := 1) rfl), rfl⟩
theorem wd_628 : (Cond.laysFinal "PrefixCodesModel" "PrefixCodesModel" "entryWhat" "[I" : Cond) ∈ gW := List.mem_filter.mpr ⟨gt5 _ (List.mem_of_getElem? (i := 3) rfl), rfl⟩
theorem wd_629 : (Cond.laysFinal "PrefixCodesModel" "PrefixCodesModel" "entryBits" "[I" : Cond) ∈ gW := List.mem_filter.mpr ⟨gt5 _ (List.mem_of_getElem? (i := 5) rfl), rfl⟩
theorem wd_630 : (Cond.lays "PrefixCodesModel" "PrefixCodesModel" "entries" "I" : Cond) ∈ gW := List.mem_filter.mpr ⟨gt5 _ (List.mem_of_getElem? (i := 7) rfl), rfl⟩
theorem wd_631 : (Cond.laysFinal "PrefixCodesModel" "PrefixCodesModel" "text" "[I" : Cond) ∈ gW := List.mem_filter.mpr ⟨gt5 _ (List.mem_of_getElem? (i := 9) rfl), rfl⟩
theorem wd_632 : (Cond.lays "PrefixCodesModel" "PrefixCodesModel" "textSize" "I" : Cond) ∈ gW := List.mem_filter.mpr ⟨gt5 _ (List.mem_of_getElem? (i := 11) rfl), rfl⟩
theorem wd_633 : (Cond.lays "PrefixCodesModel" "PrefixCodesModel" "chosen" "I" : Cond) ∈ gW := List.mem_filter.mpr ⟨gt5 _ (List.mem_of_getElem? (i := 13) rfl), rfl⟩
theorem wd_634 : (Cond.lays "PrefixCodesModel" "PrefixCodesModel" "chosenCodes" "I" : Cond) ∈ gW := List.mem_filter.mpr ⟨gt5 _ (List.mem_of_getElem? (i := 15) rfl), rfl⟩
theorem wd_635 : (Cond.lays "PrefixCodesModel" "PrefixCodesModel" "chosenSize" "I" : Cond) ∈ gW := List.mem_filter.mpr ⟨gt5 _ (List.mem_of_getElem? (i := 17) rfl), rfl⟩
theorem wd_636 : (Cond.lays "PrefixCodesModel" "PrefixCodesModel" "groups" "I" : Cond) ∈ gW := List.mem_filter.mpr ⟨gt5 _ (List.mem_of_getElem? (i := 19) rfl), rfl⟩
theorem wd_637 : (Cond.laysFinal "PrefixCodesModel" "PrefixCodesModel" "groupCode" "[I" : Cond) ∈ gW := List.mem_filter.mpr ⟨gt5 _ (List.mem_of_getElem? (i := 21) rfl), rfl⟩
theorem wd_638 : (Cond.laysFinal "PrefixCodesModel" "PrefixCodesModel" "then" "[I" : Cond) ∈ gW := List.mem_filter.mpr ⟨gt5 _ (List.mem_of_getElem? (i := 23) rfl), rfl⟩
theorem wd_639 : (Cond.lays "PrefixCodesModel" "PrefixCodesModel" "thenSize" "I" : Cond) ∈ gW := List.mem_filter.mpr ⟨gt5 _ (List.mem_of_getElem? (i := 25) rfl), rfl⟩
theorem wd_640 : (Cond.laysFinal "PrefixCodesModel" "PrefixCodesModel" "places" "[I" : Cond) ∈ gW := List.mem_filter.mpr ⟨gt5 _ (List.mem_of_getElem? (i := 27) rfl), rfl⟩
theorem wd_641 : (Cond.laysFinal "PrefixCodesModel" "PrefixCodesModel" "readGroup" "[I" : Cond) ∈ gW := List.mem_filter.mpr ⟨gt5 _ (List.mem_of_getElem? (i := 29) rfl), rfl⟩
theorem wd_642 : (Cond.laysFinal "PrefixCodesModel" "PrefixCodesModel" "readText" "[I" : Cond) ∈ gW := List.mem_filter.mpr ⟨gt5 _ (List.mem_of_getElem? (i := 31) rfl), rfl⟩
theorem wd_643 : (Cond.laysFinal "PrefixCodes$Choice" "PrefixCodes$Choice" "text" "[I" : Cond) ∈ gW := List.mem_filter.mpr ⟨gt2 _ (List.mem_of_getElem? (i := 43) rfl), rfl⟩
theorem wd_644 : (Cond.lays "PrefixCodes$Choice" "PrefixCodes$Choice" "textSize" "I" : Cond) ∈ gW := List.mem_filter.mpr ⟨gt2 _ (List.mem_of_getElem? (i := 45) rfl), rfl⟩
theorem wd_645 : (Cond.lays "PrefixCodes$Choice" "PrefixCodes$Choice" "groupSize" "I" : Cond) ∈ gW := List.mem_filter.mpr ⟨gt2 _ (List.mem_of_getElem? (i := 47) rfl), rfl⟩
theorem wd_646 : (Cond.lays "PrefixCodes$Choice" "PrefixCodes$Choice" "groups" "I" : Cond) ∈ gW := List.mem_filter.mpr ⟨gt2 _ (List.mem_of_getElem? (i := 49) rfl), rfl⟩
theorem wd_647 : (Cond.laysFinal "PrefixCodes$Choice" "PrefixCodes$Choice" "codeOfGroup" "[I" : Cond) ∈ gW := List.mem_filter.mpr ⟨gt2 _ (List.mem_of_getElem? (i := 51) rfl), rfl⟩
theorem wd_648 : (Cond.laysFinal "PrefixCodes$Choice" "PrefixCodes$Choice" "codes" "[LPrefixCodes$Code;" : Cond) ∈ gW := List.mem_filter.mpr ⟨gt2 _ (List.mem_of_getElem? (i := 53) rfl), rfl⟩
theorem wd_649 : (Cond.lays "PrefixCodes$Choice" "PrefixCodes$Choice" "manyCodes" "I" : Cond) ∈ gW := List.mem_filter.mpr ⟨gt2 _ (List.mem_of_getElem? (i := 55) rfl), rfl⟩
theorem wd_650 : (Cond.laysFinal "PrefixCodes$Choice" "PrefixCodes$Choice" "often" "[I" : Cond) ∈ gW := List.mem_filter.mpr ⟨gt2 _ (List.mem_of_getElem? (i := 57) rfl), rfl⟩
theorem wd_651 : (Cond.laysFinal "PrefixCodes$Choice" "PrefixCodes$Choice" "selectors" "LPrefixCodes$Selectors;" : Cond) ∈ gW := List.mem_filter.mpr ⟨gt2 _ (List.mem_of_getElem? (i := 59) rfl), rfl⟩
theorem wd_652 : (Cond.laysFinal "PrefixCodes$Code" "PrefixCodes$Code" "symbols" "I" : Cond) ∈ gW := List.mem_filter.mpr ⟨gt1 _ (List.mem_of_getElem? (i := 133) rfl), rfl⟩
theorem wd_653 : (Cond.laysFinal "PrefixCodes$Code" "PrefixCodes$Code" "lengths" "[I" : Cond) ∈ gW := List.mem_filter.mpr ⟨gt1 _ (List.mem_of_getElem? (i := 135) rfl), rfl⟩
theorem wd_654 : (Cond.laysFinal "PrefixCodes$Code" "PrefixCodes$Code" "words" "[I" : Cond) ∈ gW := List.mem_filter.mpr ⟨gt1 _ (List.mem_of_getElem? (i := 137) rfl), rfl⟩
theorem wd_655 : (Cond.laysFinal "PrefixCodes$Code" "PrefixCodes$Code" "ordered" "[I" : Cond) ∈ gW := List.mem_filter.mpr ⟨gt1 _ (List.mem_of_getElem? (i := 139) rfl), rfl⟩
theorem wd_656 : (Cond.laysFinal "PrefixCodes$Code" "PrefixCodes$Code" "manyOfLength" "[I" : Cond) ∈ gW := List.mem_filter.mpr ⟨gt1 _ (List.mem_of_getElem? (i := 141) rfl), rfl⟩
theorem wd_657 : (Cond.laysFinal "PrefixCodes$Code" "PrefixCodes$Code" "firstWord" "[I" : Cond) ∈ gW := List.mem_filter.mpr ⟨gt1 _ (List.mem_of_getElem? (i := 143) rfl), rfl⟩
theorem wd_658 : (Cond.laysFinal "PrefixCodes$Code" "PrefixCodes$Code" "firstPlace" "[I" : Cond) ∈ gW := List.mem_filter.mpr ⟨gt1 _ (List.mem_of_getElem? (i := 145) rfl), rfl⟩
theorem wd_659 : (Cond.lays "PrefixCodes$Code" "PrefixCodes$Code" "filled" "I" : Cond) ∈ gW := List.mem_filter.mpr ⟨gt1 _ (List.mem_of_getElem? (i := 147) rfl), rfl⟩
theorem wd_660 : (Cond.lays "PrefixCodes$Code" "PrefixCodes$Code" "having" "I" : Cond) ∈ gW := List.mem_filter.mpr ⟨gt1 _ (List.mem_of_getElem? (i := 149) rfl), rfl⟩
theorem wd_661 : (Cond.lays "PrefixCodes$Code" "PrefixCodes$Code" "greatest" "I" : Cond) ∈ gW := List.mem_filter.mpr ⟨gt1 _ (List.mem_of_getElem? (i := 151) rfl), rfl⟩
theorem wd_662 : (Cond.lays "PrefixCodes$Code" "PrefixCodes$Code" "kind" "I" : Cond) ∈ gW := List.mem_filter.mpr ⟨gt1 _ (List.mem_of_getElem? (i := 153) rfl), rfl⟩
theorem wd_663 : (Cond.laysFinal "PrefixCodes$Commands" "PrefixCodes$Commands" "stream" "LPrefixCodes$Stream;" : Cond) ∈ gW := List.mem_filter.mpr ⟨gt1 _ (List.mem_of_getElem? (i := 163) rfl), rfl⟩
theorem wd_664 : (Cond.laysFinal "PrefixCodes$Commands" "PrefixCodes$Commands" "packages" "LPrefixCodes$Packages;" : Cond) ∈ gW := List.mem_filter.mpr ⟨gt1 _ (List.mem_of_getElem? (i := 165) rfl), rfl⟩
theorem wd_665 : (Cond.laysFinal "PrefixCodes$Commands" "PrefixCodes$Commands" "code" "LPrefixCodes$Code;" : Cond) ∈ gW := List.mem_filter.mpr ⟨gt1 _ (List.mem_of_getElem? (i := 167) rfl), rfl⟩
theorem wd_666 : (Cond.laysFinal "PrefixCodes$Commands" "PrefixCodes$Commands" "often" "[I" : Cond) ∈ gW := List.mem_filter.mpr ⟨gt1 _ (List.mem_of_getElem? (i := 169) rfl), rfl⟩
theorem wd_667 : (Cond.laysFinal "PrefixCodes$Commands" "PrefixCodes$Commands" "row" "[I" : Cond) ∈ gW := List.mem_filter.mpr ⟨gt1 _ (List.mem_of_getElem? (i := 171) rfl), rfl⟩
theorem wd_668 : (Cond.laysFinal "PrefixCodes$Commands" "PrefixCodes$Commands" "runs" "[I" : Cond) ∈ gW := List.mem_filter.mpr ⟨gt1 _ (List.mem_of_getElem? (i := 173) rfl), rfl⟩
theorem wd_669 : (Cond.lays "PrefixCodes$Commands" "PrefixCodes$Commands" "size" "I" : Cond) ∈ gW := List.mem_filter.mpr ⟨gt1 _ (List.mem_of_getElem? (i := 175) rfl), rfl⟩
theorem wd_670 : (Cond.laysFinal "PrefixCodes$Manners" "PrefixCodes$Manners" "stream" "LPrefixCodes$Stream;" : Cond) ∈ gW := List.mem_filter.mpr ⟨gt1 _ (List.mem_of_getElem? (i := 182) rfl), rfl⟩
theorem wd_671 : (Cond.laysFinal "PrefixCodes$Manners" "PrefixCodes$Manners" "commands" "LPrefixCodes$Commands;" : Cond) ∈ gW := List.mem_filter.mpr ⟨gt1 _ (List.mem_of_getElem? (i := 184) rfl), rfl⟩
theorem wd_672 : (Cond.laysFinal "PrefixCodes$Manners" "PrefixCodes$Manners" "found" "[I" : Cond) ∈ gW := List.mem_filter.mpr ⟨gt1 _ (List.mem_of_getElem? (i := 186) rfl), rfl⟩
theorem wd_673 : (Cond.laysFinal "PrefixCodes$Packages" "PrefixCodes$Packages" "ordered" "[I" : Cond) ∈ gW := List.mem_filter.mpr ⟨gt1 _ (List.mem_of_getElem? (i := 70) rfl), rfl⟩
theorem wd_674 : (Cond.laysFinal "PrefixCodes$Packages" "PrefixCodes$Packages" "weights" "[I" : Cond) ∈ gW := List.mem_filter.mpr ⟨gt1 _ (List.mem_of_getElem? (i := 72) rfl), rfl⟩
theorem wd_675 : (Cond.lays "PrefixCodes$Packages" "PrefixCodes$Packages" "many" "I" : Cond) ∈ gW := List.mem_filter.mpr ⟨gt1 _ (List.mem_of_getElem? (i := 74) rfl), rfl⟩
theorem wd_676 : (Cond.laysFinal "PrefixCodes$Packages" "PrefixCodes$Packages" "row" "[[J" : Cond) ∈ gW := List.mem_filter.mpr ⟨gt1 _ (List.mem_of_getElem? (i := 76) rfl), rfl⟩
theorem wd_677 : (Cond.laysFinal "PrefixCodes$Packages" "PrefixCodes$Packages" "sizes" "[I" : Cond) ∈ gW := List.mem_filter.mpr ⟨gt1 _ (List.mem_of_getElem? (i := 78) rfl), rfl⟩
theorem wd_678 : (Cond.laysFinal "PrefixCodes$Packages" "PrefixCodes$Packages" "isSymbol" "[[I" : Cond) ∈ gW := List.mem_filter.mpr ⟨gt1 _ (List.mem_of_getElem? (i := 80) rfl), rfl⟩
theorem wd_679 : (Cond.laysFinal "PrefixCodes$Reader" "PrefixCodes$Reader" "stream" "LPrefixCodes$Stream;" : Cond) ∈ gW := List.mem_filter.mpr ⟨gt2 _ (List.mem_of_getElem? (i := 78) rfl), rfl⟩
theorem wd_680 : (Cond.laysFinal "PrefixCodes$Reader" "PrefixCodes$Reader" "codes" "[LPrefixCodes$Code;" : Cond) ∈ gW := List.mem_filter.mpr ⟨gt2 _ (List.mem_of_getElem? (i := 80) rfl), rfl⟩
theorem wd_681 : (Cond.laysFinal "PrefixCodes$Reader" "PrefixCodes$Reader" "selectors" "LPrefixCodes$Selectors;" : Cond) ∈ gW := List.mem_filter.mpr ⟨gt2 _ (List.mem_of_getElem? (i := 82) rfl), rfl⟩
theorem wd_682 : (Cond.laysFinal "PrefixCodes$Reader" "PrefixCodes$Reader" "codeOfGroup" "[I" : Cond) ∈ gW := List.mem_filter.mpr ⟨gt2 _ (List.mem_of_getElem? (i := 84) rfl), rfl⟩
theorem wd_683 : (Cond.laysFinal "PrefixCodes$Reader" "PrefixCodes$Reader" "found" "[I" : Cond) ∈ gW := List.mem_filter.mpr ⟨gt2 _ (List.mem_of_getElem? (i := 86) rfl), rfl⟩
theorem wd_684 : (Cond.laysFinal "PrefixCodes$Selectors" "PrefixCodes$Selectors" "row" "[I" : Cond) ∈ gW := List.mem_filter.mpr ⟨gt2 _ (List.mem_of_getElem? (i := 26) rfl), rfl⟩
theorem wd_685 : (Cond.lays "PrefixCodes$Selectors" "PrefixCodes$Selectors" "many" "I" : Cond) ∈ gW := List.mem_filter.mpr ⟨gt2 _ (List.mem_of_getElem? (i := 28) rfl), rfl⟩
theorem wd_686 : (Cond.laysFinal "PrefixCodes$Stream" "PrefixCodes$Stream" "cells" "[I" : Cond) ∈ gW := List.mem_filter.mpr ⟨gt1 _ (List.mem_of_getElem? (i := 42) rfl), rfl⟩
theorem wd_687 : (Cond.lays "PrefixCodes$Stream" "PrefixCodes$Stream" "head" "I" : Cond) ∈ gW := List.mem_filter.mpr ⟨gt1 _ (List.mem_of_getElem? (i := 44) rfl), rfl⟩
theorem wd_688 : (Cond.lays "PrefixCodes$Stream" "PrefixCodes$Stream" "size" "I" : Cond) ∈ gW := List.mem_filter.mpr ⟨gt1 _ (List.mem_of_getElem? (i := 46) rfl), rfl⟩
theorem wd_689 : (Cond.lays "PrefixCodes$Stream" "PrefixCodes$Stream" "sizeAtBegin" "I" : Cond) ∈ gW := List.mem_filter.mpr ⟨gt1 _ (List.mem_of_getElem? (i := 48) rfl), rfl⟩
theorem wd_690 : (Cond.lays "PrefixCodes$Stream" "PrefixCodes$Stream" "overflowed" "Z" : Cond) ∈ gW := List.mem_filter.mpr ⟨gt1 _ (List.mem_of_getElem? (i := 50) rfl), rfl⟩
theorem wd_691 : (Cond.lays "PrefixCodes$Table" "PrefixCodes$Table" "root" "I" : Cond) ∈ gW := List.mem_filter.mpr ⟨gt1 _ (List.mem_of_getElem? (i := 206) rfl), rfl⟩
theorem wd_692 : (Cond.lays "PrefixCodes$Table" "PrefixCodes$Table" "entries" "I" : Cond) ∈ gW := List.mem_filter.mpr ⟨gt1 _ (List.mem_of_getElem? (i := 208) rfl), rfl⟩
theorem wd_693 : (Cond.lays "PrefixCodes$Table" "PrefixCodes$Table" "words" "I" : Cond) ∈ gW := List.mem_filter.mpr ⟨gt1 _ (List.mem_of_getElem? (i := 210) rfl), rfl⟩
theorem wd_694 : (Cond.laysFinal "PrefixCodes$Table" "PrefixCodes$Table" "symbols" "[I" : Cond) ∈ gW := List.mem_filter.mpr ⟨gt1 _ (List.mem_of_getElem? (i := 212) rfl), rfl⟩
theorem wd_695 : (Cond.laysFinal "PrefixCodes$Table" "PrefixCodes$Table" "lengths" "[I" : Cond) ∈ gW := List.mem_filter.mpr ⟨gt1 _ (List.mem_of_getElem? (i := 214) rfl), rfl⟩
theorem wd_696 : (Cond.laysFinal "PrefixCodes$Table" "PrefixCodes$Table" "numbers" "[I" : Cond) ∈ gW := List.mem_filter.mpr ⟨gt1 _ (List.mem_of_getElem? (i := 216) rfl), rfl⟩
theorem wd_697 : (Cond.lays "PrefixCodes$Table" "PrefixCodes$Table" "parts" "I" : Cond) ∈ gW := List.mem_filter.mpr ⟨gt1 _ (List.mem_of_getElem? (i := 218) rfl), rfl⟩
theorem wd_698 : (Cond.laysFinal "PrefixCodes$Table" "PrefixCodes$Table" "prefixes" "[I" : Cond) ∈ gW := List.mem_filter.mpr ⟨gt1 _ (List.mem_of_getElem? (i := 220) rfl), rfl⟩
theorem wd_699 : (Cond.laysFinal "PrefixCodes$Table" "PrefixCodes$Table" "partBits" "[I" : Cond) ∈ gW := List.mem_filter.mpr ⟨gt1 _ (List.mem_of_getElem? (i := 222) rfl), rfl⟩
theorem wd_700 : (Cond.laysFinal "PrefixCodes$Table" "PrefixCodes$Table" "starts" "[I" : Cond) ∈ gW := List.mem_filter.mpr ⟨gt1 _ (List.mem_of_getElem? (i := 224) rfl), rfl⟩
theorem wd_701 : (Cond.laysFinal "PrefixCodes$Text" "PrefixCodes$Text" "row" "[I" : Cond) ∈ gW := List.mem_filter.mpr ⟨gt2 _ (List.mem_of_getElem? (i := 2) rfl), rfl⟩
theorem wd_702 : (Cond.lays "PrefixCodes$Text" "PrefixCodes$Text" "size" "I" : Cond) ∈ gW := List.mem_filter.mpr ⟨gt2 _ (List.mem_of_getElem? (i := 4) rfl), rfl⟩
theorem wd_703 : (Cond.laysFinal "PrefixCodes$Text" "PrefixCodes$Text" "offered" "[I" : Cond) ∈ gW := List.mem_filter.mpr ⟨gt2 _ (List.mem_of_getElem? (i := 6) rfl), rfl⟩
theorem wd_704 : (Cond.laysFinal "PrefixCodes$Text" "PrefixCodes$Text" "often" "[I" : Cond) ∈ gW := List.mem_filter.mpr ⟨gt2 _ (List.mem_of_getElem? (i := 8) rfl), rfl⟩
theorem u_PC : ∀ w ∈ u_ws "PrefixCodes" F_PC 10, w ∈ gW := by
  intro w hw
  obtain ⟨k, hk, rfl⟩ := List.mem_map.mp hw
  have hk := List.mem_range.mp hk
  match k, hk with
  | 0, _ => exact wd_600
  | 1, _ => exact wd_601
  | 2, _ => exact wd_602
  | 3, _ => exact wd_603
  | 4, _ => exact wd_604
  | 5, _ => exact wd_605
  | 6, _ => exact wd_606
  | 7, _ => exact wd_607
  | 8, _ => exact wd_608
  | 9, _ => exact wd_609
  | k + 10, hk => exact absurd hk (by omega)
theorem u_Mo : ∀ w ∈ u_ws "PrefixCodesModel" F_Mo 33, w ∈ gW := by
  intro w hw
  obtain ⟨k, hk, rfl⟩ := List.mem_map.mp hw
  have hk := List.mem_range.mp hk
  match k, hk with
  | 0, _ => exact wd_610
  | 1, _ => exact wd_611
  | 2, _ => exact wd_612
  | 3, _ => exact wd_613
  | 4, _ => exact wd_614
  | 5, _ => exact wd_615
  | 6, _ => exact wd_616
  | 7, _ => exact wd_617
  | 8, _ => exact wd_618
  | 9, _ => exact wd_619
  | 10, _ => exact wd_620
  | 11, _ => exact wd_621
  | 12, _ => exact wd_622
  | 13, _ => exact wd_623
  | 14, _ => exact wd_624
  | 15, _ => exact wd_625
  | 16, _ => exact wd_626
  | 17, _ => exact wd_627
  | 18, _ => exact wd_628
  | 19, _ => exact wd_629
  | 20, _ => exact wd_630
  | 21, _ => exact wd_631
  | 22, _ => exact wd_632
  | 23, _ => exact wd_633
  | 24, _ => exact wd_634
  | 25, _ => exact wd_635
  | 26, _ => exact wd_636
  | 27, _ => exact wd_637
  | 28, _ => exact wd_638
  | 29, _ => exact wd_639
  | 30, _ => exact wd_640
  | 31, _ => exact wd_641
  | 32, _ => exact wd_642
  | k + 33, hk => exact absurd hk (by omega)
theorem u_Choice : ∀ w ∈ u_ws "PrefixCodes$Choice" F_Choice 9, w ∈ gW := by
  intro w hw
  obtain ⟨k, hk, rfl⟩ := List.mem_map.mp hw
  have hk := List.mem_range.mp hk
  match k, hk with
  | 0, _ => exact wd_643
  | 1, _ => exact wd_644
  | 2, _ => exact wd_645
  | 3, _ => exact wd_646
  | 4, _ => exact wd_647
  | 5, _ => exact wd_648
  | 6, _ => exact wd_649
  | 7, _ => exact wd_650
  | 8, _ => exact wd_651
  | k + 9, hk => exact absurd hk (by omega)
theorem u_Code : ∀ w ∈ u_ws "PrefixCodes$Code" F_Code 11, w ∈ gW := by
  intro w hw
  obtain ⟨k, hk, rfl⟩ := List.mem_map.mp hw
  have hk := List.mem_range.mp hk
  match k, hk with
  | 0, _ => exact wd_652
  | 1, _ => exact wd_653
  | 2, _ => exact wd_654
  | 3, _ => exact wd_655
  | 4, _ => exact wd_656
  | 5, _ => exact wd_657
  | 6, _ => exact wd_658
  | 7, _ => exact wd_659
  | 8, _ => exact wd_660
  | 9, _ => exact wd_661
  | 10, _ => exact wd_662
  | k + 11, hk => exact absurd hk (by omega)
theorem u_Commands : ∀ w ∈ u_ws "PrefixCodes$Commands" F_Commands 7, w ∈ gW := by
  intro w hw
  obtain ⟨k, hk, rfl⟩ := List.mem_map.mp hw
  have hk := List.mem_range.mp hk
  match k, hk with
  | 0, _ => exact wd_663
  | 1, _ => exact wd_664
  | 2, _ => exact wd_665
  | 3, _ => exact wd_666
  | 4, _ => exact wd_667
  | 5, _ => exact wd_668
  | 6, _ => exact wd_669
  | k + 7, hk => exact absurd hk (by omega)
theorem u_Manners : ∀ w ∈ u_ws "PrefixCodes$Manners" F_Manners 3, w ∈ gW := by
  intro w hw
  obtain ⟨k, hk, rfl⟩ := List.mem_map.mp hw
  have hk := List.mem_range.mp hk
  match k, hk with
  | 0, _ => exact wd_670
  | 1, _ => exact wd_671
  | 2, _ => exact wd_672
  | k + 3, hk => exact absurd hk (by omega)
theorem u_Packages : ∀ w ∈ u_ws "PrefixCodes$Packages" F_Packages 6, w ∈ gW := by
  intro w hw
  obtain ⟨k, hk, rfl⟩ := List.mem_map.mp hw
  have hk := List.mem_range.mp hk
  match k, hk with
  | 0, _ => exact wd_673
  | 1, _ => exact wd_674
  | 2, _ => exact wd_675
  | 3, _ => exact wd_676
  | 4, _ => exact wd_677
  | 5, _ => exact wd_678
  | k + 6, hk => exact absurd hk (by omega)
theorem u_Reader : ∀ w ∈ u_ws "PrefixCodes$Reader" F_Reader 5, w ∈ gW := by
  intro w hw
  obtain ⟨k, hk, rfl⟩ := List.mem_map.mp hw
  have hk := List.mem_range.mp hk
  match k, hk with
  | 0, _ => exact wd_679
  | 1, _ => exact wd_680
  | 2, _ => exact wd_681
  | 3, _ => exact wd_682
  | 4, _ => exact wd_683
  | k + 5, hk => exact absurd hk (by omega)
theorem u_Selectors : ∀ w ∈ u_ws "PrefixCodes$Selectors" F_Selectors 2, w ∈ gW := by
  intro w hw
  obtain ⟨k, hk, rfl⟩ := List.mem_map.mp hw
  have hk := List.mem_range.mp hk
  match k, hk with
  | 0, _ => exact wd_684
  | 1, _ => exact wd_685
  | k + 2, hk => exact absurd hk (by omega)
theorem u_Stream : ∀ w ∈ u_ws "PrefixCodes$Stream" F_Stream 5, w ∈ gW := by
  intro w hw
  obtain ⟨k, hk, rfl⟩ := List.mem_map.mp hw
  have hk := List.mem_range.mp hk
  match k, hk with
  | 0, _ => exact wd_686
  | 1, _ => exact wd_687
  | 2, _ => exact wd_688
  | 3, _ => exact wd_689
  | 4, _ => exact wd_690
  | k + 5, hk => exact absurd hk (by omega)
theorem u_Table : ∀ w ∈ u_ws "PrefixCodes$Table" F_Table 10, w ∈ gW := by
  intro w hw
  obtain ⟨k, hk, rfl⟩ := List.mem_map.mp hw
  have hk := List.mem_range.mp hk
  match k, hk with
  | 0, _ => exact wd_691
  | 1, _ => exact wd_692
  | 2, _ => exact wd_693
  | 3, _ => exact wd_694
  | 4, _ => exact wd_695
  | 5, _ => exact wd_696
  | 6, _ => exact wd_697
  | 7, _ => exact wd_698
  | 8, _ => exact wd_699
  | 9, _ => exact wd_700
  | k + 10, hk => exact absurd hk (by omega)
theorem u_Text : ∀ w ∈ u_ws "PrefixCodes$Text" F_Text 4, w ∈ gW := by
  intro w hw
  obtain ⟨k, hk, rfl⟩ := List.mem_map.mp hw
  have hk := List.mem_range.mp hk
  match k, hk with
  | 0, _ => exact wd_701
  | 1, _ => exact wd_702
  | 2, _ => exact wd_703
  | 3, _ => exact wd_704
  | k + 4, hk => exact absurd hk (by omega)
def y_Arrays_fill : MethodName := ⟨"java/util/Arrays", "fill", "([II)V"⟩
abbrev w_Arrays_fill : List Cond := Cond.code ⟨"java/util/Arrays", "fill", "([II)V"⟩ prog_21_method_103_code 4 none :: gW
abbrev rm_Arrays_fill : Room := { frames := 0, cells := 0, slots := 0, locals := 0 }
theorem yd_Arrays_fill : (⟨"java/util/Arrays", "fill", "([II)V"⟩ : MethodName).cls = "java/util/Arrays" ∧ (⟨"java/util/Arrays", "fill", "([II)V"⟩ : MethodName).cls ≠ "java/lang/invoke/MethodHandle" ∧ (⟨"java/util/Arrays", "fill", "([II)V"⟩ : MethodName).cls ≠ "java/lang/invoke/VarHandle" ∧ (parseMethodDescriptor (⟨"java/util/Arrays", "fill", "([II)V"⟩ : MethodName).desc).map (fun d => d.parameters.length) = some 2 := by decide +kernel
def y_PC_isOutside : MethodName := ⟨"PrefixCodes", "isOutside", "(III)Z"⟩
abbrev w_PC_isOutside : List Cond := Cond.code ⟨"PrefixCodes", "isOutside", "(III)Z"⟩ prog_1_method_28_code 3 (some .boolean) :: gW
abbrev rm_PC_isOutside : Room := { frames := 0, cells := 0, slots := 0, locals := 0 }
theorem yd_PC_isOutside : (⟨"PrefixCodes", "isOutside", "(III)Z"⟩ : MethodName).cls = "PrefixCodes" ∧ (⟨"PrefixCodes", "isOutside", "(III)Z"⟩ : MethodName).cls ≠ "java/lang/invoke/MethodHandle" ∧ (⟨"PrefixCodes", "isOutside", "(III)Z"⟩ : MethodName).cls ≠ "java/lang/invoke/VarHandle" ∧ (parseMethodDescriptor (⟨"PrefixCodes", "isOutside", "(III)Z"⟩ : MethodName).desc).map (fun d => d.parameters.length) = some 3 := by decide +kernel
def y_PC_keep : MethodName := ⟨"PrefixCodes", "keep", "(LPrefixCodes$Code;)I"⟩
abbrev w_PC_keep : List Cond := Cond.code ⟨"PrefixCodes", "keep", "(LPrefixCodes$Code;)I"⟩ prog_1_method_31_code 2 (some .int) :: gW
abbrev rm_PC_keep : Room := { frames := 0, cells := 0, slots := 0, locals := 0 }
theorem yd_PC_keep : (⟨"PrefixCodes", "keep", "(LPrefixCodes$Code;)I"⟩ : MethodName).cls = "PrefixCodes" ∧ (⟨"PrefixCodes", "keep", "(LPrefixCodes$Code;)I"⟩ : MethodName).cls ≠ "java/lang/invoke/MethodHandle" ∧ (⟨"PrefixCodes", "keep", "(LPrefixCodes$Code;)I"⟩ : MethodName).cls ≠ "java/lang/invoke/VarHandle" ∧ (parseMethodDescriptor (⟨"PrefixCodes", "keep", "(LPrefixCodes$Code;)I"⟩ : MethodName).desc).map (fun d => d.parameters.length) = some 1 := by decide +kernel
def y_PC_code : MethodName := ⟨"PrefixCodes", "code", "(I)I"⟩
abbrev w_PC_code : List Cond := Cond.code ⟨"PrefixCodes", "code", "(I)I"⟩ prog_1_method_2_code 2 (some .int) :: gW
abbrev rm_PC_code : Room := { frames := 2, cells := 0, slots := 0, locals := 33 }
theorem yd_PC_code : (⟨"PrefixCodes", "code", "(I)I"⟩ : MethodName).cls = "PrefixCodes" ∧ (⟨"PrefixCodes", "code", "(I)I"⟩ : MethodName).cls ≠ "java/lang/invoke/MethodHandle" ∧ (⟨"PrefixCodes", "code", "(I)I"⟩ : MethodName).cls ≠ "java/lang/invoke/VarHandle" ∧ (parseMethodDescriptor (⟨"PrefixCodes", "code", "(I)I"⟩ : MethodName).desc).map (fun d => d.parameters.length) = some 1 := by decide +kernel
def y_PC_codeAt : MethodName := ⟨"PrefixCodes", "codeAt", "(I)LPrefixCodes$Code;"⟩
abbrev w_PC_codeAt : List Cond := Cond.code ⟨"PrefixCodes", "codeAt", "(I)LPrefixCodes$Code;"⟩ prog_1_method_29_code 2 (some (.object "PrefixCodes$Code")) :: gW
abbrev rm_PC_codeAt : Room := { frames := 1, cells := 0, slots := 0, locals := 22 }
theorem yd_PC_codeAt : (⟨"PrefixCodes", "codeAt", "(I)LPrefixCodes$Code;"⟩ : MethodName).cls = "PrefixCodes" ∧ (⟨"PrefixCodes", "codeAt", "(I)LPrefixCodes$Code;"⟩ : MethodName).cls ≠ "java/lang/invoke/MethodHandle" ∧ (⟨"PrefixCodes", "codeAt", "(I)LPrefixCodes$Code;"⟩ : MethodName).cls ≠ "java/lang/invoke/VarHandle" ∧ (parseMethodDescriptor (⟨"PrefixCodes", "codeAt", "(I)LPrefixCodes$Code;"⟩ : MethodName).desc).map (fun d => d.parameters.length) = some 1 := by decide +kernel
def y_PC_codeWith : MethodName := ⟨"PrefixCodes", "codeWith", "(II)LPrefixCodes$Code;"⟩
abbrev w_PC_codeWith : List Cond := Cond.code ⟨"PrefixCodes", "codeWith", "(II)LPrefixCodes$Code;"⟩ prog_1_method_30_code 4 (some (.object "PrefixCodes$Code")) :: gW
abbrev rm_PC_codeWith : Room := { frames := 2, cells := 0, slots := 0, locals := 43 }
theorem yd_PC_codeWith : (⟨"PrefixCodes", "codeWith", "(II)LPrefixCodes$Code;"⟩ : MethodName).cls = "PrefixCodes" ∧ (⟨"PrefixCodes", "codeWith", "(II)LPrefixCodes$Code;"⟩ : MethodName).cls ≠ "java/lang/invoke/MethodHandle" ∧ (⟨"PrefixCodes", "codeWith", "(II)LPrefixCodes$Code;"⟩ : MethodName).cls ≠ "java/lang/invoke/VarHandle" ∧ (parseMethodDescriptor (⟨"PrefixCodes", "codeWith", "(II)LPrefixCodes$Code;"⟩ : MethodName).desc).map (fun d => d.parameters.length) = some 2 := by decide +kernel
def y_Code_countLengths : MethodName := ⟨"PrefixCodes$Code", "countLengths", "()V"⟩
abbrev w_Code_countLengths : List Cond := Cond.code ⟨"PrefixCodes$Code", "countLengths", "()V"⟩ prog_3_method_3_code 2 none :: gW
abbrev rm_Code_countLengths : Room := { frames := 1, cells := 0, slots := 0, locals := 23 }
theorem yd_Code_countLengths : (⟨"PrefixCodes$Code", "countLengths", "()V"⟩ : MethodName).cls = "PrefixCodes$Code" ∧ (⟨"PrefixCodes$Code", "countLengths", "()V"⟩ : MethodName).cls ≠ "java/lang/invoke/MethodHandle" ∧ (⟨"PrefixCodes$Code", "countLengths", "()V"⟩ : MethodName).cls ≠ "java/lang/invoke/VarHandle" ∧ (parseMethodDescriptor (⟨"PrefixCodes$Code", "countLengths", "()V"⟩ : MethodName).desc).map (fun d => d.parameters.length) = some 0 := by decide +kernel
def y_Code_placeLengths : MethodName := ⟨"PrefixCodes$Code", "placeLengths", "()V"⟩
abbrev w_Code_placeLengths : List Cond := Cond.code ⟨"PrefixCodes$Code", "placeLengths", "()V"⟩ prog_3_method_4_code 3 none :: gW
abbrev rm_Code_placeLengths : Room := { frames := 0, cells := 0, slots := 0, locals := 0 }
theorem yd_Code_placeLengths : (⟨"PrefixCodes$Code", "placeLengths", "()V"⟩ : MethodName).cls = "PrefixCodes$Code" ∧ (⟨"PrefixCodes$Code", "placeLengths", "()V"⟩ : MethodName).cls ≠ "java/lang/invoke/MethodHandle" ∧ (⟨"PrefixCodes$Code", "placeLengths", "()V"⟩ : MethodName).cls ≠ "java/lang/invoke/VarHandle" ∧ (parseMethodDescriptor (⟨"PrefixCodes$Code", "placeLengths", "()V"⟩ : MethodName).desc).map (fun d => d.parameters.length) = some 0 := by decide +kernel
def y_Code_nameSymbols : MethodName := ⟨"PrefixCodes$Code", "nameSymbols", "()V"⟩
abbrev w_Code_nameSymbols : List Cond := Cond.code ⟨"PrefixCodes$Code", "nameSymbols", "()V"⟩ prog_3_method_5_code 3 none :: gW
abbrev rm_Code_nameSymbols : Room := { frames := 1, cells := 0, slots := 0, locals := 23 }
theorem yd_Code_nameSymbols : (⟨"PrefixCodes$Code", "nameSymbols", "()V"⟩ : MethodName).cls = "PrefixCodes$Code" ∧ (⟨"PrefixCodes$Code", "nameSymbols", "()V"⟩ : MethodName).cls ≠ "java/lang/invoke/MethodHandle" ∧ (⟨"PrefixCodes$Code", "nameSymbols", "()V"⟩ : MethodName).cls ≠ "java/lang/invoke/VarHandle" ∧ (parseMethodDescriptor (⟨"PrefixCodes$Code", "nameSymbols", "()V"⟩ : MethodName).desc).map (fun d => d.parameters.length) = some 0 := by decide +kernel
def y_Code_judged : MethodName := ⟨"PrefixCodes$Code", "judged", "()I"⟩
abbrev w_Code_judged : List Cond := Cond.code ⟨"PrefixCodes$Code", "judged", "()I"⟩ prog_3_method_6_code 1 (some .int) :: gW
abbrev rm_Code_judged : Room := { frames := 0, cells := 0, slots := 0, locals := 0 }
theorem yd_Code_judged : (⟨"PrefixCodes$Code", "judged", "()I"⟩ : MethodName).cls = "PrefixCodes$Code" ∧ (⟨"PrefixCodes$Code", "judged", "()I"⟩ : MethodName).cls ≠ "java/lang/invoke/MethodHandle" ∧ (⟨"PrefixCodes$Code", "judged", "()I"⟩ : MethodName).cls ≠ "java/lang/invoke/VarHandle" ∧ (parseMethodDescriptor (⟨"PrefixCodes$Code", "judged", "()I"⟩ : MethodName).desc).map (fun d => d.parameters.length) = some 0 := by decide +kernel
def y_Code_renumber : MethodName := ⟨"PrefixCodes$Code", "renumber", "()V"⟩
abbrev w_Code_renumber : List Cond := Cond.code ⟨"PrefixCodes$Code", "renumber", "()V"⟩ prog_3_method_2_code 1 none :: gW
abbrev rm_Code_renumber : Room := { frames := 2, cells := 0, slots := 0, locals := 45 }
theorem yd_Code_renumber : (⟨"PrefixCodes$Code", "renumber", "()V"⟩ : MethodName).cls = "PrefixCodes$Code" ∧ (⟨"PrefixCodes$Code", "renumber", "()V"⟩ : MethodName).cls ≠ "java/lang/invoke/MethodHandle" ∧ (⟨"PrefixCodes$Code", "renumber", "()V"⟩ : MethodName).cls ≠ "java/lang/invoke/VarHandle" ∧ (parseMethodDescriptor (⟨"PrefixCodes$Code", "renumber", "()V"⟩ : MethodName).desc).map (fun d => d.parameters.length) = some 0 := by decide +kernel
def y_PC_length : MethodName := ⟨"PrefixCodes", "length", "(III)I"⟩
abbrev w_PC_length : List Cond := Cond.code ⟨"PrefixCodes", "length", "(III)I"⟩ prog_1_method_3_code 6 (some .int) :: gW
abbrev rm_PC_length : Room := { frames := 3, cells := 0, slots := 0, locals := 66 }
theorem yd_PC_length : (⟨"PrefixCodes", "length", "(III)I"⟩ : MethodName).cls = "PrefixCodes" ∧ (⟨"PrefixCodes", "length", "(III)I"⟩ : MethodName).cls ≠ "java/lang/invoke/MethodHandle" ∧ (⟨"PrefixCodes", "length", "(III)I"⟩ : MethodName).cls ≠ "java/lang/invoke/VarHandle" ∧ (parseMethodDescriptor (⟨"PrefixCodes", "length", "(III)I"⟩ : MethodName).desc).map (fun d => d.parameters.length) = some 3 := by decide +kernel
def y_PC_about : MethodName := ⟨"PrefixCodes", "about", "(II)I"⟩
abbrev w_PC_about : List Cond := Cond.code ⟨"PrefixCodes", "about", "(II)I"⟩ prog_1_method_4_code 4 (some .int) :: gW
abbrev rm_PC_about : Room := { frames := 2, cells := 0, slots := 0, locals := 43 }
theorem yd_PC_about : (⟨"PrefixCodes", "about", "(II)I"⟩ : MethodName).cls = "PrefixCodes" ∧ (⟨"PrefixCodes", "about", "(II)I"⟩ : MethodName).cls ≠ "java/lang/invoke/MethodHandle" ∧ (⟨"PrefixCodes", "about", "(II)I"⟩ : MethodName).cls ≠ "java/lang/invoke/VarHandle" ∧ (parseMethodDescriptor (⟨"PrefixCodes", "about", "(II)I"⟩ : MethodName).desc).map (fun d => d.parameters.length) = some 2 := by decide +kernel
def y_Code_hasWord : MethodName := ⟨"PrefixCodes$Code", "hasWord", "(I)Z"⟩
abbrev w_Code_hasWord : List Cond := Cond.code ⟨"PrefixCodes$Code", "hasWord", "(I)Z"⟩ prog_3_method_7_code 2 (some .boolean) :: gW
abbrev rm_Code_hasWord : Room := { frames := 0, cells := 0, slots := 0, locals := 0 }
theorem yd_Code_hasWord : (⟨"PrefixCodes$Code", "hasWord", "(I)Z"⟩ : MethodName).cls = "PrefixCodes$Code" ∧ (⟨"PrefixCodes$Code", "hasWord", "(I)Z"⟩ : MethodName).cls ≠ "java/lang/invoke/MethodHandle" ∧ (⟨"PrefixCodes$Code", "hasWord", "(I)Z"⟩ : MethodName).cls ≠ "java/lang/invoke/VarHandle" ∧ (parseMethodDescriptor (⟨"PrefixCodes$Code", "hasWord", "(I)Z"⟩ : MethodName).desc).map (fun d => d.parameters.length) = some 1 := by decide +kernel
def y_Code_turnedWord : MethodName := ⟨"PrefixCodes$Code", "turnedWord", "(I)I"⟩
abbrev w_Code_turnedWord : List Cond := Cond.code ⟨"PrefixCodes$Code", "turnedWord", "(I)I"⟩ prog_3_method_9_code 4 (some .int) :: gW
abbrev rm_Code_turnedWord : Room := { frames := 0, cells := 0, slots := 0, locals := 0 }
theorem yd_Code_turnedWord : (⟨"PrefixCodes$Code", "turnedWord", "(I)I"⟩ : MethodName).cls = "PrefixCodes$Code" ∧ (⟨"PrefixCodes$Code", "turnedWord", "(I)I"⟩ : MethodName).cls ≠ "java/lang/invoke/MethodHandle" ∧ (⟨"PrefixCodes$Code", "turnedWord", "(I)I"⟩ : MethodName).cls ≠ "java/lang/invoke/VarHandle" ∧ (parseMethodDescriptor (⟨"PrefixCodes$Code", "turnedWord", "(I)I"⟩ : MethodName).desc).map (fun d => d.parameters.length) = some 1 := by decide +kernel
def y_PC_word : MethodName := ⟨"PrefixCodes", "word", "(IIZ)I"⟩
abbrev w_PC_word : List Cond := Cond.code ⟨"PrefixCodes", "word", "(IIZ)I"⟩ prog_1_method_5_code 5 (some .int) :: gW
abbrev rm_PC_word : Room := { frames := 3, cells := 0, slots := 0, locals := 66 }
theorem yd_PC_word : (⟨"PrefixCodes", "word", "(IIZ)I"⟩ : MethodName).cls = "PrefixCodes" ∧ (⟨"PrefixCodes", "word", "(IIZ)I"⟩ : MethodName).cls ≠ "java/lang/invoke/MethodHandle" ∧ (⟨"PrefixCodes", "word", "(IIZ)I"⟩ : MethodName).cls ≠ "java/lang/invoke/VarHandle" ∧ (parseMethodDescriptor (⟨"PrefixCodes", "word", "(IIZ)I"⟩ : MethodName).desc).map (fun d => d.parameters.length) = some 3 := by decide +kernel
def y_PC_count : MethodName := ⟨"PrefixCodes", "count", "(II)I"⟩
abbrev w_PC_count : List Cond := Cond.code ⟨"PrefixCodes", "count", "(II)I"⟩ prog_1_method_6_code 4 (some .int) :: gW
abbrev rm_PC_count : Room := { frames := 1, cells := 0, slots := 0, locals := 22 }
theorem yd_PC_count : (⟨"PrefixCodes", "count", "(II)I"⟩ : MethodName).cls = "PrefixCodes" ∧ (⟨"PrefixCodes", "count", "(II)I"⟩ : MethodName).cls ≠ "java/lang/invoke/MethodHandle" ∧ (⟨"PrefixCodes", "count", "(II)I"⟩ : MethodName).cls ≠ "java/lang/invoke/VarHandle" ∧ (parseMethodDescriptor (⟨"PrefixCodes", "count", "(II)I"⟩ : MethodName).desc).map (fun d => d.parameters.length) = some 2 := by decide +kernel
def y_Text_tally : MethodName := ⟨"PrefixCodes$Text", "tally", "([I)V"⟩
abbrev w_Text_tally : List Cond := Cond.code ⟨"PrefixCodes$Text", "tally", "([I)V"⟩ prog_11_method_4_code 3 none :: gW
abbrev rm_Text_tally : Room := { frames := 1, cells := 0, slots := 0, locals := 23 }
theorem yd_Text_tally : (⟨"PrefixCodes$Text", "tally", "([I)V"⟩ : MethodName).cls = "PrefixCodes$Text" ∧ (⟨"PrefixCodes$Text", "tally", "([I)V"⟩ : MethodName).cls ≠ "java/lang/invoke/MethodHandle" ∧ (⟨"PrefixCodes$Text", "tally", "([I)V"⟩ : MethodName).cls ≠ "java/lang/invoke/VarHandle" ∧ (parseMethodDescriptor (⟨"PrefixCodes$Text", "tally", "([I)V"⟩ : MethodName).desc).map (fun d => d.parameters.length) = some 1 := by decide +kernel
def y_PC_countedBelow : MethodName := ⟨"PrefixCodes", "countedBelow", "(I)I"⟩
abbrev w_PC_countedBelow : List Cond := Cond.code ⟨"PrefixCodes", "countedBelow", "(I)I"⟩ prog_1_method_32_code 4 (some .int) :: gW
abbrev rm_PC_countedBelow : Room := { frames := 0, cells := 0, slots := 0, locals := 0 }
theorem yd_PC_countedBelow : (⟨"PrefixCodes", "countedBelow", "(I)I"⟩ : MethodName).cls = "PrefixCodes" ∧ (⟨"PrefixCodes", "countedBelow", "(I)I"⟩ : MethodName).cls ≠ "java/lang/invoke/MethodHandle" ∧ (⟨"PrefixCodes", "countedBelow", "(I)I"⟩ : MethodName).cls ≠ "java/lang/invoke/VarHandle" ∧ (parseMethodDescriptor (⟨"PrefixCodes", "countedBelow", "(I)I"⟩ : MethodName).desc).map (fun d => d.parameters.length) = some 1 := by decide +kernel
def y_PC_countText : MethodName := ⟨"PrefixCodes", "countText", "()I"⟩
abbrev w_PC_countText : List Cond := Cond.code ⟨"PrefixCodes", "countText", "()I"⟩ prog_1_method_7_code 1 (some .int) :: gW
abbrev rm_PC_countText : Room := { frames := 2, cells := 0, slots := 0, locals := 45 }
theorem yd_PC_countText : (⟨"PrefixCodes", "countText", "()I"⟩ : MethodName).cls = "PrefixCodes" ∧ (⟨"PrefixCodes", "countText", "()I"⟩ : MethodName).cls ≠ "java/lang/invoke/MethodHandle" ∧ (⟨"PrefixCodes", "countText", "()I"⟩ : MethodName).cls ≠ "java/lang/invoke/VarHandle" ∧ (parseMethodDescriptor (⟨"PrefixCodes", "countText", "()I"⟩ : MethodName).desc).map (fun d => d.parameters.length) = some 0 := by decide +kernel
def y_Packages_insert : MethodName := ⟨"PrefixCodes$Packages", "insert", "(II)V"⟩
abbrev w_Packages_insert : List Cond := Cond.code ⟨"PrefixCodes$Packages", "insert", "(II)V"⟩ prog_6_method_4_code 4 none :: gW
abbrev rm_Packages_insert : Room := { frames := 0, cells := 0, slots := 0, locals := 0 }
theorem yd_Packages_insert : (⟨"PrefixCodes$Packages", "insert", "(II)V"⟩ : MethodName).cls = "PrefixCodes$Packages" ∧ (⟨"PrefixCodes$Packages", "insert", "(II)V"⟩ : MethodName).cls ≠ "java/lang/invoke/MethodHandle" ∧ (⟨"PrefixCodes$Packages", "insert", "(II)V"⟩ : MethodName).cls ≠ "java/lang/invoke/VarHandle" ∧ (parseMethodDescriptor (⟨"PrefixCodes$Packages", "insert", "(II)V"⟩ : MethodName).desc).map (fun d => d.parameters.length) = some 2 := by decide +kernel
def y_Packages_order : MethodName := ⟨"PrefixCodes$Packages", "order", "([II)V"⟩
abbrev w_Packages_order : List Cond := Cond.code ⟨"PrefixCodes$Packages", "order", "([II)V"⟩ prog_6_method_3_code 4 none :: gW
abbrev rm_Packages_order : Room := { frames := 1, cells := 0, slots := 0, locals := 23 }
theorem yd_Packages_order : (⟨"PrefixCodes$Packages", "order", "([II)V"⟩ : MethodName).cls = "PrefixCodes$Packages" ∧ (⟨"PrefixCodes$Packages", "order", "([II)V"⟩ : MethodName).cls ≠ "java/lang/invoke/MethodHandle" ∧ (⟨"PrefixCodes$Packages", "order", "([II)V"⟩ : MethodName).cls ≠ "java/lang/invoke/VarHandle" ∧ (parseMethodDescriptor (⟨"PrefixCodes$Packages", "order", "([II)V"⟩ : MethodName).desc).map (fun d => d.parameters.length) = some 2 := by decide +kernel
def y_Packages_makeFirstRow : MethodName := ⟨"PrefixCodes$Packages", "makeFirstRow", "()V"⟩
abbrev w_Packages_makeFirstRow : List Cond := Cond.code ⟨"PrefixCodes$Packages", "makeFirstRow", "()V"⟩ prog_6_method_5_code 2 none :: gW
abbrev rm_Packages_makeFirstRow : Room := { frames := 0, cells := 0, slots := 0, locals := 0 }
theorem yd_Packages_makeFirstRow : (⟨"PrefixCodes$Packages", "makeFirstRow", "()V"⟩ : MethodName).cls = "PrefixCodes$Packages" ∧ (⟨"PrefixCodes$Packages", "makeFirstRow", "()V"⟩ : MethodName).cls ≠ "java/lang/invoke/MethodHandle" ∧ (⟨"PrefixCodes$Packages", "makeFirstRow", "()V"⟩ : MethodName).cls ≠ "java/lang/invoke/VarHandle" ∧ (parseMethodDescriptor (⟨"PrefixCodes$Packages", "makeFirstRow", "()V"⟩ : MethodName).desc).map (fun d => d.parameters.length) = some 0 := by decide +kernel
def y_Packages_makeRow : MethodName := ⟨"PrefixCodes$Packages", "makeRow", "(I)V"⟩
abbrev w_Packages_makeRow : List Cond := Cond.code ⟨"PrefixCodes$Packages", "makeRow", "(I)V"⟩ prog_6_method_6_code 10 none :: gW
abbrev rm_Packages_makeRow : Room := { frames := 0, cells := 0, slots := 0, locals := 0 }
theorem yd_Packages_makeRow : (⟨"PrefixCodes$Packages", "makeRow", "(I)V"⟩ : MethodName).cls = "PrefixCodes$Packages" ∧ (⟨"PrefixCodes$Packages", "makeRow", "(I)V"⟩ : MethodName).cls ≠ "java/lang/invoke/MethodHandle" ∧ (⟨"PrefixCodes$Packages", "makeRow", "(I)V"⟩ : MethodName).cls ≠ "java/lang/invoke/VarHandle" ∧ (parseMethodDescriptor (⟨"PrefixCodes$Packages", "makeRow", "(I)V"⟩ : MethodName).desc).map (fun d => d.parameters.length) = some 1 := by decide +kernel
def y_Packages_goBack : MethodName := ⟨"PrefixCodes$Packages", "goBack", "(I[I)V"⟩
abbrev w_Packages_goBack : List Cond := Cond.code ⟨"PrefixCodes$Packages", "goBack", "(I[I)V"⟩ prog_6_method_7_code 7 none :: gW
abbrev rm_Packages_goBack : Room := { frames := 0, cells := 0, slots := 0, locals := 0 }
theorem yd_Packages_goBack : (⟨"PrefixCodes$Packages", "goBack", "(I[I)V"⟩ : MethodName).cls = "PrefixCodes$Packages" ∧ (⟨"PrefixCodes$Packages", "goBack", "(I[I)V"⟩ : MethodName).cls ≠ "java/lang/invoke/MethodHandle" ∧ (⟨"PrefixCodes$Packages", "goBack", "(I[I)V"⟩ : MethodName).cls ≠ "java/lang/invoke/VarHandle" ∧ (parseMethodDescriptor (⟨"PrefixCodes$Packages", "goBack", "(I[I)V"⟩ : MethodName).desc).map (fun d => d.parameters.length) = some 2 := by decide +kernel
def y_Packages_fit : MethodName := ⟨"PrefixCodes$Packages", "fit", "([IILPrefixCodes$Code;)V"⟩
abbrev w_Packages_fit : List Cond := Cond.code ⟨"PrefixCodes$Packages", "fit", "([IILPrefixCodes$Code;)V"⟩ prog_6_method_2_code 5 none :: gW
abbrev rm_Packages_fit : Room := { frames := 3, cells := 0, slots := 0, locals := 65 }
theorem yd_Packages_fit : (⟨"PrefixCodes$Packages", "fit", "([IILPrefixCodes$Code;)V"⟩ : MethodName).cls = "PrefixCodes$Packages" ∧ (⟨"PrefixCodes$Packages", "fit", "([IILPrefixCodes$Code;)V"⟩ : MethodName).cls ≠ "java/lang/invoke/MethodHandle" ∧ (⟨"PrefixCodes$Packages", "fit", "([IILPrefixCodes$Code;)V"⟩ : MethodName).cls ≠ "java/lang/invoke/VarHandle" ∧ (parseMethodDescriptor (⟨"PrefixCodes$Packages", "fit", "([IILPrefixCodes$Code;)V"⟩ : MethodName).desc).map (fun d => d.parameters.length) = some 3 := by decide +kernel
def y_PC_least : MethodName := ⟨"PrefixCodes", "least", "(II)I"⟩
abbrev w_PC_least : List Cond := Cond.code ⟨"PrefixCodes", "least", "(II)I"⟩ prog_1_method_8_code 4 (some .int) :: gW
abbrev rm_PC_least : Room := { frames := 4, cells := 0, slots := 0, locals := 89 }
theorem yd_PC_least : (⟨"PrefixCodes", "least", "(II)I"⟩ : MethodName).cls = "PrefixCodes" ∧ (⟨"PrefixCodes", "least", "(II)I"⟩ : MethodName).cls ≠ "java/lang/invoke/MethodHandle" ∧ (⟨"PrefixCodes", "least", "(II)I"⟩ : MethodName).cls ≠ "java/lang/invoke/VarHandle" ∧ (parseMethodDescriptor (⟨"PrefixCodes", "least", "(II)I"⟩ : MethodName).desc).map (fun d => d.parameters.length) = some 2 := by decide +kernel
def y_PC_cost : MethodName := ⟨"PrefixCodes", "cost", "(I)J"⟩
abbrev w_PC_cost : List Cond := Cond.code ⟨"PrefixCodes", "cost", "(I)J"⟩ prog_1_method_9_code 6 (some .long) :: gW
abbrev rm_PC_cost : Room := { frames := 2, cells := 0, slots := 0, locals := 43 }
theorem yd_PC_cost : (⟨"PrefixCodes", "cost", "(I)J"⟩ : MethodName).cls = "PrefixCodes" ∧ (⟨"PrefixCodes", "cost", "(I)J"⟩ : MethodName).cls ≠ "java/lang/invoke/MethodHandle" ∧ (⟨"PrefixCodes", "cost", "(I)J"⟩ : MethodName).cls ≠ "java/lang/invoke/VarHandle" ∧ (parseMethodDescriptor (⟨"PrefixCodes", "cost", "(I)J"⟩ : MethodName).desc).map (fun d => d.parameters.length) = some 1 := by decide +kernel
def y_PC_bits : MethodName := ⟨"PrefixCodes", "bits", "()I"⟩
abbrev w_PC_bits : List Cond := Cond.code ⟨"PrefixCodes", "bits", "()I"⟩ prog_1_method_10_code 1 (some .int) :: gW
abbrev rm_PC_bits : Room := { frames := 0, cells := 0, slots := 0, locals := 0 }
theorem yd_PC_bits : (⟨"PrefixCodes", "bits", "()I"⟩ : MethodName).cls = "PrefixCodes" ∧ (⟨"PrefixCodes", "bits", "()I"⟩ : MethodName).cls ≠ "java/lang/invoke/MethodHandle" ∧ (⟨"PrefixCodes", "bits", "()I"⟩ : MethodName).cls ≠ "java/lang/invoke/VarHandle" ∧ (parseMethodDescriptor (⟨"PrefixCodes", "bits", "()I"⟩ : MethodName).desc).map (fun d => d.parameters.length) = some 0 := by decide +kernel
def y_Stream_placeOf : MethodName := ⟨"PrefixCodes$Stream", "placeOf", "(I)I"⟩
abbrev w_Stream_placeOf : List Cond := Cond.code ⟨"PrefixCodes$Stream", "placeOf", "(I)I"⟩ prog_9_method_2_code 2 (some .int) :: gW
abbrev rm_Stream_placeOf : Room := { frames := 0, cells := 0, slots := 0, locals := 0 }
theorem yd_Stream_placeOf : (⟨"PrefixCodes$Stream", "placeOf", "(I)I"⟩ : MethodName).cls = "PrefixCodes$Stream" ∧ (⟨"PrefixCodes$Stream", "placeOf", "(I)I"⟩ : MethodName).cls ≠ "java/lang/invoke/MethodHandle" ∧ (⟨"PrefixCodes$Stream", "placeOf", "(I)I"⟩ : MethodName).cls ≠ "java/lang/invoke/VarHandle" ∧ (parseMethodDescriptor (⟨"PrefixCodes$Stream", "placeOf", "(I)I"⟩ : MethodName).desc).map (fun d => d.parameters.length) = some 1 := by decide +kernel
def y_Stream_bitOf : MethodName := ⟨"PrefixCodes$Stream", "bitOf", "(I)I"⟩
abbrev w_Stream_bitOf : List Cond := Cond.code ⟨"PrefixCodes$Stream", "bitOf", "(I)I"⟩ prog_9_method_3_code 2 (some .int) :: gW
abbrev rm_Stream_bitOf : Room := { frames := 0, cells := 0, slots := 0, locals := 0 }
theorem yd_Stream_bitOf : (⟨"PrefixCodes$Stream", "bitOf", "(I)I"⟩ : MethodName).cls = "PrefixCodes$Stream" ∧ (⟨"PrefixCodes$Stream", "bitOf", "(I)I"⟩ : MethodName).cls ≠ "java/lang/invoke/MethodHandle" ∧ (⟨"PrefixCodes$Stream", "bitOf", "(I)I"⟩ : MethodName).cls ≠ "java/lang/invoke/VarHandle" ∧ (parseMethodDescriptor (⟨"PrefixCodes$Stream", "bitOf", "(I)I"⟩ : MethodName).desc).map (fun d => d.parameters.length) = some 1 := by decide +kernel
def y_Stream_at : MethodName := ⟨"PrefixCodes$Stream", "at", "(I)I"⟩
abbrev w_Stream_at : List Cond := Cond.code ⟨"PrefixCodes$Stream", "at", "(I)I"⟩ prog_9_method_4_code 2 (some .int) :: gW
abbrev rm_Stream_at : Room := { frames := 1, cells := 0, slots := 0, locals := 21 }
theorem yd_Stream_at : (⟨"PrefixCodes$Stream", "at", "(I)I"⟩ : MethodName).cls = "PrefixCodes$Stream" ∧ (⟨"PrefixCodes$Stream", "at", "(I)I"⟩ : MethodName).cls ≠ "java/lang/invoke/MethodHandle" ∧ (⟨"PrefixCodes$Stream", "at", "(I)I"⟩ : MethodName).cls ≠ "java/lang/invoke/VarHandle" ∧ (parseMethodDescriptor (⟨"PrefixCodes$Stream", "at", "(I)I"⟩ : MethodName).desc).map (fun d => d.parameters.length) = some 1 := by decide +kernel
def y_PC_bit : MethodName := ⟨"PrefixCodes", "bit", "(I)I"⟩
abbrev w_PC_bit : List Cond := Cond.code ⟨"PrefixCodes", "bit", "(I)I"⟩ prog_1_method_11_code 2 (some .int) :: gW
abbrev rm_PC_bit : Room := { frames := 6, cells := 0, slots := 0, locals := 150 }
theorem yd_PC_bit : (⟨"PrefixCodes", "bit", "(I)I"⟩ : MethodName).cls = "PrefixCodes" ∧ (⟨"PrefixCodes", "bit", "(I)I"⟩ : MethodName).cls ≠ "java/lang/invoke/MethodHandle" ∧ (⟨"PrefixCodes", "bit", "(I)I"⟩ : MethodName).cls ≠ "java/lang/invoke/VarHandle" ∧ (parseMethodDescriptor (⟨"PrefixCodes", "bit", "(I)I"⟩ : MethodName).desc).map (fun d => d.parameters.length) = some 1 := by decide +kernel
def y_PC_clear : MethodName := ⟨"PrefixCodes", "clear", "()I"⟩
abbrev w_PC_clear : List Cond := Cond.code ⟨"PrefixCodes", "clear", "()I"⟩ prog_1_method_12_code 2 (some .int) :: gW
abbrev rm_PC_clear : Room := { frames := 0, cells := 0, slots := 0, locals := 0 }
theorem yd_PC_clear : (⟨"PrefixCodes", "clear", "()I"⟩ : MethodName).cls = "PrefixCodes" ∧ (⟨"PrefixCodes", "clear", "()I"⟩ : MethodName).cls ≠ "java/lang/invoke/MethodHandle" ∧ (⟨"PrefixCodes", "clear", "()I"⟩ : MethodName).cls ≠ "java/lang/invoke/VarHandle" ∧ (parseMethodDescriptor (⟨"PrefixCodes", "clear", "()I"⟩ : MethodName).desc).map (fun d => d.parameters.length) = some 0 := by decide +kernel
def y_Stream_append : MethodName := ⟨"PrefixCodes$Stream", "append", "(I)V"⟩
abbrev w_Stream_append : List Cond := Cond.code ⟨"PrefixCodes$Stream", "append", "(I)V"⟩ prog_9_method_7_code 5 none :: gW
abbrev rm_Stream_append : Room := { frames := 1, cells := 0, slots := 0, locals := 21 }
theorem yd_Stream_append : (⟨"PrefixCodes$Stream", "append", "(I)V"⟩ : MethodName).cls = "PrefixCodes$Stream" ∧ (⟨"PrefixCodes$Stream", "append", "(I)V"⟩ : MethodName).cls ≠ "java/lang/invoke/MethodHandle" ∧ (⟨"PrefixCodes$Stream", "append", "(I)V"⟩ : MethodName).cls ≠ "java/lang/invoke/VarHandle" ∧ (parseMethodDescriptor (⟨"PrefixCodes$Stream", "append", "(I)V"⟩ : MethodName).desc).map (fun d => d.parameters.length) = some 1 := by decide +kernel
def y_Stream_appendNumber : MethodName := ⟨"PrefixCodes$Stream", "appendNumber", "(II)V"⟩
abbrev w_Stream_appendNumber : List Cond := Cond.code ⟨"PrefixCodes$Stream", "appendNumber", "(II)V"⟩ prog_9_method_8_code 4 none :: gW
abbrev rm_Stream_appendNumber : Room := { frames := 2, cells := 0, slots := 0, locals := 45 }
theorem yd_Stream_appendNumber : (⟨"PrefixCodes$Stream", "appendNumber", "(II)V"⟩ : MethodName).cls = "PrefixCodes$Stream" ∧ (⟨"PrefixCodes$Stream", "appendNumber", "(II)V"⟩ : MethodName).cls ≠ "java/lang/invoke/MethodHandle" ∧ (⟨"PrefixCodes$Stream", "appendNumber", "(II)V"⟩ : MethodName).cls ≠ "java/lang/invoke/VarHandle" ∧ (parseMethodDescriptor (⟨"PrefixCodes$Stream", "appendNumber", "(II)V"⟩ : MethodName).desc).map (fun d => d.parameters.length) = some 2 := by decide +kernel
def y_PC_putBits : MethodName := ⟨"PrefixCodes", "putBits", "(II)I"⟩
abbrev w_PC_putBits : List Cond := Cond.code ⟨"PrefixCodes", "putBits", "(II)I"⟩ prog_1_method_33_code 3 (some .int) :: gW
abbrev rm_PC_putBits : Room := { frames := 3, cells := 0, slots := 0, locals := 68 }
theorem yd_PC_putBits : (⟨"PrefixCodes", "putBits", "(II)I"⟩ : MethodName).cls = "PrefixCodes" ∧ (⟨"PrefixCodes", "putBits", "(II)I"⟩ : MethodName).cls ≠ "java/lang/invoke/MethodHandle" ∧ (⟨"PrefixCodes", "putBits", "(II)I"⟩ : MethodName).cls ≠ "java/lang/invoke/VarHandle" ∧ (parseMethodDescriptor (⟨"PrefixCodes", "putBits", "(II)I"⟩ : MethodName).desc).map (fun d => d.parameters.length) = some 2 := by decide +kernel
def y_PC_putNumber : MethodName := ⟨"PrefixCodes", "putNumber", "(II)I"⟩
abbrev w_PC_putNumber : List Cond := Cond.code ⟨"PrefixCodes", "putNumber", "(II)I"⟩ prog_1_method_13_code 3 (some .int) :: gW
abbrev rm_PC_putNumber : Room := { frames := 4, cells := 0, slots := 0, locals := 90 }
theorem yd_PC_putNumber : (⟨"PrefixCodes", "putNumber", "(II)I"⟩ : MethodName).cls = "PrefixCodes" ∧ (⟨"PrefixCodes", "putNumber", "(II)I"⟩ : MethodName).cls ≠ "java/lang/invoke/MethodHandle" ∧ (⟨"PrefixCodes", "putNumber", "(II)I"⟩ : MethodName).cls ≠ "java/lang/invoke/VarHandle" ∧ (parseMethodDescriptor (⟨"PrefixCodes", "putNumber", "(II)I"⟩ : MethodName).desc).map (fun d => d.parameters.length) = some 2 := by decide +kernel
def y_Stream_removeFirst : MethodName := ⟨"PrefixCodes$Stream", "removeFirst", "()I"⟩
abbrev w_Stream_removeFirst : List Cond := Cond.code ⟨"PrefixCodes$Stream", "removeFirst", "()I"⟩ prog_9_method_9_code 2 (some .int) :: gW
abbrev rm_Stream_removeFirst : Room := { frames := 1, cells := 0, slots := 0, locals := 21 }
theorem yd_Stream_removeFirst : (⟨"PrefixCodes$Stream", "removeFirst", "()I"⟩ : MethodName).cls = "PrefixCodes$Stream" ∧ (⟨"PrefixCodes$Stream", "removeFirst", "()I"⟩ : MethodName).cls ≠ "java/lang/invoke/MethodHandle" ∧ (⟨"PrefixCodes$Stream", "removeFirst", "()I"⟩ : MethodName).cls ≠ "java/lang/invoke/VarHandle" ∧ (parseMethodDescriptor (⟨"PrefixCodes$Stream", "removeFirst", "()I"⟩ : MethodName).desc).map (fun d => d.parameters.length) = some 0 := by decide +kernel
def y_Stream_removeNumber : MethodName := ⟨"PrefixCodes$Stream", "removeNumber", "(I)I"⟩
abbrev w_Stream_removeNumber : List Cond := Cond.code ⟨"PrefixCodes$Stream", "removeNumber", "(I)I"⟩ prog_9_method_11_code 4 (some .int) :: gW
abbrev rm_Stream_removeNumber : Room := { frames := 2, cells := 0, slots := 0, locals := 42 }
theorem yd_Stream_removeNumber : (⟨"PrefixCodes$Stream", "removeNumber", "(I)I"⟩ : MethodName).cls = "PrefixCodes$Stream" ∧ (⟨"PrefixCodes$Stream", "removeNumber", "(I)I"⟩ : MethodName).cls ≠ "java/lang/invoke/MethodHandle" ∧ (⟨"PrefixCodes$Stream", "removeNumber", "(I)I"⟩ : MethodName).cls ≠ "java/lang/invoke/VarHandle" ∧ (parseMethodDescriptor (⟨"PrefixCodes$Stream", "removeNumber", "(I)I"⟩ : MethodName).desc).map (fun d => d.parameters.length) = some 1 := by decide +kernel
def y_PC_takeNumber : MethodName := ⟨"PrefixCodes", "takeNumber", "(I)I"⟩
abbrev w_PC_takeNumber : List Cond := Cond.code ⟨"PrefixCodes", "takeNumber", "(I)I"⟩ prog_1_method_14_code 2 (some .int) :: gW
abbrev rm_PC_takeNumber : Room := { frames := 3, cells := 0, slots := 0, locals := 65 }
theorem yd_PC_takeNumber : (⟨"PrefixCodes", "takeNumber", "(I)I"⟩ : MethodName).cls = "PrefixCodes" ∧ (⟨"PrefixCodes", "takeNumber", "(I)I"⟩ : MethodName).cls ≠ "java/lang/invoke/MethodHandle" ∧ (⟨"PrefixCodes", "takeNumber", "(I)I"⟩ : MethodName).cls ≠ "java/lang/invoke/VarHandle" ∧ (parseMethodDescriptor (⟨"PrefixCodes", "takeNumber", "(I)I"⟩ : MethodName).desc).map (fun d => d.parameters.length) = some 1 := by decide +kernel
def y_PC_put : MethodName := ⟨"PrefixCodes", "put", "(IIZ)I"⟩
abbrev w_PC_put : List Cond := Cond.code ⟨"PrefixCodes", "put", "(IIZ)I"⟩ prog_1_method_15_code 5 (some .int) :: gW
abbrev rm_PC_put : Room := { frames := 4, cells := 0, slots := 0, locals := 90 }
theorem yd_PC_put : (⟨"PrefixCodes", "put", "(IIZ)I"⟩ : MethodName).cls = "PrefixCodes" ∧ (⟨"PrefixCodes", "put", "(IIZ)I"⟩ : MethodName).cls ≠ "java/lang/invoke/MethodHandle" ∧ (⟨"PrefixCodes", "put", "(IIZ)I"⟩ : MethodName).cls ≠ "java/lang/invoke/VarHandle" ∧ (parseMethodDescriptor (⟨"PrefixCodes", "put", "(IIZ)I"⟩ : MethodName).desc).map (fun d => d.parameters.length) = some 3 := by decide +kernel
def y_Code_canBeRead : MethodName := ⟨"PrefixCodes$Code", "canBeRead", "()Z"⟩
abbrev w_Code_canBeRead : List Cond := Cond.code ⟨"PrefixCodes$Code", "canBeRead", "()Z"⟩ prog_3_method_8_code 1 (some .boolean) :: gW
abbrev rm_Code_canBeRead : Room := { frames := 0, cells := 0, slots := 0, locals := 0 }
theorem yd_Code_canBeRead : (⟨"PrefixCodes$Code", "canBeRead", "()Z"⟩ : MethodName).cls = "PrefixCodes$Code" ∧ (⟨"PrefixCodes$Code", "canBeRead", "()Z"⟩ : MethodName).cls ≠ "java/lang/invoke/MethodHandle" ∧ (⟨"PrefixCodes$Code", "canBeRead", "()Z"⟩ : MethodName).cls ≠ "java/lang/invoke/VarHandle" ∧ (parseMethodDescriptor (⟨"PrefixCodes$Code", "canBeRead", "()Z"⟩ : MethodName).desc).map (fun d => d.parameters.length) = some 0 := by decide +kernel
def y_Stream_removeLast : MethodName := ⟨"PrefixCodes$Stream", "removeLast", "()I"⟩
abbrev w_Stream_removeLast : List Cond := Cond.code ⟨"PrefixCodes$Stream", "removeLast", "()I"⟩ prog_9_method_10_code 2 (some .int) :: gW
abbrev rm_Stream_removeLast : Room := { frames := 2, cells := 0, slots := 0, locals := 42 }
theorem yd_Stream_removeLast : (⟨"PrefixCodes$Stream", "removeLast", "()I"⟩ : MethodName).cls = "PrefixCodes$Stream" ∧ (⟨"PrefixCodes$Stream", "removeLast", "()I"⟩ : MethodName).cls ≠ "java/lang/invoke/MethodHandle" ∧ (⟨"PrefixCodes$Stream", "removeLast", "()I"⟩ : MethodName).cls ≠ "java/lang/invoke/VarHandle" ∧ (parseMethodDescriptor (⟨"PrefixCodes$Stream", "removeLast", "()I"⟩ : MethodName).desc).map (fun d => d.parameters.length) = some 0 := by decide +kernel
def y_Code_removeSymbol : MethodName := ⟨"PrefixCodes$Code", "removeSymbol", "(LPrefixCodes$Stream;Z)I"⟩
abbrev w_Code_removeSymbol : List Cond := Cond.code ⟨"PrefixCodes$Code", "removeSymbol", "(LPrefixCodes$Stream;Z)I"⟩ prog_3_method_10_code 7 (some .int) :: gW
abbrev rm_Code_removeSymbol : Room := { frames := 3, cells := 0, slots := 0, locals := 63 }
theorem yd_Code_removeSymbol : (⟨"PrefixCodes$Code", "removeSymbol", "(LPrefixCodes$Stream;Z)I"⟩ : MethodName).cls = "PrefixCodes$Code" ∧ (⟨"PrefixCodes$Code", "removeSymbol", "(LPrefixCodes$Stream;Z)I"⟩ : MethodName).cls ≠ "java/lang/invoke/MethodHandle" ∧ (⟨"PrefixCodes$Code", "removeSymbol", "(LPrefixCodes$Stream;Z)I"⟩ : MethodName).cls ≠ "java/lang/invoke/VarHandle" ∧ (parseMethodDescriptor (⟨"PrefixCodes$Code", "removeSymbol", "(LPrefixCodes$Stream;Z)I"⟩ : MethodName).desc).map (fun d => d.parameters.length) = some 2 := by decide +kernel
def y_PC_take : MethodName := ⟨"PrefixCodes", "take", "(IZ)I"⟩
abbrev w_PC_take : List Cond := Cond.code ⟨"PrefixCodes", "take", "(IZ)I"⟩ prog_1_method_16_code 4 (some .int) :: gW
abbrev rm_PC_take : Room := { frames := 4, cells := 0, slots := 0, locals := 89 }
theorem yd_PC_take : (⟨"PrefixCodes", "take", "(IZ)I"⟩ : MethodName).cls = "PrefixCodes" ∧ (⟨"PrefixCodes", "take", "(IZ)I"⟩ : MethodName).cls ≠ "java/lang/invoke/MethodHandle" ∧ (⟨"PrefixCodes", "take", "(IZ)I"⟩ : MethodName).cls ≠ "java/lang/invoke/VarHandle" ∧ (parseMethodDescriptor (⟨"PrefixCodes", "take", "(IZ)I"⟩ : MethodName).desc).map (fun d => d.parameters.length) = some 2 := by decide +kernel
def y_Stream_begin : MethodName := ⟨"PrefixCodes$Stream", "begin", "()V"⟩
abbrev w_Stream_begin : List Cond := Cond.code ⟨"PrefixCodes$Stream", "begin", "()V"⟩ prog_9_method_5_code 1 none :: gW
abbrev rm_Stream_begin : Room := { frames := 0, cells := 0, slots := 0, locals := 0 }
theorem yd_Stream_begin : (⟨"PrefixCodes$Stream", "begin", "()V"⟩ : MethodName).cls = "PrefixCodes$Stream" ∧ (⟨"PrefixCodes$Stream", "begin", "()V"⟩ : MethodName).cls ≠ "java/lang/invoke/MethodHandle" ∧ (⟨"PrefixCodes$Stream", "begin", "()V"⟩ : MethodName).cls ≠ "java/lang/invoke/VarHandle" ∧ (parseMethodDescriptor (⟨"PrefixCodes$Stream", "begin", "()V"⟩ : MethodName).desc).map (fun d => d.parameters.length) = some 0 := by decide +kernel
def y_Manners_appendPlain : MethodName := ⟨"PrefixCodes$Manners", "appendPlain", "(LPrefixCodes$Code;)V"⟩
abbrev w_Manners_appendPlain : List Cond := Cond.code ⟨"PrefixCodes$Manners", "appendPlain", "(LPrefixCodes$Code;)V"⟩ prog_5_method_4_code 3 none :: gW
abbrev rm_Manners_appendPlain : Room := { frames := 3, cells := 0, slots := 0, locals := 68 }
theorem yd_Manners_appendPlain : (⟨"PrefixCodes$Manners", "appendPlain", "(LPrefixCodes$Code;)V"⟩ : MethodName).cls = "PrefixCodes$Manners" ∧ (⟨"PrefixCodes$Manners", "appendPlain", "(LPrefixCodes$Code;)V"⟩ : MethodName).cls ≠ "java/lang/invoke/MethodHandle" ∧ (⟨"PrefixCodes$Manners", "appendPlain", "(LPrefixCodes$Code;)V"⟩ : MethodName).cls ≠ "java/lang/invoke/VarHandle" ∧ (parseMethodDescriptor (⟨"PrefixCodes$Manners", "appendPlain", "(LPrefixCodes$Code;)V"⟩ : MethodName).desc).map (fun d => d.parameters.length) = some 1 := by decide +kernel
def y_Manners_appendSteps : MethodName := ⟨"PrefixCodes$Manners", "appendSteps", "(LPrefixCodes$Code;)V"⟩
abbrev w_Manners_appendSteps : List Cond := Cond.code ⟨"PrefixCodes$Manners", "appendSteps", "(LPrefixCodes$Code;)V"⟩ prog_5_method_6_code 6 none :: gW
abbrev rm_Manners_appendSteps : Room := { frames := 3, cells := 0, slots := 0, locals := 68 }
theorem yd_Manners_appendSteps : (⟨"PrefixCodes$Manners", "appendSteps", "(LPrefixCodes$Code;)V"⟩ : MethodName).cls = "PrefixCodes$Manners" ∧ (⟨"PrefixCodes$Manners", "appendSteps", "(LPrefixCodes$Code;)V"⟩ : MethodName).cls ≠ "java/lang/invoke/MethodHandle" ∧ (⟨"PrefixCodes$Manners", "appendSteps", "(LPrefixCodes$Code;)V"⟩ : MethodName).cls ≠ "java/lang/invoke/VarHandle" ∧ (parseMethodDescriptor (⟨"PrefixCodes$Manners", "appendSteps", "(LPrefixCodes$Code;)V"⟩ : MethodName).desc).map (fun d => d.parameters.length) = some 1 := by decide +kernel
def y_Commands_runFrom : MethodName := ⟨"PrefixCodes$Commands", "runFrom", "([III)I"⟩
abbrev w_Commands_runFrom : List Cond := Cond.code ⟨"PrefixCodes$Commands", "runFrom", "([III)I"⟩ prog_4_method_5_code 4 (some .int) :: gW
abbrev rm_Commands_runFrom : Room := { frames := 0, cells := 0, slots := 0, locals := 0 }
theorem yd_Commands_runFrom : (⟨"PrefixCodes$Commands", "runFrom", "([III)I"⟩ : MethodName).cls = "PrefixCodes$Commands" ∧ (⟨"PrefixCodes$Commands", "runFrom", "([III)I"⟩ : MethodName).cls ≠ "java/lang/invoke/MethodHandle" ∧ (⟨"PrefixCodes$Commands", "runFrom", "([III)I"⟩ : MethodName).cls ≠ "java/lang/invoke/VarHandle" ∧ (parseMethodDescriptor (⟨"PrefixCodes$Commands", "runFrom", "([III)I"⟩ : MethodName).desc).map (fun d => d.parameters.length) = some 3 := by decide +kernel
def y_Commands_commandAt : MethodName := ⟨"PrefixCodes$Commands", "commandAt", "([III)I"⟩
abbrev w_Commands_commandAt : List Cond := Cond.code ⟨"PrefixCodes$Commands", "commandAt", "([III)I"⟩ prog_4_method_4_code 6 (some .int) :: gW
abbrev rm_Commands_commandAt : Room := { frames := 1, cells := 0, slots := 0, locals := 23 }
theorem yd_Commands_commandAt : (⟨"PrefixCodes$Commands", "commandAt", "([III)I"⟩ : MethodName).cls = "PrefixCodes$Commands" ∧ (⟨"PrefixCodes$Commands", "commandAt", "([III)I"⟩ : MethodName).cls ≠ "java/lang/invoke/MethodHandle" ∧ (⟨"PrefixCodes$Commands", "commandAt", "([III)I"⟩ : MethodName).cls ≠ "java/lang/invoke/VarHandle" ∧ (parseMethodDescriptor (⟨"PrefixCodes$Commands", "commandAt", "([III)I"⟩ : MethodName).desc).map (fun d => d.parameters.length) = some 3 := by decide +kernel
def y_Commands_gather : MethodName := ⟨"PrefixCodes$Commands", "gather", "([II)V"⟩
abbrev w_Commands_gather : List Cond := Cond.code ⟨"PrefixCodes$Commands", "gather", "([II)V"⟩ prog_4_method_3_code 6 none :: gW
abbrev rm_Commands_gather : Room := { frames := 2, cells := 0, slots := 0, locals := 48 }
theorem yd_Commands_gather : (⟨"PrefixCodes$Commands", "gather", "([II)V"⟩ : MethodName).cls = "PrefixCodes$Commands" ∧ (⟨"PrefixCodes$Commands", "gather", "([II)V"⟩ : MethodName).cls ≠ "java/lang/invoke/MethodHandle" ∧ (⟨"PrefixCodes$Commands", "gather", "([II)V"⟩ : MethodName).cls ≠ "java/lang/invoke/VarHandle" ∧ (parseMethodDescriptor (⟨"PrefixCodes$Commands", "gather", "([II)V"⟩ : MethodName).desc).map (fun d => d.parameters.length) = some 2 := by decide +kernel
def y_Commands_appendCode : MethodName := ⟨"PrefixCodes$Commands", "appendCode", "()V"⟩
abbrev w_Commands_appendCode : List Cond := Cond.code ⟨"PrefixCodes$Commands", "appendCode", "()V"⟩ prog_4_method_6_code 3 none :: gW
abbrev rm_Commands_appendCode : Room := { frames := 3, cells := 0, slots := 0, locals := 68 }
theorem yd_Commands_appendCode : (⟨"PrefixCodes$Commands", "appendCode", "()V"⟩ : MethodName).cls = "PrefixCodes$Commands" ∧ (⟨"PrefixCodes$Commands", "appendCode", "()V"⟩ : MethodName).cls ≠ "java/lang/invoke/MethodHandle" ∧ (⟨"PrefixCodes$Commands", "appendCode", "()V"⟩ : MethodName).cls ≠ "java/lang/invoke/VarHandle" ∧ (parseMethodDescriptor (⟨"PrefixCodes$Commands", "appendCode", "()V"⟩ : MethodName).desc).map (fun d => d.parameters.length) = some 0 := by decide +kernel
def y_Commands_append : MethodName := ⟨"PrefixCodes$Commands", "append", "([II)V"⟩
abbrev w_Commands_append : List Cond := Cond.code ⟨"PrefixCodes$Commands", "append", "([II)V"⟩ prog_4_method_2_code 6 none :: gW
abbrev rm_Commands_append : Room := { frames := 4, cells := 0, slots := 0, locals := 90 }
theorem yd_Commands_append : (⟨"PrefixCodes$Commands", "append", "([II)V"⟩ : MethodName).cls = "PrefixCodes$Commands" ∧ (⟨"PrefixCodes$Commands", "append", "([II)V"⟩ : MethodName).cls ≠ "java/lang/invoke/MethodHandle" ∧ (⟨"PrefixCodes$Commands", "append", "([II)V"⟩ : MethodName).cls ≠ "java/lang/invoke/VarHandle" ∧ (parseMethodDescriptor (⟨"PrefixCodes$Commands", "append", "([II)V"⟩ : MethodName).desc).map (fun d => d.parameters.length) = some 2 := by decide +kernel
def y_Manners_append : MethodName := ⟨"PrefixCodes$Manners", "append", "(LPrefixCodes$Code;I)V"⟩
abbrev w_Manners_append : List Cond := Cond.code ⟨"PrefixCodes$Manners", "append", "(LPrefixCodes$Code;I)V"⟩ prog_5_method_2_code 3 none :: gW
abbrev rm_Manners_append : Room := { frames := 5, cells := 0, slots := 0, locals := 115 }
theorem yd_Manners_append : (⟨"PrefixCodes$Manners", "append", "(LPrefixCodes$Code;I)V"⟩ : MethodName).cls = "PrefixCodes$Manners" ∧ (⟨"PrefixCodes$Manners", "append", "(LPrefixCodes$Code;I)V"⟩ : MethodName).cls ≠ "java/lang/invoke/MethodHandle" ∧ (⟨"PrefixCodes$Manners", "append", "(LPrefixCodes$Code;I)V"⟩ : MethodName).cls ≠ "java/lang/invoke/VarHandle" ∧ (parseMethodDescriptor (⟨"PrefixCodes$Manners", "append", "(LPrefixCodes$Code;I)V"⟩ : MethodName).desc).map (fun d => d.parameters.length) = some 2 := by decide +kernel
def y_Stream_settle : MethodName := ⟨"PrefixCodes$Stream", "settle", "()I"⟩
abbrev w_Stream_settle : List Cond := Cond.code ⟨"PrefixCodes$Stream", "settle", "()I"⟩ prog_9_method_6_code 1 (some .int) :: gW
abbrev rm_Stream_settle : Room := { frames := 0, cells := 0, slots := 0, locals := 0 }
theorem yd_Stream_settle : (⟨"PrefixCodes$Stream", "settle", "()I"⟩ : MethodName).cls = "PrefixCodes$Stream" ∧ (⟨"PrefixCodes$Stream", "settle", "()I"⟩ : MethodName).cls ≠ "java/lang/invoke/MethodHandle" ∧ (⟨"PrefixCodes$Stream", "settle", "()I"⟩ : MethodName).cls ≠ "java/lang/invoke/VarHandle" ∧ (parseMethodDescriptor (⟨"PrefixCodes$Stream", "settle", "()I"⟩ : MethodName).desc).map (fun d => d.parameters.length) = some 0 := by decide +kernel
def y_PC_pack : MethodName := ⟨"PrefixCodes", "pack", "(II)I"⟩
abbrev w_PC_pack : List Cond := Cond.code ⟨"PrefixCodes", "pack", "(II)I"⟩ prog_1_method_17_code 4 (some .int) :: gW
abbrev rm_PC_pack : Room := { frames := 6, cells := 0, slots := 0, locals := 137 }
theorem yd_PC_pack : (⟨"PrefixCodes", "pack", "(II)I"⟩ : MethodName).cls = "PrefixCodes" ∧ (⟨"PrefixCodes", "pack", "(II)I"⟩ : MethodName).cls ≠ "java/lang/invoke/MethodHandle" ∧ (⟨"PrefixCodes", "pack", "(II)I"⟩ : MethodName).cls ≠ "java/lang/invoke/VarHandle" ∧ (parseMethodDescriptor (⟨"PrefixCodes", "pack", "(II)I"⟩ : MethodName).desc).map (fun d => d.parameters.length) = some 2 := by decide +kernel
def y_Manners_removePlain : MethodName := ⟨"PrefixCodes$Manners", "removePlain", "(I)I"⟩
abbrev w_Manners_removePlain : List Cond := Cond.code ⟨"PrefixCodes$Manners", "removePlain", "(I)I"⟩ prog_5_method_5_code 4 (some .int) :: gW
abbrev rm_Manners_removePlain : Room := { frames := 3, cells := 0, slots := 0, locals := 65 }
theorem yd_Manners_removePlain : (⟨"PrefixCodes$Manners", "removePlain", "(I)I"⟩ : MethodName).cls = "PrefixCodes$Manners" ∧ (⟨"PrefixCodes$Manners", "removePlain", "(I)I"⟩ : MethodName).cls ≠ "java/lang/invoke/MethodHandle" ∧ (⟨"PrefixCodes$Manners", "removePlain", "(I)I"⟩ : MethodName).cls ≠ "java/lang/invoke/VarHandle" ∧ (parseMethodDescriptor (⟨"PrefixCodes$Manners", "removePlain", "(I)I"⟩ : MethodName).desc).map (fun d => d.parameters.length) = some 1 := by decide +kernel
def y_Manners_stepsFrom : MethodName := ⟨"PrefixCodes$Manners", "stepsFrom", "(I)I"⟩
abbrev w_Manners_stepsFrom : List Cond := Cond.code ⟨"PrefixCodes$Manners", "stepsFrom", "(I)I"⟩ prog_5_method_8_code 6 (some .int) :: gW
abbrev rm_Manners_stepsFrom : Room := { frames := 2, cells := 0, slots := 0, locals := 42 }
theorem yd_Manners_stepsFrom : (⟨"PrefixCodes$Manners", "stepsFrom", "(I)I"⟩ : MethodName).cls = "PrefixCodes$Manners" ∧ (⟨"PrefixCodes$Manners", "stepsFrom", "(I)I"⟩ : MethodName).cls ≠ "java/lang/invoke/MethodHandle" ∧ (⟨"PrefixCodes$Manners", "stepsFrom", "(I)I"⟩ : MethodName).cls ≠ "java/lang/invoke/VarHandle" ∧ (parseMethodDescriptor (⟨"PrefixCodes$Manners", "stepsFrom", "(I)I"⟩ : MethodName).desc).map (fun d => d.parameters.length) = some 1 := by decide +kernel
def y_Manners_removeSteps : MethodName := ⟨"PrefixCodes$Manners", "removeSteps", "(I)I"⟩
abbrev w_Manners_removeSteps : List Cond := Cond.code ⟨"PrefixCodes$Manners", "removeSteps", "(I)I"⟩ prog_5_method_7_code 4 (some .int) :: gW
abbrev rm_Manners_removeSteps : Room := { frames := 3, cells := 0, slots := 0, locals := 67 }
theorem yd_Manners_removeSteps : (⟨"PrefixCodes$Manners", "removeSteps", "(I)I"⟩ : MethodName).cls = "PrefixCodes$Manners" ∧ (⟨"PrefixCodes$Manners", "removeSteps", "(I)I"⟩ : MethodName).cls ≠ "java/lang/invoke/MethodHandle" ∧ (⟨"PrefixCodes$Manners", "removeSteps", "(I)I"⟩ : MethodName).cls ≠ "java/lang/invoke/VarHandle" ∧ (parseMethodDescriptor (⟨"PrefixCodes$Manners", "removeSteps", "(I)I"⟩ : MethodName).desc).map (fun d => d.parameters.length) = some 1 := by decide +kernel
def y_Commands_removeCode : MethodName := ⟨"PrefixCodes$Commands", "removeCode", "()I"⟩
abbrev w_Commands_removeCode : List Cond := Cond.code ⟨"PrefixCodes$Commands", "removeCode", "()I"⟩ prog_4_method_8_code 4 (some .int) :: gW
abbrev rm_Commands_removeCode : Room := { frames := 3, cells := 0, slots := 0, locals := 65 }
theorem yd_Commands_removeCode : (⟨"PrefixCodes$Commands", "removeCode", "()I"⟩ : MethodName).cls = "PrefixCodes$Commands" ∧ (⟨"PrefixCodes$Commands", "removeCode", "()I"⟩ : MethodName).cls ≠ "java/lang/invoke/MethodHandle" ∧ (⟨"PrefixCodes$Commands", "removeCode", "()I"⟩ : MethodName).cls ≠ "java/lang/invoke/VarHandle" ∧ (parseMethodDescriptor (⟨"PrefixCodes$Commands", "removeCode", "()I"⟩ : MethodName).desc).map (fun d => d.parameters.length) = some 0 := by decide +kernel
def y_Commands_removeCommand : MethodName := ⟨"PrefixCodes$Commands", "removeCommand", "([III)I"⟩
abbrev w_Commands_removeCommand : List Cond := Cond.code ⟨"PrefixCodes$Commands", "removeCommand", "([III)I"⟩ prog_4_method_9_code 9 (some .int) :: gW
abbrev rm_Commands_removeCommand : Room := { frames := 4, cells := 0, slots := 0, locals := 89 }
theorem yd_Commands_removeCommand : (⟨"PrefixCodes$Commands", "removeCommand", "([III)I"⟩ : MethodName).cls = "PrefixCodes$Commands" ∧ (⟨"PrefixCodes$Commands", "removeCommand", "([III)I"⟩ : MethodName).cls ≠ "java/lang/invoke/MethodHandle" ∧ (⟨"PrefixCodes$Commands", "removeCommand", "([III)I"⟩ : MethodName).cls ≠ "java/lang/invoke/VarHandle" ∧ (parseMethodDescriptor (⟨"PrefixCodes$Commands", "removeCommand", "([III)I"⟩ : MethodName).desc).map (fun d => d.parameters.length) = some 3 := by decide +kernel
def y_Commands_remove : MethodName := ⟨"PrefixCodes$Commands", "remove", "([II)I"⟩
abbrev w_Commands_remove : List Cond := Cond.code ⟨"PrefixCodes$Commands", "remove", "([II)I"⟩ prog_4_method_7_code 6 (some .int) :: gW
abbrev rm_Commands_remove : Room := { frames := 5, cells := 0, slots := 0, locals := 117 }
theorem yd_Commands_remove : (⟨"PrefixCodes$Commands", "remove", "([II)I"⟩ : MethodName).cls = "PrefixCodes$Commands" ∧ (⟨"PrefixCodes$Commands", "remove", "([II)I"⟩ : MethodName).cls ≠ "java/lang/invoke/MethodHandle" ∧ (⟨"PrefixCodes$Commands", "remove", "([II)I"⟩ : MethodName).cls ≠ "java/lang/invoke/VarHandle" ∧ (parseMethodDescriptor (⟨"PrefixCodes$Commands", "remove", "([II)I"⟩ : MethodName).desc).map (fun d => d.parameters.length) = some 2 := by decide +kernel
def y_Manners_remove : MethodName := ⟨"PrefixCodes$Manners", "remove", "(II)I"⟩
abbrev w_Manners_remove : List Cond := Cond.code ⟨"PrefixCodes$Manners", "remove", "(II)I"⟩ prog_5_method_3_code 3 (some .int) :: gW
abbrev rm_Manners_remove : Room := { frames := 6, cells := 0, slots := 0, locals := 142 }
theorem yd_Manners_remove : (⟨"PrefixCodes$Manners", "remove", "(II)I"⟩ : MethodName).cls = "PrefixCodes$Manners" ∧ (⟨"PrefixCodes$Manners", "remove", "(II)I"⟩ : MethodName).cls ≠ "java/lang/invoke/MethodHandle" ∧ (⟨"PrefixCodes$Manners", "remove", "(II)I"⟩ : MethodName).cls ≠ "java/lang/invoke/VarHandle" ∧ (parseMethodDescriptor (⟨"PrefixCodes$Manners", "remove", "(II)I"⟩ : MethodName).desc).map (fun d => d.parameters.length) = some 2 := by decide +kernel
def y_Stream_giveBack : MethodName := ⟨"PrefixCodes$Stream", "giveBack", "(I)V"⟩
abbrev w_Stream_giveBack : List Cond := Cond.code ⟨"PrefixCodes$Stream", "giveBack", "(I)V"⟩ prog_9_method_12_code 2 none :: gW
abbrev rm_Stream_giveBack : Room := { frames := 1, cells := 0, slots := 0, locals := 21 }
theorem yd_Stream_giveBack : (⟨"PrefixCodes$Stream", "giveBack", "(I)V"⟩ : MethodName).cls = "PrefixCodes$Stream" ∧ (⟨"PrefixCodes$Stream", "giveBack", "(I)V"⟩ : MethodName).cls ≠ "java/lang/invoke/MethodHandle" ∧ (⟨"PrefixCodes$Stream", "giveBack", "(I)V"⟩ : MethodName).cls ≠ "java/lang/invoke/VarHandle" ∧ (parseMethodDescriptor (⟨"PrefixCodes$Stream", "giveBack", "(I)V"⟩ : MethodName).desc).map (fun d => d.parameters.length) = some 1 := by decide +kernel
def y_PC_unpack : MethodName := ⟨"PrefixCodes", "unpack", "(II)I"⟩
abbrev w_PC_unpack : List Cond := Cond.code ⟨"PrefixCodes", "unpack", "(II)I"⟩ prog_1_method_18_code 6 (some .int) :: gW
abbrev rm_PC_unpack : Room := { frames := 7, cells := 0, slots := 0, locals := 164 }
theorem yd_PC_unpack : (⟨"PrefixCodes", "unpack", "(II)I"⟩ : MethodName).cls = "PrefixCodes" ∧ (⟨"PrefixCodes", "unpack", "(II)I"⟩ : MethodName).cls ≠ "java/lang/invoke/MethodHandle" ∧ (⟨"PrefixCodes", "unpack", "(II)I"⟩ : MethodName).cls ≠ "java/lang/invoke/VarHandle" ∧ (parseMethodDescriptor (⟨"PrefixCodes", "unpack", "(II)I"⟩ : MethodName).desc).map (fun d => d.parameters.length) = some 2 := by decide +kernel
def y_Table_extendParts : MethodName := ⟨"PrefixCodes$Table", "extendParts", "(II)V"⟩
abbrev w_Table_extendParts : List Cond := Cond.code ⟨"PrefixCodes$Table", "extendParts", "(II)V"⟩ prog_10_method_3_code 3 none :: gW
abbrev rm_Table_extendParts : Room := { frames := 0, cells := 0, slots := 0, locals := 0 }
theorem yd_Table_extendParts : (⟨"PrefixCodes$Table", "extendParts", "(II)V"⟩ : MethodName).cls = "PrefixCodes$Table" ∧ (⟨"PrefixCodes$Table", "extendParts", "(II)V"⟩ : MethodName).cls ≠ "java/lang/invoke/MethodHandle" ∧ (⟨"PrefixCodes$Table", "extendParts", "(II)V"⟩ : MethodName).cls ≠ "java/lang/invoke/VarHandle" ∧ (parseMethodDescriptor (⟨"PrefixCodes$Table", "extendParts", "(II)V"⟩ : MethodName).desc).map (fun d => d.parameters.length) = some 2 := by decide +kernel
def y_Table_build : MethodName := ⟨"PrefixCodes$Table", "build", "(LPrefixCodes$Code;I)V"⟩
abbrev w_Table_build : List Cond := Cond.code ⟨"PrefixCodes$Table", "build", "(LPrefixCodes$Code;I)V"⟩ prog_10_method_2_code 5 none :: gW
abbrev rm_Table_build : Room := { frames := 1, cells := 0, slots := 0, locals := 22 }
theorem yd_Table_build : (⟨"PrefixCodes$Table", "build", "(LPrefixCodes$Code;I)V"⟩ : MethodName).cls = "PrefixCodes$Table" ∧ (⟨"PrefixCodes$Table", "build", "(LPrefixCodes$Code;I)V"⟩ : MethodName).cls ≠ "java/lang/invoke/MethodHandle" ∧ (⟨"PrefixCodes$Table", "build", "(LPrefixCodes$Code;I)V"⟩ : MethodName).cls ≠ "java/lang/invoke/VarHandle" ∧ (parseMethodDescriptor (⟨"PrefixCodes$Table", "build", "(LPrefixCodes$Code;I)V"⟩ : MethodName).desc).map (fun d => d.parameters.length) = some 2 := by decide +kernel
def y_PC_table : MethodName := ⟨"PrefixCodes", "table", "(II)I"⟩
abbrev w_PC_table : List Cond := Cond.code ⟨"PrefixCodes", "table", "(II)I"⟩ prog_1_method_19_code 4 (some .int) :: gW
abbrev rm_PC_table : Room := { frames := 2, cells := 0, slots := 0, locals := 46 }
theorem yd_PC_table : (⟨"PrefixCodes", "table", "(II)I"⟩ : MethodName).cls = "PrefixCodes" ∧ (⟨"PrefixCodes", "table", "(II)I"⟩ : MethodName).cls ≠ "java/lang/invoke/MethodHandle" ∧ (⟨"PrefixCodes", "table", "(II)I"⟩ : MethodName).cls ≠ "java/lang/invoke/VarHandle" ∧ (parseMethodDescriptor (⟨"PrefixCodes", "table", "(II)I"⟩ : MethodName).desc).map (fun d => d.parameters.length) = some 2 := by decide +kernel
def y_Table_partWithPrefix : MethodName := ⟨"PrefixCodes$Table", "partWithPrefix", "(I)I"⟩
abbrev w_Table_partWithPrefix : List Cond := Cond.code ⟨"PrefixCodes$Table", "partWithPrefix", "(I)I"⟩ prog_10_method_7_code 3 (some .int) :: gW
abbrev rm_Table_partWithPrefix : Room := { frames := 0, cells := 0, slots := 0, locals := 0 }
theorem yd_Table_partWithPrefix : (⟨"PrefixCodes$Table", "partWithPrefix", "(I)I"⟩ : MethodName).cls = "PrefixCodes$Table" ∧ (⟨"PrefixCodes$Table", "partWithPrefix", "(I)I"⟩ : MethodName).cls ≠ "java/lang/invoke/MethodHandle" ∧ (⟨"PrefixCodes$Table", "partWithPrefix", "(I)I"⟩ : MethodName).cls ≠ "java/lang/invoke/VarHandle" ∧ (parseMethodDescriptor (⟨"PrefixCodes$Table", "partWithPrefix", "(I)I"⟩ : MethodName).desc).map (fun d => d.parameters.length) = some 1 := by decide +kernel
def y_Table_pick : MethodName := ⟨"PrefixCodes$Table", "pick", "(IIII)I"⟩
abbrev w_Table_pick : List Cond := Cond.code ⟨"PrefixCodes$Table", "pick", "(IIII)I"⟩ prog_10_method_6_code 4 (some .int) :: gW
abbrev rm_Table_pick : Room := { frames := 0, cells := 0, slots := 0, locals := 0 }
theorem yd_Table_pick : (⟨"PrefixCodes$Table", "pick", "(IIII)I"⟩ : MethodName).cls = "PrefixCodes$Table" ∧ (⟨"PrefixCodes$Table", "pick", "(IIII)I"⟩ : MethodName).cls ≠ "java/lang/invoke/MethodHandle" ∧ (⟨"PrefixCodes$Table", "pick", "(IIII)I"⟩ : MethodName).cls ≠ "java/lang/invoke/VarHandle" ∧ (parseMethodDescriptor (⟨"PrefixCodes$Table", "pick", "(IIII)I"⟩ : MethodName).desc).map (fun d => d.parameters.length) = some 4 := by decide +kernel
def y_Table_wordFor : MethodName := ⟨"PrefixCodes$Table", "wordFor", "(II)I"⟩
abbrev w_Table_wordFor : List Cond := Cond.code ⟨"PrefixCodes$Table", "wordFor", "(II)I"⟩ prog_10_method_9_code 4 (some .int) :: gW
abbrev rm_Table_wordFor : Room := { frames := 0, cells := 0, slots := 0, locals := 0 }
theorem yd_Table_wordFor : (⟨"PrefixCodes$Table", "wordFor", "(II)I"⟩ : MethodName).cls = "PrefixCodes$Table" ∧ (⟨"PrefixCodes$Table", "wordFor", "(II)I"⟩ : MethodName).cls ≠ "java/lang/invoke/MethodHandle" ∧ (⟨"PrefixCodes$Table", "wordFor", "(II)I"⟩ : MethodName).cls ≠ "java/lang/invoke/VarHandle" ∧ (parseMethodDescriptor (⟨"PrefixCodes$Table", "wordFor", "(II)I"⟩ : MethodName).desc).map (fun d => d.parameters.length) = some 2 := by decide +kernel
def y_Table_tellWord : MethodName := ⟨"PrefixCodes$Table", "tellWord", "(II)I"⟩
abbrev w_Table_tellWord : List Cond := Cond.code ⟨"PrefixCodes$Table", "tellWord", "(II)I"⟩ prog_10_method_5_code 3 (some .int) :: gW
abbrev rm_Table_tellWord : Room := { frames := 1, cells := 0, slots := 0, locals := 23 }
theorem yd_Table_tellWord : (⟨"PrefixCodes$Table", "tellWord", "(II)I"⟩ : MethodName).cls = "PrefixCodes$Table" ∧ (⟨"PrefixCodes$Table", "tellWord", "(II)I"⟩ : MethodName).cls ≠ "java/lang/invoke/MethodHandle" ∧ (⟨"PrefixCodes$Table", "tellWord", "(II)I"⟩ : MethodName).cls ≠ "java/lang/invoke/VarHandle" ∧ (parseMethodDescriptor (⟨"PrefixCodes$Table", "tellWord", "(II)I"⟩ : MethodName).desc).map (fun d => d.parameters.length) = some 2 := by decide +kernel
def y_Table_partAround : MethodName := ⟨"PrefixCodes$Table", "partAround", "(I)I"⟩
abbrev w_Table_partAround : List Cond := Cond.code ⟨"PrefixCodes$Table", "partAround", "(I)I"⟩ prog_10_method_8_code 3 (some .int) :: gW
abbrev rm_Table_partAround : Room := { frames := 0, cells := 0, slots := 0, locals := 0 }
theorem yd_Table_partAround : (⟨"PrefixCodes$Table", "partAround", "(I)I"⟩ : MethodName).cls = "PrefixCodes$Table" ∧ (⟨"PrefixCodes$Table", "partAround", "(I)I"⟩ : MethodName).cls ≠ "java/lang/invoke/MethodHandle" ∧ (⟨"PrefixCodes$Table", "partAround", "(I)I"⟩ : MethodName).cls ≠ "java/lang/invoke/VarHandle" ∧ (parseMethodDescriptor (⟨"PrefixCodes$Table", "partAround", "(I)I"⟩ : MethodName).desc).map (fun d => d.parameters.length) = some 1 := by decide +kernel
def y_Table_tell : MethodName := ⟨"PrefixCodes$Table", "tell", "(II)I"⟩
abbrev w_Table_tell : List Cond := Cond.code ⟨"PrefixCodes$Table", "tell", "(II)I"⟩ prog_10_method_4_code 5 (some .int) :: gW
abbrev rm_Table_tell : Room := { frames := 2, cells := 0, slots := 0, locals := 45 }
theorem yd_Table_tell : (⟨"PrefixCodes$Table", "tell", "(II)I"⟩ : MethodName).cls = "PrefixCodes$Table" ∧ (⟨"PrefixCodes$Table", "tell", "(II)I"⟩ : MethodName).cls ≠ "java/lang/invoke/MethodHandle" ∧ (⟨"PrefixCodes$Table", "tell", "(II)I"⟩ : MethodName).cls ≠ "java/lang/invoke/VarHandle" ∧ (parseMethodDescriptor (⟨"PrefixCodes$Table", "tell", "(II)I"⟩ : MethodName).desc).map (fun d => d.parameters.length) = some 2 := by decide +kernel
def y_PC_entry : MethodName := ⟨"PrefixCodes", "entry", "(II)I"⟩
abbrev w_PC_entry : List Cond := Cond.code ⟨"PrefixCodes", "entry", "(II)I"⟩ prog_1_method_20_code 3 (some .int) :: gW
abbrev rm_PC_entry : Room := { frames := 6, cells := 0, slots := 0, locals := 150 }
theorem yd_PC_entry : (⟨"PrefixCodes", "entry", "(II)I"⟩ : MethodName).cls = "PrefixCodes" ∧ (⟨"PrefixCodes", "entry", "(II)I"⟩ : MethodName).cls ≠ "java/lang/invoke/MethodHandle" ∧ (⟨"PrefixCodes", "entry", "(II)I"⟩ : MethodName).cls ≠ "java/lang/invoke/VarHandle" ∧ (parseMethodDescriptor (⟨"PrefixCodes", "entry", "(II)I"⟩ : MethodName).desc).map (fun d => d.parameters.length) = some 2 := by decide +kernel
def y_Text_extend : MethodName := ⟨"PrefixCodes$Text", "extend", "()I"⟩
abbrev w_Text_extend : List Cond := Cond.code ⟨"PrefixCodes$Text", "extend", "()I"⟩ prog_11_method_2_code 2 (some .int) :: gW
abbrev rm_Text_extend : Room := { frames := 1, cells := 0, slots := 0, locals := 26 }
theorem yd_Text_extend : (⟨"PrefixCodes$Text", "extend", "()I"⟩ : MethodName).cls = "PrefixCodes$Text" ∧ (⟨"PrefixCodes$Text", "extend", "()I"⟩ : MethodName).cls ≠ "java/lang/invoke/MethodHandle" ∧ (⟨"PrefixCodes$Text", "extend", "()I"⟩ : MethodName).cls ≠ "java/lang/invoke/VarHandle" ∧ (parseMethodDescriptor (⟨"PrefixCodes$Text", "extend", "()I"⟩ : MethodName).desc).map (fun d => d.parameters.length) = some 0 := by decide +kernel
def y_PC_add : MethodName := ⟨"PrefixCodes", "add", "(IIIII)I"⟩
abbrev w_PC_add : List Cond := Cond.code ⟨"PrefixCodes", "add", "(IIIII)I"⟩ prog_1_method_21_code 6 (some .int) :: gW
abbrev rm_PC_add : Room := { frames := 2, cells := 0, slots := 0, locals := 47 }
theorem yd_PC_add : (⟨"PrefixCodes", "add", "(IIIII)I"⟩ : MethodName).cls = "PrefixCodes" ∧ (⟨"PrefixCodes", "add", "(IIIII)I"⟩ : MethodName).cls ≠ "java/lang/invoke/MethodHandle" ∧ (⟨"PrefixCodes", "add", "(IIIII)I"⟩ : MethodName).cls ≠ "java/lang/invoke/VarHandle" ∧ (parseMethodDescriptor (⟨"PrefixCodes", "add", "(IIIII)I"⟩ : MethodName).desc).map (fun d => d.parameters.length) = some 5 := by decide +kernel
def y_PC_forget : MethodName := ⟨"PrefixCodes", "forget", "()I"⟩
abbrev w_PC_forget : List Cond := Cond.code ⟨"PrefixCodes", "forget", "()I"⟩ prog_1_method_22_code 2 (some .int) :: gW
abbrev rm_PC_forget : Room := { frames := 0, cells := 0, slots := 0, locals := 0 }
theorem yd_PC_forget : (⟨"PrefixCodes", "forget", "()I"⟩ : MethodName).cls = "PrefixCodes" ∧ (⟨"PrefixCodes", "forget", "()I"⟩ : MethodName).cls ≠ "java/lang/invoke/MethodHandle" ∧ (⟨"PrefixCodes", "forget", "()I"⟩ : MethodName).cls ≠ "java/lang/invoke/VarHandle" ∧ (parseMethodDescriptor (⟨"PrefixCodes", "forget", "()I"⟩ : MethodName).desc).map (fun d => d.parameters.length) = some 0 := by decide +kernel
def y_Text_different : MethodName := ⟨"PrefixCodes$Text", "different", "()I"⟩
abbrev w_Text_different : List Cond := Cond.code ⟨"PrefixCodes$Text", "different", "()I"⟩ prog_11_method_5_code 3 (some .int) :: gW
abbrev rm_Text_different : Room := { frames := 2, cells := 0, slots := 0, locals := 45 }
theorem yd_Text_different : (⟨"PrefixCodes$Text", "different", "()I"⟩ : MethodName).cls = "PrefixCodes$Text" ∧ (⟨"PrefixCodes$Text", "different", "()I"⟩ : MethodName).cls ≠ "java/lang/invoke/MethodHandle" ∧ (⟨"PrefixCodes$Text", "different", "()I"⟩ : MethodName).cls ≠ "java/lang/invoke/VarHandle" ∧ (parseMethodDescriptor (⟨"PrefixCodes$Text", "different", "()I"⟩ : MethodName).desc).map (fun d => d.parameters.length) = some 0 := by decide +kernel
def y_Choice_begin : MethodName := ⟨"PrefixCodes$Choice", "begin", "(LPrefixCodes$Text;II)V"⟩
abbrev w_Choice_begin : List Cond := Cond.code ⟨"PrefixCodes$Choice", "begin", "(LPrefixCodes$Text;II)V"⟩ prog_2_method_2_code 5 none :: gW
abbrev rm_Choice_begin : Room := { frames := 1, cells := 0, slots := 0, locals := 26 }
theorem yd_Choice_begin : (⟨"PrefixCodes$Choice", "begin", "(LPrefixCodes$Text;II)V"⟩ : MethodName).cls = "PrefixCodes$Choice" ∧ (⟨"PrefixCodes$Choice", "begin", "(LPrefixCodes$Text;II)V"⟩ : MethodName).cls ≠ "java/lang/invoke/MethodHandle" ∧ (⟨"PrefixCodes$Choice", "begin", "(LPrefixCodes$Text;II)V"⟩ : MethodName).cls ≠ "java/lang/invoke/VarHandle" ∧ (parseMethodDescriptor (⟨"PrefixCodes$Choice", "begin", "(LPrefixCodes$Text;II)V"⟩ : MethodName).desc).map (fun d => d.parameters.length) = some 3 := by decide +kernel
def y_Choice_endOf : MethodName := ⟨"PrefixCodes$Choice", "endOf", "(I)I"⟩
abbrev w_Choice_endOf : List Cond := Cond.code ⟨"PrefixCodes$Choice", "endOf", "(I)I"⟩ prog_2_method_4_code 2 (some .int) :: gW
abbrev rm_Choice_endOf : Room := { frames := 1, cells := 0, slots := 0, locals := 21 }
theorem yd_Choice_endOf : (⟨"PrefixCodes$Choice", "endOf", "(I)I"⟩ : MethodName).cls = "PrefixCodes$Choice" ∧ (⟨"PrefixCodes$Choice", "endOf", "(I)I"⟩ : MethodName).cls ≠ "java/lang/invoke/MethodHandle" ∧ (⟨"PrefixCodes$Choice", "endOf", "(I)I"⟩ : MethodName).cls ≠ "java/lang/invoke/VarHandle" ∧ (parseMethodDescriptor (⟨"PrefixCodes$Choice", "endOf", "(I)I"⟩ : MethodName).desc).map (fun d => d.parameters.length) = some 1 := by decide +kernel
def y_Choice_countFor : MethodName := ⟨"PrefixCodes$Choice", "countFor", "(I)V"⟩
abbrev w_Choice_countFor : List Cond := Cond.code ⟨"PrefixCodes$Choice", "countFor", "(I)V"⟩ prog_2_method_6_code 4 none :: gW
abbrev rm_Choice_countFor : Room := { frames := 2, cells := 0, slots := 0, locals := 42 }
theorem yd_Choice_countFor : (⟨"PrefixCodes$Choice", "countFor", "(I)V"⟩ : MethodName).cls = "PrefixCodes$Choice" ∧ (⟨"PrefixCodes$Choice", "countFor", "(I)V"⟩ : MethodName).cls ≠ "java/lang/invoke/MethodHandle" ∧ (⟨"PrefixCodes$Choice", "countFor", "(I)V"⟩ : MethodName).cls ≠ "java/lang/invoke/VarHandle" ∧ (parseMethodDescriptor (⟨"PrefixCodes$Choice", "countFor", "(I)V"⟩ : MethodName).desc).map (fun d => d.parameters.length) = some 1 := by decide +kernel
def y_Choice_fitCodes : MethodName := ⟨"PrefixCodes$Choice", "fitCodes", "(LPrefixCodes$Packages;I)V"⟩
abbrev w_Choice_fitCodes : List Cond := Cond.code ⟨"PrefixCodes$Choice", "fitCodes", "(LPrefixCodes$Packages;I)V"⟩ prog_2_method_5_code 4 none :: gW
abbrev rm_Choice_fitCodes : Room := { frames := 4, cells := 0, slots := 0, locals := 89 }
theorem yd_Choice_fitCodes : (⟨"PrefixCodes$Choice", "fitCodes", "(LPrefixCodes$Packages;I)V"⟩ : MethodName).cls = "PrefixCodes$Choice" ∧ (⟨"PrefixCodes$Choice", "fitCodes", "(LPrefixCodes$Packages;I)V"⟩ : MethodName).cls ≠ "java/lang/invoke/MethodHandle" ∧ (⟨"PrefixCodes$Choice", "fitCodes", "(LPrefixCodes$Packages;I)V"⟩ : MethodName).cls ≠ "java/lang/invoke/VarHandle" ∧ (parseMethodDescriptor (⟨"PrefixCodes$Choice", "fitCodes", "(LPrefixCodes$Packages;I)V"⟩ : MethodName).desc).map (fun d => d.parameters.length) = some 2 := by decide +kernel
def y_Choice_bitsBy : MethodName := ⟨"PrefixCodes$Choice", "bitsBy", "(II)I"⟩
abbrev w_Choice_bitsBy : List Cond := Cond.code ⟨"PrefixCodes$Choice", "bitsBy", "(II)I"⟩ prog_2_method_8_code 6 (some .int) :: gW
abbrev rm_Choice_bitsBy : Room := { frames := 2, cells := 0, slots := 0, locals := 42 }
theorem yd_Choice_bitsBy : (⟨"PrefixCodes$Choice", "bitsBy", "(II)I"⟩ : MethodName).cls = "PrefixCodes$Choice" ∧ (⟨"PrefixCodes$Choice", "bitsBy", "(II)I"⟩ : MethodName).cls ≠ "java/lang/invoke/MethodHandle" ∧ (⟨"PrefixCodes$Choice", "bitsBy", "(II)I"⟩ : MethodName).cls ≠ "java/lang/invoke/VarHandle" ∧ (parseMethodDescriptor (⟨"PrefixCodes$Choice", "bitsBy", "(II)I"⟩ : MethodName).desc).map (fun d => d.parameters.length) = some 2 := by decide +kernel
def y_Choice_regroup : MethodName := ⟨"PrefixCodes$Choice", "regroup", "()V"⟩
abbrev w_Choice_regroup : List Cond := Cond.code ⟨"PrefixCodes$Choice", "regroup", "()V"⟩ prog_2_method_7_code 6 none :: gW
abbrev rm_Choice_regroup : Room := { frames := 3, cells := 0, slots := 0, locals := 67 }
theorem yd_Choice_regroup : (⟨"PrefixCodes$Choice", "regroup", "()V"⟩ : MethodName).cls = "PrefixCodes$Choice" ∧ (⟨"PrefixCodes$Choice", "regroup", "()V"⟩ : MethodName).cls ≠ "java/lang/invoke/MethodHandle" ∧ (⟨"PrefixCodes$Choice", "regroup", "()V"⟩ : MethodName).cls ≠ "java/lang/invoke/VarHandle" ∧ (parseMethodDescriptor (⟨"PrefixCodes$Choice", "regroup", "()V"⟩ : MethodName).desc).map (fun d => d.parameters.length) = some 0 := by decide +kernel
def y_Choice_settle : MethodName := ⟨"PrefixCodes$Choice", "settle", "(LPrefixCodes$Packages;II)V"⟩
abbrev w_Choice_settle : List Cond := Cond.code ⟨"PrefixCodes$Choice", "settle", "(LPrefixCodes$Packages;II)V"⟩ prog_2_method_3_code 5 none :: gW
abbrev rm_Choice_settle : Room := { frames := 5, cells := 0, slots := 0, locals := 112 }
theorem yd_Choice_settle : (⟨"PrefixCodes$Choice", "settle", "(LPrefixCodes$Packages;II)V"⟩ : MethodName).cls = "PrefixCodes$Choice" ∧ (⟨"PrefixCodes$Choice", "settle", "(LPrefixCodes$Packages;II)V"⟩ : MethodName).cls ≠ "java/lang/invoke/MethodHandle" ∧ (⟨"PrefixCodes$Choice", "settle", "(LPrefixCodes$Packages;II)V"⟩ : MethodName).cls ≠ "java/lang/invoke/VarHandle" ∧ (parseMethodDescriptor (⟨"PrefixCodes$Choice", "settle", "(LPrefixCodes$Packages;II)V"⟩ : MethodName).desc).map (fun d => d.parameters.length) = some 3 := by decide +kernel
def y_PC_choose : MethodName := ⟨"PrefixCodes", "choose", "(IIII)I"⟩
abbrev w_PC_choose : List Cond := Cond.code ⟨"PrefixCodes", "choose", "(IIII)I"⟩ prog_1_method_23_code 9 (some .int) :: gW
abbrev rm_PC_choose : Room := { frames := 6, cells := 0, slots := 0, locals := 136 }
theorem yd_PC_choose : (⟨"PrefixCodes", "choose", "(IIII)I"⟩ : MethodName).cls = "PrefixCodes" ∧ (⟨"PrefixCodes", "choose", "(IIII)I"⟩ : MethodName).cls ≠ "java/lang/invoke/MethodHandle" ∧ (⟨"PrefixCodes", "choose", "(IIII)I"⟩ : MethodName).cls ≠ "java/lang/invoke/VarHandle" ∧ (parseMethodDescriptor (⟨"PrefixCodes", "choose", "(IIII)I"⟩ : MethodName).desc).map (fun d => d.parameters.length) = some 4 := by decide +kernel
def y_PC_group : MethodName := ⟨"PrefixCodes", "group", "(I)I"⟩
abbrev w_PC_group : List Cond := Cond.code ⟨"PrefixCodes", "group", "(I)I"⟩ prog_1_method_24_code 2 (some .int) :: gW
abbrev rm_PC_group : Room := { frames := 1, cells := 0, slots := 0, locals := 22 }
theorem yd_PC_group : (⟨"PrefixCodes", "group", "(I)I"⟩ : MethodName).cls = "PrefixCodes" ∧ (⟨"PrefixCodes", "group", "(I)I"⟩ : MethodName).cls ≠ "java/lang/invoke/MethodHandle" ∧ (⟨"PrefixCodes", "group", "(I)I"⟩ : MethodName).cls ≠ "java/lang/invoke/VarHandle" ∧ (parseMethodDescriptor (⟨"PrefixCodes", "group", "(I)I"⟩ : MethodName).desc).map (fun d => d.parameters.length) = some 1 := by decide +kernel
def y_Choice_canBeWritten : MethodName := ⟨"PrefixCodes$Choice", "canBeWritten", "()Z"⟩
abbrev w_Choice_canBeWritten : List Cond := Cond.code ⟨"PrefixCodes$Choice", "canBeWritten", "()Z"⟩ prog_2_method_9_code 4 (some .boolean) :: gW
abbrev rm_Choice_canBeWritten : Room := { frames := 2, cells := 0, slots := 0, locals := 42 }
theorem yd_Choice_canBeWritten : (⟨"PrefixCodes$Choice", "canBeWritten", "()Z"⟩ : MethodName).cls = "PrefixCodes$Choice" ∧ (⟨"PrefixCodes$Choice", "canBeWritten", "()Z"⟩ : MethodName).cls ≠ "java/lang/invoke/MethodHandle" ∧ (⟨"PrefixCodes$Choice", "canBeWritten", "()Z"⟩ : MethodName).cls ≠ "java/lang/invoke/VarHandle" ∧ (parseMethodDescriptor (⟨"PrefixCodes$Choice", "canBeWritten", "()Z"⟩ : MethodName).desc).map (fun d => d.parameters.length) = some 0 := by decide +kernel
def y_Selectors_begin : MethodName := ⟨"PrefixCodes$Selectors", "begin", "(I)V"⟩
abbrev w_Selectors_begin : List Cond := Cond.code ⟨"PrefixCodes$Selectors", "begin", "(I)V"⟩ prog_8_method_2_code 3 none :: gW
abbrev rm_Selectors_begin : Room := { frames := 0, cells := 0, slots := 0, locals := 0 }
theorem yd_Selectors_begin : (⟨"PrefixCodes$Selectors", "begin", "(I)V"⟩ : MethodName).cls = "PrefixCodes$Selectors" ∧ (⟨"PrefixCodes$Selectors", "begin", "(I)V"⟩ : MethodName).cls ≠ "java/lang/invoke/MethodHandle" ∧ (⟨"PrefixCodes$Selectors", "begin", "(I)V"⟩ : MethodName).cls ≠ "java/lang/invoke/VarHandle" ∧ (parseMethodDescriptor (⟨"PrefixCodes$Selectors", "begin", "(I)V"⟩ : MethodName).desc).map (fun d => d.parameters.length) = some 1 := by decide +kernel
def y_Selectors_moveAhead : MethodName := ⟨"PrefixCodes$Selectors", "moveAhead", "(I)V"⟩
abbrev w_Selectors_moveAhead : List Cond := Cond.code ⟨"PrefixCodes$Selectors", "moveAhead", "(I)V"⟩ prog_8_method_5_code 4 none :: gW
abbrev rm_Selectors_moveAhead : Room := { frames := 0, cells := 0, slots := 0, locals := 0 }
theorem yd_Selectors_moveAhead : (⟨"PrefixCodes$Selectors", "moveAhead", "(I)V"⟩ : MethodName).cls = "PrefixCodes$Selectors" ∧ (⟨"PrefixCodes$Selectors", "moveAhead", "(I)V"⟩ : MethodName).cls ≠ "java/lang/invoke/MethodHandle" ∧ (⟨"PrefixCodes$Selectors", "moveAhead", "(I)V"⟩ : MethodName).cls ≠ "java/lang/invoke/VarHandle" ∧ (parseMethodDescriptor (⟨"PrefixCodes$Selectors", "moveAhead", "(I)V"⟩ : MethodName).desc).map (fun d => d.parameters.length) = some 1 := by decide +kernel
def y_Selectors_append : MethodName := ⟨"PrefixCodes$Selectors", "append", "(LPrefixCodes$Stream;I)V"⟩
abbrev w_Selectors_append : List Cond := Cond.code ⟨"PrefixCodes$Selectors", "append", "(LPrefixCodes$Stream;I)V"⟩ prog_8_method_3_code 4 none :: gW
abbrev rm_Selectors_append : Room := { frames := 2, cells := 0, slots := 0, locals := 45 }
theorem yd_Selectors_append : (⟨"PrefixCodes$Selectors", "append", "(LPrefixCodes$Stream;I)V"⟩ : MethodName).cls = "PrefixCodes$Selectors" ∧ (⟨"PrefixCodes$Selectors", "append", "(LPrefixCodes$Stream;I)V"⟩ : MethodName).cls ≠ "java/lang/invoke/MethodHandle" ∧ (⟨"PrefixCodes$Selectors", "append", "(LPrefixCodes$Stream;I)V"⟩ : MethodName).cls ≠ "java/lang/invoke/VarHandle" ∧ (parseMethodDescriptor (⟨"PrefixCodes$Selectors", "append", "(LPrefixCodes$Stream;I)V"⟩ : MethodName).desc).map (fun d => d.parameters.length) = some 2 := by decide +kernel
def y_Choice_append : MethodName := ⟨"PrefixCodes$Choice", "append", "(LPrefixCodes$Stream;)V"⟩
abbrev w_Choice_append : List Cond := Cond.code ⟨"PrefixCodes$Choice", "append", "(LPrefixCodes$Stream;)V"⟩ prog_2_method_10_code 5 none :: gW
abbrev rm_Choice_append : Room := { frames := 3, cells := 0, slots := 0, locals := 68 }
theorem yd_Choice_append : (⟨"PrefixCodes$Choice", "append", "(LPrefixCodes$Stream;)V"⟩ : MethodName).cls = "PrefixCodes$Choice" ∧ (⟨"PrefixCodes$Choice", "append", "(LPrefixCodes$Stream;)V"⟩ : MethodName).cls ≠ "java/lang/invoke/MethodHandle" ∧ (⟨"PrefixCodes$Choice", "append", "(LPrefixCodes$Stream;)V"⟩ : MethodName).cls ≠ "java/lang/invoke/VarHandle" ∧ (parseMethodDescriptor (⟨"PrefixCodes$Choice", "append", "(LPrefixCodes$Stream;)V"⟩ : MethodName).desc).map (fun d => d.parameters.length) = some 1 := by decide +kernel
def y_PC_write : MethodName := ⟨"PrefixCodes", "write", "()I"⟩
abbrev w_PC_write : List Cond := Cond.code ⟨"PrefixCodes", "write", "()I"⟩ prog_1_method_25_code 1 (some .int) :: gW
abbrev rm_PC_write : Room := { frames := 4, cells := 0, slots := 0, locals := 92 }
theorem yd_PC_write : (⟨"PrefixCodes", "write", "()I"⟩ : MethodName).cls = "PrefixCodes" ∧ (⟨"PrefixCodes", "write", "()I"⟩ : MethodName).cls ≠ "java/lang/invoke/MethodHandle" ∧ (⟨"PrefixCodes", "write", "()I"⟩ : MethodName).cls ≠ "java/lang/invoke/VarHandle" ∧ (parseMethodDescriptor (⟨"PrefixCodes", "write", "()I"⟩ : MethodName).desc).map (fun d => d.parameters.length) = some 0 := by decide +kernel
def y_Reader_begin : MethodName := ⟨"PrefixCodes$Reader", "begin", "(I)V"⟩
abbrev w_Reader_begin : List Cond := Cond.code ⟨"PrefixCodes$Reader", "begin", "(I)V"⟩ prog_7_method_2_code 2 none :: gW
abbrev rm_Reader_begin : Room := { frames := 1, cells := 0, slots := 0, locals := 22 }
theorem yd_Reader_begin : (⟨"PrefixCodes$Reader", "begin", "(I)V"⟩ : MethodName).cls = "PrefixCodes$Reader" ∧ (⟨"PrefixCodes$Reader", "begin", "(I)V"⟩ : MethodName).cls ≠ "java/lang/invoke/MethodHandle" ∧ (⟨"PrefixCodes$Reader", "begin", "(I)V"⟩ : MethodName).cls ≠ "java/lang/invoke/VarHandle" ∧ (parseMethodDescriptor (⟨"PrefixCodes$Reader", "begin", "(I)V"⟩ : MethodName).desc).map (fun d => d.parameters.length) = some 1 := by decide +kernel
def y_Selectors_remove : MethodName := ⟨"PrefixCodes$Selectors", "remove", "(LPrefixCodes$Stream;)I"⟩
abbrev w_Selectors_remove : List Cond := Cond.code ⟨"PrefixCodes$Selectors", "remove", "(LPrefixCodes$Stream;)I"⟩ prog_8_method_4_code 4 (some .int) :: gW
abbrev rm_Selectors_remove : Room := { frames := 2, cells := 0, slots := 0, locals := 42 }
theorem yd_Selectors_remove : (⟨"PrefixCodes$Selectors", "remove", "(LPrefixCodes$Stream;)I"⟩ : MethodName).cls = "PrefixCodes$Selectors" ∧ (⟨"PrefixCodes$Selectors", "remove", "(LPrefixCodes$Stream;)I"⟩ : MethodName).cls ≠ "java/lang/invoke/MethodHandle" ∧ (⟨"PrefixCodes$Selectors", "remove", "(LPrefixCodes$Stream;)I"⟩ : MethodName).cls ≠ "java/lang/invoke/VarHandle" ∧ (parseMethodDescriptor (⟨"PrefixCodes$Selectors", "remove", "(LPrefixCodes$Stream;)I"⟩ : MethodName).desc).map (fun d => d.parameters.length) = some 1 := by decide +kernel
def y_Reader_remove : MethodName := ⟨"PrefixCodes$Reader", "remove", "(II)I"⟩
abbrev w_Reader_remove : List Cond := Cond.code ⟨"PrefixCodes$Reader", "remove", "(II)I"⟩ prog_7_method_3_code 7 (some .int) :: gW
abbrev rm_Reader_remove : Room := { frames := 4, cells := 0, slots := 0, locals := 89 }
theorem yd_Reader_remove : (⟨"PrefixCodes$Reader", "remove", "(II)I"⟩ : MethodName).cls = "PrefixCodes$Reader" ∧ (⟨"PrefixCodes$Reader", "remove", "(II)I"⟩ : MethodName).cls ≠ "java/lang/invoke/MethodHandle" ∧ (⟨"PrefixCodes$Reader", "remove", "(II)I"⟩ : MethodName).cls ≠ "java/lang/invoke/VarHandle" ∧ (parseMethodDescriptor (⟨"PrefixCodes$Reader", "remove", "(II)I"⟩ : MethodName).desc).map (fun d => d.parameters.length) = some 2 := by decide +kernel
def y_Text_become : MethodName := ⟨"PrefixCodes$Text", "become", "([II)V"⟩
abbrev w_Text_become : List Cond := Cond.code ⟨"PrefixCodes$Text", "become", "([II)V"⟩ prog_11_method_3_code 3 none :: gW
abbrev rm_Text_become : Room := { frames := 1, cells := 0, slots := 0, locals := 26 }
theorem yd_Text_become : (⟨"PrefixCodes$Text", "become", "([II)V"⟩ : MethodName).cls = "PrefixCodes$Text" ∧ (⟨"PrefixCodes$Text", "become", "([II)V"⟩ : MethodName).cls ≠ "java/lang/invoke/MethodHandle" ∧ (⟨"PrefixCodes$Text", "become", "([II)V"⟩ : MethodName).cls ≠ "java/lang/invoke/VarHandle" ∧ (parseMethodDescriptor (⟨"PrefixCodes$Text", "become", "([II)V"⟩ : MethodName).desc).map (fun d => d.parameters.length) = some 2 := by decide +kernel
def y_PC_read : MethodName := ⟨"PrefixCodes", "read", "(IIII)I"⟩
abbrev w_PC_read : List Cond := Cond.code ⟨"PrefixCodes", "read", "(IIII)I"⟩ prog_1_method_26_code 7 (some .int) :: gW
abbrev rm_PC_read : Room := { frames := 5, cells := 0, slots := 0, locals := 115 }
theorem yd_PC_read : (⟨"PrefixCodes", "read", "(IIII)I"⟩ : MethodName).cls = "PrefixCodes" ∧ (⟨"PrefixCodes", "read", "(IIII)I"⟩ : MethodName).cls ≠ "java/lang/invoke/MethodHandle" ∧ (⟨"PrefixCodes", "read", "(IIII)I"⟩ : MethodName).cls ≠ "java/lang/invoke/VarHandle" ∧ (parseMethodDescriptor (⟨"PrefixCodes", "read", "(IIII)I"⟩ : MethodName).desc).map (fun d => d.parameters.length) = some 4 := by decide +kernel
def y_PC_symbol : MethodName := ⟨"PrefixCodes", "symbol", "(I)I"⟩
abbrev w_PC_symbol : List Cond := Cond.code ⟨"PrefixCodes", "symbol", "(I)I"⟩ prog_1_method_27_code 2 (some .int) :: gW
abbrev rm_PC_symbol : Room := { frames := 6, cells := 0, slots := 0, locals := 150 }
theorem yd_PC_symbol : (⟨"PrefixCodes", "symbol", "(I)I"⟩ : MethodName).cls = "PrefixCodes" ∧ (⟨"PrefixCodes", "symbol", "(I)I"⟩ : MethodName).cls ≠ "java/lang/invoke/MethodHandle" ∧ (⟨"PrefixCodes", "symbol", "(I)I"⟩ : MethodName).cls ≠ "java/lang/invoke/VarHandle" ∧ (parseMethodDescriptor (⟨"PrefixCodes", "symbol", "(I)I"⟩ : MethodName).desc).map (fun d => d.parameters.length) = some 1 := by decide +kernel
def y_Mo_thrown : MethodName := ⟨"PrefixCodesModel", "thrown", "()I"⟩
abbrev w_Mo_thrown : List Cond := Cond.code ⟨"PrefixCodesModel", "thrown", "()I"⟩ prog_13_method_2_code 1 (some .int) :: gW
abbrev rm_Mo_thrown : Room := { frames := 0, cells := 0, slots := 0, locals := 0 }
theorem yd_Mo_thrown : (⟨"PrefixCodesModel", "thrown", "()I"⟩ : MethodName).cls = "PrefixCodesModel" ∧ (⟨"PrefixCodesModel", "thrown", "()I"⟩ : MethodName).cls ≠ "java/lang/invoke/MethodHandle" ∧ (⟨"PrefixCodesModel", "thrown", "()I"⟩ : MethodName).cls ≠ "java/lang/invoke/VarHandle" ∧ (parseMethodDescriptor (⟨"PrefixCodesModel", "thrown", "()I"⟩ : MethodName).desc).map (fun d => d.parameters.length) = some 0 := by decide +kernel
def y_Mo_has : MethodName := ⟨"PrefixCodesModel", "has", "(I)Z"⟩
abbrev w_Mo_has : List Cond := Cond.code ⟨"PrefixCodesModel", "has", "(I)Z"⟩ prog_13_method_3_code 2 (some .boolean) :: gW
abbrev rm_Mo_has : Room := { frames := 0, cells := 0, slots := 0, locals := 0 }
theorem yd_Mo_has : (⟨"PrefixCodesModel", "has", "(I)Z"⟩ : MethodName).cls = "PrefixCodesModel" ∧ (⟨"PrefixCodesModel", "has", "(I)Z"⟩ : MethodName).cls ≠ "java/lang/invoke/MethodHandle" ∧ (⟨"PrefixCodesModel", "has", "(I)Z"⟩ : MethodName).cls ≠ "java/lang/invoke/VarHandle" ∧ (parseMethodDescriptor (⟨"PrefixCodesModel", "has", "(I)Z"⟩ : MethodName).desc).map (fun d => d.parameters.length) = some 1 := by decide +kernel
def y_Mo_hasSymbol : MethodName := ⟨"PrefixCodesModel", "hasSymbol", "(II)Z"⟩
abbrev w_Mo_hasSymbol : List Cond := Cond.code ⟨"PrefixCodesModel", "hasSymbol", "(II)Z"⟩ prog_13_method_4_code 3 (some .boolean) :: gW
abbrev rm_Mo_hasSymbol : Room := { frames := 1, cells := 0, slots := 0, locals := 21 }
theorem yd_Mo_hasSymbol : (⟨"PrefixCodesModel", "hasSymbol", "(II)Z"⟩ : MethodName).cls = "PrefixCodesModel" ∧ (⟨"PrefixCodesModel", "hasSymbol", "(II)Z"⟩ : MethodName).cls ≠ "java/lang/invoke/MethodHandle" ∧ (⟨"PrefixCodesModel", "hasSymbol", "(II)Z"⟩ : MethodName).cls ≠ "java/lang/invoke/VarHandle" ∧ (parseMethodDescriptor (⟨"PrefixCodesModel", "hasSymbol", "(II)Z"⟩ : MethodName).desc).map (fun d => d.parameters.length) = some 2 := by decide +kernel
def y_Mo_lengthOf : MethodName := ⟨"PrefixCodesModel", "lengthOf", "(II)I"⟩
abbrev w_Mo_lengthOf : List Cond := Cond.code ⟨"PrefixCodesModel", "lengthOf", "(II)I"⟩ prog_13_method_5_code 3 (some .int) :: gW
abbrev rm_Mo_lengthOf : Room := { frames := 0, cells := 0, slots := 0, locals := 0 }
theorem yd_Mo_lengthOf : (⟨"PrefixCodesModel", "lengthOf", "(II)I"⟩ : MethodName).cls = "PrefixCodesModel" ∧ (⟨"PrefixCodesModel", "lengthOf", "(II)I"⟩ : MethodName).cls ≠ "java/lang/invoke/MethodHandle" ∧ (⟨"PrefixCodesModel", "lengthOf", "(II)I"⟩ : MethodName).cls ≠ "java/lang/invoke/VarHandle" ∧ (parseMethodDescriptor (⟨"PrefixCodesModel", "lengthOf", "(II)I"⟩ : MethodName).desc).map (fun d => d.parameters.length) = some 2 := by decide +kernel
def y_Mo_made : MethodName := ⟨"PrefixCodesModel", "made", "(I)I"⟩
abbrev w_Mo_made : List Cond := Cond.code ⟨"PrefixCodesModel", "made", "(I)I"⟩ prog_13_method_6_code 4 (some .int) :: gW
abbrev rm_Mo_made : Room := { frames := 0, cells := 0, slots := 0, locals := 0 }
theorem yd_Mo_made : (⟨"PrefixCodesModel", "made", "(I)I"⟩ : MethodName).cls = "PrefixCodesModel" ∧ (⟨"PrefixCodesModel", "made", "(I)I"⟩ : MethodName).cls ≠ "java/lang/invoke/MethodHandle" ∧ (⟨"PrefixCodesModel", "made", "(I)I"⟩ : MethodName).cls ≠ "java/lang/invoke/VarHandle" ∧ (parseMethodDescriptor (⟨"PrefixCodesModel", "made", "(I)I"⟩ : MethodName).desc).map (fun d => d.parameters.length) = some 1 := by decide +kernel
def y_Mo_code : MethodName := ⟨"PrefixCodesModel", "code", "(I)I"⟩
abbrev w_Mo_code : List Cond := Cond.code ⟨"PrefixCodesModel", "code", "(I)I"⟩ prog_13_method_7_code 2 (some .int) :: gW
abbrev rm_Mo_code : Room := { frames := 1, cells := 0, slots := 0, locals := 23 }
theorem yd_Mo_code : (⟨"PrefixCodesModel", "code", "(I)I"⟩ : MethodName).cls = "PrefixCodesModel" ∧ (⟨"PrefixCodesModel", "code", "(I)I"⟩ : MethodName).cls ≠ "java/lang/invoke/MethodHandle" ∧ (⟨"PrefixCodesModel", "code", "(I)I"⟩ : MethodName).cls ≠ "java/lang/invoke/VarHandle" ∧ (parseMethodDescriptor (⟨"PrefixCodesModel", "code", "(I)I"⟩ : MethodName).desc).map (fun d => d.parameters.length) = some 1 := by decide +kernel
def y_Mo_length : MethodName := ⟨"PrefixCodesModel", "length", "(III)I"⟩
abbrev w_Mo_length : List Cond := Cond.code ⟨"PrefixCodesModel", "length", "(III)I"⟩ prog_13_method_8_code 5 (some .int) :: gW
abbrev rm_Mo_length : Room := { frames := 2, cells := 0, slots := 0, locals := 43 }
theorem yd_Mo_length : (⟨"PrefixCodesModel", "length", "(III)I"⟩ : MethodName).cls = "PrefixCodesModel" ∧ (⟨"PrefixCodesModel", "length", "(III)I"⟩ : MethodName).cls ≠ "java/lang/invoke/MethodHandle" ∧ (⟨"PrefixCodesModel", "length", "(III)I"⟩ : MethodName).cls ≠ "java/lang/invoke/VarHandle" ∧ (parseMethodDescriptor (⟨"PrefixCodesModel", "length", "(III)I"⟩ : MethodName).desc).map (fun d => d.parameters.length) = some 3 := by decide +kernel
def y_Mo_filled : MethodName := ⟨"PrefixCodesModel", "filled", "(I)I"⟩
abbrev w_Mo_filled : List Cond := Cond.code ⟨"PrefixCodesModel", "filled", "(I)I"⟩ prog_13_method_9_code 4 (some .int) :: gW
abbrev rm_Mo_filled : Room := { frames := 1, cells := 0, slots := 0, locals := 22 }
theorem yd_Mo_filled : (⟨"PrefixCodesModel", "filled", "(I)I"⟩ : MethodName).cls = "PrefixCodesModel" ∧ (⟨"PrefixCodesModel", "filled", "(I)I"⟩ : MethodName).cls ≠ "java/lang/invoke/MethodHandle" ∧ (⟨"PrefixCodesModel", "filled", "(I)I"⟩ : MethodName).cls ≠ "java/lang/invoke/VarHandle" ∧ (parseMethodDescriptor (⟨"PrefixCodesModel", "filled", "(I)I"⟩ : MethodName).desc).map (fun d => d.parameters.length) = some 1 := by decide +kernel
def y_Mo_words : MethodName := ⟨"PrefixCodesModel", "words", "(I)I"⟩
abbrev w_Mo_words : List Cond := Cond.code ⟨"PrefixCodesModel", "words", "(I)I"⟩ prog_13_method_10_code 4 (some .int) :: gW
abbrev rm_Mo_words : Room := { frames := 1, cells := 0, slots := 0, locals := 22 }
theorem yd_Mo_words : (⟨"PrefixCodesModel", "words", "(I)I"⟩ : MethodName).cls = "PrefixCodesModel" ∧ (⟨"PrefixCodesModel", "words", "(I)I"⟩ : MethodName).cls ≠ "java/lang/invoke/MethodHandle" ∧ (⟨"PrefixCodesModel", "words", "(I)I"⟩ : MethodName).cls ≠ "java/lang/invoke/VarHandle" ∧ (parseMethodDescriptor (⟨"PrefixCodesModel", "words", "(I)I"⟩ : MethodName).desc).map (fun d => d.parameters.length) = some 1 := by decide +kernel
def y_Mo_longest : MethodName := ⟨"PrefixCodesModel", "longest", "(I)I"⟩
abbrev w_Mo_longest : List Cond := Cond.code ⟨"PrefixCodesModel", "longest", "(I)I"⟩ prog_13_method_11_code 4 (some .int) :: gW
abbrev rm_Mo_longest : Room := { frames := 1, cells := 0, slots := 0, locals := 22 }
theorem yd_Mo_longest : (⟨"PrefixCodesModel", "longest", "(I)I"⟩ : MethodName).cls = "PrefixCodesModel" ∧ (⟨"PrefixCodesModel", "longest", "(I)I"⟩ : MethodName).cls ≠ "java/lang/invoke/MethodHandle" ∧ (⟨"PrefixCodesModel", "longest", "(I)I"⟩ : MethodName).cls ≠ "java/lang/invoke/VarHandle" ∧ (parseMethodDescriptor (⟨"PrefixCodesModel", "longest", "(I)I"⟩ : MethodName).desc).map (fun d => d.parameters.length) = some 1 := by decide +kernel
def y_Mo_kind : MethodName := ⟨"PrefixCodesModel", "kind", "(I)I"⟩
abbrev w_Mo_kind : List Cond := Cond.code ⟨"PrefixCodesModel", "kind", "(I)I"⟩ prog_13_method_12_code 4 (some .int) :: gW
abbrev rm_Mo_kind : Room := { frames := 2, cells := 0, slots := 0, locals := 45 }
theorem yd_Mo_kind : (⟨"PrefixCodesModel", "kind", "(I)I"⟩ : MethodName).cls = "PrefixCodesModel" ∧ (⟨"PrefixCodesModel", "kind", "(I)I"⟩ : MethodName).cls ≠ "java/lang/invoke/MethodHandle" ∧ (⟨"PrefixCodesModel", "kind", "(I)I"⟩ : MethodName).cls ≠ "java/lang/invoke/VarHandle" ∧ (parseMethodDescriptor (⟨"PrefixCodesModel", "kind", "(I)I"⟩ : MethodName).desc).map (fun d => d.parameters.length) = some 1 := by decide +kernel
def y_Mo_about : MethodName := ⟨"PrefixCodesModel", "about", "(II)I"⟩
abbrev w_Mo_about : List Cond := Cond.code ⟨"PrefixCodesModel", "about", "(II)I"⟩ prog_13_method_13_code 3 (some .int) :: gW
abbrev rm_Mo_about : Room := { frames := 3, cells := 0, slots := 0, locals := 68 }
theorem yd_Mo_about : (⟨"PrefixCodesModel", "about", "(II)I"⟩ : MethodName).cls = "PrefixCodesModel" ∧ (⟨"PrefixCodesModel", "about", "(II)I"⟩ : MethodName).cls ≠ "java/lang/invoke/MethodHandle" ∧ (⟨"PrefixCodesModel", "about", "(II)I"⟩ : MethodName).cls ≠ "java/lang/invoke/VarHandle" ∧ (parseMethodDescriptor (⟨"PrefixCodesModel", "about", "(II)I"⟩ : MethodName).desc).map (fun d => d.parameters.length) = some 2 := by decide +kernel
def y_Mo_wordOf : MethodName := ⟨"PrefixCodesModel", "wordOf", "(II)I"⟩
abbrev w_Mo_wordOf : List Cond := Cond.code ⟨"PrefixCodesModel", "wordOf", "(II)I"⟩ prog_13_method_14_code 7 (some .int) :: gW
abbrev rm_Mo_wordOf : Room := { frames := 1, cells := 0, slots := 0, locals := 22 }
theorem yd_Mo_wordOf : (⟨"PrefixCodesModel", "wordOf", "(II)I"⟩ : MethodName).cls = "PrefixCodesModel" ∧ (⟨"PrefixCodesModel", "wordOf", "(II)I"⟩ : MethodName).cls ≠ "java/lang/invoke/MethodHandle" ∧ (⟨"PrefixCodesModel", "wordOf", "(II)I"⟩ : MethodName).cls ≠ "java/lang/invoke/VarHandle" ∧ (parseMethodDescriptor (⟨"PrefixCodesModel", "wordOf", "(II)I"⟩ : MethodName).desc).map (fun d => d.parameters.length) = some 2 := by decide +kernel
def y_Mo_turn : MethodName := ⟨"PrefixCodesModel", "turn", "(II)I"⟩
abbrev w_Mo_turn : List Cond := Cond.code ⟨"PrefixCodesModel", "turn", "(II)I"⟩ prog_13_method_15_code 4 (some .int) :: gW
abbrev rm_Mo_turn : Room := { frames := 0, cells := 0, slots := 0, locals := 0 }
theorem yd_Mo_turn : (⟨"PrefixCodesModel", "turn", "(II)I"⟩ : MethodName).cls = "PrefixCodesModel" ∧ (⟨"PrefixCodesModel", "turn", "(II)I"⟩ : MethodName).cls ≠ "java/lang/invoke/MethodHandle" ∧ (⟨"PrefixCodesModel", "turn", "(II)I"⟩ : MethodName).cls ≠ "java/lang/invoke/VarHandle" ∧ (parseMethodDescriptor (⟨"PrefixCodesModel", "turn", "(II)I"⟩ : MethodName).desc).map (fun d => d.parameters.length) = some 2 := by decide +kernel
def y_Mo_word : MethodName := ⟨"PrefixCodesModel", "word", "(IIZ)I"⟩
abbrev w_Mo_word : List Cond := Cond.code ⟨"PrefixCodesModel", "word", "(IIZ)I"⟩ prog_13_method_16_code 6 (some .int) :: gW
abbrev rm_Mo_word : Room := { frames := 3, cells := 0, slots := 0, locals := 68 }
theorem yd_Mo_word : (⟨"PrefixCodesModel", "word", "(IIZ)I"⟩ : MethodName).cls = "PrefixCodesModel" ∧ (⟨"PrefixCodesModel", "word", "(IIZ)I"⟩ : MethodName).cls ≠ "java/lang/invoke/MethodHandle" ∧ (⟨"PrefixCodesModel", "word", "(IIZ)I"⟩ : MethodName).cls ≠ "java/lang/invoke/VarHandle" ∧ (parseMethodDescriptor (⟨"PrefixCodesModel", "word", "(IIZ)I"⟩ : MethodName).desc).map (fun d => d.parameters.length) = some 3 := by decide +kernel
def y_Mo_count : MethodName := ⟨"PrefixCodesModel", "count", "(II)I"⟩
abbrev w_Mo_count : List Cond := Cond.code ⟨"PrefixCodesModel", "count", "(II)I"⟩ prog_13_method_17_code 4 (some .int) :: gW
abbrev rm_Mo_count : Room := { frames := 0, cells := 0, slots := 0, locals := 0 }
theorem yd_Mo_count : (⟨"PrefixCodesModel", "count", "(II)I"⟩ : MethodName).cls = "PrefixCodesModel" ∧ (⟨"PrefixCodesModel", "count", "(II)I"⟩ : MethodName).cls ≠ "java/lang/invoke/MethodHandle" ∧ (⟨"PrefixCodesModel", "count", "(II)I"⟩ : MethodName).cls ≠ "java/lang/invoke/VarHandle" ∧ (parseMethodDescriptor (⟨"PrefixCodesModel", "count", "(II)I"⟩ : MethodName).desc).map (fun d => d.parameters.length) = some 2 := by decide +kernel
def y_Mo_different : MethodName := ⟨"PrefixCodesModel", "different", "([II)I"⟩
abbrev w_Mo_different : List Cond := Cond.code ⟨"PrefixCodesModel", "different", "([II)I"⟩ prog_13_method_19_code 4 (some .int) :: gW
abbrev rm_Mo_different : Room := { frames := 0, cells := 0, slots := 0, locals := 0 }
theorem yd_Mo_different : (⟨"PrefixCodesModel", "different", "([II)I"⟩ : MethodName).cls = "PrefixCodesModel" ∧ (⟨"PrefixCodesModel", "different", "([II)I"⟩ : MethodName).cls ≠ "java/lang/invoke/MethodHandle" ∧ (⟨"PrefixCodesModel", "different", "([II)I"⟩ : MethodName).cls ≠ "java/lang/invoke/VarHandle" ∧ (parseMethodDescriptor (⟨"PrefixCodesModel", "different", "([II)I"⟩ : MethodName).desc).map (fun d => d.parameters.length) = some 2 := by decide +kernel
def y_Mo_countText : MethodName := ⟨"PrefixCodesModel", "countText", "()I"⟩
abbrev w_Mo_countText : List Cond := Cond.code ⟨"PrefixCodesModel", "countText", "()I"⟩ prog_13_method_18_code 2 (some .int) :: gW
abbrev rm_Mo_countText : Room := { frames := 1, cells := 0, slots := 0, locals := 23 }
theorem yd_Mo_countText : (⟨"PrefixCodesModel", "countText", "()I"⟩ : MethodName).cls = "PrefixCodesModel" ∧ (⟨"PrefixCodesModel", "countText", "()I"⟩ : MethodName).cls ≠ "java/lang/invoke/MethodHandle" ∧ (⟨"PrefixCodesModel", "countText", "()I"⟩ : MethodName).cls ≠ "java/lang/invoke/VarHandle" ∧ (parseMethodDescriptor (⟨"PrefixCodesModel", "countText", "()I"⟩ : MethodName).desc).map (fun d => d.parameters.length) = some 0 := by decide +kernel
def y_Mo_join : MethodName := ⟨"PrefixCodesModel", "join", "(II)V"⟩
abbrev w_Mo_join : List Cond := Cond.code ⟨"PrefixCodesModel", "join", "(II)V"⟩ prog_13_method_21_code 12 none :: gW
abbrev rm_Mo_join : Room := { frames := 0, cells := 0, slots := 0, locals := 0 }
theorem yd_Mo_join : (⟨"PrefixCodesModel", "join", "(II)V"⟩ : MethodName).cls = "PrefixCodesModel" ∧ (⟨"PrefixCodesModel", "join", "(II)V"⟩ : MethodName).cls ≠ "java/lang/invoke/MethodHandle" ∧ (⟨"PrefixCodesModel", "join", "(II)V"⟩ : MethodName).cls ≠ "java/lang/invoke/VarHandle" ∧ (parseMethodDescriptor (⟨"PrefixCodesModel", "join", "(II)V"⟩ : MethodName).desc).map (fun d => d.parameters.length) = some 2 := by decide +kernel
def y_Mo_packages : MethodName := ⟨"PrefixCodesModel", "packages", "(III)V"⟩
abbrev w_Mo_packages : List Cond := Cond.code ⟨"PrefixCodesModel", "packages", "(III)V"⟩ prog_13_method_20_code 11 none :: gW
abbrev rm_Mo_packages : Room := { frames := 1, cells := 0, slots := 0, locals := 31 }
theorem yd_Mo_packages : (⟨"PrefixCodesModel", "packages", "(III)V"⟩ : MethodName).cls = "PrefixCodesModel" ∧ (⟨"PrefixCodesModel", "packages", "(III)V"⟩ : MethodName).cls ≠ "java/lang/invoke/MethodHandle" ∧ (⟨"PrefixCodesModel", "packages", "(III)V"⟩ : MethodName).cls ≠ "java/lang/invoke/VarHandle" ∧ (parseMethodDescriptor (⟨"PrefixCodesModel", "packages", "(III)V"⟩ : MethodName).desc).map (fun d => d.parameters.length) = some 3 := by decide +kernel
def y_Mo_least : MethodName := ⟨"PrefixCodesModel", "least", "(II)I"⟩
abbrev w_Mo_least : List Cond := Cond.code ⟨"PrefixCodesModel", "least", "(II)I"⟩ prog_13_method_22_code 5 (some .int) :: gW
abbrev rm_Mo_least : Room := { frames := 2, cells := 0, slots := 0, locals := 61 }
theorem yd_Mo_least : (⟨"PrefixCodesModel", "least", "(II)I"⟩ : MethodName).cls = "PrefixCodesModel" ∧ (⟨"PrefixCodesModel", "least", "(II)I"⟩ : MethodName).cls ≠ "java/lang/invoke/MethodHandle" ∧ (⟨"PrefixCodesModel", "least", "(II)I"⟩ : MethodName).cls ≠ "java/lang/invoke/VarHandle" ∧ (parseMethodDescriptor (⟨"PrefixCodesModel", "least", "(II)I"⟩ : MethodName).desc).map (fun d => d.parameters.length) = some 2 := by decide +kernel
def y_Mo_cost : MethodName := ⟨"PrefixCodesModel", "cost", "(I)J"⟩
abbrev w_Mo_cost : List Cond := Cond.code ⟨"PrefixCodesModel", "cost", "(I)J"⟩ prog_13_method_23_code 5 (some .long) :: gW
abbrev rm_Mo_cost : Room := { frames := 1, cells := 0, slots := 0, locals := 22 }
theorem yd_Mo_cost : (⟨"PrefixCodesModel", "cost", "(I)J"⟩ : MethodName).cls = "PrefixCodesModel" ∧ (⟨"PrefixCodesModel", "cost", "(I)J"⟩ : MethodName).cls ≠ "java/lang/invoke/MethodHandle" ∧ (⟨"PrefixCodesModel", "cost", "(I)J"⟩ : MethodName).cls ≠ "java/lang/invoke/VarHandle" ∧ (parseMethodDescriptor (⟨"PrefixCodesModel", "cost", "(I)J"⟩ : MethodName).desc).map (fun d => d.parameters.length) = some 1 := by decide +kernel
def y_Mo_bits : MethodName := ⟨"PrefixCodesModel", "bits", "()I"⟩
abbrev w_Mo_bits : List Cond := Cond.code ⟨"PrefixCodesModel", "bits", "()I"⟩ prog_13_method_24_code 1 (some .int) :: gW
abbrev rm_Mo_bits : Room := { frames := 0, cells := 0, slots := 0, locals := 0 }
theorem yd_Mo_bits : (⟨"PrefixCodesModel", "bits", "()I"⟩ : MethodName).cls = "PrefixCodesModel" ∧ (⟨"PrefixCodesModel", "bits", "()I"⟩ : MethodName).cls ≠ "java/lang/invoke/MethodHandle" ∧ (⟨"PrefixCodesModel", "bits", "()I"⟩ : MethodName).cls ≠ "java/lang/invoke/VarHandle" ∧ (parseMethodDescriptor (⟨"PrefixCodesModel", "bits", "()I"⟩ : MethodName).desc).map (fun d => d.parameters.length) = some 0 := by decide +kernel
def y_Mo_bit : MethodName := ⟨"PrefixCodesModel", "bit", "(I)I"⟩
abbrev w_Mo_bit : List Cond := Cond.code ⟨"PrefixCodesModel", "bit", "(I)I"⟩ prog_13_method_25_code 2 (some .int) :: gW
abbrev rm_Mo_bit : Room := { frames := 0, cells := 0, slots := 0, locals := 0 }
theorem yd_Mo_bit : (⟨"PrefixCodesModel", "bit", "(I)I"⟩ : MethodName).cls = "PrefixCodesModel" ∧ (⟨"PrefixCodesModel", "bit", "(I)I"⟩ : MethodName).cls ≠ "java/lang/invoke/MethodHandle" ∧ (⟨"PrefixCodesModel", "bit", "(I)I"⟩ : MethodName).cls ≠ "java/lang/invoke/VarHandle" ∧ (parseMethodDescriptor (⟨"PrefixCodesModel", "bit", "(I)I"⟩ : MethodName).desc).map (fun d => d.parameters.length) = some 1 := by decide +kernel
def y_Mo_clear : MethodName := ⟨"PrefixCodesModel", "clear", "()I"⟩
abbrev w_Mo_clear : List Cond := Cond.code ⟨"PrefixCodesModel", "clear", "()I"⟩ prog_13_method_26_code 2 (some .int) :: gW
abbrev rm_Mo_clear : Room := { frames := 0, cells := 0, slots := 0, locals := 0 }
theorem yd_Mo_clear : (⟨"PrefixCodesModel", "clear", "()I"⟩ : MethodName).cls = "PrefixCodesModel" ∧ (⟨"PrefixCodesModel", "clear", "()I"⟩ : MethodName).cls ≠ "java/lang/invoke/MethodHandle" ∧ (⟨"PrefixCodesModel", "clear", "()I"⟩ : MethodName).cls ≠ "java/lang/invoke/VarHandle" ∧ (parseMethodDescriptor (⟨"PrefixCodesModel", "clear", "()I"⟩ : MethodName).desc).map (fun d => d.parameters.length) = some 0 := by decide +kernel
def y_Mo_hasRoom : MethodName := ⟨"PrefixCodesModel", "hasRoom", "(I)Z"⟩
abbrev w_Mo_hasRoom : List Cond := Cond.code ⟨"PrefixCodesModel", "hasRoom", "(I)Z"⟩ prog_13_method_27_code 2 (some .boolean) :: gW
abbrev rm_Mo_hasRoom : Room := { frames := 0, cells := 0, slots := 0, locals := 0 }
theorem yd_Mo_hasRoom : (⟨"PrefixCodesModel", "hasRoom", "(I)Z"⟩ : MethodName).cls = "PrefixCodesModel" ∧ (⟨"PrefixCodesModel", "hasRoom", "(I)Z"⟩ : MethodName).cls ≠ "java/lang/invoke/MethodHandle" ∧ (⟨"PrefixCodesModel", "hasRoom", "(I)Z"⟩ : MethodName).cls ≠ "java/lang/invoke/VarHandle" ∧ (parseMethodDescriptor (⟨"PrefixCodesModel", "hasRoom", "(I)Z"⟩ : MethodName).desc).map (fun d => d.parameters.length) = some 1 := by decide +kernel
def y_Mo_putBits : MethodName := ⟨"PrefixCodesModel", "putBits", "(II)V"⟩
abbrev w_Mo_putBits : List Cond := Cond.code ⟨"PrefixCodesModel", "putBits", "(II)V"⟩ prog_13_method_28_code 4 none :: gW
abbrev rm_Mo_putBits : Room := { frames := 0, cells := 0, slots := 0, locals := 0 }
theorem yd_Mo_putBits : (⟨"PrefixCodesModel", "putBits", "(II)V"⟩ : MethodName).cls = "PrefixCodesModel" ∧ (⟨"PrefixCodesModel", "putBits", "(II)V"⟩ : MethodName).cls ≠ "java/lang/invoke/MethodHandle" ∧ (⟨"PrefixCodesModel", "putBits", "(II)V"⟩ : MethodName).cls ≠ "java/lang/invoke/VarHandle" ∧ (parseMethodDescriptor (⟨"PrefixCodesModel", "putBits", "(II)V"⟩ : MethodName).desc).map (fun d => d.parameters.length) = some 2 := by decide +kernel
def y_Mo_putNumber : MethodName := ⟨"PrefixCodesModel", "putNumber", "(II)I"⟩
abbrev w_Mo_putNumber : List Cond := Cond.code ⟨"PrefixCodesModel", "putNumber", "(II)I"⟩ prog_13_method_29_code 3 (some .int) :: gW
abbrev rm_Mo_putNumber : Room := { frames := 1, cells := 0, slots := 0, locals := 23 }
theorem yd_Mo_putNumber : (⟨"PrefixCodesModel", "putNumber", "(II)I"⟩ : MethodName).cls = "PrefixCodesModel" ∧ (⟨"PrefixCodesModel", "putNumber", "(II)I"⟩ : MethodName).cls ≠ "java/lang/invoke/MethodHandle" ∧ (⟨"PrefixCodesModel", "putNumber", "(II)I"⟩ : MethodName).cls ≠ "java/lang/invoke/VarHandle" ∧ (parseMethodDescriptor (⟨"PrefixCodesModel", "putNumber", "(II)I"⟩ : MethodName).desc).map (fun d => d.parameters.length) = some 2 := by decide +kernel
def y_Mo_takeNumber : MethodName := ⟨"PrefixCodesModel", "takeNumber", "(I)I"⟩
abbrev w_Mo_takeNumber : List Cond := Cond.code ⟨"PrefixCodesModel", "takeNumber", "(I)I"⟩ prog_13_method_30_code 4 (some .int) :: gW
abbrev rm_Mo_takeNumber : Room := { frames := 0, cells := 0, slots := 0, locals := 0 }
theorem yd_Mo_takeNumber : (⟨"PrefixCodesModel", "takeNumber", "(I)I"⟩ : MethodName).cls = "PrefixCodesModel" ∧ (⟨"PrefixCodesModel", "takeNumber", "(I)I"⟩ : MethodName).cls ≠ "java/lang/invoke/MethodHandle" ∧ (⟨"PrefixCodesModel", "takeNumber", "(I)I"⟩ : MethodName).cls ≠ "java/lang/invoke/VarHandle" ∧ (parseMethodDescriptor (⟨"PrefixCodesModel", "takeNumber", "(I)I"⟩ : MethodName).desc).map (fun d => d.parameters.length) = some 1 := by decide +kernel
def y_Mo_put : MethodName := ⟨"PrefixCodesModel", "put", "(IIZ)I"⟩
abbrev w_Mo_put : List Cond := Cond.code ⟨"PrefixCodesModel", "put", "(IIZ)I"⟩ prog_13_method_31_code 6 (some .int) :: gW
abbrev rm_Mo_put : Room := { frames := 4, cells := 0, slots := 0, locals := 93 }
theorem yd_Mo_put : (⟨"PrefixCodesModel", "put", "(IIZ)I"⟩ : MethodName).cls = "PrefixCodesModel" ∧ (⟨"PrefixCodesModel", "put", "(IIZ)I"⟩ : MethodName).cls ≠ "java/lang/invoke/MethodHandle" ∧ (⟨"PrefixCodesModel", "put", "(IIZ)I"⟩ : MethodName).cls ≠ "java/lang/invoke/VarHandle" ∧ (parseMethodDescriptor (⟨"PrefixCodesModel", "put", "(IIZ)I"⟩ : MethodName).desc).map (fun d => d.parameters.length) = some 3 := by decide +kernel
def y_Mo_taken : MethodName := ⟨"PrefixCodesModel", "taken", "(IZ)I"⟩
abbrev w_Mo_taken : List Cond := Cond.code ⟨"PrefixCodesModel", "taken", "(IZ)I"⟩ prog_13_method_32_code 8 (some .int) :: gW
abbrev rm_Mo_taken : Room := { frames := 2, cells := 0, slots := 0, locals := 48 }
theorem yd_Mo_taken : (⟨"PrefixCodesModel", "taken", "(IZ)I"⟩ : MethodName).cls = "PrefixCodesModel" ∧ (⟨"PrefixCodesModel", "taken", "(IZ)I"⟩ : MethodName).cls ≠ "java/lang/invoke/MethodHandle" ∧ (⟨"PrefixCodesModel", "taken", "(IZ)I"⟩ : MethodName).cls ≠ "java/lang/invoke/VarHandle" ∧ (parseMethodDescriptor (⟨"PrefixCodesModel", "taken", "(IZ)I"⟩ : MethodName).desc).map (fun d => d.parameters.length) = some 2 := by decide +kernel
def y_Mo_take : MethodName := ⟨"PrefixCodesModel", "take", "(IZ)I"⟩
abbrev w_Mo_take : List Cond := Cond.code ⟨"PrefixCodesModel", "take", "(IZ)I"⟩ prog_13_method_33_code 4 (some .int) :: gW
abbrev rm_Mo_take : Room := { frames := 3, cells := 0, slots := 0, locals := 75 }
theorem yd_Mo_take : (⟨"PrefixCodesModel", "take", "(IZ)I"⟩ : MethodName).cls = "PrefixCodesModel" ∧ (⟨"PrefixCodesModel", "take", "(IZ)I"⟩ : MethodName).cls ≠ "java/lang/invoke/MethodHandle" ∧ (⟨"PrefixCodesModel", "take", "(IZ)I"⟩ : MethodName).cls ≠ "java/lang/invoke/VarHandle" ∧ (parseMethodDescriptor (⟨"PrefixCodesModel", "take", "(IZ)I"⟩ : MethodName).desc).map (fun d => d.parameters.length) = some 2 := by decide +kernel
def y_Mo_orderOf : MethodName := ⟨"PrefixCodesModel", "orderOf", "(I)I"⟩
abbrev w_Mo_orderOf : List Cond := Cond.code ⟨"PrefixCodesModel", "orderOf", "(I)I"⟩ prog_13_method_34_code 1 (some .int) :: gW
abbrev rm_Mo_orderOf : Room := { frames := 0, cells := 0, slots := 0, locals := 0 }
theorem yd_Mo_orderOf : (⟨"PrefixCodesModel", "orderOf", "(I)I"⟩ : MethodName).cls = "PrefixCodesModel" ∧ (⟨"PrefixCodesModel", "orderOf", "(I)I"⟩ : MethodName).cls ≠ "java/lang/invoke/MethodHandle" ∧ (⟨"PrefixCodesModel", "orderOf", "(I)I"⟩ : MethodName).cls ≠ "java/lang/invoke/VarHandle" ∧ (parseMethodDescriptor (⟨"PrefixCodesModel", "orderOf", "(I)I"⟩ : MethodName).desc).map (fun d => d.parameters.length) = some 1 := by decide +kernel
def y_Mo_extra : MethodName := ⟨"PrefixCodesModel", "extra", "(I)I"⟩
abbrev w_Mo_extra : List Cond := Cond.code ⟨"PrefixCodesModel", "extra", "(I)I"⟩ prog_13_method_35_code 1 (some .int) :: gW
abbrev rm_Mo_extra : Room := { frames := 0, cells := 0, slots := 0, locals := 0 }
theorem yd_Mo_extra : (⟨"PrefixCodesModel", "extra", "(I)I"⟩ : MethodName).cls = "PrefixCodesModel" ∧ (⟨"PrefixCodesModel", "extra", "(I)I"⟩ : MethodName).cls ≠ "java/lang/invoke/MethodHandle" ∧ (⟨"PrefixCodesModel", "extra", "(I)I"⟩ : MethodName).cls ≠ "java/lang/invoke/VarHandle" ∧ (parseMethodDescriptor (⟨"PrefixCodesModel", "extra", "(I)I"⟩ : MethodName).desc).map (fun d => d.parameters.length) = some 1 := by decide +kernel
def y_Mo_tell : MethodName := ⟨"PrefixCodesModel", "tell", "(II)V"⟩
abbrev w_Mo_tell : List Cond := Cond.code ⟨"PrefixCodesModel", "tell", "(II)V"⟩ prog_13_method_36_code 3 none :: gW
abbrev rm_Mo_tell : Room := { frames := 0, cells := 0, slots := 0, locals := 0 }
theorem yd_Mo_tell : (⟨"PrefixCodesModel", "tell", "(II)V"⟩ : MethodName).cls = "PrefixCodesModel" ∧ (⟨"PrefixCodesModel", "tell", "(II)V"⟩ : MethodName).cls ≠ "java/lang/invoke/MethodHandle" ∧ (⟨"PrefixCodesModel", "tell", "(II)V"⟩ : MethodName).cls ≠ "java/lang/invoke/VarHandle" ∧ (parseMethodDescriptor (⟨"PrefixCodesModel", "tell", "(II)V"⟩ : MethodName).desc).map (fun d => d.parameters.length) = some 2 := by decide +kernel
def y_Mo_fillCommands : MethodName := ⟨"PrefixCodesModel", "fillCommands", "(I)V"⟩
abbrev w_Mo_fillCommands : List Cond := Cond.code ⟨"PrefixCodesModel", "fillCommands", "(I)V"⟩ prog_13_method_37_code 7 none :: gW
abbrev rm_Mo_fillCommands : Room := { frames := 1, cells := 0, slots := 0, locals := 22 }
theorem yd_Mo_fillCommands : (⟨"PrefixCodesModel", "fillCommands", "(I)V"⟩ : MethodName).cls = "PrefixCodesModel" ∧ (⟨"PrefixCodesModel", "fillCommands", "(I)V"⟩ : MethodName).cls ≠ "java/lang/invoke/MethodHandle" ∧ (⟨"PrefixCodesModel", "fillCommands", "(I)V"⟩ : MethodName).cls ≠ "java/lang/invoke/VarHandle" ∧ (parseMethodDescriptor (⟨"PrefixCodesModel", "fillCommands", "(I)V"⟩ : MethodName).desc).map (fun d => d.parameters.length) = some 1 := by decide +kernel
def y_Mo_runs : MethodName := ⟨"PrefixCodesModel", "runs", "(IZ)I"⟩
abbrev w_Mo_runs : List Cond := Cond.code ⟨"PrefixCodesModel", "runs", "(IZ)I"⟩ prog_13_method_39_code 8 (some .int) :: gW
abbrev rm_Mo_runs : Room := { frames := 2, cells := 0, slots := 0, locals := 61 }
theorem yd_Mo_runs : (⟨"PrefixCodesModel", "runs", "(IZ)I"⟩ : MethodName).cls = "PrefixCodesModel" ∧ (⟨"PrefixCodesModel", "runs", "(IZ)I"⟩ : MethodName).cls ≠ "java/lang/invoke/MethodHandle" ∧ (⟨"PrefixCodesModel", "runs", "(IZ)I"⟩ : MethodName).cls ≠ "java/lang/invoke/VarHandle" ∧ (parseMethodDescriptor (⟨"PrefixCodesModel", "runs", "(IZ)I"⟩ : MethodName).desc).map (fun d => d.parameters.length) = some 2 := by decide +kernel
def y_Mo_packed : MethodName := ⟨"PrefixCodesModel", "packed", "(IIZ)I"⟩
abbrev w_Mo_packed : List Cond := Cond.code ⟨"PrefixCodesModel", "packed", "(IIZ)I"⟩ prog_13_method_38_code 9 (some .int) :: gW
abbrev rm_Mo_packed : Room := { frames := 3, cells := 0, slots := 0, locals := 88 }
theorem yd_Mo_packed : (⟨"PrefixCodesModel", "packed", "(IIZ)I"⟩ : MethodName).cls = "PrefixCodesModel" ∧ (⟨"PrefixCodesModel", "packed", "(IIZ)I"⟩ : MethodName).cls ≠ "java/lang/invoke/MethodHandle" ∧ (⟨"PrefixCodesModel", "packed", "(IIZ)I"⟩ : MethodName).cls ≠ "java/lang/invoke/VarHandle" ∧ (parseMethodDescriptor (⟨"PrefixCodesModel", "packed", "(IIZ)I"⟩ : MethodName).desc).map (fun d => d.parameters.length) = some 3 := by decide +kernel
def y_Mo_pack : MethodName := ⟨"PrefixCodesModel", "pack", "(II)I"⟩
abbrev w_Mo_pack : List Cond := Cond.code ⟨"PrefixCodesModel", "pack", "(II)I"⟩ prog_13_method_40_code 4 (some .int) :: gW
abbrev rm_Mo_pack : Room := { frames := 4, cells := 0, slots := 0, locals := 116 }
theorem yd_Mo_pack : (⟨"PrefixCodesModel", "pack", "(II)I"⟩ : MethodName).cls = "PrefixCodesModel" ∧ (⟨"PrefixCodesModel", "pack", "(II)I"⟩ : MethodName).cls ≠ "java/lang/invoke/MethodHandle" ∧ (⟨"PrefixCodesModel", "pack", "(II)I"⟩ : MethodName).cls ≠ "java/lang/invoke/VarHandle" ∧ (parseMethodDescriptor (⟨"PrefixCodesModel", "pack", "(II)I"⟩ : MethodName).desc).map (fun d => d.parameters.length) = some 2 := by decide +kernel
def y_Mo_plain : MethodName := ⟨"PrefixCodesModel", "plain", "(I)I"⟩
abbrev w_Mo_plain : List Cond := Cond.code ⟨"PrefixCodesModel", "plain", "(I)I"⟩ prog_13_method_42_code 4 (some .int) :: gW
abbrev rm_Mo_plain : Room := { frames := 1, cells := 0, slots := 0, locals := 23 }
theorem yd_Mo_plain : (⟨"PrefixCodesModel", "plain", "(I)I"⟩ : MethodName).cls = "PrefixCodesModel" ∧ (⟨"PrefixCodesModel", "plain", "(I)I"⟩ : MethodName).cls ≠ "java/lang/invoke/MethodHandle" ∧ (⟨"PrefixCodesModel", "plain", "(I)I"⟩ : MethodName).cls ≠ "java/lang/invoke/VarHandle" ∧ (parseMethodDescriptor (⟨"PrefixCodesModel", "plain", "(I)I"⟩ : MethodName).desc).map (fun d => d.parameters.length) = some 1 := by decide +kernel
def y_Mo_steps : MethodName := ⟨"PrefixCodesModel", "steps", "(I)I"⟩
abbrev w_Mo_steps : List Cond := Cond.code ⟨"PrefixCodesModel", "steps", "(I)I"⟩ prog_13_method_43_code 6 (some .int) :: gW
abbrev rm_Mo_steps : Room := { frames := 1, cells := 0, slots := 0, locals := 23 }
theorem yd_Mo_steps : (⟨"PrefixCodesModel", "steps", "(I)I"⟩ : MethodName).cls = "PrefixCodesModel" ∧ (⟨"PrefixCodesModel", "steps", "(I)I"⟩ : MethodName).cls ≠ "java/lang/invoke/MethodHandle" ∧ (⟨"PrefixCodesModel", "steps", "(I)I"⟩ : MethodName).cls ≠ "java/lang/invoke/VarHandle" ∧ (parseMethodDescriptor (⟨"PrefixCodesModel", "steps", "(I)I"⟩ : MethodName).desc).map (fun d => d.parameters.length) = some 1 := by decide +kernel
def y_Mo_readRuns : MethodName := ⟨"PrefixCodesModel", "readRuns", "(I)I"⟩
abbrev w_Mo_readRuns : List Cond := Cond.code ⟨"PrefixCodesModel", "readRuns", "(I)I"⟩ prog_13_method_44_code 10 (some .int) :: gW
abbrev rm_Mo_readRuns : Room := { frames := 3, cells := 0, slots := 0, locals := 75 }
theorem yd_Mo_readRuns : (⟨"PrefixCodesModel", "readRuns", "(I)I"⟩ : MethodName).cls = "PrefixCodesModel" ∧ (⟨"PrefixCodesModel", "readRuns", "(I)I"⟩ : MethodName).cls ≠ "java/lang/invoke/MethodHandle" ∧ (⟨"PrefixCodesModel", "readRuns", "(I)I"⟩ : MethodName).cls ≠ "java/lang/invoke/VarHandle" ∧ (parseMethodDescriptor (⟨"PrefixCodesModel", "readRuns", "(I)I"⟩ : MethodName).desc).map (fun d => d.parameters.length) = some 1 := by decide +kernel
def y_Mo_unpack : MethodName := ⟨"PrefixCodesModel", "unpack", "(II)I"⟩
abbrev w_Mo_unpack : List Cond := Cond.code ⟨"PrefixCodesModel", "unpack", "(II)I"⟩ prog_13_method_41_code 7 (some .int) :: gW
abbrev rm_Mo_unpack : Room := { frames := 4, cells := 0, slots := 0, locals := 104 }
theorem yd_Mo_unpack : (⟨"PrefixCodesModel", "unpack", "(II)I"⟩ : MethodName).cls = "PrefixCodesModel" ∧ (⟨"PrefixCodesModel", "unpack", "(II)I"⟩ : MethodName).cls ≠ "java/lang/invoke/MethodHandle" ∧ (⟨"PrefixCodesModel", "unpack", "(II)I"⟩ : MethodName).cls ≠ "java/lang/invoke/VarHandle" ∧ (parseMethodDescriptor (⟨"PrefixCodesModel", "unpack", "(II)I"⟩ : MethodName).desc).map (fun d => d.parameters.length) = some 2 := by decide +kernel
def y_Mo_putEntry : MethodName := ⟨"PrefixCodesModel", "putEntry", "(IIII)V"⟩
abbrev w_Mo_putEntry : List Cond := Cond.code ⟨"PrefixCodesModel", "putEntry", "(IIII)V"⟩ prog_13_method_47_code 5 none :: gW
abbrev rm_Mo_putEntry : Room := { frames := 0, cells := 0, slots := 0, locals := 0 }
theorem yd_Mo_putEntry : (⟨"PrefixCodesModel", "putEntry", "(IIII)V"⟩ : MethodName).cls = "PrefixCodesModel" ∧ (⟨"PrefixCodesModel", "putEntry", "(IIII)V"⟩ : MethodName).cls ≠ "java/lang/invoke/MethodHandle" ∧ (⟨"PrefixCodesModel", "putEntry", "(IIII)V"⟩ : MethodName).cls ≠ "java/lang/invoke/VarHandle" ∧ (parseMethodDescriptor (⟨"PrefixCodesModel", "putEntry", "(IIII)V"⟩ : MethodName).desc).map (fun d => d.parameters.length) = some 4 := by decide +kernel
def y_Mo_clearEntries : MethodName := ⟨"PrefixCodesModel", "clearEntries", "(II)V"⟩
abbrev w_Mo_clearEntries : List Cond := Cond.code ⟨"PrefixCodesModel", "clearEntries", "(II)V"⟩ prog_13_method_46_code 4 none :: gW
abbrev rm_Mo_clearEntries : Room := { frames := 1, cells := 0, slots := 0, locals := 24 }
theorem yd_Mo_clearEntries : (⟨"PrefixCodesModel", "clearEntries", "(II)V"⟩ : MethodName).cls = "PrefixCodesModel" ∧ (⟨"PrefixCodesModel", "clearEntries", "(II)V"⟩ : MethodName).cls ≠ "java/lang/invoke/MethodHandle" ∧ (⟨"PrefixCodesModel", "clearEntries", "(II)V"⟩ : MethodName).cls ≠ "java/lang/invoke/VarHandle" ∧ (parseMethodDescriptor (⟨"PrefixCodesModel", "clearEntries", "(II)V"⟩ : MethodName).desc).map (fun d => d.parameters.length) = some 2 := by decide +kernel
def y_Mo_part : MethodName := ⟨"PrefixCodesModel", "part", "(IIII)V"⟩
abbrev w_Mo_part : List Cond := Cond.code ⟨"PrefixCodesModel", "part", "(IIII)V"⟩ prog_13_method_48_code 11 none :: gW
abbrev rm_Mo_part : Room := { frames := 2, cells := 0, slots := 0, locals := 48 }
theorem yd_Mo_part : (⟨"PrefixCodesModel", "part", "(IIII)V"⟩ : MethodName).cls = "PrefixCodesModel" ∧ (⟨"PrefixCodesModel", "part", "(IIII)V"⟩ : MethodName).cls ≠ "java/lang/invoke/MethodHandle" ∧ (⟨"PrefixCodesModel", "part", "(IIII)V"⟩ : MethodName).cls ≠ "java/lang/invoke/VarHandle" ∧ (parseMethodDescriptor (⟨"PrefixCodesModel", "part", "(IIII)V"⟩ : MethodName).desc).map (fun d => d.parameters.length) = some 4 := by decide +kernel
def y_Mo_table : MethodName := ⟨"PrefixCodesModel", "table", "(II)I"⟩
abbrev w_Mo_table : List Cond := Cond.code ⟨"PrefixCodesModel", "table", "(II)I"⟩ prog_13_method_45_code 8 (some .int) :: gW
abbrev rm_Mo_table : Room := { frames := 3, cells := 0, slots := 0, locals := 78 }
theorem yd_Mo_table : (⟨"PrefixCodesModel", "table", "(II)I"⟩ : MethodName).cls = "PrefixCodesModel" ∧ (⟨"PrefixCodesModel", "table", "(II)I"⟩ : MethodName).cls ≠ "java/lang/invoke/MethodHandle" ∧ (⟨"PrefixCodesModel", "table", "(II)I"⟩ : MethodName).cls ≠ "java/lang/invoke/VarHandle" ∧ (parseMethodDescriptor (⟨"PrefixCodesModel", "table", "(II)I"⟩ : MethodName).desc).map (fun d => d.parameters.length) = some 2 := by decide +kernel
def y_Mo_entry : MethodName := ⟨"PrefixCodesModel", "entry", "(II)I"⟩
abbrev w_Mo_entry : List Cond := Cond.code ⟨"PrefixCodesModel", "entry", "(II)I"⟩ prog_13_method_49_code 3 (some .int) :: gW
abbrev rm_Mo_entry : Room := { frames := 0, cells := 0, slots := 0, locals := 0 }
theorem yd_Mo_entry : (⟨"PrefixCodesModel", "entry", "(II)I"⟩ : MethodName).cls = "PrefixCodesModel" ∧ (⟨"PrefixCodesModel", "entry", "(II)I"⟩ : MethodName).cls ≠ "java/lang/invoke/MethodHandle" ∧ (⟨"PrefixCodesModel", "entry", "(II)I"⟩ : MethodName).cls ≠ "java/lang/invoke/VarHandle" ∧ (parseMethodDescriptor (⟨"PrefixCodesModel", "entry", "(II)I"⟩ : MethodName).desc).map (fun d => d.parameters.length) = some 2 := by decide +kernel
def y_Mo_at : MethodName := ⟨"PrefixCodesModel", "at", "(IIIIII)I"⟩
abbrev w_Mo_at : List Cond := Cond.code ⟨"PrefixCodesModel", "at", "(IIIIII)I"⟩ prog_13_method_51_code 6 (some .int) :: gW
abbrev rm_Mo_at : Room := { frames := 0, cells := 0, slots := 0, locals := 0 }
theorem yd_Mo_at : (⟨"PrefixCodesModel", "at", "(IIIIII)I"⟩ : MethodName).cls = "PrefixCodesModel" ∧ (⟨"PrefixCodesModel", "at", "(IIIIII)I"⟩ : MethodName).cls ≠ "java/lang/invoke/MethodHandle" ∧ (⟨"PrefixCodesModel", "at", "(IIIIII)I"⟩ : MethodName).cls ≠ "java/lang/invoke/VarHandle" ∧ (parseMethodDescriptor (⟨"PrefixCodesModel", "at", "(IIIIII)I"⟩ : MethodName).desc).map (fun d => d.parameters.length) = some 6 := by decide +kernel
def y_Mo_add : MethodName := ⟨"PrefixCodesModel", "add", "(IIIII)I"⟩
abbrev w_Mo_add : List Cond := Cond.code ⟨"PrefixCodesModel", "add", "(IIIII)I"⟩ prog_13_method_50_code 8 (some .int) :: gW
abbrev rm_Mo_add : Room := { frames := 1, cells := 0, slots := 0, locals := 25 }
theorem yd_Mo_add : (⟨"PrefixCodesModel", "add", "(IIIII)I"⟩ : MethodName).cls = "PrefixCodesModel" ∧ (⟨"PrefixCodesModel", "add", "(IIIII)I"⟩ : MethodName).cls ≠ "java/lang/invoke/MethodHandle" ∧ (⟨"PrefixCodesModel", "add", "(IIIII)I"⟩ : MethodName).cls ≠ "java/lang/invoke/VarHandle" ∧ (parseMethodDescriptor (⟨"PrefixCodesModel", "add", "(IIIII)I"⟩ : MethodName).desc).map (fun d => d.parameters.length) = some 5 := by decide +kernel
def y_Mo_forget : MethodName := ⟨"PrefixCodesModel", "forget", "()I"⟩
abbrev w_Mo_forget : List Cond := Cond.code ⟨"PrefixCodesModel", "forget", "()I"⟩ prog_13_method_52_code 2 (some .int) :: gW
abbrev rm_Mo_forget : Room := { frames := 0, cells := 0, slots := 0, locals := 0 }
theorem yd_Mo_forget : (⟨"PrefixCodesModel", "forget", "()I"⟩ : MethodName).cls = "PrefixCodesModel" ∧ (⟨"PrefixCodesModel", "forget", "()I"⟩ : MethodName).cls ≠ "java/lang/invoke/MethodHandle" ∧ (⟨"PrefixCodesModel", "forget", "()I"⟩ : MethodName).cls ≠ "java/lang/invoke/VarHandle" ∧ (parseMethodDescriptor (⟨"PrefixCodesModel", "forget", "()I"⟩ : MethodName).desc).map (fun d => d.parameters.length) = some 0 := by decide +kernel
def y_Mo_groupOf : MethodName := ⟨"PrefixCodesModel", "groupOf", "(II)I"⟩
abbrev w_Mo_groupOf : List Cond := Cond.code ⟨"PrefixCodesModel", "groupOf", "(II)I"⟩ prog_13_method_53_code 3 (some .int) :: gW
abbrev rm_Mo_groupOf : Room := { frames := 0, cells := 0, slots := 0, locals := 0 }
theorem yd_Mo_groupOf : (⟨"PrefixCodesModel", "groupOf", "(II)I"⟩ : MethodName).cls = "PrefixCodesModel" ∧ (⟨"PrefixCodesModel", "groupOf", "(II)I"⟩ : MethodName).cls ≠ "java/lang/invoke/MethodHandle" ∧ (⟨"PrefixCodesModel", "groupOf", "(II)I"⟩ : MethodName).cls ≠ "java/lang/invoke/VarHandle" ∧ (parseMethodDescriptor (⟨"PrefixCodesModel", "groupOf", "(II)I"⟩ : MethodName).desc).map (fun d => d.parameters.length) = some 2 := by decide +kernel
def y_Mo_make : MethodName := ⟨"PrefixCodesModel", "make", "(I)V"⟩
abbrev w_Mo_make : List Cond := Cond.code ⟨"PrefixCodesModel", "make", "(I)V"⟩ prog_13_method_54_code 4 none :: gW
abbrev rm_Mo_make : Room := { frames := 2, cells := 0, slots := 0, locals := 61 }
theorem yd_Mo_make : (⟨"PrefixCodesModel", "make", "(I)V"⟩ : MethodName).cls = "PrefixCodesModel" ∧ (⟨"PrefixCodesModel", "make", "(I)V"⟩ : MethodName).cls ≠ "java/lang/invoke/MethodHandle" ∧ (⟨"PrefixCodesModel", "make", "(I)V"⟩ : MethodName).cls ≠ "java/lang/invoke/VarHandle" ∧ (parseMethodDescriptor (⟨"PrefixCodesModel", "make", "(I)V"⟩ : MethodName).desc).map (fun d => d.parameters.length) = some 1 := by decide +kernel
def y_Mo_best : MethodName := ⟨"PrefixCodesModel", "best", "(I)I"⟩
abbrev w_Mo_best : List Cond := Cond.code ⟨"PrefixCodesModel", "best", "(I)I"⟩ prog_13_method_56_code 7 (some .int) :: gW
abbrev rm_Mo_best : Room := { frames := 1, cells := 0, slots := 0, locals := 22 }
theorem yd_Mo_best : (⟨"PrefixCodesModel", "best", "(I)I"⟩ : MethodName).cls = "PrefixCodesModel" ∧ (⟨"PrefixCodesModel", "best", "(I)I"⟩ : MethodName).cls ≠ "java/lang/invoke/MethodHandle" ∧ (⟨"PrefixCodesModel", "best", "(I)I"⟩ : MethodName).cls ≠ "java/lang/invoke/VarHandle" ∧ (parseMethodDescriptor (⟨"PrefixCodesModel", "best", "(I)I"⟩ : MethodName).desc).map (fun d => d.parameters.length) = some 1 := by decide +kernel
def y_Mo_choose : MethodName := ⟨"PrefixCodesModel", "choose", "(IIII)I"⟩
abbrev w_Mo_choose : List Cond := Cond.code ⟨"PrefixCodesModel", "choose", "(IIII)I"⟩ prog_13_method_55_code 7 (some .int) :: gW
abbrev rm_Mo_choose : Room := { frames := 3, cells := 0, slots := 0, locals := 84 }
theorem yd_Mo_choose : (⟨"PrefixCodesModel", "choose", "(IIII)I"⟩ : MethodName).cls = "PrefixCodesModel" ∧ (⟨"PrefixCodesModel", "choose", "(IIII)I"⟩ : MethodName).cls ≠ "java/lang/invoke/MethodHandle" ∧ (⟨"PrefixCodesModel", "choose", "(IIII)I"⟩ : MethodName).cls ≠ "java/lang/invoke/VarHandle" ∧ (parseMethodDescriptor (⟨"PrefixCodesModel", "choose", "(IIII)I"⟩ : MethodName).desc).map (fun d => d.parameters.length) = some 4 := by decide +kernel
def y_Mo_group : MethodName := ⟨"PrefixCodesModel", "group", "(I)I"⟩
abbrev w_Mo_group : List Cond := Cond.code ⟨"PrefixCodesModel", "group", "(I)I"⟩ prog_13_method_57_code 2 (some .int) :: gW
abbrev rm_Mo_group : Room := { frames := 0, cells := 0, slots := 0, locals := 0 }
theorem yd_Mo_group : (⟨"PrefixCodesModel", "group", "(I)I"⟩ : MethodName).cls = "PrefixCodesModel" ∧ (⟨"PrefixCodesModel", "group", "(I)I"⟩ : MethodName).cls ≠ "java/lang/invoke/MethodHandle" ∧ (⟨"PrefixCodesModel", "group", "(I)I"⟩ : MethodName).cls ≠ "java/lang/invoke/VarHandle" ∧ (parseMethodDescriptor (⟨"PrefixCodesModel", "group", "(I)I"⟩ : MethodName).desc).map (fun d => d.parameters.length) = some 1 := by decide +kernel
def y_Mo_begin : MethodName := ⟨"PrefixCodesModel", "begin", "(I)V"⟩
abbrev w_Mo_begin : List Cond := Cond.code ⟨"PrefixCodesModel", "begin", "(I)V"⟩ prog_13_method_58_code 3 none :: gW
abbrev rm_Mo_begin : Room := { frames := 0, cells := 0, slots := 0, locals := 0 }
theorem yd_Mo_begin : (⟨"PrefixCodesModel", "begin", "(I)V"⟩ : MethodName).cls = "PrefixCodesModel" ∧ (⟨"PrefixCodesModel", "begin", "(I)V"⟩ : MethodName).cls ≠ "java/lang/invoke/MethodHandle" ∧ (⟨"PrefixCodesModel", "begin", "(I)V"⟩ : MethodName).cls ≠ "java/lang/invoke/VarHandle" ∧ (parseMethodDescriptor (⟨"PrefixCodesModel", "begin", "(I)V"⟩ : MethodName).desc).map (fun d => d.parameters.length) = some 1 := by decide +kernel
def y_Mo_front : MethodName := ⟨"PrefixCodesModel", "front", "(I)I"⟩
abbrev w_Mo_front : List Cond := Cond.code ⟨"PrefixCodesModel", "front", "(I)I"⟩ prog_13_method_59_code 4 (some .int) :: gW
abbrev rm_Mo_front : Room := { frames := 0, cells := 0, slots := 0, locals := 0 }
theorem yd_Mo_front : (⟨"PrefixCodesModel", "front", "(I)I"⟩ : MethodName).cls = "PrefixCodesModel" ∧ (⟨"PrefixCodesModel", "front", "(I)I"⟩ : MethodName).cls ≠ "java/lang/invoke/MethodHandle" ∧ (⟨"PrefixCodesModel", "front", "(I)I"⟩ : MethodName).cls ≠ "java/lang/invoke/VarHandle" ∧ (parseMethodDescriptor (⟨"PrefixCodesModel", "front", "(I)I"⟩ : MethodName).desc).map (fun d => d.parameters.length) = some 1 := by decide +kernel
def y_Mo_write : MethodName := ⟨"PrefixCodesModel", "write", "()I"⟩
abbrev w_Mo_write : List Cond := Cond.code ⟨"PrefixCodesModel", "write", "()I"⟩ prog_13_method_60_code 6 (some .int) :: gW
abbrev rm_Mo_write : Room := { frames := 3, cells := 0, slots := 0, locals := 68 }
theorem yd_Mo_write : (⟨"PrefixCodesModel", "write", "()I"⟩ : MethodName).cls = "PrefixCodesModel" ∧ (⟨"PrefixCodesModel", "write", "()I"⟩ : MethodName).cls ≠ "java/lang/invoke/MethodHandle" ∧ (⟨"PrefixCodesModel", "write", "()I"⟩ : MethodName).cls ≠ "java/lang/invoke/VarHandle" ∧ (parseMethodDescriptor (⟨"PrefixCodesModel", "write", "()I"⟩ : MethodName).desc).map (fun d => d.parameters.length) = some 0 := by decide +kernel
def y_Mo_read : MethodName := ⟨"PrefixCodesModel", "read", "(IIII)I"⟩
abbrev w_Mo_read : List Cond := Cond.code ⟨"PrefixCodesModel", "read", "(IIII)I"⟩ prog_13_method_61_code 9 (some .int) :: gW
abbrev rm_Mo_read : Room := { frames := 3, cells := 0, slots := 0, locals := 75 }
theorem yd_Mo_read : (⟨"PrefixCodesModel", "read", "(IIII)I"⟩ : MethodName).cls = "PrefixCodesModel" ∧ (⟨"PrefixCodesModel", "read", "(IIII)I"⟩ : MethodName).cls ≠ "java/lang/invoke/MethodHandle" ∧ (⟨"PrefixCodesModel", "read", "(IIII)I"⟩ : MethodName).cls ≠ "java/lang/invoke/VarHandle" ∧ (parseMethodDescriptor (⟨"PrefixCodesModel", "read", "(IIII)I"⟩ : MethodName).desc).map (fun d => d.parameters.length) = some 4 := by decide +kernel
def y_Mo_symbol : MethodName := ⟨"PrefixCodesModel", "symbol", "(I)I"⟩
abbrev w_Mo_symbol : List Cond := Cond.code ⟨"PrefixCodesModel", "symbol", "(I)I"⟩ prog_13_method_62_code 2 (some .int) :: gW
abbrev rm_Mo_symbol : Room := { frames := 0, cells := 0, slots := 0, locals := 0 }
theorem yd_Mo_symbol : (⟨"PrefixCodesModel", "symbol", "(I)I"⟩ : MethodName).cls = "PrefixCodesModel" ∧ (⟨"PrefixCodesModel", "symbol", "(I)I"⟩ : MethodName).cls ≠ "java/lang/invoke/MethodHandle" ∧ (⟨"PrefixCodesModel", "symbol", "(I)I"⟩ : MethodName).cls ≠ "java/lang/invoke/VarHandle" ∧ (parseMethodDescriptor (⟨"PrefixCodesModel", "symbol", "(I)I"⟩ : MethodName).desc).map (fun d => d.parameters.length) = some 1 := by decide +kernel
