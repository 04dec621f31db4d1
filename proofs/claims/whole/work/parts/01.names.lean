-- ===== PART A: goes FIRST, ahead of the names: the tables' words, and 'selects' of the private methods out of them =====
/-- a private method of a class that the tables say can be made, by its rows of tables_1 -/
def lw_okq (q : MethodName × Nat) : Prop := (q.1.cls ≠ "java/lang/invoke/MethodHandle" ∧ q.1.cls ≠ "java/lang/invoke/VarHandle") ∧ Cond.instantiable q.1.cls q.2 ∈ tables_1 ∧ Cond.privateMethod q.1 ∈ tables_1 ∧ Cond.instanceMethod q.1 ∈ tables_1
theorem lw_p0 : lw_okq (⟨"PrefixCodes", "keep", "(LPrefixCodes$Code;)I"⟩, 10) := ⟨⟨by decide +kernel, by decide +kernel⟩, List.mem_of_getElem? (i := 21) (by decide +kernel), List.mem_of_getElem? (i := 369) (by decide +kernel), List.mem_of_getElem? (i := 370) (by decide +kernel)⟩
theorem lw_p1 : lw_okq (⟨"PrefixCodes", "codeWith", "(II)LPrefixCodes$Code;"⟩, 10) := ⟨⟨by decide +kernel, by decide +kernel⟩, List.mem_of_getElem? (i := 21) (by decide +kernel), List.mem_of_getElem? (i := 377) (by decide +kernel), List.mem_of_getElem? (i := 378) (by decide +kernel)⟩
theorem lw_p2 : lw_okq (⟨"PrefixCodes", "codeAt", "(I)LPrefixCodes$Code;"⟩, 10) := ⟨⟨by decide +kernel, by decide +kernel⟩, List.mem_of_getElem? (i := 21) (by decide +kernel), List.mem_of_getElem? (i := 381) (by decide +kernel), List.mem_of_getElem? (i := 382) (by decide +kernel)⟩
theorem lw_p3 : lw_okq (⟨"PrefixCodes$Code", "countLengths", "()V"⟩, 11) := ⟨⟨by decide +kernel, by decide +kernel⟩, List.mem_of_getElem? (i := 97) (by decide +kernel), List.mem_of_getElem? (i := 389) (by decide +kernel), List.mem_of_getElem? (i := 390) (by decide +kernel)⟩
theorem lw_p4 : lw_okq (⟨"PrefixCodes$Code", "placeLengths", "()V"⟩, 11) := ⟨⟨by decide +kernel, by decide +kernel⟩, List.mem_of_getElem? (i := 97) (by decide +kernel), List.mem_of_getElem? (i := 396) (by decide +kernel), List.mem_of_getElem? (i := 397) (by decide +kernel)⟩
theorem lw_p5 : lw_okq (⟨"PrefixCodes$Code", "nameSymbols", "()V"⟩, 11) := ⟨⟨by decide +kernel, by decide +kernel⟩, List.mem_of_getElem? (i := 97) (by decide +kernel), List.mem_of_getElem? (i := 400) (by decide +kernel), List.mem_of_getElem? (i := 401) (by decide +kernel)⟩
theorem lw_p6 : lw_okq (⟨"PrefixCodes$Code", "judged", "()I"⟩, 11) := ⟨⟨by decide +kernel, by decide +kernel⟩, List.mem_of_getElem? (i := 97) (by decide +kernel), List.mem_of_getElem? (i := 404) (by decide +kernel), List.mem_of_getElem? (i := 405) (by decide +kernel)⟩
theorem lw_p7 : lw_okq (⟨"PrefixCodes", "countedBelow", "(I)I"⟩, 10) := ⟨⟨by decide +kernel, by decide +kernel⟩, List.mem_of_getElem? (i := 21) (by decide +kernel), List.mem_of_getElem? (i := 439) (by decide +kernel), List.mem_of_getElem? (i := 440) (by decide +kernel)⟩
theorem lw_p8 : lw_okq (⟨"PrefixCodes$Packages", "order", "([II)V"⟩, 6) := ⟨⟨by decide +kernel, by decide +kernel⟩, List.mem_of_getElem? (i := 55) (by decide +kernel), List.mem_of_getElem? (i := 452) (by decide +kernel), List.mem_of_getElem? (i := 453) (by decide +kernel)⟩
theorem lw_p9 : lw_okq (⟨"PrefixCodes$Packages", "insert", "(II)V"⟩, 6) := ⟨⟨by decide +kernel, by decide +kernel⟩, List.mem_of_getElem? (i := 55) (by decide +kernel), List.mem_of_getElem? (i := 456) (by decide +kernel), List.mem_of_getElem? (i := 457) (by decide +kernel)⟩
theorem lw_p10 : lw_okq (⟨"PrefixCodes$Packages", "makeFirstRow", "()V"⟩, 6) := ⟨⟨by decide +kernel, by decide +kernel⟩, List.mem_of_getElem? (i := 55) (by decide +kernel), List.mem_of_getElem? (i := 460) (by decide +kernel), List.mem_of_getElem? (i := 461) (by decide +kernel)⟩
theorem lw_p11 : lw_okq (⟨"PrefixCodes$Packages", "makeRow", "(I)V"⟩, 6) := ⟨⟨by decide +kernel, by decide +kernel⟩, List.mem_of_getElem? (i := 55) (by decide +kernel), List.mem_of_getElem? (i := 464) (by decide +kernel), List.mem_of_getElem? (i := 465) (by decide +kernel)⟩
theorem lw_p12 : lw_okq (⟨"PrefixCodes$Packages", "goBack", "(I[I)V"⟩, 6) := ⟨⟨by decide +kernel, by decide +kernel⟩, List.mem_of_getElem? (i := 55) (by decide +kernel), List.mem_of_getElem? (i := 468) (by decide +kernel), List.mem_of_getElem? (i := 469) (by decide +kernel)⟩
theorem lw_p13 : lw_okq (⟨"PrefixCodes", "putBits", "(II)I"⟩, 10) := ⟨⟨by decide +kernel, by decide +kernel⟩, List.mem_of_getElem? (i := 21) (by decide +kernel), List.mem_of_getElem? (i := 490) (by decide +kernel), List.mem_of_getElem? (i := 491) (by decide +kernel)⟩
theorem lw_p14 : lw_okq (⟨"PrefixCodes$Stream", "placeOf", "(I)I"⟩, 5) := ⟨⟨by decide +kernel, by decide +kernel⟩, List.mem_of_getElem? (i := 31) (by decide +kernel), List.mem_of_getElem? (i := 502) (by decide +kernel), List.mem_of_getElem? (i := 503) (by decide +kernel)⟩
theorem lw_p15 : lw_okq (⟨"PrefixCodes$Stream", "bitOf", "(I)I"⟩, 5) := ⟨⟨by decide +kernel, by decide +kernel⟩, List.mem_of_getElem? (i := 31) (by decide +kernel), List.mem_of_getElem? (i := 518) (by decide +kernel), List.mem_of_getElem? (i := 519) (by decide +kernel)⟩
def lw_privs_1 : List (MethodName × Nat) := [(⟨"PrefixCodes", "keep", "(LPrefixCodes$Code;)I"⟩, 10), (⟨"PrefixCodes", "codeWith", "(II)LPrefixCodes$Code;"⟩, 10), (⟨"PrefixCodes", "codeAt", "(I)LPrefixCodes$Code;"⟩, 10), (⟨"PrefixCodes$Code", "countLengths", "()V"⟩, 11), (⟨"PrefixCodes$Code", "placeLengths", "()V"⟩, 11), (⟨"PrefixCodes$Code", "nameSymbols", "()V"⟩, 11), (⟨"PrefixCodes$Code", "judged", "()I"⟩, 11), (⟨"PrefixCodes", "countedBelow", "(I)I"⟩, 10), (⟨"PrefixCodes$Packages", "order", "([II)V"⟩, 6), (⟨"PrefixCodes$Packages", "insert", "(II)V"⟩, 6), (⟨"PrefixCodes$Packages", "makeFirstRow", "()V"⟩, 6), (⟨"PrefixCodes$Packages", "makeRow", "(I)V"⟩, 6), (⟨"PrefixCodes$Packages", "goBack", "(I[I)V"⟩, 6), (⟨"PrefixCodes", "putBits", "(II)I"⟩, 10), (⟨"PrefixCodes$Stream", "placeOf", "(I)I"⟩, 5), (⟨"PrefixCodes$Stream", "bitOf", "(I)I"⟩, 5)]
theorem lw_r1 : ∀ q ∈ lw_privs_1, lw_okq q := List.forall_mem_cons.mpr ⟨lw_p0, List.forall_mem_cons.mpr ⟨lw_p1, List.forall_mem_cons.mpr ⟨lw_p2, List.forall_mem_cons.mpr ⟨lw_p3, List.forall_mem_cons.mpr ⟨lw_p4, List.forall_mem_cons.mpr ⟨lw_p5, List.forall_mem_cons.mpr ⟨lw_p6, List.forall_mem_cons.mpr ⟨lw_p7, List.forall_mem_cons.mpr ⟨lw_p8, List.forall_mem_cons.mpr ⟨lw_p9, List.forall_mem_cons.mpr ⟨lw_p10, List.forall_mem_cons.mpr ⟨lw_p11, List.forall_mem_cons.mpr ⟨lw_p12, List.forall_mem_cons.mpr ⟨lw_p13, List.forall_mem_cons.mpr ⟨lw_p14, List.forall_mem_cons.mpr ⟨lw_p15, fun _ h => absurd h List.not_mem_nil⟩⟩⟩⟩⟩⟩⟩⟩⟩⟩⟩⟩⟩⟩⟩⟩
theorem lw_p16 : lw_okq (⟨"PrefixCodes$Manners", "appendPlain", "(LPrefixCodes$Code;)V"⟩, 3) := ⟨⟨by decide +kernel, by decide +kernel⟩, List.mem_of_getElem? (i := 85) (by decide +kernel), List.mem_of_getElem? (i := 559) (by decide +kernel), List.mem_of_getElem? (i := 560) (by decide +kernel)⟩
theorem lw_p17 : lw_okq (⟨"PrefixCodes$Manners", "appendSteps", "(LPrefixCodes$Code;)V"⟩, 3) := ⟨⟨by decide +kernel, by decide +kernel⟩, List.mem_of_getElem? (i := 85) (by decide +kernel), List.mem_of_getElem? (i := 564) (by decide +kernel), List.mem_of_getElem? (i := 565) (by decide +kernel)⟩
theorem lw_p18 : lw_okq (⟨"PrefixCodes$Commands", "gather", "([II)V"⟩, 7) := ⟨⟨by decide +kernel, by decide +kernel⟩, List.mem_of_getElem? (i := 91) (by decide +kernel), List.mem_of_getElem? (i := 573) (by decide +kernel), List.mem_of_getElem? (i := 574) (by decide +kernel)⟩
theorem lw_p19 : lw_okq (⟨"PrefixCodes$Commands", "appendCode", "()V"⟩, 7) := ⟨⟨by decide +kernel, by decide +kernel⟩, List.mem_of_getElem? (i := 91) (by decide +kernel), List.mem_of_getElem? (i := 595) (by decide +kernel), List.mem_of_getElem? (i := 596) (by decide +kernel)⟩
theorem lw_p20 : lw_okq (⟨"PrefixCodes$Manners", "removePlain", "(I)I"⟩, 3) := ⟨⟨by decide +kernel, by decide +kernel⟩, List.mem_of_getElem? (i := 85) (by decide +kernel), List.mem_of_getElem? (i := 616) (by decide +kernel), List.mem_of_getElem? (i := 617) (by decide +kernel)⟩
theorem lw_p21 : lw_okq (⟨"PrefixCodes$Manners", "removeSteps", "(I)I"⟩, 3) := ⟨⟨by decide +kernel, by decide +kernel⟩, List.mem_of_getElem? (i := 85) (by decide +kernel), List.mem_of_getElem? (i := 621) (by decide +kernel), List.mem_of_getElem? (i := 622) (by decide +kernel)⟩
theorem lw_p22 : lw_okq (⟨"PrefixCodes$Manners", "stepsFrom", "(I)I"⟩, 3) := ⟨⟨by decide +kernel, by decide +kernel⟩, List.mem_of_getElem? (i := 85) (by decide +kernel), List.mem_of_getElem? (i := 625) (by decide +kernel), List.mem_of_getElem? (i := 626) (by decide +kernel)⟩
theorem lw_p23 : lw_okq (⟨"PrefixCodes$Commands", "removeCode", "()I"⟩, 7) := ⟨⟨by decide +kernel, by decide +kernel⟩, List.mem_of_getElem? (i := 91) (by decide +kernel), List.mem_of_getElem? (i := 635) (by decide +kernel), List.mem_of_getElem? (i := 636) (by decide +kernel)⟩
theorem lw_p24 : lw_okq (⟨"PrefixCodes$Commands", "removeCommand", "([III)I"⟩, 7) := ⟨⟨by decide +kernel, by decide +kernel⟩, List.mem_of_getElem? (i := 91) (by decide +kernel), List.mem_of_getElem? (i := 641) (by decide +kernel), List.mem_of_getElem? (i := 642) (by decide +kernel)⟩
theorem lw_p25 : lw_okq (⟨"PrefixCodes$Table", "extendParts", "(II)V"⟩, 10) := ⟨⟨by decide +kernel, by decide +kernel⟩, List.mem_of_getElem? (i := 190) (by decide +kernel), List.mem_of_getElem? (i := 661) (by decide +kernel), List.mem_of_getElem? (i := 662) (by decide +kernel)⟩
theorem lw_p26 : lw_okq (⟨"PrefixCodes$Choice", "fitCodes", "(LPrefixCodes$Packages;I)V"⟩, 9) := ⟨⟨by decide +kernel, by decide +kernel⟩, List.mem_of_getElem? (i := 252) (by decide +kernel), List.mem_of_getElem? (i := 696) (by decide +kernel), List.mem_of_getElem? (i := 697) (by decide +kernel)⟩
theorem lw_p27 : lw_okq (⟨"PrefixCodes$Choice", "countFor", "(I)V"⟩, 9) := ⟨⟨by decide +kernel, by decide +kernel⟩, List.mem_of_getElem? (i := 252) (by decide +kernel), List.mem_of_getElem? (i := 700) (by decide +kernel), List.mem_of_getElem? (i := 701) (by decide +kernel)⟩
theorem lw_p28 : lw_okq (⟨"PrefixCodes$Choice", "endOf", "(I)I"⟩, 9) := ⟨⟨by decide +kernel, by decide +kernel⟩, List.mem_of_getElem? (i := 252) (by decide +kernel), List.mem_of_getElem? (i := 705) (by decide +kernel), List.mem_of_getElem? (i := 706) (by decide +kernel)⟩
theorem lw_p29 : lw_okq (⟨"PrefixCodes$Choice", "regroup", "()V"⟩, 9) := ⟨⟨by decide +kernel, by decide +kernel⟩, List.mem_of_getElem? (i := 252) (by decide +kernel), List.mem_of_getElem? (i := 711) (by decide +kernel), List.mem_of_getElem? (i := 712) (by decide +kernel)⟩
theorem lw_p30 : lw_okq (⟨"PrefixCodes$Choice", "bitsBy", "(II)I"⟩, 9) := ⟨⟨by decide +kernel, by decide +kernel⟩, List.mem_of_getElem? (i := 252) (by decide +kernel), List.mem_of_getElem? (i := 715) (by decide +kernel), List.mem_of_getElem? (i := 716) (by decide +kernel)⟩
theorem lw_p31 : lw_okq (⟨"PrefixCodes$Selectors", "moveAhead", "(I)V"⟩, 2) := ⟨⟨by decide +kernel, by decide +kernel⟩, List.mem_of_getElem? (i := 259) (by decide +kernel), List.mem_of_getElem? (i := 745) (by decide +kernel), List.mem_of_getElem? (i := 746) (by decide +kernel)⟩
def lw_privs_2 : List (MethodName × Nat) := [(⟨"PrefixCodes$Manners", "appendPlain", "(LPrefixCodes$Code;)V"⟩, 3), (⟨"PrefixCodes$Manners", "appendSteps", "(LPrefixCodes$Code;)V"⟩, 3), (⟨"PrefixCodes$Commands", "gather", "([II)V"⟩, 7), (⟨"PrefixCodes$Commands", "appendCode", "()V"⟩, 7), (⟨"PrefixCodes$Manners", "removePlain", "(I)I"⟩, 3), (⟨"PrefixCodes$Manners", "removeSteps", "(I)I"⟩, 3), (⟨"PrefixCodes$Manners", "stepsFrom", "(I)I"⟩, 3), (⟨"PrefixCodes$Commands", "removeCode", "()I"⟩, 7), (⟨"PrefixCodes$Commands", "removeCommand", "([III)I"⟩, 7), (⟨"PrefixCodes$Table", "extendParts", "(II)V"⟩, 10), (⟨"PrefixCodes$Choice", "fitCodes", "(LPrefixCodes$Packages;I)V"⟩, 9), (⟨"PrefixCodes$Choice", "countFor", "(I)V"⟩, 9), (⟨"PrefixCodes$Choice", "endOf", "(I)I"⟩, 9), (⟨"PrefixCodes$Choice", "regroup", "()V"⟩, 9), (⟨"PrefixCodes$Choice", "bitsBy", "(II)I"⟩, 9), (⟨"PrefixCodes$Selectors", "moveAhead", "(I)V"⟩, 2)]
theorem lw_r2 : ∀ q ∈ lw_privs_2, lw_okq q := List.forall_mem_cons.mpr ⟨lw_p16, List.forall_mem_cons.mpr ⟨lw_p17, List.forall_mem_cons.mpr ⟨lw_p18, List.forall_mem_cons.mpr ⟨lw_p19, List.forall_mem_cons.mpr ⟨lw_p20, List.forall_mem_cons.mpr ⟨lw_p21, List.forall_mem_cons.mpr ⟨lw_p22, List.forall_mem_cons.mpr ⟨lw_p23, List.forall_mem_cons.mpr ⟨lw_p24, List.forall_mem_cons.mpr ⟨lw_p25, List.forall_mem_cons.mpr ⟨lw_p26, List.forall_mem_cons.mpr ⟨lw_p27, List.forall_mem_cons.mpr ⟨lw_p28, List.forall_mem_cons.mpr ⟨lw_p29, List.forall_mem_cons.mpr ⟨lw_p30, List.forall_mem_cons.mpr ⟨lw_p31, fun _ h => absurd h List.not_mem_nil⟩⟩⟩⟩⟩⟩⟩⟩⟩⟩⟩⟩⟩⟩⟩⟩
theorem lw_p32 : lw_okq (⟨"java/lang/Throwable", "fillInStackTrace", "(I)Ljava/lang/Throwable;"⟩, 6) := ⟨⟨by decide +kernel, by decide +kernel⟩, List.mem_of_getElem? (i := 817) (by decide +kernel), List.mem_of_getElem? (i := 815) (by decide +kernel), List.mem_of_getElem? (i := 816) (by decide +kernel)⟩
theorem lw_p33 : lw_okq (⟨"PrefixCodes$Table", "partWithPrefix", "(I)I"⟩, 10) := ⟨⟨by decide +kernel, by decide +kernel⟩, List.mem_of_getElem? (i := 190) (by decide +kernel), List.mem_of_getElem? (i := 860) (by decide +kernel), List.mem_of_getElem? (i := 861) (by decide +kernel)⟩
theorem lw_p34 : lw_okq (⟨"PrefixCodes$Table", "wordFor", "(II)I"⟩, 10) := ⟨⟨by decide +kernel, by decide +kernel⟩, List.mem_of_getElem? (i := 190) (by decide +kernel), List.mem_of_getElem? (i := 867) (by decide +kernel), List.mem_of_getElem? (i := 868) (by decide +kernel)⟩
theorem lw_p35 : lw_okq (⟨"PrefixCodes$Table", "tellWord", "(II)I"⟩, 10) := ⟨⟨by decide +kernel, by decide +kernel⟩, List.mem_of_getElem? (i := 190) (by decide +kernel), List.mem_of_getElem? (i := 871) (by decide +kernel), List.mem_of_getElem? (i := 872) (by decide +kernel)⟩
theorem lw_p36 : lw_okq (⟨"PrefixCodes$Table", "partAround", "(I)I"⟩, 10) := ⟨⟨by decide +kernel, by decide +kernel⟩, List.mem_of_getElem? (i := 190) (by decide +kernel), List.mem_of_getElem? (i := 875) (by decide +kernel), List.mem_of_getElem? (i := 876) (by decide +kernel)⟩
theorem lw_p37 : lw_okq (⟨"PrefixCodesModel", "made", "(I)I"⟩, 33) := ⟨⟨by decide +kernel, by decide +kernel⟩, List.mem_of_getElem? (i := 887) (by decide +kernel), List.mem_of_getElem? (i := 1003) (by decide +kernel), List.mem_of_getElem? (i := 1004) (by decide +kernel)⟩
theorem lw_p38 : lw_okq (⟨"PrefixCodesModel", "hasSymbol", "(II)Z"⟩, 33) := ⟨⟨by decide +kernel, by decide +kernel⟩, List.mem_of_getElem? (i := 887) (by decide +kernel), List.mem_of_getElem? (i := 1011) (by decide +kernel), List.mem_of_getElem? (i := 1012) (by decide +kernel)⟩
theorem lw_p39 : lw_okq (⟨"PrefixCodesModel", "has", "(I)Z"⟩, 33) := ⟨⟨by decide +kernel, by decide +kernel⟩, List.mem_of_getElem? (i := 887) (by decide +kernel), List.mem_of_getElem? (i := 1015) (by decide +kernel), List.mem_of_getElem? (i := 1016) (by decide +kernel)⟩
theorem lw_p40 : lw_okq (⟨"PrefixCodesModel", "lengthOf", "(II)I"⟩, 33) := ⟨⟨by decide +kernel, by decide +kernel⟩, List.mem_of_getElem? (i := 887) (by decide +kernel), List.mem_of_getElem? (i := 1019) (by decide +kernel), List.mem_of_getElem? (i := 1020) (by decide +kernel)⟩
theorem lw_p41 : lw_okq (⟨"PrefixCodesModel", "kind", "(I)I"⟩, 33) := ⟨⟨by decide +kernel, by decide +kernel⟩, List.mem_of_getElem? (i := 887) (by decide +kernel), List.mem_of_getElem? (i := 1027) (by decide +kernel), List.mem_of_getElem? (i := 1028) (by decide +kernel)⟩
theorem lw_p42 : lw_okq (⟨"PrefixCodesModel", "words", "(I)I"⟩, 33) := ⟨⟨by decide +kernel, by decide +kernel⟩, List.mem_of_getElem? (i := 887) (by decide +kernel), List.mem_of_getElem? (i := 1031) (by decide +kernel), List.mem_of_getElem? (i := 1032) (by decide +kernel)⟩
theorem lw_p43 : lw_okq (⟨"PrefixCodesModel", "filled", "(I)I"⟩, 33) := ⟨⟨by decide +kernel, by decide +kernel⟩, List.mem_of_getElem? (i := 887) (by decide +kernel), List.mem_of_getElem? (i := 1035) (by decide +kernel), List.mem_of_getElem? (i := 1036) (by decide +kernel)⟩
theorem lw_p44 : lw_okq (⟨"PrefixCodesModel", "longest", "(I)I"⟩, 33) := ⟨⟨by decide +kernel, by decide +kernel⟩, List.mem_of_getElem? (i := 887) (by decide +kernel), List.mem_of_getElem? (i := 1040) (by decide +kernel), List.mem_of_getElem? (i := 1041) (by decide +kernel)⟩
theorem lw_p45 : lw_okq (⟨"PrefixCodesModel", "wordOf", "(II)I"⟩, 33) := ⟨⟨by decide +kernel, by decide +kernel⟩, List.mem_of_getElem? (i := 887) (by decide +kernel), List.mem_of_getElem? (i := 1048) (by decide +kernel), List.mem_of_getElem? (i := 1049) (by decide +kernel)⟩
theorem lw_p46 : lw_okq (⟨"PrefixCodesModel", "packages", "(III)V"⟩, 33) := ⟨⟨by decide +kernel, by decide +kernel⟩, List.mem_of_getElem? (i := 887) (by decide +kernel), List.mem_of_getElem? (i := 1071) (by decide +kernel), List.mem_of_getElem? (i := 1072) (by decide +kernel)⟩
theorem lw_p47 : lw_okq (⟨"PrefixCodesModel", "join", "(II)V"⟩, 33) := ⟨⟨by decide +kernel, by decide +kernel⟩, List.mem_of_getElem? (i := 887) (by decide +kernel), List.mem_of_getElem? (i := 1075) (by decide +kernel), List.mem_of_getElem? (i := 1076) (by decide +kernel)⟩
def lw_privs_3 : List (MethodName × Nat) := [(⟨"java/lang/Throwable", "fillInStackTrace", "(I)Ljava/lang/Throwable;"⟩, 6), (⟨"PrefixCodes$Table", "partWithPrefix", "(I)I"⟩, 10), (⟨"PrefixCodes$Table", "wordFor", "(II)I"⟩, 10), (⟨"PrefixCodes$Table", "tellWord", "(II)I"⟩, 10), (⟨"PrefixCodes$Table", "partAround", "(I)I"⟩, 10), (⟨"PrefixCodesModel", "made", "(I)I"⟩, 33), (⟨"PrefixCodesModel", "hasSymbol", "(II)Z"⟩, 33), (⟨"PrefixCodesModel", "has", "(I)Z"⟩, 33), (⟨"PrefixCodesModel", "lengthOf", "(II)I"⟩, 33), (⟨"PrefixCodesModel", "kind", "(I)I"⟩, 33), (⟨"PrefixCodesModel", "words", "(I)I"⟩, 33), (⟨"PrefixCodesModel", "filled", "(I)I"⟩, 33), (⟨"PrefixCodesModel", "longest", "(I)I"⟩, 33), (⟨"PrefixCodesModel", "wordOf", "(II)I"⟩, 33), (⟨"PrefixCodesModel", "packages", "(III)V"⟩, 33), (⟨"PrefixCodesModel", "join", "(II)V"⟩, 33)]
theorem lw_r3 : ∀ q ∈ lw_privs_3, lw_okq q := List.forall_mem_cons.mpr ⟨lw_p32, List.forall_mem_cons.mpr ⟨lw_p33, List.forall_mem_cons.mpr ⟨lw_p34, List.forall_mem_cons.mpr ⟨lw_p35, List.forall_mem_cons.mpr ⟨lw_p36, List.forall_mem_cons.mpr ⟨lw_p37, List.forall_mem_cons.mpr ⟨lw_p38, List.forall_mem_cons.mpr ⟨lw_p39, List.forall_mem_cons.mpr ⟨lw_p40, List.forall_mem_cons.mpr ⟨lw_p41, List.forall_mem_cons.mpr ⟨lw_p42, List.forall_mem_cons.mpr ⟨lw_p43, List.forall_mem_cons.mpr ⟨lw_p44, List.forall_mem_cons.mpr ⟨lw_p45, List.forall_mem_cons.mpr ⟨lw_p46, List.forall_mem_cons.mpr ⟨lw_p47, fun _ h => absurd h List.not_mem_nil⟩⟩⟩⟩⟩⟩⟩⟩⟩⟩⟩⟩⟩⟩⟩⟩
theorem lw_p48 : lw_okq (⟨"PrefixCodesModel", "hasRoom", "(I)Z"⟩, 33) := ⟨⟨by decide +kernel, by decide +kernel⟩, List.mem_of_getElem? (i := 887) (by decide +kernel), List.mem_of_getElem? (i := 1100) (by decide +kernel), List.mem_of_getElem? (i := 1101) (by decide +kernel)⟩
theorem lw_p49 : lw_okq (⟨"PrefixCodesModel", "putBits", "(II)V"⟩, 33) := ⟨⟨by decide +kernel, by decide +kernel⟩, List.mem_of_getElem? (i := 887) (by decide +kernel), List.mem_of_getElem? (i := 1104) (by decide +kernel), List.mem_of_getElem? (i := 1105) (by decide +kernel)⟩
theorem lw_p50 : lw_okq (⟨"PrefixCodesModel", "taken", "(IZ)I"⟩, 33) := ⟨⟨by decide +kernel, by decide +kernel⟩, List.mem_of_getElem? (i := 887) (by decide +kernel), List.mem_of_getElem? (i := 1121) (by decide +kernel), List.mem_of_getElem? (i := 1122) (by decide +kernel)⟩
theorem lw_p51 : lw_okq (⟨"PrefixCodesModel", "packed", "(IIZ)I"⟩, 33) := ⟨⟨by decide +kernel, by decide +kernel⟩, List.mem_of_getElem? (i := 887) (by decide +kernel), List.mem_of_getElem? (i := 1129) (by decide +kernel), List.mem_of_getElem? (i := 1130) (by decide +kernel)⟩
theorem lw_p52 : lw_okq (⟨"PrefixCodesModel", "runs", "(IZ)I"⟩, 33) := ⟨⟨by decide +kernel, by decide +kernel⟩, List.mem_of_getElem? (i := 887) (by decide +kernel), List.mem_of_getElem? (i := 1133) (by decide +kernel), List.mem_of_getElem? (i := 1134) (by decide +kernel)⟩
theorem lw_p53 : lw_okq (⟨"PrefixCodesModel", "fillCommands", "(I)V"⟩, 33) := ⟨⟨by decide +kernel, by decide +kernel⟩, List.mem_of_getElem? (i := 887) (by decide +kernel), List.mem_of_getElem? (i := 1137) (by decide +kernel), List.mem_of_getElem? (i := 1138) (by decide +kernel)⟩
theorem lw_p54 : lw_okq (⟨"PrefixCodesModel", "tell", "(II)V"⟩, 33) := ⟨⟨by decide +kernel, by decide +kernel⟩, List.mem_of_getElem? (i := 887) (by decide +kernel), List.mem_of_getElem? (i := 1141) (by decide +kernel), List.mem_of_getElem? (i := 1142) (by decide +kernel)⟩
theorem lw_p55 : lw_okq (⟨"PrefixCodesModel", "plain", "(I)I"⟩, 33) := ⟨⟨by decide +kernel, by decide +kernel⟩, List.mem_of_getElem? (i := 887) (by decide +kernel), List.mem_of_getElem? (i := 1155) (by decide +kernel), List.mem_of_getElem? (i := 1156) (by decide +kernel)⟩
theorem lw_p56 : lw_okq (⟨"PrefixCodesModel", "steps", "(I)I"⟩, 33) := ⟨⟨by decide +kernel, by decide +kernel⟩, List.mem_of_getElem? (i := 887) (by decide +kernel), List.mem_of_getElem? (i := 1160) (by decide +kernel), List.mem_of_getElem? (i := 1161) (by decide +kernel)⟩
theorem lw_p57 : lw_okq (⟨"PrefixCodesModel", "readRuns", "(I)I"⟩, 33) := ⟨⟨by decide +kernel, by decide +kernel⟩, List.mem_of_getElem? (i := 887) (by decide +kernel), List.mem_of_getElem? (i := 1164) (by decide +kernel), List.mem_of_getElem? (i := 1165) (by decide +kernel)⟩
theorem lw_p58 : lw_okq (⟨"PrefixCodesModel", "clearEntries", "(II)V"⟩, 33) := ⟨⟨by decide +kernel, by decide +kernel⟩, List.mem_of_getElem? (i := 887) (by decide +kernel), List.mem_of_getElem? (i := 1172) (by decide +kernel), List.mem_of_getElem? (i := 1173) (by decide +kernel)⟩
theorem lw_p59 : lw_okq (⟨"PrefixCodesModel", "putEntry", "(IIII)V"⟩, 33) := ⟨⟨by decide +kernel, by decide +kernel⟩, List.mem_of_getElem? (i := 887) (by decide +kernel), List.mem_of_getElem? (i := 1176) (by decide +kernel), List.mem_of_getElem? (i := 1177) (by decide +kernel)⟩
theorem lw_p60 : lw_okq (⟨"PrefixCodesModel", "part", "(IIII)V"⟩, 33) := ⟨⟨by decide +kernel, by decide +kernel⟩, List.mem_of_getElem? (i := 887) (by decide +kernel), List.mem_of_getElem? (i := 1180) (by decide +kernel), List.mem_of_getElem? (i := 1181) (by decide +kernel)⟩
theorem lw_p61 : lw_okq (⟨"PrefixCodesModel", "groupOf", "(II)I"⟩, 33) := ⟨⟨by decide +kernel, by decide +kernel⟩, List.mem_of_getElem? (i := 887) (by decide +kernel), List.mem_of_getElem? (i := 1203) (by decide +kernel), List.mem_of_getElem? (i := 1204) (by decide +kernel)⟩
theorem lw_p62 : lw_okq (⟨"PrefixCodesModel", "make", "(I)V"⟩, 33) := ⟨⟨by decide +kernel, by decide +kernel⟩, List.mem_of_getElem? (i := 887) (by decide +kernel), List.mem_of_getElem? (i := 1207) (by decide +kernel), List.mem_of_getElem? (i := 1208) (by decide +kernel)⟩
theorem lw_p63 : lw_okq (⟨"PrefixCodesModel", "best", "(I)I"⟩, 33) := ⟨⟨by decide +kernel, by decide +kernel⟩, List.mem_of_getElem? (i := 887) (by decide +kernel), List.mem_of_getElem? (i := 1211) (by decide +kernel), List.mem_of_getElem? (i := 1212) (by decide +kernel)⟩
def lw_privs_4 : List (MethodName × Nat) := [(⟨"PrefixCodesModel", "hasRoom", "(I)Z"⟩, 33), (⟨"PrefixCodesModel", "putBits", "(II)V"⟩, 33), (⟨"PrefixCodesModel", "taken", "(IZ)I"⟩, 33), (⟨"PrefixCodesModel", "packed", "(IIZ)I"⟩, 33), (⟨"PrefixCodesModel", "runs", "(IZ)I"⟩, 33), (⟨"PrefixCodesModel", "fillCommands", "(I)V"⟩, 33), (⟨"PrefixCodesModel", "tell", "(II)V"⟩, 33), (⟨"PrefixCodesModel", "plain", "(I)I"⟩, 33), (⟨"PrefixCodesModel", "steps", "(I)I"⟩, 33), (⟨"PrefixCodesModel", "readRuns", "(I)I"⟩, 33), (⟨"PrefixCodesModel", "clearEntries", "(II)V"⟩, 33), (⟨"PrefixCodesModel", "putEntry", "(IIII)V"⟩, 33), (⟨"PrefixCodesModel", "part", "(IIII)V"⟩, 33), (⟨"PrefixCodesModel", "groupOf", "(II)I"⟩, 33), (⟨"PrefixCodesModel", "make", "(I)V"⟩, 33), (⟨"PrefixCodesModel", "best", "(I)I"⟩, 33)]
theorem lw_r4 : ∀ q ∈ lw_privs_4, lw_okq q := List.forall_mem_cons.mpr ⟨lw_p48, List.forall_mem_cons.mpr ⟨lw_p49, List.forall_mem_cons.mpr ⟨lw_p50, List.forall_mem_cons.mpr ⟨lw_p51, List.forall_mem_cons.mpr ⟨lw_p52, List.forall_mem_cons.mpr ⟨lw_p53, List.forall_mem_cons.mpr ⟨lw_p54, List.forall_mem_cons.mpr ⟨lw_p55, List.forall_mem_cons.mpr ⟨lw_p56, List.forall_mem_cons.mpr ⟨lw_p57, List.forall_mem_cons.mpr ⟨lw_p58, List.forall_mem_cons.mpr ⟨lw_p59, List.forall_mem_cons.mpr ⟨lw_p60, List.forall_mem_cons.mpr ⟨lw_p61, List.forall_mem_cons.mpr ⟨lw_p62, List.forall_mem_cons.mpr ⟨lw_p63, fun _ h => absurd h List.not_mem_nil⟩⟩⟩⟩⟩⟩⟩⟩⟩⟩⟩⟩⟩⟩⟩⟩
theorem lw_p64 : lw_okq (⟨"PrefixCodesModel", "begin", "(I)V"⟩, 33) := ⟨⟨by decide +kernel, by decide +kernel⟩, List.mem_of_getElem? (i := 887) (by decide +kernel), List.mem_of_getElem? (i := 1223) (by decide +kernel), List.mem_of_getElem? (i := 1224) (by decide +kernel)⟩
theorem lw_p65 : lw_okq (⟨"PrefixCodesModel", "front", "(I)I"⟩, 33) := ⟨⟨by decide +kernel, by decide +kernel⟩, List.mem_of_getElem? (i := 887) (by decide +kernel), List.mem_of_getElem? (i := 1227) (by decide +kernel), List.mem_of_getElem? (i := 1228) (by decide +kernel)⟩
def lw_privs_5 : List (MethodName × Nat) := [(⟨"PrefixCodesModel", "begin", "(I)V"⟩, 33), (⟨"PrefixCodesModel", "front", "(I)I"⟩, 33)]
theorem lw_r5 : ∀ q ∈ lw_privs_5, lw_okq q := List.forall_mem_cons.mpr ⟨lw_p64, List.forall_mem_cons.mpr ⟨lw_p65, fun _ h => absurd h List.not_mem_nil⟩⟩
def lw_privs : List (MethodName × Nat) := lw_privs_1 ++ (lw_privs_2 ++ (lw_privs_3 ++ (lw_privs_4 ++ (lw_privs_5))))
def lw_tbl : List Cond := k2_sels lw_privs ++ tables_1
theorem lw_privs_ok : ∀ q ∈ lw_privs, lw_okq q := by
  show ∀ q ∈ lw_privs_1 ++ (lw_privs_2 ++ (lw_privs_3 ++ (lw_privs_4 ++ (lw_privs_5)))), lw_okq q
  exact List.forall_mem_append.mpr ⟨lw_r1, List.forall_mem_append.mpr ⟨lw_r2, List.forall_mem_append.mpr ⟨lw_r3, List.forall_mem_append.mpr ⟨lw_r4, lw_r5⟩⟩⟩⟩
-- ===== end of PART A; then your names; then what follows =====
def F_PC : u_T := fun k => match k with
  | 0 => ("PrefixCodes", "codes", "[LPrefixCodes$Code;", true)
  | 1 => ("PrefixCodes", "codesMade", "I", false)
  | 2 => ("PrefixCodes", "counts", "[I", true)
  | 3 => ("PrefixCodes", "stream", "LPrefixCodes$Stream;", true)
  | 4 => ("PrefixCodes", "packages", "LPrefixCodes$Packages;", true)
  | 5 => ("PrefixCodes", "manners", "LPrefixCodes$Manners;", true)
  | 6 => ("PrefixCodes", "lastTable", "LPrefixCodes$Table;", true)
  | 7 => ("PrefixCodes", "text", "LPrefixCodes$Text;", true)
  | 8 => ("PrefixCodes", "choice", "LPrefixCodes$Choice;", true)
  | _ => ("PrefixCodes", "reader", "LPrefixCodes$Reader;", true)
def t_PC : Nat → FieldType := fun k => match k with
  | 0 => .array (.object "PrefixCodes$Code")
  | 1 => .int
  | 2 => .array .int
  | 3 => .object "PrefixCodes$Stream"
  | 4 => .object "PrefixCodes$Packages"
  | 5 => .object "PrefixCodes$Manners"
  | 6 => .object "PrefixCodes$Table"
  | 7 => .object "PrefixCodes$Text"
  | 8 => .object "PrefixCodes$Choice"
  | _ => .object "PrefixCodes$Reader"
theorem n_PC : ∀ a, a < 10 → ∀ b, b < 10 → a ≠ b → (F_PC a).2.1 ≠ (F_PC b).2.1 := by decide +kernel
theorem t_PC_ok : ∀ k, k < 10 → parseFieldDescriptor (F_PC k).2.2.1 = some (t_PC k) := by decide +kernel
def F_Mo : u_T := fun k => match k with
  | 0 => ("PrefixCodesModel", "thrown", "I", false)
  | 1 => ("PrefixCodesModel", "codes", "I", false)
  | 2 => ("PrefixCodesModel", "symbols", "[I", true)
  | 3 => ("PrefixCodesModel", "lengths", "[I", true)
  | 4 => ("PrefixCodesModel", "counts", "[I", true)
  | 5 => ("PrefixCodesModel", "weight", "[J", true)
  | 6 => ("PrefixCodesModel", "item", "[I", true)
  | 7 => ("PrefixCodesModel", "often", "[I", true)
  | 8 => ("PrefixCodesModel", "rowSize", "[I", true)
  | 9 => ("PrefixCodesModel", "given", "[I", true)
  | 10 => ("PrefixCodesModel", "stream", "[B", true)
  | 11 => ("PrefixCodesModel", "from", "I", false)
  | 12 => ("PrefixCodesModel", "to", "I", false)
  | 13 => ("PrefixCodesModel", "command", "[I", true)
  | 14 => ("PrefixCodesModel", "more", "[I", true)
  | 15 => ("PrefixCodesModel", "commands", "I", false)
  | 16 => ("PrefixCodesModel", "read", "[I", true)
  | 17 => ("PrefixCodesModel", "entryKind", "[B", true)
  | 18 => ("PrefixCodesModel", "entryWhat", "[I", true)
  | 19 => ("PrefixCodesModel", "entryBits", "[I", true)
  | 20 => ("PrefixCodesModel", "entries", "I", false)
  | 21 => ("PrefixCodesModel", "text", "[I", true)
  | 22 => ("PrefixCodesModel", "textSize", "I", false)
  | 23 => ("PrefixCodesModel", "chosen", "I", false)
  | 24 => ("PrefixCodesModel", "chosenCodes", "I", false)
  | 25 => ("PrefixCodesModel", "chosenSize", "I", false)
  | 26 => ("PrefixCodesModel", "groups", "I", false)
  | 27 => ("PrefixCodesModel", "groupCode", "[I", true)
  | 28 => ("PrefixCodesModel", "then", "[I", true)
  | 29 => ("PrefixCodesModel", "thenSize", "I", false)
  | 30 => ("PrefixCodesModel", "places", "[I", true)
  | 31 => ("PrefixCodesModel", "readGroup", "[I", true)
  | _ => ("PrefixCodesModel", "readText", "[I", true)
def t_Mo : Nat → FieldType := fun k => match k with
  | 0 => .int
  | 1 => .int
  | 2 => .array .int
  | 3 => .array .int
  | 4 => .array .int
  | 5 => .array .long
  | 6 => .array .int
  | 7 => .array .int
  | 8 => .array .int
  | 9 => .array .int
  | 10 => .array .byte
  | 11 => .int
  | 12 => .int
  | 13 => .array .int
  | 14 => .array .int
  | 15 => .int
  | 16 => .array .int
  | 17 => .array .byte
  | 18 => .array .int
  | 19 => .array .int
  | 20 => .int
  | 21 => .array .int
  | 22 => .int
  | 23 => .int
  | 24 => .int
  | 25 => .int
  | 26 => .int
  | 27 => .array .int
  | 28 => .array .int
  | 29 => .int
  | 30 => .array .int
  | 31 => .array .int
  | _ => .array .int
theorem n_Mo : ∀ a, a < 33 → ∀ b, b < 33 → a ≠ b → (F_Mo a).2.1 ≠ (F_Mo b).2.1 := by decide +kernel
theorem t_Mo_ok : ∀ k, k < 33 → parseFieldDescriptor (F_Mo k).2.2.1 = some (t_Mo k) := by decide +kernel
def F_Choice : u_T := fun k => match k with
  | 0 => ("PrefixCodes$Choice", "text", "[I", true)
  | 1 => ("PrefixCodes$Choice", "textSize", "I", false)
  | 2 => ("PrefixCodes$Choice", "groupSize", "I", false)
  | 3 => ("PrefixCodes$Choice", "groups", "I", false)
  | 4 => ("PrefixCodes$Choice", "codeOfGroup", "[I", true)
  | 5 => ("PrefixCodes$Choice", "codes", "[LPrefixCodes$Code;", true)
  | 6 => ("PrefixCodes$Choice", "manyCodes", "I", false)
  | 7 => ("PrefixCodes$Choice", "often", "[I", true)
  | _ => ("PrefixCodes$Choice", "selectors", "LPrefixCodes$Selectors;", true)
def t_Choice : Nat → FieldType := fun k => match k with
  | 0 => .array .int
  | 1 => .int
  | 2 => .int
  | 3 => .int
  | 4 => .array .int
  | 5 => .array (.object "PrefixCodes$Code")
  | 6 => .int
  | 7 => .array .int
  | _ => .object "PrefixCodes$Selectors"
theorem n_Choice : ∀ a, a < 9 → ∀ b, b < 9 → a ≠ b → (F_Choice a).2.1 ≠ (F_Choice b).2.1 := by decide +kernel
theorem t_Choice_ok : ∀ k, k < 9 → parseFieldDescriptor (F_Choice k).2.2.1 = some (t_Choice k) := by decide +kernel
def F_Code : u_T := fun k => match k with
  | 0 => ("PrefixCodes$Code", "symbols", "I", true)
  | 1 => ("PrefixCodes$Code", "lengths", "[I", true)
  | 2 => ("PrefixCodes$Code", "words", "[I", true)
  | 3 => ("PrefixCodes$Code", "ordered", "[I", true)
  | 4 => ("PrefixCodes$Code", "manyOfLength", "[I", true)
  | 5 => ("PrefixCodes$Code", "firstWord", "[I", true)
  | 6 => ("PrefixCodes$Code", "firstPlace", "[I", true)
  | 7 => ("PrefixCodes$Code", "filled", "I", false)
  | 8 => ("PrefixCodes$Code", "having", "I", false)
  | 9 => ("PrefixCodes$Code", "greatest", "I", false)
  | _ => ("PrefixCodes$Code", "kind", "I", false)
def t_Code : Nat → FieldType := fun k => match k with
  | 0 => .int
  | 1 => .array .int
  | 2 => .array .int
  | 3 => .array .int
  | 4 => .array .int
  | 5 => .array .int
  | 6 => .array .int
  | 7 => .int
  | 8 => .int
  | 9 => .int
  | _ => .int
theorem n_Code : ∀ a, a < 11 → ∀ b, b < 11 → a ≠ b → (F_Code a).2.1 ≠ (F_Code b).2.1 := by decide +kernel
theorem t_Code_ok : ∀ k, k < 11 → parseFieldDescriptor (F_Code k).2.2.1 = some (t_Code k) := by decide +kernel
def F_Commands : u_T := fun k => match k with
  | 0 => ("PrefixCodes$Commands", "stream", "LPrefixCodes$Stream;", true)
  | 1 => ("PrefixCodes$Commands", "packages", "LPrefixCodes$Packages;", true)
  | 2 => ("PrefixCodes$Commands", "code", "LPrefixCodes$Code;", true)
  | 3 => ("PrefixCodes$Commands", "often", "[I", true)
  | 4 => ("PrefixCodes$Commands", "row", "[I", true)
  | 5 => ("PrefixCodes$Commands", "runs", "[I", true)
  | _ => ("PrefixCodes$Commands", "size", "I", false)
def t_Commands : Nat → FieldType := fun k => match k with
  | 0 => .object "PrefixCodes$Stream"
  | 1 => .object "PrefixCodes$Packages"
  | 2 => .object "PrefixCodes$Code"
  | 3 => .array .int
  | 4 => .array .int
  | 5 => .array .int
  | _ => .int
theorem n_Commands : ∀ a, a < 7 → ∀ b, b < 7 → a ≠ b → (F_Commands a).2.1 ≠ (F_Commands b).2.1 := by decide +kernel
theorem t_Commands_ok : ∀ k, k < 7 → parseFieldDescriptor (F_Commands k).2.2.1 = some (t_Commands k) := by decide +kernel
def F_Manners : u_T := fun k => match k with
  | 0 => ("PrefixCodes$Manners", "stream", "LPrefixCodes$Stream;", true)
  | 1 => ("PrefixCodes$Manners", "commands", "LPrefixCodes$Commands;", true)
  | _ => ("PrefixCodes$Manners", "found", "[I", true)
def t_Manners : Nat → FieldType := fun k => match k with
  | 0 => .object "PrefixCodes$Stream"
  | 1 => .object "PrefixCodes$Commands"
  | _ => .array .int
theorem n_Manners : ∀ a, a < 3 → ∀ b, b < 3 → a ≠ b → (F_Manners a).2.1 ≠ (F_Manners b).2.1 := by decide +kernel
theorem t_Manners_ok : ∀ k, k < 3 → parseFieldDescriptor (F_Manners k).2.2.1 = some (t_Manners k) := by decide +kernel
def F_Packages : u_T := fun k => match k with
  | 0 => ("PrefixCodes$Packages", "ordered", "[I", true)
  | 1 => ("PrefixCodes$Packages", "weights", "[I", true)
  | 2 => ("PrefixCodes$Packages", "many", "I", false)
  | 3 => ("PrefixCodes$Packages", "row", "[[J", true)
  | 4 => ("PrefixCodes$Packages", "sizes", "[I", true)
  | _ => ("PrefixCodes$Packages", "isSymbol", "[[I", true)
def t_Packages : Nat → FieldType := fun k => match k with
  | 0 => .array .int
  | 1 => .array .int
  | 2 => .int
  | 3 => .array (.array .long)
  | 4 => .array .int
  | _ => .array (.array .int)
theorem n_Packages : ∀ a, a < 6 → ∀ b, b < 6 → a ≠ b → (F_Packages a).2.1 ≠ (F_Packages b).2.1 := by decide +kernel
theorem t_Packages_ok : ∀ k, k < 6 → parseFieldDescriptor (F_Packages k).2.2.1 = some (t_Packages k) := by decide +kernel
def F_Reader : u_T := fun k => match k with
  | 0 => ("PrefixCodes$Reader", "stream", "LPrefixCodes$Stream;", true)
  | 1 => ("PrefixCodes$Reader", "codes", "[LPrefixCodes$Code;", true)
  | 2 => ("PrefixCodes$Reader", "selectors", "LPrefixCodes$Selectors;", true)
  | 3 => ("PrefixCodes$Reader", "codeOfGroup", "[I", true)
  | _ => ("PrefixCodes$Reader", "found", "[I", true)
def t_Reader : Nat → FieldType := fun k => match k with
  | 0 => .object "PrefixCodes$Stream"
  | 1 => .array (.object "PrefixCodes$Code")
  | 2 => .object "PrefixCodes$Selectors"
  | 3 => .array .int
  | _ => .array .int
theorem n_Reader : ∀ a, a < 5 → ∀ b, b < 5 → a ≠ b → (F_Reader a).2.1 ≠ (F_Reader b).2.1 := by decide +kernel
theorem t_Reader_ok : ∀ k, k < 5 → parseFieldDescriptor (F_Reader k).2.2.1 = some (t_Reader k) := by decide +kernel
def F_Selectors : u_T := fun k => match k with
  | 0 => ("PrefixCodes$Selectors", "row", "[I", true)
  | _ => ("PrefixCodes$Selectors", "many", "I", false)
def t_Selectors : Nat → FieldType := fun k => match k with
  | 0 => .array .int
  | _ => .int
theorem n_Selectors : ∀ a, a < 2 → ∀ b, b < 2 → a ≠ b → (F_Selectors a).2.1 ≠ (F_Selectors b).2.1 := by decide +kernel
theorem t_Selectors_ok : ∀ k, k < 2 → parseFieldDescriptor (F_Selectors k).2.2.1 = some (t_Selectors k) := by decide +kernel
def F_Stream : u_T := fun k => match k with
  | 0 => ("PrefixCodes$Stream", "cells", "[I", true)
  | 1 => ("PrefixCodes$Stream", "head", "I", false)
  | 2 => ("PrefixCodes$Stream", "size", "I", false)
  | 3 => ("PrefixCodes$Stream", "sizeAtBegin", "I", false)
  | _ => ("PrefixCodes$Stream", "overflowed", "Z", false)
def t_Stream : Nat → FieldType := fun k => match k with
  | 0 => .array .int
  | 1 => .int
  | 2 => .int
  | 3 => .int
  | _ => .boolean
theorem n_Stream : ∀ a, a < 5 → ∀ b, b < 5 → a ≠ b → (F_Stream a).2.1 ≠ (F_Stream b).2.1 := by decide +kernel
theorem t_Stream_ok : ∀ k, k < 5 → parseFieldDescriptor (F_Stream k).2.2.1 = some (t_Stream k) := by decide +kernel
def F_Table : u_T := fun k => match k with
  | 0 => ("PrefixCodes$Table", "root", "I", false)
  | 1 => ("PrefixCodes$Table", "entries", "I", false)
  | 2 => ("PrefixCodes$Table", "words", "I", false)
  | 3 => ("PrefixCodes$Table", "symbols", "[I", true)
  | 4 => ("PrefixCodes$Table", "lengths", "[I", true)
  | 5 => ("PrefixCodes$Table", "numbers", "[I", true)
  | 6 => ("PrefixCodes$Table", "parts", "I", false)
  | 7 => ("PrefixCodes$Table", "prefixes", "[I", true)
  | 8 => ("PrefixCodes$Table", "partBits", "[I", true)
  | _ => ("PrefixCodes$Table", "starts", "[I", true)
def t_Table : Nat → FieldType := fun k => match k with
  | 0 => .int
  | 1 => .int
  | 2 => .int
  | 3 => .array .int
  | 4 => .array .int
  | 5 => .array .int
  | 6 => .int
  | 7 => .array .int
  | 8 => .array .int
  | _ => .array .int
theorem n_Table : ∀ a, a < 10 → ∀ b, b < 10 → a ≠ b → (F_Table a).2.1 ≠ (F_Table b).2.1 := by decide +kernel
theorem t_Table_ok : ∀ k, k < 10 → parseFieldDescriptor (F_Table k).2.2.1 = some (t_Table k) := by decide +kernel
def F_Text : u_T := fun k => match k with
  | 0 => ("PrefixCodes$Text", "row", "[I", true)
  | 1 => ("PrefixCodes$Text", "size", "I", false)
  | 2 => ("PrefixCodes$Text", "offered", "[I", true)
  | _ => ("PrefixCodes$Text", "often", "[I", true)
def t_Text : Nat → FieldType := fun k => match k with
  | 0 => .array .int
  | 1 => .int
  | 2 => .array .int
  | _ => .array .int
theorem n_Text : ∀ a, a < 4 → ∀ b, b < 4 → a ≠ b → (F_Text a).2.1 ≠ (F_Text b).2.1 := by decide +kernel
theorem t_Text_ok : ∀ k, k < 4 → parseFieldDescriptor (F_Text k).2.2.1 = some (t_Text k) := by decide +kernel
abbrev vwCl : List vw_C := [("PrefixCodes", F_PC, 10), ("PrefixCodesModel", F_Mo, 33), ("PrefixCodes$Choice", F_Choice, 9), ("PrefixCodes$Code", F_Code, 11), ("PrefixCodes$Commands", F_Commands, 7), ("PrefixCodes$Manners", F_Manners, 3), ("PrefixCodes$Packages", F_Packages, 6), ("PrefixCodes$Reader", F_Reader, 5), ("PrefixCodes$Selectors", F_Selectors, 2), ("PrefixCodes$Stream", F_Stream, 5), ("PrefixCodes$Table", F_Table, 10), ("PrefixCodes$Text", F_Text, 4)]
def gW : List Cond := lw_tbl.filter goodWord
theorem gt1 : ∀ w ∈ tables_1_1, w ∈ lw_tbl := fun w h => List.mem_append_right _ (List.mem_append_left _ h)
theorem gt2 : ∀ w ∈ tables_1_2, w ∈ lw_tbl := fun w h => List.mem_append_right _ (List.mem_append_right _ (List.mem_append_left _ h))
theorem gt3 : ∀ w ∈ tables_1_3, w ∈ lw_tbl := fun w h => List.mem_append_right _ (List.mem_append_right _ (List.mem_append_right _ (List.mem_append_left _ h)))
theorem gt4 : ∀ w ∈ tables_1_4, w ∈ lw_tbl := fun w h => List.mem_append_right _ (List.mem_append_right _ (List.mem_append_right _ (List.mem_append_right _ (List.mem_append_left _ h))))
theorem gt5 : ∀ w ∈ tables_1_5, w ∈ lw_tbl := fun w h => List.mem_append_right _ (List.mem_append_right _ (List.mem_append_right _ (List.mem_append_right _ (List.mem_append_right _ (List.mem_append_left _ h)))))
theorem gt6 : ∀ w ∈ tables_1_6, w ∈ lw_tbl := fun w h => List.mem_append_right _ (List.mem_append_right _ (List.mem_append_right _ (List.mem_append_right _ (List.mem_append_right _ (List.mem_append_right _ (h))))))
theorem gp1 : ∀ q ∈ lw_privs_1, Cond.selects q.1.cls q.1 q.1 ∈ lw_tbl := fun q h => List.mem_append_left _ (List.mem_map.mpr ⟨q, List.mem_append_left _ h, rfl⟩)
theorem gp2 : ∀ q ∈ lw_privs_2, Cond.selects q.1.cls q.1 q.1 ∈ lw_tbl := fun q h => List.mem_append_left _ (List.mem_map.mpr ⟨q, List.mem_append_right _ (List.mem_append_left _ h), rfl⟩)
theorem gp3 : ∀ q ∈ lw_privs_3, Cond.selects q.1.cls q.1 q.1 ∈ lw_tbl := fun q h => List.mem_append_left _ (List.mem_map.mpr ⟨q, List.mem_append_right _ (List.mem_append_right _ (List.mem_append_left _ h)), rfl⟩)
theorem gp4 : ∀ q ∈ lw_privs_4, Cond.selects q.1.cls q.1 q.1 ∈ lw_tbl := fun q h => List.mem_append_left _ (List.mem_map.mpr ⟨q, List.mem_append_right _ (List.mem_append_right _ (List.mem_append_right _ (List.mem_append_left _ h))), rfl⟩)
theorem gp5 : ∀ q ∈ lw_privs_5, Cond.selects q.1.cls q.1 q.1 ∈ lw_tbl := fun q h => List.mem_append_left _ (List.mem_map.mpr ⟨q, List.mem_append_right _ (List.mem_append_right _ (List.mem_append_right _ (List.mem_append_right _ (h)))), rfl⟩)
theorem gW_good : ∀ w ∈ gW, (w.onTables && w.keeps) = true ∨ ∃ ty, w = .arrayClass ty := fun w h => good_of_word (List.mem_filter.mp h).2
theorem gW_tbl : ∀ w ∈ gW, w ∈ lw_tbl := fun w h => (List.mem_filter.mp h).1
theorem gIn {x c : Cond} (h : c ∈ gW) : GoodIn (x :: gW) (c :: gW) := fun w hw => (List.mem_cons.mp hw).elim (fun e => e ▸ ⟨List.mem_cons_of_mem _ h, gW_good _ h⟩) (fun hw => ⟨List.mem_cons_of_mem _ hw, gW_good _ hw⟩)
def kdL : List ((Nat × Nat) ⊕ (Nat × Nat)) := [.inl (0, 10), .inr (3, 12), .inr (0, 64), .inl (9, 5), .inr (0, 625), .inl (6, 6), .inr (0, 64), .inr (0, 64), .inr (5, 2), .inr (1, 128), .inr (0, 15), .inr (4, 15), .inr (0, 128), .inl (5, 3), .inr (0, 64), .inl (4, 7), .inr (0, 19), .inr (0, 64), .inr (0, 64), .inl (10, 10), .inr (0, 64), .inr (0, 64), .inr (0, 64), .inr (0, 64), .inr (0, 64), .inr (0, 64), .inl (11, 4), .inr (0, 1000), .inr (0, 5), .inr (0, 64), .inl (2, 9), .inr (0, 1000), .inr (0, 1000), .inr (3, 6), .inr (0, 64), .inl (7, 5), .inr (3, 6), .inr (0, 1000), .inr (0, 1000), .inl (8, 2), .inr (0, 6), .inl (3, 11), .inr (0, 64), .inr (0, 64), .inr (0, 64), .inr (0, 16), .inr (0, 16), .inr (0, 16), .inl (1, 33), .inr (0, 13), .inr (0, 832), .inr (0, 64), .inr (1, 1920), .inr (0, 1920), .inr (0, 1920), .inr (0, 15), .inr (0, 64), .inr (2, 60000), .inr (0, 64), .inr (0, 64), .inr (0, 64), .inr (2, 80000), .inr (0, 80000), .inr (0, 80000), .inr (0, 1000), .inr (0, 1000), .inr (0, 1000), .inr (0, 6), .inr (0, 1000), .inr (0, 1000), .inr (1, 1)]
def kd (f : Nat) : (Nat × Nat) ⊕ (Nat × Nat) := kdL.getD f (.inr (0, 0))
def ptL : List (List (Option (Nat × (Nat → Nat)))) := [[some (1, fun _ => 0), none, some (2, fun _ => 0), some (3, fun _ => 0), some (5, fun _ => 0), some (13, fun _ => 0), some (19, fun _ => 0), some (26, fun _ => 0), some (30, fun _ => 0), some (35, fun _ => 0)], [], [], [some (4, fun _ => 0), none, none, none, none], [], [some (6, fun _ => 0), some (7, fun _ => 0), none, some (8, fun _ => 0), some (10, fun _ => 0), some (11, fun _ => 0)], [], [], [], [], [], [], [], [some (3, fun _ => 0), some (15, fun _ => 0), some (14, fun _ => 0)], [], [some (3, fun _ => 0), some (5, fun _ => 0), some (41, fun _ => 12), some (16, fun _ => 0), some (17, fun _ => 0), some (18, fun _ => 0), none], [], [], [], [none, none, none, some (20, fun _ => 0), some (21, fun _ => 0), some (22, fun _ => 0), none, some (23, fun _ => 0), some (24, fun _ => 0), some (25, fun _ => 0)], [], [], [], [], [], [], [some (27, fun _ => 0), none, some (28, fun _ => 0), some (29, fun _ => 0)], [], [], [], [some (31, fun _ => 0), none, none, none, some (32, fun _ => 0), some (33, fun _ => 0), none, some (34, fun _ => 0), some (39, fun _ => 0)], [], [], [], [], [some (3, fun _ => 0), some (36, fun _ => 0), some (39, fun _ => 1), some (37, fun _ => 0), some (38, fun _ => 0)], [], [], [], [some (40, fun i => i), none], [], [none, some (42, fun i => i), some (43, fun i => i), some (44, fun i => i), some (45, fun i => i), some (46, fun i => i), some (47, fun i => i), none, none, none, none], [], [], [], [], [], [], [none, none, some (49, fun _ => 0), some (50, fun _ => 0), some (51, fun _ => 0), some (52, fun _ => 0), some (53, fun _ => 0), some (54, fun _ => 0), some (55, fun _ => 0), some (56, fun _ => 0), some (57, fun _ => 0), none, none, some (58, fun _ => 0), some (59, fun _ => 0), none, some (60, fun _ => 0), some (61, fun _ => 0), some (62, fun _ => 0), some (63, fun _ => 0), none, some (64, fun _ => 0), none, none, none, none, none, some (65, fun _ => 0), some (66, fun _ => 0), none, some (67, fun _ => 0), some (68, fun _ => 0), some (69, fun _ => 0)], [], [], [], [], [], [], [], [], [], [], [], [], [], [], [], [], [], [], [], [], [], []]
def pt (f k : Nat) : Option (Nat × (Nat → Nat)) := (ptL.getD f []).getD k none
def tgL : List Nat := [0, 41, 0, 0, 0, 0, 0, 0, 9, 0, 0, 12, 0, 0, 0, 0, 0, 0, 0, 0, 0, 0, 0, 0, 0, 0, 0, 0, 0, 0, 0, 0, 0, 41, 0, 0, 41, 0, 0, 0, 0, 0, 0, 0, 0, 0, 0, 0, 0, 0, 0, 0, 0, 0, 0, 0, 0, 0, 0, 0, 0, 0, 0, 0, 0, 0, 0, 0, 0, 0, 0]
def tg (f : Nat) : Nat := tgL.getD f 0
def muL : List Nat := [1, 1, 1, 1, 1, 1, 1, 1, 1, 2, 1, 1, 15, 1, 1, 1, 1, 1, 1, 1, 1, 1, 1, 1, 1, 1, 1, 1, 1, 1, 1, 1, 1, 1, 1, 1, 1, 1, 1, 2, 2, 99, 99, 99, 99, 99, 99, 99, 1, 1, 1, 1, 1, 1, 1, 1, 1, 1, 1, 1, 1, 1, 1, 1, 1, 1, 1, 1, 1, 1, 1]
/-- the codes: those made, and the one of the commands (12) -/
def dmc (n i : Nat) : Prop := i < n ∨ i = 12
def dm (n f i : Nat) : Prop := if muL.getD f 0 = 99 then dmc n i else i < muL.getD f 0
theorem hd_0 {n : Nat} : dm n 0 0 := Nat.zero_lt_one
theorem hd_1 {n : Nat} : dm n 1 0 := Nat.zero_lt_one
theorem hd_2 {n : Nat} : dm n 2 0 := Nat.zero_lt_one
theorem hd_3 {n : Nat} : dm n 3 0 := Nat.zero_lt_one
theorem hd_4 {n : Nat} : dm n 4 0 := Nat.zero_lt_one
theorem hd_5 {n : Nat} : dm n 5 0 := Nat.zero_lt_one
theorem hd_6 {n : Nat} : dm n 6 0 := Nat.zero_lt_one
theorem hd_7 {n : Nat} : dm n 7 0 := Nat.zero_lt_one
theorem hd_8 {n : Nat} : dm n 8 0 := Nat.zero_lt_one
theorem hd_9_0 {n : Nat} : dm n 9 0 := Nat.zero_lt_two
theorem hd_9_1 {n : Nat} : dm n 9 1 := Nat.one_lt_two
theorem hd_10 {n : Nat} : dm n 10 0 := Nat.zero_lt_one
theorem hd_11 {n : Nat} : dm n 11 0 := Nat.zero_lt_one
theorem hd_13 {n : Nat} : dm n 13 0 := Nat.zero_lt_one
theorem hd_14 {n : Nat} : dm n 14 0 := Nat.zero_lt_one
theorem hd_15 {n : Nat} : dm n 15 0 := Nat.zero_lt_one
theorem hd_16 {n : Nat} : dm n 16 0 := Nat.zero_lt_one
theorem hd_17 {n : Nat} : dm n 17 0 := Nat.zero_lt_one
theorem hd_18 {n : Nat} : dm n 18 0 := Nat.zero_lt_one
theorem hd_19 {n : Nat} : dm n 19 0 := Nat.zero_lt_one
theorem hd_20 {n : Nat} : dm n 20 0 := Nat.zero_lt_one
theorem hd_21 {n : Nat} : dm n 21 0 := Nat.zero_lt_one
theorem hd_22 {n : Nat} : dm n 22 0 := Nat.zero_lt_one
theorem hd_23 {n : Nat} : dm n 23 0 := Nat.zero_lt_one
theorem hd_24 {n : Nat} : dm n 24 0 := Nat.zero_lt_one
theorem hd_25 {n : Nat} : dm n 25 0 := Nat.zero_lt_one
theorem hd_26 {n : Nat} : dm n 26 0 := Nat.zero_lt_one
theorem hd_27 {n : Nat} : dm n 27 0 := Nat.zero_lt_one
theorem hd_28 {n : Nat} : dm n 28 0 := Nat.zero_lt_one
theorem hd_29 {n : Nat} : dm n 29 0 := Nat.zero_lt_one
theorem hd_30 {n : Nat} : dm n 30 0 := Nat.zero_lt_one
theorem hd_31 {n : Nat} : dm n 31 0 := Nat.zero_lt_one
theorem hd_32 {n : Nat} : dm n 32 0 := Nat.zero_lt_one
theorem hd_33 {n : Nat} : dm n 33 0 := Nat.zero_lt_one
theorem hd_34 {n : Nat} : dm n 34 0 := Nat.zero_lt_one
theorem hd_35 {n : Nat} : dm n 35 0 := Nat.zero_lt_one
theorem hd_36 {n : Nat} : dm n 36 0 := Nat.zero_lt_one
theorem hd_37 {n : Nat} : dm n 37 0 := Nat.zero_lt_one
theorem hd_38 {n : Nat} : dm n 38 0 := Nat.zero_lt_one
theorem hd_39_0 {n : Nat} : dm n 39 0 := Nat.zero_lt_two
theorem hd_39_1 {n : Nat} : dm n 39 1 := Nat.one_lt_two
theorem hd_40_0 {n : Nat} : dm n 40 0 := Nat.zero_lt_two
theorem hd_40_1 {n : Nat} : dm n 40 1 := Nat.one_lt_two
theorem hd_41_12 {n : Nat} : dm n 41 12 := Or.inr rfl
theorem hd_42_12 {n : Nat} : dm n 42 12 := Or.inr rfl
theorem hd_43_12 {n : Nat} : dm n 43 12 := Or.inr rfl
theorem hd_44_12 {n : Nat} : dm n 44 12 := Or.inr rfl
theorem hd_45_12 {n : Nat} : dm n 45 12 := Or.inr rfl
theorem hd_46_12 {n : Nat} : dm n 46 12 := Or.inr rfl
theorem hd_47_12 {n : Nat} : dm n 47 12 := Or.inr rfl
theorem hd_48 {n : Nat} : dm n 48 0 := Nat.zero_lt_one
theorem hd_49 {n : Nat} : dm n 49 0 := Nat.zero_lt_one
theorem hd_50 {n : Nat} : dm n 50 0 := Nat.zero_lt_one
theorem hd_51 {n : Nat} : dm n 51 0 := Nat.zero_lt_one
theorem hd_52 {n : Nat} : dm n 52 0 := Nat.zero_lt_one
theorem hd_53 {n : Nat} : dm n 53 0 := Nat.zero_lt_one
theorem hd_54 {n : Nat} : dm n 54 0 := Nat.zero_lt_one
theorem hd_55 {n : Nat} : dm n 55 0 := Nat.zero_lt_one
theorem hd_56 {n : Nat} : dm n 56 0 := Nat.zero_lt_one
theorem hd_57 {n : Nat} : dm n 57 0 := Nat.zero_lt_one
theorem hd_58 {n : Nat} : dm n 58 0 := Nat.zero_lt_one
theorem hd_59 {n : Nat} : dm n 59 0 := Nat.zero_lt_one
theorem hd_60 {n : Nat} : dm n 60 0 := Nat.zero_lt_one
theorem hd_61 {n : Nat} : dm n 61 0 := Nat.zero_lt_one
theorem hd_62 {n : Nat} : dm n 62 0 := Nat.zero_lt_one
theorem hd_63 {n : Nat} : dm n 63 0 := Nat.zero_lt_one
theorem hd_64 {n : Nat} : dm n 64 0 := Nat.zero_lt_one
theorem hd_65 {n : Nat} : dm n 65 0 := Nat.zero_lt_one
theorem hd_66 {n : Nat} : dm n 66 0 := Nat.zero_lt_one
theorem hd_67 {n : Nat} : dm n 67 0 := Nat.zero_lt_one
theorem hd_68 {n : Nat} : dm n 68 0 := Nat.zero_lt_one
theorem hd_69 {n : Nat} : dm n 69 0 := Nat.zero_lt_one
theorem hd_70 {n : Nat} : dm n 70 0 := Nat.zero_lt_one
def nwM : List (String × Nat × MethodName × String) := [("PrefixCodes", 25, ⟨"PrefixCodes$Stream", "<init>", "()V"⟩, "PrefixCodes"), ("PrefixCodes", 32, ⟨"PrefixCodes$Packages", "<init>", "()V"⟩, "PrefixCodes"), ("PrefixCodes", 48, ⟨"PrefixCodes$Table", "<init>", "()V"⟩, "PrefixCodes"), ("PrefixCodes", 55, ⟨"PrefixCodes$Text", "<init>", "()V"⟩, "PrefixCodes"), ("PrefixCodes", 62, ⟨"PrefixCodes$Choice", "<init>", "()V"⟩, "PrefixCodes"), ("PrefixCodes$Choice", 42, ⟨"PrefixCodes$Selectors", "<init>", "()V"⟩, "PrefixCodes"), ("PrefixCodes$Reader", 19, ⟨"PrefixCodes$Selectors", "<init>", "()V"⟩, "PrefixCodes"), ("PrefixCodes$Manners", 78, ⟨"PrefixCodes", "isOutside", "(III)Z"⟩, "PrefixCodes")]
