section
-- ===== PART A: goes FIRST, ahead of the names: the tables' words, and 'selects' of the private methods out of them =====
/-- a private method of a class that the tables say can be made, by its rows of tables_1 -/
def lw_okq (q : MethodName × Nat) : Prop := (q.1.cls ≠ "java/lang/invoke/MethodHandle" ∧ q.1.cls ≠ "java/lang/invoke/VarHandle") ∧ Cond.instantiable q.1.cls q.2 ∈ tables_1 ∧ Cond.privateMethod q.1 ∈ tables_1 ∧ Cond.instanceMethod q.1 ∈ tables_1
theorem lw_p0 : lw_okq (⟨"PrefixCodes", "keep", "(LPrefixCodes$Code;)I"⟩, 10) := ⟨⟨by decide +kernel, by decide +kernel⟩, List.mem_of_getElem? (i := 21) (by decide +kernel), List.mem_of_getElem? (i := 369) (by decide +kernel), List.mem_of_getElem? (i := 370) (by decide +kernel)⟩
theorem lw_p1 : lw_okq (⟨"PrefixCodes", "codeWith", "(II)LPrefixCodes$Code;"⟩, 10) := ⟨⟨by decide +kernel, by decide +kernel⟩, List.mem_of_getElem? (i := 21) (by decide +kernel), List.mem_of_getElem? (i := 377) (by decide +kernel), List.mem_of_getElem? (i := 378) (by decide +kernel)⟩
theorem lw_p2 : lw_okq (⟨"PrefixCodes", "codeAt", "(I)LPrefixCodes$Code;"⟩, 10) := ⟨⟨by decide +kernel, by decide +kernel⟩, List.mem_of_getElem? (i := 21) (by decide +kernel), List.mem_of_getElem? (i := 381) (by decide +kernel), List.mem_of_getElem? (i := 382) (by decide +kernel)⟩
theorem lw_p3 : lw_okq (⟨"PrefixCodes$Code", "countLengths", "()V"⟩, 11) := ⟨⟨by decide +kernel, by decide +kernel⟩, List.mem_of_getElem? (i := 97) (by decide +kernel), List.mem_of_getElem? (i := 389) (by decide +kernel), List.mem_of_getElem? (i := 390) (by decide +kernel)⟩
theorem lw_p4 : lw_okq (⟨"PrefixCodes$Code", "placeLengths", "()V"⟩, 11) := ⟨⟨by decide +kernel, by decide +kernel⟩, List.mem_of_getElem? (i := 97) (by decide +kernel), List.mem_of_getElem? (i := 396) (by decide +kernel), List.mem_of_getElem? (i := 397) (by decide +kernel)⟩
theorem lw_p5 : lw_okq (⟨"PrefixCodes$Code", "nameSymbols", "()V"⟩, 11) := ⟨⟨by decide +kernel, by decide +kernel⟩, List.mem_of_getElem? (i := 97) (by decide +kernel), List.mem_of_getElem? (i := 400) (by decide +kernel), List.mem_of_getElem? (i := 401) (by decide +kernel)⟩
theorem lw_p6 : lw_okq (⟨"PrefixCodes$Code", "judged", "()I"⟩, 11) := ⟨⟨by decide +kernel, by decide +kernel⟩, List.mem_of_getElem? (i := 97) (by decide +kernel), List.mem_of_getElem? (i := 404) (by decide +kernel), List.mem_of_getElem? (i := 405) (by decide +kernel)⟩
theorem lw_p7 : lw_okq (⟨"PrefixCodes", "countedBelow", "(I)I"⟩, 10) := ⟨⟨by decide +kernel, by decide +kernel⟩, List.mem_of_getElem? (i := 21) (by decide +kernel), List.mem_of_getElem? (i := 439) (by decide +kernel), List.mem_of_getElem? (i := 440) (by decide +kernel)⟩
theorem lw_p8 : lw_okq (⟨"PrefixCodes$Packages", "order", "([II)V"⟩, 6) := ⟨⟨by decide +kernel, by decide +kernel⟩, List.mem_of_getElem? (i := 55) (by decide +kernel), List.mem_of_getElem? (i := 452) (by decide +kernel), List.mem_of_getElem? (i := 453) (by decide +kernel)⟩
theorem lw_p9 : lw_okq (⟨"PrefixCodes$Packages", "insert", "(II)V"⟩, 6) := ⟨⟨by decide +kernel, by decide +kernel⟩, List.mem_of_getElem? (i := 55) (by decide +kernel), List.mem_of_getElem? (i := 456) (by decide +kernel), List.mem_of_getElem? (i := 457) (by decide +kernel)⟩
theorem lw_p10 : lw_okq (⟨"PrefixCodes$Packages", "makeFirstRow", "()V"⟩, 6) := ⟨⟨by decide +kernel, by decide +kernel⟩, List.mem_of_getElem? (i := 55) (by decide +kernel), List.mem_of_getElem? (i := 460) (by decide +kernel), List.mem_of_getElem? (i := 461) (by decide +kernel)⟩
theorem lw_p11 : lw_okq (⟨"PrefixCodes$Packages", "makeRow", "(I)V"⟩, 6) := ⟨⟨by decide +kernel, by decide +kernel⟩, List.mem_of_getElem? (i := 55) (by decide +kernel), List.mem_of_getElem? (i := 464) (by decide +kernel), List.mem_of_getElem? (i := 465) (by decide +kernel)⟩
theorem lw_p12 : lw_okq (⟨"PrefixCodes$Packages", "goBack", "(I[I)V"⟩, 6) := ⟨⟨by decide +kernel, by decide +kernel⟩, List.mem_of_getElem? (i := 55) (by decide +kernel), List.mem_of_getElem? (i := 468) (by decide +kernel), List.mem_of_getElem? (i := 469) (by decide +kernel)⟩
theorem lw_p13 : lw_okq (⟨"PrefixCodes", "putBits", "(II)I"⟩, 10) := ⟨⟨by decide +kernel, by decide +kernel⟩, List.mem_of_getElem? (i := 21) (by decide +kernel), List.mem_of_getElem? (i := 490) (by decide +kernel), List.mem_of_getElem? (i := 491) (by decide +kernel)⟩
theorem lw_p14 : lw_okq (⟨"PrefixCodes$Stream", "placeOf", "(I)I"⟩, 5) := ⟨⟨by decide +kernel, by decide +kernel⟩, List.mem_of_getElem? (i := 31) (by decide +kernel), List.mem_of_getElem? (i := 502) (by decide +kernel), List.mem_of_getElem? (i := 503) (by decide +kernel)⟩
theorem lw_p15 : lw_okq (⟨"PrefixCodes$Stream", "bitOf", "(I)I"⟩, 5) := ⟨⟨by decide +kernel, by decide +kernel⟩, List.mem_of_getElem? (i := 31) (by decide +kernel), List.mem_of_getElem? (i := 518) (by decide +kernel), List.mem_of_getElem? (i := 519) (by decide +kernel)⟩
def lw_privs_1 : List (MethodName × Nat) := [(⟨"PrefixCodes", "keep", "(LPrefixCodes$Code;)I"⟩, 10), (⟨"PrefixCodes", "codeWith", "(II)LPrefixCodes$Code;"⟩, 10), (⟨"PrefixCodes", "codeAt", "(I)LPrefixCodes$Code;"⟩, 10), (⟨"PrefixCodes$Code", "countLengths", "()V"⟩, 11), (⟨"PrefixCodes$Code", "placeLengths", "()V"⟩, 11), (⟨"PrefixCodes$Code", "nameSymbols", "()V"⟩, 11), (⟨"PrefixCodes$Code", "judged", "()I"⟩, 11), (⟨"PrefixCodes", "countedBelow", "(I)I"⟩, 10), (⟨"PrefixCodes$Packages", "order", "([II)V"⟩, 6), (⟨"PrefixCodes$Packages", "insert", "(II)V"⟩, 6), (⟨"PrefixCodes$Packages", "makeFirstRow", "()V"⟩, 6), (⟨"PrefixCodes$Packages", "makeRow", "(I)V"⟩, 6), (⟨"PrefixCodes$Packages", "goBack", "(I[I)V"⟩, 6), (⟨"PrefixCodes", "putBits", "(II)I"⟩, 10), (⟨"PrefixCodes$Stream", "placeOf", "(I)I"⟩, 5), (⟨"PrefixCodes$Stream", "bitOf", "(I)I"⟩, 5)]
theorem lw_r1 : ∀ q ∈ lw_privs_1, lw_okq q := List.forall_mem_cons.mpr ⟨lw_p0, List.forall_mem_cons.mpr ⟨lw_p1, List.forall_mem_cons.mpr ⟨lw_p2, List.forall_mem_cons.mpr ⟨lw_p3, List.forall_mem_cons.mpr ⟨lw_p4, List.forall_mem_cons.mpr ⟨lw_p5, List.forall_mem_cons.mpr ⟨lw_p6, List.forall_mem_cons.mpr ⟨lw_p7, List.forall_mem_cons.mpr ⟨lw_p8, List.forall_mem_cons.mpr ⟨lw_p9, List.forall_mem_cons.mpr ⟨lw_p10, List.forall_mem_cons.mpr ⟨lw_p11, List.forall_mem_cons.mpr ⟨lw_p12, List.forall_mem_cons.mpr ⟨lw_p13, List.forall_mem_cons.mpr ⟨lw_p14, List.forall_mem_cons.mpr ⟨lw_p15, fun _ h => absurd h List.not_mem_nil⟩⟩⟩⟩⟩⟩⟩⟩⟩⟩⟩⟩⟩⟩⟩⟩
theorem lw_p16 : lw_okq (⟨"PrefixCodes$Manners", "appendPlain", "(LPrefixCodes$Code;)V"⟩, 3) := ⟨⟨by decide +kernel, by decide +kernel⟩, List.mem_of_getElem? (i := 85) (by decide +kernel), List.mem_of_getElem? (i := 559) (by decide +kernel), List.mem_of_getElem? (i := 560) (by decide +kernel)⟩
theorem lw_p17 : lw_okq (⟨"PrefixCodes$Manners", "appendSteps", "(LPrefixCodes$Code;)V"⟩, 3) := ⟨⟨by decide +kernel, by decide +kernel⟩, List.mem_of_getElem? (i := 85) (by decide +kernel), List.mem_of_getElem? (i := 564) (by decide +kernel), List.mem_of_getElem? (i := 565) (by decide +kernel)⟩
theorem lw_p18 : lw_okq (⟨"PrefixCodes$Commands", "gather", "([II)V"⟩, 7) := ⟨⟨by decide +kernel, by decide +kernel⟩, List.mem_of_getElem? (i := 91) (by decide +kernel), List.mem_of_getElem? (i := 573) (by decide +kernel), List.mem_of_getElem? (i := 574) (by decide +kernel)⟩
theorem lw_p19 : lw_okq (⟨"PrefixCodes$Commands", "appendCode", "()V"⟩, 7) := ⟨⟨by decide +kernel, by decide +kernel⟩, List.mem_of_getElem? (i := 91) (by decide +kernel), List.mem_of_getElem? (i := 595) (by decide +kernel), List.mem_of_getElem? (i := 596) (by decide +kernel)⟩
theorem lw_p20 : lw_okq (⟨"PrefixCodes$Manners", "removePlain", "(I)I"⟩, 3) := ⟨⟨by decide +kernel, by decide +kernel⟩, List.mem_of_getElem? (i := 85) (by decide +kernel), List.mem_of_getElem? (i := 616) (by decide +kernel), List.mem_of_getElem? (i := 617) (by decide +kernel)⟩
theorem lw_p21 : lw_okq (⟨"PrefixCodes$Manners", "removeSteps", "(I)I"⟩, 3) := ⟨⟨by decide +kernel, by decide +kernel⟩, List.mem_of_getElem? (i := 85) (by decide +kernel), List.mem_of_getElem? (i := 621) (by decide +kernel), List.mem_of_getElem? (i := 622) (by decide +kernel)⟩
theorem lw_p22 : lw_okq (⟨"PrefixCodes$Manners", "stepsFrom", "(I)I"⟩, 3) := ⟨⟨by decide +kernel, by decide +kernel⟩, List.mem_of_getElem? (i := 85) (by decide +kernel), List.mem_of_getElem? (i := 625) (by decide +kernel), List.mem_of_getElem? (i := 626) (by decide +kernel)⟩
theorem lw_p23 : lw_okq (⟨"PrefixCodes$Commands", "removeCode", "()I"⟩, 7) := ⟨⟨by decide +kernel, by decide +kernel⟩, List.mem_of_getElem? (i := 91) (by decide +kernel), List.mem_of_getElem? (i := 635) (by decide +kernel), List.mem_of_getElem? (i := 636) (by decide +kernel)⟩
theorem lw_p24 : lw_okq (⟨"PrefixCodes$Commands", "removeCommand", "([III)I"⟩, 7) := ⟨⟨by decide +kernel, by decide +kernel⟩, List.mem_of_getElem? (i := 91) (by decide +kernel), List.mem_of_getElem? (i := 641) (by decide +kernel), List.mem_of_getElem? (i := 642) (by decide +kernel)⟩
theorem lw_p25 : lw_okq (⟨"PrefixCodes$Table", "extendParts", "(II)V"⟩, 10) := ⟨⟨by decide +kernel, by decide +kernel⟩, List.mem_of_getElem? (i := 190) (by decide +kernel), List.mem_of_getElem? (i := 661) (by decide +kernel), List.mem_of_getElem? (i := 662) (by decide +kernel)⟩
theorem lw_p26 : lw_okq (⟨"PrefixCodes$Choice", "fitCodes", "(LPrefixCodes$Packages;I)V"⟩, 9) := ⟨⟨by decide +kernel, by decide +kernel⟩, List.mem_of_getElem? (i := 252) (by decide +kernel), List.mem_of_getElem? (i := 696) (by decide +kernel), List.mem_of_getElem? (i := 697) (by decide +kernel)⟩
theorem lw_p27 : lw_okq (⟨"PrefixCodes$Choice", "countFor", "(I)V"⟩, 9) := ⟨⟨by decide +kernel, by decide +kernel⟩, List.mem_of_getElem? (i := 252) (by decide +kernel), List.mem_of_getElem? (i := 700) (by decide +kernel), List.mem_of_getElem? (i := 701) (by decide +kernel)⟩
theorem lw_p28 : lw_okq (⟨"PrefixCodes$Choice", "endOf", "(I)I"⟩, 9) := ⟨⟨by decide +kernel, by decide +kernel⟩, List.mem_of_getElem? (i := 252) (by decide +kernel), List.mem_of_getElem? (i := 705) (by decide +kernel), List.mem_of_getElem? (i := 706) (by decide +kernel)⟩
theorem lw_p29 : lw_okq (⟨"PrefixCodes$Choice", "regroup", "()V"⟩, 9) := ⟨⟨by decide +kernel, by decide +kernel⟩, List.mem_of_getElem? (i := 252) (by decide +kernel), List.mem_of_getElem? (i := 711) (by decide +kernel), List.mem_of_getElem? (i := 712) (by decide +kernel)⟩
theorem lw_p30 : lw_okq (⟨"PrefixCodes$Choice", "bitsBy", "(II)I"⟩, 9) := ⟨⟨by decide +kernel, by decide +kernel⟩, List.mem_of_getElem? (i := 252) (by decide +kernel), List.mem_of_getElem? (i := 715) (by decide +kernel), List.mem_of_getElem? (i := 716) (by decide +kernel)⟩
theorem lw_p31 : lw_okq (⟨"PrefixCodes$Selectors", "moveAhead", "(I)V"⟩, 2) := ⟨⟨by decide +kernel, by decide +kernel⟩, List.mem_of_getElem? (i := 259) (by decide +kernel), List.mem_of_getElem? (i := 745) (by decide +kernel), List.mem_of_getElem? (i := 746) (by decide +kernel)⟩
def lw_privs_2 : List (MethodName × Nat) := [(⟨"PrefixCodes$Manners", "appendPlain", "(LPrefixCodes$Code;)V"⟩, 3), (⟨"PrefixCodes$Manners", "appendSteps", "(LPrefixCodes$Code;)V"⟩, 3), (⟨"PrefixCodes$Commands", "gather", "([II)V"⟩, 7), (⟨"PrefixCodes$Commands", "appendCode", "()V"⟩, 7), (⟨"PrefixCodes$Manners", "removePlain", "(I)I"⟩, 3), (⟨"PrefixCodes$Manners", "removeSteps", "(I)I"⟩, 3), (⟨"PrefixCodes$Manners", "stepsFrom", "(I)I"⟩, 3), (⟨"PrefixCodes$Commands", "removeCode", "()I"⟩, 7), (⟨"PrefixCodes$Commands", "removeCommand", "([III)I"⟩, 7), (⟨"PrefixCodes$Table", "extendParts", "(II)V"⟩, 10), (⟨"PrefixCodes$Choice", "fitCodes", "(LPrefixCodes$Packages;I)V"⟩, 9), (⟨"PrefixCodes$Choice", "countFor", "(I)V"⟩, 9), (⟨"PrefixCodes$Choice", "endOf", "(I)I"⟩, 9), (⟨"PrefixCodes$Choice", "regroup", "()V"⟩, 9), (⟨"PrefixCodes$Choice", "bitsBy", "(II)I"⟩, 9), (⟨"PrefixCodes$Selectors", "moveAhead", "(I)V"⟩, 2)]
theorem lw_r2 : ∀ q ∈ lw_privs_2, lw_okq q := List.forall_mem_cons.mpr ⟨lw_p16, List.forall_mem_cons.mpr ⟨lw_p17, List.forall_mem_cons.mpr ⟨lw_p18, List.forall_mem_cons.mpr ⟨lw_p19, List.forall_mem_cons.mpr ⟨lw_p20, List.forall_mem_cons.mpr ⟨lw_p21, List.forall_mem_cons.mpr ⟨lw_p22, List.forall_mem_cons.mpr ⟨lw_p23, List.forall_mem_cons.mpr ⟨lw_p24, List.forall_mem_cons.mpr ⟨lw_p25, List.forall_mem_cons.mpr ⟨lw_p26, List.forall_mem_cons.mpr ⟨lw_p27, List.forall_mem_cons.mpr ⟨lw_p28, List.forall_mem_cons.mpr ⟨lw_p29, List.forall_mem_cons.mpr ⟨lw_p30, List.forall_mem_cons.mpr ⟨lw_p31, fun _ h => absurd h List.not_mem_nil⟩⟩⟩⟩⟩⟩⟩⟩⟩⟩⟩⟩⟩⟩⟩⟩
theorem lw_p32 : lw_okq (⟨"java/lang/Throwable", "fillInStackTrace", "(I)Ljava/lang/Throwable;"⟩, 6) := ⟨⟨by decide +kernel, by decide +kernel⟩, List.mem_of_getElem? (i := 817) (by decide +kernel), List.mem_of_getElem? (i := 815) (by decide +kernel), List.mem_of_getElem? (i := 816) (by decide +kernel)⟩
theorem lw_p33 : lw_okq (⟨"PrefixCodes$Table", "partWithPrefix", "(I)I"⟩, 10) := ⟨⟨by decide +kernel, by decide +kernel⟩, List.mem_of_getElem? (i := 190) (by decide +kernel), List.mem_of_getElem? (i := 860) (by decide +kernel), List.mem_of_getElem? (i := 861) (by decide +kernel)⟩
theorem lw_p34 : lw_okq (⟨"PrefixCodes$Table", "wordFor", "(II)I"⟩, 10) := ⟨⟨by decide +kernel, by decide +kernel⟩, List.mem_of_getElem? (i := 190) (by decide +kernel), List.mem_of_getElem? (i := 867) (by decide +kernel), List.mem_of_getElem? (i := 868) (by decide +kernel)⟩
theorem lw_p35 : lw_okq (⟨"PrefixCodes$Table", "tellWord", "(II)I"⟩, 10) := ⟨⟨by decide +kernel, by decide +kernel⟩, List.mem_of_getElem? (i := 190) (by decide +kernel), List.mem_of_getElem? (i := 871) (by decide +kernel), List.mem_of_getElem? (i := 872) (by decide +kernel)⟩
theorem lw_p36 : lw_okq (⟨"PrefixCodes$Table", "partAround", "(I)I"⟩, 10) := ⟨⟨by decide +kernel, by decide +kernel⟩, List.mem_of_getElem? (i := 190) (by decide +kernel), List.mem_of_getElem? (i := 875) (by decide +kernel), List.mem_of_getElem? (i := 876) (by decide +kernel)⟩
theorem lw_p37 : lw_okq (⟨"PrefixCodesModel", "made", "(I)I"⟩, 33) := ⟨⟨by decide +kernel, by decide +kernel⟩, List.mem_of_getElem? (i := 887) (by decide +kernel), List.mem_of_getElem? (i := 1003) (by decide +kernel), List.mem_of_getElem? (i := 1004) (by decide +kernel)⟩
theorem lw_p38 : lw_okq (⟨"PrefixCodesModel", "hasSymbol", "(II)Z"⟩, 33) := ⟨⟨by decide +kernel, by decide +kernel⟩, List.mem_of_getElem? (i := 887) (by decide +kernel), List.mem_of_getElem? (i := 1011) (by decide +kernel), List.mem_of_getElem? (i := 1012) (by decide +kernel)⟩
theorem lw_p39 : lw_okq (⟨"PrefixCodesModel", "has", "(I)Z"⟩, 33) := ⟨⟨by decide +kernel, by decide +kernel⟩, List.mem_of_getElem? (i := 887) (by decide +kernel), List.mem_of_getElem? (i := 1015) (by decide +kernel), List.mem_of_getElem? (i := 1016) (by decide +kernel)⟩
theorem lw_p40 : lw_okq (⟨"PrefixCodesModel", "lengthOf", "(II)I"⟩, 33) := ⟨⟨by decide +kernel, by decide +kernel⟩, List.mem_of_getElem? (i := 887) (by decide +kernel), List.mem_of_getElem? (i := 1019) (by decide +kernel), List.mem_of_getElem? (i := 1020) (by decide +kernel)⟩
theorem lw_p41 : lw_okq (⟨"PrefixCodesModel", "kind", "(I)I"⟩, 33) := ⟨⟨by decide +kernel, by decide +kernel⟩, List.mem_of_getElem? (i := 887) (by decide +kernel), List.mem_of_getElem? (i := 1027) (by decide +kernel), List.mem_of_getElem? (i := 1028) (by decide +kernel)⟩
theorem lw_p42 : lw_okq (⟨"PrefixCodesModel", "words", "(I)I"⟩, 33) := ⟨⟨by decide +kernel, by decide +kernel⟩, List.mem_of_getElem? (i := 887) (by decide +kernel), List.mem_of_getElem? (i := 1031) (by decide +kernel), List.mem_of_getElem? (i := 1032) (by decide +kernel)⟩
theorem lw_p43 : lw_okq (⟨"PrefixCodesModel", "filled", "(I)I"⟩, 33) := ⟨⟨by decide +kernel, by decide +kernel⟩, List.mem_of_getElem? (i := 887) (by decide +kernel), List.mem_of_getElem? (i := 1035) (by decide +kernel), List.mem_of_getElem? (i := 1036) (by decide +kernel)⟩
theorem lw_p44 : lw_okq (⟨"PrefixCodesModel", "longest", "(I)I"⟩, 33) := ⟨⟨by decide +kernel, by decide +kernel⟩, List.mem_of_getElem? (i := 887) (by decide +kernel), List.mem_of_getElem? (i := 1040) (by decide +kernel), List.mem_of_getElem? (i := 1041) (by decide +kernel)⟩
theorem lw_p45 : lw_okq (⟨"PrefixCodesModel", "wordOf", "(II)I"⟩, 33) := ⟨⟨by decide +kernel, by decide +kernel⟩, List.mem_of_getElem? (i := 887) (by decide +kernel), List.mem_of_getElem? (i := 1048) (by decide +kernel), List.mem_of_getElem? (i := 1049) (by decide +kernel)⟩
theorem lw_p46 : lw_okq (⟨"PrefixCodesModel", "packages", "(III)V"⟩, 33) := ⟨⟨by decide +kernel, by decide +kernel⟩, List.mem_of_getElem? (i := 887) (by decide +kernel), List.mem_of_getElem? (i := 1071) (by decide +kernel), List.mem_of_getElem? (i := 1072) (by decide +kernel)⟩
theorem lw_p47 : lw_okq (⟨"PrefixCodesModel", "join", "(II)V"⟩, 33) := ⟨⟨by decide +kernel, by decide +kernel⟩, List.mem_of_getElem? (i := 887) (by decide +kernel), List.mem_of_getElem? (i := 1075) (by decide +kernel), List.mem_of_getElem? (i := 1076) (by decide +kernel)⟩
def lw_privs_3 : List (MethodName × Nat) := [(⟨"java/lang/Throwable", "fillInStackTrace", "(I)Ljava/lang/Throwable;"⟩, 6), (⟨"PrefixCodes$Table", "partWithPrefix", "(I)I"⟩, 10), (⟨"PrefixCodes$Table", "wordFor", "(II)I"⟩, 10), (⟨"PrefixCodes$Table", "tellWord", "(II)I"⟩, 10), (⟨"PrefixCodes$Table", "partAround", "(I)I"⟩, 10), (⟨"PrefixCodesModel", "made", "(I)I"⟩, 33), (⟨"PrefixCodesModel", "hasSymbol", "(II)Z"⟩, 33), (⟨"PrefixCodesModel", "has", "(I)Z"⟩, 33), (⟨"PrefixCodesModel", "lengthOf", "(II)I"⟩, 33), (⟨"PrefixCodesModel", "kind", "(I)I"⟩, 33), (⟨"PrefixCodesModel", "words", "(I)I"⟩, 33), (⟨"PrefixCodesModel", "filled", "(I)I"⟩, 33), (⟨"PrefixCodesModel", "longest", "(I)I"⟩, 33), (⟨"PrefixCodesModel", "wordOf", "(II)I"⟩, 33), (⟨"PrefixCodesModel", "packages", "(III)V"⟩, 33), (⟨"PrefixCodesModel", "join", "(II)V"⟩, 33)]
theorem lw_r3 : ∀ q ∈ lw_privs_3, lw_okq q := List.forall_mem_cons.mpr ⟨lw_p32, List.forall_mem_cons.mpr ⟨lw_p33, List.forall_mem_cons.mpr ⟨lw_p34, List.forall_mem_cons.mpr ⟨lw_p35, List.forall_mem_cons.mpr ⟨lw_p36, List.forall_mem_cons.mpr ⟨lw_p37, List.forall_mem_cons.mpr ⟨lw_p38, List.forall_mem_cons.mpr ⟨lw_p39, List.forall_mem_cons.mpr ⟨lw_p40, List.forall_mem_cons.mpr ⟨lw_p41, List.forall_mem_cons.mpr ⟨lw_p42, List.forall_mem_cons.mpr ⟨lw_p43, List.forall_mem_cons.mpr ⟨lw_p44, List.forall_mem_cons.mpr ⟨lw_p45, List.forall_mem_cons.mpr ⟨lw_p46, List.forall_mem_cons.mpr ⟨lw_p47, fun _ h => absurd h List.not_mem_nil⟩⟩⟩⟩⟩⟩⟩⟩⟩⟩⟩⟩⟩⟩⟩⟩
theorem lw_p48 : lw_okq (⟨"PrefixCodesModel", "hasRoom", "(I)Z"⟩, 33) := ⟨⟨by decide +kernel, by decide +kernel⟩, List.mem_of_getElem? (i := 887) (by decide +kernel), List.mem_of_getElem? (i := 1100) (by decide +kernel), List.mem_of_getElem? (i := 1101) (by decide +kernel)⟩
theorem lw_p49 : lw_okq (⟨"PrefixCodesModel", "putBits", "(II)V"⟩, 33) := ⟨⟨by decide +kernel, by decide +kernel⟩, List.mem_of_getElem? (i := 887) (by decide +kernel), List.mem_of_getElem? (i := 1104) (by decide +kernel), List.mem_of_getElem? (i := 1105) (by decide +kernel)⟩
theorem lw_p50 : lw_okq (⟨"PrefixCodesModel", "taken", "(IZ)I"⟩, 33) := ⟨⟨by decide +kernel, by decide +kernel⟩, List.mem_of_getElem? (i := 887) (by decide +kernel), List.mem_of_getElem? (i := 1121) (by decide +kernel), List.mem_of_getElem? (i := 1122) (by decide +kernel)⟩
theorem lw_p51 : lw_okq (⟨"PrefixCodesModel", "packed", "(IIZ)I"⟩, 33) := ⟨⟨by decide +kernel, by decide +kernel⟩, List.mem_of_getElem? (i := 887) (by decide +kernel), List.mem_of_getElem? (i := 1129) (by decide +kernel), List.mem_of_getElem? (i := 1130) (by decide +kernel)⟩
theorem lw_p52 : lw_okq (⟨"PrefixCodesModel", "runs", "(IZ)I"⟩, 33) := ⟨⟨by decide +kernel, by decide +kernel⟩, List.mem_of_getElem? (i := 887) (by decide +kernel), List.mem_of_getElem? (i := 1133) (by decide +kernel), List.mem_of_getElem? (i := 1134) (by decide +kernel)⟩
theorem lw_p53 : lw_okq (⟨"PrefixCodesModel", "fillCommands", "(I)V"⟩, 33) := ⟨⟨by decide +kernel, by decide +kernel⟩, List.mem_of_getElem? (i := 887) (by decide +kernel), List.mem_of_getElem? (i := 1137) (by decide +kernel), List.mem_of_getElem? (i := 1138) (by decide +kernel)⟩
theorem lw_p54 : lw_okq (⟨"PrefixCodesModel", "tell", "(II)V"⟩, 33) := ⟨⟨by decide +kernel, by decide +kernel⟩, List.mem_of_getElem? (i := 887) (by decide +kernel), List.mem_of_getElem? (i := 1141) (by decide +kernel), List.mem_of_getElem? (i := 1142) (by decide +kernel)⟩
theorem lw_p55 : lw_okq (⟨"PrefixCodesModel", "plain", "(I)I"⟩, 33) := ⟨⟨by decide +kernel, by decide +kernel⟩, List.mem_of_getElem? (i := 887) (by decide +kernel), List.mem_of_getElem? (i := 1155) (by decide +kernel), List.mem_of_getElem? (i := 1156) (by decide +kernel)⟩
theorem lw_p56 : lw_okq (⟨"PrefixCodesModel", "steps", "(I)I"⟩, 33) := ⟨⟨by decide +kernel, by decide +kernel⟩, List.mem_of_getElem? (i := 887) (by decide +kernel), List.mem_of_getElem? (i := 1160) (by decide +kernel), List.mem_of_getElem? (i := 1161) (by decide +kernel)⟩
theorem lw_p57 : lw_okq (⟨"PrefixCodesModel", "readRuns", "(I)I"⟩, 33) := ⟨⟨by decide +kernel, by decide +kernel⟩, List.mem_of_getElem? (i := 887) (by decide +kernel), List.mem_of_getElem? (i := 1164) (by decide +kernel), List.mem_of_getElem? (i := 1165) (by decide +kernel)⟩
theorem lw_p58 : lw_okq (⟨"PrefixCodesModel", "clearEntries", "(II)V"⟩, 33) := ⟨⟨by decide +kernel, by decide +kernel⟩, List.mem_of_getElem? (i := 887) (by decide +kernel), List.mem_of_getElem? (i := 1172) (by decide +kernel), List.mem_of_getElem? (i := 1173) (by decide +kernel)⟩
theorem lw_p59 : lw_okq (⟨"PrefixCodesModel", "putEntry", "(IIII)V"⟩, 33) := ⟨⟨by decide +kernel, by decide +kernel⟩, List.mem_of_getElem? (i := 887) (by decide +kernel), List.mem_of_getElem? (i := 1176) (by decide +kernel), List.mem_of_getElem? (i := 1177) (by decide +kernel)⟩
theorem lw_p60 : lw_okq (⟨"PrefixCodesModel", "part", "(IIII)V"⟩, 33) := ⟨⟨by decide +kernel, by decide +kernel⟩, List.mem_of_getElem? (i := 887) (by decide +kernel), List.mem_of_getElem? (i := 1180) (by decide +kernel), List.mem_of_getElem? (i := 1181) (by decide +kernel)⟩
theorem lw_p61 : lw_okq (⟨"PrefixCodesModel", "groupOf", "(II)I"⟩, 33) := ⟨⟨by decide +kernel, by decide +kernel⟩, List.mem_of_getElem? (i := 887) (by decide +kernel), List.mem_of_getElem? (i := 1203) (by decide +kernel), List.mem_of_getElem? (i := 1204) (by decide +kernel)⟩
theorem lw_p62 : lw_okq (⟨"PrefixCodesModel", "make", "(I)V"⟩, 33) := ⟨⟨by decide +kernel, by decide +kernel⟩, List.mem_of_getElem? (i := 887) (by decide +kernel), List.mem_of_getElem? (i := 1207) (by decide +kernel), List.mem_of_getElem? (i := 1208) (by decide +kernel)⟩
theorem lw_p63 : lw_okq (⟨"PrefixCodesModel", "best", "(I)I"⟩, 33) := ⟨⟨by decide +kernel, by decide +kernel⟩, List.mem_of_getElem? (i := 887) (by decide +kernel), List.mem_of_getElem? (i := 1211) (by decide +kernel), List.mem_of_getElem? (i := 1212) (by decide +kernel)⟩
def lw_privs_4 : List (MethodName × Nat) := [(⟨"PrefixCodesModel", "hasRoom", "(I)Z"⟩, 33), (⟨"PrefixCodesModel", "putBits", "(II)V"⟩, 33), (⟨"PrefixCodesModel", "taken", "(IZ)I"⟩, 33), (⟨"PrefixCodesModel", "packed", "(IIZ)I"⟩, 33), (⟨"PrefixCodesModel", "runs", "(IZ)I"⟩, 33), (⟨"PrefixCodesModel", "fillCommands", "(I)V"⟩, 33), (⟨"PrefixCodesModel", "tell", "(II)V"⟩, 33), (⟨"PrefixCodesModel", "plain", "(I)I"⟩, 33), (⟨"PrefixCodesModel", "steps", "(I)I"⟩, 33), (⟨"PrefixCodesModel", "readRuns", "(I)I"⟩, 33), (⟨"PrefixCodesModel", "clearEntries", "(II)V"⟩, 33), (⟨"PrefixCodesModel", "putEntry", "(IIII)V"⟩, 33), (⟨"PrefixCodesModel", "part", "(IIII)V"⟩, 33), (⟨"PrefixCodesModel", "groupOf", "(II)I"⟩, 33), (⟨"PrefixCodesModel", "make", "(I)V"⟩, 33), (⟨"PrefixCodesModel", "best", "(I)I"⟩, 33)]
theorem lw_r4 : ∀ q ∈ lw_privs_4, lw_okq q := List.forall_mem_cons.mpr ⟨lw_p48, List.forall_mem_cons.mpr ⟨lw_p49, List.forall_mem_cons.mpr ⟨lw_p50, List.forall_mem_cons.mpr ⟨lw_p51, List.forall_mem_cons.mpr ⟨lw_p52, List.forall_mem_cons.mpr ⟨lw_p53, List.forall_mem_cons.mpr ⟨lw_p54, List.forall_mem_cons.mpr ⟨lw_p55, List.forall_mem_cons.mpr ⟨lw_p56, List.forall_mem_cons.mpr ⟨lw_p57, List.forall_mem_cons.mpr ⟨lw_p58, List.forall_mem_cons.mpr ⟨lw_p59, List.forall_mem_cons.mpr ⟨lw_p60, List.forall_mem_cons.mpr ⟨lw_p61, List.forall_mem_cons.mpr ⟨lw_p62, List.forall_mem_cons.mpr ⟨lw_p63, fun _ h => absurd h List.not_mem_nil⟩⟩⟩⟩⟩⟩⟩⟩⟩⟩⟩⟩⟩⟩⟩⟩
theorem lw_p64 : lw_okq (⟨"PrefixCodesModel", "begin", "(I)V"⟩, 33) := ⟨⟨by decide +kernel, by decide +kernel⟩, List.mem_of_getElem? (i := 887) (by decide +kernel), List.mem_of_getElem? (i := 1223) (by decide +kernel), List.mem_of_getElem? (i := 1224) (by decide +kernel)⟩
theorem lw_p65 : lw_okq (⟨"PrefixCodesModel", "front", "(I)I"⟩, 33) := ⟨⟨by decide +kernel, by decide +kernel⟩, List.mem_of_getElem? (i := 887) (by decide +kernel), List.mem_of_getElem? (i := 1227) (by decide +kernel), List.mem_of_getElem? (i := 1228) (by decide +kernel)⟩
def lw_privs_5 : List (MethodName × Nat) := [(⟨"PrefixCodesModel", "begin", "(I)V"⟩, 33), (⟨"PrefixCodesModel", "front", "(I)I"⟩, 33)]
theorem lw_r5 : ∀ q ∈ lw_privs_5, lw_okq q := List.forall_mem_cons.mpr ⟨lw_p64, List.forall_mem_cons.mpr ⟨lw_p65, fun _ h => absurd h List.not_mem_nil⟩⟩
def lw_privs : List (MethodName × Nat) := lw_privs_1 ++ (lw_privs_2 ++ (lw_privs_3 ++ (lw_privs_4 ++ (lw_privs_5))))
def lw_tbl : List Cond := k2_sels lw_privs ++ tables_1
theorem lw_privs_ok : ∀ q ∈ lw_privs, lw_okq q := by
  show ∀ q ∈ lw_privs_1 ++ (lw_privs_2 ++ (lw_privs_3 ++ (lw_privs_4 ++ (lw_privs_5)))), lw_okq q
  exact List.forall_mem_append.mpr ⟨lw_r1, List.forall_mem_append.mpr ⟨lw_r2, List.forall_mem_append.mpr ⟨lw_r3, List.forall_mem_append.mpr ⟨lw_r4, lw_r5⟩⟩⟩⟩
-- ===== end of PART A; then your names; then what follows =====
def F_PC : u_T := fun k => match k with
  | 0 => ("PrefixCodes", "codes", "[LPrefixCodes$Code;", true)
  | 1 => ("PrefixCodes", "codesMade", "I", false)
  | 2 => ("PrefixCodes", "counts", "[I", true)
  | 3 => ("PrefixCodes", "stream", "LPrefixCodes$Stream;", true)
  | 4 => ("PrefixCodes", "packages", "LPrefixCodes$Packages;", true)
  | 5 => ("PrefixCodes", "manners", "LPrefixCodes$Manners;", true)
  | 6 => ("PrefixCodes", "lastTable", "LPrefixCodes$Table;", true)
  | 7 => ("PrefixCodes", "text", "LPrefixCodes$Text;", true)
  | 8 => ("PrefixCodes", "choice", "LPrefixCodes$Choice;", true)
  | _ => ("PrefixCodes", "reader", "LPrefixCodes$Reader;", true)
def t_PC : Nat → FieldType := fun k => match k with
  | 0 => .array (.object "PrefixCodes$Code")
  | 1 => .int
  | 2 => .array .int
  | 3 => .object "PrefixCodes$Stream"
  | 4 => .object "PrefixCodes$Packages"
  | 5 => .object "PrefixCodes$Manners"
  | 6 => .object "PrefixCodes$Table"
  | 7 => .object "PrefixCodes$Text"
  | 8 => .object "PrefixCodes$Choice"
  | _ => .object "PrefixCodes$Reader"
theorem n_PC : ∀ a, a < 10 → ∀ b, b < 10 → a ≠ b → (F_PC a).2.1 ≠ (F_PC b).2.1 := by decide +kernel
theorem t_PC_ok : ∀ k, k < 10 → parseFieldDescriptor (F_PC k).2.2.1 = some (t_PC k) := by decide +kernel
def F_Mo : u_T := fun k => match k with
  | 0 => ("PrefixCodesModel", "thrown", "I", false)
  | 1 => ("PrefixCodesModel", "codes", "I", false)
  | 2 => ("PrefixCodesModel", "symbols", "[I", true)
  | 3 => ("PrefixCodesModel", "lengths", "[I", true)
  | 4 => ("PrefixCodesModel", "counts", "[I", true)
  | 5 => ("PrefixCodesModel", "weight", "[J", true)
  | 6 => ("PrefixCodesModel", "item", "[I", true)
  | 7 => ("PrefixCodesModel", "often", "[I", true)
  | 8 => ("PrefixCodesModel", "rowSize", "[I", true)
  | 9 => ("PrefixCodesModel", "given", "[I", true)
  | 10 => ("PrefixCodesModel", "stream", "[B", true)
  | 11 => ("PrefixCodesModel", "from", "I", false)
  | 12 => ("PrefixCodesModel", "to", "I", false)
  | 13 => ("PrefixCodesModel", "command", "[I", true)
  | 14 => ("PrefixCodesModel", "more", "[I", true)
  | 15 => ("PrefixCodesModel", "commands", "I", false)
  | 16 => ("PrefixCodesModel", "read", "[I", true)
  | 17 => ("PrefixCodesModel", "entryKind", "[B", true)
  | 18 => ("PrefixCodesModel", "entryWhat", "[I", true)
  | 19 => ("PrefixCodesModel", "entryBits", "[I", true)
  | 20 => ("PrefixCodesModel", "entries", "I", false)
  | 21 => ("PrefixCodesModel", "text", "[I", true)
  | 22 => ("PrefixCodesModel", "textSize", "I", false)
  | 23 => ("PrefixCodesModel", "chosen", "I", false)
  | 24 => ("PrefixCodesModel", "chosenCodes", "I", false)
  | 25 => ("PrefixCodesModel", "chosenSize", "I", false)
  | 26 => ("PrefixCodesModel", "groups", "I", false)
  | 27 => ("PrefixCodesModel", "groupCode", "[I", true)
  | 28 => ("PrefixCodesModel", "then", "[I", true)
  | 29 => ("PrefixCodesModel", "thenSize", "I", false)
  | 30 => ("PrefixCodesModel", "places", "[I", true)
  | 31 => ("PrefixCodesModel", "readGroup", "[I", true)
  | _ => ("PrefixCodesModel", "readText", "[I", true)
def t_Mo : Nat → FieldType := fun k => match k with
  | 0 => .int
  | 1 => .int
  | 2 => .array .int
  | 3 => .array .int
  | 4 => .array .int
  | 5 => .array .long
  | 6 => .array .int
  | 7 => .array .int
  | 8 => .array .int
  | 9 => .array .int
  | 10 => .array .byte
  | 11 => .int
  | 12 => .int
  | 13 => .array .int
  | 14 => .array .int
  | 15 => .int
  | 16 => .array .int
  | 17 => .array .byte
  | 18 => .array .int
  | 19 => .array .int
  | 20 => .int
  | 21 => .array .int
  | 22 => .int
  | 23 => .int
  | 24 => .int
  | 25 => .int
  | 26 => .int
  | 27 => .array .int
  | 28 => .array .int
  | 29 => .int
  | 30 => .array .int
  | 31 => .array .int
  | _ => .array .int
theorem n_Mo : ∀ a, a < 33 → ∀ b, b < 33 → a ≠ b → (F_Mo a).2.1 ≠ (F_Mo b).2.1 := by decide +kernel
theorem t_Mo_ok : ∀ k, k < 33 → parseFieldDescriptor (F_Mo k).2.2.1 = some (t_Mo k) := by decide +kernel
def F_Choice : u_T := fun k => match k with
  | 0 => ("PrefixCodes$Choice", "text", "[I", true)
  | 1 => ("PrefixCodes$Choice", "textSize", "I", false)
  | 2 => ("PrefixCodes$Choice", "groupSize", "I", false)
  | 3 => ("PrefixCodes$Choice", "groups", "I", false)
  | 4 => ("PrefixCodes$Choice", "codeOfGroup", "[I", true)
  | 5 => ("PrefixCodes$Choice", "codes", "[LPrefixCodes$Code;", true)
  | 6 => ("PrefixCodes$Choice", "manyCodes", "I", false)
  | 7 => ("PrefixCodes$Choice", "often", "[I", true)
  | _ => ("PrefixCodes$Choice", "selectors", "LPrefixCodes$Selectors;", true)
def t_Choice : Nat → FieldType := fun k => match k with
  | 0 => .array .int
  | 1 => .int
  | 2 => .int
  | 3 => .int
  | 4 => .array .int
  | 5 => .array (.object "PrefixCodes$Code")
  | 6 => .int
  | 7 => .array .int
  | _ => .object "PrefixCodes$Selectors"
theorem n_Choice : ∀ a, a < 9 → ∀ b, b < 9 → a ≠ b → (F_Choice a).2.1 ≠ (F_Choice b).2.1 := by decide +kernel
theorem t_Choice_ok : ∀ k, k < 9 → parseFieldDescriptor (F_Choice k).2.2.1 = some (t_Choice k) := by decide +kernel
def F_Code : u_T := fun k => match k with
  | 0 => ("PrefixCodes$Code", "symbols", "I", true)
  | 1 => ("PrefixCodes$Code", "lengths", "[I", true)
  | 2 => ("PrefixCodes$Code", "words", "[I", true)
  | 3 => ("PrefixCodes$Code", "ordered", "[I", true)
  | 4 => ("PrefixCodes$Code", "manyOfLength", "[I", true)
  | 5 => ("PrefixCodes$Code", "firstWord", "[I", true)
  | 6 => ("PrefixCodes$Code", "firstPlace", "[I", true)
  | 7 => ("PrefixCodes$Code", "filled", "I", false)
  | 8 => ("PrefixCodes$Code", "having", "I", false)
  | 9 => ("PrefixCodes$Code", "greatest", "I", false)
  | _ => ("PrefixCodes$Code", "kind", "I", false)
def t_Code : Nat → FieldType := fun k => match k with
  | 0 => .int
  | 1 => .array .int
  | 2 => .array .int
  | 3 => .array .int
  | 4 => .array .int
  | 5 => .array .int
  | 6 => .array .int
  | 7 => .int
  | 8 => .int
  | 9 => .int
  | _ => .int
theorem n_Code : ∀ a, a < 11 → ∀ b, b < 11 → a ≠ b → (F_Code a).2.1 ≠ (F_Code b).2.1 := by decide +kernel
theorem t_Code_ok : ∀ k, k < 11 → parseFieldDescriptor (F_Code k).2.2.1 = some (t_Code k) := by decide +kernel
def F_Commands : u_T := fun k => match k with
  | 0 => ("PrefixCodes$Commands", "stream", "LPrefixCodes$Stream;", true)
  | 1 => ("PrefixCodes$Commands", "packages", "LPrefixCodes$Packages;", true)
  | 2 => ("PrefixCodes$Commands", "code", "LPrefixCodes$Code;", true)
  | 3 => ("PrefixCodes$Commands", "often", "[I", true)
  | 4 => ("PrefixCodes$Commands", "row", "[I", true)
  | 5 => ("PrefixCodes$Commands", "runs", "[I", true)
  | _ => ("PrefixCodes$Commands", "size", "I", false)
def t_Commands : Nat → FieldType := fun k => match k with
  | 0 => .object "PrefixCodes$Stream"
  | 1 => .object "PrefixCodes$Packages"
  | 2 => .object "PrefixCodes$Code"
  | 3 => .array .int
  | 4 => .array .int
  | 5 => .array .int
  | _ => .int
theorem n_Commands : ∀ a, a < 7 → ∀ b, b < 7 → a ≠ b → (F_Commands a).2.1 ≠ (F_Commands b).2.1 := by decide +kernel
theorem t_Commands_ok : ∀ k, k < 7 → parseFieldDescriptor (F_Commands k).2.2.1 = some (t_Commands k) := by decide +kernel
def F_Manners : u_T := fun k => match k with
  | 0 => ("PrefixCodes$Manners", "stream", "LPrefixCodes$Stream;", true)
  | 1 => ("PrefixCodes$Manners", "commands", "LPrefixCodes$Commands;", true)
  | _ => ("PrefixCodes$Manners", "found", "[I", true)
def t_Manners : Nat → FieldType := fun k => match k with
  | 0 => .object "PrefixCodes$Stream"
  | 1 => .object "PrefixCodes$Commands"
  | _ => .array .int
theorem n_Manners : ∀ a, a < 3 → ∀ b, b < 3 → a ≠ b → (F_Manners a).2.1 ≠ (F_Manners b).2.1 := by decide +kernel
theorem t_Manners_ok : ∀ k, k < 3 → parseFieldDescriptor (F_Manners k).2.2.1 = some (t_Manners k) := by decide +kernel
def F_Packages : u_T := fun k => match k with
  | 0 => ("PrefixCodes$Packages", "ordered", "[I", true)
  | 1 => ("PrefixCodes$Packages", "weights", "[I", true)
  | 2 => ("PrefixCodes$Packages", "many", "I", false)
  | 3 => ("PrefixCodes$Packages", "row", "[[J", true)
  | 4 => ("PrefixCodes$Packages", "sizes", "[I", true)
  | _ => ("PrefixCodes$Packages", "isSymbol", "[[I", true)
def t_Packages : Nat → FieldType := fun k => match k with
  | 0 => .array .int
  | 1 => .array .int
  | 2 => .int
  | 3 => .array (.array .long)
  | 4 => .array .int
  | _ => .array (.array .int)
theorem n_Packages : ∀ a, a < 6 → ∀ b, b < 6 → a ≠ b → (F_Packages a).2.1 ≠ (F_Packages b).2.1 := by decide +kernel
theorem t_Packages_ok : ∀ k, k < 6 → parseFieldDescriptor (F_Packages k).2.2.1 = some (t_Packages k) := by decide +kernel
def F_Reader : u_T := fun k => match k with
  | 0 => ("PrefixCodes$Reader", "stream", "LPrefixCodes$Stream;", true)
  | 1 => ("PrefixCodes$Reader", "codes", "[LPrefixCodes$Code;", true)
  | 2 => ("PrefixCodes$Reader", "selectors", "LPrefixCodes$Selectors;", true)
  | 3 => ("PrefixCodes$Reader", "codeOfGroup", "[I", true)
  | _ => ("PrefixCodes$Reader", "found", "[I", true)
def t_Reader : Nat → FieldType := fun k => match k with
  | 0 => .object "PrefixCodes$Stream"
  | 1 => .array (.object "PrefixCodes$Code")
  | 2 => .object "PrefixCodes$Selectors"
  | 3 => .array .int
  | _ => .array .int
theorem n_Reader : ∀ a, a < 5 → ∀ b, b < 5 → a ≠ b → (F_Reader a).2.1 ≠ (F_Reader b).2.1 := by decide +kernel
theorem t_Reader_ok : ∀ k, k < 5 → parseFieldDescriptor (F_Reader k).2.2.1 = some (t_Reader k) := by decide +kernel
def F_Selectors : u_T := fun k => match k with
  | 0 => ("PrefixCodes$Selectors", "row", "[I", true)
  | _ => ("PrefixCodes$Selectors", "many", "I", false)
def t_Selectors : Nat → FieldType := fun k => match k with
  | 0 => .array .int
  | _ => .int
theorem n_Selectors : ∀ a, a < 2 → ∀ b, b < 2 → a ≠ b → (F_Selectors a).2.1 ≠ (F_Selectors b).2.1 := by decide +kernel
theorem t_Selectors_ok : ∀ k, k < 2 → parseFieldDescriptor (F_Selectors k).2.2.1 = some (t_Selectors k) := by decide +kernel
def F_Stream : u_T := fun k => match k with
  | 0 => ("PrefixCodes$Stream", "cells", "[I", true)
  | 1 => ("PrefixCodes$Stream", "head", "I", false)
  | 2 => ("PrefixCodes$Stream", "size", "I", false)
  | 3 => ("PrefixCodes$Stream", "sizeAtBegin", "I", false)
  | _ => ("PrefixCodes$Stream", "overflowed", "Z", false)
def t_Stream : Nat → FieldType := fun k => match k with
  | 0 => .array .int
  | 1 => .int
  | 2 => .int
  | 3 => .int
  | _ => .boolean
theorem n_Stream : ∀ a, a < 5 → ∀ b, b < 5 → a ≠ b → (F_Stream a).2.1 ≠ (F_Stream b).2.1 := by decide +kernel
theorem t_Stream_ok : ∀ k, k < 5 → parseFieldDescriptor (F_Stream k).2.2.1 = some (t_Stream k) := by decide +kernel
def F_Table : u_T := fun k => match k with
  | 0 => ("PrefixCodes$Table", "root", "I", false)
  | 1 => ("PrefixCodes$Table", "entries", "I", false)
  | 2 => ("PrefixCodes$Table", "words", "I", false)
  | 3 => ("PrefixCodes$Table", "symbols", "[I", true)
  | 4 => ("PrefixCodes$Table", "lengths", "[I", true)
  | 5 => ("PrefixCodes$Table", "numbers", "[I", true)
  | 6 => ("PrefixCodes$Table", "parts", "I", false)
  | 7 => ("PrefixCodes$Table", "prefixes", "[I", true)
  | 8 => ("PrefixCodes$Table", "partBits", "[I", true)
  | _ => ("PrefixCodes$Table", "starts", "[I", true)
def t_Table : Nat → FieldType := fun k => match k with
  | 0 => .int
  | 1 => .int
  | 2 => .int
  | 3 => .array .int
  | 4 => .array .int
  | 5 => .array .int
  | 6 => .int
  | 7 => .array .int
  | 8 => .array .int
  | _ => .array .int
theorem n_Table : ∀ a, a < 10 → ∀ b, b < 10 → a ≠ b → (F_Table a).2.1 ≠ (F_Table b).2.1 := by decide +kernel
theorem t_Table_ok : ∀ k, k < 10 → parseFieldDescriptor (F_Table k).2.2.1 = some (t_Table k) := by decide +kernel
def F_Text : u_T := fun k => match k with
  | 0 => ("PrefixCodes$Text", "row", "[I", true)
  | 1 => ("PrefixCodes$Text", "size", "I", false)
  | 2 => ("PrefixCodes$Text", "offered", "[I", true)
  | _ => ("PrefixCodes$Text", "often", "[I", true)
def t_Text : Nat → FieldType := fun k => match k with
  | 0 => .array .int
  | 1 => .int
  | 2 => .array .int
  | _ => .array .int
theorem n_Text : ∀ a, a < 4 → ∀ b, b < 4 → a ≠ b → (F_Text a).2.1 ≠ (F_Text b).2.1 := by decide +kernel
theorem t_Text_ok : ∀ k, k < 4 → parseFieldDescriptor (F_Text k).2.2.1 = some (t_Text k) := by decide +kernel
abbrev vwCl : List vw_C := [("PrefixCodes", F_PC, 10), ("PrefixCodesModel", F_Mo, 33), ("PrefixCodes$Choice", F_Choice, 9), ("PrefixCodes$Code", F_Code, 11), ("PrefixCodes$Commands", F_Commands, 7), ("PrefixCodes$Manners", F_Manners, 3), ("PrefixCodes$Packages", F_Packages, 6), ("PrefixCodes$Reader", F_Reader, 5), ("PrefixCodes$Selectors", F_Selectors, 2), ("PrefixCodes$Stream", F_Stream, 5), ("PrefixCodes$Table", F_Table, 10), ("PrefixCodes$Text", F_Text, 4)]
def gW : List Cond := lw_tbl.filter goodWord
theorem gt1 : ∀ w ∈ tables_1_1, w ∈ lw_tbl := fun w h => List.mem_append_right _ (List.mem_append_left _ h)
theorem gt2 : ∀ w ∈ tables_1_2, w ∈ lw_tbl := fun w h => List.mem_append_right _ (List.mem_append_right _ (List.mem_append_left _ h))
theorem gt3 : ∀ w ∈ tables_1_3, w ∈ lw_tbl := fun w h => List.mem_append_right _ (List.mem_append_right _ (List.mem_append_right _ (List.mem_append_left _ h)))
theorem gt4 : ∀ w ∈ tables_1_4, w ∈ lw_tbl := fun w h => List.mem_append_right _ (List.mem_append_right _ (List.mem_append_right _ (List.mem_append_right _ (List.mem_append_left _ h))))
theorem gt5 : ∀ w ∈ tables_1_5, w ∈ lw_tbl := fun w h => List.mem_append_right _ (List.mem_append_right _ (List.mem_append_right _ (List.mem_append_right _ (List.mem_append_right _ (List.mem_append_left _ h)))))
theorem gt6 : ∀ w ∈ tables_1_6, w ∈ lw_tbl := fun w h => List.mem_append_right _ (List.mem_append_right _ (List.mem_append_right _ (List.mem_append_right _ (List.mem_append_right _ (List.mem_append_right _ (h))))))
theorem gp1 : ∀ q ∈ lw_privs_1, Cond.selects q.1.cls q.1 q.1 ∈ lw_tbl := fun q h => List.mem_append_left _ (List.mem_map.mpr ⟨q, List.mem_append_left _ h, rfl⟩)
theorem gp2 : ∀ q ∈ lw_privs_2, Cond.selects q.1.cls q.1 q.1 ∈ lw_tbl := fun q h => List.mem_append_left _ (List.mem_map.mpr ⟨q, List.mem_append_right _ (List.mem_append_left _ h), rfl⟩)
theorem gp3 : ∀ q ∈ lw_privs_3, Cond.selects q.1.cls q.1 q.1 ∈ lw_tbl := fun q h => List.mem_append_left _ (List.mem_map.mpr ⟨q, List.mem_append_right _ (List.mem_append_right _ (List.mem_append_left _ h)), rfl⟩)
theorem gp4 : ∀ q ∈ lw_privs_4, Cond.selects q.1.cls q.1 q.1 ∈ lw_tbl := fun q h => List.mem_append_left _ (List.mem_map.mpr ⟨q, List.mem_append_right _ (List.mem_append_right _ (List.mem_append_right _ (List.mem_append_left _ h))), rfl⟩)
theorem gp5 : ∀ q ∈ lw_privs_5, Cond.selects q.1.cls q.1 q.1 ∈ lw_tbl := fun q h => List.mem_append_left _ (List.mem_map.mpr ⟨q, List.mem_append_right _ (List.mem_append_right _ (List.mem_append_right _ (List.mem_append_right _ (h)))), rfl⟩)
theorem gW_good : ∀ w ∈ gW, (w.onTables && w.keeps) = true ∨ ∃ ty, w = .arrayClass ty := fun w h => good_of_word (List.mem_filter.mp h).2
theorem gW_tbl : ∀ w ∈ gW, w ∈ lw_tbl := fun w h => (List.mem_filter.mp h).1
theorem gIn {x c : Cond} (h : c ∈ gW) : GoodIn (x :: gW) (c :: gW) := fun w hw => (List.mem_cons.mp hw).elim (fun e => e ▸ ⟨List.mem_cons_of_mem _ h, gW_good _ h⟩) (fun hw => ⟨List.mem_cons_of_mem _ hw, gW_good _ hw⟩)
def kdL : List ((Nat × Nat) ⊕ (Nat × Nat)) := [.inl (0, 10), .inr (3, 12), .inr (0, 64), .inl (9, 5), .inr (0, 625), .inl (6, 6), .inr (0, 64), .inr (0, 64), .inr (5, 2), .inr (1, 128), .inr (0, 15), .inr (4, 15), .inr (0, 128), .inl (5, 3), .inr (0, 64), .inl (4, 7), .inr (0, 19), .inr (0, 64), .inr (0, 64), .inl (10, 10), .inr (0, 64), .inr (0, 64), .inr (0, 64), .inr (0, 64), .inr (0, 64), .inr (0, 64), .inl (11, 4), .inr (0, 1000), .inr (0, 5), .inr (0, 64), .inl (2, 9), .inr (0, 1000), .inr (0, 1000), .inr (3, 6), .inr (0, 64), .inl (7, 5), .inr (3, 6), .inr (0, 1000), .inr (0, 1000), .inl (8, 2), .inr (0, 6), .inl (3, 11), .inr (0, 64), .inr (0, 64), .inr (0, 64), .inr (0, 16), .inr (0, 16), .inr (0, 16), .inl (1, 33), .inr (0, 13), .inr (0, 832), .inr (0, 64), .inr (1, 1920), .inr (0, 1920), .inr (0, 1920), .inr (0, 15), .inr (0, 64), .inr (2, 60000), .inr (0, 64), .inr (0, 64), .inr (0, 64), .inr (2, 80000), .inr (0, 80000), .inr (0, 80000), .inr (0, 1000), .inr (0, 1000), .inr (0, 1000), .inr (0, 6), .inr (0, 1000), .inr (0, 1000), .inr (1, 1)]
def kd (f : Nat) : (Nat × Nat) ⊕ (Nat × Nat) := kdL.getD f (.inr (0, 0))
def ptL : List (List (Option (Nat × (Nat → Nat)))) := [[some (1, fun _ => 0), none, some (2, fun _ => 0), some (3, fun _ => 0), some (5, fun _ => 0), some (13, fun _ => 0), some (19, fun _ => 0), some (26, fun _ => 0), some (30, fun _ => 0), some (35, fun _ => 0)], [], [], [some (4, fun _ => 0), none, none, none, none], [], [some (6, fun _ => 0), some (7, fun _ => 0), none, some (8, fun _ => 0), some (10, fun _ => 0), some (11, fun _ => 0)], [], [], [], [], [], [], [], [some (3, fun _ => 0), some (15, fun _ => 0), some (14, fun _ => 0)], [], [some (3, fun _ => 0), some (5, fun _ => 0), some (41, fun _ => 12), some (16, fun _ => 0), some (17, fun _ => 0), some (18, fun _ => 0), none], [], [], [], [none, none, none, some (20, fun _ => 0), some (21, fun _ => 0), some (22, fun _ => 0), none, some (23, fun _ => 0), some (24, fun _ => 0), some (25, fun _ => 0)], [], [], [], [], [], [], [some (27, fun _ => 0), none, some (28, fun _ => 0), some (29, fun _ => 0)], [], [], [], [some (31, fun _ => 0), none, none, none, some (32, fun _ => 0), some (33, fun _ => 0), none, some (34, fun _ => 0), some (39, fun _ => 0)], [], [], [], [], [some (3, fun _ => 0), some (36, fun _ => 0), some (39, fun _ => 1), some (37, fun _ => 0), some (38, fun _ => 0)], [], [], [], [some (40, fun i => i), none], [], [none, some (42, fun i => i), some (43, fun i => i), some (44, fun i => i), some (45, fun i => i), some (46, fun i => i), some (47, fun i => i), none, none, none, none], [], [], [], [], [], [], [none, none, some (49, fun _ => 0), some (50, fun _ => 0), some (51, fun _ => 0), some (52, fun _ => 0), some (53, fun _ => 0), some (54, fun _ => 0), some (55, fun _ => 0), some (56, fun _ => 0), some (57, fun _ => 0), none, none, some (58, fun _ => 0), some (59, fun _ => 0), none, some (60, fun _ => 0), some (61, fun _ => 0), some (62, fun _ => 0), some (63, fun _ => 0), none, some (64, fun _ => 0), none, none, none, none, none, some (65, fun _ => 0), some (66, fun _ => 0), none, some (67, fun _ => 0), some (68, fun _ => 0), some (69, fun _ => 0)], [], [], [], [], [], [], [], [], [], [], [], [], [], [], [], [], [], [], [], [], [], []]
def pt (f k : Nat) : Option (Nat × (Nat → Nat)) := (ptL.getD f []).getD k none
def tgL : List Nat := [0, 41, 0, 0, 0, 0, 0, 0, 9, 0, 0, 12, 0, 0, 0, 0, 0, 0, 0, 0, 0, 0, 0, 0, 0, 0, 0, 0, 0, 0, 0, 0, 0, 41, 0, 0, 41, 0, 0, 0, 0, 0, 0, 0, 0, 0, 0, 0, 0, 0, 0, 0, 0, 0, 0, 0, 0, 0, 0, 0, 0, 0, 0, 0, 0, 0, 0, 0, 0, 0, 0]
def tg (f : Nat) : Nat := tgL.getD f 0
def muL : List Nat := [1, 1, 1, 1, 1, 1, 1, 1, 1, 2, 1, 1, 15, 1, 1, 1, 1, 1, 1, 1, 1, 1, 1, 1, 1, 1, 1, 1, 1, 1, 1, 1, 1, 1, 1, 1, 1, 1, 1, 2, 2, 99, 99, 99, 99, 99, 99, 99, 1, 1, 1, 1, 1, 1, 1, 1, 1, 1, 1, 1, 1, 1, 1, 1, 1, 1, 1, 1, 1, 1, 1]
/-- the codes: those made, and the one of the commands (12) -/
def dmc (n i : Nat) : Prop := i < n ∨ i = 12
def dm (n f i : Nat) : Prop := if muL.getD f 0 = 99 then dmc n i else i < muL.getD f 0
theorem hd_0 {n : Nat} : dm n 0 0 := Nat.zero_lt_one
theorem hd_1 {n : Nat} : dm n 1 0 := Nat.zero_lt_one
theorem hd_2 {n : Nat} : dm n 2 0 := Nat.zero_lt_one
theorem hd_3 {n : Nat} : dm n 3 0 := Nat.zero_lt_one
theorem hd_4 {n : Nat} : dm n 4 0 := Nat.zero_lt_one
theorem hd_5 {n : Nat} : dm n 5 0 := Nat.zero_lt_one
theorem hd_6 {n : Nat} : dm n 6 0 := Nat.zero_lt_one
theorem hd_7 {n : Nat} : dm n 7 0 := Nat.zero_lt_one
theorem hd_8 {n : Nat} : dm n 8 0 := Nat.zero_lt_one
theorem hd_9_0 {n : Nat} : dm n 9 0 := Nat.zero_lt_two
theorem hd_9_1 {n : Nat} : dm n 9 1 := Nat.one_lt_two
theorem hd_10 {n : Nat} : dm n 10 0 := Nat.zero_lt_one
theorem hd_11 {n : Nat} : dm n 11 0 := Nat.zero_lt_one
theorem hd_13 {n : Nat} : dm n 13 0 := Nat.zero_lt_one
theorem hd_14 {n : Nat} : dm n 14 0 := Nat.zero_lt_one
theorem hd_15 {n : Nat} : dm n 15 0 := Nat.zero_lt_one
theorem hd_16 {n : Nat} : dm n 16 0 := Nat.zero_lt_one
theorem hd_17 {n : Nat} : dm n 17 0 := Nat.zero_lt_one
theorem hd_18 {n : Nat} : dm n 18 0 := Nat.zero_lt_one
theorem hd_19 {n : Nat} : dm n 19 0 := Nat.zero_lt_one
theorem hd_20 {n : Nat} : dm n 20 0 := Nat.zero_lt_one
theorem hd_21 {n : Nat} : dm n 21 0 := Nat.zero_lt_one
theorem hd_22 {n : Nat} : dm n 22 0 := Nat.zero_lt_one
theorem hd_23 {n : Nat} : dm n 23 0 := Nat.zero_lt_one
theorem hd_24 {n : Nat} : dm n 24 0 := Nat.zero_lt_one
theorem hd_25 {n : Nat} : dm n 25 0 := Nat.zero_lt_one
theorem hd_26 {n : Nat} : dm n 26 0 := Nat.zero_lt_one
theorem hd_27 {n : Nat} : dm n 27 0 := Nat.zero_lt_one
theorem hd_28 {n : Nat} : dm n 28 0 := Nat.zero_lt_one
theorem hd_29 {n : Nat} : dm n 29 0 := Nat.zero_lt_one
theorem hd_30 {n : Nat} : dm n 30 0 := Nat.zero_lt_one
theorem hd_31 {n : Nat} : dm n 31 0 := Nat.zero_lt_one
theorem hd_32 {n : Nat} : dm n 32 0 := Nat.zero_lt_one
theorem hd_33 {n : Nat} : dm n 33 0 := Nat.zero_lt_one
theorem hd_34 {n : Nat} : dm n 34 0 := Nat.zero_lt_one
theorem hd_35 {n : Nat} : dm n 35 0 := Nat.zero_lt_one
theorem hd_36 {n : Nat} : dm n 36 0 := Nat.zero_lt_one
theorem hd_37 {n : Nat} : dm n 37 0 := Nat.zero_lt_one
theorem hd_38 {n : Nat} : dm n 38 0 := Nat.zero_lt_one
theorem hd_39_0 {n : Nat} : dm n 39 0 := Nat.zero_lt_two
theorem hd_39_1 {n : Nat} : dm n 39 1 := Nat.one_lt_two
theorem hd_40_0 {n : Nat} : dm n 40 0 := Nat.zero_lt_two
theorem hd_40_1 {n : Nat} : dm n 40 1 := Nat.one_lt_two
theorem hd_41_12 {n : Nat} : dm n 41 12 := Or.inr rfl
theorem hd_42_12 {n : Nat} : dm n 42 12 := Or.inr rfl
theorem hd_43_12 {n : Nat} : dm n 43 12 := Or.inr rfl
theorem hd_44_12 {n : Nat} : dm n 44 12 := Or.inr rfl
theorem hd_45_12 {n : Nat} : dm n 45 12 := Or.inr rfl
theorem hd_46_12 {n : Nat} : dm n 46 12 := Or.inr rfl
theorem hd_47_12 {n : Nat} : dm n 47 12 := Or.inr rfl
theorem hd_48 {n : Nat} : dm n 48 0 := Nat.zero_lt_one
theorem hd_49 {n : Nat} : dm n 49 0 := Nat.zero_lt_one
theorem hd_50 {n : Nat} : dm n 50 0 := Nat.zero_lt_one
theorem hd_51 {n : Nat} : dm n 51 0 := Nat.zero_lt_one
theorem hd_52 {n : Nat} : dm n 52 0 := Nat.zero_lt_one
theorem hd_53 {n : Nat} : dm n 53 0 := Nat.zero_lt_one
theorem hd_54 {n : Nat} : dm n 54 0 := Nat.zero_lt_one
theorem hd_55 {n : Nat} : dm n 55 0 := Nat.zero_lt_one
theorem hd_56 {n : Nat} : dm n 56 0 := Nat.zero_lt_one
theorem hd_57 {n : Nat} : dm n 57 0 := Nat.zero_lt_one
theorem hd_58 {n : Nat} : dm n 58 0 := Nat.zero_lt_one
theorem hd_59 {n : Nat} : dm n 59 0 := Nat.zero_lt_one
theorem hd_60 {n : Nat} : dm n 60 0 := Nat.zero_lt_one
theorem hd_61 {n : Nat} : dm n 61 0 := Nat.zero_lt_one
theorem hd_62 {n : Nat} : dm n 62 0 := Nat.zero_lt_one
theorem hd_63 {n : Nat} : dm n 63 0 := Nat.zero_lt_one
theorem hd_64 {n : Nat} : dm n 64 0 := Nat.zero_lt_one
theorem hd_65 {n : Nat} : dm n 65 0 := Nat.zero_lt_one
theorem hd_66 {n : Nat} : dm n 66 0 := Nat.zero_lt_one
theorem hd_67 {n : Nat} : dm n 67 0 := Nat.zero_lt_one
theorem hd_68 {n : Nat} : dm n 68 0 := Nat.zero_lt_one
theorem hd_69 {n : Nat} : dm n 69 0 := Nat.zero_lt_one
theorem hd_70 {n : Nat} : dm n 70 0 := Nat.zero_lt_one
def nwM : List (String × Nat × MethodName × String) := [("PrefixCodes", 25, ⟨"PrefixCodes$Stream", "<init>", "()V"⟩, "PrefixCodes"), ("PrefixCodes", 32, ⟨"PrefixCodes$Packages", "<init>", "()V"⟩, "PrefixCodes"), ("PrefixCodes", 48, ⟨"PrefixCodes$Table", "<init>", "()V"⟩, "PrefixCodes"), ("PrefixCodes", 55, ⟨"PrefixCodes$Text", "<init>", "()V"⟩, "PrefixCodes"), ("PrefixCodes", 62, ⟨"PrefixCodes$Choice", "<init>", "()V"⟩, "PrefixCodes"), ("PrefixCodes$Choice", 42, ⟨"PrefixCodes$Selectors", "<init>", "()V"⟩, "PrefixCodes"), ("PrefixCodes$Reader", 19, ⟨"PrefixCodes$Selectors", "<init>", "()V"⟩, "PrefixCodes"), ("PrefixCodes$Manners", 78, ⟨"PrefixCodes", "isOutside", "(III)Z"⟩, "PrefixCodes")]
end
section
/-! the store: ints (fields and arrays), longs (arrays), references (arrays: the instance), how many codes there are -/
abbrev St : Type := (Nat → Nat → Nat → Int32) × (Nat → Nat → Nat → Int64) × (Nat → Nat → Nat → Option Nat) × Nat
def sI (σ : St) (f i k : Nat) (v : Int32) : St := (fun f' i' k' => if f' = f ∧ i' = i ∧ k' = k then v else σ.1 f' i' k', σ.2)
def sL (σ : St) (f i k : Nat) (v : Int64) : St := (σ.1, fun f' i' k' => if f' = f ∧ i' = i ∧ k' = k then v else σ.2.1 f' i' k', σ.2.2)
def sR (σ : St) (f i k : Nat) (v : Option Nat) : St := (σ.1, σ.2.1, fun f' i' k' => if f' = f ∧ i' = i ∧ k' = k then v else σ.2.2.1 f' i' k', σ.2.2.2)
def cpI (σ : St) (f i sp f2 i2 dp n : Nat) : St := (fun f' i' k' => if f' = f2 ∧ i' = i2 ∧ dp ≤ k' ∧ k' < dp + n then σ.1 f i (sp + (k' - dp)) else σ.1 f' i' k', σ.2)
def flI (σ : St) (f i n : Nat) (v : Int32) : St := (fun f' i' k' => if f' = f ∧ i' = i ∧ k' < n then v else σ.1 f' i' k', σ.2)
abbrev ib (i : Int32) (n : Nat) : Prop := ¬ (i < 0 ∨ n ≤ i.toNatClampNeg)
abbrev cpok (sp : Int32) (ns : Nat) (dp : Int32) (nd : Nat) (ln : Int32) : Prop := ¬ sp < 0 ∧ ¬ dp < 0 ∧ ¬ ln < 0 ∧ sp.toNatClampNeg + ln.toNatClampNeg ≤ ns ∧ dp.toNatClampNeg + ln.toNatClampNeg ≤ nd
def jmin (x y : Int32) : Int32 := if y < x then y else x
def jmax (x y : Int32) : Int32 := if x < y then y else x
/-! steps of a function that may have no answer -/
def gd {α : Type} (c : Prop) [Decidable c] (k : Option α) : Option α := if c then k else none
def nm {α β : Type} (e : α) (k : α → Option β) : Option β := k e
def on {α : Type} (o : Option Nat) (a : Option α) (k : Nat → Option α) : Option α := match o with
  | none => a
  | some j => k j
def b1 {β : Type} (x : Option St) (k : St → Option β) : Option β := match x with
  | none => none
  | some q => k q
def b2 {A β : Type} (x : Option (St × A)) (k : St → A → Option β) : Option β := match x with
  | none => none
  | some q => k q.1 q.2
def b3 {A B β : Type} (x : Option (St × A × B)) (k : St → A → B → Option β) : Option β := match x with
  | none => none
  | some q => k q.1 q.2.1 q.2.2
def b4 {A B C β : Type} (x : Option (St × A × B × C)) (k : St → A → B → C → Option β) : Option β := match x with
  | none => none
  | some q => k q.1 q.2.1 q.2.2.1 q.2.2.2
def b5 {A B C D β : Type} (x : Option (St × A × B × C × D)) (k : St → A → B → C → D → Option β) : Option β := match x with
  | none => none
  | some q => k q.1 q.2.1 q.2.2.1 q.2.2.2.1 q.2.2.2.2
def bs1 {ρ β : Type} (x : Option (St ⊕ ρ)) (kr : ρ → Option β) (k : St → Option β) : Option β := match x with
  | none => none
  | some (.inl q) => k q
  | some (.inr r) => kr r
def bs2 {A ρ β : Type} (x : Option ((St × A) ⊕ ρ)) (kr : ρ → Option β) (k : St → A → Option β) : Option β := match x with
  | none => none
  | some (.inl q) => k q.1 q.2
  | some (.inr r) => kr r
def bs3 {A B ρ β : Type} (x : Option ((St × A × B) ⊕ ρ)) (kr : ρ → Option β) (k : St → A → B → Option β) : Option β := match x with
  | none => none
  | some (.inl q) => k q.1 q.2.1 q.2.2
  | some (.inr r) => kr r
def bs4 {A B C ρ β : Type} (x : Option ((St × A × B × C) ⊕ ρ)) (kr : ρ → Option β) (k : St → A → B → C → Option β) : Option β := match x with
  | none => none
  | some (.inl q) => k q.1 q.2.1 q.2.2.1 q.2.2.2
  | some (.inr r) => kr r
theorem gd_some {α : Type} {c : Prop} [Decidable c] {k : Option α} {o : α} (h : gd c k = some o) : c ∧ k = some o := by
  unfold gd at h
  by_cases hc : c
  · rw [if_pos hc] at h; exact ⟨hc, h⟩
  · rw [if_neg hc] at h; cases h
theorem gd_t {α : Type} {c : Prop} [Decidable c] {k : Option α} (h : c) : gd c k = k := if_pos h
theorem nm_at {α β : Type} {e x : α} {k : α → Option β} {o : Option β} (ex : x = e) (h : nm e k = o) : k x = o := by subst ex; exact h
theorem nm_eq {α β : Type} {e : α} {k : α → Option β} : nm e k = k e := rfl
theorem it {α : Type} {c : Prop} [Decidable c] {a b : Option α} {o : Option α} (h : (if c then a else b) = o) (hc : c) : a = o := by rw [if_pos hc] at h; exact h
theorem ie {α : Type} {c : Prop} [Decidable c] {a b : Option α} {o : Option α} (h : (if c then a else b) = o) (hc : ¬ c) : b = o := by rw [if_neg hc] at h; exact h
theorem on_n {α : Type} {o : Option Nat} {a : Option α} {k : Nat → Option α} {r : Option α} (h : on o a k = r) (ho : o = none) : a = r := by subst ho; exact h
theorem on_s {α : Type} {o : Option Nat} {a : Option α} {k : Nat → Option α} {r : Option α} {j : Nat} (h : on o a k = r) (ho : o = some j) : k j = r := by subst ho; exact h
theorem on_some {α : Type} {o : Option Nat} {k : Nat → Option α} {r : α} (h : on o none k = some r) : ∃ j, o = some j ∧ k j = some r := by
  cases o with
  | none => cases h
  | some j => exact ⟨j, rfl, h⟩
theorem b1_some {β : Type} {x : Option St} {k : St → Option β} {o : β} (h : b1 x k = some o) : ∃ q, x = some q ∧ b1 (some q) k = some o := by
  cases x with
  | none => cases h
  | some q => exact ⟨q, rfl, h⟩
theorem b2_some {A β : Type} {x : Option (St × A)} {k : St → A → Option β} {o : β} (h : b2 x k = some o) : ∃ q, x = some q ∧ b2 (some q) k = some o := by
  cases x with
  | none => cases h
  | some q => exact ⟨q, rfl, h⟩
theorem b3_some {A B β : Type} {x : Option (St × A × B)} {k : St → A → B → Option β} {o : β} (h : b3 x k = some o) : ∃ q, x = some q ∧ b3 (some q) k = some o := by
  cases x with
  | none => cases h
  | some q => exact ⟨q, rfl, h⟩
theorem b4_some {A B C β : Type} {x : Option (St × A × B × C)} {k : St → A → B → C → Option β} {o : β} (h : b4 x k = some o) : ∃ q, x = some q ∧ b4 (some q) k = some o := by
  cases x with
  | none => cases h
  | some q => exact ⟨q, rfl, h⟩
theorem b5_some {A B C D β : Type} {x : Option (St × A × B × C × D)} {k : St → A → B → C → D → Option β} {o : β} (h : b5 x k = some o) : ∃ q, x = some q ∧ b5 (some q) k = some o := by
  cases x with
  | none => cases h
  | some q => exact ⟨q, rfl, h⟩
theorem b1_at {β : Type} {q : St} {k : St → Option β} {o : Option β} (h : b1 (some q) k = o) : k q = o := h
theorem b2_at {A β : Type} {q : St} {a : A} {k : St → A → Option β} {o : Option β} (h : b2 (some (q, a)) k = o) : k q a = o := h
theorem b3_at {A B β : Type} {q : St} {a : A} {b : B} {k : St → A → B → Option β} {o : Option β} (h : b3 (some (q, a, b)) k = o) : k q a b = o := h
theorem b4_at {A B C β : Type} {q : St} {a : A} {b : B} {c : C} {k : St → A → B → C → Option β} {o : Option β} (h : b4 (some (q, a, b, c)) k = o) : k q a b c = o := h
theorem b5_at {A B C D β : Type} {q : St} {a : A} {b : B} {c : C} {d : D} {k : St → A → B → C → D → Option β} {o : Option β} (h : b5 (some (q, a, b, c, d)) k = o) : k q a b c d = o := h
theorem bs1_some {ρ β : Type} {x : Option (St ⊕ ρ)} {kr : ρ → Option β} {k : St → Option β} {o : β} (h : bs1 x kr k = some o) : ∃ q, x = some q ∧ bs1 (some q) kr k = some o := by
  cases x with
  | none => cases h
  | some q => exact ⟨q, rfl, h⟩
theorem bs2_some {A ρ β : Type} {x : Option ((St × A) ⊕ ρ)} {kr : ρ → Option β} {k : St → A → Option β} {o : β} (h : bs2 x kr k = some o) : ∃ q, x = some q ∧ bs2 (some q) kr k = some o := by
  cases x with
  | none => cases h
  | some q => exact ⟨q, rfl, h⟩
theorem bs3_some {A B ρ β : Type} {x : Option ((St × A × B) ⊕ ρ)} {kr : ρ → Option β} {k : St → A → B → Option β} {o : β} (h : bs3 x kr k = some o) : ∃ q, x = some q ∧ bs3 (some q) kr k = some o := by
  cases x with
  | none => cases h
  | some q => exact ⟨q, rfl, h⟩
theorem bs4_some {A B C ρ β : Type} {x : Option ((St × A × B × C) ⊕ ρ)} {kr : ρ → Option β} {k : St → A → B → C → Option β} {o : β} (h : bs4 x kr k = some o) : ∃ q, x = some q ∧ bs4 (some q) kr k = some o := by
  cases x with
  | none => cases h
  | some q => exact ⟨q, rfl, h⟩
theorem bs1_at {ρ β : Type} {q : St} {kr : ρ → Option β} {k : St → Option β} {o : Option β} (h : bs1 (some (.inl q)) kr k = o) : k q = o := h
theorem bs2_at {A ρ β : Type} {q : St} {a : A} {kr : ρ → Option β} {k : St → A → Option β} {o : Option β} (h : bs2 (some (.inl (q, a))) kr k = o) : k q a = o := h
theorem bs3_at {A B ρ β : Type} {q : St} {a : A} {b : B} {kr : ρ → Option β} {k : St → A → B → Option β} {o : Option β} (h : bs3 (some (.inl (q, a, b))) kr k = o) : k q a b = o := h
theorem bs4_at {A B C ρ β : Type} {q : St} {a : A} {b : B} {c : C} {kr : ρ → Option β} {k : St → A → B → C → Option β} {o : Option β} (h : bs4 (some (.inl (q, a, b, c))) kr k = o) : k q a b c = o := h
theorem bs1_r {ρ β : Type} {r : ρ} {kr : ρ → Option β} {k : St → Option β} {o : Option β} (h : bs1 (some (.inr r)) kr k = o) : kr r = o := h
theorem bs2_r {A ρ β : Type} {r : ρ} {kr : ρ → Option β} {k : St → A → Option β} {o : Option β} (h : bs2 (some (.inr r)) kr k = o) : kr r = o := h
theorem bs3_r {A B ρ β : Type} {r : ρ} {kr : ρ → Option β} {k : St → A → B → Option β} {o : Option β} (h : bs3 (some (.inr r)) kr k = o) : kr r = o := h
theorem bs4_r {A B C ρ β : Type} {r : ρ} {kr : ρ → Option β} {k : St → A → B → C → Option β} {o : Option β} (h : bs4 (some (.inr r)) kr k = o) : kr r = o := h
/-! loops -/
def nx {α ρ : Type} (F : α → Option ρ) : α ⊕ ρ → Option ρ
  | .inl a => F a
  | .inr r => some r
def lp {α ρ : Type} (b : α → Option (α ⊕ ρ)) : Nat → α → Option ρ
  | 0, _ => none
  | n + 1, a => match b a with
    | none => none
    | some z => nx (lp b n) z
theorem lp_zero {α ρ : Type} (b : α → Option (α ⊕ ρ)) (a : α) (o : ρ) : ¬ lp b 0 a = some o := fun h => by cases h
theorem lp_succ {α ρ : Type} {b : α → Option (α ⊕ ρ)} {n : Nat} {a : α} {o : ρ} (h : lp b (n + 1) a = some o) : ∃ z, b a = some z ∧ nx (lp b n) z = some o := by
  unfold lp at h
  cases hb : b a with
  | none => rw [hb] at h; cases h
  | some z => rw [hb] at h; exact ⟨z, rfl, h⟩
theorem lp_more {α ρ : Type} {b : α → Option (α ⊕ ρ)} : ∀ (n : Nat) (a : α) (o : ρ), lp b n a = some o → lp b (n + 1) a = some o := by
  intro n
  induction n with
  | zero => intro a o h; exact absurd h (lp_zero _ _ _)
  | succ n ih =>
    intro a o h
    obtain ⟨z, h1, h2⟩ := lp_succ h
    show (match b a with | none => none | some z => nx (lp b (n + 1)) z) = some o
    rw [h1]
    cases z with
    | inl a' => exact ih a' o h2
    | inr r => exact h2
theorem lp_le {α ρ : Type} {b : α → Option (α ⊕ ρ)} {n k : Nat} {a : α} {o : ρ} (h : lp b n a = some o) (hk : n ≤ k) : lp b k a = some o := by
  induction k with
  | zero => rw [Nat.le_zero.mp hk] at h; exact h
  | succ k ih =>
    rcases Nat.lt_or_ge n (k + 1) with q | q
    · exact lp_more k a o (ih (by omega))
    · rw [show k + 1 = n by omega]; exact h
noncomputable def lpE {α ρ : Type} (b : α → Option (α ⊕ ρ)) (a : α) : Option ρ := @dite _ (∃ n o, lp b n a = some o) (Classical.propDecidable _) (fun h => lp b (Classical.choose h) a) (fun _ => none)
theorem lpE_of {α ρ : Type} {b : α → Option (α ⊕ ρ)} {n : Nat} {a : α} {o : ρ} (h : lp b n a = some o) : lpE b a = some o := by
  have hx : ∃ n o, lp b n a = some o := ⟨n, o, h⟩
  unfold lpE
  rw [dif_pos hx]
  obtain ⟨o2, h2⟩ := Classical.choose_spec hx
  have h3 := lp_le h (Nat.le_max_left n (Classical.choose hx))
  have h4 := lp_le h2 (Nat.le_max_right n (Classical.choose hx))
  rw [h3] at h4
  cases h4
  exact h2
theorem lpE_some {α ρ : Type} {b : α → Option (α ⊕ ρ)} {a : α} {o : ρ} (h : lpE b a = some o) : ∃ n, lp b n a = some o := by
  unfold lpE at h
  by_cases hx : ∃ n o, lp b n a = some o
  · rw [dif_pos hx] at h; exact ⟨_, h⟩
  · rw [dif_neg hx] at h; cases h
/-- one turn that goes on -/
theorem lpE_go {α ρ : Type} {b : α → Option (α ⊕ ρ)} {a a' : α} {o : ρ} (h : b a = some (.inl a')) (h2 : lpE b a' = some o) : lpE b a = some o := by
  obtain ⟨n, hn⟩ := lpE_some h2
  refine lpE_of (n := n + 1) ?_
  show (match b a with | none => none | some z => nx (lp b n) z) = some o
  rw [h]
  exact hn
/-- the turn that ends -/
theorem lpE_end {α ρ : Type} {b : α → Option (α ⊕ ρ)} {a : α} {o : ρ} (h : b a = some (.inr o)) : lpE b a = some o := by
  refine lpE_of (n := 1) ?_
  show (match b a with | none => none | some z => nx (lp b 0) z) = some o
  rw [h]
  rfl
end
section
/-! the cells that the store stands for -/
def fv (ad : Nat → Nat → Nat) (σ : St) (f i k : Nat) : Value := match pt f k with
  | some (f', g) => .ref (ad f' (g i))
  | none => .int (σ.1 f i k)
def cel (aC : Nat → ClassId) (ad : Nat → Nat → Nat) (σ : St) (f i : Nat) : va_E := match kd f with
  | .inl (ci, N) => .inr (ci, (List.range N).map (fv ad σ f i))
  | .inr (0, n) => .inl (aC 0, n, .inl (σ.1 f i))
  | .inr (1, n) => .inl (aC 1, n, .inr (.inl (σ.2.1 f i)))
  | .inr (2, n) => .inl (aC 2, n, .inl (σ.1 f i))
  | .inr (t + 3, n) => .inl (aC (t + 3), n, .inr (.inr (.inr (.inr (fun k => (σ.2.2.1 f i k).map (ad (tg f)))))))
def Hold (D : va_G) (aC : Nat → ClassId) (A : Nat → Prop) (ad : Nat → Nat → Nat) (n : Nat) (σ : St) (H : Heap) : Prop :=
  (∀ f i, dm n f i → va_at D vwCl (ad f i, cel aC ad σ f i) H) ∧ (∀ f i f' i', dm n f i → dm n f' i' → ad f i = ad f' i' → f = f' ∧ i = i') ∧ (∀ f i k j, dm n f i → σ.2.2.1 f i k = some j → dm n (tg f) j) ∧ (∀ f i, dm n f i → A (ad f i)) ∧ σ.2.2.2 = n
/-- one cell has changed -/
theorem Hold.upd {D : va_G} {aC : Nat → ClassId} {A : Nat → Prop} {ad : Nat → Nat → Nat} {n : Nat} {σ σ1 : St} {H H1 : Heap} (h : Hold D aC A ad n σ H) {f i : Nat} (hd : dm n f i) (he : va_at D vwCl (ad f i, cel aC ad σ1 f i) H1)
    (ho : ∀ q : Nat, q ≠ ad f i → H1[q]? = H[q]?) (hs : ∀ f' i', ¬ (f' = f ∧ i' = i) → cel aC ad σ1 f' i' = cel aC ad σ f' i') (hr : ∀ f i k j, dm n f i → σ1.2.2.1 f i k = some j → dm n (tg f) j) (hn : σ1.2.2.2 = σ.2.2.2) : Hold D aC A ad n σ1 H1 := by
  obtain ⟨h1, h2, h3, h4, h5⟩ := h
  refine ⟨fun f' i' hd' => ?_, h2, hr, h4, hn.trans h5⟩
  by_cases hx : f' = f ∧ i' = i
  · obtain ⟨rfl, rfl⟩ := hx
    exact he
  · rw [hs f' i' hx]
    exact (h1 f' i' hd').kept (ho _ (fun q => hx (h2 f' i' f i hd' hd q)))
theorem cel_sI {aC : Nat → ClassId} {ad : Nat → Nat → Nat} {σ : St} {f i k : Nat} {x : Int32} {f' i' : Nat} (h : ¬ (f' = f ∧ i' = i)) : cel aC ad (sI σ f i k x) f' i' = cel aC ad σ f' i' := by
  have e : (sI σ f i k x).1 f' i' = σ.1 f' i' := by
    funext q
    simp only [sI]
    rw [if_neg (fun z => h ⟨z.1, z.2.1⟩)]
  have e2 : fv ad (sI σ f i k x) f' i' = fv ad σ f' i' := by
    funext q
    simp only [fv]
    rw [e]
  simp only [cel]
  rw [e, e2]
  rfl
theorem cel_sL {aC : Nat → ClassId} {ad : Nat → Nat → Nat} {σ : St} {f i k : Nat} {x : Int64} {f' i' : Nat} (h : ¬ (f' = f ∧ i' = i)) : cel aC ad (sL σ f i k x) f' i' = cel aC ad σ f' i' := by
  have e : (sL σ f i k x).2.1 f' i' = σ.2.1 f' i' := by
    funext q
    simp only [sL]
    rw [if_neg (fun z => h ⟨z.1, z.2.1⟩)]
  simp only [cel]
  rw [e]
  rfl
theorem cel_sR {aC : Nat → ClassId} {ad : Nat → Nat → Nat} {σ : St} {f i k : Nat} {x : Option Nat} {f' i' : Nat} (h : ¬ (f' = f ∧ i' = i)) : cel aC ad (sR σ f i k x) f' i' = cel aC ad σ f' i' := by
  have e : (sR σ f i k x).2.2.1 f' i' = σ.2.2.1 f' i' := by
    funext q
    simp only [sR]
    rw [if_neg (fun z => h ⟨z.1, z.2.1⟩)]
  simp only [cel]
  rw [e]
  rfl
theorem cel_cpI {aC : Nat → ClassId} {ad : Nat → Nat → Nat} {σ : St} {f0 i0 sp f i dp k : Nat} {f' i' : Nat} (h : ¬ (f' = f ∧ i' = i)) : cel aC ad (cpI σ f0 i0 sp f i dp k) f' i' = cel aC ad σ f' i' := by
  have e : (cpI σ f0 i0 sp f i dp k).1 f' i' = σ.1 f' i' := by
    funext q
    simp only [cpI]
    rw [if_neg (fun z => h ⟨z.1, z.2.1⟩)]
  have e2 : fv ad (cpI σ f0 i0 sp f i dp k) f' i' = fv ad σ f' i' := by
    funext q
    simp only [fv]
    rw [e]
  simp only [cel]
  rw [e, e2]
  rfl
/-- what the tables say: classes, array classes, links between nest mates -/
def Kn (D : va_G) (aC : Nat → ClassId) (U : State) : Prop := va_K D vwCl [(aC 0, .int), (aC 1, .long), (aC 2, .byte), (aC 3, .object "PrefixCodes$Code"), (aC 4, .array .int), (aC 5, .array .long)] U ∧ ∀ q ∈ nwM, va_Nw (.methodLinkNest q.1 q.2.1 q.2.2.1 q.2.2.2) U
theorem vp_fsV {N : Nat} {V : Nat → Value} {k : Nat} (hk : k < N) : vp_V ((List.range N).map V) k = V k := by
  simp [vp_V, List.getD, hk]
theorem fsV_at {N : Nat} {V : Nat → Value} {k : Nat} (hk : k < N) : ((List.range N).map V)[k]? = some (V k) := by
  simp [hk]
section ROWS
variable {p : Program} {l : Launch} {e : Env} {R : Room} {s : State} {m : MethodId} {args : Array Value} {below : List Frame} {meth : Method} {c : Code} {H : Heap} {locs : List Loc} {cells slots : Nat} {Q : State → Prop}
variable {cc : ByteArray} {pc : Nat} {ls : Array Slot} {rest : List Value} {D : va_G} {aC : Nat → ClassId} {A : Nat → Prop} {ad : Nat → Nat → Nat} {n : Nat} {σ : St} {Ts : List Cond} {own : String} {H0 : Heap}
theorem Hold.one (hH : Hold D aC A ad n σ H) {f i : Nat} (hd : dm n f i) : va_P D vwCl [(ad f i, cel aC ad σ f i)] H := by
  intro k q hk
  cases k with
  | zero => cases hk; exact hH.1 f i hd
  | succ k => cases hk
theorem cel_o {f i ci N : Nat} (hk : kd f = .inl (ci, N)) : cel aC ad σ f i = .inr (ci, (List.range N).map (fv ad σ f i)) := by simp only [cel, hk]
theorem cel_i {f i N : Nat} (hk : kd f = .inr (0, N)) : cel aC ad σ f i = .inl (aC 0, N, .inl (σ.1 f i)) := by simp only [cel, hk]
theorem cel_l {f i N : Nat} (hk : kd f = .inr (1, N)) : cel aC ad σ f i = .inl (aC 1, N, .inr (.inl (σ.2.1 f i))) := by simp only [cel, hk]
theorem cel_b {f i N : Nat} (hk : kd f = .inr (2, N)) : cel aC ad σ f i = .inl (aC 2, N, .inl (σ.1 f i)) := by simp only [cel, hk]
theorem cel_r {f i N t : Nat} (hk : kd f = .inr (t + 3, N)) : cel aC ad σ f i = .inl (aC (t + 3), N, .inr (.inr (.inr (.inr (fun k => (σ.2.2.1 f i k).map (ad (tg f))))))) := by simp only [cel, hk]
theorem st_get (hexec : p.tables.exec = Jvm.exec) (hb : c.code = cc) (hts : ∀ w ∈ Ts, w.before args s = true) (hown : s.vm.findClass own = some m.cls) (hK : Kn D aC s) (hH : Hold D aC A ad n σ H) {f i : Nat} (hd : dm n f i) {ci N : Nat} (hk : kd f = .inl (ci, N)) {C : String} {T : u_T} (hc : vwCl[ci]? = some (C, T, N)) (hin : ∀ w ∈ u_ws C T N, w ∈ Ts)
    (k : Nat) (hkN : k < N) {index : Nat} (hlink : (Cond.fieldLink own index (T k).1 (T k).2.1 (T k).2.2.1).before args s = true) {v : Value} (hv : fv ad σ f i k = v) (hdg : decode cc pc = .ok (.getfield index, 3))
    (kk : W p l e R s m args below meth c H locs cells slots Q (F0 m (pc + 3) ls (v :: rest))) : W p l e R s m args below meth c H locs cells slots Q (F0 m pc ls (.ref (ad f i) :: rest)) := by
  subst hv
  have hP := hH.one hd
  rw [cel_o hk] at hP
  exact va_get (D := D) (cl := vwCl) (C := C) (T := T) (N := N) hexec hb hts hin hown hK.1 hP 0 rfl hc k hkN hlink (fun _ h => h) (fsV_at hkN) hdg kk
theorem st_putV (hexec : p.tables.exec = Jvm.exec) (hb : c.code = cc) (hts : ∀ w ∈ Ts, w.before args s = true) (hown : s.vm.findClass own = some m.cls) (hK : Kn D aC s) (hH : Hold D aC A ad n σ H) (hS : va_S A H0 H locs) {f i : Nat} (hd : dm n f i) {ci N : Nat} (hk : kd f = .inl (ci, N)) {C : String} {T : u_T} (hc : vwCl[ci]? = some (C, T, N)) (hin : ∀ w ∈ u_ws C T N, w ∈ Ts)
    (ty0 : Nat → FieldType) (hty : ∀ k, k < N → parseFieldDescriptor (T k).2.2.1 = some (ty0 k)) (hnm : ∀ a, a < N → ∀ b, b < N → a ≠ b → (T a).2.1 ≠ (T b).2.1)
    (k : Nat) (hkN : k < N) {index : Nat} (hlink : (Cond.fieldLink own index (T k).1 (T k).2.1 (T k).2.2.1).before args s = true) (hp : pt f k = none) (hfin : (T k).2.2.2 = false) {ty : FieldType} (hpd : parseFieldDescriptor (T k).2.2.1 = some ty) {x : Int32} (hn : narrow ty (.int x) = .int x) (hfit : fits ty (.int x) = true) (hdg : decode cc pc = .ok (.putfield index, 3))
    (kk : ∀ (σ1 : St) (H1 : Heap) (locs1 : List Loc), σ1 = sI σ f i k x → Hold D aC A ad n σ1 H1 → va_S A H0 H1 locs1 → W p l e R s m args below meth c H1 locs1 cells slots Q (F0 m (pc + 3) ls rest)) : W p l e R s m args below meth c H locs cells slots Q (F0 m pc ls (.int x :: .ref (ad f i) :: rest)) := by
  have hap := va_apart (own := own) hts hin ty0 hty hnm hK.1 hc
  have hP := hH.one hd
  rw [cel_o hk] at hP
  obtain ⟨r, h1, cell, q1, q2, q3, q4⟩ := hP 0 _ rfl
  have hr : r = (C, T, N) := Option.some.inj (h1.symm.trans hc)
  subst hr
  obtain ⟨hSl, hfc, kC, hkC, hkind⟩ := hK.1.1 ci _ hc
  obtain ⟨cf, kf, fi, fd, hi, hsl⟩ := hSl k hkN
  have hlay := hts _ (hin _ (u_in_lay hkN))
  unfold u_lay at hlay
  rw [if_neg (by rw [hfin]; decide)] at hlay
  have hst := (u_facts hfc hkC (u_lays hts hin hkN) hi).1
  have h6 := u_store hfc hkC hkind hlay hi hpd hn hfit
  refine W.putK hexec hb (f := fd) ⟨hown, hlink, ⟨_, _, _, hi⟩, hst⟩ (by rw [q2]; exact h6) q1 q3 (by rw [hsl]; exact k2_hasslot (q4 k hkN)) rfl rfl hdg fun H' e1 e2 e3 => ?_
  rw [hsl] at e1 ⊢
  refine kk _ H' _ rfl (hH.upd hd ?_ e3 (fun f' i' h => cel_sI h) (fun f i k j hd h => hH.2.2.1 f i k j hd h) rfl) (hS.put e2 e3 (hH.2.2.2.1 f i hd))
  rw [cel_o hk]
  refine ⟨_, hc, t_OB.to (V := updV (vp_V ((List.range N).map (fv ad σ f i))) k (.int x)) ⟨_, e1, q2, q3, t_set q4 hap hkN _⟩ (fun j hj => ?_)⟩
  rw [vp_fsV hj]
  simp only [updV]
  by_cases hjk : j = k
  · subst hjk
    rw [if_pos rfl]
    simp only [fv, hp, sI]
    rw [if_pos ⟨trivial, trivial, trivial⟩]
  · rw [if_neg hjk, vp_fsV hj]
    simp only [fv, sI]
    rw [if_neg (fun z => hjk z.2.2)]
theorem st_put (hexec : p.tables.exec = Jvm.exec) (hb : c.code = cc) (hts : ∀ w ∈ Ts, w.before args s = true) (hown : s.vm.findClass own = some m.cls) (hK : Kn D aC s) (hH : Hold D aC A ad n σ H) (hS : va_S A H0 H locs) {f i : Nat} (hd : dm n f i) {ci N : Nat} (hk : kd f = .inl (ci, N)) {C : String} {T : u_T} (hc : vwCl[ci]? = some (C, T, N)) (hin : ∀ w ∈ u_ws C T N, w ∈ Ts)
    (ty0 : Nat → FieldType) (hty : ∀ k, k < N → parseFieldDescriptor (T k).2.2.1 = some (ty0 k)) (hnm : ∀ a, a < N → ∀ b, b < N → a ≠ b → (T a).2.1 ≠ (T b).2.1)
    (k : Nat) (hkN : k < N) {index : Nat} (hlink : (Cond.fieldLink own index (T k).1 (T k).2.1 (T k).2.2.1).before args s = true) (hp : pt f k = none) (hfin : (T k).2.2.2 = false) (hpd : ty0 k = .int) {x : Int32} (hdg : decode cc pc = .ok (.putfield index, 3))
    (kk : ∀ (σ1 : St) (H1 : Heap) (locs1 : List Loc), σ1 = sI σ f i k x → Hold D aC A ad n σ1 H1 → va_S A H0 H1 locs1 → W p l e R s m args below meth c H1 locs1 cells slots Q (F0 m (pc + 3) ls rest)) : W p l e R s m args below meth c H locs cells slots Q (F0 m pc ls (.int x :: .ref (ad f i) :: rest)) :=
  st_putV (ty := .int) hexec hb hts hown hK hH hS hd hk hc hin ty0 hty hnm k hkN hlink hp hfin (by rw [hty k hkN, hpd]) rfl rfl hdg kk
theorem st_iald (hexec : p.tables.exec = Jvm.exec) (hb : c.code = cc) (hK : Kn D aC s) (hH : Hold D aC A ad n σ H) {f i : Nat} (hd : dm n f i) {N : Nat} (hk : kd f = .inr (0, N)) {x : Int32} (hin : ib x N) (hdg : decode cc pc = .ok (.iaload, 1))
    (kk : W p l e R s m args below meth c H locs cells slots Q (F0 m (pc + 1) ls (.int (σ.1 f i x.toNatClampNeg) :: rest))) : W p l e R s m args below meth c H locs cells slots Q (F0 m pc ls (.int x :: .ref (ad f i) :: rest)) := by
  have hP := hH.one hd
  rw [cel_i hk] at hP
  exact va_iald hexec hb hK.1 hP 0 0 rfl rfl hin hdg kk
theorem st_lald (hexec : p.tables.exec = Jvm.exec) (hb : c.code = cc) (hK : Kn D aC s) (hH : Hold D aC A ad n σ H) {f i : Nat} (hd : dm n f i) {N : Nat} (hk : kd f = .inr (1, N)) {x : Int32} (hin : ib x N) (hdg : decode cc pc = .ok (.laload, 1))
    (kk : W p l e R s m args below meth c H locs cells slots Q (F0 m (pc + 1) ls (.long (σ.2.1 f i x.toNatClampNeg) :: rest))) : W p l e R s m args below meth c H locs cells slots Q (F0 m pc ls (.int x :: .ref (ad f i) :: rest)) := by
  have hP := hH.one hd
  rw [cel_l hk] at hP
  exact va_lald hexec hb hK.1 hP 0 1 rfl rfl hin hdg kk
theorem st_iast (hexec : p.tables.exec = Jvm.exec) (hb : c.code = cc) (hK : Kn D aC s) (hH : Hold D aC A ad n σ H) (hS : va_S A H0 H locs) {f i : Nat} (hd : dm n f i) {N : Nat} (hk : kd f = .inr (0, N)) {x v : Int32} (hin : ib x N) (hdg : decode cc pc = .ok (.iastore, 1))
    (kk : ∀ (σ1 : St) (H1 : Heap) (locs1 : List Loc), σ1 = sI σ f i x.toNatClampNeg v → Hold D aC A ad n σ1 H1 → va_S A H0 H1 locs1 → W p l e R s m args below meth c H1 locs1 cells slots Q (F0 m (pc + 1) ls rest)) : W p l e R s m args below meth c H locs cells slots Q (F0 m pc ls (.int v :: .int x :: .ref (ad f i) :: rest)) := by
  have hP := hH.one hd
  rw [cel_i hk] at hP
  refine W.iast hexec hb (hP 0 _ rfl) ((hK.1.2 0 _ rfl).1 N (fun j => .int (σ.1 f i j))) (fun q => by cases q) (by show ¬ (x < 0 ∨ (arrV _ _ _).slots.size ≤ _); rw [arrV_size]; exact hin) rfl rfl hdg fun H1 e z oq => ?_
  refine kk _ H1 _ rfl (hH.upd hd ?_ oq (fun f' i' h => cel_sI h) (fun f i k j hd h => hH.2.2.1 f i k j hd h) rfl) (hS.put z oq (hH.2.2.2.1 f i hd))
  rw [cel_i hk]
  show H1[ad f i]? = some (vp_cell _ _)
  rw [e]
  rw [vp_cell_i, vp_cell_i, arrV_store]
  congr 2
  funext q
  by_cases hq : q = x.toNatClampNeg
  · subst hq
    simp [updV, sI]
  · simp [updV, sI, hq]
theorem st_last (hexec : p.tables.exec = Jvm.exec) (hb : c.code = cc) (hK : Kn D aC s) (hH : Hold D aC A ad n σ H) (hS : va_S A H0 H locs) {f i : Nat} (hd : dm n f i) {N : Nat} (hk : kd f = .inr (1, N)) {x : Int32} {v : Int64} (hin : ib x N) (hdg : decode cc pc = .ok (.lastore, 1))
    (kk : ∀ (σ1 : St) (H1 : Heap) (locs1 : List Loc), σ1 = sL σ f i x.toNatClampNeg v → Hold D aC A ad n σ1 H1 → va_S A H0 H1 locs1 → W p l e R s m args below meth c H1 locs1 cells slots Q (F0 m (pc + 1) ls rest)) : W p l e R s m args below meth c H locs cells slots Q (F0 m pc ls (.long v :: .int x :: .ref (ad f i) :: rest)) := by
  have hP := hH.one hd
  rw [cel_l hk] at hP
  refine W.last hexec hb (hP 0 _ rfl) ((hK.1.2 1 _ rfl).1 N (fun j => .long (σ.2.1 f i j))) (fun q => by cases q) (by show ¬ (x < 0 ∨ (arrV _ _ _).slots.size ≤ _); rw [arrV_size]; exact hin) rfl rfl hdg fun H1 e z oq => ?_
  refine kk _ H1 _ rfl (hH.upd hd ?_ oq (fun f' i' h => cel_sL h) (fun f i k j hd h => hH.2.2.1 f i k j hd h) rfl) (hS.put z oq (hH.2.2.2.1 f i hd))
  rw [cel_l hk]
  show H1[ad f i]? = some (vp_cell _ _)
  rw [e]
  rw [vp_cell_l, vp_cell_l, arrV_store]
  congr 2
  funext q
  by_cases hq : q = x.toNatClampNeg
  · subst hq
    simp [updV, sL]
  · simp [updV, sL, hq]
theorem st_alen (hexec : p.tables.exec = Jvm.exec) (hb : c.code = cc) (hK : Kn D aC s) (hH : Hold D aC A ad n σ H) {f i : Nat} (hd : dm n f i) {N : Nat} (hk : kd f = .inr (0, N)) {v : Int32} (hv : Int32.ofNat N = v) (hdg : decode cc pc = .ok (.arraylength, 1))
    (kk : W p l e R s m args below meth c H locs cells slots Q (F0 m (pc + 1) ls (.int v :: rest))) : W p l e R s m args below meth c H locs cells slots Q (F0 m pc ls (.ref (ad f i) :: rest)) := by
  have hP := hH.one hd
  rw [cel_i hk] at hP
  exact va_alen hexec hb hK.1 hP 0 0 rfl rfl hv hdg kk
theorem st_aald (hexec : p.tables.exec = Jvm.exec) (hb : c.code = cc) (hK : Kn D aC s) (hH : Hold D aC A ad n σ H) {f i : Nat} (hd : dm n f i) {N t : Nat} (hk : kd f = .inr (t + 3, N)) (ht : t < 3) {x : Int32} (hin : ib x N) (hdg : decode cc pc = .ok (.aaload, 1)) {j : Nat} (hj : σ.2.2.1 f i x.toNatClampNeg = some j)
    (kk : dm n (tg f) j → W p l e R s m args below meth c H locs cells slots Q (F0 m (pc + 1) ls (.ref (ad (tg f) j) :: rest))) : W p l e R s m args below meth c H locs cells slots Q (F0 m pc ls (.int x :: .ref (ad f i) :: rest)) := by
  have hP := hH.one hd
  rw [cel_r hk] at hP
  have hlt : x.toNatClampNeg < N := Nat.not_le.mp fun q => hin (Or.inr q)
  have key : ∀ ty : FieldType, ty.isReference = true → ArrOfT s (aC (t + 3)) ty → W p l e R s m args below meth c H locs cells slots Q (F0 m pc ls (.int x :: .ref (ad f i) :: rest)) := by
    intro ty hty har
    refine W.aald (v := va_rf ((σ.2.2.1 f i x.toNatClampNeg).map (ad (tg f)))) (ty := ty) hexec hb (hP 0 _ rfl) (har N (fun k => va_rf ((σ.2.2.1 f i k).map (ad (tg f))))) hty (fun q => by cases q) (by show ¬ (x < 0 ∨ (arrV _ _ _).slots.size ≤ _); rw [arrV_size]; exact hin) (by show (arrV _ _ _).slots[_]? = _; rw [arrV_read _ _ hlt]) rfl rfl hdg ?_
    rw [hj]
    exact kk (hH.2.2.1 f i _ j hd hj)
  match t, ht with
  | 0, _ => exact key (.object "PrefixCodes$Code") rfl (hK.1.2 3 _ rfl).1
  | 1, _ => exact key (.array .int) rfl (hK.1.2 4 _ rfl).1
  | 2, _ => exact key (.array .long) rfl (hK.1.2 5 _ rfl).1
end ROWS
end
section
/-- a method's start over the store -/
def tb_0 (k : Nat) : Int32 := ([16, 17, 18, 0, 8, 7, 9, 6, 10, 5, 11, 4, 12, 3, 13, 2, 14, 1, 15] : List Int32).getD k 0
def tb_1 (k : Nat) : Int32 := ([3, 3, 11] : List Int32).getD k 0
def tb_2 (k : Nat) : Int32 := ([6, 10, 138] : List Int32).getD k 0
def tb_3 (k : Nat) : Int32 := ([2, 3, 7] : List Int32).getD k 0
/-- the static tables of the commands: their addresses are aC 100 .. aC 103 -/
def Stb (C n : String) (a N : Nat) (f : Nat → Int32) (A : Nat → Prop) (U : State) (H : Heap) : Prop := va_Z C n "[I" (.ref a) A U H ∧ va_T .int a N (fun k => .int (f k)) A U H
def Stc (aC : Nat → ClassId) (A : Nat → Prop) (U : State) (H : Heap) : Prop := Stb "PrefixCodes$Commands" "TELLING_ORDER" (aC 100) 19 tb_0 A U H ∧ Stb "PrefixCodes$Commands" "SHORTEST_RUN" (aC 101) 3 tb_1 A U H ∧ Stb "PrefixCodes$Commands" "LONGEST_RUN" (aC 102) 3 tb_2 A U H ∧ Stb "PrefixCodes$Commands" "RUN_BITS" (aC 103) 3 tb_3 A U H
theorem Stb.go {C n : String} {a N : Nat} {f : Nat → Int32} {A : Nat → Prop} {u U : State} {H H1 : Heap} (h : Stb C n a N f A u H) (hvm : u.vm.Alike U.vm) (hq : ∀ a : Nat, a < H.size → ¬ A a → H1[a]? = H[a]?) : Stb C n a N f A U H1 := ⟨va_Z.moved hvm (h.1.kept hq), va_T.moved hvm (h.2.kept hq)⟩
theorem Stc.go {aC : Nat → ClassId} {A : Nat → Prop} {u U : State} {H H1 : Heap} (h : Stc aC A u H) (hvm : u.vm.Alike U.vm) (hq : ∀ a : Nat, a < H.size → ¬ A a → H1[a]? = H[a]?) : Stc aC A U H1 := ⟨h.1.go hvm hq, h.2.1.go hvm hq, h.2.2.1.go hvm hq, h.2.2.2.go hvm hq⟩
def Pre (D : va_G) (aC : Nat → ClassId) (A : Nat → Prop) (ad : Nat → Nat → Nat) (n : Nat) (σ : St) (U : State) : Prop := Hold D aC A ad n σ U.heap ∧ Kn D aC U ∧ Stc aC A U U.heap
theorem Kn.warm {D : va_G} {aC : Nat → ClassId} {s U : State} (hW : s.WarmedH U.vm) (h : Kn D aC s) : Kn D aC U := ⟨va_K.moved hW.alike h.1, fun q hq => va_Nw.warmM hW (h.2 q hq)⟩
theorem Pre.blind {D : va_G} {aC : Nat → ClassId} {A : Nat → Prop} {ad : Nat → Nat → Nat} {n : Nat} {σ : St} {av : List Value} : FrameBlind (va_Pc av (Pre D aC A ad n σ)) := fun a U g mk h => ⟨h.1, h.2.1, ⟨va_K.moved (u := U) (U := U.calling g mk a) (Vm.Alike.refl U.vm) h.2.2.1.1, fun q hq => va_Nw.same rfl rfl (h.2.2.1.2 q hq)⟩, h.2.2.2.go (u := U) (U := U.calling g mk a) (Vm.Alike.refl U.vm) (fun _ _ _ => rfl)⟩
section CALLS
variable {p : Program} {l : Launch} {e : Env} {R : Room} {s : State} {m : MethodId} {args : Array Value} {below : List Frame} {meth : Method} {c : Code} {H : Heap} {locs : List Loc} {cells slots : Nat} {Q : State → Prop}
variable {cc bytes : ByteArray} {pc nL maxL index k : Nat} {ls : Array Slot} {rest As st0 : List Value} {D : va_G} {aC : Nat → ClassId} {A : Nat → Prop} {ad : Nat → Nat → Nat} {n : Nat} {σ σ1 : St} {Ts ws : List Cond} {own C host : String} {y : MethodName} {ret : Option FieldType} {rm : Room}
theorem st_recv (hK : Kn D aC s) (hH : Hold D aC A ad n σ H) {f i : Nat} (hd : dm n f i) {ci N : Nat} (hk : kd f = .inl (ci, N)) {T : u_T} (hc : vwCl[ci]? = some (C, T, N)) : ∃ cellB : Cell, H[ad f i]? = some cellB ∧ cellB.vm.isStatics = false ∧ s.vm.findClass C = some cellB.cls := by
  have hP := hH.one hd
  rw [cel_o hk] at hP
  exact va_recv (q0 := 0) hK.1 hP hc rfl
theorem st_pre (hK : Kn D aC s) (hH : Hold D aC A ad n σ H) (hS : va_S A s.heap H locs) (hZ : Stc aC A s s.heap) {av : List Value} : ∀ U : State, U.heap = H → s.WarmedH U.vm → va_Pc av (Pre D aC A ad n σ) av.toArray U := fun U hU hW => ⟨rfl, by rw [hU]; exact hH, hK.warm hW, by rw [hU]; exact hZ.go hW.alike hS.2.1⟩
theorem st_Vi {v : Int32} (S : CallFix p m c cc nL s args Ts own) {f i : Nat} (hM : Met l y ws rm (va_Pc (.ref (ad f i) :: As) (Pre D aC A ad n σ)) (va_Qi (fun r (_ : Unit) => r = v) (fun _ t => Hold D aC A ad n σ1 t.heap) A) 0 0 A) (cw : CallW R s args own C index y bytes maxL ret ws rm 0 0 k) (hK : Kn D aC s) (hH : Hold D aC A ad n σ H) (hS : va_S A s.heap H locs) (hZ : Stc aC A s s.heap) (hd : dm n f i) {ci N : Nat} (hk : kd f = .inl (ci, N)) {T : u_T} (hc : vwCl[ci]? = some (C, T, N)) (hn : As.length = k) (hsize : ls.size = nL) (hstk : st0 = As.reverse ++ .ref (ad f i) :: rest) (hW : (rest.map fun v => v.category).sum ≤ 8) (hdg : decode cc pc = .ok (.invokevirtual index, 3)) (hf : cells ≤ R.cells ∧ slots ≤ R.slots)
    (kk : ∀ (H1 : Heap) (locs1 : List Loc), Hold D aC A ad n σ1 H1 → va_S A s.heap H1 locs1 → W p l e R s m args below meth c H1 locs1 cells slots Q (F0 m (pc + 3) ls (.int v :: rest))) : W p l e R s m args below meth c H locs cells slots Q (F0 m pc ls st0) := by
  refine va_calli (A1 := A) (va_runV (As := As) (rest := rest) S hM cw ⟨Pre.blind, st_recv hK hH hd hk hc, st_pre hK hH hS hZ⟩ rfl hn hsize hstk (lv_room hW) hdg hf) hS (fun q _ h => h) (fun q h => h) (fun r u t H1 locs1 ht hvm hw hB hz hk1 hS1 => ?_)
  subst hw
  exact kk H1 locs1 (by rw [← ht]; exact hB) hS1
theorem st_Vl {v : Int64} (S : CallFix p m c cc nL s args Ts own) {f i : Nat} (hM : Met l y ws rm (va_Pc (.ref (ad f i) :: As) (Pre D aC A ad n σ)) (va_Ql (fun r (_ : Unit) => r = v) (fun _ t => Hold D aC A ad n σ1 t.heap) A) 0 0 A) (cw : CallW R s args own C index y bytes maxL ret ws rm 0 0 k) (hK : Kn D aC s) (hH : Hold D aC A ad n σ H) (hS : va_S A s.heap H locs) (hZ : Stc aC A s s.heap) (hd : dm n f i) {ci N : Nat} (hk : kd f = .inl (ci, N)) {T : u_T} (hc : vwCl[ci]? = some (C, T, N)) (hn : As.length = k) (hsize : ls.size = nL) (hstk : st0 = As.reverse ++ .ref (ad f i) :: rest) (hW : (rest.map fun v => v.category).sum ≤ 8) (hdg : decode cc pc = .ok (.invokevirtual index, 3)) (hf : cells ≤ R.cells ∧ slots ≤ R.slots)
    (kk : ∀ (H1 : Heap) (locs1 : List Loc), Hold D aC A ad n σ1 H1 → va_S A s.heap H1 locs1 → W p l e R s m args below meth c H1 locs1 cells slots Q (F0 m (pc + 3) ls (.long v :: rest))) : W p l e R s m args below meth c H locs cells slots Q (F0 m pc ls st0) := by
  refine va_calll (A1 := A) (va_runV (As := As) (rest := rest) S hM cw ⟨Pre.blind, st_recv hK hH hd hk hc, st_pre hK hH hS hZ⟩ rfl hn hsize hstk (lv_room hW) hdg hf) hS (fun q _ h => h) (fun q h => h) (fun r u t H1 locs1 ht hvm hw hB hz hk1 hS1 => ?_)
  subst hw
  exact kk H1 locs1 (by rw [← ht]; exact hB) hS1
theorem st_Vv (S : CallFix p m c cc nL s args Ts own) {f i : Nat} (hM : Met l y ws rm (va_Pc (.ref (ad f i) :: As) (Pre D aC A ad n σ)) (va_Qv (fun (_ : Unit) => True) (fun _ t => Hold D aC A ad n σ1 t.heap) A) 0 0 A) (cw : CallW R s args own C index y bytes maxL ret ws rm 0 0 k) (hK : Kn D aC s) (hH : Hold D aC A ad n σ H) (hS : va_S A s.heap H locs) (hZ : Stc aC A s s.heap) (hd : dm n f i) {ci N : Nat} (hk : kd f = .inl (ci, N)) {T : u_T} (hc : vwCl[ci]? = some (C, T, N)) (hn : As.length = k) (hsize : ls.size = nL) (hstk : st0 = As.reverse ++ .ref (ad f i) :: rest) (hW : (rest.map fun v => v.category).sum ≤ 8) (hdg : decode cc pc = .ok (.invokevirtual index, 3)) (hf : cells ≤ R.cells ∧ slots ≤ R.slots)
    (kk : ∀ (H1 : Heap) (locs1 : List Loc), Hold D aC A ad n σ1 H1 → va_S A s.heap H1 locs1 → W p l e R s m args below meth c H1 locs1 cells slots Q (F0 m (pc + 3) ls (rest))) : W p l e R s m args below meth c H locs cells slots Q (F0 m pc ls st0) := by
  refine va_callv (A1 := A) (va_runV (As := As) (rest := rest) S hM cw ⟨Pre.blind, st_recv hK hH hd hk hc, st_pre hK hH hS hZ⟩ rfl hn hsize hstk (lv_room hW) hdg hf) hS (fun q _ h => h) (fun q h => h) (fun u t H1 locs1 ht hvm hw hB hz hk1 hS1 => ?_)
  exact kk H1 locs1 (by rw [← ht]; exact hB) hS1
theorem st_VNi {v : Int32} (S : CallFix p m c cc nL s args Ts own) {f i : Nat} (hM : Met l y ws rm (va_Pc (.ref (ad f i) :: As) (Pre D aC A ad n σ)) (va_Qi (fun r (_ : Unit) => r = v) (fun _ t => Hold D aC A ad n σ1 t.heap) A) 0 0 A) (cw : va_CN R s args own index y host bytes maxL ret ws rm 0 0 k ∧ (Cond.instanceMethod y).before args s = true ∧ (Cond.selects C y y).before args s = true) (hK : Kn D aC s) (hH : Hold D aC A ad n σ H) (hS : va_S A s.heap H locs) (hZ : Stc aC A s s.heap) (hd : dm n f i) {ci N : Nat} (hk : kd f = .inl (ci, N)) {T : u_T} (hc : vwCl[ci]? = some (C, T, N)) (hn : As.length = k) (hsize : ls.size = nL) (hstk : st0 = As.reverse ++ .ref (ad f i) :: rest) (hW : (rest.map fun v => v.category).sum ≤ 8) (hdg : decode cc pc = .ok (.invokevirtual index, 3)) (hf : cells ≤ R.cells ∧ slots ≤ R.slots)
    (kk : ∀ (H1 : Heap) (locs1 : List Loc), Hold D aC A ad n σ1 H1 → va_S A s.heap H1 locs1 → W p l e R s m args below meth c H1 locs1 cells slots Q (F0 m (pc + 3) ls (.int v :: rest))) : W p l e R s m args below meth c H locs cells slots Q (F0 m pc ls st0) := by
  refine va_calli (A1 := A) (va_runVN (As := As) (rest := rest) S hM cw ⟨Pre.blind, st_recv hK hH hd hk hc, st_pre hK hH hS hZ⟩ rfl hn hsize hstk (lv_room hW) hdg hf) hS (fun q _ h => h) (fun q h => h) (fun r u t H1 locs1 ht hvm hw hB hz hk1 hS1 => ?_)
  subst hw
  exact kk H1 locs1 (by rw [← ht]; exact hB) hS1
theorem st_VNl {v : Int64} (S : CallFix p m c cc nL s args Ts own) {f i : Nat} (hM : Met l y ws rm (va_Pc (.ref (ad f i) :: As) (Pre D aC A ad n σ)) (va_Ql (fun r (_ : Unit) => r = v) (fun _ t => Hold D aC A ad n σ1 t.heap) A) 0 0 A) (cw : va_CN R s args own index y host bytes maxL ret ws rm 0 0 k ∧ (Cond.instanceMethod y).before args s = true ∧ (Cond.selects C y y).before args s = true) (hK : Kn D aC s) (hH : Hold D aC A ad n σ H) (hS : va_S A s.heap H locs) (hZ : Stc aC A s s.heap) (hd : dm n f i) {ci N : Nat} (hk : kd f = .inl (ci, N)) {T : u_T} (hc : vwCl[ci]? = some (C, T, N)) (hn : As.length = k) (hsize : ls.size = nL) (hstk : st0 = As.reverse ++ .ref (ad f i) :: rest) (hW : (rest.map fun v => v.category).sum ≤ 8) (hdg : decode cc pc = .ok (.invokevirtual index, 3)) (hf : cells ≤ R.cells ∧ slots ≤ R.slots)
    (kk : ∀ (H1 : Heap) (locs1 : List Loc), Hold D aC A ad n σ1 H1 → va_S A s.heap H1 locs1 → W p l e R s m args below meth c H1 locs1 cells slots Q (F0 m (pc + 3) ls (.long v :: rest))) : W p l e R s m args below meth c H locs cells slots Q (F0 m pc ls st0) := by
  refine va_calll (A1 := A) (va_runVN (As := As) (rest := rest) S hM cw ⟨Pre.blind, st_recv hK hH hd hk hc, st_pre hK hH hS hZ⟩ rfl hn hsize hstk (lv_room hW) hdg hf) hS (fun q _ h => h) (fun q h => h) (fun r u t H1 locs1 ht hvm hw hB hz hk1 hS1 => ?_)
  subst hw
  exact kk H1 locs1 (by rw [← ht]; exact hB) hS1
theorem st_VNv (S : CallFix p m c cc nL s args Ts own) {f i : Nat} (hM : Met l y ws rm (va_Pc (.ref (ad f i) :: As) (Pre D aC A ad n σ)) (va_Qv (fun (_ : Unit) => True) (fun _ t => Hold D aC A ad n σ1 t.heap) A) 0 0 A) (cw : va_CN R s args own index y host bytes maxL ret ws rm 0 0 k ∧ (Cond.instanceMethod y).before args s = true ∧ (Cond.selects C y y).before args s = true) (hK : Kn D aC s) (hH : Hold D aC A ad n σ H) (hS : va_S A s.heap H locs) (hZ : Stc aC A s s.heap) (hd : dm n f i) {ci N : Nat} (hk : kd f = .inl (ci, N)) {T : u_T} (hc : vwCl[ci]? = some (C, T, N)) (hn : As.length = k) (hsize : ls.size = nL) (hstk : st0 = As.reverse ++ .ref (ad f i) :: rest) (hW : (rest.map fun v => v.category).sum ≤ 8) (hdg : decode cc pc = .ok (.invokevirtual index, 3)) (hf : cells ≤ R.cells ∧ slots ≤ R.slots)
    (kk : ∀ (H1 : Heap) (locs1 : List Loc), Hold D aC A ad n σ1 H1 → va_S A s.heap H1 locs1 → W p l e R s m args below meth c H1 locs1 cells slots Q (F0 m (pc + 3) ls (rest))) : W p l e R s m args below meth c H locs cells slots Q (F0 m pc ls st0) := by
  refine va_callv (A1 := A) (va_runVN (As := As) (rest := rest) S hM cw ⟨Pre.blind, st_recv hK hH hd hk hc, st_pre hK hH hS hZ⟩ rfl hn hsize hstk (lv_room hW) hdg hf) hS (fun q _ h => h) (fun q h => h) (fun u t H1 locs1 ht hvm hw hB hz hk1 hS1 => ?_)
  exact kk H1 locs1 (by rw [← ht]; exact hB) hS1
theorem st_Si {v : Int32} (S : CallFix p m c cc nL s args Ts own) (hM : Met l y ws rm (va_Pc (As) (Pre D aC A ad n σ)) (va_Qi (fun r (_ : Unit) => r = v) (fun _ t => Hold D aC A ad n σ1 t.heap) A) 0 0 A) (cw : CallB R s args own index y bytes maxL ret ws rm 0 0 k ∧ (Cond.static y).before args s = true) (hK : Kn D aC s) (hH : Hold D aC A ad n σ H) (hS : va_S A s.heap H locs) (hZ : Stc aC A s s.heap) (hn : As.length = k) (hsize : ls.size = nL) (hstk : st0 = As.reverse ++ rest) (hW : (rest.map fun v => v.category).sum ≤ 8) (hdg : decode cc pc = .ok (.invokestatic index, 3)) (hf : cells ≤ R.cells ∧ slots ≤ R.slots)
    (kk : ∀ (H1 : Heap) (locs1 : List Loc), Hold D aC A ad n σ1 H1 → va_S A s.heap H1 locs1 → W p l e R s m args below meth c H1 locs1 cells slots Q (F0 m (pc + 3) ls (.int v :: rest))) : W p l e R s m args below meth c H locs cells slots Q (F0 m pc ls st0) := by
  refine va_calli (A1 := A) (va_runS (As := As) (rest := rest) S hM cw ⟨Pre.blind, st_pre hK hH hS hZ⟩ rfl hn hsize hstk (lv_room hW) hdg hf) hS (fun q _ h => h) (fun q h => h) (fun r u t H1 locs1 ht hvm hw hB hz hk1 hS1 => ?_)
  subst hw
  exact kk H1 locs1 (by rw [← ht]; exact hB) hS1
theorem st_Sl {v : Int64} (S : CallFix p m c cc nL s args Ts own) (hM : Met l y ws rm (va_Pc (As) (Pre D aC A ad n σ)) (va_Ql (fun r (_ : Unit) => r = v) (fun _ t => Hold D aC A ad n σ1 t.heap) A) 0 0 A) (cw : CallB R s args own index y bytes maxL ret ws rm 0 0 k ∧ (Cond.static y).before args s = true) (hK : Kn D aC s) (hH : Hold D aC A ad n σ H) (hS : va_S A s.heap H locs) (hZ : Stc aC A s s.heap) (hn : As.length = k) (hsize : ls.size = nL) (hstk : st0 = As.reverse ++ rest) (hW : (rest.map fun v => v.category).sum ≤ 8) (hdg : decode cc pc = .ok (.invokestatic index, 3)) (hf : cells ≤ R.cells ∧ slots ≤ R.slots)
    (kk : ∀ (H1 : Heap) (locs1 : List Loc), Hold D aC A ad n σ1 H1 → va_S A s.heap H1 locs1 → W p l e R s m args below meth c H1 locs1 cells slots Q (F0 m (pc + 3) ls (.long v :: rest))) : W p l e R s m args below meth c H locs cells slots Q (F0 m pc ls st0) := by
  refine va_calll (A1 := A) (va_runS (As := As) (rest := rest) S hM cw ⟨Pre.blind, st_pre hK hH hS hZ⟩ rfl hn hsize hstk (lv_room hW) hdg hf) hS (fun q _ h => h) (fun q h => h) (fun r u t H1 locs1 ht hvm hw hB hz hk1 hS1 => ?_)
  subst hw
  exact kk H1 locs1 (by rw [← ht]; exact hB) hS1
theorem st_Sv (S : CallFix p m c cc nL s args Ts own) (hM : Met l y ws rm (va_Pc (As) (Pre D aC A ad n σ)) (va_Qv (fun (_ : Unit) => True) (fun _ t => Hold D aC A ad n σ1 t.heap) A) 0 0 A) (cw : CallB R s args own index y bytes maxL ret ws rm 0 0 k ∧ (Cond.static y).before args s = true) (hK : Kn D aC s) (hH : Hold D aC A ad n σ H) (hS : va_S A s.heap H locs) (hZ : Stc aC A s s.heap) (hn : As.length = k) (hsize : ls.size = nL) (hstk : st0 = As.reverse ++ rest) (hW : (rest.map fun v => v.category).sum ≤ 8) (hdg : decode cc pc = .ok (.invokestatic index, 3)) (hf : cells ≤ R.cells ∧ slots ≤ R.slots)
    (kk : ∀ (H1 : Heap) (locs1 : List Loc), Hold D aC A ad n σ1 H1 → va_S A s.heap H1 locs1 → W p l e R s m args below meth c H1 locs1 cells slots Q (F0 m (pc + 3) ls (rest))) : W p l e R s m args below meth c H locs cells slots Q (F0 m pc ls st0) := by
  refine va_callv (A1 := A) (va_runS (As := As) (rest := rest) S hM cw ⟨Pre.blind, st_pre hK hH hS hZ⟩ rfl hn hsize hstk (lv_room hW) hdg hf) hS (fun q _ h => h) (fun q h => h) (fun u t H1 locs1 ht hvm hw hB hz hk1 hS1 => ?_)
  exact kk H1 locs1 (by rw [← ht]; exact hB) hS1
theorem st_SNi {v : Int32} (S : CallFix p m c cc nL s args Ts own) (hM : Met l y ws rm (va_Pc (As) (Pre D aC A ad n σ)) (va_Qi (fun r (_ : Unit) => r = v) (fun _ t => Hold D aC A ad n σ1 t.heap) A) 0 0 A) (cw : va_CN R s args own index y host bytes maxL ret ws rm 0 0 k ∧ (Cond.static y).before args s = true ∧ True) (hK : Kn D aC s) (hH : Hold D aC A ad n σ H) (hS : va_S A s.heap H locs) (hZ : Stc aC A s s.heap) (hn : As.length = k) (hsize : ls.size = nL) (hstk : st0 = As.reverse ++ rest) (hW : (rest.map fun v => v.category).sum ≤ 8) (hdg : decode cc pc = .ok (.invokestatic index, 3)) (hf : cells ≤ R.cells ∧ slots ≤ R.slots)
    (kk : ∀ (H1 : Heap) (locs1 : List Loc), Hold D aC A ad n σ1 H1 → va_S A s.heap H1 locs1 → W p l e R s m args below meth c H1 locs1 cells slots Q (F0 m (pc + 3) ls (.int v :: rest))) : W p l e R s m args below meth c H locs cells slots Q (F0 m pc ls st0) := by
  refine va_calli (A1 := A) (va_runSN (As := As) (rest := rest) S hM cw ⟨Pre.blind, st_pre hK hH hS hZ⟩ rfl hn hsize hstk (lv_room hW) hdg hf) hS (fun q _ h => h) (fun q h => h) (fun r u t H1 locs1 ht hvm hw hB hz hk1 hS1 => ?_)
  subst hw
  exact kk H1 locs1 (by rw [← ht]; exact hB) hS1
theorem st_SNl {v : Int64} (S : CallFix p m c cc nL s args Ts own) (hM : Met l y ws rm (va_Pc (As) (Pre D aC A ad n σ)) (va_Ql (fun r (_ : Unit) => r = v) (fun _ t => Hold D aC A ad n σ1 t.heap) A) 0 0 A) (cw : va_CN R s args own index y host bytes maxL ret ws rm 0 0 k ∧ (Cond.static y).before args s = true ∧ True) (hK : Kn D aC s) (hH : Hold D aC A ad n σ H) (hS : va_S A s.heap H locs) (hZ : Stc aC A s s.heap) (hn : As.length = k) (hsize : ls.size = nL) (hstk : st0 = As.reverse ++ rest) (hW : (rest.map fun v => v.category).sum ≤ 8) (hdg : decode cc pc = .ok (.invokestatic index, 3)) (hf : cells ≤ R.cells ∧ slots ≤ R.slots)
    (kk : ∀ (H1 : Heap) (locs1 : List Loc), Hold D aC A ad n σ1 H1 → va_S A s.heap H1 locs1 → W p l e R s m args below meth c H1 locs1 cells slots Q (F0 m (pc + 3) ls (.long v :: rest))) : W p l e R s m args below meth c H locs cells slots Q (F0 m pc ls st0) := by
  refine va_calll (A1 := A) (va_runSN (As := As) (rest := rest) S hM cw ⟨Pre.blind, st_pre hK hH hS hZ⟩ rfl hn hsize hstk (lv_room hW) hdg hf) hS (fun q _ h => h) (fun q h => h) (fun r u t H1 locs1 ht hvm hw hB hz hk1 hS1 => ?_)
  subst hw
  exact kk H1 locs1 (by rw [← ht]; exact hB) hS1
theorem st_SNv (S : CallFix p m c cc nL s args Ts own) (hM : Met l y ws rm (va_Pc (As) (Pre D aC A ad n σ)) (va_Qv (fun (_ : Unit) => True) (fun _ t => Hold D aC A ad n σ1 t.heap) A) 0 0 A) (cw : va_CN R s args own index y host bytes maxL ret ws rm 0 0 k ∧ (Cond.static y).before args s = true ∧ True) (hK : Kn D aC s) (hH : Hold D aC A ad n σ H) (hS : va_S A s.heap H locs) (hZ : Stc aC A s s.heap) (hn : As.length = k) (hsize : ls.size = nL) (hstk : st0 = As.reverse ++ rest) (hW : (rest.map fun v => v.category).sum ≤ 8) (hdg : decode cc pc = .ok (.invokestatic index, 3)) (hf : cells ≤ R.cells ∧ slots ≤ R.slots)
    (kk : ∀ (H1 : Heap) (locs1 : List Loc), Hold D aC A ad n σ1 H1 → va_S A s.heap H1 locs1 → W p l e R s m args below meth c H1 locs1 cells slots Q (F0 m (pc + 3) ls (rest))) : W p l e R s m args below meth c H locs cells slots Q (F0 m pc ls st0) := by
  refine va_callv (A1 := A) (va_runSN (As := As) (rest := rest) S hM cw ⟨Pre.blind, st_pre hK hH hS hZ⟩ rfl hn hsize hstk (lv_room hW) hdg hf) hS (fun q _ h => h) (fun q h => h) (fun u t H1 locs1 ht hvm hw hB hz hk1 hS1 => ?_)
  exact kk H1 locs1 (by rw [← ht]; exact hB) hS1
theorem st_Vq (S : CallFix p m c cc nL s args Ts own) {f i tf : Nat} {o : Option Nat} (hM : Met l y ws rm (va_Pc (.ref (ad f i) :: As) (Pre D aC A ad n σ)) (va_Qq (fun r (_ : Unit) => r = o.map (ad tf) ∧ ∀ j, o = some j → dm n tf j) (fun _ t => Hold D aC A ad n σ1 t.heap) A) 0 0 A) (cw : CallW R s args own C index y bytes maxL ret ws rm 0 0 k) (hK : Kn D aC s) (hH : Hold D aC A ad n σ H) (hS : va_S A s.heap H locs) (hZ : Stc aC A s s.heap) (hd : dm n f i) {ci N : Nat} (hk : kd f = .inl (ci, N)) {T : u_T} (hc : vwCl[ci]? = some (C, T, N)) (hn : As.length = k) (hsize : ls.size = nL) (hstk : st0 = As.reverse ++ .ref (ad f i) :: rest) (hW : (rest.map fun v => v.category).sum ≤ 8) (hdg : decode cc pc = .ok (.invokevirtual index, 3)) (hf : cells ≤ R.cells ∧ slots ≤ R.slots)
    (kn : o = none → ∀ (H1 : Heap) (locs1 : List Loc), Hold D aC A ad n σ1 H1 → va_S A s.heap H1 locs1 → W p l e R s m args below meth c H1 locs1 cells slots Q (F0 m (pc + 3) ls (.null :: rest)))
    (kk : ∀ (j : Nat), o = some j → dm n tf j → ∀ (H1 : Heap) (locs1 : List Loc), Hold D aC A ad n σ1 H1 → va_S A s.heap H1 locs1 → W p l e R s m args below meth c H1 locs1 cells slots Q (F0 m (pc + 3) ls (.ref (ad tf j) :: rest))) : W p l e R s m args below meth c H locs cells slots Q (F0 m pc ls st0) := by
  refine va_callq (A1 := A) (va_runV (As := As) (rest := rest) S hM cw ⟨Pre.blind, st_recv hK hH hd hk hc, st_pre hK hH hS hZ⟩ rfl hn hsize hstk (lv_room hW) hdg hf) hS (fun q _ h => h) (fun q h => h) (fun r u t H1 locs1 ht hvm hw hB hz hk1 hS1 => ?_)
  obtain ⟨hw, hw2⟩ := hw
  subst hw
  cases o with
  | none => exact kn rfl H1 locs1 (by rw [← ht]; exact hB) hS1
  | some j => exact kk j rfl (hw2 j rfl) H1 locs1 (by rw [← ht]; exact hB) hS1
theorem st_VNq (S : CallFix p m c cc nL s args Ts own) {f i tf : Nat} {o : Option Nat} (hM : Met l y ws rm (va_Pc (.ref (ad f i) :: As) (Pre D aC A ad n σ)) (va_Qq (fun r (_ : Unit) => r = o.map (ad tf) ∧ ∀ j, o = some j → dm n tf j) (fun _ t => Hold D aC A ad n σ1 t.heap) A) 0 0 A) (cw : va_CN R s args own index y host bytes maxL ret ws rm 0 0 k ∧ (Cond.instanceMethod y).before args s = true ∧ (Cond.selects C y y).before args s = true) (hK : Kn D aC s) (hH : Hold D aC A ad n σ H) (hS : va_S A s.heap H locs) (hZ : Stc aC A s s.heap) (hd : dm n f i) {ci N : Nat} (hk : kd f = .inl (ci, N)) {T : u_T} (hc : vwCl[ci]? = some (C, T, N)) (hn : As.length = k) (hsize : ls.size = nL) (hstk : st0 = As.reverse ++ .ref (ad f i) :: rest) (hW : (rest.map fun v => v.category).sum ≤ 8) (hdg : decode cc pc = .ok (.invokevirtual index, 3)) (hf : cells ≤ R.cells ∧ slots ≤ R.slots)
    (kn : o = none → ∀ (H1 : Heap) (locs1 : List Loc), Hold D aC A ad n σ1 H1 → va_S A s.heap H1 locs1 → W p l e R s m args below meth c H1 locs1 cells slots Q (F0 m (pc + 3) ls (.null :: rest)))
    (kk : ∀ (j : Nat), o = some j → dm n tf j → ∀ (H1 : Heap) (locs1 : List Loc), Hold D aC A ad n σ1 H1 → va_S A s.heap H1 locs1 → W p l e R s m args below meth c H1 locs1 cells slots Q (F0 m (pc + 3) ls (.ref (ad tf j) :: rest))) : W p l e R s m args below meth c H locs cells slots Q (F0 m pc ls st0) := by
  refine va_callq (A1 := A) (va_runVN (As := As) (rest := rest) S hM cw ⟨Pre.blind, st_recv hK hH hd hk hc, st_pre hK hH hS hZ⟩ rfl hn hsize hstk (lv_room hW) hdg hf) hS (fun q _ h => h) (fun q h => h) (fun r u t H1 locs1 ht hvm hw hB hz hk1 hS1 => ?_)
  obtain ⟨hw, hw2⟩ := hw
  subst hw
  cases o with
  | none => exact kn rfl H1 locs1 (by rw [← ht]; exact hB) hS1
  | some j => exact kk j rfl (hw2 j rfl) H1 locs1 (by rw [← ht]; exact hB) hS1
end CALLS
end
section
/-! words of calls out of gW -/
theorem gIn0 {c : Cond} (h : c ∈ gW) : GoodIn gW (c :: gW) := fun w hw => (List.mem_cons.mp hw).elim (fun e => e ▸ ⟨h, gW_good _ h⟩) (fun hw => ⟨hw, gW_good _ hw⟩)
section CW
variable {R : Room} {s : State} {args : Array Value} {own C host : String} {index maxL k : Nat} {y : MethodName} {bytes : ByteArray} {ret : Option FieldType} {rm : Room}
theorem cwG (hg : ∀ w ∈ gW, w.before args s = true) (hc : Cond.code y bytes maxL ret ∈ gW) (hl : Cond.methodLink own index y ∈ gW) (hi : Cond.instanceMethod y ∈ gW) (hse : Cond.selects C y y ∈ gW) (hini : Cond.initialized C ∈ gW)
    (hd : y.cls = C ∧ y.cls ≠ "java/lang/invoke/MethodHandle" ∧ y.cls ≠ "java/lang/invoke/VarHandle" ∧ (parseMethodDescriptor y.desc).map (fun d => d.parameters.length) = some k) (hR : rm.frames + 1 ≤ R.frames ∧ 8 + (maxL + 11) + rm.locals ≤ R.locals) :
    CallW R s args own C index y bytes maxL ret (Cond.code y bytes maxL ret :: gW) rm rm.cells rm.slots k :=
  ⟨callB_of k hg (gIn0 hc) rfl rfl rfl (by rw [hd.1]; exact hg _ hini) (hg _ hl) hd.2 hR, hg _ hi, hg _ hse⟩
theorem cwGS (hg : ∀ w ∈ gW, w.before args s = true) (hc : Cond.code y bytes maxL ret ∈ gW) (hl : Cond.methodLink own index y ∈ gW) (hst : Cond.static y ∈ gW) (hini : Cond.initialized C ∈ gW)
    (hd : y.cls = C ∧ y.cls ≠ "java/lang/invoke/MethodHandle" ∧ y.cls ≠ "java/lang/invoke/VarHandle" ∧ (parseMethodDescriptor y.desc).map (fun d => d.parameters.length) = some k) (hR : rm.frames + 1 ≤ R.frames ∧ 8 + (maxL + 11) + rm.locals ≤ R.locals) :
    CallB R s args own index y bytes maxL ret (Cond.code y bytes maxL ret :: gW) rm rm.cells rm.slots k ∧ (Cond.static y).before args s = true :=
  ⟨callB_of k hg (gIn0 hc) rfl rfl rfl (by rw [hd.1]; exact hg _ hini) (hg _ hl) hd.2 hR, hg _ hst⟩
theorem cwGSN (hg : ∀ w ∈ gW, w.before args s = true) (hc : Cond.code y bytes maxL ret ∈ gW) (hl : va_Nw (.methodLinkNest own index y host) s) (hst : Cond.static y ∈ gW) (hini : Cond.initialized C ∈ gW)
    (hd : y.cls = C ∧ y.cls ≠ "java/lang/invoke/MethodHandle" ∧ y.cls ≠ "java/lang/invoke/VarHandle" ∧ (parseMethodDescriptor y.desc).map (fun d => d.parameters.length) = some k) (hR : rm.frames + 1 ≤ R.frames ∧ 8 + (maxL + 11) + rm.locals ≤ R.locals) :
    va_CN R s args own index y host bytes maxL ret (Cond.code y bytes maxL ret :: gW) rm rm.cells rm.slots k ∧ (Cond.static y).before args s = true ∧ True :=
  ⟨va_cnB k hg (gIn0 hc) rfl rfl rfl hl (by rw [hd.1]; exact hg _ hini) hd.2 hR, hg _ hst, trivial⟩
end CW
section ROWS2
variable {p : Program} {l : Launch} {e : Env} {R : Room} {s : State} {m : MethodId} {args : Array Value} {below : List Frame} {meth : Method} {c : Code} {H : Heap} {locs : List Loc} {cells slots : Nat} {Q : State → Prop}
variable {cc : ByteArray} {pc : Nat} {ls : Array Slot} {rest : List Value} {D : va_G} {aC : Nat → ClassId} {A : Nat → Prop} {ad : Nat → Nat → Nat} {n : Nat} {σ : St} {Ts : List Cond} {own : String} {H0 : Heap}
theorem st_bald (hexec : p.tables.exec = Jvm.exec) (hb : c.code = cc) (hK : Kn D aC s) (hH : Hold D aC A ad n σ H) {f i : Nat} (hd : dm n f i) {N : Nat} (hk : kd f = .inr (2, N)) {x : Int32} (hin : ib x N) (hdg : decode cc pc = .ok (.baload, 1))
    (kk : W p l e R s m args below meth c H locs cells slots Q (F0 m (pc + 1) ls (.int (σ.1 f i x.toNatClampNeg) :: rest))) : W p l e R s m args below meth c H locs cells slots Q (F0 m pc ls (.int x :: .ref (ad f i) :: rest)) := by
  have hP := hH.one hd
  rw [cel_b hk] at hP
  exact va_bald hexec hb hK.1 hP 0 2 rfl rfl hin hdg kk
theorem st_bast (hexec : p.tables.exec = Jvm.exec) (hb : c.code = cc) (hK : Kn D aC s) (hH : Hold D aC A ad n σ H) (hS : va_S A H0 H locs) {f i : Nat} (hd : dm n f i) {N : Nat} (hk : kd f = .inr (2, N)) {x v : Int32} (hin : ib x N) (hdg : decode cc pc = .ok (.bastore, 1))
    (kk : ∀ (σ1 : St) (H1 : Heap) (locs1 : List Loc), σ1 = sI σ f i x.toNatClampNeg v.toInt8.toInt32 → Hold D aC A ad n σ1 H1 → va_S A H0 H1 locs1 → W p l e R s m args below meth c H1 locs1 cells slots Q (F0 m (pc + 1) ls rest)) : W p l e R s m args below meth c H locs cells slots Q (F0 m pc ls (.int v :: .int x :: .ref (ad f i) :: rest)) := by
  have hP := hH.one hd
  rw [cel_b hk] at hP
  refine W.bast hexec hb (hP 0 _ rfl) ((hK.1.2 2 _ rfl).1 N (fun j => .int (σ.1 f i j))) (fun q => by cases q) (by show ¬ (x < 0 ∨ (arrV _ _ _).slots.size ≤ _); rw [arrV_size]; exact hin) rfl rfl hdg fun H1 e z oq => ?_
  refine kk _ H1 _ rfl (hH.upd hd ?_ oq (fun f' i' h => cel_sI h) (fun f i k j hd h => hH.2.2.1 f i k j hd h) rfl) (hS.put z oq (hH.2.2.2.1 f i hd))
  rw [cel_b hk]
  show H1[ad f i]? = some (vp_cell _ _)
  rw [e]
  rw [vp_cell_i, vp_cell_i, arrV_store]
  congr 2
  funext q
  by_cases hq : q = x.toNatClampNeg
  · subst hq
    simp [updV, sI, narrow_byte]
  · simp [updV, sI, hq]
/-- a store of a reference to a code -/
theorem st_aast (hexec : p.tables.exec = Jvm.exec) (hb : c.code = cc) (hK : Kn D aC s) (hH : Hold D aC A ad n σ H) (hS : va_S A H0 H locs) {f i : Nat} (hd : dm n f i) {N : Nat} (hk : kd f = .inr (3, N)) (htg : tg f = 41) {j : Nat} (hj : dm n 41 j) {x : Int32} (hin : ib x N) (hdg : decode cc pc = .ok (.aastore, 1))
    (kk : ∀ (σ1 : St) (H1 : Heap) (locs1 : List Loc), σ1 = sR σ f i x.toNatClampNeg (some j) → Hold D aC A ad n σ1 H1 → va_S A H0 H1 locs1 → W p l e R s m args below meth c H1 locs1 cells slots Q (F0 m (pc + 1) ls rest)) : W p l e R s m args below meth c H locs cells slots Q (F0 m pc ls (.ref (ad 41 j) :: .int x :: .ref (ad f i) :: rest)) := by
  have hP := hH.one hd
  rw [cel_r hk] at hP
  have hPj := hH.one hj
  rw [cel_o (ci := 3) (N := 11) rfl] at hPj
  have hlt : x.toNatClampNeg < N := Nat.not_le.mp fun q => hin (Or.inr q)
  have h0 : ¬ x < 0 := fun q => hin (Or.inl q)
  obtain ⟨r', hr', cellV, g1, g2, g3, -⟩ := hPj 0 _ rfl
  have hc : vwCl[3]? = some ("PrefixCodes$Code", F_Code, 11) := rfl
  have hr : r' = ("PrefixCodes$Code", F_Code, 11) := Option.some.inj (hr'.symm.trans hc)
  subst hr
  have hcls := (hK.1.1 3 _ hc).2
  obtain ⟨kA, comp, k1, k2, k3, -⟩ := (hK.1.2 3 _ rfl).2
  have hcomp : comp = D.1 3 := Option.some.inj (k3.symm.trans hcls.1)
  subst hcomp
  obtain ⟨hfc, kC, hkC, hkind⟩ := id hcls
  refine W.aast hexec hb (hP 0 _ rfl) (fun q h => by cases h) (fun q => by cases q) k1 k2 rfl hkC ⟨h0, by show _ < (arrV _ _ _).slots.size; rw [arrV_size]; exact hlt⟩ g1 (fun q h => by rw [g3] at h; cases h) (by rw [g2]; exact hkC) (by rw [g2]; exact va_assign hcls) rfl rfl hdg fun H1 e z oq => ?_
  refine kk _ H1 _ rfl (hH.upd hd ?_ oq (fun f' i' h => cel_sR h) (fun f' i' k' j' hd' h => ?_) rfl) (hS.put z oq (hH.2.2.2.1 f i hd))
  · rw [cel_r hk]
    show H1[ad f i]? = some (vp_cell _ _)
    rw [e]
    rw [vp_cell_q, vp_cell_q, arrV_store]
    congr 2
    funext q
    by_cases hq : q = x.toNatClampNeg
    · subst hq
      simp [updV, sR, va_rf, htg]
    · simp [updV, sR, hq]
  · simp only [sR] at h
    by_cases hx : f' = f ∧ i' = i ∧ k' = x.toNatClampNeg
    · rw [if_pos hx] at h
      cases h
      rw [hx.1, htg]
      exact hj
    · rw [if_neg hx] at h
      exact hH.2.2.1 f' i' k' j' hd' h
theorem st_copy (hexec : p.tables.exec = Jvm.exec) (hb : c.code = cc) (hml : c.maxLocals = ls.size) {index : Nat} (hown : s.vm.findClass own = some m.cls) (hlink : (Cond.methodLink own index arraycopyName).before args s = true) (hnat : (Cond.native arraycopyName).before args s = true) (hstat : (Cond.static arraycopyName).before args s = true) (hini : (Cond.initialized "java/lang/System").before args s = true)
    (hK : Kn D aC s) (hH : Hold D aC A ad n σ H) (hS : va_S A s.heap H locs) {f0 i0 : Nat} (hd0 : dm n f0 i0) {n0 : Nat} (hk0 : kd f0 = .inr (0, n0)) {f i : Nat} (hd : dm n f i) {n1 : Nat} (hk : kd f = .inr (0, n1)) {sp dp k : Int32} (g : cpok sp n0 dp n1 k)
    (hframes : 1 ≤ R.frames) (hlocals : (rest.map fun v => v.category).sum + 18 ≤ R.locals) (hdg : decode cc pc = .ok (.invokestatic index, 3))
    (kk : ∀ (σ1 : St) (H1 : Heap) (locs1 : List Loc), σ1 = cpI σ f0 i0 sp.toNatClampNeg f i dp.toNatClampNeg k.toNatClampNeg → Hold D aC A ad n σ1 H1 → va_S A s.heap H1 locs1 → W p l e R s m args below meth c H1 locs1 cells slots Q (F0 m (pc + 3) ls rest)) : W p l e R s m args below meth c H locs cells slots Q (F0 m pc ls (.int k :: .int dp :: .ref (ad f i) :: .int sp :: .ref (ad f0 i0) :: rest)) := by
  have e0 : H[ad f0 i0]? = some (vp_cell (aC 0) (n0, .inl (σ.1 f0 i0))) := by
    have h := hH.1 f0 i0 hd0
    rw [cel_i hk0] at h
    exact h
  have e1 : H[ad f i]? = some (vp_cell (aC 0) (n1, .inl (σ.1 f i))) := by
    have h := hH.1 f i hd
    rw [cel_i hk] at h
    exact h
  obtain ⟨h1, h2, h3, h4, h5⟩ := g
  have nn : ∀ z : Int32, ¬ z < 0 → z.toInt = (z.toNatClampNeg : Int) := by
    intro z hz
    have hz0 : (0 : Int) ≤ z.toInt := by
      have := Int32.not_lt.mp hz
      simpa using Int32.le_iff_toInt_le.mp this
    show z.toInt = ((z.toInt.toNat : Nat) : Int)
    omega
  intro T hT X
  obtain ⟨-, k0, hkk0, cm0, hkd0⟩ := (hK.1.2 0 _ rfl).1 n0 (fun j => .int (σ.1 f0 i0 j))
  obtain ⟨-, k1, hkk1, cm1, hkd1⟩ := (hK.1.2 0 _ rfl).1 n1 (fun j => .int (σ.1 f i j))
  obtain ⟨vm', X', step⟩ := X.arraycopy hexec hown hlink hnat hstat hini (src := ad f0 i0) (dst := ad f i) (cs := vp_cell (aC 0) (n0, .inl (σ.1 f0 i0))) (cd := vp_cell (aC 0) (n1, .inl (σ.1 f i))) (srcPos := sp) (destPos := dp) (n := k) (by rw [hT]; exact e0) (by rw [hT]; exact e1)
    (fun _ h => by cases h) (fun _ h => by cases h) (fun h => by cases h) (fun h => by cases h) hkk0 hkk1 hkd0 hkd1 (by simp [refKind]) h1 h2 h3
    (by rw [nn sp h1, nn k h3]; show ¬ _ > ((arrV (aC 0) n0 (fun j => .int (σ.1 f0 i0 j))).slots.size : Int); rw [arrV_size]; omega)
    (by rw [nn dp h2, nn k h3]; show ¬ _ > ((arrV (aC 0) n1 (fun j => .int (σ.1 f i j))).slots.size : Int); rw [arrV_size]; omega)
    (fun vm₁ _ z hz => by
      have e : (vp_cell (aC 0) (n0, .inl (σ.1 f0 i0))).slots.getD (sp.toNatClampNeg + z) .null = .int (σ.1 f0 i0 (sp.toNatClampNeg + z)) := by
        show (arrV (aC 0) n0 (fun j => .int (σ.1 f0 i0 j))).slots.getD _ _ = _
        rw [Array.getD_eq_getD_getElem?, arrV_read _ _ (by omega)]
        rfl
      rw [e]
      exact ⟨rfl, trivial⟩)
    (g := F0 m pc ls (.int k :: .int dp :: .ref (ad f i) :: .int sp :: .ref (ad f0 i0) :: rest)) rfl (by rw [hml]) (rest := rest) rfl (by rw [hb]; exact hdg) hframes (by show 2 * 0 + _ + (7 + 11) ≤ _; omega)
  have e2 : copied (vp_cell (aC 0) (n0, .inl (σ.1 f0 i0))) (vp_cell (aC 0) (n1, .inl (σ.1 f i))) sp dp k = vp_cell (aC 0) (n1, .inl (va_cpy (σ.1 f0 i0) (σ.1 f i) sp.toNatClampNeg dp.toNatClampNeg k.toNatClampNeg)) := va_copied (fun z => .int z) (aC 0) (aC 0) (σ.1 f0 i0) (σ.1 f i) h4
  rw [e2] at X' step
  have hl : ad f i < H.size := (Array.getElem?_eq_some_iff.mp e1).1
  generalize hcl : vp_cell (aC 0) (n1, .inl (va_cpy (σ.1 f0 i0) (σ.1 f i) sp.toNatClampNeg dp.toNatClampNeg k.toNatClampNeg)) = cl at X' step
  have hheap : ((T.setVm vm').setCell (ad f i) cl).heap = H.setIfInBounds (ad f i) cl := by rw [← hT]; rfl
  have oq : ∀ q : Nat, q ≠ ad f i → (H.setIfInBounds (ad f i) cl)[q]? = H[q]? := fun q hq => by simp [Array.getElem?_setIfInBounds, Ne.symm hq]
  obtain ⟨t, a1, b1⟩ := kk _ _ _ rfl (hH.upd hd (by
      rw [cel_i hk]
      show (H.setIfInBounds (ad f i) cl)[ad f i]? = some (vp_cell _ _)
      rw [Array.getElem?_setIfInBounds, if_pos rfl, if_pos hl, ← hcl]
      refine congrArg (fun z => some (vp_cell (aC 0) (n1, Sum.inl z))) (funext fun z => ?_)
      simp [va_cpy, cpI]) oq (fun f' i' h => cel_cpI h) (fun f i k j hd h => hH.2.2.1 f i k j hd h) rfl) ⟨by simp; exact hS.1, fun q g1 g2 => by
      rw [oq q (fun e => g2 (by rw [e]; exact hH.2.2.2.1 f i hd))]
      exact hS.2.1 q g1 g2, fun q hq => by
      rcases List.mem_append.mp hq with h | h
      · exact hS.2.2 q h
      · obtain ⟨z, -, hz⟩ := List.mem_map.mp h
        rw [← hz]
        exact hH.2.2.2.1 f i hd⟩ _ hheap X'
  exact ⟨t, step t a1, b1⟩
theorem st_sw (hexec : p.tables.exec = Jvm.exec) (hb : c.code = cc) {dflt : Int} {ps : Array (Int × Int)} {len : Nat} {x : Int32} {off : Int} {tgt : Nat} (hdg : decode cc pc = .ok (.lookupswitch dflt ps, len)) (hp : (ps.toList.zip (ps.toList.drop 1)).all (fun (a, next) => a.1 < next.1) = true) (ho : Op.lookupswitch.offset ps.toList dflt x.toInt = off) (ht : (pc : Int) + off = (tgt : Int))
    (k : W p l e R s m args below meth c H locs cells slots Q (F0 m tgt ls rest)) : W p l e R s m args below meth c H locs cells slots Q (F0 m pc ls (.int x :: rest)) := lv_lookup hexec hb hdg hp ho ht k
theorem st_tld (hexec : p.tables.exec = Jvm.exec) (hb : c.code = cc) {a N : Nat} {f : Nat → Int32} (hT : va_T .int a N (fun k => .int (f k)) A s s.heap) (hS : va_S A s.heap H locs) {x : Int32} (hin : ib x N) (hdg : decode cc pc = .ok (.iaload, 1))
    (kk : W p l e R s m args below meth c H locs cells slots Q (F0 m (pc + 1) ls (.int (f x.toNatClampNeg) :: rest))) : W p l e R s m args below meth c H locs cells slots Q (F0 m pc ls (.int x :: .ref a :: rest)) := by
  obtain ⟨cell, h1, h2, h3, h4, h5, h6, h7⟩ := hT
  have hlt : x.toNatClampNeg < N := Nat.not_le.mp fun q => hin (Or.inr q)
  exact W.iald (v := .int (f x.toNatClampNeg)) hexec hb (by rw [hS.2.1 a (Array.getElem?_eq_some_iff.mp h1).1 h7]; exact h1) h2 h3 (fun q => q.elim (fun z => hin (Or.inl z)) (fun z => by omega)) (h6 _ hlt) rfl rfl hdg kk
theorem st_max (hexec : p.tables.exec = Jvm.exec) (hb : c.code = cc) (hml : c.maxLocals = ls.size) {own : String} {index : Nat} (hown : s.vm.findClass own = some m.cls) (hlink : (Cond.methodLink own index Lib.Math.max.name).before args s = true) (hstat : (Cond.static Lib.Math.max.name).before args s = true) (hini : (Cond.initialized "java/lang/Math").before args s = true) (hcode : (Cond.code Lib.Math.max.name Lib.Math.max.code 2 (some .int)).before args s = true)
    (hframes : 1 ≤ R.frames) (hlocals : (rest.map fun v => v.category).sum + 13 ≤ R.locals) (hc : cells ≤ R.cells) (hs : slots ≤ R.slots) {x y : Int32} (hdg : decode cc pc = .ok (.invokestatic index, 3))
    (kk : W p l e R s m args below meth c H locs cells slots Q (F0 m (pc + 3) ls (.int (jmax x y) :: rest))) : W p l e R s m args below meth c H locs cells slots Q (F0 m pc ls (.int y :: .int x :: rest)) := va_mmax hexec hb hml hown hlink hstat hini hcode hframes hlocals hc hs hdg kk
theorem st_min (hexec : p.tables.exec = Jvm.exec) (hb : c.code = cc) (hml : c.maxLocals = ls.size) {own : String} {index : Nat} (hown : s.vm.findClass own = some m.cls) (hlink : (Cond.methodLink own index Lib.Math.min.name).before args s = true) (hstat : (Cond.static Lib.Math.min.name).before args s = true) (hini : (Cond.initialized "java/lang/Math").before args s = true) (hcode : (Cond.code Lib.Math.min.name Lib.Math.min.code 2 (some .int)).before args s = true)
    (hframes : 1 ≤ R.frames) (hlocals : (rest.map fun v => v.category).sum + 13 ≤ R.locals) (hc : cells ≤ R.cells) (hs : slots ≤ R.slots) {x y : Int32} (hdg : decode cc pc = .ok (.invokestatic index, 3))
    (kk : W p l e R s m args below meth c H locs cells slots Q (F0 m (pc + 3) ls (.int (jmin x y) :: rest))) : W p l e R s m args below meth c H locs cells slots Q (F0 m pc ls (.int y :: .int x :: rest)) := va_mmin hexec hb hml hown hlink hstat hini hcode hframes hlocals hc hs hdg kk
end ROWS2
end
section
theorem wd_0 : (Cond.fieldLink "PrefixCodes" 15 "PrefixCodes" "codesMade" "I" : Cond) ∈ gW := List.mem_filter.mpr ⟨gt2 _ (List.mem_of_getElem? (i := 90) rfl), rfl⟩
theorem wd_1 : (Cond.fieldLink "PrefixCodes" 11 "PrefixCodes" "codes" "[LPrefixCodes$Code;" : Cond) ∈ gW := List.mem_filter.mpr ⟨gt2 _ (List.mem_of_getElem? (i := 89) rfl), rfl⟩
theorem wd_2 : (Cond.code ⟨"PrefixCodes", "isOutside", "(III)Z"⟩ prog_1_method_28_code 3 (some .boolean) : Cond) ∈ gW := List.mem_filter.mpr ⟨gt2 _ (List.mem_of_getElem? (i := 126) rfl), rfl⟩
theorem wd_3 : (Cond.methodLink "PrefixCodes" 76 ⟨"PrefixCodes", "isOutside", "(III)Z"⟩ : Cond) ∈ gW := List.mem_filter.mpr ⟨gt2 _ (List.mem_of_getElem? (i := 124) rfl), rfl⟩
theorem wd_4 : (Cond.initialized "PrefixCodes" : Cond) ∈ gW := List.mem_filter.mpr ⟨gt1 _ (List.mem_of_getElem? (i := 1) rfl), rfl⟩
theorem wd_5 : (Cond.static ⟨"PrefixCodes", "isOutside", "(III)Z"⟩ : Cond) ∈ gW := List.mem_filter.mpr ⟨gt2 _ (List.mem_of_getElem? (i := 125) rfl), rfl⟩
theorem wd_6 : (Cond.fieldLink "PrefixCodes" 104 "PrefixCodes$Code" "symbols" "I" : Cond) ∈ gW := List.mem_filter.mpr ⟨gt1 _ (List.mem_of_getElem? (i := 105) rfl), rfl⟩
theorem wd_7 : (Cond.code ⟨"PrefixCodes", "codeAt", "(I)LPrefixCodes$Code;"⟩ prog_1_method_29_code 2 (some (.object "PrefixCodes$Code")) : Cond) ∈ gW := List.mem_filter.mpr ⟨gt2 _ (List.mem_of_getElem? (i := 143) rfl), rfl⟩
theorem wd_8 : (Cond.methodLink "PrefixCodes" 97 ⟨"PrefixCodes", "codeAt", "(I)LPrefixCodes$Code;"⟩ : Cond) ∈ gW := List.mem_filter.mpr ⟨gt2 _ (List.mem_of_getElem? (i := 140) rfl), rfl⟩
theorem wd_9 : (Cond.instanceMethod ⟨"PrefixCodes", "codeAt", "(I)LPrefixCodes$Code;"⟩ : Cond) ∈ gW := List.mem_filter.mpr ⟨gt2 _ (List.mem_of_getElem? (i := 142) rfl), rfl⟩
theorem wd_10 : (Cond.selects "PrefixCodes" ⟨"PrefixCodes", "codeAt", "(I)LPrefixCodes$Code;"⟩ ⟨"PrefixCodes", "codeAt", "(I)LPrefixCodes$Code;"⟩ : Cond) ∈ gW := List.mem_filter.mpr ⟨gp1 (⟨"PrefixCodes", "codeAt", "(I)LPrefixCodes$Code;"⟩, 10) (List.mem_of_getElem? (i := 2) rfl), rfl⟩
theorem wd_11 : (Cond.fieldLink "PrefixCodes$Code" 21 "PrefixCodes$Code" "manyOfLength" "[I" : Cond) ∈ gW := List.mem_filter.mpr ⟨gt1 _ (List.mem_of_getElem? (i := 120) rfl), rfl⟩
theorem wd_12 : (Cond.fieldLink "PrefixCodes$Code" 43 "PrefixCodes$Code" "symbols" "I" : Cond) ∈ gW := List.mem_filter.mpr ⟨gt1 _ (List.mem_of_getElem? (i := 102) rfl), rfl⟩
theorem wd_13 : (Cond.fieldLink "PrefixCodes$Code" 9 "PrefixCodes$Code" "lengths" "[I" : Cond) ∈ gW := List.mem_filter.mpr ⟨gt1 _ (List.mem_of_getElem? (i := 106) rfl), rfl⟩
theorem wd_14 : (Cond.code ⟨"java/util/Arrays", "fill", "([II)V"⟩ prog_21_method_103_code 4 none : Cond) ∈ gW := List.mem_filter.mpr ⟨gt2 _ (List.mem_of_getElem? (i := 154) rfl), rfl⟩
theorem wd_15 : (Cond.methodLink "PrefixCodes$Code" 59 ⟨"java/util/Arrays", "fill", "([II)V"⟩ : Cond) ∈ gW := List.mem_filter.mpr ⟨gt2 _ (List.mem_of_getElem? (i := 152) rfl), rfl⟩
theorem wd_16 : (Cond.initialized "java/util/Arrays" : Cond) ∈ gW := List.mem_filter.mpr ⟨gt1 _ (List.mem_of_getElem? (i := 13) rfl), rfl⟩
theorem wd_17 : (Cond.static ⟨"java/util/Arrays", "fill", "([II)V"⟩ : Cond) ∈ gW := List.mem_filter.mpr ⟨gt2 _ (List.mem_of_getElem? (i := 153) rfl), rfl⟩
theorem wd_18 : (Cond.fieldLink "PrefixCodes$Code" 30 "PrefixCodes$Code" "filled" "I" : Cond) ∈ gW := List.mem_filter.mpr ⟨gt1 _ (List.mem_of_getElem? (i := 123) rfl), rfl⟩
theorem wd_19 : (Cond.fieldLink "PrefixCodes$Code" 34 "PrefixCodes$Code" "having" "I" : Cond) ∈ gW := List.mem_filter.mpr ⟨gt1 _ (List.mem_of_getElem? (i := 125) rfl), rfl⟩
theorem wd_20 : (Cond.fieldLink "PrefixCodes$Code" 37 "PrefixCodes$Code" "greatest" "I" : Cond) ∈ gW := List.mem_filter.mpr ⟨gt1 _ (List.mem_of_getElem? (i := 128) rfl), rfl⟩
theorem wd_21 : (Cond.fieldLink "PrefixCodes$Code" 24 "PrefixCodes$Code" "firstWord" "[I" : Cond) ∈ gW := List.mem_filter.mpr ⟨gt1 _ (List.mem_of_getElem? (i := 121) rfl), rfl⟩
theorem wd_22 : (Cond.fieldLink "PrefixCodes$Code" 27 "PrefixCodes$Code" "firstPlace" "[I" : Cond) ∈ gW := List.mem_filter.mpr ⟨gt1 _ (List.mem_of_getElem? (i := 122) rfl), rfl⟩
theorem wd_23 : (Cond.fieldLink "PrefixCodes$Code" 15 "PrefixCodes$Code" "words" "[I" : Cond) ∈ gW := List.mem_filter.mpr ⟨gt1 _ (List.mem_of_getElem? (i := 113) rfl), rfl⟩
theorem wd_24 : (Cond.fieldLink "PrefixCodes$Code" 18 "PrefixCodes$Code" "ordered" "[I" : Cond) ∈ gW := List.mem_filter.mpr ⟨gt1 _ (List.mem_of_getElem? (i := 118) rfl), rfl⟩
theorem wd_25 : (Cond.constant "PrefixCodes$Code" 65 (32768 : Int32) : Cond) ∈ gW := List.mem_filter.mpr ⟨gt2 _ (List.mem_of_getElem? (i := 167) rfl), rfl⟩
theorem wd_26 : (Cond.fieldLink "PrefixCodes$Code" 40 "PrefixCodes$Code" "kind" "I" : Cond) ∈ gW := List.mem_filter.mpr ⟨gt1 _ (List.mem_of_getElem? (i := 130) rfl), rfl⟩
theorem wd_27 : (Cond.code ⟨"PrefixCodes$Code", "countLengths", "()V"⟩ prog_3_method_3_code 2 none : Cond) ∈ gW := List.mem_filter.mpr ⟨gt2 _ (List.mem_of_getElem? (i := 151) rfl), rfl⟩
theorem wd_28 : (Cond.methodLink "PrefixCodes$Code" 46 ⟨"PrefixCodes$Code", "countLengths", "()V"⟩ : Cond) ∈ gW := List.mem_filter.mpr ⟨gt2 _ (List.mem_of_getElem? (i := 148) rfl), rfl⟩
theorem wd_29 : (Cond.initialized "PrefixCodes$Code" : Cond) ∈ gW := List.mem_filter.mpr ⟨gt1 _ (List.mem_of_getElem? (i := 6) rfl), rfl⟩
theorem wd_30 : (Cond.instanceMethod ⟨"PrefixCodes$Code", "countLengths", "()V"⟩ : Cond) ∈ gW := List.mem_filter.mpr ⟨gt2 _ (List.mem_of_getElem? (i := 150) rfl), rfl⟩
theorem wd_31 : (Cond.selects "PrefixCodes$Code" ⟨"PrefixCodes$Code", "countLengths", "()V"⟩ ⟨"PrefixCodes$Code", "countLengths", "()V"⟩ : Cond) ∈ gW := List.mem_filter.mpr ⟨gp1 (⟨"PrefixCodes$Code", "countLengths", "()V"⟩, 11) (List.mem_of_getElem? (i := 3) rfl), rfl⟩
theorem wd_32 : (Cond.code ⟨"PrefixCodes$Code", "placeLengths", "()V"⟩ prog_3_method_4_code 3 none : Cond) ∈ gW := List.mem_filter.mpr ⟨gt2 _ (List.mem_of_getElem? (i := 158) rfl), rfl⟩
theorem wd_33 : (Cond.methodLink "PrefixCodes$Code" 49 ⟨"PrefixCodes$Code", "placeLengths", "()V"⟩ : Cond) ∈ gW := List.mem_filter.mpr ⟨gt2 _ (List.mem_of_getElem? (i := 155) rfl), rfl⟩
theorem wd_34 : (Cond.instanceMethod ⟨"PrefixCodes$Code", "placeLengths", "()V"⟩ : Cond) ∈ gW := List.mem_filter.mpr ⟨gt2 _ (List.mem_of_getElem? (i := 157) rfl), rfl⟩
theorem wd_35 : (Cond.selects "PrefixCodes$Code" ⟨"PrefixCodes$Code", "placeLengths", "()V"⟩ ⟨"PrefixCodes$Code", "placeLengths", "()V"⟩ : Cond) ∈ gW := List.mem_filter.mpr ⟨gp1 (⟨"PrefixCodes$Code", "placeLengths", "()V"⟩, 11) (List.mem_of_getElem? (i := 4) rfl), rfl⟩
theorem wd_36 : (Cond.code ⟨"PrefixCodes$Code", "nameSymbols", "()V"⟩ prog_3_method_5_code 3 none : Cond) ∈ gW := List.mem_filter.mpr ⟨gt2 _ (List.mem_of_getElem? (i := 162) rfl), rfl⟩
theorem wd_37 : (Cond.methodLink "PrefixCodes$Code" 52 ⟨"PrefixCodes$Code", "nameSymbols", "()V"⟩ : Cond) ∈ gW := List.mem_filter.mpr ⟨gt2 _ (List.mem_of_getElem? (i := 159) rfl), rfl⟩
theorem wd_38 : (Cond.instanceMethod ⟨"PrefixCodes$Code", "nameSymbols", "()V"⟩ : Cond) ∈ gW := List.mem_filter.mpr ⟨gt2 _ (List.mem_of_getElem? (i := 161) rfl), rfl⟩
theorem wd_39 : (Cond.selects "PrefixCodes$Code" ⟨"PrefixCodes$Code", "nameSymbols", "()V"⟩ ⟨"PrefixCodes$Code", "nameSymbols", "()V"⟩ : Cond) ∈ gW := List.mem_filter.mpr ⟨gp1 (⟨"PrefixCodes$Code", "nameSymbols", "()V"⟩, 11) (List.mem_of_getElem? (i := 5) rfl), rfl⟩
theorem wd_40 : (Cond.code ⟨"PrefixCodes$Code", "judged", "()I"⟩ prog_3_method_6_code 1 (some .int) : Cond) ∈ gW := List.mem_filter.mpr ⟨gt2 _ (List.mem_of_getElem? (i := 166) rfl), rfl⟩
theorem wd_41 : (Cond.methodLink "PrefixCodes$Code" 55 ⟨"PrefixCodes$Code", "judged", "()I"⟩ : Cond) ∈ gW := List.mem_filter.mpr ⟨gt2 _ (List.mem_of_getElem? (i := 163) rfl), rfl⟩
theorem wd_42 : (Cond.instanceMethod ⟨"PrefixCodes$Code", "judged", "()I"⟩ : Cond) ∈ gW := List.mem_filter.mpr ⟨gt2 _ (List.mem_of_getElem? (i := 165) rfl), rfl⟩
theorem wd_43 : (Cond.selects "PrefixCodes$Code" ⟨"PrefixCodes$Code", "judged", "()I"⟩ ⟨"PrefixCodes$Code", "judged", "()I"⟩ : Cond) ∈ gW := List.mem_filter.mpr ⟨gp1 (⟨"PrefixCodes$Code", "judged", "()I"⟩, 11) (List.mem_of_getElem? (i := 6) rfl), rfl⟩
theorem wd_44 : (Cond.fieldLink "PrefixCodes" 91 "PrefixCodes$Code" "lengths" "[I" : Cond) ∈ gW := List.mem_filter.mpr ⟨gt1 _ (List.mem_of_getElem? (i := 111) rfl), rfl⟩
theorem wd_45 : (Cond.code ⟨"PrefixCodes", "codeWith", "(II)LPrefixCodes$Code;"⟩ prog_1_method_30_code 4 (some (.object "PrefixCodes$Code")) : Cond) ∈ gW := List.mem_filter.mpr ⟨gt2 _ (List.mem_of_getElem? (i := 139) rfl), rfl⟩
theorem wd_46 : (Cond.methodLink "PrefixCodes" 87 ⟨"PrefixCodes", "codeWith", "(II)LPrefixCodes$Code;"⟩ : Cond) ∈ gW := List.mem_filter.mpr ⟨gt2 _ (List.mem_of_getElem? (i := 136) rfl), rfl⟩
theorem wd_47 : (Cond.instanceMethod ⟨"PrefixCodes", "codeWith", "(II)LPrefixCodes$Code;"⟩ : Cond) ∈ gW := List.mem_filter.mpr ⟨gt2 _ (List.mem_of_getElem? (i := 138) rfl), rfl⟩
theorem wd_48 : (Cond.selects "PrefixCodes" ⟨"PrefixCodes", "codeWith", "(II)LPrefixCodes$Code;"⟩ ⟨"PrefixCodes", "codeWith", "(II)LPrefixCodes$Code;"⟩ : Cond) ∈ gW := List.mem_filter.mpr ⟨gp1 (⟨"PrefixCodes", "codeWith", "(II)LPrefixCodes$Code;"⟩, 10) (List.mem_of_getElem? (i := 1) rfl), rfl⟩
theorem wd_49 : (Cond.code ⟨"PrefixCodes$Code", "renumber", "()V"⟩ prog_3_method_2_code 1 none : Cond) ∈ gW := List.mem_filter.mpr ⟨gt2 _ (List.mem_of_getElem? (i := 147) rfl), rfl⟩
theorem wd_50 : (Cond.methodLink "PrefixCodes" 94 ⟨"PrefixCodes$Code", "renumber", "()V"⟩ : Cond) ∈ gW := List.mem_filter.mpr ⟨gt2 _ (List.mem_of_getElem? (i := 144) rfl), rfl⟩
theorem wd_51 : (Cond.instanceMethod ⟨"PrefixCodes$Code", "renumber", "()V"⟩ : Cond) ∈ gW := List.mem_filter.mpr ⟨gt2 _ (List.mem_of_getElem? (i := 145) rfl), rfl⟩
theorem wd_52 : (Cond.selects "PrefixCodes$Code" ⟨"PrefixCodes$Code", "renumber", "()V"⟩ ⟨"PrefixCodes$Code", "renumber", "()V"⟩ : Cond) ∈ gW := List.mem_filter.mpr ⟨gt2 _ (List.mem_of_getElem? (i := 146) rfl), rfl⟩
theorem wd_53 : (Cond.fieldLink "PrefixCodes" 101 "PrefixCodes$Code" "kind" "I" : Cond) ∈ gW := List.mem_filter.mpr ⟨gt1 _ (List.mem_of_getElem? (i := 131) rfl), rfl⟩
theorem wd_54 : (Cond.fieldLink "PrefixCodes" 107 "PrefixCodes$Code" "filled" "I" : Cond) ∈ gW := List.mem_filter.mpr ⟨gt1 _ (List.mem_of_getElem? (i := 124) rfl), rfl⟩
theorem wd_55 : (Cond.fieldLink "PrefixCodes" 110 "PrefixCodes$Code" "having" "I" : Cond) ∈ gW := List.mem_filter.mpr ⟨gt1 _ (List.mem_of_getElem? (i := 127) rfl), rfl⟩
theorem wd_56 : (Cond.fieldLink "PrefixCodes" 113 "PrefixCodes$Code" "greatest" "I" : Cond) ∈ gW := List.mem_filter.mpr ⟨gt1 _ (List.mem_of_getElem? (i := 129) rfl), rfl⟩
theorem wd_57 : (Cond.fieldLink "PrefixCodes" 124 "PrefixCodes$Code" "words" "[I" : Cond) ∈ gW := List.mem_filter.mpr ⟨gt1 _ (List.mem_of_getElem? (i := 116) rfl), rfl⟩
theorem wd_58 : (Cond.code ⟨"PrefixCodes$Code", "hasWord", "(I)Z"⟩ prog_3_method_7_code 2 (some .boolean) : Cond) ∈ gW := List.mem_filter.mpr ⟨gt2 _ (List.mem_of_getElem? (i := 179) rfl), rfl⟩
theorem wd_59 : (Cond.methodLink "PrefixCodes" 116 ⟨"PrefixCodes$Code", "hasWord", "(I)Z"⟩ : Cond) ∈ gW := List.mem_filter.mpr ⟨gt2 _ (List.mem_of_getElem? (i := 176) rfl), rfl⟩
theorem wd_60 : (Cond.instanceMethod ⟨"PrefixCodes$Code", "hasWord", "(I)Z"⟩ : Cond) ∈ gW := List.mem_filter.mpr ⟨gt2 _ (List.mem_of_getElem? (i := 177) rfl), rfl⟩
theorem wd_61 : (Cond.selects "PrefixCodes$Code" ⟨"PrefixCodes$Code", "hasWord", "(I)Z"⟩ ⟨"PrefixCodes$Code", "hasWord", "(I)Z"⟩ : Cond) ∈ gW := List.mem_filter.mpr ⟨gt2 _ (List.mem_of_getElem? (i := 178) rfl), rfl⟩
theorem wd_62 : (Cond.code ⟨"PrefixCodes$Code", "turnedWord", "(I)I"⟩ prog_3_method_9_code 4 (some .int) : Cond) ∈ gW := List.mem_filter.mpr ⟨gt2 _ (List.mem_of_getElem? (i := 183) rfl), rfl⟩
theorem wd_63 : (Cond.methodLink "PrefixCodes" 120 ⟨"PrefixCodes$Code", "turnedWord", "(I)I"⟩ : Cond) ∈ gW := List.mem_filter.mpr ⟨gt2 _ (List.mem_of_getElem? (i := 180) rfl), rfl⟩
theorem wd_64 : (Cond.instanceMethod ⟨"PrefixCodes$Code", "turnedWord", "(I)I"⟩ : Cond) ∈ gW := List.mem_filter.mpr ⟨gt2 _ (List.mem_of_getElem? (i := 181) rfl), rfl⟩
theorem wd_65 : (Cond.selects "PrefixCodes$Code" ⟨"PrefixCodes$Code", "turnedWord", "(I)I"⟩ ⟨"PrefixCodes$Code", "turnedWord", "(I)I"⟩ : Cond) ∈ gW := List.mem_filter.mpr ⟨gt2 _ (List.mem_of_getElem? (i := 182) rfl), rfl⟩
theorem wd_66 : (Cond.constant "PrefixCodes" 127 (1000000 : Int32) : Cond) ∈ gW := List.mem_filter.mpr ⟨gt2 _ (List.mem_of_getElem? (i := 188) rfl), rfl⟩
theorem wd_67 : (Cond.fieldLink "PrefixCodes" 19 "PrefixCodes" "counts" "[I" : Cond) ∈ gW := List.mem_filter.mpr ⟨gt2 _ (List.mem_of_getElem? (i := 91) rfl), rfl⟩
theorem wd_68 : (Cond.fieldLink "PrefixCodes$Text" 15 "PrefixCodes$Text" "size" "I" : Cond) ∈ gW := List.mem_filter.mpr ⟨gt1 _ (List.mem_of_getElem? (i := 236) rfl), rfl⟩
theorem wd_69 : (Cond.fieldLink "PrefixCodes$Text" 9 "PrefixCodes$Text" "row" "[I" : Cond) ∈ gW := List.mem_filter.mpr ⟨gt1 _ (List.mem_of_getElem? (i := 233) rfl), rfl⟩
theorem wd_70 : (Cond.methodLink "PrefixCodes$Text" 31 ⟨"java/util/Arrays", "fill", "([II)V"⟩ : Cond) ∈ gW := List.mem_filter.mpr ⟨gt2 _ (List.mem_of_getElem? (i := 197) rfl), rfl⟩
theorem wd_71 : (Cond.fieldLink "PrefixCodes" 56 "PrefixCodes" "text" "LPrefixCodes$Text;" : Cond) ∈ gW := List.mem_filter.mpr ⟨gt2 _ (List.mem_of_getElem? (i := 96) rfl), rfl⟩
theorem wd_72 : (Cond.code ⟨"PrefixCodes$Text", "tally", "([I)V"⟩ prog_11_method_4_code 3 none : Cond) ∈ gW := List.mem_filter.mpr ⟨gt2 _ (List.mem_of_getElem? (i := 196) rfl), rfl⟩
theorem wd_73 : (Cond.methodLink "PrefixCodes" 128 ⟨"PrefixCodes$Text", "tally", "([I)V"⟩ : Cond) ∈ gW := List.mem_filter.mpr ⟨gt2 _ (List.mem_of_getElem? (i := 193) rfl), rfl⟩
theorem wd_74 : (Cond.initialized "PrefixCodes$Text" : Cond) ∈ gW := List.mem_filter.mpr ⟨gt1 _ (List.mem_of_getElem? (i := 8) rfl), rfl⟩
theorem wd_75 : (Cond.instanceMethod ⟨"PrefixCodes$Text", "tally", "([I)V"⟩ : Cond) ∈ gW := List.mem_filter.mpr ⟨gt2 _ (List.mem_of_getElem? (i := 194) rfl), rfl⟩
theorem wd_76 : (Cond.selects "PrefixCodes$Text" ⟨"PrefixCodes$Text", "tally", "([I)V"⟩ ⟨"PrefixCodes$Text", "tally", "([I)V"⟩ : Cond) ∈ gW := List.mem_filter.mpr ⟨gt2 _ (List.mem_of_getElem? (i := 195) rfl), rfl⟩
theorem wd_77 : (Cond.code ⟨"PrefixCodes", "countedBelow", "(I)I"⟩ prog_1_method_32_code 4 (some .int) : Cond) ∈ gW := List.mem_filter.mpr ⟨gt2 _ (List.mem_of_getElem? (i := 201) rfl), rfl⟩
theorem wd_78 : (Cond.methodLink "PrefixCodes" 132 ⟨"PrefixCodes", "countedBelow", "(I)I"⟩ : Cond) ∈ gW := List.mem_filter.mpr ⟨gt2 _ (List.mem_of_getElem? (i := 198) rfl), rfl⟩
theorem wd_79 : (Cond.instanceMethod ⟨"PrefixCodes", "countedBelow", "(I)I"⟩ : Cond) ∈ gW := List.mem_filter.mpr ⟨gt2 _ (List.mem_of_getElem? (i := 200) rfl), rfl⟩
theorem wd_80 : (Cond.selects "PrefixCodes" ⟨"PrefixCodes", "countedBelow", "(I)I"⟩ ⟨"PrefixCodes", "countedBelow", "(I)I"⟩ : Cond) ∈ gW := List.mem_filter.mpr ⟨gp1 (⟨"PrefixCodes", "countedBelow", "(I)I"⟩, 10) (List.mem_of_getElem? (i := 7) rfl), rfl⟩
theorem wd_81 : (Cond.fieldLink "PrefixCodes$Packages" 18 "PrefixCodes$Packages" "many" "I" : Cond) ∈ gW := List.mem_filter.mpr ⟨gt1 _ (List.mem_of_getElem? (i := 66) rfl), rfl⟩
theorem wd_82 : (Cond.fieldLink "PrefixCodes$Packages" 15 "PrefixCodes$Packages" "weights" "[I" : Cond) ∈ gW := List.mem_filter.mpr ⟨gt1 _ (List.mem_of_getElem? (i := 65) rfl), rfl⟩
theorem wd_83 : (Cond.fieldLink "PrefixCodes$Packages" 9 "PrefixCodes$Packages" "ordered" "[I" : Cond) ∈ gW := List.mem_filter.mpr ⟨gt1 _ (List.mem_of_getElem? (i := 64) rfl), rfl⟩
theorem wd_84 : (Cond.code ⟨"PrefixCodes$Packages", "insert", "(II)V"⟩ prog_6_method_4_code 4 none : Cond) ∈ gW := List.mem_filter.mpr ⟨gt2 _ (List.mem_of_getElem? (i := 218) rfl), rfl⟩
theorem wd_85 : (Cond.methodLink "PrefixCodes$Packages" 66 ⟨"PrefixCodes$Packages", "insert", "(II)V"⟩ : Cond) ∈ gW := List.mem_filter.mpr ⟨gt2 _ (List.mem_of_getElem? (i := 215) rfl), rfl⟩
theorem wd_86 : (Cond.initialized "PrefixCodes$Packages" : Cond) ∈ gW := List.mem_filter.mpr ⟨gt1 _ (List.mem_of_getElem? (i := 3) rfl), rfl⟩
theorem wd_87 : (Cond.instanceMethod ⟨"PrefixCodes$Packages", "insert", "(II)V"⟩ : Cond) ∈ gW := List.mem_filter.mpr ⟨gt2 _ (List.mem_of_getElem? (i := 217) rfl), rfl⟩
theorem wd_88 : (Cond.selects "PrefixCodes$Packages" ⟨"PrefixCodes$Packages", "insert", "(II)V"⟩ ⟨"PrefixCodes$Packages", "insert", "(II)V"⟩ : Cond) ∈ gW := List.mem_filter.mpr ⟨gp1 (⟨"PrefixCodes$Packages", "insert", "(II)V"⟩, 6) (List.mem_of_getElem? (i := 9) rfl), rfl⟩
theorem wd_89 : (Cond.fieldLink "PrefixCodes$Packages" 27 "PrefixCodes$Packages" "sizes" "[I" : Cond) ∈ gW := List.mem_filter.mpr ⟨gt1 _ (List.mem_of_getElem? (i := 68) rfl), rfl⟩
theorem wd_90 : (Cond.fieldLink "PrefixCodes$Packages" 24 "PrefixCodes$Packages" "row" "[[J" : Cond) ∈ gW := List.mem_filter.mpr ⟨gt1 _ (List.mem_of_getElem? (i := 67) rfl), rfl⟩
theorem wd_91 : (Cond.fieldLink "PrefixCodes$Packages" 32 "PrefixCodes$Packages" "isSymbol" "[[I" : Cond) ∈ gW := List.mem_filter.mpr ⟨gt1 _ (List.mem_of_getElem? (i := 69) rfl), rfl⟩
theorem wd_92 : (Cond.fieldLink "PrefixCodes$Packages" 35 "PrefixCodes$Code" "lengths" "[I" : Cond) ∈ gW := List.mem_filter.mpr ⟨gt1 _ (List.mem_of_getElem? (i := 107) rfl), rfl⟩
theorem wd_93 : (Cond.fieldLink "PrefixCodes$Packages" 46 "PrefixCodes$Code" "symbols" "I" : Cond) ∈ gW := List.mem_filter.mpr ⟨gt1 _ (List.mem_of_getElem? (i := 103) rfl), rfl⟩
theorem wd_94 : (Cond.methodLink "PrefixCodes$Packages" 40 ⟨"java/util/Arrays", "fill", "([II)V"⟩ : Cond) ∈ gW := List.mem_filter.mpr ⟨gt2 _ (List.mem_of_getElem? (i := 210) rfl), rfl⟩
theorem wd_95 : (Cond.code ⟨"PrefixCodes$Packages", "order", "([II)V"⟩ prog_6_method_3_code 4 none : Cond) ∈ gW := List.mem_filter.mpr ⟨gt2 _ (List.mem_of_getElem? (i := 214) rfl), rfl⟩
theorem wd_96 : (Cond.methodLink "PrefixCodes$Packages" 49 ⟨"PrefixCodes$Packages", "order", "([II)V"⟩ : Cond) ∈ gW := List.mem_filter.mpr ⟨gt2 _ (List.mem_of_getElem? (i := 211) rfl), rfl⟩
theorem wd_97 : (Cond.instanceMethod ⟨"PrefixCodes$Packages", "order", "([II)V"⟩ : Cond) ∈ gW := List.mem_filter.mpr ⟨gt2 _ (List.mem_of_getElem? (i := 213) rfl), rfl⟩
theorem wd_98 : (Cond.selects "PrefixCodes$Packages" ⟨"PrefixCodes$Packages", "order", "([II)V"⟩ ⟨"PrefixCodes$Packages", "order", "([II)V"⟩ : Cond) ∈ gW := List.mem_filter.mpr ⟨gp1 (⟨"PrefixCodes$Packages", "order", "([II)V"⟩, 6) (List.mem_of_getElem? (i := 8) rfl), rfl⟩
theorem wd_99 : (Cond.methodLink "PrefixCodes$Packages" 63 ⟨"PrefixCodes$Code", "renumber", "()V"⟩ : Cond) ∈ gW := List.mem_filter.mpr ⟨gt2 _ (List.mem_of_getElem? (i := 231) rfl), rfl⟩
theorem wd_100 : (Cond.code ⟨"PrefixCodes$Packages", "makeFirstRow", "()V"⟩ prog_6_method_5_code 2 none : Cond) ∈ gW := List.mem_filter.mpr ⟨gt2 _ (List.mem_of_getElem? (i := 222) rfl), rfl⟩
theorem wd_101 : (Cond.methodLink "PrefixCodes$Packages" 52 ⟨"PrefixCodes$Packages", "makeFirstRow", "()V"⟩ : Cond) ∈ gW := List.mem_filter.mpr ⟨gt2 _ (List.mem_of_getElem? (i := 219) rfl), rfl⟩
theorem wd_102 : (Cond.instanceMethod ⟨"PrefixCodes$Packages", "makeFirstRow", "()V"⟩ : Cond) ∈ gW := List.mem_filter.mpr ⟨gt2 _ (List.mem_of_getElem? (i := 221) rfl), rfl⟩
theorem wd_103 : (Cond.selects "PrefixCodes$Packages" ⟨"PrefixCodes$Packages", "makeFirstRow", "()V"⟩ ⟨"PrefixCodes$Packages", "makeFirstRow", "()V"⟩ : Cond) ∈ gW := List.mem_filter.mpr ⟨gp1 (⟨"PrefixCodes$Packages", "makeFirstRow", "()V"⟩, 6) (List.mem_of_getElem? (i := 10) rfl), rfl⟩
theorem wd_104 : (Cond.code ⟨"PrefixCodes$Packages", "goBack", "(I[I)V"⟩ prog_6_method_7_code 7 none : Cond) ∈ gW := List.mem_filter.mpr ⟨gt2 _ (List.mem_of_getElem? (i := 230) rfl), rfl⟩
theorem wd_105 : (Cond.methodLink "PrefixCodes$Packages" 59 ⟨"PrefixCodes$Packages", "goBack", "(I[I)V"⟩ : Cond) ∈ gW := List.mem_filter.mpr ⟨gt2 _ (List.mem_of_getElem? (i := 227) rfl), rfl⟩
theorem wd_106 : (Cond.instanceMethod ⟨"PrefixCodes$Packages", "goBack", "(I[I)V"⟩ : Cond) ∈ gW := List.mem_filter.mpr ⟨gt2 _ (List.mem_of_getElem? (i := 229) rfl), rfl⟩
theorem wd_107 : (Cond.selects "PrefixCodes$Packages" ⟨"PrefixCodes$Packages", "goBack", "(I[I)V"⟩ ⟨"PrefixCodes$Packages", "goBack", "(I[I)V"⟩ : Cond) ∈ gW := List.mem_filter.mpr ⟨gp1 (⟨"PrefixCodes$Packages", "goBack", "(I[I)V"⟩, 6) (List.mem_of_getElem? (i := 12) rfl), rfl⟩
theorem wd_108 : (Cond.code ⟨"PrefixCodes$Packages", "makeRow", "(I)V"⟩ prog_6_method_6_code 10 none : Cond) ∈ gW := List.mem_filter.mpr ⟨gt2 _ (List.mem_of_getElem? (i := 226) rfl), rfl⟩
theorem wd_109 : (Cond.methodLink "PrefixCodes$Packages" 55 ⟨"PrefixCodes$Packages", "makeRow", "(I)V"⟩ : Cond) ∈ gW := List.mem_filter.mpr ⟨gt2 _ (List.mem_of_getElem? (i := 223) rfl), rfl⟩
theorem wd_110 : (Cond.instanceMethod ⟨"PrefixCodes$Packages", "makeRow", "(I)V"⟩ : Cond) ∈ gW := List.mem_filter.mpr ⟨gt2 _ (List.mem_of_getElem? (i := 225) rfl), rfl⟩
theorem wd_111 : (Cond.selects "PrefixCodes$Packages" ⟨"PrefixCodes$Packages", "makeRow", "(I)V"⟩ ⟨"PrefixCodes$Packages", "makeRow", "(I)V"⟩ : Cond) ∈ gW := List.mem_filter.mpr ⟨gp1 (⟨"PrefixCodes$Packages", "makeRow", "(I)V"⟩, 6) (List.mem_of_getElem? (i := 11) rfl), rfl⟩
theorem wd_112 : (Cond.constantLong "PrefixCodes" 139 (-101 : Int64) : Cond) ∈ gW := List.mem_filter.mpr ⟨gt2 _ (List.mem_of_getElem? (i := 236) rfl), rfl⟩
theorem wd_113 : (Cond.fieldLink "PrefixCodes" 26 "PrefixCodes" "stream" "LPrefixCodes$Stream;" : Cond) ∈ gW := List.mem_filter.mpr ⟨gt2 _ (List.mem_of_getElem? (i := 92) rfl), rfl⟩
theorem wd_114 : (Cond.fieldLink "PrefixCodes" 141 "PrefixCodes$Stream" "size" "I" : Cond) ∈ gW := List.mem_filter.mpr ⟨gt1 _ (List.mem_of_getElem? (i := 39) rfl), rfl⟩
theorem wd_115 : (Cond.fieldLink "PrefixCodes$Stream" 15 "PrefixCodes$Stream" "head" "I" : Cond) ∈ gW := List.mem_filter.mpr ⟨gt1 _ (List.mem_of_getElem? (i := 37) rfl), rfl⟩
theorem wd_116 : (Cond.fieldLink "PrefixCodes$Stream" 11 "PrefixCodes$Stream" "cells" "[I" : Cond) ∈ gW := List.mem_filter.mpr ⟨gt1 _ (List.mem_of_getElem? (i := 36) rfl), rfl⟩
theorem wd_117 : (Cond.code ⟨"PrefixCodes$Stream", "placeOf", "(I)I"⟩ prog_9_method_2_code 2 (some .int) : Cond) ∈ gW := List.mem_filter.mpr ⟨gt3 _ (List.mem_of_getElem? (i := 24) rfl), rfl⟩
theorem wd_118 : (Cond.methodLink "PrefixCodes$Stream" 29 ⟨"PrefixCodes$Stream", "placeOf", "(I)I"⟩ : Cond) ∈ gW := List.mem_filter.mpr ⟨gt3 _ (List.mem_of_getElem? (i := 21) rfl), rfl⟩
theorem wd_119 : (Cond.initialized "PrefixCodes$Stream" : Cond) ∈ gW := List.mem_filter.mpr ⟨gt1 _ (List.mem_of_getElem? (i := 2) rfl), rfl⟩
theorem wd_120 : (Cond.instanceMethod ⟨"PrefixCodes$Stream", "placeOf", "(I)I"⟩ : Cond) ∈ gW := List.mem_filter.mpr ⟨gt3 _ (List.mem_of_getElem? (i := 23) rfl), rfl⟩
theorem wd_121 : (Cond.selects "PrefixCodes$Stream" ⟨"PrefixCodes$Stream", "placeOf", "(I)I"⟩ ⟨"PrefixCodes$Stream", "placeOf", "(I)I"⟩ : Cond) ∈ gW := List.mem_filter.mpr ⟨gp1 (⟨"PrefixCodes$Stream", "placeOf", "(I)I"⟩, 5) (List.mem_of_getElem? (i := 14) rfl), rfl⟩
theorem wd_122 : (Cond.code ⟨"PrefixCodes$Stream", "bitOf", "(I)I"⟩ prog_9_method_3_code 2 (some .int) : Cond) ∈ gW := List.mem_filter.mpr ⟨gt3 _ (List.mem_of_getElem? (i := 40) rfl), rfl⟩
theorem wd_123 : (Cond.methodLink "PrefixCodes$Stream" 33 ⟨"PrefixCodes$Stream", "bitOf", "(I)I"⟩ : Cond) ∈ gW := List.mem_filter.mpr ⟨gt3 _ (List.mem_of_getElem? (i := 37) rfl), rfl⟩
theorem wd_124 : (Cond.instanceMethod ⟨"PrefixCodes$Stream", "bitOf", "(I)I"⟩ : Cond) ∈ gW := List.mem_filter.mpr ⟨gt3 _ (List.mem_of_getElem? (i := 39) rfl), rfl⟩
theorem wd_125 : (Cond.selects "PrefixCodes$Stream" ⟨"PrefixCodes$Stream", "bitOf", "(I)I"⟩ ⟨"PrefixCodes$Stream", "bitOf", "(I)I"⟩ : Cond) ∈ gW := List.mem_filter.mpr ⟨gp1 (⟨"PrefixCodes$Stream", "bitOf", "(I)I"⟩, 5) (List.mem_of_getElem? (i := 15) rfl), rfl⟩
theorem wd_126 : (Cond.fieldLink "PrefixCodes$Stream" 19 "PrefixCodes$Stream" "size" "I" : Cond) ∈ gW := List.mem_filter.mpr ⟨gt1 _ (List.mem_of_getElem? (i := 38) rfl), rfl⟩
theorem wd_127 : (Cond.fieldLink "PrefixCodes$Stream" 25 "PrefixCodes$Stream" "overflowed" "Z" : Cond) ∈ gW := List.mem_filter.mpr ⟨gt1 _ (List.mem_of_getElem? (i := 41) rfl), rfl⟩
theorem wd_128 : (Cond.code ⟨"PrefixCodes$Stream", "append", "(I)V"⟩ prog_9_method_7_code 5 none : Cond) ∈ gW := List.mem_filter.mpr ⟨gt3 _ (List.mem_of_getElem? (i := 20) rfl), rfl⟩
theorem wd_129 : (Cond.methodLink "PrefixCodes$Stream" 36 ⟨"PrefixCodes$Stream", "append", "(I)V"⟩ : Cond) ∈ gW := List.mem_filter.mpr ⟨gt3 _ (List.mem_of_getElem? (i := 17) rfl), rfl⟩
theorem wd_130 : (Cond.instanceMethod ⟨"PrefixCodes$Stream", "append", "(I)V"⟩ : Cond) ∈ gW := List.mem_filter.mpr ⟨gt3 _ (List.mem_of_getElem? (i := 18) rfl), rfl⟩
theorem wd_131 : (Cond.selects "PrefixCodes$Stream" ⟨"PrefixCodes$Stream", "append", "(I)V"⟩ ⟨"PrefixCodes$Stream", "append", "(I)V"⟩ : Cond) ∈ gW := List.mem_filter.mpr ⟨gt3 _ (List.mem_of_getElem? (i := 19) rfl), rfl⟩
theorem wd_132 : (Cond.code ⟨"PrefixCodes$Stream", "appendNumber", "(II)V"⟩ prog_9_method_8_code 4 none : Cond) ∈ gW := List.mem_filter.mpr ⟨gt3 _ (List.mem_of_getElem? (i := 16) rfl), rfl⟩
theorem wd_133 : (Cond.methodLink "PrefixCodes" 248 ⟨"PrefixCodes$Stream", "appendNumber", "(II)V"⟩ : Cond) ∈ gW := List.mem_filter.mpr ⟨gt3 _ (List.mem_of_getElem? (i := 13) rfl), rfl⟩
theorem wd_134 : (Cond.instanceMethod ⟨"PrefixCodes$Stream", "appendNumber", "(II)V"⟩ : Cond) ∈ gW := List.mem_filter.mpr ⟨gt3 _ (List.mem_of_getElem? (i := 14) rfl), rfl⟩
theorem wd_135 : (Cond.selects "PrefixCodes$Stream" ⟨"PrefixCodes$Stream", "appendNumber", "(II)V"⟩ ⟨"PrefixCodes$Stream", "appendNumber", "(II)V"⟩ : Cond) ∈ gW := List.mem_filter.mpr ⟨gt3 _ (List.mem_of_getElem? (i := 15) rfl), rfl⟩
theorem wd_136 : (Cond.code ⟨"PrefixCodes", "putBits", "(II)I"⟩ prog_1_method_33_code 3 (some .int) : Cond) ∈ gW := List.mem_filter.mpr ⟨gt3 _ (List.mem_of_getElem? (i := 12) rfl), rfl⟩
theorem wd_137 : (Cond.methodLink "PrefixCodes" 154 ⟨"PrefixCodes", "putBits", "(II)I"⟩ : Cond) ∈ gW := List.mem_filter.mpr ⟨gt3 _ (List.mem_of_getElem? (i := 9) rfl), rfl⟩
theorem wd_138 : (Cond.instanceMethod ⟨"PrefixCodes", "putBits", "(II)I"⟩ : Cond) ∈ gW := List.mem_filter.mpr ⟨gt3 _ (List.mem_of_getElem? (i := 11) rfl), rfl⟩
theorem wd_139 : (Cond.selects "PrefixCodes" ⟨"PrefixCodes", "putBits", "(II)I"⟩ ⟨"PrefixCodes", "putBits", "(II)I"⟩ : Cond) ∈ gW := List.mem_filter.mpr ⟨gp1 (⟨"PrefixCodes", "putBits", "(II)I"⟩, 10) (List.mem_of_getElem? (i := 13) rfl), rfl⟩
theorem wd_140 : (Cond.code ⟨"PrefixCodes$Stream", "removeFirst", "()I"⟩ prog_9_method_9_code 2 (some .int) : Cond) ∈ gW := List.mem_filter.mpr ⟨gt3 _ (List.mem_of_getElem? (i := 36) rfl), rfl⟩
theorem wd_141 : (Cond.methodLink "PrefixCodes$Stream" 43 ⟨"PrefixCodes$Stream", "removeFirst", "()I"⟩ : Cond) ∈ gW := List.mem_filter.mpr ⟨gt3 _ (List.mem_of_getElem? (i := 33) rfl), rfl⟩
theorem wd_142 : (Cond.instanceMethod ⟨"PrefixCodes$Stream", "removeFirst", "()I"⟩ : Cond) ∈ gW := List.mem_filter.mpr ⟨gt3 _ (List.mem_of_getElem? (i := 34) rfl), rfl⟩
theorem wd_143 : (Cond.selects "PrefixCodes$Stream" ⟨"PrefixCodes$Stream", "removeFirst", "()I"⟩ ⟨"PrefixCodes$Stream", "removeFirst", "()I"⟩ : Cond) ∈ gW := List.mem_filter.mpr ⟨gt3 _ (List.mem_of_getElem? (i := 35) rfl), rfl⟩
theorem wd_144 : (Cond.code ⟨"PrefixCodes$Stream", "removeNumber", "(I)I"⟩ prog_9_method_11_code 4 (some .int) : Cond) ∈ gW := List.mem_filter.mpr ⟨gt3 _ (List.mem_of_getElem? (i := 32) rfl), rfl⟩
theorem wd_145 : (Cond.methodLink "PrefixCodes" 158 ⟨"PrefixCodes$Stream", "removeNumber", "(I)I"⟩ : Cond) ∈ gW := List.mem_filter.mpr ⟨gt3 _ (List.mem_of_getElem? (i := 29) rfl), rfl⟩
theorem wd_146 : (Cond.instanceMethod ⟨"PrefixCodes$Stream", "removeNumber", "(I)I"⟩ : Cond) ∈ gW := List.mem_filter.mpr ⟨gt3 _ (List.mem_of_getElem? (i := 30) rfl), rfl⟩
theorem wd_147 : (Cond.selects "PrefixCodes$Stream" ⟨"PrefixCodes$Stream", "removeNumber", "(I)I"⟩ ⟨"PrefixCodes$Stream", "removeNumber", "(I)I"⟩ : Cond) ∈ gW := List.mem_filter.mpr ⟨gt3 _ (List.mem_of_getElem? (i := 31) rfl), rfl⟩
theorem wd_148 : (Cond.code ⟨"PrefixCodes$Stream", "at", "(I)I"⟩ prog_9_method_4_code 2 (some .int) : Cond) ∈ gW := List.mem_filter.mpr ⟨gt3 _ (List.mem_of_getElem? (i := 64) rfl), rfl⟩
theorem wd_149 : (Cond.methodLink "PrefixCodes$Stream" 40 ⟨"PrefixCodes$Stream", "at", "(I)I"⟩ : Cond) ∈ gW := List.mem_filter.mpr ⟨gt3 _ (List.mem_of_getElem? (i := 61) rfl), rfl⟩
theorem wd_150 : (Cond.instanceMethod ⟨"PrefixCodes$Stream", "at", "(I)I"⟩ : Cond) ∈ gW := List.mem_filter.mpr ⟨gt3 _ (List.mem_of_getElem? (i := 62) rfl), rfl⟩
theorem wd_151 : (Cond.selects "PrefixCodes$Stream" ⟨"PrefixCodes$Stream", "at", "(I)I"⟩ ⟨"PrefixCodes$Stream", "at", "(I)I"⟩ : Cond) ∈ gW := List.mem_filter.mpr ⟨gt3 _ (List.mem_of_getElem? (i := 63) rfl), rfl⟩
theorem wd_152 : (Cond.methodLink "PrefixCodes$Code" 71 ⟨"PrefixCodes$Stream", "removeFirst", "()I"⟩ : Cond) ∈ gW := List.mem_filter.mpr ⟨gt3 _ (List.mem_of_getElem? (i := 65) rfl), rfl⟩
theorem wd_153 : (Cond.code ⟨"PrefixCodes$Stream", "removeLast", "()I"⟩ prog_9_method_10_code 2 (some .int) : Cond) ∈ gW := List.mem_filter.mpr ⟨gt3 _ (List.mem_of_getElem? (i := 60) rfl), rfl⟩
theorem wd_154 : (Cond.methodLink "PrefixCodes$Code" 66 ⟨"PrefixCodes$Stream", "removeLast", "()I"⟩ : Cond) ∈ gW := List.mem_filter.mpr ⟨gt3 _ (List.mem_of_getElem? (i := 57) rfl), rfl⟩
theorem wd_155 : (Cond.instanceMethod ⟨"PrefixCodes$Stream", "removeLast", "()I"⟩ : Cond) ∈ gW := List.mem_filter.mpr ⟨gt3 _ (List.mem_of_getElem? (i := 58) rfl), rfl⟩
theorem wd_156 : (Cond.selects "PrefixCodes$Stream" ⟨"PrefixCodes$Stream", "removeLast", "()I"⟩ ⟨"PrefixCodes$Stream", "removeLast", "()I"⟩ : Cond) ∈ gW := List.mem_filter.mpr ⟨gt3 _ (List.mem_of_getElem? (i := 59) rfl), rfl⟩
theorem wd_157 : (Cond.code ⟨"PrefixCodes$Code", "canBeRead", "()Z"⟩ prog_3_method_8_code 1 (some .boolean) : Cond) ∈ gW := List.mem_filter.mpr ⟨gt3 _ (List.mem_of_getElem? (i := 52) rfl), rfl⟩
theorem wd_158 : (Cond.methodLink "PrefixCodes" 161 ⟨"PrefixCodes$Code", "canBeRead", "()Z"⟩ : Cond) ∈ gW := List.mem_filter.mpr ⟨gt3 _ (List.mem_of_getElem? (i := 49) rfl), rfl⟩
theorem wd_159 : (Cond.instanceMethod ⟨"PrefixCodes$Code", "canBeRead", "()Z"⟩ : Cond) ∈ gW := List.mem_filter.mpr ⟨gt3 _ (List.mem_of_getElem? (i := 50) rfl), rfl⟩
theorem wd_160 : (Cond.selects "PrefixCodes$Code" ⟨"PrefixCodes$Code", "canBeRead", "()Z"⟩ ⟨"PrefixCodes$Code", "canBeRead", "()Z"⟩ : Cond) ∈ gW := List.mem_filter.mpr ⟨gt3 _ (List.mem_of_getElem? (i := 51) rfl), rfl⟩
theorem wd_161 : (Cond.code ⟨"PrefixCodes$Code", "removeSymbol", "(LPrefixCodes$Stream;Z)I"⟩ prog_3_method_10_code 7 (some .int) : Cond) ∈ gW := List.mem_filter.mpr ⟨gt3 _ (List.mem_of_getElem? (i := 56) rfl), rfl⟩
theorem wd_162 : (Cond.methodLink "PrefixCodes" 165 ⟨"PrefixCodes$Code", "removeSymbol", "(LPrefixCodes$Stream;Z)I"⟩ : Cond) ∈ gW := List.mem_filter.mpr ⟨gt3 _ (List.mem_of_getElem? (i := 53) rfl), rfl⟩
theorem wd_163 : (Cond.instanceMethod ⟨"PrefixCodes$Code", "removeSymbol", "(LPrefixCodes$Stream;Z)I"⟩ : Cond) ∈ gW := List.mem_filter.mpr ⟨gt3 _ (List.mem_of_getElem? (i := 54) rfl), rfl⟩
theorem wd_164 : (Cond.selects "PrefixCodes$Code" ⟨"PrefixCodes$Code", "removeSymbol", "(LPrefixCodes$Stream;Z)I"⟩ ⟨"PrefixCodes$Code", "removeSymbol", "(LPrefixCodes$Stream;Z)I"⟩ : Cond) ∈ gW := List.mem_filter.mpr ⟨gt3 _ (List.mem_of_getElem? (i := 55) rfl), rfl⟩
theorem wd_165 : (Cond.fieldLink "PrefixCodes$Stream" 22 "PrefixCodes$Stream" "sizeAtBegin" "I" : Cond) ∈ gW := List.mem_filter.mpr ⟨gt1 _ (List.mem_of_getElem? (i := 40) rfl), rfl⟩
theorem wd_166 : (Cond.fieldLink "PrefixCodes$Manners" 40 "PrefixCodes$Code" "symbols" "I" : Cond) ∈ gW := List.mem_filter.mpr ⟨gt1 _ (List.mem_of_getElem? (i := 104) rfl), rfl⟩
theorem wd_167 : (Cond.fieldLink "PrefixCodes$Manners" 15 "PrefixCodes$Manners" "stream" "LPrefixCodes$Stream;" : Cond) ∈ gW := List.mem_filter.mpr ⟨gt1 _ (List.mem_of_getElem? (i := 178) rfl), rfl⟩
theorem wd_168 : (Cond.fieldLink "PrefixCodes$Manners" 35 "PrefixCodes$Code" "lengths" "[I" : Cond) ∈ gW := List.mem_filter.mpr ⟨gt1 _ (List.mem_of_getElem? (i := 108) rfl), rfl⟩
theorem wd_169 : (Cond.methodLink "PrefixCodes$Manners" 59 ⟨"PrefixCodes$Stream", "appendNumber", "(II)V"⟩ : Cond) ∈ gW := List.mem_filter.mpr ⟨gt3 _ (List.mem_of_getElem? (i := 82) rfl), rfl⟩
theorem wd_170 : (Cond.methodLink "PrefixCodes$Manners" 68 ⟨"PrefixCodes$Stream", "append", "(I)V"⟩ : Cond) ∈ gW := List.mem_filter.mpr ⟨gt3 _ (List.mem_of_getElem? (i := 87) rfl), rfl⟩
theorem wd_171 : (Cond.fieldLink "PrefixCodes$Commands" 67 "PrefixCodes$Commands" "SHORTEST_RUN" "[I" : Cond) ∈ gW := List.mem_filter.mpr ⟨gt3 _ (List.mem_of_getElem? (i := 103) rfl), rfl⟩
theorem wd_172 : (Cond.code ⟨"PrefixCodes$Commands", "runFrom", "([III)I"⟩ prog_4_method_5_code 4 (some .int) : Cond) ∈ gW := List.mem_filter.mpr ⟨gt3 _ (List.mem_of_getElem? (i := 102) rfl), rfl⟩
theorem wd_173 : (Cond.methodLink "PrefixCodes$Commands" 82 ⟨"PrefixCodes$Commands", "runFrom", "([III)I"⟩ : Cond) ∈ gW := List.mem_filter.mpr ⟨gt3 _ (List.mem_of_getElem? (i := 100) rfl), rfl⟩
theorem wd_174 : (Cond.initialized "PrefixCodes$Commands" : Cond) ∈ gW := List.mem_filter.mpr ⟨gt1 _ (List.mem_of_getElem? (i := 5) rfl), rfl⟩
theorem wd_175 : (Cond.static ⟨"PrefixCodes$Commands", "runFrom", "([III)I"⟩ : Cond) ∈ gW := List.mem_filter.mpr ⟨gt3 _ (List.mem_of_getElem? (i := 101) rfl), rfl⟩
theorem wd_176 : (Cond.fieldLink "PrefixCodes$Commands" 30 "PrefixCodes$Commands" "size" "I" : Cond) ∈ gW := List.mem_filter.mpr ⟨gt1 _ (List.mem_of_getElem? (i := 162) rfl), rfl⟩
theorem wd_177 : (Cond.fieldLink "PrefixCodes$Commands" 20 "PrefixCodes$Commands" "often" "[I" : Cond) ∈ gW := List.mem_filter.mpr ⟨gt1 _ (List.mem_of_getElem? (i := 159) rfl), rfl⟩
theorem wd_178 : (Cond.fieldLink "PrefixCodes$Commands" 24 "PrefixCodes$Commands" "row" "[I" : Cond) ∈ gW := List.mem_filter.mpr ⟨gt1 _ (List.mem_of_getElem? (i := 160) rfl), rfl⟩
theorem wd_179 : (Cond.fieldLink "PrefixCodes$Commands" 27 "PrefixCodes$Commands" "runs" "[I" : Cond) ∈ gW := List.mem_filter.mpr ⟨gt1 _ (List.mem_of_getElem? (i := 161) rfl), rfl⟩
theorem wd_180 : (Cond.methodLink "PrefixCodes$Commands" 94 ⟨"java/lang/Math", "max", "(II)I"⟩ : Cond) ∈ gW := List.mem_filter.mpr ⟨gt3 _ (List.mem_of_getElem? (i := 110) rfl), rfl⟩
theorem wd_181 : (Cond.static ⟨"java/lang/Math", "max", "(II)I"⟩ : Cond) ∈ gW := List.mem_filter.mpr ⟨gt3 _ (List.mem_of_getElem? (i := 111) rfl), rfl⟩
theorem wd_182 : (Cond.initialized "java/lang/Math" : Cond) ∈ gW := List.mem_filter.mpr ⟨gt1 _ (List.mem_of_getElem? (i := 18) rfl), rfl⟩
theorem wd_183 : (Cond.code ⟨"java/lang/Math", "max", "(II)I"⟩ prog_16_method_65_code 2 (some .int) : Cond) ∈ gW := List.mem_filter.mpr ⟨gt3 _ (List.mem_of_getElem? (i := 112) rfl), rfl⟩
theorem wd_184 : (Cond.fieldLink "PrefixCodes$Commands" 85 "PrefixCodes$Commands" "LONGEST_RUN" "[I" : Cond) ∈ gW := List.mem_filter.mpr ⟨gt3 _ (List.mem_of_getElem? (i := 105) rfl), rfl⟩
theorem wd_185 : (Cond.methodLink "PrefixCodes$Commands" 88 ⟨"java/lang/Math", "min", "(II)I"⟩ : Cond) ∈ gW := List.mem_filter.mpr ⟨gt3 _ (List.mem_of_getElem? (i := 107) rfl), rfl⟩
theorem wd_186 : (Cond.static ⟨"java/lang/Math", "min", "(II)I"⟩ : Cond) ∈ gW := List.mem_filter.mpr ⟨gt3 _ (List.mem_of_getElem? (i := 108) rfl), rfl⟩
theorem wd_187 : (Cond.code ⟨"java/lang/Math", "min", "(II)I"⟩ prog_16_method_69_code 2 (some .int) : Cond) ∈ gW := List.mem_filter.mpr ⟨gt3 _ (List.mem_of_getElem? (i := 109) rfl), rfl⟩
theorem wd_188 : (Cond.methodLink "PrefixCodes$Commands" 73 ⟨"java/util/Arrays", "fill", "([II)V"⟩ : Cond) ∈ gW := List.mem_filter.mpr ⟨gt3 _ (List.mem_of_getElem? (i := 96) rfl), rfl⟩
theorem wd_189 : (Cond.code ⟨"PrefixCodes$Commands", "commandAt", "([III)I"⟩ prog_4_method_4_code 6 (some .int) : Cond) ∈ gW := List.mem_filter.mpr ⟨gt3 _ (List.mem_of_getElem? (i := 99) rfl), rfl⟩
theorem wd_190 : (Cond.methodLink "PrefixCodes$Commands" 78 ⟨"PrefixCodes$Commands", "commandAt", "([III)I"⟩ : Cond) ∈ gW := List.mem_filter.mpr ⟨gt3 _ (List.mem_of_getElem? (i := 97) rfl), rfl⟩
theorem wd_191 : (Cond.static ⟨"PrefixCodes$Commands", "commandAt", "([III)I"⟩ : Cond) ∈ gW := List.mem_filter.mpr ⟨gt3 _ (List.mem_of_getElem? (i := 98) rfl), rfl⟩
theorem wd_192 : (Cond.fieldLink "PrefixCodes$Commands" 16 "PrefixCodes$Commands" "code" "LPrefixCodes$Code;" : Cond) ∈ gW := List.mem_filter.mpr ⟨gt1 _ (List.mem_of_getElem? (i := 158) rfl), rfl⟩
theorem wd_193 : (Cond.fieldLink "PrefixCodes$Commands" 58 "PrefixCodes$Code" "lengths" "[I" : Cond) ∈ gW := List.mem_filter.mpr ⟨gt1 _ (List.mem_of_getElem? (i := 110) rfl), rfl⟩
theorem wd_194 : (Cond.fieldLink "PrefixCodes$Commands" 97 "PrefixCodes$Commands" "TELLING_ORDER" "[I" : Cond) ∈ gW := List.mem_filter.mpr ⟨gt3 _ (List.mem_of_getElem? (i := 118) rfl), rfl⟩
theorem wd_195 : (Cond.fieldLink "PrefixCodes$Commands" 34 "PrefixCodes$Commands" "stream" "LPrefixCodes$Stream;" : Cond) ∈ gW := List.mem_filter.mpr ⟨gt1 _ (List.mem_of_getElem? (i := 156) rfl), rfl⟩
theorem wd_196 : (Cond.methodLink "PrefixCodes$Commands" 61 ⟨"PrefixCodes$Stream", "appendNumber", "(II)V"⟩ : Cond) ∈ gW := List.mem_filter.mpr ⟨gt3 _ (List.mem_of_getElem? (i := 120) rfl), rfl⟩
theorem wd_197 : (Cond.fieldLink "PrefixCodes$Commands" 38 "PrefixCodes$Commands" "packages" "LPrefixCodes$Packages;" : Cond) ∈ gW := List.mem_filter.mpr ⟨gt1 _ (List.mem_of_getElem? (i := 157) rfl), rfl⟩
theorem wd_198 : (Cond.fieldLink "PrefixCodes$Commands" 55 "PrefixCodes$Code" "words" "[I" : Cond) ∈ gW := List.mem_filter.mpr ⟨gt1 _ (List.mem_of_getElem? (i := 114) rfl), rfl⟩
theorem wd_199 : (Cond.fieldLink "PrefixCodes$Commands" 70 "PrefixCodes$Commands" "RUN_BITS" "[I" : Cond) ∈ gW := List.mem_filter.mpr ⟨gt3 _ (List.mem_of_getElem? (i := 121) rfl), rfl⟩
theorem wd_200 : (Cond.code ⟨"PrefixCodes$Commands", "gather", "([II)V"⟩ prog_4_method_3_code 6 none : Cond) ∈ gW := List.mem_filter.mpr ⟨gt3 _ (List.mem_of_getElem? (i := 95) rfl), rfl⟩
theorem wd_201 : (Cond.methodLink "PrefixCodes$Commands" 42 ⟨"PrefixCodes$Commands", "gather", "([II)V"⟩ : Cond) ∈ gW := List.mem_filter.mpr ⟨gt3 _ (List.mem_of_getElem? (i := 92) rfl), rfl⟩
theorem wd_202 : (Cond.instanceMethod ⟨"PrefixCodes$Commands", "gather", "([II)V"⟩ : Cond) ∈ gW := List.mem_filter.mpr ⟨gt3 _ (List.mem_of_getElem? (i := 94) rfl), rfl⟩
theorem wd_203 : (Cond.selects "PrefixCodes$Commands" ⟨"PrefixCodes$Commands", "gather", "([II)V"⟩ ⟨"PrefixCodes$Commands", "gather", "([II)V"⟩ : Cond) ∈ gW := List.mem_filter.mpr ⟨gp2 (⟨"PrefixCodes$Commands", "gather", "([II)V"⟩, 7) (List.mem_of_getElem? (i := 2) rfl), rfl⟩
theorem wd_204 : (Cond.code ⟨"PrefixCodes$Packages", "fit", "([IILPrefixCodes$Code;)V"⟩ prog_6_method_2_code 5 none : Cond) ∈ gW := List.mem_filter.mpr ⟨gt2 _ (List.mem_of_getElem? (i := 209) rfl), rfl⟩
theorem wd_205 : (Cond.methodLink "PrefixCodes$Commands" 46 ⟨"PrefixCodes$Packages", "fit", "([IILPrefixCodes$Code;)V"⟩ : Cond) ∈ gW := List.mem_filter.mpr ⟨gt3 _ (List.mem_of_getElem? (i := 113) rfl), rfl⟩
theorem wd_206 : (Cond.instanceMethod ⟨"PrefixCodes$Packages", "fit", "([IILPrefixCodes$Code;)V"⟩ : Cond) ∈ gW := List.mem_filter.mpr ⟨gt2 _ (List.mem_of_getElem? (i := 207) rfl), rfl⟩
theorem wd_207 : (Cond.selects "PrefixCodes$Packages" ⟨"PrefixCodes$Packages", "fit", "([IILPrefixCodes$Code;)V"⟩ ⟨"PrefixCodes$Packages", "fit", "([IILPrefixCodes$Code;)V"⟩ : Cond) ∈ gW := List.mem_filter.mpr ⟨gt2 _ (List.mem_of_getElem? (i := 208) rfl), rfl⟩
theorem wd_208 : (Cond.code ⟨"PrefixCodes$Commands", "appendCode", "()V"⟩ prog_4_method_6_code 3 none : Cond) ∈ gW := List.mem_filter.mpr ⟨gt3 _ (List.mem_of_getElem? (i := 117) rfl), rfl⟩
theorem wd_209 : (Cond.methodLink "PrefixCodes$Commands" 52 ⟨"PrefixCodes$Commands", "appendCode", "()V"⟩ : Cond) ∈ gW := List.mem_filter.mpr ⟨gt3 _ (List.mem_of_getElem? (i := 114) rfl), rfl⟩
theorem wd_210 : (Cond.instanceMethod ⟨"PrefixCodes$Commands", "appendCode", "()V"⟩ : Cond) ∈ gW := List.mem_filter.mpr ⟨gt3 _ (List.mem_of_getElem? (i := 116) rfl), rfl⟩
theorem wd_211 : (Cond.selects "PrefixCodes$Commands" ⟨"PrefixCodes$Commands", "appendCode", "()V"⟩ ⟨"PrefixCodes$Commands", "appendCode", "()V"⟩ : Cond) ∈ gW := List.mem_filter.mpr ⟨gp2 (⟨"PrefixCodes$Commands", "appendCode", "()V"⟩, 7) (List.mem_of_getElem? (i := 3) rfl), rfl⟩
theorem wd_212 : (Cond.fieldLink "PrefixCodes$Manners" 24 "PrefixCodes$Manners" "commands" "LPrefixCodes$Commands;" : Cond) ∈ gW := List.mem_filter.mpr ⟨gt1 _ (List.mem_of_getElem? (i := 179) rfl), rfl⟩
theorem wd_213 : (Cond.code ⟨"PrefixCodes$Manners", "appendPlain", "(LPrefixCodes$Code;)V"⟩ prog_5_method_4_code 3 none : Cond) ∈ gW := List.mem_filter.mpr ⟨gt3 _ (List.mem_of_getElem? (i := 81) rfl), rfl⟩
theorem wd_214 : (Cond.methodLink "PrefixCodes$Manners" 28 ⟨"PrefixCodes$Manners", "appendPlain", "(LPrefixCodes$Code;)V"⟩ : Cond) ∈ gW := List.mem_filter.mpr ⟨gt3 _ (List.mem_of_getElem? (i := 78) rfl), rfl⟩
theorem wd_215 : (Cond.initialized "PrefixCodes$Manners" : Cond) ∈ gW := List.mem_filter.mpr ⟨gt1 _ (List.mem_of_getElem? (i := 4) rfl), rfl⟩
theorem wd_216 : (Cond.instanceMethod ⟨"PrefixCodes$Manners", "appendPlain", "(LPrefixCodes$Code;)V"⟩ : Cond) ∈ gW := List.mem_filter.mpr ⟨gt3 _ (List.mem_of_getElem? (i := 80) rfl), rfl⟩
theorem wd_217 : (Cond.selects "PrefixCodes$Manners" ⟨"PrefixCodes$Manners", "appendPlain", "(LPrefixCodes$Code;)V"⟩ ⟨"PrefixCodes$Manners", "appendPlain", "(LPrefixCodes$Code;)V"⟩ : Cond) ∈ gW := List.mem_filter.mpr ⟨gp2 (⟨"PrefixCodes$Manners", "appendPlain", "(LPrefixCodes$Code;)V"⟩, 3) (List.mem_of_getElem? (i := 0) rfl), rfl⟩
theorem wd_218 : (Cond.code ⟨"PrefixCodes$Manners", "appendSteps", "(LPrefixCodes$Code;)V"⟩ prog_5_method_6_code 6 none : Cond) ∈ gW := List.mem_filter.mpr ⟨gt3 _ (List.mem_of_getElem? (i := 86) rfl), rfl⟩
theorem wd_219 : (Cond.methodLink "PrefixCodes$Manners" 32 ⟨"PrefixCodes$Manners", "appendSteps", "(LPrefixCodes$Code;)V"⟩ : Cond) ∈ gW := List.mem_filter.mpr ⟨gt3 _ (List.mem_of_getElem? (i := 83) rfl), rfl⟩
theorem wd_220 : (Cond.instanceMethod ⟨"PrefixCodes$Manners", "appendSteps", "(LPrefixCodes$Code;)V"⟩ : Cond) ∈ gW := List.mem_filter.mpr ⟨gt3 _ (List.mem_of_getElem? (i := 85) rfl), rfl⟩
theorem wd_221 : (Cond.selects "PrefixCodes$Manners" ⟨"PrefixCodes$Manners", "appendSteps", "(LPrefixCodes$Code;)V"⟩ ⟨"PrefixCodes$Manners", "appendSteps", "(LPrefixCodes$Code;)V"⟩ : Cond) ∈ gW := List.mem_filter.mpr ⟨gp2 (⟨"PrefixCodes$Manners", "appendSteps", "(LPrefixCodes$Code;)V"⟩, 3) (List.mem_of_getElem? (i := 1) rfl), rfl⟩
theorem wd_222 : (Cond.code ⟨"PrefixCodes$Commands", "append", "([II)V"⟩ prog_4_method_2_code 6 none : Cond) ∈ gW := List.mem_filter.mpr ⟨gt3 _ (List.mem_of_getElem? (i := 91) rfl), rfl⟩
theorem wd_223 : (Cond.methodLink "PrefixCodes$Manners" 44 ⟨"PrefixCodes$Commands", "append", "([II)V"⟩ : Cond) ∈ gW := List.mem_filter.mpr ⟨gt3 _ (List.mem_of_getElem? (i := 88) rfl), rfl⟩
theorem wd_224 : (Cond.instanceMethod ⟨"PrefixCodes$Commands", "append", "([II)V"⟩ : Cond) ∈ gW := List.mem_filter.mpr ⟨gt3 _ (List.mem_of_getElem? (i := 89) rfl), rfl⟩
theorem wd_225 : (Cond.selects "PrefixCodes$Commands" ⟨"PrefixCodes$Commands", "append", "([II)V"⟩ ⟨"PrefixCodes$Commands", "append", "([II)V"⟩ : Cond) ∈ gW := List.mem_filter.mpr ⟨gt3 _ (List.mem_of_getElem? (i := 90) rfl), rfl⟩
theorem wd_226 : (Cond.fieldLink "PrefixCodes" 42 "PrefixCodes" "manners" "LPrefixCodes$Manners;" : Cond) ∈ gW := List.mem_filter.mpr ⟨gt2 _ (List.mem_of_getElem? (i := 94) rfl), rfl⟩
theorem wd_227 : (Cond.code ⟨"PrefixCodes$Stream", "begin", "()V"⟩ prog_9_method_5_code 1 none : Cond) ∈ gW := List.mem_filter.mpr ⟨gt3 _ (List.mem_of_getElem? (i := 73) rfl), rfl⟩
theorem wd_228 : (Cond.methodLink "PrefixCodes" 169 ⟨"PrefixCodes$Stream", "begin", "()V"⟩ : Cond) ∈ gW := List.mem_filter.mpr ⟨gt3 _ (List.mem_of_getElem? (i := 70) rfl), rfl⟩
theorem wd_229 : (Cond.instanceMethod ⟨"PrefixCodes$Stream", "begin", "()V"⟩ : Cond) ∈ gW := List.mem_filter.mpr ⟨gt3 _ (List.mem_of_getElem? (i := 71) rfl), rfl⟩
theorem wd_230 : (Cond.selects "PrefixCodes$Stream" ⟨"PrefixCodes$Stream", "begin", "()V"⟩ ⟨"PrefixCodes$Stream", "begin", "()V"⟩ : Cond) ∈ gW := List.mem_filter.mpr ⟨gt3 _ (List.mem_of_getElem? (i := 72) rfl), rfl⟩
theorem wd_231 : (Cond.code ⟨"PrefixCodes$Manners", "append", "(LPrefixCodes$Code;I)V"⟩ prog_5_method_2_code 3 none : Cond) ∈ gW := List.mem_filter.mpr ⟨gt3 _ (List.mem_of_getElem? (i := 77) rfl), rfl⟩
theorem wd_232 : (Cond.methodLink "PrefixCodes" 172 ⟨"PrefixCodes$Manners", "append", "(LPrefixCodes$Code;I)V"⟩ : Cond) ∈ gW := List.mem_filter.mpr ⟨gt3 _ (List.mem_of_getElem? (i := 74) rfl), rfl⟩
theorem wd_233 : (Cond.instanceMethod ⟨"PrefixCodes$Manners", "append", "(LPrefixCodes$Code;I)V"⟩ : Cond) ∈ gW := List.mem_filter.mpr ⟨gt3 _ (List.mem_of_getElem? (i := 75) rfl), rfl⟩
theorem wd_234 : (Cond.selects "PrefixCodes$Manners" ⟨"PrefixCodes$Manners", "append", "(LPrefixCodes$Code;I)V"⟩ ⟨"PrefixCodes$Manners", "append", "(LPrefixCodes$Code;I)V"⟩ : Cond) ∈ gW := List.mem_filter.mpr ⟨gt3 _ (List.mem_of_getElem? (i := 76) rfl), rfl⟩
theorem wd_235 : (Cond.code ⟨"PrefixCodes$Stream", "settle", "()I"⟩ prog_9_method_6_code 1 (some .int) : Cond) ∈ gW := List.mem_filter.mpr ⟨gt3 _ (List.mem_of_getElem? (i := 126) rfl), rfl⟩
theorem wd_236 : (Cond.methodLink "PrefixCodes" 176 ⟨"PrefixCodes$Stream", "settle", "()I"⟩ : Cond) ∈ gW := List.mem_filter.mpr ⟨gt3 _ (List.mem_of_getElem? (i := 123) rfl), rfl⟩
theorem wd_237 : (Cond.instanceMethod ⟨"PrefixCodes$Stream", "settle", "()I"⟩ : Cond) ∈ gW := List.mem_filter.mpr ⟨gt3 _ (List.mem_of_getElem? (i := 124) rfl), rfl⟩
theorem wd_238 : (Cond.selects "PrefixCodes$Stream" ⟨"PrefixCodes$Stream", "settle", "()I"⟩ ⟨"PrefixCodes$Stream", "settle", "()I"⟩ : Cond) ∈ gW := List.mem_filter.mpr ⟨gt3 _ (List.mem_of_getElem? (i := 125) rfl), rfl⟩
theorem wd_239 : (Cond.fieldLink "PrefixCodes$Manners" 9 "PrefixCodes$Manners" "found" "[I" : Cond) ∈ gW := List.mem_filter.mpr ⟨gt1 _ (List.mem_of_getElem? (i := 180) rfl), rfl⟩
theorem wd_240 : (Cond.methodLink "PrefixCodes$Manners" 65 ⟨"PrefixCodes$Stream", "removeNumber", "(I)I"⟩ : Cond) ∈ gW := List.mem_filter.mpr ⟨gt3 _ (List.mem_of_getElem? (i := 139) rfl), rfl⟩
theorem wd_241 : (Cond.methodLink "PrefixCodes$Manners" 74 ⟨"PrefixCodes$Stream", "removeFirst", "()I"⟩ : Cond) ∈ gW := List.mem_filter.mpr ⟨gt3 _ (List.mem_of_getElem? (i := 148) rfl), rfl⟩
theorem wd_242 : (Cond.code ⟨"PrefixCodes$Manners", "stepsFrom", "(I)I"⟩ prog_5_method_8_code 6 (some .int) : Cond) ∈ gW := List.mem_filter.mpr ⟨gt3 _ (List.mem_of_getElem? (i := 147) rfl), rfl⟩
theorem wd_243 : (Cond.methodLink "PrefixCodes$Manners" 71 ⟨"PrefixCodes$Manners", "stepsFrom", "(I)I"⟩ : Cond) ∈ gW := List.mem_filter.mpr ⟨gt3 _ (List.mem_of_getElem? (i := 144) rfl), rfl⟩
theorem wd_244 : (Cond.instanceMethod ⟨"PrefixCodes$Manners", "stepsFrom", "(I)I"⟩ : Cond) ∈ gW := List.mem_filter.mpr ⟨gt3 _ (List.mem_of_getElem? (i := 146) rfl), rfl⟩
theorem wd_245 : (Cond.selects "PrefixCodes$Manners" ⟨"PrefixCodes$Manners", "stepsFrom", "(I)I"⟩ ⟨"PrefixCodes$Manners", "stepsFrom", "(I)I"⟩ : Cond) ∈ gW := List.mem_filter.mpr ⟨gp2 (⟨"PrefixCodes$Manners", "stepsFrom", "(I)I"⟩, 3) (List.mem_of_getElem? (i := 6) rfl), rfl⟩
theorem wd_246 : (Cond.fieldLink "PrefixCodes$Commands" 114 "PrefixCodes$Code" "kind" "I" : Cond) ∈ gW := List.mem_filter.mpr ⟨gt1 _ (List.mem_of_getElem? (i := 132) rfl), rfl⟩
theorem wd_247 : (Cond.methodLink "PrefixCodes$Commands" 107 ⟨"PrefixCodes$Stream", "removeNumber", "(I)I"⟩ : Cond) ∈ gW := List.mem_filter.mpr ⟨gt3 _ (List.mem_of_getElem? (i := 158) rfl), rfl⟩
theorem wd_248 : (Cond.methodLink "PrefixCodes$Commands" 111 ⟨"PrefixCodes$Code", "renumber", "()V"⟩ : Cond) ∈ gW := List.mem_filter.mpr ⟨gt3 _ (List.mem_of_getElem? (i := 159) rfl), rfl⟩
theorem wd_249 : (Cond.methodLink "PrefixCodes$Commands" 117 ⟨"PrefixCodes$Code", "removeSymbol", "(LPrefixCodes$Stream;Z)I"⟩ : Cond) ∈ gW := List.mem_filter.mpr ⟨gt3 _ (List.mem_of_getElem? (i := 164) rfl), rfl⟩
theorem wd_250 : (Cond.code ⟨"PrefixCodes$Commands", "removeCode", "()I"⟩ prog_4_method_8_code 4 (some .int) : Cond) ∈ gW := List.mem_filter.mpr ⟨gt3 _ (List.mem_of_getElem? (i := 157) rfl), rfl⟩
theorem wd_251 : (Cond.methodLink "PrefixCodes$Commands" 100 ⟨"PrefixCodes$Commands", "removeCode", "()I"⟩ : Cond) ∈ gW := List.mem_filter.mpr ⟨gt3 _ (List.mem_of_getElem? (i := 154) rfl), rfl⟩
theorem wd_252 : (Cond.instanceMethod ⟨"PrefixCodes$Commands", "removeCode", "()I"⟩ : Cond) ∈ gW := List.mem_filter.mpr ⟨gt3 _ (List.mem_of_getElem? (i := 156) rfl), rfl⟩
theorem wd_253 : (Cond.selects "PrefixCodes$Commands" ⟨"PrefixCodes$Commands", "removeCode", "()I"⟩ ⟨"PrefixCodes$Commands", "removeCode", "()I"⟩ : Cond) ∈ gW := List.mem_filter.mpr ⟨gp2 (⟨"PrefixCodes$Commands", "removeCode", "()I"⟩, 7) (List.mem_of_getElem? (i := 7) rfl), rfl⟩
theorem wd_254 : (Cond.code ⟨"PrefixCodes$Commands", "removeCommand", "([III)I"⟩ prog_4_method_9_code 9 (some .int) : Cond) ∈ gW := List.mem_filter.mpr ⟨gt3 _ (List.mem_of_getElem? (i := 163) rfl), rfl⟩
theorem wd_255 : (Cond.methodLink "PrefixCodes$Commands" 104 ⟨"PrefixCodes$Commands", "removeCommand", "([III)I"⟩ : Cond) ∈ gW := List.mem_filter.mpr ⟨gt3 _ (List.mem_of_getElem? (i := 160) rfl), rfl⟩
theorem wd_256 : (Cond.instanceMethod ⟨"PrefixCodes$Commands", "removeCommand", "([III)I"⟩ : Cond) ∈ gW := List.mem_filter.mpr ⟨gt3 _ (List.mem_of_getElem? (i := 162) rfl), rfl⟩
theorem wd_257 : (Cond.selects "PrefixCodes$Commands" ⟨"PrefixCodes$Commands", "removeCommand", "([III)I"⟩ ⟨"PrefixCodes$Commands", "removeCommand", "([III)I"⟩ : Cond) ∈ gW := List.mem_filter.mpr ⟨gp2 (⟨"PrefixCodes$Commands", "removeCommand", "([III)I"⟩, 7) (List.mem_of_getElem? (i := 8) rfl), rfl⟩
theorem wd_258 : (Cond.code ⟨"PrefixCodes$Manners", "removePlain", "(I)I"⟩ prog_5_method_5_code 4 (some .int) : Cond) ∈ gW := List.mem_filter.mpr ⟨gt3 _ (List.mem_of_getElem? (i := 138) rfl), rfl⟩
theorem wd_259 : (Cond.methodLink "PrefixCodes$Manners" 48 ⟨"PrefixCodes$Manners", "removePlain", "(I)I"⟩ : Cond) ∈ gW := List.mem_filter.mpr ⟨gt3 _ (List.mem_of_getElem? (i := 135) rfl), rfl⟩
theorem wd_260 : (Cond.instanceMethod ⟨"PrefixCodes$Manners", "removePlain", "(I)I"⟩ : Cond) ∈ gW := List.mem_filter.mpr ⟨gt3 _ (List.mem_of_getElem? (i := 137) rfl), rfl⟩
theorem wd_261 : (Cond.selects "PrefixCodes$Manners" ⟨"PrefixCodes$Manners", "removePlain", "(I)I"⟩ ⟨"PrefixCodes$Manners", "removePlain", "(I)I"⟩ : Cond) ∈ gW := List.mem_filter.mpr ⟨gp2 (⟨"PrefixCodes$Manners", "removePlain", "(I)I"⟩, 3) (List.mem_of_getElem? (i := 4) rfl), rfl⟩
theorem wd_262 : (Cond.code ⟨"PrefixCodes$Manners", "removeSteps", "(I)I"⟩ prog_5_method_7_code 4 (some .int) : Cond) ∈ gW := List.mem_filter.mpr ⟨gt3 _ (List.mem_of_getElem? (i := 143) rfl), rfl⟩
theorem wd_263 : (Cond.methodLink "PrefixCodes$Manners" 52 ⟨"PrefixCodes$Manners", "removeSteps", "(I)I"⟩ : Cond) ∈ gW := List.mem_filter.mpr ⟨gt3 _ (List.mem_of_getElem? (i := 140) rfl), rfl⟩
theorem wd_264 : (Cond.instanceMethod ⟨"PrefixCodes$Manners", "removeSteps", "(I)I"⟩ : Cond) ∈ gW := List.mem_filter.mpr ⟨gt3 _ (List.mem_of_getElem? (i := 142) rfl), rfl⟩
theorem wd_265 : (Cond.selects "PrefixCodes$Manners" ⟨"PrefixCodes$Manners", "removeSteps", "(I)I"⟩ ⟨"PrefixCodes$Manners", "removeSteps", "(I)I"⟩ : Cond) ∈ gW := List.mem_filter.mpr ⟨gp2 (⟨"PrefixCodes$Manners", "removeSteps", "(I)I"⟩, 3) (List.mem_of_getElem? (i := 5) rfl), rfl⟩
theorem wd_266 : (Cond.code ⟨"PrefixCodes$Commands", "remove", "([II)I"⟩ prog_4_method_7_code 6 (some .int) : Cond) ∈ gW := List.mem_filter.mpr ⟨gt3 _ (List.mem_of_getElem? (i := 153) rfl), rfl⟩
theorem wd_267 : (Cond.methodLink "PrefixCodes$Manners" 55 ⟨"PrefixCodes$Commands", "remove", "([II)I"⟩ : Cond) ∈ gW := List.mem_filter.mpr ⟨gt3 _ (List.mem_of_getElem? (i := 150) rfl), rfl⟩
theorem wd_268 : (Cond.instanceMethod ⟨"PrefixCodes$Commands", "remove", "([II)I"⟩ : Cond) ∈ gW := List.mem_filter.mpr ⟨gt3 _ (List.mem_of_getElem? (i := 151) rfl), rfl⟩
theorem wd_269 : (Cond.selects "PrefixCodes$Commands" ⟨"PrefixCodes$Commands", "remove", "([II)I"⟩ ⟨"PrefixCodes$Commands", "remove", "([II)I"⟩ : Cond) ∈ gW := List.mem_filter.mpr ⟨gt3 _ (List.mem_of_getElem? (i := 152) rfl), rfl⟩
theorem wd_270 : (Cond.fieldLink "PrefixCodes$Table" 31 "PrefixCodes$Table" "parts" "I" : Cond) ∈ gW := List.mem_filter.mpr ⟨gt1 _ (List.mem_of_getElem? (i := 202) rfl), rfl⟩
theorem wd_271 : (Cond.fieldLink "PrefixCodes$Table" 34 "PrefixCodes$Table" "prefixes" "[I" : Cond) ∈ gW := List.mem_filter.mpr ⟨gt1 _ (List.mem_of_getElem? (i := 203) rfl), rfl⟩
theorem wd_272 : (Cond.fieldLink "PrefixCodes$Table" 37 "PrefixCodes$Table" "partBits" "[I" : Cond) ∈ gW := List.mem_filter.mpr ⟨gt1 _ (List.mem_of_getElem? (i := 204) rfl), rfl⟩
theorem wd_273 : (Cond.fieldLink "PrefixCodes$Table" 9 "PrefixCodes$Table" "root" "I" : Cond) ∈ gW := List.mem_filter.mpr ⟨gt1 _ (List.mem_of_getElem? (i := 195) rfl), rfl⟩
theorem wd_274 : (Cond.fieldLink "PrefixCodes$Table" 43 "PrefixCodes$Code" "having" "I" : Cond) ∈ gW := List.mem_filter.mpr ⟨gt1 _ (List.mem_of_getElem? (i := 126) rfl), rfl⟩
theorem wd_275 : (Cond.fieldLink "PrefixCodes$Table" 18 "PrefixCodes$Table" "words" "I" : Cond) ∈ gW := List.mem_filter.mpr ⟨gt1 _ (List.mem_of_getElem? (i := 198) rfl), rfl⟩
theorem wd_276 : (Cond.fieldLink "PrefixCodes$Table" 48 "PrefixCodes$Code" "ordered" "[I" : Cond) ∈ gW := List.mem_filter.mpr ⟨gt1 _ (List.mem_of_getElem? (i := 119) rfl), rfl⟩
theorem wd_277 : (Cond.fieldLink "PrefixCodes$Table" 21 "PrefixCodes$Table" "symbols" "[I" : Cond) ∈ gW := List.mem_filter.mpr ⟨gt1 _ (List.mem_of_getElem? (i := 199) rfl), rfl⟩
theorem wd_278 : (Cond.fieldLink "PrefixCodes$Table" 25 "PrefixCodes$Table" "lengths" "[I" : Cond) ∈ gW := List.mem_filter.mpr ⟨gt1 _ (List.mem_of_getElem? (i := 200) rfl), rfl⟩
theorem wd_279 : (Cond.fieldLink "PrefixCodes$Table" 51 "PrefixCodes$Code" "lengths" "[I" : Cond) ∈ gW := List.mem_filter.mpr ⟨gt1 _ (List.mem_of_getElem? (i := 109) rfl), rfl⟩
theorem wd_280 : (Cond.fieldLink "PrefixCodes$Table" 28 "PrefixCodes$Table" "numbers" "[I" : Cond) ∈ gW := List.mem_filter.mpr ⟨gt1 _ (List.mem_of_getElem? (i := 201) rfl), rfl⟩
theorem wd_281 : (Cond.fieldLink "PrefixCodes$Table" 52 "PrefixCodes$Code" "words" "[I" : Cond) ∈ gW := List.mem_filter.mpr ⟨gt1 _ (List.mem_of_getElem? (i := 115) rfl), rfl⟩
theorem wd_282 : (Cond.fieldLink "PrefixCodes$Table" 15 "PrefixCodes$Table" "entries" "I" : Cond) ∈ gW := List.mem_filter.mpr ⟨gt1 _ (List.mem_of_getElem? (i := 196) rfl), rfl⟩
theorem wd_283 : (Cond.fieldLink "PrefixCodes$Table" 40 "PrefixCodes$Table" "starts" "[I" : Cond) ∈ gW := List.mem_filter.mpr ⟨gt1 _ (List.mem_of_getElem? (i := 205) rfl), rfl⟩
theorem wd_284 : (Cond.code ⟨"PrefixCodes$Table", "extendParts", "(II)V"⟩ prog_10_method_3_code 3 none : Cond) ∈ gW := List.mem_filter.mpr ⟨gt3 _ (List.mem_of_getElem? (i := 183) rfl), rfl⟩
theorem wd_285 : (Cond.methodLink "PrefixCodes$Table" 54 ⟨"PrefixCodes$Table", "extendParts", "(II)V"⟩ : Cond) ∈ gW := List.mem_filter.mpr ⟨gt3 _ (List.mem_of_getElem? (i := 180) rfl), rfl⟩
theorem wd_286 : (Cond.initialized "PrefixCodes$Table" : Cond) ∈ gW := List.mem_filter.mpr ⟨gt1 _ (List.mem_of_getElem? (i := 7) rfl), rfl⟩
theorem wd_287 : (Cond.instanceMethod ⟨"PrefixCodes$Table", "extendParts", "(II)V"⟩ : Cond) ∈ gW := List.mem_filter.mpr ⟨gt3 _ (List.mem_of_getElem? (i := 182) rfl), rfl⟩
theorem wd_288 : (Cond.selects "PrefixCodes$Table" ⟨"PrefixCodes$Table", "extendParts", "(II)V"⟩ ⟨"PrefixCodes$Table", "extendParts", "(II)V"⟩ : Cond) ∈ gW := List.mem_filter.mpr ⟨gp2 (⟨"PrefixCodes$Table", "extendParts", "(II)V"⟩, 10) (List.mem_of_getElem? (i := 9) rfl), rfl⟩
theorem wd_289 : (Cond.fieldLink "PrefixCodes" 49 "PrefixCodes" "lastTable" "LPrefixCodes$Table;" : Cond) ∈ gW := List.mem_filter.mpr ⟨gt2 _ (List.mem_of_getElem? (i := 95) rfl), rfl⟩
theorem wd_290 : (Cond.fieldLink "PrefixCodes" 198 "PrefixCodes$Table" "entries" "I" : Cond) ∈ gW := List.mem_filter.mpr ⟨gt1 _ (List.mem_of_getElem? (i := 197) rfl), rfl⟩
theorem wd_291 : (Cond.code ⟨"PrefixCodes$Table", "build", "(LPrefixCodes$Code;I)V"⟩ prog_10_method_2_code 5 none : Cond) ∈ gW := List.mem_filter.mpr ⟨gt3 _ (List.mem_of_getElem? (i := 179) rfl), rfl⟩
theorem wd_292 : (Cond.methodLink "PrefixCodes" 195 ⟨"PrefixCodes$Table", "build", "(LPrefixCodes$Code;I)V"⟩ : Cond) ∈ gW := List.mem_filter.mpr ⟨gt3 _ (List.mem_of_getElem? (i := 176) rfl), rfl⟩
theorem wd_293 : (Cond.instanceMethod ⟨"PrefixCodes$Table", "build", "(LPrefixCodes$Code;I)V"⟩ : Cond) ∈ gW := List.mem_filter.mpr ⟨gt3 _ (List.mem_of_getElem? (i := 177) rfl), rfl⟩
theorem wd_294 : (Cond.selects "PrefixCodes$Table" ⟨"PrefixCodes$Table", "build", "(LPrefixCodes$Code;I)V"⟩ ⟨"PrefixCodes$Table", "build", "(LPrefixCodes$Code;I)V"⟩ : Cond) ∈ gW := List.mem_filter.mpr ⟨gt3 _ (List.mem_of_getElem? (i := 178) rfl), rfl⟩
theorem wd_295 : (Cond.code ⟨"PrefixCodes$Table", "pick", "(IIII)I"⟩ prog_10_method_6_code 4 (some .int) : Cond) ∈ gW := List.mem_filter.mpr ⟨gt4 _ (List.mem_of_getElem? (i := 145) rfl), rfl⟩
theorem wd_296 : (Cond.methodLink "PrefixCodes$Table" 62 ⟨"PrefixCodes$Table", "pick", "(IIII)I"⟩ : Cond) ∈ gW := List.mem_filter.mpr ⟨gt4 _ (List.mem_of_getElem? (i := 143) rfl), rfl⟩
theorem wd_297 : (Cond.static ⟨"PrefixCodes$Table", "pick", "(IIII)I"⟩ : Cond) ∈ gW := List.mem_filter.mpr ⟨gt4 _ (List.mem_of_getElem? (i := 144) rfl), rfl⟩
theorem wd_298 : (Cond.code ⟨"PrefixCodes$Table", "partAround", "(I)I"⟩ prog_10_method_8_code 3 (some .int) : Cond) ∈ gW := List.mem_filter.mpr ⟨gt4 _ (List.mem_of_getElem? (i := 157) rfl), rfl⟩
theorem wd_299 : (Cond.methodLink "PrefixCodes$Table" 73 ⟨"PrefixCodes$Table", "partAround", "(I)I"⟩ : Cond) ∈ gW := List.mem_filter.mpr ⟨gt4 _ (List.mem_of_getElem? (i := 154) rfl), rfl⟩
theorem wd_300 : (Cond.instanceMethod ⟨"PrefixCodes$Table", "partAround", "(I)I"⟩ : Cond) ∈ gW := List.mem_filter.mpr ⟨gt4 _ (List.mem_of_getElem? (i := 156) rfl), rfl⟩
theorem wd_301 : (Cond.selects "PrefixCodes$Table" ⟨"PrefixCodes$Table", "partAround", "(I)I"⟩ ⟨"PrefixCodes$Table", "partAround", "(I)I"⟩ : Cond) ∈ gW := List.mem_filter.mpr ⟨gp3 (⟨"PrefixCodes$Table", "partAround", "(I)I"⟩, 10) (List.mem_of_getElem? (i := 4) rfl), rfl⟩
theorem wd_302 : (Cond.code ⟨"PrefixCodes$Table", "wordFor", "(II)I"⟩ prog_10_method_9_code 4 (some .int) : Cond) ∈ gW := List.mem_filter.mpr ⟨gt4 _ (List.mem_of_getElem? (i := 149) rfl), rfl⟩
theorem wd_303 : (Cond.methodLink "PrefixCodes$Table" 66 ⟨"PrefixCodes$Table", "wordFor", "(II)I"⟩ : Cond) ∈ gW := List.mem_filter.mpr ⟨gt4 _ (List.mem_of_getElem? (i := 146) rfl), rfl⟩
theorem wd_304 : (Cond.instanceMethod ⟨"PrefixCodes$Table", "wordFor", "(II)I"⟩ : Cond) ∈ gW := List.mem_filter.mpr ⟨gt4 _ (List.mem_of_getElem? (i := 148) rfl), rfl⟩
theorem wd_305 : (Cond.selects "PrefixCodes$Table" ⟨"PrefixCodes$Table", "wordFor", "(II)I"⟩ ⟨"PrefixCodes$Table", "wordFor", "(II)I"⟩ : Cond) ∈ gW := List.mem_filter.mpr ⟨gp3 (⟨"PrefixCodes$Table", "wordFor", "(II)I"⟩, 10) (List.mem_of_getElem? (i := 2) rfl), rfl⟩
theorem wd_306 : (Cond.code ⟨"PrefixCodes$Table", "tellWord", "(II)I"⟩ prog_10_method_5_code 3 (some .int) : Cond) ∈ gW := List.mem_filter.mpr ⟨gt4 _ (List.mem_of_getElem? (i := 153) rfl), rfl⟩
theorem wd_307 : (Cond.methodLink "PrefixCodes$Table" 70 ⟨"PrefixCodes$Table", "tellWord", "(II)I"⟩ : Cond) ∈ gW := List.mem_filter.mpr ⟨gt4 _ (List.mem_of_getElem? (i := 150) rfl), rfl⟩
theorem wd_308 : (Cond.instanceMethod ⟨"PrefixCodes$Table", "tellWord", "(II)I"⟩ : Cond) ∈ gW := List.mem_filter.mpr ⟨gt4 _ (List.mem_of_getElem? (i := 152) rfl), rfl⟩
theorem wd_309 : (Cond.selects "PrefixCodes$Table" ⟨"PrefixCodes$Table", "tellWord", "(II)I"⟩ ⟨"PrefixCodes$Table", "tellWord", "(II)I"⟩ : Cond) ∈ gW := List.mem_filter.mpr ⟨gp3 (⟨"PrefixCodes$Table", "tellWord", "(II)I"⟩, 10) (List.mem_of_getElem? (i := 3) rfl), rfl⟩
theorem wd_310 : (Cond.code ⟨"PrefixCodes$Table", "partWithPrefix", "(I)I"⟩ prog_10_method_7_code 3 (some .int) : Cond) ∈ gW := List.mem_filter.mpr ⟨gt4 _ (List.mem_of_getElem? (i := 142) rfl), rfl⟩
theorem wd_311 : (Cond.methodLink "PrefixCodes$Table" 58 ⟨"PrefixCodes$Table", "partWithPrefix", "(I)I"⟩ : Cond) ∈ gW := List.mem_filter.mpr ⟨gt4 _ (List.mem_of_getElem? (i := 139) rfl), rfl⟩
theorem wd_312 : (Cond.instanceMethod ⟨"PrefixCodes$Table", "partWithPrefix", "(I)I"⟩ : Cond) ∈ gW := List.mem_filter.mpr ⟨gt4 _ (List.mem_of_getElem? (i := 141) rfl), rfl⟩
theorem wd_313 : (Cond.selects "PrefixCodes$Table" ⟨"PrefixCodes$Table", "partWithPrefix", "(I)I"⟩ ⟨"PrefixCodes$Table", "partWithPrefix", "(I)I"⟩ : Cond) ∈ gW := List.mem_filter.mpr ⟨gp3 (⟨"PrefixCodes$Table", "partWithPrefix", "(I)I"⟩, 10) (List.mem_of_getElem? (i := 1) rfl), rfl⟩
theorem wd_314 : (Cond.fieldLink "PrefixCodes$Text" 19 "PrefixCodes$Text" "offered" "[I" : Cond) ∈ gW := List.mem_filter.mpr ⟨gt1 _ (List.mem_of_getElem? (i := 239) rfl), rfl⟩
theorem wd_315 : (Cond.methodLink "PrefixCodes$Text" 25 ⟨"java/lang/System", "arraycopy", "(Ljava/lang/Object;ILjava/lang/Object;II)V"⟩ : Cond) ∈ gW := List.mem_filter.mpr ⟨gt3 _ (List.mem_of_getElem? (i := 192) rfl), rfl⟩
theorem wd_316 : (Cond.native ⟨"java/lang/System", "arraycopy", "(Ljava/lang/Object;ILjava/lang/Object;II)V"⟩ : Cond) ∈ gW := List.mem_filter.mpr ⟨gt3 _ (List.mem_of_getElem? (i := 171) rfl), rfl⟩
theorem wd_317 : (Cond.static ⟨"java/lang/System", "arraycopy", "(Ljava/lang/Object;ILjava/lang/Object;II)V"⟩ : Cond) ∈ gW := List.mem_filter.mpr ⟨gt3 _ (List.mem_of_getElem? (i := 170) rfl), rfl⟩
theorem wd_318 : (Cond.initialized "java/lang/System" : Cond) ∈ gW := List.mem_filter.mpr ⟨gt1 _ (List.mem_of_getElem? (i := 19) rfl), rfl⟩
theorem wd_319 : (Cond.fieldLink "PrefixCodes" 206 "PrefixCodes$Text" "offered" "[I" : Cond) ∈ gW := List.mem_filter.mpr ⟨gt2 _ (List.mem_of_getElem? (i := 0) rfl), rfl⟩
theorem wd_320 : (Cond.code ⟨"PrefixCodes$Text", "extend", "()I"⟩ prog_11_method_2_code 2 (some .int) : Cond) ∈ gW := List.mem_filter.mpr ⟨gt3 _ (List.mem_of_getElem? (i := 191) rfl), rfl⟩
theorem wd_321 : (Cond.methodLink "PrefixCodes" 209 ⟨"PrefixCodes$Text", "extend", "()I"⟩ : Cond) ∈ gW := List.mem_filter.mpr ⟨gt3 _ (List.mem_of_getElem? (i := 188) rfl), rfl⟩
theorem wd_322 : (Cond.instanceMethod ⟨"PrefixCodes$Text", "extend", "()I"⟩ : Cond) ∈ gW := List.mem_filter.mpr ⟨gt3 _ (List.mem_of_getElem? (i := 189) rfl), rfl⟩
theorem wd_323 : (Cond.selects "PrefixCodes$Text" ⟨"PrefixCodes$Text", "extend", "()I"⟩ ⟨"PrefixCodes$Text", "extend", "()I"⟩ : Cond) ∈ gW := List.mem_filter.mpr ⟨gt3 _ (List.mem_of_getElem? (i := 190) rfl), rfl⟩
theorem wd_324 : (Cond.fieldLink "PrefixCodes" 212 "PrefixCodes$Text" "size" "I" : Cond) ∈ gW := List.mem_filter.mpr ⟨gt1 _ (List.mem_of_getElem? (i := 238) rfl), rfl⟩
theorem wd_325 : (Cond.fieldLink "PrefixCodes$Text" 22 "PrefixCodes$Text" "often" "[I" : Cond) ∈ gW := List.mem_filter.mpr ⟨gt2 _ (List.mem_of_getElem? (i := 1) rfl), rfl⟩
theorem wd_326 : (Cond.methodLink "PrefixCodes$Text" 37 ⟨"PrefixCodes$Text", "tally", "([I)V"⟩ : Cond) ∈ gW := List.mem_filter.mpr ⟨gt3 _ (List.mem_of_getElem? (i := 205) rfl), rfl⟩
theorem wd_327 : (Cond.fieldLink "PrefixCodes$Choice" 47 "PrefixCodes$Text" "size" "I" : Cond) ∈ gW := List.mem_filter.mpr ⟨gt1 _ (List.mem_of_getElem? (i := 237) rfl), rfl⟩
theorem wd_328 : (Cond.fieldLink "PrefixCodes$Choice" 15 "PrefixCodes$Choice" "textSize" "I" : Cond) ∈ gW := List.mem_filter.mpr ⟨gt2 _ (List.mem_of_getElem? (i := 32) rfl), rfl⟩
theorem wd_329 : (Cond.fieldLink "PrefixCodes$Choice" 52 "PrefixCodes$Text" "row" "[I" : Cond) ∈ gW := List.mem_filter.mpr ⟨gt1 _ (List.mem_of_getElem? (i := 234) rfl), rfl⟩
theorem wd_330 : (Cond.fieldLink "PrefixCodes$Choice" 9 "PrefixCodes$Choice" "text" "[I" : Cond) ∈ gW := List.mem_filter.mpr ⟨gt2 _ (List.mem_of_getElem? (i := 31) rfl), rfl⟩
theorem wd_331 : (Cond.methodLink "PrefixCodes$Choice" 55 ⟨"java/lang/System", "arraycopy", "(Ljava/lang/Object;ILjava/lang/Object;II)V"⟩ : Cond) ∈ gW := List.mem_filter.mpr ⟨gt3 _ (List.mem_of_getElem? (i := 210) rfl), rfl⟩
theorem wd_332 : (Cond.fieldLink "PrefixCodes$Choice" 34 "PrefixCodes$Choice" "manyCodes" "I" : Cond) ∈ gW := List.mem_filter.mpr ⟨gt2 _ (List.mem_of_getElem? (i := 40) rfl), rfl⟩
theorem wd_333 : (Cond.fieldLink "PrefixCodes$Choice" 19 "PrefixCodes$Choice" "groupSize" "I" : Cond) ∈ gW := List.mem_filter.mpr ⟨gt2 _ (List.mem_of_getElem? (i := 33) rfl), rfl⟩
theorem wd_334 : (Cond.fieldLink "PrefixCodes$Choice" 22 "PrefixCodes$Choice" "groups" "I" : Cond) ∈ gW := List.mem_filter.mpr ⟨gt2 _ (List.mem_of_getElem? (i := 34) rfl), rfl⟩
theorem wd_335 : (Cond.fieldLink "PrefixCodes$Choice" 25 "PrefixCodes$Choice" "codeOfGroup" "[I" : Cond) ∈ gW := List.mem_filter.mpr ⟨gt2 _ (List.mem_of_getElem? (i := 36) rfl), rfl⟩
theorem wd_336 : (Cond.methodLink "PrefixCodes$Choice" 68 ⟨"java/lang/Math", "min", "(II)I"⟩ : Cond) ∈ gW := List.mem_filter.mpr ⟨gt3 _ (List.mem_of_getElem? (i := 228) rfl), rfl⟩
theorem wd_337 : (Cond.fieldLink "PrefixCodes$Choice" 37 "PrefixCodes$Choice" "often" "[I" : Cond) ∈ gW := List.mem_filter.mpr ⟨gt2 _ (List.mem_of_getElem? (i := 41) rfl), rfl⟩
theorem wd_338 : (Cond.methodLink "PrefixCodes$Choice" 84 ⟨"java/util/Arrays", "fill", "([II)V"⟩ : Cond) ∈ gW := List.mem_filter.mpr ⟨gt3 _ (List.mem_of_getElem? (i := 223) rfl), rfl⟩
theorem wd_339 : (Cond.code ⟨"PrefixCodes$Choice", "endOf", "(I)I"⟩ prog_2_method_4_code 2 (some .int) : Cond) ∈ gW := List.mem_filter.mpr ⟨gt3 _ (List.mem_of_getElem? (i := 227) rfl), rfl⟩
theorem wd_340 : (Cond.methodLink "PrefixCodes$Choice" 90 ⟨"PrefixCodes$Choice", "endOf", "(I)I"⟩ : Cond) ∈ gW := List.mem_filter.mpr ⟨gt3 _ (List.mem_of_getElem? (i := 224) rfl), rfl⟩
theorem wd_341 : (Cond.initialized "PrefixCodes$Choice" : Cond) ∈ gW := List.mem_filter.mpr ⟨gt1 _ (List.mem_of_getElem? (i := 9) rfl), rfl⟩
theorem wd_342 : (Cond.instanceMethod ⟨"PrefixCodes$Choice", "endOf", "(I)I"⟩ : Cond) ∈ gW := List.mem_filter.mpr ⟨gt3 _ (List.mem_of_getElem? (i := 226) rfl), rfl⟩
theorem wd_343 : (Cond.selects "PrefixCodes$Choice" ⟨"PrefixCodes$Choice", "endOf", "(I)I"⟩ ⟨"PrefixCodes$Choice", "endOf", "(I)I"⟩ : Cond) ∈ gW := List.mem_filter.mpr ⟨gp2 (⟨"PrefixCodes$Choice", "endOf", "(I)I"⟩, 9) (List.mem_of_getElem? (i := 12) rfl), rfl⟩
theorem wd_344 : (Cond.fieldLink "PrefixCodes$Choice" 30 "PrefixCodes$Choice" "codes" "[LPrefixCodes$Code;" : Cond) ∈ gW := List.mem_filter.mpr ⟨gt2 _ (List.mem_of_getElem? (i := 38) rfl), rfl⟩
theorem wd_345 : (Cond.code ⟨"PrefixCodes$Choice", "countFor", "(I)V"⟩ prog_2_method_6_code 4 none : Cond) ∈ gW := List.mem_filter.mpr ⟨gt3 _ (List.mem_of_getElem? (i := 222) rfl), rfl⟩
theorem wd_346 : (Cond.methodLink "PrefixCodes$Choice" 74 ⟨"PrefixCodes$Choice", "countFor", "(I)V"⟩ : Cond) ∈ gW := List.mem_filter.mpr ⟨gt3 _ (List.mem_of_getElem? (i := 219) rfl), rfl⟩
theorem wd_347 : (Cond.instanceMethod ⟨"PrefixCodes$Choice", "countFor", "(I)V"⟩ : Cond) ∈ gW := List.mem_filter.mpr ⟨gt3 _ (List.mem_of_getElem? (i := 221) rfl), rfl⟩
theorem wd_348 : (Cond.selects "PrefixCodes$Choice" ⟨"PrefixCodes$Choice", "countFor", "(I)V"⟩ ⟨"PrefixCodes$Choice", "countFor", "(I)V"⟩ : Cond) ∈ gW := List.mem_filter.mpr ⟨gp2 (⟨"PrefixCodes$Choice", "countFor", "(I)V"⟩, 9) (List.mem_of_getElem? (i := 11) rfl), rfl⟩
theorem wd_349 : (Cond.methodLink "PrefixCodes$Choice" 78 ⟨"PrefixCodes$Packages", "fit", "([IILPrefixCodes$Code;)V"⟩ : Cond) ∈ gW := List.mem_filter.mpr ⟨gt3 _ (List.mem_of_getElem? (i := 229) rfl), rfl⟩
theorem wd_350 : (Cond.fieldLink "PrefixCodes$Choice" 97 "PrefixCodes$Code" "lengths" "[I" : Cond) ∈ gW := List.mem_filter.mpr ⟨gt1 _ (List.mem_of_getElem? (i := 112) rfl), rfl⟩
theorem wd_351 : (Cond.code ⟨"PrefixCodes$Choice", "bitsBy", "(II)I"⟩ prog_2_method_8_code 6 (some .int) : Cond) ∈ gW := List.mem_filter.mpr ⟨gt3 _ (List.mem_of_getElem? (i := 237) rfl), rfl⟩
theorem wd_352 : (Cond.methodLink "PrefixCodes$Choice" 94 ⟨"PrefixCodes$Choice", "bitsBy", "(II)I"⟩ : Cond) ∈ gW := List.mem_filter.mpr ⟨gt3 _ (List.mem_of_getElem? (i := 234) rfl), rfl⟩
theorem wd_353 : (Cond.instanceMethod ⟨"PrefixCodes$Choice", "bitsBy", "(II)I"⟩ : Cond) ∈ gW := List.mem_filter.mpr ⟨gt3 _ (List.mem_of_getElem? (i := 236) rfl), rfl⟩
theorem wd_354 : (Cond.selects "PrefixCodes$Choice" ⟨"PrefixCodes$Choice", "bitsBy", "(II)I"⟩ ⟨"PrefixCodes$Choice", "bitsBy", "(II)I"⟩ : Cond) ∈ gW := List.mem_filter.mpr ⟨gp2 (⟨"PrefixCodes$Choice", "bitsBy", "(II)I"⟩, 9) (List.mem_of_getElem? (i := 14) rfl), rfl⟩
theorem wd_355 : (Cond.code ⟨"PrefixCodes$Choice", "fitCodes", "(LPrefixCodes$Packages;I)V"⟩ prog_2_method_5_code 4 none : Cond) ∈ gW := List.mem_filter.mpr ⟨gt3 _ (List.mem_of_getElem? (i := 218) rfl), rfl⟩
theorem wd_356 : (Cond.methodLink "PrefixCodes$Choice" 61 ⟨"PrefixCodes$Choice", "fitCodes", "(LPrefixCodes$Packages;I)V"⟩ : Cond) ∈ gW := List.mem_filter.mpr ⟨gt3 _ (List.mem_of_getElem? (i := 215) rfl), rfl⟩
theorem wd_357 : (Cond.instanceMethod ⟨"PrefixCodes$Choice", "fitCodes", "(LPrefixCodes$Packages;I)V"⟩ : Cond) ∈ gW := List.mem_filter.mpr ⟨gt3 _ (List.mem_of_getElem? (i := 217) rfl), rfl⟩
theorem wd_358 : (Cond.selects "PrefixCodes$Choice" ⟨"PrefixCodes$Choice", "fitCodes", "(LPrefixCodes$Packages;I)V"⟩ ⟨"PrefixCodes$Choice", "fitCodes", "(LPrefixCodes$Packages;I)V"⟩ : Cond) ∈ gW := List.mem_filter.mpr ⟨gp2 (⟨"PrefixCodes$Choice", "fitCodes", "(LPrefixCodes$Packages;I)V"⟩, 9) (List.mem_of_getElem? (i := 10) rfl), rfl⟩
theorem wd_359 : (Cond.code ⟨"PrefixCodes$Choice", "regroup", "()V"⟩ prog_2_method_7_code 6 none : Cond) ∈ gW := List.mem_filter.mpr ⟨gt3 _ (List.mem_of_getElem? (i := 233) rfl), rfl⟩
theorem wd_360 : (Cond.methodLink "PrefixCodes$Choice" 65 ⟨"PrefixCodes$Choice", "regroup", "()V"⟩ : Cond) ∈ gW := List.mem_filter.mpr ⟨gt3 _ (List.mem_of_getElem? (i := 230) rfl), rfl⟩
theorem wd_361 : (Cond.instanceMethod ⟨"PrefixCodes$Choice", "regroup", "()V"⟩ : Cond) ∈ gW := List.mem_filter.mpr ⟨gt3 _ (List.mem_of_getElem? (i := 232) rfl), rfl⟩
theorem wd_362 : (Cond.selects "PrefixCodes$Choice" ⟨"PrefixCodes$Choice", "regroup", "()V"⟩ ⟨"PrefixCodes$Choice", "regroup", "()V"⟩ : Cond) ∈ gW := List.mem_filter.mpr ⟨gp2 (⟨"PrefixCodes$Choice", "regroup", "()V"⟩, 9) (List.mem_of_getElem? (i := 13) rfl), rfl⟩
theorem wd_363 : (Cond.fieldLink "PrefixCodes" 63 "PrefixCodes" "choice" "LPrefixCodes$Choice;" : Cond) ∈ gW := List.mem_filter.mpr ⟨gt2 _ (List.mem_of_getElem? (i := 97) rfl), rfl⟩
theorem wd_364 : (Cond.fieldLink "PrefixCodes" 223 "PrefixCodes$Choice" "groups" "I" : Cond) ∈ gW := List.mem_filter.mpr ⟨gt2 _ (List.mem_of_getElem? (i := 35) rfl), rfl⟩
theorem wd_365 : (Cond.fieldLink "PrefixCodes" 226 "PrefixCodes$Choice" "codeOfGroup" "[I" : Cond) ∈ gW := List.mem_filter.mpr ⟨gt2 _ (List.mem_of_getElem? (i := 37) rfl), rfl⟩
theorem wd_366 : (Cond.methodLink "PrefixCodes$Choice" 100 ⟨"PrefixCodes$Code", "hasWord", "(I)Z"⟩ : Cond) ∈ gW := List.mem_filter.mpr ⟨gt4 _ (List.mem_of_getElem? (i := 10) rfl), rfl⟩
theorem wd_367 : (Cond.fieldLink "PrefixCodes$Selectors" 15 "PrefixCodes$Selectors" "many" "I" : Cond) ∈ gW := List.mem_filter.mpr ⟨gt2 _ (List.mem_of_getElem? (i := 25) rfl), rfl⟩
theorem wd_368 : (Cond.fieldLink "PrefixCodes$Selectors" 9 "PrefixCodes$Selectors" "row" "[I" : Cond) ∈ gW := List.mem_filter.mpr ⟨gt2 _ (List.mem_of_getElem? (i := 24) rfl), rfl⟩
theorem wd_369 : (Cond.methodLink "PrefixCodes$Selectors" 19 ⟨"PrefixCodes$Stream", "append", "(I)V"⟩ : Cond) ∈ gW := List.mem_filter.mpr ⟨gt4 _ (List.mem_of_getElem? (i := 23) rfl), rfl⟩
theorem wd_370 : (Cond.code ⟨"PrefixCodes$Selectors", "moveAhead", "(I)V"⟩ prog_8_method_5_code 4 none : Cond) ∈ gW := List.mem_filter.mpr ⟨gt4 _ (List.mem_of_getElem? (i := 27) rfl), rfl⟩
theorem wd_371 : (Cond.methodLink "PrefixCodes$Selectors" 25 ⟨"PrefixCodes$Selectors", "moveAhead", "(I)V"⟩ : Cond) ∈ gW := List.mem_filter.mpr ⟨gt4 _ (List.mem_of_getElem? (i := 24) rfl), rfl⟩
theorem wd_372 : (Cond.initialized "PrefixCodes$Selectors" : Cond) ∈ gW := List.mem_filter.mpr ⟨gt1 _ (List.mem_of_getElem? (i := 10) rfl), rfl⟩
theorem wd_373 : (Cond.instanceMethod ⟨"PrefixCodes$Selectors", "moveAhead", "(I)V"⟩ : Cond) ∈ gW := List.mem_filter.mpr ⟨gt4 _ (List.mem_of_getElem? (i := 26) rfl), rfl⟩
theorem wd_374 : (Cond.selects "PrefixCodes$Selectors" ⟨"PrefixCodes$Selectors", "moveAhead", "(I)V"⟩ ⟨"PrefixCodes$Selectors", "moveAhead", "(I)V"⟩ : Cond) ∈ gW := List.mem_filter.mpr ⟨gp2 (⟨"PrefixCodes$Selectors", "moveAhead", "(I)V"⟩, 2) (List.mem_of_getElem? (i := 15) rfl), rfl⟩
theorem wd_375 : (Cond.fieldLink "PrefixCodes$Choice" 43 "PrefixCodes$Choice" "selectors" "LPrefixCodes$Selectors;" : Cond) ∈ gW := List.mem_filter.mpr ⟨gt2 _ (List.mem_of_getElem? (i := 42) rfl), rfl⟩
theorem wd_376 : (Cond.fieldLink "PrefixCodes$Choice" 111 "PrefixCodes$Code" "words" "[I" : Cond) ∈ gW := List.mem_filter.mpr ⟨gt1 _ (List.mem_of_getElem? (i := 117) rfl), rfl⟩
theorem wd_377 : (Cond.code ⟨"PrefixCodes$Selectors", "begin", "(I)V"⟩ prog_8_method_2_code 3 none : Cond) ∈ gW := List.mem_filter.mpr ⟨gt4 _ (List.mem_of_getElem? (i := 18) rfl), rfl⟩
theorem wd_378 : (Cond.methodLink "PrefixCodes$Choice" 104 ⟨"PrefixCodes$Selectors", "begin", "(I)V"⟩ : Cond) ∈ gW := List.mem_filter.mpr ⟨gt4 _ (List.mem_of_getElem? (i := 15) rfl), rfl⟩
theorem wd_379 : (Cond.instanceMethod ⟨"PrefixCodes$Selectors", "begin", "(I)V"⟩ : Cond) ∈ gW := List.mem_filter.mpr ⟨gt4 _ (List.mem_of_getElem? (i := 16) rfl), rfl⟩
theorem wd_380 : (Cond.selects "PrefixCodes$Selectors" ⟨"PrefixCodes$Selectors", "begin", "(I)V"⟩ ⟨"PrefixCodes$Selectors", "begin", "(I)V"⟩ : Cond) ∈ gW := List.mem_filter.mpr ⟨gt4 _ (List.mem_of_getElem? (i := 17) rfl), rfl⟩
theorem wd_381 : (Cond.methodLink "PrefixCodes$Choice" 114 ⟨"PrefixCodes$Stream", "appendNumber", "(II)V"⟩ : Cond) ∈ gW := List.mem_filter.mpr ⟨gt4 _ (List.mem_of_getElem? (i := 28) rfl), rfl⟩
theorem wd_382 : (Cond.code ⟨"PrefixCodes$Selectors", "append", "(LPrefixCodes$Stream;I)V"⟩ prog_8_method_3_code 4 none : Cond) ∈ gW := List.mem_filter.mpr ⟨gt4 _ (List.mem_of_getElem? (i := 22) rfl), rfl⟩
theorem wd_383 : (Cond.methodLink "PrefixCodes$Choice" 107 ⟨"PrefixCodes$Selectors", "append", "(LPrefixCodes$Stream;I)V"⟩ : Cond) ∈ gW := List.mem_filter.mpr ⟨gt4 _ (List.mem_of_getElem? (i := 19) rfl), rfl⟩
theorem wd_384 : (Cond.instanceMethod ⟨"PrefixCodes$Selectors", "append", "(LPrefixCodes$Stream;I)V"⟩ : Cond) ∈ gW := List.mem_filter.mpr ⟨gt4 _ (List.mem_of_getElem? (i := 20) rfl), rfl⟩
theorem wd_385 : (Cond.selects "PrefixCodes$Selectors" ⟨"PrefixCodes$Selectors", "append", "(LPrefixCodes$Stream;I)V"⟩ ⟨"PrefixCodes$Selectors", "append", "(LPrefixCodes$Stream;I)V"⟩ : Cond) ∈ gW := List.mem_filter.mpr ⟨gt4 _ (List.mem_of_getElem? (i := 21) rfl), rfl⟩
theorem wd_386 : (Cond.code ⟨"PrefixCodes$Choice", "canBeWritten", "()Z"⟩ prog_2_method_9_code 4 (some .boolean) : Cond) ∈ gW := List.mem_filter.mpr ⟨gt4 _ (List.mem_of_getElem? (i := 9) rfl), rfl⟩
theorem wd_387 : (Cond.methodLink "PrefixCodes" 229 ⟨"PrefixCodes$Choice", "canBeWritten", "()Z"⟩ : Cond) ∈ gW := List.mem_filter.mpr ⟨gt4 _ (List.mem_of_getElem? (i := 6) rfl), rfl⟩
theorem wd_388 : (Cond.instanceMethod ⟨"PrefixCodes$Choice", "canBeWritten", "()Z"⟩ : Cond) ∈ gW := List.mem_filter.mpr ⟨gt4 _ (List.mem_of_getElem? (i := 7) rfl), rfl⟩
theorem wd_389 : (Cond.selects "PrefixCodes$Choice" ⟨"PrefixCodes$Choice", "canBeWritten", "()Z"⟩ ⟨"PrefixCodes$Choice", "canBeWritten", "()Z"⟩ : Cond) ∈ gW := List.mem_filter.mpr ⟨gt4 _ (List.mem_of_getElem? (i := 8) rfl), rfl⟩
theorem wd_390 : (Cond.code ⟨"PrefixCodes$Choice", "append", "(LPrefixCodes$Stream;)V"⟩ prog_2_method_10_code 5 none : Cond) ∈ gW := List.mem_filter.mpr ⟨gt4 _ (List.mem_of_getElem? (i := 14) rfl), rfl⟩
theorem wd_391 : (Cond.methodLink "PrefixCodes" 232 ⟨"PrefixCodes$Choice", "append", "(LPrefixCodes$Stream;)V"⟩ : Cond) ∈ gW := List.mem_filter.mpr ⟨gt4 _ (List.mem_of_getElem? (i := 11) rfl), rfl⟩
theorem wd_392 : (Cond.instanceMethod ⟨"PrefixCodes$Choice", "append", "(LPrefixCodes$Stream;)V"⟩ : Cond) ∈ gW := List.mem_filter.mpr ⟨gt4 _ (List.mem_of_getElem? (i := 12) rfl), rfl⟩
theorem wd_393 : (Cond.selects "PrefixCodes$Choice" ⟨"PrefixCodes$Choice", "append", "(LPrefixCodes$Stream;)V"⟩ ⟨"PrefixCodes$Choice", "append", "(LPrefixCodes$Stream;)V"⟩ : Cond) ∈ gW := List.mem_filter.mpr ⟨gt4 _ (List.mem_of_getElem? (i := 13) rfl), rfl⟩
theorem wd_394 : (Cond.fieldLink "PrefixCodes$Reader" 20 "PrefixCodes$Reader" "selectors" "LPrefixCodes$Selectors;" : Cond) ∈ gW := List.mem_filter.mpr ⟨gt2 _ (List.mem_of_getElem? (i := 74) rfl), rfl⟩
theorem wd_395 : (Cond.methodLink "PrefixCodes$Reader" 35 ⟨"PrefixCodes$Selectors", "begin", "(I)V"⟩ : Cond) ∈ gW := List.mem_filter.mpr ⟨gt4 _ (List.mem_of_getElem? (i := 37) rfl), rfl⟩
theorem wd_396 : (Cond.methodLink "PrefixCodes$Selectors" 28 ⟨"PrefixCodes$Stream", "removeFirst", "()I"⟩ : Cond) ∈ gW := List.mem_filter.mpr ⟨gt4 _ (List.mem_of_getElem? (i := 46) rfl), rfl⟩
theorem wd_397 : (Cond.fieldLink "PrefixCodes$Reader" 31 "PrefixCodes$Reader" "stream" "LPrefixCodes$Stream;" : Cond) ∈ gW := List.mem_filter.mpr ⟨gt2 _ (List.mem_of_getElem? (i := 71) rfl), rfl⟩
theorem wd_398 : (Cond.fieldLink "PrefixCodes$Reader" 24 "PrefixCodes$Reader" "codeOfGroup" "[I" : Cond) ∈ gW := List.mem_filter.mpr ⟨gt2 _ (List.mem_of_getElem? (i := 75) rfl), rfl⟩
theorem wd_399 : (Cond.fieldLink "PrefixCodes$Reader" 11 "PrefixCodes$Reader" "codes" "[LPrefixCodes$Code;" : Cond) ∈ gW := List.mem_filter.mpr ⟨gt2 _ (List.mem_of_getElem? (i := 72) rfl), rfl⟩
theorem wd_400 : (Cond.fieldLink "PrefixCodes$Reader" 28 "PrefixCodes$Reader" "found" "[I" : Cond) ∈ gW := List.mem_filter.mpr ⟨gt2 _ (List.mem_of_getElem? (i := 76) rfl), rfl⟩
theorem wd_401 : (Cond.methodLink "PrefixCodes$Reader" 43 ⟨"PrefixCodes$Code", "removeSymbol", "(LPrefixCodes$Stream;Z)I"⟩ : Cond) ∈ gW := List.mem_filter.mpr ⟨gt4 _ (List.mem_of_getElem? (i := 47) rfl), rfl⟩
theorem wd_402 : (Cond.code ⟨"PrefixCodes$Selectors", "remove", "(LPrefixCodes$Stream;)I"⟩ prog_8_method_4_code 4 (some .int) : Cond) ∈ gW := List.mem_filter.mpr ⟨gt4 _ (List.mem_of_getElem? (i := 45) rfl), rfl⟩
theorem wd_403 : (Cond.methodLink "PrefixCodes$Reader" 39 ⟨"PrefixCodes$Selectors", "remove", "(LPrefixCodes$Stream;)I"⟩ : Cond) ∈ gW := List.mem_filter.mpr ⟨gt4 _ (List.mem_of_getElem? (i := 42) rfl), rfl⟩
theorem wd_404 : (Cond.instanceMethod ⟨"PrefixCodes$Selectors", "remove", "(LPrefixCodes$Stream;)I"⟩ : Cond) ∈ gW := List.mem_filter.mpr ⟨gt4 _ (List.mem_of_getElem? (i := 43) rfl), rfl⟩
theorem wd_405 : (Cond.selects "PrefixCodes$Selectors" ⟨"PrefixCodes$Selectors", "remove", "(LPrefixCodes$Stream;)I"⟩ ⟨"PrefixCodes$Selectors", "remove", "(LPrefixCodes$Stream;)I"⟩ : Cond) ∈ gW := List.mem_filter.mpr ⟨gt4 _ (List.mem_of_getElem? (i := 44) rfl), rfl⟩
theorem wd_406 : (Cond.fieldLink "PrefixCodes" 72 "PrefixCodes" "reader" "LPrefixCodes$Reader;" : Cond) ∈ gW := List.mem_filter.mpr ⟨gt2 _ (List.mem_of_getElem? (i := 98) rfl), rfl⟩
theorem wd_407 : (Cond.fieldLink "PrefixCodes" 236 "PrefixCodes$Reader" "codes" "[LPrefixCodes$Code;" : Cond) ∈ gW := List.mem_filter.mpr ⟨gt2 _ (List.mem_of_getElem? (i := 73) rfl), rfl⟩
theorem wd_408 : (Cond.fieldLink "PrefixCodes" 238 "PrefixCodes$Reader" "found" "[I" : Cond) ∈ gW := List.mem_filter.mpr ⟨gt2 _ (List.mem_of_getElem? (i := 77) rfl), rfl⟩
theorem wd_409 : (Cond.code ⟨"PrefixCodes$Reader", "begin", "(I)V"⟩ prog_7_method_2_code 2 none : Cond) ∈ gW := List.mem_filter.mpr ⟨gt4 _ (List.mem_of_getElem? (i := 36) rfl), rfl⟩
theorem wd_410 : (Cond.methodLink "PrefixCodes" 234 ⟨"PrefixCodes$Reader", "begin", "(I)V"⟩ : Cond) ∈ gW := List.mem_filter.mpr ⟨gt4 _ (List.mem_of_getElem? (i := 33) rfl), rfl⟩
theorem wd_411 : (Cond.initialized "PrefixCodes$Reader" : Cond) ∈ gW := List.mem_filter.mpr ⟨gt1 _ (List.mem_of_getElem? (i := 11) rfl), rfl⟩
theorem wd_412 : (Cond.instanceMethod ⟨"PrefixCodes$Reader", "begin", "(I)V"⟩ : Cond) ∈ gW := List.mem_filter.mpr ⟨gt4 _ (List.mem_of_getElem? (i := 34) rfl), rfl⟩
theorem wd_413 : (Cond.selects "PrefixCodes$Reader" ⟨"PrefixCodes$Reader", "begin", "(I)V"⟩ ⟨"PrefixCodes$Reader", "begin", "(I)V"⟩ : Cond) ∈ gW := List.mem_filter.mpr ⟨gt4 _ (List.mem_of_getElem? (i := 35) rfl), rfl⟩
theorem wd_414 : (Cond.code ⟨"PrefixCodes$Reader", "remove", "(II)I"⟩ prog_7_method_3_code 7 (some .int) : Cond) ∈ gW := List.mem_filter.mpr ⟨gt4 _ (List.mem_of_getElem? (i := 41) rfl), rfl⟩
theorem wd_415 : (Cond.methodLink "PrefixCodes" 237 ⟨"PrefixCodes$Reader", "remove", "(II)I"⟩ : Cond) ∈ gW := List.mem_filter.mpr ⟨gt4 _ (List.mem_of_getElem? (i := 38) rfl), rfl⟩
theorem wd_416 : (Cond.instanceMethod ⟨"PrefixCodes$Reader", "remove", "(II)I"⟩ : Cond) ∈ gW := List.mem_filter.mpr ⟨gt4 _ (List.mem_of_getElem? (i := 39) rfl), rfl⟩
theorem wd_417 : (Cond.selects "PrefixCodes$Reader" ⟨"PrefixCodes$Reader", "remove", "(II)I"⟩ ⟨"PrefixCodes$Reader", "remove", "(II)I"⟩ : Cond) ∈ gW := List.mem_filter.mpr ⟨gt4 _ (List.mem_of_getElem? (i := 40) rfl), rfl⟩
theorem wd_418 : (Cond.code ⟨"PrefixCodes$Text", "become", "([II)V"⟩ prog_11_method_3_code 3 none : Cond) ∈ gW := List.mem_filter.mpr ⟨gt4 _ (List.mem_of_getElem? (i := 51) rfl), rfl⟩
theorem wd_419 : (Cond.methodLink "PrefixCodes" 239 ⟨"PrefixCodes$Text", "become", "([II)V"⟩ : Cond) ∈ gW := List.mem_filter.mpr ⟨gt4 _ (List.mem_of_getElem? (i := 48) rfl), rfl⟩
theorem wd_420 : (Cond.instanceMethod ⟨"PrefixCodes$Text", "become", "([II)V"⟩ : Cond) ∈ gW := List.mem_filter.mpr ⟨gt4 _ (List.mem_of_getElem? (i := 49) rfl), rfl⟩
theorem wd_421 : (Cond.selects "PrefixCodes$Text" ⟨"PrefixCodes$Text", "become", "([II)V"⟩ ⟨"PrefixCodes$Text", "become", "([II)V"⟩ : Cond) ∈ gW := List.mem_filter.mpr ⟨gt4 _ (List.mem_of_getElem? (i := 50) rfl), rfl⟩
theorem wd_422 : (Cond.fieldLink "PrefixCodes" 245 "PrefixCodes$Text" "row" "[I" : Cond) ∈ gW := List.mem_filter.mpr ⟨gt1 _ (List.mem_of_getElem? (i := 235) rfl), rfl⟩
theorem wd_423 : (Cond.fieldLink "PrefixCodesModel" 81 "PrefixCodesModel" "thrown" "I" : Cond) ∈ gW := List.mem_filter.mpr ⟨gt4 _ (List.mem_of_getElem? (i := 174) rfl), rfl⟩
theorem wd_424 : (Cond.fieldLink "PrefixCodesModel" 84 "PrefixCodesModel" "codes" "I" : Cond) ∈ gW := List.mem_filter.mpr ⟨gt4 _ (List.mem_of_getElem? (i := 175) rfl), rfl⟩
theorem wd_425 : (Cond.fieldLink "PrefixCodesModel" 7 "PrefixCodesModel" "symbols" "[I" : Cond) ∈ gW := List.mem_filter.mpr ⟨gt4 _ (List.mem_of_getElem? (i := 176) rfl), rfl⟩
theorem wd_426 : (Cond.code ⟨"PrefixCodesModel", "has", "(I)Z"⟩ prog_13_method_3_code 2 (some .boolean) : Cond) ∈ gW := List.mem_filter.mpr ⟨gt5 _ (List.mem_of_getElem? (i := 57) rfl), rfl⟩
theorem wd_427 : (Cond.methodLink "PrefixCodesModel" 87 ⟨"PrefixCodesModel", "has", "(I)Z"⟩ : Cond) ∈ gW := List.mem_filter.mpr ⟨gt5 _ (List.mem_of_getElem? (i := 54) rfl), rfl⟩
theorem wd_428 : (Cond.initialized "PrefixCodesModel" : Cond) ∈ gW := List.mem_filter.mpr ⟨gt1 _ (List.mem_of_getElem? (i := 12) rfl), rfl⟩
theorem wd_429 : (Cond.instanceMethod ⟨"PrefixCodesModel", "has", "(I)Z"⟩ : Cond) ∈ gW := List.mem_filter.mpr ⟨gt5 _ (List.mem_of_getElem? (i := 56) rfl), rfl⟩
theorem wd_430 : (Cond.selects "PrefixCodesModel" ⟨"PrefixCodesModel", "has", "(I)Z"⟩ ⟨"PrefixCodesModel", "has", "(I)Z"⟩ : Cond) ∈ gW := List.mem_filter.mpr ⟨gp3 (⟨"PrefixCodesModel", "has", "(I)Z"⟩, 33) (List.mem_of_getElem? (i := 7) rfl), rfl⟩
theorem wd_431 : (Cond.fieldLink "PrefixCodesModel" 13 "PrefixCodesModel" "lengths" "[I" : Cond) ∈ gW := List.mem_filter.mpr ⟨gt4 _ (List.mem_of_getElem? (i := 177) rfl), rfl⟩
theorem wd_432 : (Cond.code ⟨"PrefixCodesModel", "made", "(I)I"⟩ prog_13_method_6_code 4 (some .int) : Cond) ∈ gW := List.mem_filter.mpr ⟨gt5 _ (List.mem_of_getElem? (i := 45) rfl), rfl⟩
theorem wd_433 : (Cond.methodLink "PrefixCodesModel" 91 ⟨"PrefixCodesModel", "made", "(I)I"⟩ : Cond) ∈ gW := List.mem_filter.mpr ⟨gt5 _ (List.mem_of_getElem? (i := 42) rfl), rfl⟩
theorem wd_434 : (Cond.instanceMethod ⟨"PrefixCodesModel", "made", "(I)I"⟩ : Cond) ∈ gW := List.mem_filter.mpr ⟨gt5 _ (List.mem_of_getElem? (i := 44) rfl), rfl⟩
theorem wd_435 : (Cond.selects "PrefixCodesModel" ⟨"PrefixCodesModel", "made", "(I)I"⟩ ⟨"PrefixCodesModel", "made", "(I)I"⟩ : Cond) ∈ gW := List.mem_filter.mpr ⟨gp3 (⟨"PrefixCodesModel", "made", "(I)I"⟩, 33) (List.mem_of_getElem? (i := 5) rfl), rfl⟩
theorem wd_436 : (Cond.code ⟨"PrefixCodesModel", "hasSymbol", "(II)Z"⟩ prog_13_method_4_code 3 (some .boolean) : Cond) ∈ gW := List.mem_filter.mpr ⟨gt5 _ (List.mem_of_getElem? (i := 53) rfl), rfl⟩
theorem wd_437 : (Cond.methodLink "PrefixCodesModel" 95 ⟨"PrefixCodesModel", "hasSymbol", "(II)Z"⟩ : Cond) ∈ gW := List.mem_filter.mpr ⟨gt5 _ (List.mem_of_getElem? (i := 50) rfl), rfl⟩
theorem wd_438 : (Cond.instanceMethod ⟨"PrefixCodesModel", "hasSymbol", "(II)Z"⟩ : Cond) ∈ gW := List.mem_filter.mpr ⟨gt5 _ (List.mem_of_getElem? (i := 52) rfl), rfl⟩
theorem wd_439 : (Cond.selects "PrefixCodesModel" ⟨"PrefixCodesModel", "hasSymbol", "(II)Z"⟩ ⟨"PrefixCodesModel", "hasSymbol", "(II)Z"⟩ : Cond) ∈ gW := List.mem_filter.mpr ⟨gp3 (⟨"PrefixCodesModel", "hasSymbol", "(II)Z"⟩, 33) (List.mem_of_getElem? (i := 6) rfl), rfl⟩
theorem wd_440 : (Cond.code ⟨"PrefixCodesModel", "lengthOf", "(II)I"⟩ prog_13_method_5_code 3 (some .int) : Cond) ∈ gW := List.mem_filter.mpr ⟨gt5 _ (List.mem_of_getElem? (i := 61) rfl), rfl⟩
theorem wd_441 : (Cond.methodLink "PrefixCodesModel" 99 ⟨"PrefixCodesModel", "lengthOf", "(II)I"⟩ : Cond) ∈ gW := List.mem_filter.mpr ⟨gt5 _ (List.mem_of_getElem? (i := 58) rfl), rfl⟩
theorem wd_442 : (Cond.instanceMethod ⟨"PrefixCodesModel", "lengthOf", "(II)I"⟩ : Cond) ∈ gW := List.mem_filter.mpr ⟨gt5 _ (List.mem_of_getElem? (i := 60) rfl), rfl⟩
theorem wd_443 : (Cond.selects "PrefixCodesModel" ⟨"PrefixCodesModel", "lengthOf", "(II)I"⟩ ⟨"PrefixCodesModel", "lengthOf", "(II)I"⟩ : Cond) ∈ gW := List.mem_filter.mpr ⟨gp3 (⟨"PrefixCodesModel", "lengthOf", "(II)I"⟩, 33) (List.mem_of_getElem? (i := 8) rfl), rfl⟩
theorem wd_444 : (Cond.constant "PrefixCodesModel" 103 (32768 : Int32) : Cond) ∈ gW := List.mem_filter.mpr ⟨gt5 _ (List.mem_of_getElem? (i := 78) rfl), rfl⟩
theorem wd_445 : (Cond.code ⟨"PrefixCodesModel", "words", "(I)I"⟩ prog_13_method_10_code 4 (some .int) : Cond) ∈ gW := List.mem_filter.mpr ⟨gt5 _ (List.mem_of_getElem? (i := 73) rfl), rfl⟩
theorem wd_446 : (Cond.methodLink "PrefixCodesModel" 104 ⟨"PrefixCodesModel", "words", "(I)I"⟩ : Cond) ∈ gW := List.mem_filter.mpr ⟨gt5 _ (List.mem_of_getElem? (i := 70) rfl), rfl⟩
theorem wd_447 : (Cond.instanceMethod ⟨"PrefixCodesModel", "words", "(I)I"⟩ : Cond) ∈ gW := List.mem_filter.mpr ⟨gt5 _ (List.mem_of_getElem? (i := 72) rfl), rfl⟩
theorem wd_448 : (Cond.selects "PrefixCodesModel" ⟨"PrefixCodesModel", "words", "(I)I"⟩ ⟨"PrefixCodesModel", "words", "(I)I"⟩ : Cond) ∈ gW := List.mem_filter.mpr ⟨gp3 (⟨"PrefixCodesModel", "words", "(I)I"⟩, 33) (List.mem_of_getElem? (i := 10) rfl), rfl⟩
theorem wd_449 : (Cond.code ⟨"PrefixCodesModel", "filled", "(I)I"⟩ prog_13_method_9_code 4 (some .int) : Cond) ∈ gW := List.mem_filter.mpr ⟨gt5 _ (List.mem_of_getElem? (i := 77) rfl), rfl⟩
theorem wd_450 : (Cond.methodLink "PrefixCodesModel" 107 ⟨"PrefixCodesModel", "filled", "(I)I"⟩ : Cond) ∈ gW := List.mem_filter.mpr ⟨gt5 _ (List.mem_of_getElem? (i := 74) rfl), rfl⟩
theorem wd_451 : (Cond.instanceMethod ⟨"PrefixCodesModel", "filled", "(I)I"⟩ : Cond) ∈ gW := List.mem_filter.mpr ⟨gt5 _ (List.mem_of_getElem? (i := 76) rfl), rfl⟩
theorem wd_452 : (Cond.selects "PrefixCodesModel" ⟨"PrefixCodesModel", "filled", "(I)I"⟩ ⟨"PrefixCodesModel", "filled", "(I)I"⟩ : Cond) ∈ gW := List.mem_filter.mpr ⟨gp3 (⟨"PrefixCodesModel", "filled", "(I)I"⟩, 33) (List.mem_of_getElem? (i := 11) rfl), rfl⟩
theorem wd_453 : (Cond.code ⟨"PrefixCodesModel", "longest", "(I)I"⟩ prog_13_method_11_code 4 (some .int) : Cond) ∈ gW := List.mem_filter.mpr ⟨gt5 _ (List.mem_of_getElem? (i := 82) rfl), rfl⟩
theorem wd_454 : (Cond.methodLink "PrefixCodesModel" 110 ⟨"PrefixCodesModel", "longest", "(I)I"⟩ : Cond) ∈ gW := List.mem_filter.mpr ⟨gt5 _ (List.mem_of_getElem? (i := 79) rfl), rfl⟩
theorem wd_455 : (Cond.instanceMethod ⟨"PrefixCodesModel", "longest", "(I)I"⟩ : Cond) ∈ gW := List.mem_filter.mpr ⟨gt5 _ (List.mem_of_getElem? (i := 81) rfl), rfl⟩
theorem wd_456 : (Cond.selects "PrefixCodesModel" ⟨"PrefixCodesModel", "longest", "(I)I"⟩ ⟨"PrefixCodesModel", "longest", "(I)I"⟩ : Cond) ∈ gW := List.mem_filter.mpr ⟨gp3 (⟨"PrefixCodesModel", "longest", "(I)I"⟩, 33) (List.mem_of_getElem? (i := 12) rfl), rfl⟩
theorem wd_457 : (Cond.code ⟨"PrefixCodesModel", "kind", "(I)I"⟩ prog_13_method_12_code 4 (some .int) : Cond) ∈ gW := List.mem_filter.mpr ⟨gt5 _ (List.mem_of_getElem? (i := 69) rfl), rfl⟩
theorem wd_458 : (Cond.methodLink "PrefixCodesModel" 113 ⟨"PrefixCodesModel", "kind", "(I)I"⟩ : Cond) ∈ gW := List.mem_filter.mpr ⟨gt5 _ (List.mem_of_getElem? (i := 66) rfl), rfl⟩
theorem wd_459 : (Cond.instanceMethod ⟨"PrefixCodesModel", "kind", "(I)I"⟩ : Cond) ∈ gW := List.mem_filter.mpr ⟨gt5 _ (List.mem_of_getElem? (i := 68) rfl), rfl⟩
theorem wd_460 : (Cond.selects "PrefixCodesModel" ⟨"PrefixCodesModel", "kind", "(I)I"⟩ ⟨"PrefixCodesModel", "kind", "(I)I"⟩ : Cond) ∈ gW := List.mem_filter.mpr ⟨gp3 (⟨"PrefixCodesModel", "kind", "(I)I"⟩, 33) (List.mem_of_getElem? (i := 9) rfl), rfl⟩
theorem wd_461 : (Cond.code ⟨"PrefixCodesModel", "wordOf", "(II)I"⟩ prog_13_method_14_code 7 (some .int) : Cond) ∈ gW := List.mem_filter.mpr ⟨gt5 _ (List.mem_of_getElem? (i := 90) rfl), rfl⟩
theorem wd_462 : (Cond.methodLink "PrefixCodesModel" 116 ⟨"PrefixCodesModel", "wordOf", "(II)I"⟩ : Cond) ∈ gW := List.mem_filter.mpr ⟨gt5 _ (List.mem_of_getElem? (i := 87) rfl), rfl⟩
theorem wd_463 : (Cond.instanceMethod ⟨"PrefixCodesModel", "wordOf", "(II)I"⟩ : Cond) ∈ gW := List.mem_filter.mpr ⟨gt5 _ (List.mem_of_getElem? (i := 89) rfl), rfl⟩
theorem wd_464 : (Cond.selects "PrefixCodesModel" ⟨"PrefixCodesModel", "wordOf", "(II)I"⟩ ⟨"PrefixCodesModel", "wordOf", "(II)I"⟩ : Cond) ∈ gW := List.mem_filter.mpr ⟨gp3 (⟨"PrefixCodesModel", "wordOf", "(II)I"⟩, 33) (List.mem_of_getElem? (i := 13) rfl), rfl⟩
theorem wd_465 : (Cond.code ⟨"PrefixCodesModel", "turn", "(II)I"⟩ prog_13_method_15_code 4 (some .int) : Cond) ∈ gW := List.mem_filter.mpr ⟨gt5 _ (List.mem_of_getElem? (i := 93) rfl), rfl⟩
theorem wd_466 : (Cond.methodLink "PrefixCodesModel" 119 ⟨"PrefixCodesModel", "turn", "(II)I"⟩ : Cond) ∈ gW := List.mem_filter.mpr ⟨gt5 _ (List.mem_of_getElem? (i := 91) rfl), rfl⟩
theorem wd_467 : (Cond.static ⟨"PrefixCodesModel", "turn", "(II)I"⟩ : Cond) ∈ gW := List.mem_filter.mpr ⟨gt5 _ (List.mem_of_getElem? (i := 92) rfl), rfl⟩
theorem wd_468 : (Cond.constant "PrefixCodesModel" 122 (1000000 : Int32) : Cond) ∈ gW := List.mem_filter.mpr ⟨gt5 _ (List.mem_of_getElem? (i := 98) rfl), rfl⟩
theorem wd_469 : (Cond.fieldLink "PrefixCodesModel" 16 "PrefixCodesModel" "counts" "[I" : Cond) ∈ gW := List.mem_filter.mpr ⟨gt4 _ (List.mem_of_getElem? (i := 178) rfl), rfl⟩
theorem wd_470 : (Cond.fieldLink "PrefixCodesModel" 123 "PrefixCodesModel" "textSize" "I" : Cond) ∈ gW := List.mem_filter.mpr ⟨gt4 _ (List.mem_of_getElem? (i := 196) rfl), rfl⟩
theorem wd_471 : (Cond.fieldLink "PrefixCodesModel" 59 "PrefixCodesModel" "text" "[I" : Cond) ∈ gW := List.mem_filter.mpr ⟨gt4 _ (List.mem_of_getElem? (i := 195) rfl), rfl⟩
theorem wd_472 : (Cond.code ⟨"PrefixCodesModel", "different", "([II)I"⟩ prog_13_method_19_code 4 (some .int) : Cond) ∈ gW := List.mem_filter.mpr ⟨gt5 _ (List.mem_of_getElem? (i := 105) rfl), rfl⟩
theorem wd_473 : (Cond.methodLink "PrefixCodesModel" 126 ⟨"PrefixCodesModel", "different", "([II)I"⟩ : Cond) ∈ gW := List.mem_filter.mpr ⟨gt5 _ (List.mem_of_getElem? (i := 103) rfl), rfl⟩
theorem wd_474 : (Cond.static ⟨"PrefixCodesModel", "different", "([II)I"⟩ : Cond) ∈ gW := List.mem_filter.mpr ⟨gt5 _ (List.mem_of_getElem? (i := 104) rfl), rfl⟩
theorem wd_475 : (Cond.fieldLink "PrefixCodesModel" 29 "PrefixCodesModel" "rowSize" "[I" : Cond) ∈ gW := List.mem_filter.mpr ⟨gt4 _ (List.mem_of_getElem? (i := 182) rfl), rfl⟩
theorem wd_476 : (Cond.fieldLink "PrefixCodesModel" 19 "PrefixCodesModel" "weight" "[J" : Cond) ∈ gW := List.mem_filter.mpr ⟨gt4 _ (List.mem_of_getElem? (i := 179) rfl), rfl⟩
theorem wd_477 : (Cond.fieldLink "PrefixCodesModel" 23 "PrefixCodesModel" "item" "[I" : Cond) ∈ gW := List.mem_filter.mpr ⟨gt4 _ (List.mem_of_getElem? (i := 180) rfl), rfl⟩
theorem wd_478 : (Cond.fieldLink "PrefixCodesModel" 32 "PrefixCodesModel" "given" "[I" : Cond) ∈ gW := List.mem_filter.mpr ⟨gt4 _ (List.mem_of_getElem? (i := 183) rfl), rfl⟩
theorem wd_479 : (Cond.fieldLink "PrefixCodesModel" 26 "PrefixCodesModel" "often" "[I" : Cond) ∈ gW := List.mem_filter.mpr ⟨gt4 _ (List.mem_of_getElem? (i := 181) rfl), rfl⟩
theorem wd_480 : (Cond.code ⟨"PrefixCodesModel", "join", "(II)V"⟩ prog_13_method_21_code 12 none : Cond) ∈ gW := List.mem_filter.mpr ⟨gt5 _ (List.mem_of_getElem? (i := 117) rfl), rfl⟩
theorem wd_481 : (Cond.methodLink "PrefixCodesModel" 130 ⟨"PrefixCodesModel", "join", "(II)V"⟩ : Cond) ∈ gW := List.mem_filter.mpr ⟨gt5 _ (List.mem_of_getElem? (i := 114) rfl), rfl⟩
theorem wd_482 : (Cond.instanceMethod ⟨"PrefixCodesModel", "join", "(II)V"⟩ : Cond) ∈ gW := List.mem_filter.mpr ⟨gt5 _ (List.mem_of_getElem? (i := 116) rfl), rfl⟩
theorem wd_483 : (Cond.selects "PrefixCodesModel" ⟨"PrefixCodesModel", "join", "(II)V"⟩ ⟨"PrefixCodesModel", "join", "(II)V"⟩ : Cond) ∈ gW := List.mem_filter.mpr ⟨gp3 (⟨"PrefixCodesModel", "join", "(II)V"⟩, 33) (List.mem_of_getElem? (i := 15) rfl), rfl⟩
theorem wd_484 : (Cond.code ⟨"PrefixCodesModel", "packages", "(III)V"⟩ prog_13_method_20_code 11 none : Cond) ∈ gW := List.mem_filter.mpr ⟨gt5 _ (List.mem_of_getElem? (i := 113) rfl), rfl⟩
theorem wd_485 : (Cond.methodLink "PrefixCodesModel" 134 ⟨"PrefixCodesModel", "packages", "(III)V"⟩ : Cond) ∈ gW := List.mem_filter.mpr ⟨gt5 _ (List.mem_of_getElem? (i := 110) rfl), rfl⟩
theorem wd_486 : (Cond.instanceMethod ⟨"PrefixCodesModel", "packages", "(III)V"⟩ : Cond) ∈ gW := List.mem_filter.mpr ⟨gt5 _ (List.mem_of_getElem? (i := 112) rfl), rfl⟩
theorem wd_487 : (Cond.selects "PrefixCodesModel" ⟨"PrefixCodesModel", "packages", "(III)V"⟩ ⟨"PrefixCodesModel", "packages", "(III)V"⟩ : Cond) ∈ gW := List.mem_filter.mpr ⟨gp3 (⟨"PrefixCodesModel", "packages", "(III)V"⟩, 33) (List.mem_of_getElem? (i := 14) rfl), rfl⟩
theorem wd_488 : (Cond.constantLong "PrefixCodesModel" 138 (-101 : Int64) : Cond) ∈ gW := List.mem_filter.mpr ⟨gt5 _ (List.mem_of_getElem? (i := 122) rfl), rfl⟩
theorem wd_489 : (Cond.fieldLink "PrefixCodesModel" 140 "PrefixCodesModel" "to" "I" : Cond) ∈ gW := List.mem_filter.mpr ⟨gt4 _ (List.mem_of_getElem? (i := 186) rfl), rfl⟩
theorem wd_490 : (Cond.fieldLink "PrefixCodesModel" 143 "PrefixCodesModel" "from" "I" : Cond) ∈ gW := List.mem_filter.mpr ⟨gt4 _ (List.mem_of_getElem? (i := 185) rfl), rfl⟩
theorem wd_491 : (Cond.fieldLink "PrefixCodesModel" 36 "PrefixCodesModel" "stream" "[B" : Cond) ∈ gW := List.mem_filter.mpr ⟨gt4 _ (List.mem_of_getElem? (i := 184) rfl), rfl⟩
theorem wd_492 : (Cond.constant "PrefixCodesModel" 35 (60000 : Int32) : Cond) ∈ gW := List.mem_filter.mpr ⟨gt4 _ (List.mem_of_getElem? (i := 172) rfl), rfl⟩
theorem wd_493 : (Cond.code ⟨"PrefixCodesModel", "hasRoom", "(I)Z"⟩ prog_13_method_27_code 2 (some .boolean) : Cond) ∈ gW := List.mem_filter.mpr ⟨gt5 _ (List.mem_of_getElem? (i := 142) rfl), rfl⟩
theorem wd_494 : (Cond.methodLink "PrefixCodesModel" 146 ⟨"PrefixCodesModel", "hasRoom", "(I)Z"⟩ : Cond) ∈ gW := List.mem_filter.mpr ⟨gt5 _ (List.mem_of_getElem? (i := 139) rfl), rfl⟩
theorem wd_495 : (Cond.instanceMethod ⟨"PrefixCodesModel", "hasRoom", "(I)Z"⟩ : Cond) ∈ gW := List.mem_filter.mpr ⟨gt5 _ (List.mem_of_getElem? (i := 141) rfl), rfl⟩
theorem wd_496 : (Cond.selects "PrefixCodesModel" ⟨"PrefixCodesModel", "hasRoom", "(I)Z"⟩ ⟨"PrefixCodesModel", "hasRoom", "(I)Z"⟩ : Cond) ∈ gW := List.mem_filter.mpr ⟨gp4 (⟨"PrefixCodesModel", "hasRoom", "(I)Z"⟩, 33) (List.mem_of_getElem? (i := 0) rfl), rfl⟩
theorem wd_497 : (Cond.code ⟨"PrefixCodesModel", "putBits", "(II)V"⟩ prog_13_method_28_code 4 none : Cond) ∈ gW := List.mem_filter.mpr ⟨gt5 _ (List.mem_of_getElem? (i := 146) rfl), rfl⟩
theorem wd_498 : (Cond.methodLink "PrefixCodesModel" 149 ⟨"PrefixCodesModel", "putBits", "(II)V"⟩ : Cond) ∈ gW := List.mem_filter.mpr ⟨gt5 _ (List.mem_of_getElem? (i := 143) rfl), rfl⟩
theorem wd_499 : (Cond.instanceMethod ⟨"PrefixCodesModel", "putBits", "(II)V"⟩ : Cond) ∈ gW := List.mem_filter.mpr ⟨gt5 _ (List.mem_of_getElem? (i := 145) rfl), rfl⟩
theorem wd_500 : (Cond.selects "PrefixCodesModel" ⟨"PrefixCodesModel", "putBits", "(II)V"⟩ ⟨"PrefixCodesModel", "putBits", "(II)V"⟩ : Cond) ∈ gW := List.mem_filter.mpr ⟨gp4 (⟨"PrefixCodesModel", "putBits", "(II)V"⟩, 33) (List.mem_of_getElem? (i := 1) rfl), rfl⟩
theorem wd_501 : (Cond.code ⟨"PrefixCodesModel", "word", "(IIZ)I"⟩ prog_13_method_16_code 6 (some .int) : Cond) ∈ gW := List.mem_filter.mpr ⟨gt5 _ (List.mem_of_getElem? (i := 86) rfl), rfl⟩
theorem wd_502 : (Cond.methodLink "PrefixCodesModel" 152 ⟨"PrefixCodesModel", "word", "(IIZ)I"⟩ : Cond) ∈ gW := List.mem_filter.mpr ⟨gt5 _ (List.mem_of_getElem? (i := 155) rfl), rfl⟩
theorem wd_503 : (Cond.instanceMethod ⟨"PrefixCodesModel", "word", "(IIZ)I"⟩ : Cond) ∈ gW := List.mem_filter.mpr ⟨gt5 _ (List.mem_of_getElem? (i := 84) rfl), rfl⟩
theorem wd_504 : (Cond.selects "PrefixCodesModel" ⟨"PrefixCodesModel", "word", "(IIZ)I"⟩ ⟨"PrefixCodesModel", "word", "(IIZ)I"⟩ : Cond) ∈ gW := List.mem_filter.mpr ⟨gt5 _ (List.mem_of_getElem? (i := 85) rfl), rfl⟩
theorem wd_505 : (Cond.code ⟨"PrefixCodesModel", "taken", "(IZ)I"⟩ prog_13_method_32_code 8 (some .int) : Cond) ∈ gW := List.mem_filter.mpr ⟨gt5 _ (List.mem_of_getElem? (i := 163) rfl), rfl⟩
theorem wd_506 : (Cond.methodLink "PrefixCodesModel" 156 ⟨"PrefixCodesModel", "taken", "(IZ)I"⟩ : Cond) ∈ gW := List.mem_filter.mpr ⟨gt5 _ (List.mem_of_getElem? (i := 160) rfl), rfl⟩
theorem wd_507 : (Cond.instanceMethod ⟨"PrefixCodesModel", "taken", "(IZ)I"⟩ : Cond) ∈ gW := List.mem_filter.mpr ⟨gt5 _ (List.mem_of_getElem? (i := 162) rfl), rfl⟩
theorem wd_508 : (Cond.selects "PrefixCodesModel" ⟨"PrefixCodesModel", "taken", "(IZ)I"⟩ ⟨"PrefixCodesModel", "taken", "(IZ)I"⟩ : Cond) ∈ gW := List.mem_filter.mpr ⟨gp4 (⟨"PrefixCodesModel", "taken", "(IZ)I"⟩, 33) (List.mem_of_getElem? (i := 2) rfl), rfl⟩
theorem wd_509 : (Cond.fieldLink "PrefixCodesModel" 40 "PrefixCodesModel" "command" "[I" : Cond) ∈ gW := List.mem_filter.mpr ⟨gt4 _ (List.mem_of_getElem? (i := 187) rfl), rfl⟩
theorem wd_510 : (Cond.fieldLink "PrefixCodesModel" 160 "PrefixCodesModel" "commands" "I" : Cond) ∈ gW := List.mem_filter.mpr ⟨gt4 _ (List.mem_of_getElem? (i := 189) rfl), rfl⟩
theorem wd_511 : (Cond.fieldLink "PrefixCodesModel" 43 "PrefixCodesModel" "more" "[I" : Cond) ∈ gW := List.mem_filter.mpr ⟨gt4 _ (List.mem_of_getElem? (i := 188) rfl), rfl⟩
theorem wd_512 : (Cond.code ⟨"PrefixCodesModel", "tell", "(II)V"⟩ prog_13_method_36_code 3 none : Cond) ∈ gW := List.mem_filter.mpr ⟨gt5 _ (List.mem_of_getElem? (i := 183) rfl), rfl⟩
theorem wd_513 : (Cond.methodLink "PrefixCodesModel" 163 ⟨"PrefixCodesModel", "tell", "(II)V"⟩ : Cond) ∈ gW := List.mem_filter.mpr ⟨gt5 _ (List.mem_of_getElem? (i := 180) rfl), rfl⟩
theorem wd_514 : (Cond.instanceMethod ⟨"PrefixCodesModel", "tell", "(II)V"⟩ : Cond) ∈ gW := List.mem_filter.mpr ⟨gt5 _ (List.mem_of_getElem? (i := 182) rfl), rfl⟩
theorem wd_515 : (Cond.selects "PrefixCodesModel" ⟨"PrefixCodesModel", "tell", "(II)V"⟩ ⟨"PrefixCodesModel", "tell", "(II)V"⟩ : Cond) ∈ gW := List.mem_filter.mpr ⟨gp4 (⟨"PrefixCodesModel", "tell", "(II)V"⟩, 33) (List.mem_of_getElem? (i := 6) rfl), rfl⟩
theorem wd_516 : (Cond.code ⟨"PrefixCodesModel", "fillCommands", "(I)V"⟩ prog_13_method_37_code 7 none : Cond) ∈ gW := List.mem_filter.mpr ⟨gt5 _ (List.mem_of_getElem? (i := 179) rfl), rfl⟩
theorem wd_517 : (Cond.methodLink "PrefixCodesModel" 169 ⟨"PrefixCodesModel", "fillCommands", "(I)V"⟩ : Cond) ∈ gW := List.mem_filter.mpr ⟨gt5 _ (List.mem_of_getElem? (i := 176) rfl), rfl⟩
theorem wd_518 : (Cond.instanceMethod ⟨"PrefixCodesModel", "fillCommands", "(I)V"⟩ : Cond) ∈ gW := List.mem_filter.mpr ⟨gt5 _ (List.mem_of_getElem? (i := 178) rfl), rfl⟩
theorem wd_519 : (Cond.selects "PrefixCodesModel" ⟨"PrefixCodesModel", "fillCommands", "(I)V"⟩ ⟨"PrefixCodesModel", "fillCommands", "(I)V"⟩ : Cond) ∈ gW := List.mem_filter.mpr ⟨gp4 (⟨"PrefixCodesModel", "fillCommands", "(I)V"⟩, 33) (List.mem_of_getElem? (i := 5) rfl), rfl⟩
theorem wd_520 : (Cond.code ⟨"PrefixCodesModel", "extra", "(I)I"⟩ prog_13_method_35_code 1 (some .int) : Cond) ∈ gW := List.mem_filter.mpr ⟨gt5 _ (List.mem_of_getElem? (i := 189) rfl), rfl⟩
theorem wd_521 : (Cond.methodLink "PrefixCodesModel" 176 ⟨"PrefixCodesModel", "extra", "(I)I"⟩ : Cond) ∈ gW := List.mem_filter.mpr ⟨gt5 _ (List.mem_of_getElem? (i := 187) rfl), rfl⟩
theorem wd_522 : (Cond.static ⟨"PrefixCodesModel", "extra", "(I)I"⟩ : Cond) ∈ gW := List.mem_filter.mpr ⟨gt5 _ (List.mem_of_getElem? (i := 188) rfl), rfl⟩
theorem wd_523 : (Cond.code ⟨"PrefixCodesModel", "orderOf", "(I)I"⟩ prog_13_method_34_code 1 (some .int) : Cond) ∈ gW := List.mem_filter.mpr ⟨gt5 _ (List.mem_of_getElem? (i := 186) rfl), rfl⟩
theorem wd_524 : (Cond.methodLink "PrefixCodesModel" 173 ⟨"PrefixCodesModel", "orderOf", "(I)I"⟩ : Cond) ∈ gW := List.mem_filter.mpr ⟨gt5 _ (List.mem_of_getElem? (i := 184) rfl), rfl⟩
theorem wd_525 : (Cond.static ⟨"PrefixCodesModel", "orderOf", "(I)I"⟩ : Cond) ∈ gW := List.mem_filter.mpr ⟨gt5 _ (List.mem_of_getElem? (i := 185) rfl), rfl⟩
theorem wd_526 : (Cond.code ⟨"PrefixCodesModel", "runs", "(IZ)I"⟩ prog_13_method_39_code 8 (some .int) : Cond) ∈ gW := List.mem_filter.mpr ⟨gt5 _ (List.mem_of_getElem? (i := 175) rfl), rfl⟩
theorem wd_527 : (Cond.methodLink "PrefixCodesModel" 166 ⟨"PrefixCodesModel", "runs", "(IZ)I"⟩ : Cond) ∈ gW := List.mem_filter.mpr ⟨gt5 _ (List.mem_of_getElem? (i := 172) rfl), rfl⟩
theorem wd_528 : (Cond.instanceMethod ⟨"PrefixCodesModel", "runs", "(IZ)I"⟩ : Cond) ∈ gW := List.mem_filter.mpr ⟨gt5 _ (List.mem_of_getElem? (i := 174) rfl), rfl⟩
theorem wd_529 : (Cond.selects "PrefixCodesModel" ⟨"PrefixCodesModel", "runs", "(IZ)I"⟩ ⟨"PrefixCodesModel", "runs", "(IZ)I"⟩ : Cond) ∈ gW := List.mem_filter.mpr ⟨gp4 (⟨"PrefixCodesModel", "runs", "(IZ)I"⟩, 33) (List.mem_of_getElem? (i := 4) rfl), rfl⟩
theorem wd_530 : (Cond.code ⟨"PrefixCodesModel", "packed", "(IIZ)I"⟩ prog_13_method_38_code 9 (some .int) : Cond) ∈ gW := List.mem_filter.mpr ⟨gt5 _ (List.mem_of_getElem? (i := 171) rfl), rfl⟩
theorem wd_531 : (Cond.methodLink "PrefixCodesModel" 179 ⟨"PrefixCodesModel", "packed", "(IIZ)I"⟩ : Cond) ∈ gW := List.mem_filter.mpr ⟨gt5 _ (List.mem_of_getElem? (i := 168) rfl), rfl⟩
theorem wd_532 : (Cond.instanceMethod ⟨"PrefixCodesModel", "packed", "(IIZ)I"⟩ : Cond) ∈ gW := List.mem_filter.mpr ⟨gt5 _ (List.mem_of_getElem? (i := 170) rfl), rfl⟩
theorem wd_533 : (Cond.selects "PrefixCodesModel" ⟨"PrefixCodesModel", "packed", "(IIZ)I"⟩ ⟨"PrefixCodesModel", "packed", "(IIZ)I"⟩ : Cond) ∈ gW := List.mem_filter.mpr ⟨gp4 (⟨"PrefixCodesModel", "packed", "(IIZ)I"⟩, 33) (List.mem_of_getElem? (i := 3) rfl), rfl⟩
theorem wd_534 : (Cond.fieldLink "PrefixCodesModel" 46 "PrefixCodesModel" "read" "[I" : Cond) ∈ gW := List.mem_filter.mpr ⟨gt4 _ (List.mem_of_getElem? (i := 190) rfl), rfl⟩
theorem wd_535 : (Cond.code ⟨"PrefixCodesModel", "takeNumber", "(I)I"⟩ prog_13_method_30_code 4 (some .int) : Cond) ∈ gW := List.mem_filter.mpr ⟨gt5 _ (List.mem_of_getElem? (i := 150) rfl), rfl⟩
theorem wd_536 : (Cond.methodLink "PrefixCodesModel" 191 ⟨"PrefixCodesModel", "takeNumber", "(I)I"⟩ : Cond) ∈ gW := List.mem_filter.mpr ⟨gt5 _ (List.mem_of_getElem? (i := 198) rfl), rfl⟩
theorem wd_537 : (Cond.instanceMethod ⟨"PrefixCodesModel", "takeNumber", "(I)I"⟩ : Cond) ∈ gW := List.mem_filter.mpr ⟨gt5 _ (List.mem_of_getElem? (i := 148) rfl), rfl⟩
theorem wd_538 : (Cond.selects "PrefixCodesModel" ⟨"PrefixCodesModel", "takeNumber", "(I)I"⟩ ⟨"PrefixCodesModel", "takeNumber", "(I)I"⟩ : Cond) ∈ gW := List.mem_filter.mpr ⟨gt5 _ (List.mem_of_getElem? (i := 149) rfl), rfl⟩
theorem wd_539 : (Cond.code ⟨"PrefixCodesModel", "readRuns", "(I)I"⟩ prog_13_method_44_code 10 (some .int) : Cond) ∈ gW := List.mem_filter.mpr ⟨gt5 _ (List.mem_of_getElem? (i := 206) rfl), rfl⟩
theorem wd_540 : (Cond.methodLink "PrefixCodesModel" 188 ⟨"PrefixCodesModel", "readRuns", "(I)I"⟩ : Cond) ∈ gW := List.mem_filter.mpr ⟨gt5 _ (List.mem_of_getElem? (i := 203) rfl), rfl⟩
theorem wd_541 : (Cond.instanceMethod ⟨"PrefixCodesModel", "readRuns", "(I)I"⟩ : Cond) ∈ gW := List.mem_filter.mpr ⟨gt5 _ (List.mem_of_getElem? (i := 205) rfl), rfl⟩
theorem wd_542 : (Cond.selects "PrefixCodesModel" ⟨"PrefixCodesModel", "readRuns", "(I)I"⟩ ⟨"PrefixCodesModel", "readRuns", "(I)I"⟩ : Cond) ∈ gW := List.mem_filter.mpr ⟨gp4 (⟨"PrefixCodesModel", "readRuns", "(I)I"⟩, 33) (List.mem_of_getElem? (i := 9) rfl), rfl⟩
theorem wd_543 : (Cond.code ⟨"PrefixCodesModel", "steps", "(I)I"⟩ prog_13_method_43_code 6 (some .int) : Cond) ∈ gW := List.mem_filter.mpr ⟨gt5 _ (List.mem_of_getElem? (i := 202) rfl), rfl⟩
theorem wd_544 : (Cond.methodLink "PrefixCodesModel" 185 ⟨"PrefixCodesModel", "steps", "(I)I"⟩ : Cond) ∈ gW := List.mem_filter.mpr ⟨gt5 _ (List.mem_of_getElem? (i := 199) rfl), rfl⟩
theorem wd_545 : (Cond.instanceMethod ⟨"PrefixCodesModel", "steps", "(I)I"⟩ : Cond) ∈ gW := List.mem_filter.mpr ⟨gt5 _ (List.mem_of_getElem? (i := 201) rfl), rfl⟩
theorem wd_546 : (Cond.selects "PrefixCodesModel" ⟨"PrefixCodesModel", "steps", "(I)I"⟩ ⟨"PrefixCodesModel", "steps", "(I)I"⟩ : Cond) ∈ gW := List.mem_filter.mpr ⟨gp4 (⟨"PrefixCodesModel", "steps", "(I)I"⟩, 33) (List.mem_of_getElem? (i := 8) rfl), rfl⟩
theorem wd_547 : (Cond.code ⟨"PrefixCodesModel", "plain", "(I)I"⟩ prog_13_method_42_code 4 (some .int) : Cond) ∈ gW := List.mem_filter.mpr ⟨gt5 _ (List.mem_of_getElem? (i := 197) rfl), rfl⟩
theorem wd_548 : (Cond.methodLink "PrefixCodesModel" 182 ⟨"PrefixCodesModel", "plain", "(I)I"⟩ : Cond) ∈ gW := List.mem_filter.mpr ⟨gt5 _ (List.mem_of_getElem? (i := 194) rfl), rfl⟩
theorem wd_549 : (Cond.instanceMethod ⟨"PrefixCodesModel", "plain", "(I)I"⟩ : Cond) ∈ gW := List.mem_filter.mpr ⟨gt5 _ (List.mem_of_getElem? (i := 196) rfl), rfl⟩
theorem wd_550 : (Cond.selects "PrefixCodesModel" ⟨"PrefixCodesModel", "plain", "(I)I"⟩ ⟨"PrefixCodesModel", "plain", "(I)I"⟩ : Cond) ∈ gW := List.mem_filter.mpr ⟨gp4 (⟨"PrefixCodesModel", "plain", "(I)I"⟩, 33) (List.mem_of_getElem? (i := 7) rfl), rfl⟩
theorem wd_551 : (Cond.fieldLink "PrefixCodesModel" 50 "PrefixCodesModel" "entryKind" "[B" : Cond) ∈ gW := List.mem_filter.mpr ⟨gt4 _ (List.mem_of_getElem? (i := 191) rfl), rfl⟩
theorem wd_552 : (Cond.fieldLink "PrefixCodesModel" 53 "PrefixCodesModel" "entryWhat" "[I" : Cond) ∈ gW := List.mem_filter.mpr ⟨gt4 _ (List.mem_of_getElem? (i := 192) rfl), rfl⟩
theorem wd_553 : (Cond.fieldLink "PrefixCodesModel" 56 "PrefixCodesModel" "entryBits" "[I" : Cond) ∈ gW := List.mem_filter.mpr ⟨gt4 _ (List.mem_of_getElem? (i := 193) rfl), rfl⟩
theorem wd_554 : (Cond.code ⟨"PrefixCodesModel", "putEntry", "(IIII)V"⟩ prog_13_method_47_code 5 none : Cond) ∈ gW := List.mem_filter.mpr ⟨gt5 _ (List.mem_of_getElem? (i := 218) rfl), rfl⟩
theorem wd_555 : (Cond.methodLink "PrefixCodesModel" 200 ⟨"PrefixCodesModel", "putEntry", "(IIII)V"⟩ : Cond) ∈ gW := List.mem_filter.mpr ⟨gt5 _ (List.mem_of_getElem? (i := 215) rfl), rfl⟩
theorem wd_556 : (Cond.instanceMethod ⟨"PrefixCodesModel", "putEntry", "(IIII)V"⟩ : Cond) ∈ gW := List.mem_filter.mpr ⟨gt5 _ (List.mem_of_getElem? (i := 217) rfl), rfl⟩
theorem wd_557 : (Cond.selects "PrefixCodesModel" ⟨"PrefixCodesModel", "putEntry", "(IIII)V"⟩ ⟨"PrefixCodesModel", "putEntry", "(IIII)V"⟩ : Cond) ∈ gW := List.mem_filter.mpr ⟨gp4 (⟨"PrefixCodesModel", "putEntry", "(IIII)V"⟩, 33) (List.mem_of_getElem? (i := 11) rfl), rfl⟩
theorem wd_558 : (Cond.fieldLink "PrefixCodesModel" 194 "PrefixCodesModel" "entries" "I" : Cond) ∈ gW := List.mem_filter.mpr ⟨gt4 _ (List.mem_of_getElem? (i := 194) rfl), rfl⟩
theorem wd_559 : (Cond.code ⟨"PrefixCodesModel", "clearEntries", "(II)V"⟩ prog_13_method_46_code 4 none : Cond) ∈ gW := List.mem_filter.mpr ⟨gt5 _ (List.mem_of_getElem? (i := 214) rfl), rfl⟩
theorem wd_560 : (Cond.methodLink "PrefixCodesModel" 197 ⟨"PrefixCodesModel", "clearEntries", "(II)V"⟩ : Cond) ∈ gW := List.mem_filter.mpr ⟨gt5 _ (List.mem_of_getElem? (i := 211) rfl), rfl⟩
theorem wd_561 : (Cond.instanceMethod ⟨"PrefixCodesModel", "clearEntries", "(II)V"⟩ : Cond) ∈ gW := List.mem_filter.mpr ⟨gt5 _ (List.mem_of_getElem? (i := 213) rfl), rfl⟩
theorem wd_562 : (Cond.selects "PrefixCodesModel" ⟨"PrefixCodesModel", "clearEntries", "(II)V"⟩ ⟨"PrefixCodesModel", "clearEntries", "(II)V"⟩ : Cond) ∈ gW := List.mem_filter.mpr ⟨gp4 (⟨"PrefixCodesModel", "clearEntries", "(II)V"⟩, 33) (List.mem_of_getElem? (i := 10) rfl), rfl⟩
theorem wd_563 : (Cond.code ⟨"PrefixCodesModel", "part", "(IIII)V"⟩ prog_13_method_48_code 11 none : Cond) ∈ gW := List.mem_filter.mpr ⟨gt5 _ (List.mem_of_getElem? (i := 222) rfl), rfl⟩
theorem wd_564 : (Cond.methodLink "PrefixCodesModel" 204 ⟨"PrefixCodesModel", "part", "(IIII)V"⟩ : Cond) ∈ gW := List.mem_filter.mpr ⟨gt5 _ (List.mem_of_getElem? (i := 219) rfl), rfl⟩
theorem wd_565 : (Cond.instanceMethod ⟨"PrefixCodesModel", "part", "(IIII)V"⟩ : Cond) ∈ gW := List.mem_filter.mpr ⟨gt5 _ (List.mem_of_getElem? (i := 221) rfl), rfl⟩
theorem wd_566 : (Cond.selects "PrefixCodesModel" ⟨"PrefixCodesModel", "part", "(IIII)V"⟩ ⟨"PrefixCodesModel", "part", "(IIII)V"⟩ : Cond) ∈ gW := List.mem_filter.mpr ⟨gp4 (⟨"PrefixCodesModel", "part", "(IIII)V"⟩, 33) (List.mem_of_getElem? (i := 12) rfl), rfl⟩
theorem wd_567 : (Cond.code ⟨"PrefixCodesModel", "at", "(IIIIII)I"⟩ prog_13_method_51_code 6 (some .int) : Cond) ∈ gW := List.mem_filter.mpr ⟨gt5 _ (List.mem_of_getElem? (i := 233) rfl), rfl⟩
theorem wd_568 : (Cond.methodLink "PrefixCodesModel" 207 ⟨"PrefixCodesModel", "at", "(IIIIII)I"⟩ : Cond) ∈ gW := List.mem_filter.mpr ⟨gt5 _ (List.mem_of_getElem? (i := 231) rfl), rfl⟩
theorem wd_569 : (Cond.static ⟨"PrefixCodesModel", "at", "(IIIIII)I"⟩ : Cond) ∈ gW := List.mem_filter.mpr ⟨gt5 _ (List.mem_of_getElem? (i := 232) rfl), rfl⟩
theorem wd_570 : (Cond.fieldLink "PrefixCodesModel" 211 "PrefixCodesModel" "groups" "I" : Cond) ∈ gW := List.mem_filter.mpr ⟨gt4 _ (List.mem_of_getElem? (i := 200) rfl), rfl⟩
theorem wd_571 : (Cond.fieldLink "PrefixCodesModel" 214 "PrefixCodesModel" "chosenCodes" "I" : Cond) ∈ gW := List.mem_filter.mpr ⟨gt4 _ (List.mem_of_getElem? (i := 198) rfl), rfl⟩
theorem wd_572 : (Cond.fieldLink "PrefixCodesModel" 217 "PrefixCodesModel" "thenSize" "I" : Cond) ∈ gW := List.mem_filter.mpr ⟨gt4 _ (List.mem_of_getElem? (i := 203) rfl), rfl⟩
theorem wd_573 : (Cond.fieldLink "PrefixCodesModel" 69 "PrefixCodesModel" "then" "[I" : Cond) ∈ gW := List.mem_filter.mpr ⟨gt4 _ (List.mem_of_getElem? (i := 202) rfl), rfl⟩
theorem wd_574 : (Cond.fieldLink "PrefixCodesModel" 66 "PrefixCodesModel" "groupCode" "[I" : Cond) ∈ gW := List.mem_filter.mpr ⟨gt4 _ (List.mem_of_getElem? (i := 201) rfl), rfl⟩
theorem wd_575 : (Cond.fieldLink "PrefixCodesModel" 220 "PrefixCodesModel" "chosenSize" "I" : Cond) ∈ gW := List.mem_filter.mpr ⟨gt4 _ (List.mem_of_getElem? (i := 199) rfl), rfl⟩
theorem wd_576 : (Cond.fieldLink "PrefixCodesModel" 62 "PrefixCodesModel" "chosen" "I" : Cond) ∈ gW := List.mem_filter.mpr ⟨gt4 _ (List.mem_of_getElem? (i := 197) rfl), rfl⟩
theorem wd_577 : (Cond.code ⟨"PrefixCodesModel", "make", "(I)V"⟩ prog_13_method_54_code 4 none : Cond) ∈ gW := List.mem_filter.mpr ⟨gt6 _ (List.mem_of_getElem? (i := 9) rfl), rfl⟩
theorem wd_578 : (Cond.methodLink "PrefixCodesModel" 226 ⟨"PrefixCodesModel", "make", "(I)V"⟩ : Cond) ∈ gW := List.mem_filter.mpr ⟨gt6 _ (List.mem_of_getElem? (i := 6) rfl), rfl⟩
theorem wd_579 : (Cond.instanceMethod ⟨"PrefixCodesModel", "make", "(I)V"⟩ : Cond) ∈ gW := List.mem_filter.mpr ⟨gt6 _ (List.mem_of_getElem? (i := 8) rfl), rfl⟩
theorem wd_580 : (Cond.selects "PrefixCodesModel" ⟨"PrefixCodesModel", "make", "(I)V"⟩ ⟨"PrefixCodesModel", "make", "(I)V"⟩ : Cond) ∈ gW := List.mem_filter.mpr ⟨gp4 (⟨"PrefixCodesModel", "make", "(I)V"⟩, 33) (List.mem_of_getElem? (i := 14) rfl), rfl⟩
theorem wd_581 : (Cond.code ⟨"PrefixCodesModel", "best", "(I)I"⟩ prog_13_method_56_code 7 (some .int) : Cond) ∈ gW := List.mem_filter.mpr ⟨gt6 _ (List.mem_of_getElem? (i := 13) rfl), rfl⟩
theorem wd_582 : (Cond.methodLink "PrefixCodesModel" 229 ⟨"PrefixCodesModel", "best", "(I)I"⟩ : Cond) ∈ gW := List.mem_filter.mpr ⟨gt6 _ (List.mem_of_getElem? (i := 10) rfl), rfl⟩
theorem wd_583 : (Cond.instanceMethod ⟨"PrefixCodesModel", "best", "(I)I"⟩ : Cond) ∈ gW := List.mem_filter.mpr ⟨gt6 _ (List.mem_of_getElem? (i := 12) rfl), rfl⟩
theorem wd_584 : (Cond.selects "PrefixCodesModel" ⟨"PrefixCodesModel", "best", "(I)I"⟩ ⟨"PrefixCodesModel", "best", "(I)I"⟩ : Cond) ∈ gW := List.mem_filter.mpr ⟨gp4 (⟨"PrefixCodesModel", "best", "(I)I"⟩, 33) (List.mem_of_getElem? (i := 15) rfl), rfl⟩
theorem wd_585 : (Cond.code ⟨"PrefixCodesModel", "groupOf", "(II)I"⟩ prog_13_method_53_code 3 (some .int) : Cond) ∈ gW := List.mem_filter.mpr ⟨gt6 _ (List.mem_of_getElem? (i := 5) rfl), rfl⟩
theorem wd_586 : (Cond.methodLink "PrefixCodesModel" 223 ⟨"PrefixCodesModel", "groupOf", "(II)I"⟩ : Cond) ∈ gW := List.mem_filter.mpr ⟨gt6 _ (List.mem_of_getElem? (i := 2) rfl), rfl⟩
theorem wd_587 : (Cond.instanceMethod ⟨"PrefixCodesModel", "groupOf", "(II)I"⟩ : Cond) ∈ gW := List.mem_filter.mpr ⟨gt6 _ (List.mem_of_getElem? (i := 4) rfl), rfl⟩
theorem wd_588 : (Cond.selects "PrefixCodesModel" ⟨"PrefixCodesModel", "groupOf", "(II)I"⟩ ⟨"PrefixCodesModel", "groupOf", "(II)I"⟩ : Cond) ∈ gW := List.mem_filter.mpr ⟨gp4 (⟨"PrefixCodesModel", "groupOf", "(II)I"⟩, 33) (List.mem_of_getElem? (i := 13) rfl), rfl⟩
theorem wd_589 : (Cond.fieldLink "PrefixCodesModel" 72 "PrefixCodesModel" "places" "[I" : Cond) ∈ gW := List.mem_filter.mpr ⟨gt4 _ (List.mem_of_getElem? (i := 204) rfl), rfl⟩
theorem wd_590 : (Cond.code ⟨"PrefixCodesModel", "begin", "(I)V"⟩ prog_13_method_58_code 3 none : Cond) ∈ gW := List.mem_filter.mpr ⟨gt6 _ (List.mem_of_getElem? (i := 25) rfl), rfl⟩
theorem wd_591 : (Cond.methodLink "PrefixCodesModel" 232 ⟨"PrefixCodesModel", "begin", "(I)V"⟩ : Cond) ∈ gW := List.mem_filter.mpr ⟨gt6 _ (List.mem_of_getElem? (i := 22) rfl), rfl⟩
theorem wd_592 : (Cond.instanceMethod ⟨"PrefixCodesModel", "begin", "(I)V"⟩ : Cond) ∈ gW := List.mem_filter.mpr ⟨gt6 _ (List.mem_of_getElem? (i := 24) rfl), rfl⟩
theorem wd_593 : (Cond.selects "PrefixCodesModel" ⟨"PrefixCodesModel", "begin", "(I)V"⟩ ⟨"PrefixCodesModel", "begin", "(I)V"⟩ : Cond) ∈ gW := List.mem_filter.mpr ⟨gp5 (⟨"PrefixCodesModel", "begin", "(I)V"⟩, 33) (List.mem_of_getElem? (i := 0) rfl), rfl⟩
theorem wd_594 : (Cond.code ⟨"PrefixCodesModel", "front", "(I)I"⟩ prog_13_method_59_code 4 (some .int) : Cond) ∈ gW := List.mem_filter.mpr ⟨gt6 _ (List.mem_of_getElem? (i := 29) rfl), rfl⟩
theorem wd_595 : (Cond.methodLink "PrefixCodesModel" 235 ⟨"PrefixCodesModel", "front", "(I)I"⟩ : Cond) ∈ gW := List.mem_filter.mpr ⟨gt6 _ (List.mem_of_getElem? (i := 26) rfl), rfl⟩
theorem wd_596 : (Cond.instanceMethod ⟨"PrefixCodesModel", "front", "(I)I"⟩ : Cond) ∈ gW := List.mem_filter.mpr ⟨gt6 _ (List.mem_of_getElem? (i := 28) rfl), rfl⟩
theorem wd_597 : (Cond.selects "PrefixCodesModel" ⟨"PrefixCodesModel", "front", "(I)I"⟩ ⟨"PrefixCodesModel", "front", "(I)I"⟩ : Cond) ∈ gW := List.mem_filter.mpr ⟨gp5 (⟨"PrefixCodesModel", "front", "(I)I"⟩, 33) (List.mem_of_getElem? (i := 1) rfl), rfl⟩
theorem wd_598 : (Cond.fieldLink "PrefixCodesModel" 75 "PrefixCodesModel" "readGroup" "[I" : Cond) ∈ gW := List.mem_filter.mpr ⟨gt4 _ (List.mem_of_getElem? (i := 205) rfl), rfl⟩
theorem wd_599 : (Cond.fieldLink "PrefixCodesModel" 78 "PrefixCodesModel" "readText" "[I" : Cond) ∈ gW := List.mem_filter.mpr ⟨gt4 _ (List.mem_of_getElem? (i := 206) rfl), rfl⟩
theorem wd_600 : (Cond.laysFinal "PrefixCodes" "PrefixCodes" "codes" "[LPrefixCodes$Code;" : Cond) ∈ gW := List.mem_filter.mpr ⟨gt2 _ (List.mem_of_getElem? (i := 99) rfl), rfl⟩
theorem wd_601 : (Cond.lays "PrefixCodes" "PrefixCodes" "codesMade" "I" : Cond) ∈ gW := List.mem_filter.mpr ⟨gt2 _ (List.mem_of_getElem? (i := 101) rfl), rfl⟩
theorem wd_602 : (Cond.laysFinal "PrefixCodes" "PrefixCodes" "counts" "[I" : Cond) ∈ gW := List.mem_filter.mpr ⟨gt2 _ (List.mem_of_getElem? (i := 103) rfl), rfl⟩
theorem wd_603 : (Cond.laysFinal "PrefixCodes" "PrefixCodes" "stream" "LPrefixCodes$Stream;" : Cond) ∈ gW := List.mem_filter.mpr ⟨gt2 _ (List.mem_of_getElem? (i := 105) rfl), rfl⟩
theorem wd_604 : (Cond.laysFinal "PrefixCodes" "PrefixCodes" "packages" "LPrefixCodes$Packages;" : Cond) ∈ gW := List.mem_filter.mpr ⟨gt2 _ (List.mem_of_getElem? (i := 107) rfl), rfl⟩
theorem wd_605 : (Cond.laysFinal "PrefixCodes" "PrefixCodes" "manners" "LPrefixCodes$Manners;" : Cond) ∈ gW := List.mem_filter.mpr ⟨gt2 _ (List.mem_of_getElem? (i := 109) rfl), rfl⟩
theorem wd_606 : (Cond.laysFinal "PrefixCodes" "PrefixCodes" "lastTable" "LPrefixCodes$Table;" : Cond) ∈ gW := List.mem_filter.mpr ⟨gt2 _ (List.mem_of_getElem? (i := 111) rfl), rfl⟩
theorem wd_607 : (Cond.laysFinal "PrefixCodes" "PrefixCodes" "text" "LPrefixCodes$Text;" : Cond) ∈ gW := List.mem_filter.mpr ⟨gt2 _ (List.mem_of_getElem? (i := 113) rfl), rfl⟩
theorem wd_608 : (Cond.laysFinal "PrefixCodes" "PrefixCodes" "choice" "LPrefixCodes$Choice;" : Cond) ∈ gW := List.mem_filter.mpr ⟨gt2 _ (List.mem_of_getElem? (i := 115) rfl), rfl⟩
theorem wd_609 : (Cond.laysFinal "PrefixCodes" "PrefixCodes" "reader" "LPrefixCodes$Reader;" : Cond) ∈ gW := List.mem_filter.mpr ⟨gt2 _ (List.mem_of_getElem? (i := 117) rfl), rfl⟩
theorem wd_610 : (Cond.lays "PrefixCodesModel" "PrefixCodesModel" "thrown" "I" : Cond) ∈ gW := List.mem_filter.mpr ⟨gt4 _ (List.mem_of_getElem? (i := 207) rfl), rfl⟩
theorem wd_611 : (Cond.lays "PrefixCodesModel" "PrefixCodesModel" "codes" "I" : Cond) ∈ gW := List.mem_filter.mpr ⟨gt4 _ (List.mem_of_getElem? (i := 209) rfl), rfl⟩
theorem wd_612 : (Cond.laysFinal "PrefixCodesModel" "PrefixCodesModel" "symbols" "[I" : Cond) ∈ gW := List.mem_filter.mpr ⟨gt4 _ (List.mem_of_getElem? (i := 211) rfl), rfl⟩
theorem wd_613 : (Cond.laysFinal "PrefixCodesModel" "PrefixCodesModel" "lengths" "[I" : Cond) ∈ gW := List.mem_filter.mpr ⟨gt4 _ (List.mem_of_getElem? (i := 213) rfl), rfl⟩
theorem wd_614 : (Cond.laysFinal "PrefixCodesModel" "PrefixCodesModel" "counts" "[I" : Cond) ∈ gW := List.mem_filter.mpr ⟨gt4 _ (List.mem_of_getElem? (i := 215) rfl), rfl⟩
theorem wd_615 : (Cond.laysFinal "PrefixCodesModel" "PrefixCodesModel" "weight" "[J" : Cond) ∈ gW := List.mem_filter.mpr ⟨gt4 _ (List.mem_of_getElem? (i := 217) rfl), rfl⟩
theorem wd_616 : (Cond.laysFinal "PrefixCodesModel" "PrefixCodesModel" "item" "[I" : Cond) ∈ gW := List.mem_filter.mpr ⟨gt4 _ (List.mem_of_getElem? (i := 219) rfl), rfl⟩
theorem wd_617 : (Cond.laysFinal "PrefixCodesModel" "PrefixCodesModel" "often" "[I" : Cond) ∈ gW := List.mem_filter.mpr ⟨gt4 _ (List.mem_of_getElem? (i := 221) rfl), rfl⟩
theorem wd_618 : (Cond.laysFinal "PrefixCodesModel" "PrefixCodesModel" "rowSize" "[I" : Cond) ∈ gW := List.mem_filter.mpr ⟨gt4 _ (List.mem_of_getElem? (i := 223) rfl), rfl⟩
theorem wd_619 : (Cond.laysFinal "PrefixCodesModel" "PrefixCodesModel" "given" "[I" : Cond) ∈ gW := List.mem_filter.mpr ⟨gt4 _ (List.mem_of_getElem? (i := 225) rfl), rfl⟩
theorem wd_620 : (Cond.laysFinal "PrefixCodesModel" "PrefixCodesModel" "stream" "[B" : Cond) ∈ gW := List.mem_filter.mpr ⟨gt4 _ (List.mem_of_getElem? (i := 227) rfl), rfl⟩
theorem wd_621 : (Cond.lays "PrefixCodesModel" "PrefixCodesModel" "from" "I" : Cond) ∈ gW := List.mem_filter.mpr ⟨gt4 _ (List.mem_of_getElem? (i := 229) rfl), rfl⟩
theorem wd_622 : (Cond.lays "PrefixCodesModel" "PrefixCodesModel" "to" "I" : Cond) ∈ gW := List.mem_filter.mpr ⟨gt4 _ (List.mem_of_getElem? (i := 231) rfl), rfl⟩
theorem wd_623 : (Cond.laysFinal "PrefixCodesModel" "PrefixCodesModel" "command" "[I" : Cond) ∈ gW := List.mem_filter.mpr ⟨gt4 _ (List.mem_of_getElem? (i := 233) rfl), rfl⟩
theorem wd_624 : (Cond.laysFinal "PrefixCodesModel" "PrefixCodesModel" "more" "[I" : Cond) ∈ gW := List.mem_filter.mpr ⟨gt4 _ (List.mem_of_getElem? (i := 235) rfl), rfl⟩
theorem wd_625 : (Cond.lays "PrefixCodesModel" "PrefixCodesModel" "commands" "I" : Cond) ∈ gW := List.mem_filter.mpr ⟨gt4 _ (List.mem_of_getElem? (i := 237) rfl), rfl⟩
theorem wd_626 : (Cond.laysFinal "PrefixCodesModel" "PrefixCodesModel" "read" "[I" : Cond) ∈ gW := List.mem_filter.mpr ⟨gt4 _ (List.mem_of_getElem? (i := 239) rfl), rfl⟩
theorem wd_627 : (Cond.laysFinal "PrefixCodesModel" "PrefixCodesModel" "entryKind" "[B" : Cond) ∈ gW := List.mem_filter.mpr ⟨gt5 _ (List.mem_of_getElem? (i := 1) rfl), rfl⟩
theorem wd_628 : (Cond.laysFinal "PrefixCodesModel" "PrefixCodesModel" "entryWhat" "[I" : Cond) ∈ gW := List.mem_filter.mpr ⟨gt5 _ (List.mem_of_getElem? (i := 3) rfl), rfl⟩
theorem wd_629 : (Cond.laysFinal "PrefixCodesModel" "PrefixCodesModel" "entryBits" "[I" : Cond) ∈ gW := List.mem_filter.mpr ⟨gt5 _ (List.mem_of_getElem? (i := 5) rfl), rfl⟩
theorem wd_630 : (Cond.lays "PrefixCodesModel" "PrefixCodesModel" "entries" "I" : Cond) ∈ gW := List.mem_filter.mpr ⟨gt5 _ (List.mem_of_getElem? (i := 7) rfl), rfl⟩
theorem wd_631 : (Cond.laysFinal "PrefixCodesModel" "PrefixCodesModel" "text" "[I" : Cond) ∈ gW := List.mem_filter.mpr ⟨gt5 _ (List.mem_of_getElem? (i := 9) rfl), rfl⟩
theorem wd_632 : (Cond.lays "PrefixCodesModel" "PrefixCodesModel" "textSize" "I" : Cond) ∈ gW := List.mem_filter.mpr ⟨gt5 _ (List.mem_of_getElem? (i := 11) rfl), rfl⟩
theorem wd_633 : (Cond.lays "PrefixCodesModel" "PrefixCodesModel" "chosen" "I" : Cond) ∈ gW := List.mem_filter.mpr ⟨gt5 _ (List.mem_of_getElem? (i := 13) rfl), rfl⟩
theorem wd_634 : (Cond.lays "PrefixCodesModel" "PrefixCodesModel" "chosenCodes" "I" : Cond) ∈ gW := List.mem_filter.mpr ⟨gt5 _ (List.mem_of_getElem? (i := 15) rfl), rfl⟩
theorem wd_635 : (Cond.lays "PrefixCodesModel" "PrefixCodesModel" "chosenSize" "I" : Cond) ∈ gW := List.mem_filter.mpr ⟨gt5 _ (List.mem_of_getElem? (i := 17) rfl), rfl⟩
theorem wd_636 : (Cond.lays "PrefixCodesModel" "PrefixCodesModel" "groups" "I" : Cond) ∈ gW := List.mem_filter.mpr ⟨gt5 _ (List.mem_of_getElem? (i := 19) rfl), rfl⟩
theorem wd_637 : (Cond.laysFinal "PrefixCodesModel" "PrefixCodesModel" "groupCode" "[I" : Cond) ∈ gW := List.mem_filter.mpr ⟨gt5 _ (List.mem_of_getElem? (i := 21) rfl), rfl⟩
theorem wd_638 : (Cond.laysFinal "PrefixCodesModel" "PrefixCodesModel" "then" "[I" : Cond) ∈ gW := List.mem_filter.mpr ⟨gt5 _ (List.mem_of_getElem? (i := 23) rfl), rfl⟩
theorem wd_639 : (Cond.lays "PrefixCodesModel" "PrefixCodesModel" "thenSize" "I" : Cond) ∈ gW := List.mem_filter.mpr ⟨gt5 _ (List.mem_of_getElem? (i := 25) rfl), rfl⟩
theorem wd_640 : (Cond.laysFinal "PrefixCodesModel" "PrefixCodesModel" "places" "[I" : Cond) ∈ gW := List.mem_filter.mpr ⟨gt5 _ (List.mem_of_getElem? (i := 27) rfl), rfl⟩
theorem wd_641 : (Cond.laysFinal "PrefixCodesModel" "PrefixCodesModel" "readGroup" "[I" : Cond) ∈ gW := List.mem_filter.mpr ⟨gt5 _ (List.mem_of_getElem? (i := 29) rfl), rfl⟩
theorem wd_642 : (Cond.laysFinal "PrefixCodesModel" "PrefixCodesModel" "readText" "[I" : Cond) ∈ gW := List.mem_filter.mpr ⟨gt5 _ (List.mem_of_getElem? (i := 31) rfl), rfl⟩
theorem wd_643 : (Cond.laysFinal "PrefixCodes$Choice" "PrefixCodes$Choice" "text" "[I" : Cond) ∈ gW := List.mem_filter.mpr ⟨gt2 _ (List.mem_of_getElem? (i := 43) rfl), rfl⟩
theorem wd_644 : (Cond.lays "PrefixCodes$Choice" "PrefixCodes$Choice" "textSize" "I" : Cond) ∈ gW := List.mem_filter.mpr ⟨gt2 _ (List.mem_of_getElem? (i := 45) rfl), rfl⟩
theorem wd_645 : (Cond.lays "PrefixCodes$Choice" "PrefixCodes$Choice" "groupSize" "I" : Cond) ∈ gW := List.mem_filter.mpr ⟨gt2 _ (List.mem_of_getElem? (i := 47) rfl), rfl⟩
theorem wd_646 : (Cond.lays "PrefixCodes$Choice" "PrefixCodes$Choice" "groups" "I" : Cond) ∈ gW := List.mem_filter.mpr ⟨gt2 _ (List.mem_of_getElem? (i := 49) rfl), rfl⟩
theorem wd_647 : (Cond.laysFinal "PrefixCodes$Choice" "PrefixCodes$Choice" "codeOfGroup" "[I" : Cond) ∈ gW := List.mem_filter.mpr ⟨gt2 _ (List.mem_of_getElem? (i := 51) rfl), rfl⟩
theorem wd_648 : (Cond.laysFinal "PrefixCodes$Choice" "PrefixCodes$Choice" "codes" "[LPrefixCodes$Code;" : Cond) ∈ gW := List.mem_filter.mpr ⟨gt2 _ (List.mem_of_getElem? (i := 53) rfl), rfl⟩
theorem wd_649 : (Cond.lays "PrefixCodes$Choice" "PrefixCodes$Choice" "manyCodes" "I" : Cond) ∈ gW := List.mem_filter.mpr ⟨gt2 _ (List.mem_of_getElem? (i := 55) rfl), rfl⟩
theorem wd_650 : (Cond.laysFinal "PrefixCodes$Choice" "PrefixCodes$Choice" "often" "[I" : Cond) ∈ gW := List.mem_filter.mpr ⟨gt2 _ (List.mem_of_getElem? (i := 57) rfl), rfl⟩
theorem wd_651 : (Cond.laysFinal "PrefixCodes$Choice" "PrefixCodes$Choice" "selectors" "LPrefixCodes$Selectors;" : Cond) ∈ gW := List.mem_filter.mpr ⟨gt2 _ (List.mem_of_getElem? (i := 59) rfl), rfl⟩
theorem wd_652 : (Cond.laysFinal "PrefixCodes$Code" "PrefixCodes$Code" "symbols" "I" : Cond) ∈ gW := List.mem_filter.mpr ⟨gt1 _ (List.mem_of_getElem? (i := 133) rfl), rfl⟩
theorem wd_653 : (Cond.laysFinal "PrefixCodes$Code" "PrefixCodes$Code" "lengths" "[I" : Cond) ∈ gW := List.mem_filter.mpr ⟨gt1 _ (List.mem_of_getElem? (i := 135) rfl), rfl⟩
theorem wd_654 : (Cond.laysFinal "PrefixCodes$Code" "PrefixCodes$Code" "words" "[I" : Cond) ∈ gW := List.mem_filter.mpr ⟨gt1 _ (List.mem_of_getElem? (i := 137) rfl), rfl⟩
theorem wd_655 : (Cond.laysFinal "PrefixCodes$Code" "PrefixCodes$Code" "ordered" "[I" : Cond) ∈ gW := List.mem_filter.mpr ⟨gt1 _ (List.mem_of_getElem? (i := 139) rfl), rfl⟩
theorem wd_656 : (Cond.laysFinal "PrefixCodes$Code" "PrefixCodes$Code" "manyOfLength" "[I" : Cond) ∈ gW := List.mem_filter.mpr ⟨gt1 _ (List.mem_of_getElem? (i := 141) rfl), rfl⟩
theorem wd_657 : (Cond.laysFinal "PrefixCodes$Code" "PrefixCodes$Code" "firstWord" "[I" : Cond) ∈ gW := List.mem_filter.mpr ⟨gt1 _ (List.mem_of_getElem? (i := 143) rfl), rfl⟩
theorem wd_658 : (Cond.laysFinal "PrefixCodes$Code" "PrefixCodes$Code" "firstPlace" "[I" : Cond) ∈ gW := List.mem_filter.mpr ⟨gt1 _ (List.mem_of_getElem? (i := 145) rfl), rfl⟩
theorem wd_659 : (Cond.lays "PrefixCodes$Code" "PrefixCodes$Code" "filled" "I" : Cond) ∈ gW := List.mem_filter.mpr ⟨gt1 _ (List.mem_of_getElem? (i := 147) rfl), rfl⟩
theorem wd_660 : (Cond.lays "PrefixCodes$Code" "PrefixCodes$Code" "having" "I" : Cond) ∈ gW := List.mem_filter.mpr ⟨gt1 _ (List.mem_of_getElem? (i := 149) rfl), rfl⟩
theorem wd_661 : (Cond.lays "PrefixCodes$Code" "PrefixCodes$Code" "greatest" "I" : Cond) ∈ gW := List.mem_filter.mpr ⟨gt1 _ (List.mem_of_getElem? (i := 151) rfl), rfl⟩
theorem wd_662 : (Cond.lays "PrefixCodes$Code" "PrefixCodes$Code" "kind" "I" : Cond) ∈ gW := List.mem_filter.mpr ⟨gt1 _ (List.mem_of_getElem? (i := 153) rfl), rfl⟩
theorem wd_663 : (Cond.laysFinal "PrefixCodes$Commands" "PrefixCodes$Commands" "stream" "LPrefixCodes$Stream;" : Cond) ∈ gW := List.mem_filter.mpr ⟨gt1 _ (List.mem_of_getElem? (i := 163) rfl), rfl⟩
theorem wd_664 : (Cond.laysFinal "PrefixCodes$Commands" "PrefixCodes$Commands" "packages" "LPrefixCodes$Packages;" : Cond) ∈ gW := List.mem_filter.mpr ⟨gt1 _ (List.mem_of_getElem? (i := 165) rfl), rfl⟩
theorem wd_665 : (Cond.laysFinal "PrefixCodes$Commands" "PrefixCodes$Commands" "code" "LPrefixCodes$Code;" : Cond) ∈ gW := List.mem_filter.mpr ⟨gt1 _ (List.mem_of_getElem? (i := 167) rfl), rfl⟩
theorem wd_666 : (Cond.laysFinal "PrefixCodes$Commands" "PrefixCodes$Commands" "often" "[I" : Cond) ∈ gW := List.mem_filter.mpr ⟨gt1 _ (List.mem_of_getElem? (i := 169) rfl), rfl⟩
theorem wd_667 : (Cond.laysFinal "PrefixCodes$Commands" "PrefixCodes$Commands" "row" "[I" : Cond) ∈ gW := List.mem_filter.mpr ⟨gt1 _ (List.mem_of_getElem? (i := 171) rfl), rfl⟩
theorem wd_668 : (Cond.laysFinal "PrefixCodes$Commands" "PrefixCodes$Commands" "runs" "[I" : Cond) ∈ gW := List.mem_filter.mpr ⟨gt1 _ (List.mem_of_getElem? (i := 173) rfl), rfl⟩
theorem wd_669 : (Cond.lays "PrefixCodes$Commands" "PrefixCodes$Commands" "size" "I" : Cond) ∈ gW := List.mem_filter.mpr ⟨gt1 _ (List.mem_of_getElem? (i := 175) rfl), rfl⟩
theorem wd_670 : (Cond.laysFinal "PrefixCodes$Manners" "PrefixCodes$Manners" "stream" "LPrefixCodes$Stream;" : Cond) ∈ gW := List.mem_filter.mpr ⟨gt1 _ (List.mem_of_getElem? (i := 182) rfl), rfl⟩
theorem wd_671 : (Cond.laysFinal "PrefixCodes$Manners" "PrefixCodes$Manners" "commands" "LPrefixCodes$Commands;" : Cond) ∈ gW := List.mem_filter.mpr ⟨gt1 _ (List.mem_of_getElem? (i := 184) rfl), rfl⟩
theorem wd_672 : (Cond.laysFinal "PrefixCodes$Manners" "PrefixCodes$Manners" "found" "[I" : Cond) ∈ gW := List.mem_filter.mpr ⟨gt1 _ (List.mem_of_getElem? (i := 186) rfl), rfl⟩
theorem wd_673 : (Cond.laysFinal "PrefixCodes$Packages" "PrefixCodes$Packages" "ordered" "[I" : Cond) ∈ gW := List.mem_filter.mpr ⟨gt1 _ (List.mem_of_getElem? (i := 70) rfl), rfl⟩
theorem wd_674 : (Cond.laysFinal "PrefixCodes$Packages" "PrefixCodes$Packages" "weights" "[I" : Cond) ∈ gW := List.mem_filter.mpr ⟨gt1 _ (List.mem_of_getElem? (i := 72) rfl), rfl⟩
theorem wd_675 : (Cond.lays "PrefixCodes$Packages" "PrefixCodes$Packages" "many" "I" : Cond) ∈ gW := List.mem_filter.mpr ⟨gt1 _ (List.mem_of_getElem? (i := 74) rfl), rfl⟩
theorem wd_676 : (Cond.laysFinal "PrefixCodes$Packages" "PrefixCodes$Packages" "row" "[[J" : Cond) ∈ gW := List.mem_filter.mpr ⟨gt1 _ (List.mem_of_getElem? (i := 76) rfl), rfl⟩
theorem wd_677 : (Cond.laysFinal "PrefixCodes$Packages" "PrefixCodes$Packages" "sizes" "[I" : Cond) ∈ gW := List.mem_filter.mpr ⟨gt1 _ (List.mem_of_getElem? (i := 78) rfl), rfl⟩
theorem wd_678 : (Cond.laysFinal "PrefixCodes$Packages" "PrefixCodes$Packages" "isSymbol" "[[I" : Cond) ∈ gW := List.mem_filter.mpr ⟨gt1 _ (List.mem_of_getElem? (i := 80) rfl), rfl⟩
theorem wd_679 : (Cond.laysFinal "PrefixCodes$Reader" "PrefixCodes$Reader" "stream" "LPrefixCodes$Stream;" : Cond) ∈ gW := List.mem_filter.mpr ⟨gt2 _ (List.mem_of_getElem? (i := 78) rfl), rfl⟩
theorem wd_680 : (Cond.laysFinal "PrefixCodes$Reader" "PrefixCodes$Reader" "codes" "[LPrefixCodes$Code;" : Cond) ∈ gW := List.mem_filter.mpr ⟨gt2 _ (List.mem_of_getElem? (i := 80) rfl), rfl⟩
theorem wd_681 : (Cond.laysFinal "PrefixCodes$Reader" "PrefixCodes$Reader" "selectors" "LPrefixCodes$Selectors;" : Cond) ∈ gW := List.mem_filter.mpr ⟨gt2 _ (List.mem_of_getElem? (i := 82) rfl), rfl⟩
theorem wd_682 : (Cond.laysFinal "PrefixCodes$Reader" "PrefixCodes$Reader" "codeOfGroup" "[I" : Cond) ∈ gW := List.mem_filter.mpr ⟨gt2 _ (List.mem_of_getElem? (i := 84) rfl), rfl⟩
theorem wd_683 : (Cond.laysFinal "PrefixCodes$Reader" "PrefixCodes$Reader" "found" "[I" : Cond) ∈ gW := List.mem_filter.mpr ⟨gt2 _ (List.mem_of_getElem? (i := 86) rfl), rfl⟩
theorem wd_684 : (Cond.laysFinal "PrefixCodes$Selectors" "PrefixCodes$Selectors" "row" "[I" : Cond) ∈ gW := List.mem_filter.mpr ⟨gt2 _ (List.mem_of_getElem? (i := 26) rfl), rfl⟩
theorem wd_685 : (Cond.lays "PrefixCodes$Selectors" "PrefixCodes$Selectors" "many" "I" : Cond) ∈ gW := List.mem_filter.mpr ⟨gt2 _ (List.mem_of_getElem? (i := 28) rfl), rfl⟩
theorem wd_686 : (Cond.laysFinal "PrefixCodes$Stream" "PrefixCodes$Stream" "cells" "[I" : Cond) ∈ gW := List.mem_filter.mpr ⟨gt1 _ (List.mem_of_getElem? (i := 42) rfl), rfl⟩
theorem wd_687 : (Cond.lays "PrefixCodes$Stream" "PrefixCodes$Stream" "head" "I" : Cond) ∈ gW := List.mem_filter.mpr ⟨gt1 _ (List.mem_of_getElem? (i := 44) rfl), rfl⟩
theorem wd_688 : (Cond.lays "PrefixCodes$Stream" "PrefixCodes$Stream" "size" "I" : Cond) ∈ gW := List.mem_filter.mpr ⟨gt1 _ (List.mem_of_getElem? (i := 46) rfl), rfl⟩
theorem wd_689 : (Cond.lays "PrefixCodes$Stream" "PrefixCodes$Stream" "sizeAtBegin" "I" : Cond) ∈ gW := List.mem_filter.mpr ⟨gt1 _ (List.mem_of_getElem? (i := 48) rfl), rfl⟩
theorem wd_690 : (Cond.lays "PrefixCodes$Stream" "PrefixCodes$Stream" "overflowed" "Z" : Cond) ∈ gW := List.mem_filter.mpr ⟨gt1 _ (List.mem_of_getElem? (i := 50) rfl), rfl⟩
theorem wd_691 : (Cond.lays "PrefixCodes$Table" "PrefixCodes$Table" "root" "I" : Cond) ∈ gW := List.mem_filter.mpr ⟨gt1 _ (List.mem_of_getElem? (i := 206) rfl), rfl⟩
theorem wd_692 : (Cond.lays "PrefixCodes$Table" "PrefixCodes$Table" "entries" "I" : Cond) ∈ gW := List.mem_filter.mpr ⟨gt1 _ (List.mem_of_getElem? (i := 208) rfl), rfl⟩
theorem wd_693 : (Cond.lays "PrefixCodes$Table" "PrefixCodes$Table" "words" "I" : Cond) ∈ gW := List.mem_filter.mpr ⟨gt1 _ (List.mem_of_getElem? (i := 210) rfl), rfl⟩
theorem wd_694 : (Cond.laysFinal "PrefixCodes$Table" "PrefixCodes$Table" "symbols" "[I" : Cond) ∈ gW := List.mem_filter.mpr ⟨gt1 _ (List.mem_of_getElem? (i := 212) rfl), rfl⟩
theorem wd_695 : (Cond.laysFinal "PrefixCodes$Table" "PrefixCodes$Table" "lengths" "[I" : Cond) ∈ gW := List.mem_filter.mpr ⟨gt1 _ (List.mem_of_getElem? (i := 214) rfl), rfl⟩
theorem wd_696 : (Cond.laysFinal "PrefixCodes$Table" "PrefixCodes$Table" "numbers" "[I" : Cond) ∈ gW := List.mem_filter.mpr ⟨gt1 _ (List.mem_of_getElem? (i := 216) rfl), rfl⟩
theorem wd_697 : (Cond.lays "PrefixCodes$Table" "PrefixCodes$Table" "parts" "I" : Cond) ∈ gW := List.mem_filter.mpr ⟨gt1 _ (List.mem_of_getElem? (i := 218) rfl), rfl⟩
theorem wd_698 : (Cond.laysFinal "PrefixCodes$Table" "PrefixCodes$Table" "prefixes" "[I" : Cond) ∈ gW := List.mem_filter.mpr ⟨gt1 _ (List.mem_of_getElem? (i := 220) rfl), rfl⟩
theorem wd_699 : (Cond.laysFinal "PrefixCodes$Table" "PrefixCodes$Table" "partBits" "[I" : Cond) ∈ gW := List.mem_filter.mpr ⟨gt1 _ (List.mem_of_getElem? (i := 222) rfl), rfl⟩
theorem wd_700 : (Cond.laysFinal "PrefixCodes$Table" "PrefixCodes$Table" "starts" "[I" : Cond) ∈ gW := List.mem_filter.mpr ⟨gt1 _ (List.mem_of_getElem? (i := 224) rfl), rfl⟩
theorem wd_701 : (Cond.laysFinal "PrefixCodes$Text" "PrefixCodes$Text" "row" "[I" : Cond) ∈ gW := List.mem_filter.mpr ⟨gt2 _ (List.mem_of_getElem? (i := 2) rfl), rfl⟩
theorem wd_702 : (Cond.lays "PrefixCodes$Text" "PrefixCodes$Text" "size" "I" : Cond) ∈ gW := List.mem_filter.mpr ⟨gt2 _ (List.mem_of_getElem? (i := 4) rfl), rfl⟩
theorem wd_703 : (Cond.laysFinal "PrefixCodes$Text" "PrefixCodes$Text" "offered" "[I" : Cond) ∈ gW := List.mem_filter.mpr ⟨gt2 _ (List.mem_of_getElem? (i := 6) rfl), rfl⟩
theorem wd_704 : (Cond.laysFinal "PrefixCodes$Text" "PrefixCodes$Text" "often" "[I" : Cond) ∈ gW := List.mem_filter.mpr ⟨gt2 _ (List.mem_of_getElem? (i := 8) rfl), rfl⟩
theorem u_PC : ∀ w ∈ u_ws "PrefixCodes" F_PC 10, w ∈ gW := by
  intro w hw
  obtain ⟨k, hk, rfl⟩ := List.mem_map.mp hw
  have hk := List.mem_range.mp hk
  match k, hk with
  | 0, _ => exact wd_600
  | 1, _ => exact wd_601
  | 2, _ => exact wd_602
  | 3, _ => exact wd_603
  | 4, _ => exact wd_604
  | 5, _ => exact wd_605
  | 6, _ => exact wd_606
  | 7, _ => exact wd_607
  | 8, _ => exact wd_608
  | 9, _ => exact wd_609
  | k + 10, hk => exact absurd hk (by omega)
theorem u_Mo : ∀ w ∈ u_ws "PrefixCodesModel" F_Mo 33, w ∈ gW := by
  intro w hw
  obtain ⟨k, hk, rfl⟩ := List.mem_map.mp hw
  have hk := List.mem_range.mp hk
  match k, hk with
  | 0, _ => exact wd_610
  | 1, _ => exact wd_611
  | 2, _ => exact wd_612
  | 3, _ => exact wd_613
  | 4, _ => exact wd_614
  | 5, _ => exact wd_615
  | 6, _ => exact wd_616
  | 7, _ => exact wd_617
  | 8, _ => exact wd_618
  | 9, _ => exact wd_619
  | 10, _ => exact wd_620
  | 11, _ => exact wd_621
  | 12, _ => exact wd_622
  | 13, _ => exact wd_623
  | 14, _ => exact wd_624
  | 15, _ => exact wd_625
  | 16, _ => exact wd_626
  | 17, _ => exact wd_627
  | 18, _ => exact wd_628
  | 19, _ => exact wd_629
  | 20, _ => exact wd_630
  | 21, _ => exact wd_631
  | 22, _ => exact wd_632
  | 23, _ => exact wd_633
  | 24, _ => exact wd_634
  | 25, _ => exact wd_635
  | 26, _ => exact wd_636
  | 27, _ => exact wd_637
  | 28, _ => exact wd_638
  | 29, _ => exact wd_639
  | 30, _ => exact wd_640
  | 31, _ => exact wd_641
  | 32, _ => exact wd_642
  | k + 33, hk => exact absurd hk (by omega)
theorem u_Choice : ∀ w ∈ u_ws "PrefixCodes$Choice" F_Choice 9, w ∈ gW := by
  intro w hw
  obtain ⟨k, hk, rfl⟩ := List.mem_map.mp hw
  have hk := List.mem_range.mp hk
  match k, hk with
  | 0, _ => exact wd_643
  | 1, _ => exact wd_644
  | 2, _ => exact wd_645
  | 3, _ => exact wd_646
  | 4, _ => exact wd_647
  | 5, _ => exact wd_648
  | 6, _ => exact wd_649
  | 7, _ => exact wd_650
  | 8, _ => exact wd_651
  | k + 9, hk => exact absurd hk (by omega)
theorem u_Code : ∀ w ∈ u_ws "PrefixCodes$Code" F_Code 11, w ∈ gW := by
  intro w hw
  obtain ⟨k, hk, rfl⟩ := List.mem_map.mp hw
  have hk := List.mem_range.mp hk
  match k, hk with
  | 0, _ => exact wd_652
  | 1, _ => exact wd_653
  | 2, _ => exact wd_654
  | 3, _ => exact wd_655
  | 4, _ => exact wd_656
  | 5, _ => exact wd_657
  | 6, _ => exact wd_658
  | 7, _ => exact wd_659
  | 8, _ => exact wd_660
  | 9, _ => exact wd_661
  | 10, _ => exact wd_662
  | k + 11, hk => exact absurd hk (by omega)
theorem u_Commands : ∀ w ∈ u_ws "PrefixCodes$Commands" F_Commands 7, w ∈ gW := by
  intro w hw
  obtain ⟨k, hk, rfl⟩ := List.mem_map.mp hw
  have hk := List.mem_range.mp hk
  match k, hk with
  | 0, _ => exact wd_663
  | 1, _ => exact wd_664
  | 2, _ => exact wd_665
  | 3, _ => exact wd_666
  | 4, _ => exact wd_667
  | 5, _ => exact wd_668
  | 6, _ => exact wd_669
  | k + 7, hk => exact absurd hk (by omega)
theorem u_Manners : ∀ w ∈ u_ws "PrefixCodes$Manners" F_Manners 3, w ∈ gW := by
  intro w hw
  obtain ⟨k, hk, rfl⟩ := List.mem_map.mp hw
  have hk := List.mem_range.mp hk
  match k, hk with
  | 0, _ => exact wd_670
  | 1, _ => exact wd_671
  | 2, _ => exact wd_672
  | k + 3, hk => exact absurd hk (by omega)
theorem u_Packages : ∀ w ∈ u_ws "PrefixCodes$Packages" F_Packages 6, w ∈ gW := by
  intro w hw
  obtain ⟨k, hk, rfl⟩ := List.mem_map.mp hw
  have hk := List.mem_range.mp hk
  match k, hk with
  | 0, _ => exact wd_673
  | 1, _ => exact wd_674
  | 2, _ => exact wd_675
  | 3, _ => exact wd_676
  | 4, _ => exact wd_677
  | 5, _ => exact wd_678
  | k + 6, hk => exact absurd hk (by omega)
theorem u_Reader : ∀ w ∈ u_ws "PrefixCodes$Reader" F_Reader 5, w ∈ gW := by
  intro w hw
  obtain ⟨k, hk, rfl⟩ := List.mem_map.mp hw
  have hk := List.mem_range.mp hk
  match k, hk with
  | 0, _ => exact wd_679
  | 1, _ => exact wd_680
  | 2, _ => exact wd_681
  | 3, _ => exact wd_682
  | 4, _ => exact wd_683
  | k + 5, hk => exact absurd hk (by omega)
theorem u_Selectors : ∀ w ∈ u_ws "PrefixCodes$Selectors" F_Selectors 2, w ∈ gW := by
  intro w hw
  obtain ⟨k, hk, rfl⟩ := List.mem_map.mp hw
  have hk := List.mem_range.mp hk
  match k, hk with
  | 0, _ => exact wd_684
  | 1, _ => exact wd_685
  | k + 2, hk => exact absurd hk (by omega)
theorem u_Stream : ∀ w ∈ u_ws "PrefixCodes$Stream" F_Stream 5, w ∈ gW := by
  intro w hw
  obtain ⟨k, hk, rfl⟩ := List.mem_map.mp hw
  have hk := List.mem_range.mp hk
  match k, hk with
  | 0, _ => exact wd_686
  | 1, _ => exact wd_687
  | 2, _ => exact wd_688
  | 3, _ => exact wd_689
  | 4, _ => exact wd_690
  | k + 5, hk => exact absurd hk (by omega)
theorem u_Table : ∀ w ∈ u_ws "PrefixCodes$Table" F_Table 10, w ∈ gW := by
  intro w hw
  obtain ⟨k, hk, rfl⟩ := List.mem_map.mp hw
  have hk := List.mem_range.mp hk
  match k, hk with
  | 0, _ => exact wd_691
  | 1, _ => exact wd_692
  | 2, _ => exact wd_693
  | 3, _ => exact wd_694
  | 4, _ => exact wd_695
  | 5, _ => exact wd_696
  | 6, _ => exact wd_697
  | 7, _ => exact wd_698
  | 8, _ => exact wd_699
  | 9, _ => exact wd_700
  | k + 10, hk => exact absurd hk (by omega)
theorem u_Text : ∀ w ∈ u_ws "PrefixCodes$Text" F_Text 4, w ∈ gW := by
  intro w hw
  obtain ⟨k, hk, rfl⟩ := List.mem_map.mp hw
  have hk := List.mem_range.mp hk
  match k, hk with
  | 0, _ => exact wd_701
  | 1, _ => exact wd_702
  | 2, _ => exact wd_703
  | 3, _ => exact wd_704
  | k + 4, hk => exact absurd hk (by omega)
def y_Arrays_fill : MethodName := ⟨"java/util/Arrays", "fill", "([II)V"⟩
abbrev w_Arrays_fill : List Cond := Cond.code ⟨"java/util/Arrays", "fill", "([II)V"⟩ prog_21_method_103_code 4 none :: gW
abbrev rm_Arrays_fill : Room := { frames := 0, cells := 0, slots := 0, locals := 0 }
theorem yd_Arrays_fill : (⟨"java/util/Arrays", "fill", "([II)V"⟩ : MethodName).cls = "java/util/Arrays" ∧ (⟨"java/util/Arrays", "fill", "([II)V"⟩ : MethodName).cls ≠ "java/lang/invoke/MethodHandle" ∧ (⟨"java/util/Arrays", "fill", "([II)V"⟩ : MethodName).cls ≠ "java/lang/invoke/VarHandle" ∧ (parseMethodDescriptor (⟨"java/util/Arrays", "fill", "([II)V"⟩ : MethodName).desc).map (fun d => d.parameters.length) = some 2 := by decide +kernel
def y_PC_isOutside : MethodName := ⟨"PrefixCodes", "isOutside", "(III)Z"⟩
abbrev w_PC_isOutside : List Cond := Cond.code ⟨"PrefixCodes", "isOutside", "(III)Z"⟩ prog_1_method_28_code 3 (some .boolean) :: gW
abbrev rm_PC_isOutside : Room := { frames := 0, cells := 0, slots := 0, locals := 0 }
theorem yd_PC_isOutside : (⟨"PrefixCodes", "isOutside", "(III)Z"⟩ : MethodName).cls = "PrefixCodes" ∧ (⟨"PrefixCodes", "isOutside", "(III)Z"⟩ : MethodName).cls ≠ "java/lang/invoke/MethodHandle" ∧ (⟨"PrefixCodes", "isOutside", "(III)Z"⟩ : MethodName).cls ≠ "java/lang/invoke/VarHandle" ∧ (parseMethodDescriptor (⟨"PrefixCodes", "isOutside", "(III)Z"⟩ : MethodName).desc).map (fun d => d.parameters.length) = some 3 := by decide +kernel
def y_PC_keep : MethodName := ⟨"PrefixCodes", "keep", "(LPrefixCodes$Code;)I"⟩
abbrev w_PC_keep : List Cond := Cond.code ⟨"PrefixCodes", "keep", "(LPrefixCodes$Code;)I"⟩ prog_1_method_31_code 2 (some .int) :: gW
abbrev rm_PC_keep : Room := { frames := 0, cells := 0, slots := 0, locals := 0 }
theorem yd_PC_keep : (⟨"PrefixCodes", "keep", "(LPrefixCodes$Code;)I"⟩ : MethodName).cls = "PrefixCodes" ∧ (⟨"PrefixCodes", "keep", "(LPrefixCodes$Code;)I"⟩ : MethodName).cls ≠ "java/lang/invoke/MethodHandle" ∧ (⟨"PrefixCodes", "keep", "(LPrefixCodes$Code;)I"⟩ : MethodName).cls ≠ "java/lang/invoke/VarHandle" ∧ (parseMethodDescriptor (⟨"PrefixCodes", "keep", "(LPrefixCodes$Code;)I"⟩ : MethodName).desc).map (fun d => d.parameters.length) = some 1 := by decide +kernel
def y_PC_code : MethodName := ⟨"PrefixCodes", "code", "(I)I"⟩
abbrev w_PC_code : List Cond := Cond.code ⟨"PrefixCodes", "code", "(I)I"⟩ prog_1_method_2_code 2 (some .int) :: gW
abbrev rm_PC_code : Room := { frames := 2, cells := 0, slots := 0, locals := 33 }
theorem yd_PC_code : (⟨"PrefixCodes", "code", "(I)I"⟩ : MethodName).cls = "PrefixCodes" ∧ (⟨"PrefixCodes", "code", "(I)I"⟩ : MethodName).cls ≠ "java/lang/invoke/MethodHandle" ∧ (⟨"PrefixCodes", "code", "(I)I"⟩ : MethodName).cls ≠ "java/lang/invoke/VarHandle" ∧ (parseMethodDescriptor (⟨"PrefixCodes", "code", "(I)I"⟩ : MethodName).desc).map (fun d => d.parameters.length) = some 1 := by decide +kernel
def y_PC_codeAt : MethodName := ⟨"PrefixCodes", "codeAt", "(I)LPrefixCodes$Code;"⟩
abbrev w_PC_codeAt : List Cond := Cond.code ⟨"PrefixCodes", "codeAt", "(I)LPrefixCodes$Code;"⟩ prog_1_method_29_code 2 (some (.object "PrefixCodes$Code")) :: gW
abbrev rm_PC_codeAt : Room := { frames := 1, cells := 0, slots := 0, locals := 22 }
theorem yd_PC_codeAt : (⟨"PrefixCodes", "codeAt", "(I)LPrefixCodes$Code;"⟩ : MethodName).cls = "PrefixCodes" ∧ (⟨"PrefixCodes", "codeAt", "(I)LPrefixCodes$Code;"⟩ : MethodName).cls ≠ "java/lang/invoke/MethodHandle" ∧ (⟨"PrefixCodes", "codeAt", "(I)LPrefixCodes$Code;"⟩ : MethodName).cls ≠ "java/lang/invoke/VarHandle" ∧ (parseMethodDescriptor (⟨"PrefixCodes", "codeAt", "(I)LPrefixCodes$Code;"⟩ : MethodName).desc).map (fun d => d.parameters.length) = some 1 := by decide +kernel
def y_PC_codeWith : MethodName := ⟨"PrefixCodes", "codeWith", "(II)LPrefixCodes$Code;"⟩
abbrev w_PC_codeWith : List Cond := Cond.code ⟨"PrefixCodes", "codeWith", "(II)LPrefixCodes$Code;"⟩ prog_1_method_30_code 4 (some (.object "PrefixCodes$Code")) :: gW
abbrev rm_PC_codeWith : Room := { frames := 2, cells := 0, slots := 0, locals := 43 }
theorem yd_PC_codeWith : (⟨"PrefixCodes", "codeWith", "(II)LPrefixCodes$Code;"⟩ : MethodName).cls = "PrefixCodes" ∧ (⟨"PrefixCodes", "codeWith", "(II)LPrefixCodes$Code;"⟩ : MethodName).cls ≠ "java/lang/invoke/MethodHandle" ∧ (⟨"PrefixCodes", "codeWith", "(II)LPrefixCodes$Code;"⟩ : MethodName).cls ≠ "java/lang/invoke/VarHandle" ∧ (parseMethodDescriptor (⟨"PrefixCodes", "codeWith", "(II)LPrefixCodes$Code;"⟩ : MethodName).desc).map (fun d => d.parameters.length) = some 2 := by decide +kernel
def y_Code_countLengths : MethodName := ⟨"PrefixCodes$Code", "countLengths", "()V"⟩
abbrev w_Code_countLengths : List Cond := Cond.code ⟨"PrefixCodes$Code", "countLengths", "()V"⟩ prog_3_method_3_code 2 none :: gW
abbrev rm_Code_countLengths : Room := { frames := 1, cells := 0, slots := 0, locals := 23 }
theorem yd_Code_countLengths : (⟨"PrefixCodes$Code", "countLengths", "()V"⟩ : MethodName).cls = "PrefixCodes$Code" ∧ (⟨"PrefixCodes$Code", "countLengths", "()V"⟩ : MethodName).cls ≠ "java/lang/invoke/MethodHandle" ∧ (⟨"PrefixCodes$Code", "countLengths", "()V"⟩ : MethodName).cls ≠ "java/lang/invoke/VarHandle" ∧ (parseMethodDescriptor (⟨"PrefixCodes$Code", "countLengths", "()V"⟩ : MethodName).desc).map (fun d => d.parameters.length) = some 0 := by decide +kernel
def y_Code_placeLengths : MethodName := ⟨"PrefixCodes$Code", "placeLengths", "()V"⟩
abbrev w_Code_placeLengths : List Cond := Cond.code ⟨"PrefixCodes$Code", "placeLengths", "()V"⟩ prog_3_method_4_code 3 none :: gW
abbrev rm_Code_placeLengths : Room := { frames := 0, cells := 0, slots := 0, locals := 0 }
theorem yd_Code_placeLengths : (⟨"PrefixCodes$Code", "placeLengths", "()V"⟩ : MethodName).cls = "PrefixCodes$Code" ∧ (⟨"PrefixCodes$Code", "placeLengths", "()V"⟩ : MethodName).cls ≠ "java/lang/invoke/MethodHandle" ∧ (⟨"PrefixCodes$Code", "placeLengths", "()V"⟩ : MethodName).cls ≠ "java/lang/invoke/VarHandle" ∧ (parseMethodDescriptor (⟨"PrefixCodes$Code", "placeLengths", "()V"⟩ : MethodName).desc).map (fun d => d.parameters.length) = some 0 := by decide +kernel
def y_Code_nameSymbols : MethodName := ⟨"PrefixCodes$Code", "nameSymbols", "()V"⟩
abbrev w_Code_nameSymbols : List Cond := Cond.code ⟨"PrefixCodes$Code", "nameSymbols", "()V"⟩ prog_3_method_5_code 3 none :: gW
abbrev rm_Code_nameSymbols : Room := { frames := 1, cells := 0, slots := 0, locals := 23 }
theorem yd_Code_nameSymbols : (⟨"PrefixCodes$Code", "nameSymbols", "()V"⟩ : MethodName).cls = "PrefixCodes$Code" ∧ (⟨"PrefixCodes$Code", "nameSymbols", "()V"⟩ : MethodName).cls ≠ "java/lang/invoke/MethodHandle" ∧ (⟨"PrefixCodes$Code", "nameSymbols", "()V"⟩ : MethodName).cls ≠ "java/lang/invoke/VarHandle" ∧ (parseMethodDescriptor (⟨"PrefixCodes$Code", "nameSymbols", "()V"⟩ : MethodName).desc).map (fun d => d.parameters.length) = some 0 := by decide +kernel
def y_Code_judged : MethodName := ⟨"PrefixCodes$Code", "judged", "()I"⟩
abbrev w_Code_judged : List Cond := Cond.code ⟨"PrefixCodes$Code", "judged", "()I"⟩ prog_3_method_6_code 1 (some .int) :: gW
abbrev rm_Code_judged : Room := { frames := 0, cells := 0, slots := 0, locals := 0 }
theorem yd_Code_judged : (⟨"PrefixCodes$Code", "judged", "()I"⟩ : MethodName).cls = "PrefixCodes$Code" ∧ (⟨"PrefixCodes$Code", "judged", "()I"⟩ : MethodName).cls ≠ "java/lang/invoke/MethodHandle" ∧ (⟨"PrefixCodes$Code", "judged", "()I"⟩ : MethodName).cls ≠ "java/lang/invoke/VarHandle" ∧ (parseMethodDescriptor (⟨"PrefixCodes$Code", "judged", "()I"⟩ : MethodName).desc).map (fun d => d.parameters.length) = some 0 := by decide +kernel
def y_Code_renumber : MethodName := ⟨"PrefixCodes$Code", "renumber", "()V"⟩
abbrev w_Code_renumber : List Cond := Cond.code ⟨"PrefixCodes$Code", "renumber", "()V"⟩ prog_3_method_2_code 1 none :: gW
abbrev rm_Code_renumber : Room := { frames := 2, cells := 0, slots := 0, locals := 45 }
theorem yd_Code_renumber : (⟨"PrefixCodes$Code", "renumber", "()V"⟩ : MethodName).cls = "PrefixCodes$Code" ∧ (⟨"PrefixCodes$Code", "renumber", "()V"⟩ : MethodName).cls ≠ "java/lang/invoke/MethodHandle" ∧ (⟨"PrefixCodes$Code", "renumber", "()V"⟩ : MethodName).cls ≠ "java/lang/invoke/VarHandle" ∧ (parseMethodDescriptor (⟨"PrefixCodes$Code", "renumber", "()V"⟩ : MethodName).desc).map (fun d => d.parameters.length) = some 0 := by decide +kernel
def y_PC_length : MethodName := ⟨"PrefixCodes", "length", "(III)I"⟩
abbrev w_PC_length : List Cond := Cond.code ⟨"PrefixCodes", "length", "(III)I"⟩ prog_1_method_3_code 6 (some .int) :: gW
abbrev rm_PC_length : Room := { frames := 3, cells := 0, slots := 0, locals := 66 }
theorem yd_PC_length : (⟨"PrefixCodes", "length", "(III)I"⟩ : MethodName).cls = "PrefixCodes" ∧ (⟨"PrefixCodes", "length", "(III)I"⟩ : MethodName).cls ≠ "java/lang/invoke/MethodHandle" ∧ (⟨"PrefixCodes", "length", "(III)I"⟩ : MethodName).cls ≠ "java/lang/invoke/VarHandle" ∧ (parseMethodDescriptor (⟨"PrefixCodes", "length", "(III)I"⟩ : MethodName).desc).map (fun d => d.parameters.length) = some 3 := by decide +kernel
def y_PC_about : MethodName := ⟨"PrefixCodes", "about", "(II)I"⟩
abbrev w_PC_about : List Cond := Cond.code ⟨"PrefixCodes", "about", "(II)I"⟩ prog_1_method_4_code 4 (some .int) :: gW
abbrev rm_PC_about : Room := { frames := 2, cells := 0, slots := 0, locals := 43 }
theorem yd_PC_about : (⟨"PrefixCodes", "about", "(II)I"⟩ : MethodName).cls = "PrefixCodes" ∧ (⟨"PrefixCodes", "about", "(II)I"⟩ : MethodName).cls ≠ "java/lang/invoke/MethodHandle" ∧ (⟨"PrefixCodes", "about", "(II)I"⟩ : MethodName).cls ≠ "java/lang/invoke/VarHandle" ∧ (parseMethodDescriptor (⟨"PrefixCodes", "about", "(II)I"⟩ : MethodName).desc).map (fun d => d.parameters.length) = some 2 := by decide +kernel
def y_Code_hasWord : MethodName := ⟨"PrefixCodes$Code", "hasWord", "(I)Z"⟩
abbrev w_Code_hasWord : List Cond := Cond.code ⟨"PrefixCodes$Code", "hasWord", "(I)Z"⟩ prog_3_method_7_code 2 (some .boolean) :: gW
abbrev rm_Code_hasWord : Room := { frames := 0, cells := 0, slots := 0, locals := 0 }
theorem yd_Code_hasWord : (⟨"PrefixCodes$Code", "hasWord", "(I)Z"⟩ : MethodName).cls = "PrefixCodes$Code" ∧ (⟨"PrefixCodes$Code", "hasWord", "(I)Z"⟩ : MethodName).cls ≠ "java/lang/invoke/MethodHandle" ∧ (⟨"PrefixCodes$Code", "hasWord", "(I)Z"⟩ : MethodName).cls ≠ "java/lang/invoke/VarHandle" ∧ (parseMethodDescriptor (⟨"PrefixCodes$Code", "hasWord", "(I)Z"⟩ : MethodName).desc).map (fun d => d.parameters.length) = some 1 := by decide +kernel
def y_Code_turnedWord : MethodName := ⟨"PrefixCodes$Code", "turnedWord", "(I)I"⟩
abbrev w_Code_turnedWord : List Cond := Cond.code ⟨"PrefixCodes$Code", "turnedWord", "(I)I"⟩ prog_3_method_9_code 4 (some .int) :: gW
abbrev rm_Code_turnedWord : Room := { frames := 0, cells := 0, slots := 0, locals := 0 }
theorem yd_Code_turnedWord : (⟨"PrefixCodes$Code", "turnedWord", "(I)I"⟩ : MethodName).cls = "PrefixCodes$Code" ∧ (⟨"PrefixCodes$Code", "turnedWord", "(I)I"⟩ : MethodName).cls ≠ "java/lang/invoke/MethodHandle" ∧ (⟨"PrefixCodes$Code", "turnedWord", "(I)I"⟩ : MethodName).cls ≠ "java/lang/invoke/VarHandle" ∧ (parseMethodDescriptor (⟨"PrefixCodes$Code", "turnedWord", "(I)I"⟩ : MethodName).desc).map (fun d => d.parameters.length) = some 1 := by decide +kernel
def y_PC_word : MethodName := ⟨"PrefixCodes", "word", "(IIZ)I"⟩
abbrev w_PC_word : List Cond := Cond.code ⟨"PrefixCodes", "word", "(IIZ)I"⟩ prog_1_method_5_code 5 (some .int) :: gW
abbrev rm_PC_word : Room := { frames := 3, cells := 0, slots := 0, locals := 66 }
theorem yd_PC_word : (⟨"PrefixCodes", "word", "(IIZ)I"⟩ : MethodName).cls = "PrefixCodes" ∧ (⟨"PrefixCodes", "word", "(IIZ)I"⟩ : MethodName).cls ≠ "java/lang/invoke/MethodHandle" ∧ (⟨"PrefixCodes", "word", "(IIZ)I"⟩ : MethodName).cls ≠ "java/lang/invoke/VarHandle" ∧ (parseMethodDescriptor (⟨"PrefixCodes", "word", "(IIZ)I"⟩ : MethodName).desc).map (fun d => d.parameters.length) = some 3 := by decide +kernel
def y_PC_count : MethodName := ⟨"PrefixCodes", "count", "(II)I"⟩
abbrev w_PC_count : List Cond := Cond.code ⟨"PrefixCodes", "count", "(II)I"⟩ prog_1_method_6_code 4 (some .int) :: gW
abbrev rm_PC_count : Room := { frames := 1, cells := 0, slots := 0, locals := 22 }
theorem yd_PC_count : (⟨"PrefixCodes", "count", "(II)I"⟩ : MethodName).cls = "PrefixCodes" ∧ (⟨"PrefixCodes", "count", "(II)I"⟩ : MethodName).cls ≠ "java/lang/invoke/MethodHandle" ∧ (⟨"PrefixCodes", "count", "(II)I"⟩ : MethodName).cls ≠ "java/lang/invoke/VarHandle" ∧ (parseMethodDescriptor (⟨"PrefixCodes", "count", "(II)I"⟩ : MethodName).desc).map (fun d => d.parameters.length) = some 2 := by decide +kernel
def y_Text_tally : MethodName := ⟨"PrefixCodes$Text", "tally", "([I)V"⟩
abbrev w_Text_tally : List Cond := Cond.code ⟨"PrefixCodes$Text", "tally", "([I)V"⟩ prog_11_method_4_code 3 none :: gW
abbrev rm_Text_tally : Room := { frames := 1, cells := 0, slots := 0, locals := 23 }
theorem yd_Text_tally : (⟨"PrefixCodes$Text", "tally", "([I)V"⟩ : MethodName).cls = "PrefixCodes$Text" ∧ (⟨"PrefixCodes$Text", "tally", "([I)V"⟩ : MethodName).cls ≠ "java/lang/invoke/MethodHandle" ∧ (⟨"PrefixCodes$Text", "tally", "([I)V"⟩ : MethodName).cls ≠ "java/lang/invoke/VarHandle" ∧ (parseMethodDescriptor (⟨"PrefixCodes$Text", "tally", "([I)V"⟩ : MethodName).desc).map (fun d => d.parameters.length) = some 1 := by decide +kernel
def y_PC_countedBelow : MethodName := ⟨"PrefixCodes", "countedBelow", "(I)I"⟩
abbrev w_PC_countedBelow : List Cond := Cond.code ⟨"PrefixCodes", "countedBelow", "(I)I"⟩ prog_1_method_32_code 4 (some .int) :: gW
abbrev rm_PC_countedBelow : Room := { frames := 0, cells := 0, slots := 0, locals := 0 }
theorem yd_PC_countedBelow : (⟨"PrefixCodes", "countedBelow", "(I)I"⟩ : MethodName).cls = "PrefixCodes" ∧ (⟨"PrefixCodes", "countedBelow", "(I)I"⟩ : MethodName).cls ≠ "java/lang/invoke/MethodHandle" ∧ (⟨"PrefixCodes", "countedBelow", "(I)I"⟩ : MethodName).cls ≠ "java/lang/invoke/VarHandle" ∧ (parseMethodDescriptor (⟨"PrefixCodes", "countedBelow", "(I)I"⟩ : MethodName).desc).map (fun d => d.parameters.length) = some 1 := by decide +kernel
def y_PC_countText : MethodName := ⟨"PrefixCodes", "countText", "()I"⟩
abbrev w_PC_countText : List Cond := Cond.code ⟨"PrefixCodes", "countText", "()I"⟩ prog_1_method_7_code 1 (some .int) :: gW
abbrev rm_PC_countText : Room := { frames := 2, cells := 0, slots := 0, locals := 45 }
theorem yd_PC_countText : (⟨"PrefixCodes", "countText", "()I"⟩ : MethodName).cls = "PrefixCodes" ∧ (⟨"PrefixCodes", "countText", "()I"⟩ : MethodName).cls ≠ "java/lang/invoke/MethodHandle" ∧ (⟨"PrefixCodes", "countText", "()I"⟩ : MethodName).cls ≠ "java/lang/invoke/VarHandle" ∧ (parseMethodDescriptor (⟨"PrefixCodes", "countText", "()I"⟩ : MethodName).desc).map (fun d => d.parameters.length) = some 0 := by decide +kernel
def y_Packages_insert : MethodName := ⟨"PrefixCodes$Packages", "insert", "(II)V"⟩
abbrev w_Packages_insert : List Cond := Cond.code ⟨"PrefixCodes$Packages", "insert", "(II)V"⟩ prog_6_method_4_code 4 none :: gW
abbrev rm_Packages_insert : Room := { frames := 0, cells := 0, slots := 0, locals := 0 }
theorem yd_Packages_insert : (⟨"PrefixCodes$Packages", "insert", "(II)V"⟩ : MethodName).cls = "PrefixCodes$Packages" ∧ (⟨"PrefixCodes$Packages", "insert", "(II)V"⟩ : MethodName).cls ≠ "java/lang/invoke/MethodHandle" ∧ (⟨"PrefixCodes$Packages", "insert", "(II)V"⟩ : MethodName).cls ≠ "java/lang/invoke/VarHandle" ∧ (parseMethodDescriptor (⟨"PrefixCodes$Packages", "insert", "(II)V"⟩ : MethodName).desc).map (fun d => d.parameters.length) = some 2 := by decide +kernel
def y_Packages_order : MethodName := ⟨"PrefixCodes$Packages", "order", "([II)V"⟩
abbrev w_Packages_order : List Cond := Cond.code ⟨"PrefixCodes$Packages", "order", "([II)V"⟩ prog_6_method_3_code 4 none :: gW
abbrev rm_Packages_order : Room := { frames := 1, cells := 0, slots := 0, locals := 23 }
theorem yd_Packages_order : (⟨"PrefixCodes$Packages", "order", "([II)V"⟩ : MethodName).cls = "PrefixCodes$Packages" ∧ (⟨"PrefixCodes$Packages", "order", "([II)V"⟩ : MethodName).cls ≠ "java/lang/invoke/MethodHandle" ∧ (⟨"PrefixCodes$Packages", "order", "([II)V"⟩ : MethodName).cls ≠ "java/lang/invoke/VarHandle" ∧ (parseMethodDescriptor (⟨"PrefixCodes$Packages", "order", "([II)V"⟩ : MethodName).desc).map (fun d => d.parameters.length) = some 2 := by decide +kernel
def y_Packages_makeFirstRow : MethodName := ⟨"PrefixCodes$Packages", "makeFirstRow", "()V"⟩
abbrev w_Packages_makeFirstRow : List Cond := Cond.code ⟨"PrefixCodes$Packages", "makeFirstRow", "()V"⟩ prog_6_method_5_code 2 none :: gW
abbrev rm_Packages_makeFirstRow : Room := { frames := 0, cells := 0, slots := 0, locals := 0 }
theorem yd_Packages_makeFirstRow : (⟨"PrefixCodes$Packages", "makeFirstRow", "()V"⟩ : MethodName).cls = "PrefixCodes$Packages" ∧ (⟨"PrefixCodes$Packages", "makeFirstRow", "()V"⟩ : MethodName).cls ≠ "java/lang/invoke/MethodHandle" ∧ (⟨"PrefixCodes$Packages", "makeFirstRow", "()V"⟩ : MethodName).cls ≠ "java/lang/invoke/VarHandle" ∧ (parseMethodDescriptor (⟨"PrefixCodes$Packages", "makeFirstRow", "()V"⟩ : MethodName).desc).map (fun d => d.parameters.length) = some 0 := by decide +kernel
def y_Packages_makeRow : MethodName := ⟨"PrefixCodes$Packages", "makeRow", "(I)V"⟩
abbrev w_Packages_makeRow : List Cond := Cond.code ⟨"PrefixCodes$Packages", "makeRow", "(I)V"⟩ prog_6_method_6_code 10 none :: gW
abbrev rm_Packages_makeRow : Room := { frames := 0, cells := 0, slots := 0, locals := 0 }
theorem yd_Packages_makeRow : (⟨"PrefixCodes$Packages", "makeRow", "(I)V"⟩ : MethodName).cls = "PrefixCodes$Packages" ∧ (⟨"PrefixCodes$Packages", "makeRow", "(I)V"⟩ : MethodName).cls ≠ "java/lang/invoke/MethodHandle" ∧ (⟨"PrefixCodes$Packages", "makeRow", "(I)V"⟩ : MethodName).cls ≠ "java/lang/invoke/VarHandle" ∧ (parseMethodDescriptor (⟨"PrefixCodes$Packages", "makeRow", "(I)V"⟩ : MethodName).desc).map (fun d => d.parameters.length) = some 1 := by decide +kernel
def y_Packages_goBack : MethodName := ⟨"PrefixCodes$Packages", "goBack", "(I[I)V"⟩
abbrev w_Packages_goBack : List Cond := Cond.code ⟨"PrefixCodes$Packages", "goBack", "(I[I)V"⟩ prog_6_method_7_code 7 none :: gW
abbrev rm_Packages_goBack : Room := { frames := 0, cells := 0, slots := 0, locals := 0 }
theorem yd_Packages_goBack : (⟨"PrefixCodes$Packages", "goBack", "(I[I)V"⟩ : MethodName).cls = "PrefixCodes$Packages" ∧ (⟨"PrefixCodes$Packages", "goBack", "(I[I)V"⟩ : MethodName).cls ≠ "java/lang/invoke/MethodHandle" ∧ (⟨"PrefixCodes$Packages", "goBack", "(I[I)V"⟩ : MethodName).cls ≠ "java/lang/invoke/VarHandle" ∧ (parseMethodDescriptor (⟨"PrefixCodes$Packages", "goBack", "(I[I)V"⟩ : MethodName).desc).map (fun d => d.parameters.length) = some 2 := by decide +kernel
def y_Packages_fit : MethodName := ⟨"PrefixCodes$Packages", "fit", "([IILPrefixCodes$Code;)V"⟩
abbrev w_Packages_fit : List Cond := Cond.code ⟨"PrefixCodes$Packages", "fit", "([IILPrefixCodes$Code;)V"⟩ prog_6_method_2_code 5 none :: gW
abbrev rm_Packages_fit : Room := { frames := 3, cells := 0, slots := 0, locals := 65 }
theorem yd_Packages_fit : (⟨"PrefixCodes$Packages", "fit", "([IILPrefixCodes$Code;)V"⟩ : MethodName).cls = "PrefixCodes$Packages" ∧ (⟨"PrefixCodes$Packages", "fit", "([IILPrefixCodes$Code;)V"⟩ : MethodName).cls ≠ "java/lang/invoke/MethodHandle" ∧ (⟨"PrefixCodes$Packages", "fit", "([IILPrefixCodes$Code;)V"⟩ : MethodName).cls ≠ "java/lang/invoke/VarHandle" ∧ (parseMethodDescriptor (⟨"PrefixCodes$Packages", "fit", "([IILPrefixCodes$Code;)V"⟩ : MethodName).desc).map (fun d => d.parameters.length) = some 3 := by decide +kernel
def y_PC_least : MethodName := ⟨"PrefixCodes", "least", "(II)I"⟩
abbrev w_PC_least : List Cond := Cond.code ⟨"PrefixCodes", "least", "(II)I"⟩ prog_1_method_8_code 4 (some .int) :: gW
abbrev rm_PC_least : Room := { frames := 4, cells := 0, slots := 0, locals := 89 }
theorem yd_PC_least : (⟨"PrefixCodes", "least", "(II)I"⟩ : MethodName).cls = "PrefixCodes" ∧ (⟨"PrefixCodes", "least", "(II)I"⟩ : MethodName).cls ≠ "java/lang/invoke/MethodHandle" ∧ (⟨"PrefixCodes", "least", "(II)I"⟩ : MethodName).cls ≠ "java/lang/invoke/VarHandle" ∧ (parseMethodDescriptor (⟨"PrefixCodes", "least", "(II)I"⟩ : MethodName).desc).map (fun d => d.parameters.length) = some 2 := by decide +kernel
def y_PC_cost : MethodName := ⟨"PrefixCodes", "cost", "(I)J"⟩
abbrev w_PC_cost : List Cond := Cond.code ⟨"PrefixCodes", "cost", "(I)J"⟩ prog_1_method_9_code 6 (some .long) :: gW
abbrev rm_PC_cost : Room := { frames := 2, cells := 0, slots := 0, locals := 43 }
theorem yd_PC_cost : (⟨"PrefixCodes", "cost", "(I)J"⟩ : MethodName).cls = "PrefixCodes" ∧ (⟨"PrefixCodes", "cost", "(I)J"⟩ : MethodName).cls ≠ "java/lang/invoke/MethodHandle" ∧ (⟨"PrefixCodes", "cost", "(I)J"⟩ : MethodName).cls ≠ "java/lang/invoke/VarHandle" ∧ (parseMethodDescriptor (⟨"PrefixCodes", "cost", "(I)J"⟩ : MethodName).desc).map (fun d => d.parameters.length) = some 1 := by decide +kernel
def y_PC_bits : MethodName := ⟨"PrefixCodes", "bits", "()I"⟩
abbrev w_PC_bits : List Cond := Cond.code ⟨"PrefixCodes", "bits", "()I"⟩ prog_1_method_10_code 1 (some .int) :: gW
abbrev rm_PC_bits : Room := { frames := 0, cells := 0, slots := 0, locals := 0 }
theorem yd_PC_bits : (⟨"PrefixCodes", "bits", "()I"⟩ : MethodName).cls = "PrefixCodes" ∧ (⟨"PrefixCodes", "bits", "()I"⟩ : MethodName).cls ≠ "java/lang/invoke/MethodHandle" ∧ (⟨"PrefixCodes", "bits", "()I"⟩ : MethodName).cls ≠ "java/lang/invoke/VarHandle" ∧ (parseMethodDescriptor (⟨"PrefixCodes", "bits", "()I"⟩ : MethodName).desc).map (fun d => d.parameters.length) = some 0 := by decide +kernel
def y_Stream_placeOf : MethodName := ⟨"PrefixCodes$Stream", "placeOf", "(I)I"⟩
abbrev w_Stream_placeOf : List Cond := Cond.code ⟨"PrefixCodes$Stream", "placeOf", "(I)I"⟩ prog_9_method_2_code 2 (some .int) :: gW
abbrev rm_Stream_placeOf : Room := { frames := 0, cells := 0, slots := 0, locals := 0 }
theorem yd_Stream_placeOf : (⟨"PrefixCodes$Stream", "placeOf", "(I)I"⟩ : MethodName).cls = "PrefixCodes$Stream" ∧ (⟨"PrefixCodes$Stream", "placeOf", "(I)I"⟩ : MethodName).cls ≠ "java/lang/invoke/MethodHandle" ∧ (⟨"PrefixCodes$Stream", "placeOf", "(I)I"⟩ : MethodName).cls ≠ "java/lang/invoke/VarHandle" ∧ (parseMethodDescriptor (⟨"PrefixCodes$Stream", "placeOf", "(I)I"⟩ : MethodName).desc).map (fun d => d.parameters.length) = some 1 := by decide +kernel
def y_Stream_bitOf : MethodName := ⟨"PrefixCodes$Stream", "bitOf", "(I)I"⟩
abbrev w_Stream_bitOf : List Cond := Cond.code ⟨"PrefixCodes$Stream", "bitOf", "(I)I"⟩ prog_9_method_3_code 2 (some .int) :: gW
abbrev rm_Stream_bitOf : Room := { frames := 0, cells := 0, slots := 0, locals := 0 }
theorem yd_Stream_bitOf : (⟨"PrefixCodes$Stream", "bitOf", "(I)I"⟩ : MethodName).cls = "PrefixCodes$Stream" ∧ (⟨"PrefixCodes$Stream", "bitOf", "(I)I"⟩ : MethodName).cls ≠ "java/lang/invoke/MethodHandle" ∧ (⟨"PrefixCodes$Stream", "bitOf", "(I)I"⟩ : MethodName).cls ≠ "java/lang/invoke/VarHandle" ∧ (parseMethodDescriptor (⟨"PrefixCodes$Stream", "bitOf", "(I)I"⟩ : MethodName).desc).map (fun d => d.parameters.length) = some 1 := by decide +kernel
def y_Stream_at : MethodName := ⟨"PrefixCodes$Stream", "at", "(I)I"⟩
abbrev w_Stream_at : List Cond := Cond.code ⟨"PrefixCodes$Stream", "at", "(I)I"⟩ prog_9_method_4_code 2 (some .int) :: gW
abbrev rm_Stream_at : Room := { frames := 1, cells := 0, slots := 0, locals := 21 }
theorem yd_Stream_at : (⟨"PrefixCodes$Stream", "at", "(I)I"⟩ : MethodName).cls = "PrefixCodes$Stream" ∧ (⟨"PrefixCodes$Stream", "at", "(I)I"⟩ : MethodName).cls ≠ "java/lang/invoke/MethodHandle" ∧ (⟨"PrefixCodes$Stream", "at", "(I)I"⟩ : MethodName).cls ≠ "java/lang/invoke/VarHandle" ∧ (parseMethodDescriptor (⟨"PrefixCodes$Stream", "at", "(I)I"⟩ : MethodName).desc).map (fun d => d.parameters.length) = some 1 := by decide +kernel
def y_PC_bit : MethodName := ⟨"PrefixCodes", "bit", "(I)I"⟩
abbrev w_PC_bit : List Cond := Cond.code ⟨"PrefixCodes", "bit", "(I)I"⟩ prog_1_method_11_code 2 (some .int) :: gW
abbrev rm_PC_bit : Room := { frames := 6, cells := 0, slots := 0, locals := 150 }
theorem yd_PC_bit : (⟨"PrefixCodes", "bit", "(I)I"⟩ : MethodName).cls = "PrefixCodes" ∧ (⟨"PrefixCodes", "bit", "(I)I"⟩ : MethodName).cls ≠ "java/lang/invoke/MethodHandle" ∧ (⟨"PrefixCodes", "bit", "(I)I"⟩ : MethodName).cls ≠ "java/lang/invoke/VarHandle" ∧ (parseMethodDescriptor (⟨"PrefixCodes", "bit", "(I)I"⟩ : MethodName).desc).map (fun d => d.parameters.length) = some 1 := by decide +kernel
def y_PC_clear : MethodName := ⟨"PrefixCodes", "clear", "()I"⟩
abbrev w_PC_clear : List Cond := Cond.code ⟨"PrefixCodes", "clear", "()I"⟩ prog_1_method_12_code 2 (some .int) :: gW
abbrev rm_PC_clear : Room := { frames := 0, cells := 0, slots := 0, locals := 0 }
theorem yd_PC_clear : (⟨"PrefixCodes", "clear", "()I"⟩ : MethodName).cls = "PrefixCodes" ∧ (⟨"PrefixCodes", "clear", "()I"⟩ : MethodName).cls ≠ "java/lang/invoke/MethodHandle" ∧ (⟨"PrefixCodes", "clear", "()I"⟩ : MethodName).cls ≠ "java/lang/invoke/VarHandle" ∧ (parseMethodDescriptor (⟨"PrefixCodes", "clear", "()I"⟩ : MethodName).desc).map (fun d => d.parameters.length) = some 0 := by decide +kernel
def y_Stream_append : MethodName := ⟨"PrefixCodes$Stream", "append", "(I)V"⟩
abbrev w_Stream_append : List Cond := Cond.code ⟨"PrefixCodes$Stream", "append", "(I)V"⟩ prog_9_method_7_code 5 none :: gW
abbrev rm_Stream_append : Room := { frames := 1, cells := 0, slots := 0, locals := 21 }
theorem yd_Stream_append : (⟨"PrefixCodes$Stream", "append", "(I)V"⟩ : MethodName).cls = "PrefixCodes$Stream" ∧ (⟨"PrefixCodes$Stream", "append", "(I)V"⟩ : MethodName).cls ≠ "java/lang/invoke/MethodHandle" ∧ (⟨"PrefixCodes$Stream", "append", "(I)V"⟩ : MethodName).cls ≠ "java/lang/invoke/VarHandle" ∧ (parseMethodDescriptor (⟨"PrefixCodes$Stream", "append", "(I)V"⟩ : MethodName).desc).map (fun d => d.parameters.length) = some 1 := by decide +kernel
def y_Stream_appendNumber : MethodName := ⟨"PrefixCodes$Stream", "appendNumber", "(II)V"⟩
abbrev w_Stream_appendNumber : List Cond := Cond.code ⟨"PrefixCodes$Stream", "appendNumber", "(II)V"⟩ prog_9_method_8_code 4 none :: gW
abbrev rm_Stream_appendNumber : Room := { frames := 2, cells := 0, slots := 0, locals := 45 }
theorem yd_Stream_appendNumber : (⟨"PrefixCodes$Stream", "appendNumber", "(II)V"⟩ : MethodName).cls = "PrefixCodes$Stream" ∧ (⟨"PrefixCodes$Stream", "appendNumber", "(II)V"⟩ : MethodName).cls ≠ "java/lang/invoke/MethodHandle" ∧ (⟨"PrefixCodes$Stream", "appendNumber", "(II)V"⟩ : MethodName).cls ≠ "java/lang/invoke/VarHandle" ∧ (parseMethodDescriptor (⟨"PrefixCodes$Stream", "appendNumber", "(II)V"⟩ : MethodName).desc).map (fun d => d.parameters.length) = some 2 := by decide +kernel
def y_PC_putBits : MethodName := ⟨"PrefixCodes", "putBits", "(II)I"⟩
abbrev w_PC_putBits : List Cond := Cond.code ⟨"PrefixCodes", "putBits", "(II)I"⟩ prog_1_method_33_code 3 (some .int) :: gW
abbrev rm_PC_putBits : Room := { frames := 3, cells := 0, slots := 0, locals := 68 }
theorem yd_PC_putBits : (⟨"PrefixCodes", "putBits", "(II)I"⟩ : MethodName).cls = "PrefixCodes" ∧ (⟨"PrefixCodes", "putBits", "(II)I"⟩ : MethodName).cls ≠ "java/lang/invoke/MethodHandle" ∧ (⟨"PrefixCodes", "putBits", "(II)I"⟩ : MethodName).cls ≠ "java/lang/invoke/VarHandle" ∧ (parseMethodDescriptor (⟨"PrefixCodes", "putBits", "(II)I"⟩ : MethodName).desc).map (fun d => d.parameters.length) = some 2 := by decide +kernel
def y_PC_putNumber : MethodName := ⟨"PrefixCodes", "putNumber", "(II)I"⟩
abbrev w_PC_putNumber : List Cond := Cond.code ⟨"PrefixCodes", "putNumber", "(II)I"⟩ prog_1_method_13_code 3 (some .int) :: gW
abbrev rm_PC_putNumber : Room := { frames := 4, cells := 0, slots := 0, locals := 90 }
theorem yd_PC_putNumber : (⟨"PrefixCodes", "putNumber", "(II)I"⟩ : MethodName).cls = "PrefixCodes" ∧ (⟨"PrefixCodes", "putNumber", "(II)I"⟩ : MethodName).cls ≠ "java/lang/invoke/MethodHandle" ∧ (⟨"PrefixCodes", "putNumber", "(II)I"⟩ : MethodName).cls ≠ "java/lang/invoke/VarHandle" ∧ (parseMethodDescriptor (⟨"PrefixCodes", "putNumber", "(II)I"⟩ : MethodName).desc).map (fun d => d.parameters.length) = some 2 := by decide +kernel
def y_Stream_removeFirst : MethodName := ⟨"PrefixCodes$Stream", "removeFirst", "()I"⟩
abbrev w_Stream_removeFirst : List Cond := Cond.code ⟨"PrefixCodes$Stream", "removeFirst", "()I"⟩ prog_9_method_9_code 2 (some .int) :: gW
abbrev rm_Stream_removeFirst : Room := { frames := 1, cells := 0, slots := 0, locals := 21 }
theorem yd_Stream_removeFirst : (⟨"PrefixCodes$Stream", "removeFirst", "()I"⟩ : MethodName).cls = "PrefixCodes$Stream" ∧ (⟨"PrefixCodes$Stream", "removeFirst", "()I"⟩ : MethodName).cls ≠ "java/lang/invoke/MethodHandle" ∧ (⟨"PrefixCodes$Stream", "removeFirst", "()I"⟩ : MethodName).cls ≠ "java/lang/invoke/VarHandle" ∧ (parseMethodDescriptor (⟨"PrefixCodes$Stream", "removeFirst", "()I"⟩ : MethodName).desc).map (fun d => d.parameters.length) = some 0 := by decide +kernel
def y_Stream_removeNumber : MethodName := ⟨"PrefixCodes$Stream", "removeNumber", "(I)I"⟩
abbrev w_Stream_removeNumber : List Cond := Cond.code ⟨"PrefixCodes$Stream", "removeNumber", "(I)I"⟩ prog_9_method_11_code 4 (some .int) :: gW
abbrev rm_Stream_removeNumber : Room := { frames := 2, cells := 0, slots := 0, locals := 42 }
theorem yd_Stream_removeNumber : (⟨"PrefixCodes$Stream", "removeNumber", "(I)I"⟩ : MethodName).cls = "PrefixCodes$Stream" ∧ (⟨"PrefixCodes$Stream", "removeNumber", "(I)I"⟩ : MethodName).cls ≠ "java/lang/invoke/MethodHandle" ∧ (⟨"PrefixCodes$Stream", "removeNumber", "(I)I"⟩ : MethodName).cls ≠ "java/lang/invoke/VarHandle" ∧ (parseMethodDescriptor (⟨"PrefixCodes$Stream", "removeNumber", "(I)I"⟩ : MethodName).desc).map (fun d => d.parameters.length) = some 1 := by decide +kernel
def y_PC_takeNumber : MethodName := ⟨"PrefixCodes", "takeNumber", "(I)I"⟩
abbrev w_PC_takeNumber : List Cond := Cond.code ⟨"PrefixCodes", "takeNumber", "(I)I"⟩ prog_1_method_14_code 2 (some .int) :: gW
abbrev rm_PC_takeNumber : Room := { frames := 3, cells := 0, slots := 0, locals := 65 }
theorem yd_PC_takeNumber : (⟨"PrefixCodes", "takeNumber", "(I)I"⟩ : MethodName).cls = "PrefixCodes" ∧ (⟨"PrefixCodes", "takeNumber", "(I)I"⟩ : MethodName).cls ≠ "java/lang/invoke/MethodHandle" ∧ (⟨"PrefixCodes", "takeNumber", "(I)I"⟩ : MethodName).cls ≠ "java/lang/invoke/VarHandle" ∧ (parseMethodDescriptor (⟨"PrefixCodes", "takeNumber", "(I)I"⟩ : MethodName).desc).map (fun d => d.parameters.length) = some 1 := by decide +kernel
def y_PC_put : MethodName := ⟨"PrefixCodes", "put", "(IIZ)I"⟩
abbrev w_PC_put : List Cond := Cond.code ⟨"PrefixCodes", "put", "(IIZ)I"⟩ prog_1_method_15_code 5 (some .int) :: gW
abbrev rm_PC_put : Room := { frames := 4, cells := 0, slots := 0, locals := 90 }
theorem yd_PC_put : (⟨"PrefixCodes", "put", "(IIZ)I"⟩ : MethodName).cls = "PrefixCodes" ∧ (⟨"PrefixCodes", "put", "(IIZ)I"⟩ : MethodName).cls ≠ "java/lang/invoke/MethodHandle" ∧ (⟨"PrefixCodes", "put", "(IIZ)I"⟩ : MethodName).cls ≠ "java/lang/invoke/VarHandle" ∧ (parseMethodDescriptor (⟨"PrefixCodes", "put", "(IIZ)I"⟩ : MethodName).desc).map (fun d => d.parameters.length) = some 3 := by decide +kernel
def y_Code_canBeRead : MethodName := ⟨"PrefixCodes$Code", "canBeRead", "()Z"⟩
abbrev w_Code_canBeRead : List Cond := Cond.code ⟨"PrefixCodes$Code", "canBeRead", "()Z"⟩ prog_3_method_8_code 1 (some .boolean) :: gW
abbrev rm_Code_canBeRead : Room := { frames := 0, cells := 0, slots := 0, locals := 0 }
theorem yd_Code_canBeRead : (⟨"PrefixCodes$Code", "canBeRead", "()Z"⟩ : MethodName).cls = "PrefixCodes$Code" ∧ (⟨"PrefixCodes$Code", "canBeRead", "()Z"⟩ : MethodName).cls ≠ "java/lang/invoke/MethodHandle" ∧ (⟨"PrefixCodes$Code", "canBeRead", "()Z"⟩ : MethodName).cls ≠ "java/lang/invoke/VarHandle" ∧ (parseMethodDescriptor (⟨"PrefixCodes$Code", "canBeRead", "()Z"⟩ : MethodName).desc).map (fun d => d.parameters.length) = some 0 := by decide +kernel
def y_Stream_removeLast : MethodName := ⟨"PrefixCodes$Stream", "removeLast", "()I"⟩
abbrev w_Stream_removeLast : List Cond := Cond.code ⟨"PrefixCodes$Stream", "removeLast", "()I"⟩ prog_9_method_10_code 2 (some .int) :: gW
abbrev rm_Stream_removeLast : Room := { frames := 2, cells := 0, slots := 0, locals := 42 }
theorem yd_Stream_removeLast : (⟨"PrefixCodes$Stream", "removeLast", "()I"⟩ : MethodName).cls = "PrefixCodes$Stream" ∧ (⟨"PrefixCodes$Stream", "removeLast", "()I"⟩ : MethodName).cls ≠ "java/lang/invoke/MethodHandle" ∧ (⟨"PrefixCodes$Stream", "removeLast", "()I"⟩ : MethodName).cls ≠ "java/lang/invoke/VarHandle" ∧ (parseMethodDescriptor (⟨"PrefixCodes$Stream", "removeLast", "()I"⟩ : MethodName).desc).map (fun d => d.parameters.length) = some 0 := by decide +kernel
def y_Code_removeSymbol : MethodName := ⟨"PrefixCodes$Code", "removeSymbol", "(LPrefixCodes$Stream;Z)I"⟩
abbrev w_Code_removeSymbol : List Cond := Cond.code ⟨"PrefixCodes$Code", "removeSymbol", "(LPrefixCodes$Stream;Z)I"⟩ prog_3_method_10_code 7 (some .int) :: gW
abbrev rm_Code_removeSymbol : Room := { frames := 3, cells := 0, slots := 0, locals := 63 }
theorem yd_Code_removeSymbol : (⟨"PrefixCodes$Code", "removeSymbol", "(LPrefixCodes$Stream;Z)I"⟩ : MethodName).cls = "PrefixCodes$Code" ∧ (⟨"PrefixCodes$Code", "removeSymbol", "(LPrefixCodes$Stream;Z)I"⟩ : MethodName).cls ≠ "java/lang/invoke/MethodHandle" ∧ (⟨"PrefixCodes$Code", "removeSymbol", "(LPrefixCodes$Stream;Z)I"⟩ : MethodName).cls ≠ "java/lang/invoke/VarHandle" ∧ (parseMethodDescriptor (⟨"PrefixCodes$Code", "removeSymbol", "(LPrefixCodes$Stream;Z)I"⟩ : MethodName).desc).map (fun d => d.parameters.length) = some 2 := by decide +kernel
def y_PC_take : MethodName := ⟨"PrefixCodes", "take", "(IZ)I"⟩
abbrev w_PC_take : List Cond := Cond.code ⟨"PrefixCodes", "take", "(IZ)I"⟩ prog_1_method_16_code 4 (some .int) :: gW
abbrev rm_PC_take : Room := { frames := 4, cells := 0, slots := 0, locals := 89 }
theorem yd_PC_take : (⟨"PrefixCodes", "take", "(IZ)I"⟩ : MethodName).cls = "PrefixCodes" ∧ (⟨"PrefixCodes", "take", "(IZ)I"⟩ : MethodName).cls ≠ "java/lang/invoke/MethodHandle" ∧ (⟨"PrefixCodes", "take", "(IZ)I"⟩ : MethodName).cls ≠ "java/lang/invoke/VarHandle" ∧ (parseMethodDescriptor (⟨"PrefixCodes", "take", "(IZ)I"⟩ : MethodName).desc).map (fun d => d.parameters.length) = some 2 := by decide +kernel
def y_Stream_begin : MethodName := ⟨"PrefixCodes$Stream", "begin", "()V"⟩
abbrev w_Stream_begin : List Cond := Cond.code ⟨"PrefixCodes$Stream", "begin", "()V"⟩ prog_9_method_5_code 1 none :: gW
abbrev rm_Stream_begin : Room := { frames := 0, cells := 0, slots := 0, locals := 0 }
theorem yd_Stream_begin : (⟨"PrefixCodes$Stream", "begin", "()V"⟩ : MethodName).cls = "PrefixCodes$Stream" ∧ (⟨"PrefixCodes$Stream", "begin", "()V"⟩ : MethodName).cls ≠ "java/lang/invoke/MethodHandle" ∧ (⟨"PrefixCodes$Stream", "begin", "()V"⟩ : MethodName).cls ≠ "java/lang/invoke/VarHandle" ∧ (parseMethodDescriptor (⟨"PrefixCodes$Stream", "begin", "()V"⟩ : MethodName).desc).map (fun d => d.parameters.length) = some 0 := by decide +kernel
def y_Manners_appendPlain : MethodName := ⟨"PrefixCodes$Manners", "appendPlain", "(LPrefixCodes$Code;)V"⟩
abbrev w_Manners_appendPlain : List Cond := Cond.code ⟨"PrefixCodes$Manners", "appendPlain", "(LPrefixCodes$Code;)V"⟩ prog_5_method_4_code 3 none :: gW
abbrev rm_Manners_appendPlain : Room := { frames := 3, cells := 0, slots := 0, locals := 68 }
theorem yd_Manners_appendPlain : (⟨"PrefixCodes$Manners", "appendPlain", "(LPrefixCodes$Code;)V"⟩ : MethodName).cls = "PrefixCodes$Manners" ∧ (⟨"PrefixCodes$Manners", "appendPlain", "(LPrefixCodes$Code;)V"⟩ : MethodName).cls ≠ "java/lang/invoke/MethodHandle" ∧ (⟨"PrefixCodes$Manners", "appendPlain", "(LPrefixCodes$Code;)V"⟩ : MethodName).cls ≠ "java/lang/invoke/VarHandle" ∧ (parseMethodDescriptor (⟨"PrefixCodes$Manners", "appendPlain", "(LPrefixCodes$Code;)V"⟩ : MethodName).desc).map (fun d => d.parameters.length) = some 1 := by decide +kernel
def y_Manners_appendSteps : MethodName := ⟨"PrefixCodes$Manners", "appendSteps", "(LPrefixCodes$Code;)V"⟩
abbrev w_Manners_appendSteps : List Cond := Cond.code ⟨"PrefixCodes$Manners", "appendSteps", "(LPrefixCodes$Code;)V"⟩ prog_5_method_6_code 6 none :: gW
abbrev rm_Manners_appendSteps : Room := { frames := 3, cells := 0, slots := 0, locals := 68 }
theorem yd_Manners_appendSteps : (⟨"PrefixCodes$Manners", "appendSteps", "(LPrefixCodes$Code;)V"⟩ : MethodName).cls = "PrefixCodes$Manners" ∧ (⟨"PrefixCodes$Manners", "appendSteps", "(LPrefixCodes$Code;)V"⟩ : MethodName).cls ≠ "java/lang/invoke/MethodHandle" ∧ (⟨"PrefixCodes$Manners", "appendSteps", "(LPrefixCodes$Code;)V"⟩ : MethodName).cls ≠ "java/lang/invoke/VarHandle" ∧ (parseMethodDescriptor (⟨"PrefixCodes$Manners", "appendSteps", "(LPrefixCodes$Code;)V"⟩ : MethodName).desc).map (fun d => d.parameters.length) = some 1 := by decide +kernel
def y_Commands_runFrom : MethodName := ⟨"PrefixCodes$Commands", "runFrom", "([III)I"⟩
abbrev w_Commands_runFrom : List Cond := Cond.code ⟨"PrefixCodes$Commands", "runFrom", "([III)I"⟩ prog_4_method_5_code 4 (some .int) :: gW
abbrev rm_Commands_runFrom : Room := { frames := 0, cells := 0, slots := 0, locals := 0 }
theorem yd_Commands_runFrom : (⟨"PrefixCodes$Commands", "runFrom", "([III)I"⟩ : MethodName).cls = "PrefixCodes$Commands" ∧ (⟨"PrefixCodes$Commands", "runFrom", "([III)I"⟩ : MethodName).cls ≠ "java/lang/invoke/MethodHandle" ∧ (⟨"PrefixCodes$Commands", "runFrom", "([III)I"⟩ : MethodName).cls ≠ "java/lang/invoke/VarHandle" ∧ (parseMethodDescriptor (⟨"PrefixCodes$Commands", "runFrom", "([III)I"⟩ : MethodName).desc).map (fun d => d.parameters.length) = some 3 := by decide +kernel
def y_Commands_commandAt : MethodName := ⟨"PrefixCodes$Commands", "commandAt", "([III)I"⟩
abbrev w_Commands_commandAt : List Cond := Cond.code ⟨"PrefixCodes$Commands", "commandAt", "([III)I"⟩ prog_4_method_4_code 6 (some .int) :: gW
abbrev rm_Commands_commandAt : Room := { frames := 1, cells := 0, slots := 0, locals := 23 }
theorem yd_Commands_commandAt : (⟨"PrefixCodes$Commands", "commandAt", "([III)I"⟩ : MethodName).cls = "PrefixCodes$Commands" ∧ (⟨"PrefixCodes$Commands", "commandAt", "([III)I"⟩ : MethodName).cls ≠ "java/lang/invoke/MethodHandle" ∧ (⟨"PrefixCodes$Commands", "commandAt", "([III)I"⟩ : MethodName).cls ≠ "java/lang/invoke/VarHandle" ∧ (parseMethodDescriptor (⟨"PrefixCodes$Commands", "commandAt", "([III)I"⟩ : MethodName).desc).map (fun d => d.parameters.length) = some 3 := by decide +kernel
def y_Commands_gather : MethodName := ⟨"PrefixCodes$Commands", "gather", "([II)V"⟩
abbrev w_Commands_gather : List Cond := Cond.code ⟨"PrefixCodes$Commands", "gather", "([II)V"⟩ prog_4_method_3_code 6 none :: gW
abbrev rm_Commands_gather : Room := { frames := 2, cells := 0, slots := 0, locals := 48 }
theorem yd_Commands_gather : (⟨"PrefixCodes$Commands", "gather", "([II)V"⟩ : MethodName).cls = "PrefixCodes$Commands" ∧ (⟨"PrefixCodes$Commands", "gather", "([II)V"⟩ : MethodName).cls ≠ "java/lang/invoke/MethodHandle" ∧ (⟨"PrefixCodes$Commands", "gather", "([II)V"⟩ : MethodName).cls ≠ "java/lang/invoke/VarHandle" ∧ (parseMethodDescriptor (⟨"PrefixCodes$Commands", "gather", "([II)V"⟩ : MethodName).desc).map (fun d => d.parameters.length) = some 2 := by decide +kernel
def y_Commands_appendCode : MethodName := ⟨"PrefixCodes$Commands", "appendCode", "()V"⟩
abbrev w_Commands_appendCode : List Cond := Cond.code ⟨"PrefixCodes$Commands", "appendCode", "()V"⟩ prog_4_method_6_code 3 none :: gW
abbrev rm_Commands_appendCode : Room := { frames := 3, cells := 0, slots := 0, locals := 68 }
theorem yd_Commands_appendCode : (⟨"PrefixCodes$Commands", "appendCode", "()V"⟩ : MethodName).cls = "PrefixCodes$Commands" ∧ (⟨"PrefixCodes$Commands", "appendCode", "()V"⟩ : MethodName).cls ≠ "java/lang/invoke/MethodHandle" ∧ (⟨"PrefixCodes$Commands", "appendCode", "()V"⟩ : MethodName).cls ≠ "java/lang/invoke/VarHandle" ∧ (parseMethodDescriptor (⟨"PrefixCodes$Commands", "appendCode", "()V"⟩ : MethodName).desc).map (fun d => d.parameters.length) = some 0 := by decide +kernel
def y_Commands_append : MethodName := ⟨"PrefixCodes$Commands", "append", "([II)V"⟩
abbrev w_Commands_append : List Cond := Cond.code ⟨"PrefixCodes$Commands", "append", "([II)V"⟩ prog_4_method_2_code 6 none :: gW
abbrev rm_Commands_append : Room := { frames := 4, cells := 0, slots := 0, locals := 90 }
theorem yd_Commands_append : (⟨"PrefixCodes$Commands", "append", "([II)V"⟩ : MethodName).cls = "PrefixCodes$Commands" ∧ (⟨"PrefixCodes$Commands", "append", "([II)V"⟩ : MethodName).cls ≠ "java/lang/invoke/MethodHandle" ∧ (⟨"PrefixCodes$Commands", "append", "([II)V"⟩ : MethodName).cls ≠ "java/lang/invoke/VarHandle" ∧ (parseMethodDescriptor (⟨"PrefixCodes$Commands", "append", "([II)V"⟩ : MethodName).desc).map (fun d => d.parameters.length) = some 2 := by decide +kernel
def y_Manners_append : MethodName := ⟨"PrefixCodes$Manners", "append", "(LPrefixCodes$Code;I)V"⟩
abbrev w_Manners_append : List Cond := Cond.code ⟨"PrefixCodes$Manners", "append", "(LPrefixCodes$Code;I)V"⟩ prog_5_method_2_code 3 none :: gW
abbrev rm_Manners_append : Room := { frames := 5, cells := 0, slots := 0, locals := 115 }
theorem yd_Manners_append : (⟨"PrefixCodes$Manners", "append", "(LPrefixCodes$Code;I)V"⟩ : MethodName).cls = "PrefixCodes$Manners" ∧ (⟨"PrefixCodes$Manners", "append", "(LPrefixCodes$Code;I)V"⟩ : MethodName).cls ≠ "java/lang/invoke/MethodHandle" ∧ (⟨"PrefixCodes$Manners", "append", "(LPrefixCodes$Code;I)V"⟩ : MethodName).cls ≠ "java/lang/invoke/VarHandle" ∧ (parseMethodDescriptor (⟨"PrefixCodes$Manners", "append", "(LPrefixCodes$Code;I)V"⟩ : MethodName).desc).map (fun d => d.parameters.length) = some 2 := by decide +kernel
def y_Stream_settle : MethodName := ⟨"PrefixCodes$Stream", "settle", "()I"⟩
abbrev w_Stream_settle : List Cond := Cond.code ⟨"PrefixCodes$Stream", "settle", "()I"⟩ prog_9_method_6_code 1 (some .int) :: gW
abbrev rm_Stream_settle : Room := { frames := 0, cells := 0, slots := 0, locals := 0 }
theorem yd_Stream_settle : (⟨"PrefixCodes$Stream", "settle", "()I"⟩ : MethodName).cls = "PrefixCodes$Stream" ∧ (⟨"PrefixCodes$Stream", "settle", "()I"⟩ : MethodName).cls ≠ "java/lang/invoke/MethodHandle" ∧ (⟨"PrefixCodes$Stream", "settle", "()I"⟩ : MethodName).cls ≠ "java/lang/invoke/VarHandle" ∧ (parseMethodDescriptor (⟨"PrefixCodes$Stream", "settle", "()I"⟩ : MethodName).desc).map (fun d => d.parameters.length) = some 0 := by decide +kernel
def y_PC_pack : MethodName := ⟨"PrefixCodes", "pack", "(II)I"⟩
abbrev w_PC_pack : List Cond := Cond.code ⟨"PrefixCodes", "pack", "(II)I"⟩ prog_1_method_17_code 4 (some .int) :: gW
abbrev rm_PC_pack : Room := { frames := 6, cells := 0, slots := 0, locals := 137 }
theorem yd_PC_pack : (⟨"PrefixCodes", "pack", "(II)I"⟩ : MethodName).cls = "PrefixCodes" ∧ (⟨"PrefixCodes", "pack", "(II)I"⟩ : MethodName).cls ≠ "java/lang/invoke/MethodHandle" ∧ (⟨"PrefixCodes", "pack", "(II)I"⟩ : MethodName).cls ≠ "java/lang/invoke/VarHandle" ∧ (parseMethodDescriptor (⟨"PrefixCodes", "pack", "(II)I"⟩ : MethodName).desc).map (fun d => d.parameters.length) = some 2 := by decide +kernel
def y_Manners_removePlain : MethodName := ⟨"PrefixCodes$Manners", "removePlain", "(I)I"⟩
abbrev w_Manners_removePlain : List Cond := Cond.code ⟨"PrefixCodes$Manners", "removePlain", "(I)I"⟩ prog_5_method_5_code 4 (some .int) :: gW
abbrev rm_Manners_removePlain : Room := { frames := 3, cells := 0, slots := 0, locals := 65 }
theorem yd_Manners_removePlain : (⟨"PrefixCodes$Manners", "removePlain", "(I)I"⟩ : MethodName).cls = "PrefixCodes$Manners" ∧ (⟨"PrefixCodes$Manners", "removePlain", "(I)I"⟩ : MethodName).cls ≠ "java/lang/invoke/MethodHandle" ∧ (⟨"PrefixCodes$Manners", "removePlain", "(I)I"⟩ : MethodName).cls ≠ "java/lang/invoke/VarHandle" ∧ (parseMethodDescriptor (⟨"PrefixCodes$Manners", "removePlain", "(I)I"⟩ : MethodName).desc).map (fun d => d.parameters.length) = some 1 := by decide +kernel
def y_Manners_stepsFrom : MethodName := ⟨"PrefixCodes$Manners", "stepsFrom", "(I)I"⟩
abbrev w_Manners_stepsFrom : List Cond := Cond.code ⟨"PrefixCodes$Manners", "stepsFrom", "(I)I"⟩ prog_5_method_8_code 6 (some .int) :: gW
abbrev rm_Manners_stepsFrom : Room := { frames := 2, cells := 0, slots := 0, locals := 42 }
theorem yd_Manners_stepsFrom : (⟨"PrefixCodes$Manners", "stepsFrom", "(I)I"⟩ : MethodName).cls = "PrefixCodes$Manners" ∧ (⟨"PrefixCodes$Manners", "stepsFrom", "(I)I"⟩ : MethodName).cls ≠ "java/lang/invoke/MethodHandle" ∧ (⟨"PrefixCodes$Manners", "stepsFrom", "(I)I"⟩ : MethodName).cls ≠ "java/lang/invoke/VarHandle" ∧ (parseMethodDescriptor (⟨"PrefixCodes$Manners", "stepsFrom", "(I)I"⟩ : MethodName).desc).map (fun d => d.parameters.length) = some 1 := by decide +kernel
def y_Manners_removeSteps : MethodName := ⟨"PrefixCodes$Manners", "removeSteps", "(I)I"⟩
abbrev w_Manners_removeSteps : List Cond := Cond.code ⟨"PrefixCodes$Manners", "removeSteps", "(I)I"⟩ prog_5_method_7_code 4 (some .int) :: gW
abbrev rm_Manners_removeSteps : Room := { frames := 3, cells := 0, slots := 0, locals := 67 }
theorem yd_Manners_removeSteps : (⟨"PrefixCodes$Manners", "removeSteps", "(I)I"⟩ : MethodName).cls = "PrefixCodes$Manners" ∧ (⟨"PrefixCodes$Manners", "removeSteps", "(I)I"⟩ : MethodName).cls ≠ "java/lang/invoke/MethodHandle" ∧ (⟨"PrefixCodes$Manners", "removeSteps", "(I)I"⟩ : MethodName).cls ≠ "java/lang/invoke/VarHandle" ∧ (parseMethodDescriptor (⟨"PrefixCodes$Manners", "removeSteps", "(I)I"⟩ : MethodName).desc).map (fun d => d.parameters.length) = some 1 := by decide +kernel
def y_Commands_removeCode : MethodName := ⟨"PrefixCodes$Commands", "removeCode", "()I"⟩
abbrev w_Commands_removeCode : List Cond := Cond.code ⟨"PrefixCodes$Commands", "removeCode", "()I"⟩ prog_4_method_8_code 4 (some .int) :: gW
abbrev rm_Commands_removeCode : Room := { frames := 3, cells := 0, slots := 0, locals := 65 }
theorem yd_Commands_removeCode : (⟨"PrefixCodes$Commands", "removeCode", "()I"⟩ : MethodName).cls = "PrefixCodes$Commands" ∧ (⟨"PrefixCodes$Commands", "removeCode", "()I"⟩ : MethodName).cls ≠ "java/lang/invoke/MethodHandle" ∧ (⟨"PrefixCodes$Commands", "removeCode", "()I"⟩ : MethodName).cls ≠ "java/lang/invoke/VarHandle" ∧ (parseMethodDescriptor (⟨"PrefixCodes$Commands", "removeCode", "()I"⟩ : MethodName).desc).map (fun d => d.parameters.length) = some 0 := by decide +kernel
def y_Commands_removeCommand : MethodName := ⟨"PrefixCodes$Commands", "removeCommand", "([III)I"⟩
abbrev w_Commands_removeCommand : List Cond := Cond.code ⟨"PrefixCodes$Commands", "removeCommand", "([III)I"⟩ prog_4_method_9_code 9 (some .int) :: gW
abbrev rm_Commands_removeCommand : Room := { frames := 4, cells := 0, slots := 0, locals := 89 }
theorem yd_Commands_removeCommand : (⟨"PrefixCodes$Commands", "removeCommand", "([III)I"⟩ : MethodName).cls = "PrefixCodes$Commands" ∧ (⟨"PrefixCodes$Commands", "removeCommand", "([III)I"⟩ : MethodName).cls ≠ "java/lang/invoke/MethodHandle" ∧ (⟨"PrefixCodes$Commands", "removeCommand", "([III)I"⟩ : MethodName).cls ≠ "java/lang/invoke/VarHandle" ∧ (parseMethodDescriptor (⟨"PrefixCodes$Commands", "removeCommand", "([III)I"⟩ : MethodName).desc).map (fun d => d.parameters.length) = some 3 := by decide +kernel
def y_Commands_remove : MethodName := ⟨"PrefixCodes$Commands", "remove", "([II)I"⟩
abbrev w_Commands_remove : List Cond := Cond.code ⟨"PrefixCodes$Commands", "remove", "([II)I"⟩ prog_4_method_7_code 6 (some .int) :: gW
abbrev rm_Commands_remove : Room := { frames := 5, cells := 0, slots := 0, locals := 117 }
theorem yd_Commands_remove : (⟨"PrefixCodes$Commands", "remove", "([II)I"⟩ : MethodName).cls = "PrefixCodes$Commands" ∧ (⟨"PrefixCodes$Commands", "remove", "([II)I"⟩ : MethodName).cls ≠ "java/lang/invoke/MethodHandle" ∧ (⟨"PrefixCodes$Commands", "remove", "([II)I"⟩ : MethodName).cls ≠ "java/lang/invoke/VarHandle" ∧ (parseMethodDescriptor (⟨"PrefixCodes$Commands", "remove", "([II)I"⟩ : MethodName).desc).map (fun d => d.parameters.length) = some 2 := by decide +kernel
def y_Manners_remove : MethodName := ⟨"PrefixCodes$Manners", "remove", "(II)I"⟩
abbrev w_Manners_remove : List Cond := Cond.code ⟨"PrefixCodes$Manners", "remove", "(II)I"⟩ prog_5_method_3_code 3 (some .int) :: gW
abbrev rm_Manners_remove : Room := { frames := 6, cells := 0, slots := 0, locals := 142 }
theorem yd_Manners_remove : (⟨"PrefixCodes$Manners", "remove", "(II)I"⟩ : MethodName).cls = "PrefixCodes$Manners" ∧ (⟨"PrefixCodes$Manners", "remove", "(II)I"⟩ : MethodName).cls ≠ "java/lang/invoke/MethodHandle" ∧ (⟨"PrefixCodes$Manners", "remove", "(II)I"⟩ : MethodName).cls ≠ "java/lang/invoke/VarHandle" ∧ (parseMethodDescriptor (⟨"PrefixCodes$Manners", "remove", "(II)I"⟩ : MethodName).desc).map (fun d => d.parameters.length) = some 2 := by decide +kernel
def y_Stream_giveBack : MethodName := ⟨"PrefixCodes$Stream", "giveBack", "(I)V"⟩
abbrev w_Stream_giveBack : List Cond := Cond.code ⟨"PrefixCodes$Stream", "giveBack", "(I)V"⟩ prog_9_method_12_code 2 none :: gW
abbrev rm_Stream_giveBack : Room := { frames := 1, cells := 0, slots := 0, locals := 21 }
theorem yd_Stream_giveBack : (⟨"PrefixCodes$Stream", "giveBack", "(I)V"⟩ : MethodName).cls = "PrefixCodes$Stream" ∧ (⟨"PrefixCodes$Stream", "giveBack", "(I)V"⟩ : MethodName).cls ≠ "java/lang/invoke/MethodHandle" ∧ (⟨"PrefixCodes$Stream", "giveBack", "(I)V"⟩ : MethodName).cls ≠ "java/lang/invoke/VarHandle" ∧ (parseMethodDescriptor (⟨"PrefixCodes$Stream", "giveBack", "(I)V"⟩ : MethodName).desc).map (fun d => d.parameters.length) = some 1 := by decide +kernel
def y_PC_unpack : MethodName := ⟨"PrefixCodes", "unpack", "(II)I"⟩
abbrev w_PC_unpack : List Cond := Cond.code ⟨"PrefixCodes", "unpack", "(II)I"⟩ prog_1_method_18_code 6 (some .int) :: gW
abbrev rm_PC_unpack : Room := { frames := 7, cells := 0, slots := 0, locals := 164 }
theorem yd_PC_unpack : (⟨"PrefixCodes", "unpack", "(II)I"⟩ : MethodName).cls = "PrefixCodes" ∧ (⟨"PrefixCodes", "unpack", "(II)I"⟩ : MethodName).cls ≠ "java/lang/invoke/MethodHandle" ∧ (⟨"PrefixCodes", "unpack", "(II)I"⟩ : MethodName).cls ≠ "java/lang/invoke/VarHandle" ∧ (parseMethodDescriptor (⟨"PrefixCodes", "unpack", "(II)I"⟩ : MethodName).desc).map (fun d => d.parameters.length) = some 2 := by decide +kernel
def y_Table_extendParts : MethodName := ⟨"PrefixCodes$Table", "extendParts", "(II)V"⟩
abbrev w_Table_extendParts : List Cond := Cond.code ⟨"PrefixCodes$Table", "extendParts", "(II)V"⟩ prog_10_method_3_code 3 none :: gW
abbrev rm_Table_extendParts : Room := { frames := 0, cells := 0, slots := 0, locals := 0 }
theorem yd_Table_extendParts : (⟨"PrefixCodes$Table", "extendParts", "(II)V"⟩ : MethodName).cls = "PrefixCodes$Table" ∧ (⟨"PrefixCodes$Table", "extendParts", "(II)V"⟩ : MethodName).cls ≠ "java/lang/invoke/MethodHandle" ∧ (⟨"PrefixCodes$Table", "extendParts", "(II)V"⟩ : MethodName).cls ≠ "java/lang/invoke/VarHandle" ∧ (parseMethodDescriptor (⟨"PrefixCodes$Table", "extendParts", "(II)V"⟩ : MethodName).desc).map (fun d => d.parameters.length) = some 2 := by decide +kernel
def y_Table_build : MethodName := ⟨"PrefixCodes$Table", "build", "(LPrefixCodes$Code;I)V"⟩
abbrev w_Table_build : List Cond := Cond.code ⟨"PrefixCodes$Table", "build", "(LPrefixCodes$Code;I)V"⟩ prog_10_method_2_code 5 none :: gW
abbrev rm_Table_build : Room := { frames := 1, cells := 0, slots := 0, locals := 22 }
theorem yd_Table_build : (⟨"PrefixCodes$Table", "build", "(LPrefixCodes$Code;I)V"⟩ : MethodName).cls = "PrefixCodes$Table" ∧ (⟨"PrefixCodes$Table", "build", "(LPrefixCodes$Code;I)V"⟩ : MethodName).cls ≠ "java/lang/invoke/MethodHandle" ∧ (⟨"PrefixCodes$Table", "build", "(LPrefixCodes$Code;I)V"⟩ : MethodName).cls ≠ "java/lang/invoke/VarHandle" ∧ (parseMethodDescriptor (⟨"PrefixCodes$Table", "build", "(LPrefixCodes$Code;I)V"⟩ : MethodName).desc).map (fun d => d.parameters.length) = some 2 := by decide +kernel
def y_PC_table : MethodName := ⟨"PrefixCodes", "table", "(II)I"⟩
abbrev w_PC_table : List Cond := Cond.code ⟨"PrefixCodes", "table", "(II)I"⟩ prog_1_method_19_code 4 (some .int) :: gW
abbrev rm_PC_table : Room := { frames := 2, cells := 0, slots := 0, locals := 46 }
theorem yd_PC_table : (⟨"PrefixCodes", "table", "(II)I"⟩ : MethodName).cls = "PrefixCodes" ∧ (⟨"PrefixCodes", "table", "(II)I"⟩ : MethodName).cls ≠ "java/lang/invoke/MethodHandle" ∧ (⟨"PrefixCodes", "table", "(II)I"⟩ : MethodName).cls ≠ "java/lang/invoke/VarHandle" ∧ (parseMethodDescriptor (⟨"PrefixCodes", "table", "(II)I"⟩ : MethodName).desc).map (fun d => d.parameters.length) = some 2 := by decide +kernel
def y_Table_partWithPrefix : MethodName := ⟨"PrefixCodes$Table", "partWithPrefix", "(I)I"⟩
abbrev w_Table_partWithPrefix : List Cond := Cond.code ⟨"PrefixCodes$Table", "partWithPrefix", "(I)I"⟩ prog_10_method_7_code 3 (some .int) :: gW
abbrev rm_Table_partWithPrefix : Room := { frames := 0, cells := 0, slots := 0, locals := 0 }
theorem yd_Table_partWithPrefix : (⟨"PrefixCodes$Table", "partWithPrefix", "(I)I"⟩ : MethodName).cls = "PrefixCodes$Table" ∧ (⟨"PrefixCodes$Table", "partWithPrefix", "(I)I"⟩ : MethodName).cls ≠ "java/lang/invoke/MethodHandle" ∧ (⟨"PrefixCodes$Table", "partWithPrefix", "(I)I"⟩ : MethodName).cls ≠ "java/lang/invoke/VarHandle" ∧ (parseMethodDescriptor (⟨"PrefixCodes$Table", "partWithPrefix", "(I)I"⟩ : MethodName).desc).map (fun d => d.parameters.length) = some 1 := by decide +kernel
def y_Table_pick : MethodName := ⟨"PrefixCodes$Table", "pick", "(IIII)I"⟩
abbrev w_Table_pick : List Cond := Cond.code ⟨"PrefixCodes$Table", "pick", "(IIII)I"⟩ prog_10_method_6_code 4 (some .int) :: gW
abbrev rm_Table_pick : Room := { frames := 0, cells := 0, slots := 0, locals := 0 }
theorem yd_Table_pick : (⟨"PrefixCodes$Table", "pick", "(IIII)I"⟩ : MethodName).cls = "PrefixCodes$Table" ∧ (⟨"PrefixCodes$Table", "pick", "(IIII)I"⟩ : MethodName).cls ≠ "java/lang/invoke/MethodHandle" ∧ (⟨"PrefixCodes$Table", "pick", "(IIII)I"⟩ : MethodName).cls ≠ "java/lang/invoke/VarHandle" ∧ (parseMethodDescriptor (⟨"PrefixCodes$Table", "pick", "(IIII)I"⟩ : MethodName).desc).map (fun d => d.parameters.length) = some 4 := by decide +kernel
def y_Table_wordFor : MethodName := ⟨"PrefixCodes$Table", "wordFor", "(II)I"⟩
abbrev w_Table_wordFor : List Cond := Cond.code ⟨"PrefixCodes$Table", "wordFor", "(II)I"⟩ prog_10_method_9_code 4 (some .int) :: gW
abbrev rm_Table_wordFor : Room := { frames := 0, cells := 0, slots := 0, locals := 0 }
theorem yd_Table_wordFor : (⟨"PrefixCodes$Table", "wordFor", "(II)I"⟩ : MethodName).cls = "PrefixCodes$Table" ∧ (⟨"PrefixCodes$Table", "wordFor", "(II)I"⟩ : MethodName).cls ≠ "java/lang/invoke/MethodHandle" ∧ (⟨"PrefixCodes$Table", "wordFor", "(II)I"⟩ : MethodName).cls ≠ "java/lang/invoke/VarHandle" ∧ (parseMethodDescriptor (⟨"PrefixCodes$Table", "wordFor", "(II)I"⟩ : MethodName).desc).map (fun d => d.parameters.length) = some 2 := by decide +kernel
def y_Table_tellWord : MethodName := ⟨"PrefixCodes$Table", "tellWord", "(II)I"⟩
abbrev w_Table_tellWord : List Cond := Cond.code ⟨"PrefixCodes$Table", "tellWord", "(II)I"⟩ prog_10_method_5_code 3 (some .int) :: gW
abbrev rm_Table_tellWord : Room := { frames := 1, cells := 0, slots := 0, locals := 23 }
theorem yd_Table_tellWord : (⟨"PrefixCodes$Table", "tellWord", "(II)I"⟩ : MethodName).cls = "PrefixCodes$Table" ∧ (⟨"PrefixCodes$Table", "tellWord", "(II)I"⟩ : MethodName).cls ≠ "java/lang/invoke/MethodHandle" ∧ (⟨"PrefixCodes$Table", "tellWord", "(II)I"⟩ : MethodName).cls ≠ "java/lang/invoke/VarHandle" ∧ (parseMethodDescriptor (⟨"PrefixCodes$Table", "tellWord", "(II)I"⟩ : MethodName).desc).map (fun d => d.parameters.length) = some 2 := by decide +kernel
def y_Table_partAround : MethodName := ⟨"PrefixCodes$Table", "partAround", "(I)I"⟩
abbrev w_Table_partAround : List Cond := Cond.code ⟨"PrefixCodes$Table", "partAround", "(I)I"⟩ prog_10_method_8_code 3 (some .int) :: gW
abbrev rm_Table_partAround : Room := { frames := 0, cells := 0, slots := 0, locals := 0 }
theorem yd_Table_partAround : (⟨"PrefixCodes$Table", "partAround", "(I)I"⟩ : MethodName).cls = "PrefixCodes$Table" ∧ (⟨"PrefixCodes$Table", "partAround", "(I)I"⟩ : MethodName).cls ≠ "java/lang/invoke/MethodHandle" ∧ (⟨"PrefixCodes$Table", "partAround", "(I)I"⟩ : MethodName).cls ≠ "java/lang/invoke/VarHandle" ∧ (parseMethodDescriptor (⟨"PrefixCodes$Table", "partAround", "(I)I"⟩ : MethodName).desc).map (fun d => d.parameters.length) = some 1 := by decide +kernel
def y_Table_tell : MethodName := ⟨"PrefixCodes$Table", "tell", "(II)I"⟩
abbrev w_Table_tell : List Cond := Cond.code ⟨"PrefixCodes$Table", "tell", "(II)I"⟩ prog_10_method_4_code 5 (some .int) :: gW
abbrev rm_Table_tell : Room := { frames := 2, cells := 0, slots := 0, locals := 45 }
theorem yd_Table_tell : (⟨"PrefixCodes$Table", "tell", "(II)I"⟩ : MethodName).cls = "PrefixCodes$Table" ∧ (⟨"PrefixCodes$Table", "tell", "(II)I"⟩ : MethodName).cls ≠ "java/lang/invoke/MethodHandle" ∧ (⟨"PrefixCodes$Table", "tell", "(II)I"⟩ : MethodName).cls ≠ "java/lang/invoke/VarHandle" ∧ (parseMethodDescriptor (⟨"PrefixCodes$Table", "tell", "(II)I"⟩ : MethodName).desc).map (fun d => d.parameters.length) = some 2 := by decide +kernel
def y_PC_entry : MethodName := ⟨"PrefixCodes", "entry", "(II)I"⟩
abbrev w_PC_entry : List Cond := Cond.code ⟨"PrefixCodes", "entry", "(II)I"⟩ prog_1_method_20_code 3 (some .int) :: gW
abbrev rm_PC_entry : Room := { frames := 6, cells := 0, slots := 0, locals := 150 }
theorem yd_PC_entry : (⟨"PrefixCodes", "entry", "(II)I"⟩ : MethodName).cls = "PrefixCodes" ∧ (⟨"PrefixCodes", "entry", "(II)I"⟩ : MethodName).cls ≠ "java/lang/invoke/MethodHandle" ∧ (⟨"PrefixCodes", "entry", "(II)I"⟩ : MethodName).cls ≠ "java/lang/invoke/VarHandle" ∧ (parseMethodDescriptor (⟨"PrefixCodes", "entry", "(II)I"⟩ : MethodName).desc).map (fun d => d.parameters.length) = some 2 := by decide +kernel
def y_Text_extend : MethodName := ⟨"PrefixCodes$Text", "extend", "()I"⟩
abbrev w_Text_extend : List Cond := Cond.code ⟨"PrefixCodes$Text", "extend", "()I"⟩ prog_11_method_2_code 2 (some .int) :: gW
abbrev rm_Text_extend : Room := { frames := 1, cells := 0, slots := 0, locals := 26 }
theorem yd_Text_extend : (⟨"PrefixCodes$Text", "extend", "()I"⟩ : MethodName).cls = "PrefixCodes$Text" ∧ (⟨"PrefixCodes$Text", "extend", "()I"⟩ : MethodName).cls ≠ "java/lang/invoke/MethodHandle" ∧ (⟨"PrefixCodes$Text", "extend", "()I"⟩ : MethodName).cls ≠ "java/lang/invoke/VarHandle" ∧ (parseMethodDescriptor (⟨"PrefixCodes$Text", "extend", "()I"⟩ : MethodName).desc).map (fun d => d.parameters.length) = some 0 := by decide +kernel
def y_PC_add : MethodName := ⟨"PrefixCodes", "add", "(IIIII)I"⟩
abbrev w_PC_add : List Cond := Cond.code ⟨"PrefixCodes", "add", "(IIIII)I"⟩ prog_1_method_21_code 6 (some .int) :: gW
abbrev rm_PC_add : Room := { frames := 2, cells := 0, slots := 0, locals := 47 }
theorem yd_PC_add : (⟨"PrefixCodes", "add", "(IIIII)I"⟩ : MethodName).cls = "PrefixCodes" ∧ (⟨"PrefixCodes", "add", "(IIIII)I"⟩ : MethodName).cls ≠ "java/lang/invoke/MethodHandle" ∧ (⟨"PrefixCodes", "add", "(IIIII)I"⟩ : MethodName).cls ≠ "java/lang/invoke/VarHandle" ∧ (parseMethodDescriptor (⟨"PrefixCodes", "add", "(IIIII)I"⟩ : MethodName).desc).map (fun d => d.parameters.length) = some 5 := by decide +kernel
def y_PC_forget : MethodName := ⟨"PrefixCodes", "forget", "()I"⟩
abbrev w_PC_forget : List Cond := Cond.code ⟨"PrefixCodes", "forget", "()I"⟩ prog_1_method_22_code 2 (some .int) :: gW
abbrev rm_PC_forget : Room := { frames := 0, cells := 0, slots := 0, locals := 0 }
theorem yd_PC_forget : (⟨"PrefixCodes", "forget", "()I"⟩ : MethodName).cls = "PrefixCodes" ∧ (⟨"PrefixCodes", "forget", "()I"⟩ : MethodName).cls ≠ "java/lang/invoke/MethodHandle" ∧ (⟨"PrefixCodes", "forget", "()I"⟩ : MethodName).cls ≠ "java/lang/invoke/VarHandle" ∧ (parseMethodDescriptor (⟨"PrefixCodes", "forget", "()I"⟩ : MethodName).desc).map (fun d => d.parameters.length) = some 0 := by decide +kernel
def y_Text_different : MethodName := ⟨"PrefixCodes$Text", "different", "()I"⟩
abbrev w_Text_different : List Cond := Cond.code ⟨"PrefixCodes$Text", "different", "()I"⟩ prog_11_method_5_code 3 (some .int) :: gW
abbrev rm_Text_different : Room := { frames := 2, cells := 0, slots := 0, locals := 45 }
theorem yd_Text_different : (⟨"PrefixCodes$Text", "different", "()I"⟩ : MethodName).cls = "PrefixCodes$Text" ∧ (⟨"PrefixCodes$Text", "different", "()I"⟩ : MethodName).cls ≠ "java/lang/invoke/MethodHandle" ∧ (⟨"PrefixCodes$Text", "different", "()I"⟩ : MethodName).cls ≠ "java/lang/invoke/VarHandle" ∧ (parseMethodDescriptor (⟨"PrefixCodes$Text", "different", "()I"⟩ : MethodName).desc).map (fun d => d.parameters.length) = some 0 := by decide +kernel
def y_Choice_begin : MethodName := ⟨"PrefixCodes$Choice", "begin", "(LPrefixCodes$Text;II)V"⟩
abbrev w_Choice_begin : List Cond := Cond.code ⟨"PrefixCodes$Choice", "begin", "(LPrefixCodes$Text;II)V"⟩ prog_2_method_2_code 5 none :: gW
abbrev rm_Choice_begin : Room := { frames := 1, cells := 0, slots := 0, locals := 26 }
theorem yd_Choice_begin : (⟨"PrefixCodes$Choice", "begin", "(LPrefixCodes$Text;II)V"⟩ : MethodName).cls = "PrefixCodes$Choice" ∧ (⟨"PrefixCodes$Choice", "begin", "(LPrefixCodes$Text;II)V"⟩ : MethodName).cls ≠ "java/lang/invoke/MethodHandle" ∧ (⟨"PrefixCodes$Choice", "begin", "(LPrefixCodes$Text;II)V"⟩ : MethodName).cls ≠ "java/lang/invoke/VarHandle" ∧ (parseMethodDescriptor (⟨"PrefixCodes$Choice", "begin", "(LPrefixCodes$Text;II)V"⟩ : MethodName).desc).map (fun d => d.parameters.length) = some 3 := by decide +kernel
def y_Choice_endOf : MethodName := ⟨"PrefixCodes$Choice", "endOf", "(I)I"⟩
abbrev w_Choice_endOf : List Cond := Cond.code ⟨"PrefixCodes$Choice", "endOf", "(I)I"⟩ prog_2_method_4_code 2 (some .int) :: gW
abbrev rm_Choice_endOf : Room := { frames := 1, cells := 0, slots := 0, locals := 21 }
theorem yd_Choice_endOf : (⟨"PrefixCodes$Choice", "endOf", "(I)I"⟩ : MethodName).cls = "PrefixCodes$Choice" ∧ (⟨"PrefixCodes$Choice", "endOf", "(I)I"⟩ : MethodName).cls ≠ "java/lang/invoke/MethodHandle" ∧ (⟨"PrefixCodes$Choice", "endOf", "(I)I"⟩ : MethodName).cls ≠ "java/lang/invoke/VarHandle" ∧ (parseMethodDescriptor (⟨"PrefixCodes$Choice", "endOf", "(I)I"⟩ : MethodName).desc).map (fun d => d.parameters.length) = some 1 := by decide +kernel
def y_Choice_countFor : MethodName := ⟨"PrefixCodes$Choice", "countFor", "(I)V"⟩
abbrev w_Choice_countFor : List Cond := Cond.code ⟨"PrefixCodes$Choice", "countFor", "(I)V"⟩ prog_2_method_6_code 4 none :: gW
abbrev rm_Choice_countFor : Room := { frames := 2, cells := 0, slots := 0, locals := 42 }
theorem yd_Choice_countFor : (⟨"PrefixCodes$Choice", "countFor", "(I)V"⟩ : MethodName).cls = "PrefixCodes$Choice" ∧ (⟨"PrefixCodes$Choice", "countFor", "(I)V"⟩ : MethodName).cls ≠ "java/lang/invoke/MethodHandle" ∧ (⟨"PrefixCodes$Choice", "countFor", "(I)V"⟩ : MethodName).cls ≠ "java/lang/invoke/VarHandle" ∧ (parseMethodDescriptor (⟨"PrefixCodes$Choice", "countFor", "(I)V"⟩ : MethodName).desc).map (fun d => d.parameters.length) = some 1 := by decide +kernel
def y_Choice_fitCodes : MethodName := ⟨"PrefixCodes$Choice", "fitCodes", "(LPrefixCodes$Packages;I)V"⟩
abbrev w_Choice_fitCodes : List Cond := Cond.code ⟨"PrefixCodes$Choice", "fitCodes", "(LPrefixCodes$Packages;I)V"⟩ prog_2_method_5_code 4 none :: gW
abbrev rm_Choice_fitCodes : Room := { frames := 4, cells := 0, slots := 0, locals := 89 }
theorem yd_Choice_fitCodes : (⟨"PrefixCodes$Choice", "fitCodes", "(LPrefixCodes$Packages;I)V"⟩ : MethodName).cls = "PrefixCodes$Choice" ∧ (⟨"PrefixCodes$Choice", "fitCodes", "(LPrefixCodes$Packages;I)V"⟩ : MethodName).cls ≠ "java/lang/invoke/MethodHandle" ∧ (⟨"PrefixCodes$Choice", "fitCodes", "(LPrefixCodes$Packages;I)V"⟩ : MethodName).cls ≠ "java/lang/invoke/VarHandle" ∧ (parseMethodDescriptor (⟨"PrefixCodes$Choice", "fitCodes", "(LPrefixCodes$Packages;I)V"⟩ : MethodName).desc).map (fun d => d.parameters.length) = some 2 := by decide +kernel
def y_Choice_bitsBy : MethodName := ⟨"PrefixCodes$Choice", "bitsBy", "(II)I"⟩
abbrev w_Choice_bitsBy : List Cond := Cond.code ⟨"PrefixCodes$Choice", "bitsBy", "(II)I"⟩ prog_2_method_8_code 6 (some .int) :: gW
abbrev rm_Choice_bitsBy : Room := { frames := 2, cells := 0, slots := 0, locals := 42 }
theorem yd_Choice_bitsBy : (⟨"PrefixCodes$Choice", "bitsBy", "(II)I"⟩ : MethodName).cls = "PrefixCodes$Choice" ∧ (⟨"PrefixCodes$Choice", "bitsBy", "(II)I"⟩ : MethodName).cls ≠ "java/lang/invoke/MethodHandle" ∧ (⟨"PrefixCodes$Choice", "bitsBy", "(II)I"⟩ : MethodName).cls ≠ "java/lang/invoke/VarHandle" ∧ (parseMethodDescriptor (⟨"PrefixCodes$Choice", "bitsBy", "(II)I"⟩ : MethodName).desc).map (fun d => d.parameters.length) = some 2 := by decide +kernel
def y_Choice_regroup : MethodName := ⟨"PrefixCodes$Choice", "regroup", "()V"⟩
abbrev w_Choice_regroup : List Cond := Cond.code ⟨"PrefixCodes$Choice", "regroup", "()V"⟩ prog_2_method_7_code 6 none :: gW
abbrev rm_Choice_regroup : Room := { frames := 3, cells := 0, slots := 0, locals := 67 }
theorem yd_Choice_regroup : (⟨"PrefixCodes$Choice", "regroup", "()V"⟩ : MethodName).cls = "PrefixCodes$Choice" ∧ (⟨"PrefixCodes$Choice", "regroup", "()V"⟩ : MethodName).cls ≠ "java/lang/invoke/MethodHandle" ∧ (⟨"PrefixCodes$Choice", "regroup", "()V"⟩ : MethodName).cls ≠ "java/lang/invoke/VarHandle" ∧ (parseMethodDescriptor (⟨"PrefixCodes$Choice", "regroup", "()V"⟩ : MethodName).desc).map (fun d => d.parameters.length) = some 0 := by decide +kernel
def y_Choice_settle : MethodName := ⟨"PrefixCodes$Choice", "settle", "(LPrefixCodes$Packages;II)V"⟩
abbrev w_Choice_settle : List Cond := Cond.code ⟨"PrefixCodes$Choice", "settle", "(LPrefixCodes$Packages;II)V"⟩ prog_2_method_3_code 5 none :: gW
abbrev rm_Choice_settle : Room := { frames := 5, cells := 0, slots := 0, locals := 112 }
theorem yd_Choice_settle : (⟨"PrefixCodes$Choice", "settle", "(LPrefixCodes$Packages;II)V"⟩ : MethodName).cls = "PrefixCodes$Choice" ∧ (⟨"PrefixCodes$Choice", "settle", "(LPrefixCodes$Packages;II)V"⟩ : MethodName).cls ≠ "java/lang/invoke/MethodHandle" ∧ (⟨"PrefixCodes$Choice", "settle", "(LPrefixCodes$Packages;II)V"⟩ : MethodName).cls ≠ "java/lang/invoke/VarHandle" ∧ (parseMethodDescriptor (⟨"PrefixCodes$Choice", "settle", "(LPrefixCodes$Packages;II)V"⟩ : MethodName).desc).map (fun d => d.parameters.length) = some 3 := by decide +kernel
def y_PC_choose : MethodName := ⟨"PrefixCodes", "choose", "(IIII)I"⟩
abbrev w_PC_choose : List Cond := Cond.code ⟨"PrefixCodes", "choose", "(IIII)I"⟩ prog_1_method_23_code 9 (some .int) :: gW
abbrev rm_PC_choose : Room := { frames := 6, cells := 0, slots := 0, locals := 136 }
theorem yd_PC_choose : (⟨"PrefixCodes", "choose", "(IIII)I"⟩ : MethodName).cls = "PrefixCodes" ∧ (⟨"PrefixCodes", "choose", "(IIII)I"⟩ : MethodName).cls ≠ "java/lang/invoke/MethodHandle" ∧ (⟨"PrefixCodes", "choose", "(IIII)I"⟩ : MethodName).cls ≠ "java/lang/invoke/VarHandle" ∧ (parseMethodDescriptor (⟨"PrefixCodes", "choose", "(IIII)I"⟩ : MethodName).desc).map (fun d => d.parameters.length) = some 4 := by decide +kernel
def y_PC_group : MethodName := ⟨"PrefixCodes", "group", "(I)I"⟩
abbrev w_PC_group : List Cond := Cond.code ⟨"PrefixCodes", "group", "(I)I"⟩ prog_1_method_24_code 2 (some .int) :: gW
abbrev rm_PC_group : Room := { frames := 1, cells := 0, slots := 0, locals := 22 }
theorem yd_PC_group : (⟨"PrefixCodes", "group", "(I)I"⟩ : MethodName).cls = "PrefixCodes" ∧ (⟨"PrefixCodes", "group", "(I)I"⟩ : MethodName).cls ≠ "java/lang/invoke/MethodHandle" ∧ (⟨"PrefixCodes", "group", "(I)I"⟩ : MethodName).cls ≠ "java/lang/invoke/VarHandle" ∧ (parseMethodDescriptor (⟨"PrefixCodes", "group", "(I)I"⟩ : MethodName).desc).map (fun d => d.parameters.length) = some 1 := by decide +kernel
def y_Choice_canBeWritten : MethodName := ⟨"PrefixCodes$Choice", "canBeWritten", "()Z"⟩
abbrev w_Choice_canBeWritten : List Cond := Cond.code ⟨"PrefixCodes$Choice", "canBeWritten", "()Z"⟩ prog_2_method_9_code 4 (some .boolean) :: gW
abbrev rm_Choice_canBeWritten : Room := { frames := 2, cells := 0, slots := 0, locals := 42 }
theorem yd_Choice_canBeWritten : (⟨"PrefixCodes$Choice", "canBeWritten", "()Z"⟩ : MethodName).cls = "PrefixCodes$Choice" ∧ (⟨"PrefixCodes$Choice", "canBeWritten", "()Z"⟩ : MethodName).cls ≠ "java/lang/invoke/MethodHandle" ∧ (⟨"PrefixCodes$Choice", "canBeWritten", "()Z"⟩ : MethodName).cls ≠ "java/lang/invoke/VarHandle" ∧ (parseMethodDescriptor (⟨"PrefixCodes$Choice", "canBeWritten", "()Z"⟩ : MethodName).desc).map (fun d => d.parameters.length) = some 0 := by decide +kernel
def y_Selectors_begin : MethodName := ⟨"PrefixCodes$Selectors", "begin", "(I)V"⟩
abbrev w_Selectors_begin : List Cond := Cond.code ⟨"PrefixCodes$Selectors", "begin", "(I)V"⟩ prog_8_method_2_code 3 none :: gW
abbrev rm_Selectors_begin : Room := { frames := 0, cells := 0, slots := 0, locals := 0 }
theorem yd_Selectors_begin : (⟨"PrefixCodes$Selectors", "begin", "(I)V"⟩ : MethodName).cls = "PrefixCodes$Selectors" ∧ (⟨"PrefixCodes$Selectors", "begin", "(I)V"⟩ : MethodName).cls ≠ "java/lang/invoke/MethodHandle" ∧ (⟨"PrefixCodes$Selectors", "begin", "(I)V"⟩ : MethodName).cls ≠ "java/lang/invoke/VarHandle" ∧ (parseMethodDescriptor (⟨"PrefixCodes$Selectors", "begin", "(I)V"⟩ : MethodName).desc).map (fun d => d.parameters.length) = some 1 := by decide +kernel
def y_Selectors_moveAhead : MethodName := ⟨"PrefixCodes$Selectors", "moveAhead", "(I)V"⟩
abbrev w_Selectors_moveAhead : List Cond := Cond.code ⟨"PrefixCodes$Selectors", "moveAhead", "(I)V"⟩ prog_8_method_5_code 4 none :: gW
abbrev rm_Selectors_moveAhead : Room := { frames := 0, cells := 0, slots := 0, locals := 0 }
theorem yd_Selectors_moveAhead : (⟨"PrefixCodes$Selectors", "moveAhead", "(I)V"⟩ : MethodName).cls = "PrefixCodes$Selectors" ∧ (⟨"PrefixCodes$Selectors", "moveAhead", "(I)V"⟩ : MethodName).cls ≠ "java/lang/invoke/MethodHandle" ∧ (⟨"PrefixCodes$Selectors", "moveAhead", "(I)V"⟩ : MethodName).cls ≠ "java/lang/invoke/VarHandle" ∧ (parseMethodDescriptor (⟨"PrefixCodes$Selectors", "moveAhead", "(I)V"⟩ : MethodName).desc).map (fun d => d.parameters.length) = some 1 := by decide +kernel
def y_Selectors_append : MethodName := ⟨"PrefixCodes$Selectors", "append", "(LPrefixCodes$Stream;I)V"⟩
abbrev w_Selectors_append : List Cond := Cond.code ⟨"PrefixCodes$Selectors", "append", "(LPrefixCodes$Stream;I)V"⟩ prog_8_method_3_code 4 none :: gW
abbrev rm_Selectors_append : Room := { frames := 2, cells := 0, slots := 0, locals := 45 }
theorem yd_Selectors_append : (⟨"PrefixCodes$Selectors", "append", "(LPrefixCodes$Stream;I)V"⟩ : MethodName).cls = "PrefixCodes$Selectors" ∧ (⟨"PrefixCodes$Selectors", "append", "(LPrefixCodes$Stream;I)V"⟩ : MethodName).cls ≠ "java/lang/invoke/MethodHandle" ∧ (⟨"PrefixCodes$Selectors", "append", "(LPrefixCodes$Stream;I)V"⟩ : MethodName).cls ≠ "java/lang/invoke/VarHandle" ∧ (parseMethodDescriptor (⟨"PrefixCodes$Selectors", "append", "(LPrefixCodes$Stream;I)V"⟩ : MethodName).desc).map (fun d => d.parameters.length) = some 2 := by decide +kernel
def y_Choice_append : MethodName := ⟨"PrefixCodes$Choice", "append", "(LPrefixCodes$Stream;)V"⟩
abbrev w_Choice_append : List Cond := Cond.code ⟨"PrefixCodes$Choice", "append", "(LPrefixCodes$Stream;)V"⟩ prog_2_method_10_code 5 none :: gW
abbrev rm_Choice_append : Room := { frames := 3, cells := 0, slots := 0, locals := 68 }
theorem yd_Choice_append : (⟨"PrefixCodes$Choice", "append", "(LPrefixCodes$Stream;)V"⟩ : MethodName).cls = "PrefixCodes$Choice" ∧ (⟨"PrefixCodes$Choice", "append", "(LPrefixCodes$Stream;)V"⟩ : MethodName).cls ≠ "java/lang/invoke/MethodHandle" ∧ (⟨"PrefixCodes$Choice", "append", "(LPrefixCodes$Stream;)V"⟩ : MethodName).cls ≠ "java/lang/invoke/VarHandle" ∧ (parseMethodDescriptor (⟨"PrefixCodes$Choice", "append", "(LPrefixCodes$Stream;)V"⟩ : MethodName).desc).map (fun d => d.parameters.length) = some 1 := by decide +kernel
def y_PC_write : MethodName := ⟨"PrefixCodes", "write", "()I"⟩
abbrev w_PC_write : List Cond := Cond.code ⟨"PrefixCodes", "write", "()I"⟩ prog_1_method_25_code 1 (some .int) :: gW
abbrev rm_PC_write : Room := { frames := 4, cells := 0, slots := 0, locals := 92 }
theorem yd_PC_write : (⟨"PrefixCodes", "write", "()I"⟩ : MethodName).cls = "PrefixCodes" ∧ (⟨"PrefixCodes", "write", "()I"⟩ : MethodName).cls ≠ "java/lang/invoke/MethodHandle" ∧ (⟨"PrefixCodes", "write", "()I"⟩ : MethodName).cls ≠ "java/lang/invoke/VarHandle" ∧ (parseMethodDescriptor (⟨"PrefixCodes", "write", "()I"⟩ : MethodName).desc).map (fun d => d.parameters.length) = some 0 := by decide +kernel
def y_Reader_begin : MethodName := ⟨"PrefixCodes$Reader", "begin", "(I)V"⟩
abbrev w_Reader_begin : List Cond := Cond.code ⟨"PrefixCodes$Reader", "begin", "(I)V"⟩ prog_7_method_2_code 2 none :: gW
abbrev rm_Reader_begin : Room := { frames := 1, cells := 0, slots := 0, locals := 22 }
theorem yd_Reader_begin : (⟨"PrefixCodes$Reader", "begin", "(I)V"⟩ : MethodName).cls = "PrefixCodes$Reader" ∧ (⟨"PrefixCodes$Reader", "begin", "(I)V"⟩ : MethodName).cls ≠ "java/lang/invoke/MethodHandle" ∧ (⟨"PrefixCodes$Reader", "begin", "(I)V"⟩ : MethodName).cls ≠ "java/lang/invoke/VarHandle" ∧ (parseMethodDescriptor (⟨"PrefixCodes$Reader", "begin", "(I)V"⟩ : MethodName).desc).map (fun d => d.parameters.length) = some 1 := by decide +kernel
def y_Selectors_remove : MethodName := ⟨"PrefixCodes$Selectors", "remove", "(LPrefixCodes$Stream;)I"⟩
abbrev w_Selectors_remove : List Cond := Cond.code ⟨"PrefixCodes$Selectors", "remove", "(LPrefixCodes$Stream;)I"⟩ prog_8_method_4_code 4 (some .int) :: gW
abbrev rm_Selectors_remove : Room := { frames := 2, cells := 0, slots := 0, locals := 42 }
theorem yd_Selectors_remove : (⟨"PrefixCodes$Selectors", "remove", "(LPrefixCodes$Stream;)I"⟩ : MethodName).cls = "PrefixCodes$Selectors" ∧ (⟨"PrefixCodes$Selectors", "remove", "(LPrefixCodes$Stream;)I"⟩ : MethodName).cls ≠ "java/lang/invoke/MethodHandle" ∧ (⟨"PrefixCodes$Selectors", "remove", "(LPrefixCodes$Stream;)I"⟩ : MethodName).cls ≠ "java/lang/invoke/VarHandle" ∧ (parseMethodDescriptor (⟨"PrefixCodes$Selectors", "remove", "(LPrefixCodes$Stream;)I"⟩ : MethodName).desc).map (fun d => d.parameters.length) = some 1 := by decide +kernel
def y_Reader_remove : MethodName := ⟨"PrefixCodes$Reader", "remove", "(II)I"⟩
abbrev w_Reader_remove : List Cond := Cond.code ⟨"PrefixCodes$Reader", "remove", "(II)I"⟩ prog_7_method_3_code 7 (some .int) :: gW
abbrev rm_Reader_remove : Room := { frames := 4, cells := 0, slots := 0, locals := 89 }
theorem yd_Reader_remove : (⟨"PrefixCodes$Reader", "remove", "(II)I"⟩ : MethodName).cls = "PrefixCodes$Reader" ∧ (⟨"PrefixCodes$Reader", "remove", "(II)I"⟩ : MethodName).cls ≠ "java/lang/invoke/MethodHandle" ∧ (⟨"PrefixCodes$Reader", "remove", "(II)I"⟩ : MethodName).cls ≠ "java/lang/invoke/VarHandle" ∧ (parseMethodDescriptor (⟨"PrefixCodes$Reader", "remove", "(II)I"⟩ : MethodName).desc).map (fun d => d.parameters.length) = some 2 := by decide +kernel
def y_Text_become : MethodName := ⟨"PrefixCodes$Text", "become", "([II)V"⟩
abbrev w_Text_become : List Cond := Cond.code ⟨"PrefixCodes$Text", "become", "([II)V"⟩ prog_11_method_3_code 3 none :: gW
abbrev rm_Text_become : Room := { frames := 1, cells := 0, slots := 0, locals := 26 }
theorem yd_Text_become : (⟨"PrefixCodes$Text", "become", "([II)V"⟩ : MethodName).cls = "PrefixCodes$Text" ∧ (⟨"PrefixCodes$Text", "become", "([II)V"⟩ : MethodName).cls ≠ "java/lang/invoke/MethodHandle" ∧ (⟨"PrefixCodes$Text", "become", "([II)V"⟩ : MethodName).cls ≠ "java/lang/invoke/VarHandle" ∧ (parseMethodDescriptor (⟨"PrefixCodes$Text", "become", "([II)V"⟩ : MethodName).desc).map (fun d => d.parameters.length) = some 2 := by decide +kernel
def y_PC_read : MethodName := ⟨"PrefixCodes", "read", "(IIII)I"⟩
abbrev w_PC_read : List Cond := Cond.code ⟨"PrefixCodes", "read", "(IIII)I"⟩ prog_1_method_26_code 7 (some .int) :: gW
abbrev rm_PC_read : Room := { frames := 5, cells := 0, slots := 0, locals := 115 }
theorem yd_PC_read : (⟨"PrefixCodes", "read", "(IIII)I"⟩ : MethodName).cls = "PrefixCodes" ∧ (⟨"PrefixCodes", "read", "(IIII)I"⟩ : MethodName).cls ≠ "java/lang/invoke/MethodHandle" ∧ (⟨"PrefixCodes", "read", "(IIII)I"⟩ : MethodName).cls ≠ "java/lang/invoke/VarHandle" ∧ (parseMethodDescriptor (⟨"PrefixCodes", "read", "(IIII)I"⟩ : MethodName).desc).map (fun d => d.parameters.length) = some 4 := by decide +kernel
def y_PC_symbol : MethodName := ⟨"PrefixCodes", "symbol", "(I)I"⟩
abbrev w_PC_symbol : List Cond := Cond.code ⟨"PrefixCodes", "symbol", "(I)I"⟩ prog_1_method_27_code 2 (some .int) :: gW
abbrev rm_PC_symbol : Room := { frames := 6, cells := 0, slots := 0, locals := 150 }
theorem yd_PC_symbol : (⟨"PrefixCodes", "symbol", "(I)I"⟩ : MethodName).cls = "PrefixCodes" ∧ (⟨"PrefixCodes", "symbol", "(I)I"⟩ : MethodName).cls ≠ "java/lang/invoke/MethodHandle" ∧ (⟨"PrefixCodes", "symbol", "(I)I"⟩ : MethodName).cls ≠ "java/lang/invoke/VarHandle" ∧ (parseMethodDescriptor (⟨"PrefixCodes", "symbol", "(I)I"⟩ : MethodName).desc).map (fun d => d.parameters.length) = some 1 := by decide +kernel
def y_Mo_thrown : MethodName := ⟨"PrefixCodesModel", "thrown", "()I"⟩
abbrev w_Mo_thrown : List Cond := Cond.code ⟨"PrefixCodesModel", "thrown", "()I"⟩ prog_13_method_2_code 1 (some .int) :: gW
abbrev rm_Mo_thrown : Room := { frames := 0, cells := 0, slots := 0, locals := 0 }
theorem yd_Mo_thrown : (⟨"PrefixCodesModel", "thrown", "()I"⟩ : MethodName).cls = "PrefixCodesModel" ∧ (⟨"PrefixCodesModel", "thrown", "()I"⟩ : MethodName).cls ≠ "java/lang/invoke/MethodHandle" ∧ (⟨"PrefixCodesModel", "thrown", "()I"⟩ : MethodName).cls ≠ "java/lang/invoke/VarHandle" ∧ (parseMethodDescriptor (⟨"PrefixCodesModel", "thrown", "()I"⟩ : MethodName).desc).map (fun d => d.parameters.length) = some 0 := by decide +kernel
def y_Mo_has : MethodName := ⟨"PrefixCodesModel", "has", "(I)Z"⟩
abbrev w_Mo_has : List Cond := Cond.code ⟨"PrefixCodesModel", "has", "(I)Z"⟩ prog_13_method_3_code 2 (some .boolean) :: gW
abbrev rm_Mo_has : Room := { frames := 0, cells := 0, slots := 0, locals := 0 }
theorem yd_Mo_has : (⟨"PrefixCodesModel", "has", "(I)Z"⟩ : MethodName).cls = "PrefixCodesModel" ∧ (⟨"PrefixCodesModel", "has", "(I)Z"⟩ : MethodName).cls ≠ "java/lang/invoke/MethodHandle" ∧ (⟨"PrefixCodesModel", "has", "(I)Z"⟩ : MethodName).cls ≠ "java/lang/invoke/VarHandle" ∧ (parseMethodDescriptor (⟨"PrefixCodesModel", "has", "(I)Z"⟩ : MethodName).desc).map (fun d => d.parameters.length) = some 1 := by decide +kernel
def y_Mo_hasSymbol : MethodName := ⟨"PrefixCodesModel", "hasSymbol", "(II)Z"⟩
abbrev w_Mo_hasSymbol : List Cond := Cond.code ⟨"PrefixCodesModel", "hasSymbol", "(II)Z"⟩ prog_13_method_4_code 3 (some .boolean) :: gW
abbrev rm_Mo_hasSymbol : Room := { frames := 1, cells := 0, slots := 0, locals := 21 }
theorem yd_Mo_hasSymbol : (⟨"PrefixCodesModel", "hasSymbol", "(II)Z"⟩ : MethodName).cls = "PrefixCodesModel" ∧ (⟨"PrefixCodesModel", "hasSymbol", "(II)Z"⟩ : MethodName).cls ≠ "java/lang/invoke/MethodHandle" ∧ (⟨"PrefixCodesModel", "hasSymbol", "(II)Z"⟩ : MethodName).cls ≠ "java/lang/invoke/VarHandle" ∧ (parseMethodDescriptor (⟨"PrefixCodesModel", "hasSymbol", "(II)Z"⟩ : MethodName).desc).map (fun d => d.parameters.length) = some 2 := by decide +kernel
def y_Mo_lengthOf : MethodName := ⟨"PrefixCodesModel", "lengthOf", "(II)I"⟩
abbrev w_Mo_lengthOf : List Cond := Cond.code ⟨"PrefixCodesModel", "lengthOf", "(II)I"⟩ prog_13_method_5_code 3 (some .int) :: gW
abbrev rm_Mo_lengthOf : Room := { frames := 0, cells := 0, slots := 0, locals := 0 }
theorem yd_Mo_lengthOf : (⟨"PrefixCodesModel", "lengthOf", "(II)I"⟩ : MethodName).cls = "PrefixCodesModel" ∧ (⟨"PrefixCodesModel", "lengthOf", "(II)I"⟩ : MethodName).cls ≠ "java/lang/invoke/MethodHandle" ∧ (⟨"PrefixCodesModel", "lengthOf", "(II)I"⟩ : MethodName).cls ≠ "java/lang/invoke/VarHandle" ∧ (parseMethodDescriptor (⟨"PrefixCodesModel", "lengthOf", "(II)I"⟩ : MethodName).desc).map (fun d => d.parameters.length) = some 2 := by decide +kernel
def y_Mo_made : MethodName := ⟨"PrefixCodesModel", "made", "(I)I"⟩
abbrev w_Mo_made : List Cond := Cond.code ⟨"PrefixCodesModel", "made", "(I)I"⟩ prog_13_method_6_code 4 (some .int) :: gW
abbrev rm_Mo_made : Room := { frames := 0, cells := 0, slots := 0, locals := 0 }
theorem yd_Mo_made : (⟨"PrefixCodesModel", "made", "(I)I"⟩ : MethodName).cls = "PrefixCodesModel" ∧ (⟨"PrefixCodesModel", "made", "(I)I"⟩ : MethodName).cls ≠ "java/lang/invoke/MethodHandle" ∧ (⟨"PrefixCodesModel", "made", "(I)I"⟩ : MethodName).cls ≠ "java/lang/invoke/VarHandle" ∧ (parseMethodDescriptor (⟨"PrefixCodesModel", "made", "(I)I"⟩ : MethodName).desc).map (fun d => d.parameters.length) = some 1 := by decide +kernel
def y_Mo_code : MethodName := ⟨"PrefixCodesModel", "code", "(I)I"⟩
abbrev w_Mo_code : List Cond := Cond.code ⟨"PrefixCodesModel", "code", "(I)I"⟩ prog_13_method_7_code 2 (some .int) :: gW
abbrev rm_Mo_code : Room := { frames := 1, cells := 0, slots := 0, locals := 23 }
theorem yd_Mo_code : (⟨"PrefixCodesModel", "code", "(I)I"⟩ : MethodName).cls = "PrefixCodesModel" ∧ (⟨"PrefixCodesModel", "code", "(I)I"⟩ : MethodName).cls ≠ "java/lang/invoke/MethodHandle" ∧ (⟨"PrefixCodesModel", "code", "(I)I"⟩ : MethodName).cls ≠ "java/lang/invoke/VarHandle" ∧ (parseMethodDescriptor (⟨"PrefixCodesModel", "code", "(I)I"⟩ : MethodName).desc).map (fun d => d.parameters.length) = some 1 := by decide +kernel
def y_Mo_length : MethodName := ⟨"PrefixCodesModel", "length", "(III)I"⟩
abbrev w_Mo_length : List Cond := Cond.code ⟨"PrefixCodesModel", "length", "(III)I"⟩ prog_13_method_8_code 5 (some .int) :: gW
abbrev rm_Mo_length : Room := { frames := 2, cells := 0, slots := 0, locals := 43 }
theorem yd_Mo_length : (⟨"PrefixCodesModel", "length", "(III)I"⟩ : MethodName).cls = "PrefixCodesModel" ∧ (⟨"PrefixCodesModel", "length", "(III)I"⟩ : MethodName).cls ≠ "java/lang/invoke/MethodHandle" ∧ (⟨"PrefixCodesModel", "length", "(III)I"⟩ : MethodName).cls ≠ "java/lang/invoke/VarHandle" ∧ (parseMethodDescriptor (⟨"PrefixCodesModel", "length", "(III)I"⟩ : MethodName).desc).map (fun d => d.parameters.length) = some 3 := by decide +kernel
def y_Mo_filled : MethodName := ⟨"PrefixCodesModel", "filled", "(I)I"⟩
abbrev w_Mo_filled : List Cond := Cond.code ⟨"PrefixCodesModel", "filled", "(I)I"⟩ prog_13_method_9_code 4 (some .int) :: gW
abbrev rm_Mo_filled : Room := { frames := 1, cells := 0, slots := 0, locals := 22 }
theorem yd_Mo_filled : (⟨"PrefixCodesModel", "filled", "(I)I"⟩ : MethodName).cls = "PrefixCodesModel" ∧ (⟨"PrefixCodesModel", "filled", "(I)I"⟩ : MethodName).cls ≠ "java/lang/invoke/MethodHandle" ∧ (⟨"PrefixCodesModel", "filled", "(I)I"⟩ : MethodName).cls ≠ "java/lang/invoke/VarHandle" ∧ (parseMethodDescriptor (⟨"PrefixCodesModel", "filled", "(I)I"⟩ : MethodName).desc).map (fun d => d.parameters.length) = some 1 := by decide +kernel
def y_Mo_words : MethodName := ⟨"PrefixCodesModel", "words", "(I)I"⟩
abbrev w_Mo_words : List Cond := Cond.code ⟨"PrefixCodesModel", "words", "(I)I"⟩ prog_13_method_10_code 4 (some .int) :: gW
abbrev rm_Mo_words : Room := { frames := 1, cells := 0, slots := 0, locals := 22 }
theorem yd_Mo_words : (⟨"PrefixCodesModel", "words", "(I)I"⟩ : MethodName).cls = "PrefixCodesModel" ∧ (⟨"PrefixCodesModel", "words", "(I)I"⟩ : MethodName).cls ≠ "java/lang/invoke/MethodHandle" ∧ (⟨"PrefixCodesModel", "words", "(I)I"⟩ : MethodName).cls ≠ "java/lang/invoke/VarHandle" ∧ (parseMethodDescriptor (⟨"PrefixCodesModel", "words", "(I)I"⟩ : MethodName).desc).map (fun d => d.parameters.length) = some 1 := by decide +kernel
def y_Mo_longest : MethodName := ⟨"PrefixCodesModel", "longest", "(I)I"⟩
abbrev w_Mo_longest : List Cond := Cond.code ⟨"PrefixCodesModel", "longest", "(I)I"⟩ prog_13_method_11_code 4 (some .int) :: gW
abbrev rm_Mo_longest : Room := { frames := 1, cells := 0, slots := 0, locals := 22 }
theorem yd_Mo_longest : (⟨"PrefixCodesModel", "longest", "(I)I"⟩ : MethodName).cls = "PrefixCodesModel" ∧ (⟨"PrefixCodesModel", "longest", "(I)I"⟩ : MethodName).cls ≠ "java/lang/invoke/MethodHandle" ∧ (⟨"PrefixCodesModel", "longest", "(I)I"⟩ : MethodName).cls ≠ "java/lang/invoke/VarHandle" ∧ (parseMethodDescriptor (⟨"PrefixCodesModel", "longest", "(I)I"⟩ : MethodName).desc).map (fun d => d.parameters.length) = some 1 := by decide +kernel
def y_Mo_kind : MethodName := ⟨"PrefixCodesModel", "kind", "(I)I"⟩
abbrev w_Mo_kind : List Cond := Cond.code ⟨"PrefixCodesModel", "kind", "(I)I"⟩ prog_13_method_12_code 4 (some .int) :: gW
abbrev rm_Mo_kind : Room := { frames := 2, cells := 0, slots := 0, locals := 45 }
theorem yd_Mo_kind : (⟨"PrefixCodesModel", "kind", "(I)I"⟩ : MethodName).cls = "PrefixCodesModel" ∧ (⟨"PrefixCodesModel", "kind", "(I)I"⟩ : MethodName).cls ≠ "java/lang/invoke/MethodHandle" ∧ (⟨"PrefixCodesModel", "kind", "(I)I"⟩ : MethodName).cls ≠ "java/lang/invoke/VarHandle" ∧ (parseMethodDescriptor (⟨"PrefixCodesModel", "kind", "(I)I"⟩ : MethodName).desc).map (fun d => d.parameters.length) = some 1 := by decide +kernel
def y_Mo_about : MethodName := ⟨"PrefixCodesModel", "about", "(II)I"⟩
abbrev w_Mo_about : List Cond := Cond.code ⟨"PrefixCodesModel", "about", "(II)I"⟩ prog_13_method_13_code 3 (some .int) :: gW
abbrev rm_Mo_about : Room := { frames := 3, cells := 0, slots := 0, locals := 68 }
theorem yd_Mo_about : (⟨"PrefixCodesModel", "about", "(II)I"⟩ : MethodName).cls = "PrefixCodesModel" ∧ (⟨"PrefixCodesModel", "about", "(II)I"⟩ : MethodName).cls ≠ "java/lang/invoke/MethodHandle" ∧ (⟨"PrefixCodesModel", "about", "(II)I"⟩ : MethodName).cls ≠ "java/lang/invoke/VarHandle" ∧ (parseMethodDescriptor (⟨"PrefixCodesModel", "about", "(II)I"⟩ : MethodName).desc).map (fun d => d.parameters.length) = some 2 := by decide +kernel
def y_Mo_wordOf : MethodName := ⟨"PrefixCodesModel", "wordOf", "(II)I"⟩
abbrev w_Mo_wordOf : List Cond := Cond.code ⟨"PrefixCodesModel", "wordOf", "(II)I"⟩ prog_13_method_14_code 7 (some .int) :: gW
abbrev rm_Mo_wordOf : Room := { frames := 1, cells := 0, slots := 0, locals := 22 }
theorem yd_Mo_wordOf : (⟨"PrefixCodesModel", "wordOf", "(II)I"⟩ : MethodName).cls = "PrefixCodesModel" ∧ (⟨"PrefixCodesModel", "wordOf", "(II)I"⟩ : MethodName).cls ≠ "java/lang/invoke/MethodHandle" ∧ (⟨"PrefixCodesModel", "wordOf", "(II)I"⟩ : MethodName).cls ≠ "java/lang/invoke/VarHandle" ∧ (parseMethodDescriptor (⟨"PrefixCodesModel", "wordOf", "(II)I"⟩ : MethodName).desc).map (fun d => d.parameters.length) = some 2 := by decide +kernel
def y_Mo_turn : MethodName := ⟨"PrefixCodesModel", "turn", "(II)I"⟩
abbrev w_Mo_turn : List Cond := Cond.code ⟨"PrefixCodesModel", "turn", "(II)I"⟩ prog_13_method_15_code 4 (some .int) :: gW
abbrev rm_Mo_turn : Room := { frames := 0, cells := 0, slots := 0, locals := 0 }
theorem yd_Mo_turn : (⟨"PrefixCodesModel", "turn", "(II)I"⟩ : MethodName).cls = "PrefixCodesModel" ∧ (⟨"PrefixCodesModel", "turn", "(II)I"⟩ : MethodName).cls ≠ "java/lang/invoke/MethodHandle" ∧ (⟨"PrefixCodesModel", "turn", "(II)I"⟩ : MethodName).cls ≠ "java/lang/invoke/VarHandle" ∧ (parseMethodDescriptor (⟨"PrefixCodesModel", "turn", "(II)I"⟩ : MethodName).desc).map (fun d => d.parameters.length) = some 2 := by decide +kernel
def y_Mo_word : MethodName := ⟨"PrefixCodesModel", "word", "(IIZ)I"⟩
abbrev w_Mo_word : List Cond := Cond.code ⟨"PrefixCodesModel", "word", "(IIZ)I"⟩ prog_13_method_16_code 6 (some .int) :: gW
abbrev rm_Mo_word : Room := { frames := 3, cells := 0, slots := 0, locals := 68 }
theorem yd_Mo_word : (⟨"PrefixCodesModel", "word", "(IIZ)I"⟩ : MethodName).cls = "PrefixCodesModel" ∧ (⟨"PrefixCodesModel", "word", "(IIZ)I"⟩ : MethodName).cls ≠ "java/lang/invoke/MethodHandle" ∧ (⟨"PrefixCodesModel", "word", "(IIZ)I"⟩ : MethodName).cls ≠ "java/lang/invoke/VarHandle" ∧ (parseMethodDescriptor (⟨"PrefixCodesModel", "word", "(IIZ)I"⟩ : MethodName).desc).map (fun d => d.parameters.length) = some 3 := by decide +kernel
def y_Mo_count : MethodName := ⟨"PrefixCodesModel", "count", "(II)I"⟩
abbrev w_Mo_count : List Cond := Cond.code ⟨"PrefixCodesModel", "count", "(II)I"⟩ prog_13_method_17_code 4 (some .int) :: gW
abbrev rm_Mo_count : Room := { frames := 0, cells := 0, slots := 0, locals := 0 }
theorem yd_Mo_count : (⟨"PrefixCodesModel", "count", "(II)I"⟩ : MethodName).cls = "PrefixCodesModel" ∧ (⟨"PrefixCodesModel", "count", "(II)I"⟩ : MethodName).cls ≠ "java/lang/invoke/MethodHandle" ∧ (⟨"PrefixCodesModel", "count", "(II)I"⟩ : MethodName).cls ≠ "java/lang/invoke/VarHandle" ∧ (parseMethodDescriptor (⟨"PrefixCodesModel", "count", "(II)I"⟩ : MethodName).desc).map (fun d => d.parameters.length) = some 2 := by decide +kernel
def y_Mo_different : MethodName := ⟨"PrefixCodesModel", "different", "([II)I"⟩
abbrev w_Mo_different : List Cond := Cond.code ⟨"PrefixCodesModel", "different", "([II)I"⟩ prog_13_method_19_code 4 (some .int) :: gW
abbrev rm_Mo_different : Room := { frames := 0, cells := 0, slots := 0, locals := 0 }
theorem yd_Mo_different : (⟨"PrefixCodesModel", "different", "([II)I"⟩ : MethodName).cls = "PrefixCodesModel" ∧ (⟨"PrefixCodesModel", "different", "([II)I"⟩ : MethodName).cls ≠ "java/lang/invoke/MethodHandle" ∧ (⟨"PrefixCodesModel", "different", "([II)I"⟩ : MethodName).cls ≠ "java/lang/invoke/VarHandle" ∧ (parseMethodDescriptor (⟨"PrefixCodesModel", "different", "([II)I"⟩ : MethodName).desc).map (fun d => d.parameters.length) = some 2 := by decide +kernel
def y_Mo_countText : MethodName := ⟨"PrefixCodesModel", "countText", "()I"⟩
abbrev w_Mo_countText : List Cond := Cond.code ⟨"PrefixCodesModel", "countText", "()I"⟩ prog_13_method_18_code 2 (some .int) :: gW
abbrev rm_Mo_countText : Room := { frames := 1, cells := 0, slots := 0, locals := 23 }
theorem yd_Mo_countText : (⟨"PrefixCodesModel", "countText", "()I"⟩ : MethodName).cls = "PrefixCodesModel" ∧ (⟨"PrefixCodesModel", "countText", "()I"⟩ : MethodName).cls ≠ "java/lang/invoke/MethodHandle" ∧ (⟨"PrefixCodesModel", "countText", "()I"⟩ : MethodName).cls ≠ "java/lang/invoke/VarHandle" ∧ (parseMethodDescriptor (⟨"PrefixCodesModel", "countText", "()I"⟩ : MethodName).desc).map (fun d => d.parameters.length) = some 0 := by decide +kernel
def y_Mo_join : MethodName := ⟨"PrefixCodesModel", "join", "(II)V"⟩
abbrev w_Mo_join : List Cond := Cond.code ⟨"PrefixCodesModel", "join", "(II)V"⟩ prog_13_method_21_code 12 none :: gW
abbrev rm_Mo_join : Room := { frames := 0, cells := 0, slots := 0, locals := 0 }
theorem yd_Mo_join : (⟨"PrefixCodesModel", "join", "(II)V"⟩ : MethodName).cls = "PrefixCodesModel" ∧ (⟨"PrefixCodesModel", "join", "(II)V"⟩ : MethodName).cls ≠ "java/lang/invoke/MethodHandle" ∧ (⟨"PrefixCodesModel", "join", "(II)V"⟩ : MethodName).cls ≠ "java/lang/invoke/VarHandle" ∧ (parseMethodDescriptor (⟨"PrefixCodesModel", "join", "(II)V"⟩ : MethodName).desc).map (fun d => d.parameters.length) = some 2 := by decide +kernel
def y_Mo_packages : MethodName := ⟨"PrefixCodesModel", "packages", "(III)V"⟩
abbrev w_Mo_packages : List Cond := Cond.code ⟨"PrefixCodesModel", "packages", "(III)V"⟩ prog_13_method_20_code 11 none :: gW
abbrev rm_Mo_packages : Room := { frames := 1, cells := 0, slots := 0, locals := 31 }
theorem yd_Mo_packages : (⟨"PrefixCodesModel", "packages", "(III)V"⟩ : MethodName).cls = "PrefixCodesModel" ∧ (⟨"PrefixCodesModel", "packages", "(III)V"⟩ : MethodName).cls ≠ "java/lang/invoke/MethodHandle" ∧ (⟨"PrefixCodesModel", "packages", "(III)V"⟩ : MethodName).cls ≠ "java/lang/invoke/VarHandle" ∧ (parseMethodDescriptor (⟨"PrefixCodesModel", "packages", "(III)V"⟩ : MethodName).desc).map (fun d => d.parameters.length) = some 3 := by decide +kernel
def y_Mo_least : MethodName := ⟨"PrefixCodesModel", "least", "(II)I"⟩
abbrev w_Mo_least : List Cond := Cond.code ⟨"PrefixCodesModel", "least", "(II)I"⟩ prog_13_method_22_code 5 (some .int) :: gW
abbrev rm_Mo_least : Room := { frames := 2, cells := 0, slots := 0, locals := 61 }
theorem yd_Mo_least : (⟨"PrefixCodesModel", "least", "(II)I"⟩ : MethodName).cls = "PrefixCodesModel" ∧ (⟨"PrefixCodesModel", "least", "(II)I"⟩ : MethodName).cls ≠ "java/lang/invoke/MethodHandle" ∧ (⟨"PrefixCodesModel", "least", "(II)I"⟩ : MethodName).cls ≠ "java/lang/invoke/VarHandle" ∧ (parseMethodDescriptor (⟨"PrefixCodesModel", "least", "(II)I"⟩ : MethodName).desc).map (fun d => d.parameters.length) = some 2 := by decide +kernel
def y_Mo_cost : MethodName := ⟨"PrefixCodesModel", "cost", "(I)J"⟩
abbrev w_Mo_cost : List Cond := Cond.code ⟨"PrefixCodesModel", "cost", "(I)J"⟩ prog_13_method_23_code 5 (some .long) :: gW
abbrev rm_Mo_cost : Room := { frames := 1, cells := 0, slots := 0, locals := 22 }
theorem yd_Mo_cost : (⟨"PrefixCodesModel", "cost", "(I)J"⟩ : MethodName).cls = "PrefixCodesModel" ∧ (⟨"PrefixCodesModel", "cost", "(I)J"⟩ : MethodName).cls ≠ "java/lang/invoke/MethodHandle" ∧ (⟨"PrefixCodesModel", "cost", "(I)J"⟩ : MethodName).cls ≠ "java/lang/invoke/VarHandle" ∧ (parseMethodDescriptor (⟨"PrefixCodesModel", "cost", "(I)J"⟩ : MethodName).desc).map (fun d => d.parameters.length) = some 1 := by decide +kernel
def y_Mo_bits : MethodName := ⟨"PrefixCodesModel", "bits", "()I"⟩
abbrev w_Mo_bits : List Cond := Cond.code ⟨"PrefixCodesModel", "bits", "()I"⟩ prog_13_method_24_code 1 (some .int) :: gW
abbrev rm_Mo_bits : Room := { frames := 0, cells := 0, slots := 0, locals := 0 }
theorem yd_Mo_bits : (⟨"PrefixCodesModel", "bits", "()I"⟩ : MethodName).cls = "PrefixCodesModel" ∧ (⟨"PrefixCodesModel", "bits", "()I"⟩ : MethodName).cls ≠ "java/lang/invoke/MethodHandle" ∧ (⟨"PrefixCodesModel", "bits", "()I"⟩ : MethodName).cls ≠ "java/lang/invoke/VarHandle" ∧ (parseMethodDescriptor (⟨"PrefixCodesModel", "bits", "()I"⟩ : MethodName).desc).map (fun d => d.parameters.length) = some 0 := by decide +kernel
def y_Mo_bit : MethodName := ⟨"PrefixCodesModel", "bit", "(I)I"⟩
abbrev w_Mo_bit : List Cond := Cond.code ⟨"PrefixCodesModel", "bit", "(I)I"⟩ prog_13_method_25_code 2 (some .int) :: gW
abbrev rm_Mo_bit : Room := { frames := 0, cells := 0, slots := 0, locals := 0 }
theorem yd_Mo_bit : (⟨"PrefixCodesModel", "bit", "(I)I"⟩ : MethodName).cls = "PrefixCodesModel" ∧ (⟨"PrefixCodesModel", "bit", "(I)I"⟩ : MethodName).cls ≠ "java/lang/invoke/MethodHandle" ∧ (⟨"PrefixCodesModel", "bit", "(I)I"⟩ : MethodName).cls ≠ "java/lang/invoke/VarHandle" ∧ (parseMethodDescriptor (⟨"PrefixCodesModel", "bit", "(I)I"⟩ : MethodName).desc).map (fun d => d.parameters.length) = some 1 := by decide +kernel
def y_Mo_clear : MethodName := ⟨"PrefixCodesModel", "clear", "()I"⟩
abbrev w_Mo_clear : List Cond := Cond.code ⟨"PrefixCodesModel", "clear", "()I"⟩ prog_13_method_26_code 2 (some .int) :: gW
abbrev rm_Mo_clear : Room := { frames := 0, cells := 0, slots := 0, locals := 0 }
theorem yd_Mo_clear : (⟨"PrefixCodesModel", "clear", "()I"⟩ : MethodName).cls = "PrefixCodesModel" ∧ (⟨"PrefixCodesModel", "clear", "()I"⟩ : MethodName).cls ≠ "java/lang/invoke/MethodHandle" ∧ (⟨"PrefixCodesModel", "clear", "()I"⟩ : MethodName).cls ≠ "java/lang/invoke/VarHandle" ∧ (parseMethodDescriptor (⟨"PrefixCodesModel", "clear", "()I"⟩ : MethodName).desc).map (fun d => d.parameters.length) = some 0 := by decide +kernel
def y_Mo_hasRoom : MethodName := ⟨"PrefixCodesModel", "hasRoom", "(I)Z"⟩
abbrev w_Mo_hasRoom : List Cond := Cond.code ⟨"PrefixCodesModel", "hasRoom", "(I)Z"⟩ prog_13_method_27_code 2 (some .boolean) :: gW
abbrev rm_Mo_hasRoom : Room := { frames := 0, cells := 0, slots := 0, locals := 0 }
theorem yd_Mo_hasRoom : (⟨"PrefixCodesModel", "hasRoom", "(I)Z"⟩ : MethodName).cls = "PrefixCodesModel" ∧ (⟨"PrefixCodesModel", "hasRoom", "(I)Z"⟩ : MethodName).cls ≠ "java/lang/invoke/MethodHandle" ∧ (⟨"PrefixCodesModel", "hasRoom", "(I)Z"⟩ : MethodName).cls ≠ "java/lang/invoke/VarHandle" ∧ (parseMethodDescriptor (⟨"PrefixCodesModel", "hasRoom", "(I)Z"⟩ : MethodName).desc).map (fun d => d.parameters.length) = some 1 := by decide +kernel
def y_Mo_putBits : MethodName := ⟨"PrefixCodesModel", "putBits", "(II)V"⟩
abbrev w_Mo_putBits : List Cond := Cond.code ⟨"PrefixCodesModel", "putBits", "(II)V"⟩ prog_13_method_28_code 4 none :: gW
abbrev rm_Mo_putBits : Room := { frames := 0, cells := 0, slots := 0, locals := 0 }
theorem yd_Mo_putBits : (⟨"PrefixCodesModel", "putBits", "(II)V"⟩ : MethodName).cls = "PrefixCodesModel" ∧ (⟨"PrefixCodesModel", "putBits", "(II)V"⟩ : MethodName).cls ≠ "java/lang/invoke/MethodHandle" ∧ (⟨"PrefixCodesModel", "putBits", "(II)V"⟩ : MethodName).cls ≠ "java/lang/invoke/VarHandle" ∧ (parseMethodDescriptor (⟨"PrefixCodesModel", "putBits", "(II)V"⟩ : MethodName).desc).map (fun d => d.parameters.length) = some 2 := by decide +kernel
def y_Mo_putNumber : MethodName := ⟨"PrefixCodesModel", "putNumber", "(II)I"⟩
abbrev w_Mo_putNumber : List Cond := Cond.code ⟨"PrefixCodesModel", "putNumber", "(II)I"⟩ prog_13_method_29_code 3 (some .int) :: gW
abbrev rm_Mo_putNumber : Room := { frames := 1, cells := 0, slots := 0, locals := 23 }
theorem yd_Mo_putNumber : (⟨"PrefixCodesModel", "putNumber", "(II)I"⟩ : MethodName).cls = "PrefixCodesModel" ∧ (⟨"PrefixCodesModel", "putNumber", "(II)I"⟩ : MethodName).cls ≠ "java/lang/invoke/MethodHandle" ∧ (⟨"PrefixCodesModel", "putNumber", "(II)I"⟩ : MethodName).cls ≠ "java/lang/invoke/VarHandle" ∧ (parseMethodDescriptor (⟨"PrefixCodesModel", "putNumber", "(II)I"⟩ : MethodName).desc).map (fun d => d.parameters.length) = some 2 := by decide +kernel
def y_Mo_takeNumber : MethodName := ⟨"PrefixCodesModel", "takeNumber", "(I)I"⟩
abbrev w_Mo_takeNumber : List Cond := Cond.code ⟨"PrefixCodesModel", "takeNumber", "(I)I"⟩ prog_13_method_30_code 4 (some .int) :: gW
abbrev rm_Mo_takeNumber : Room := { frames := 0, cells := 0, slots := 0, locals := 0 }
theorem yd_Mo_takeNumber : (⟨"PrefixCodesModel", "takeNumber", "(I)I"⟩ : MethodName).cls = "PrefixCodesModel" ∧ (⟨"PrefixCodesModel", "takeNumber", "(I)I"⟩ : MethodName).cls ≠ "java/lang/invoke/MethodHandle" ∧ (⟨"PrefixCodesModel", "takeNumber", "(I)I"⟩ : MethodName).cls ≠ "java/lang/invoke/VarHandle" ∧ (parseMethodDescriptor (⟨"PrefixCodesModel", "takeNumber", "(I)I"⟩ : MethodName).desc).map (fun d => d.parameters.length) = some 1 := by decide +kernel
def y_Mo_put : MethodName := ⟨"PrefixCodesModel", "put", "(IIZ)I"⟩
abbrev w_Mo_put : List Cond := Cond.code ⟨"PrefixCodesModel", "put", "(IIZ)I"⟩ prog_13_method_31_code 6 (some .int) :: gW
abbrev rm_Mo_put : Room := { frames := 4, cells := 0, slots := 0, locals := 93 }
theorem yd_Mo_put : (⟨"PrefixCodesModel", "put", "(IIZ)I"⟩ : MethodName).cls = "PrefixCodesModel" ∧ (⟨"PrefixCodesModel", "put", "(IIZ)I"⟩ : MethodName).cls ≠ "java/lang/invoke/MethodHandle" ∧ (⟨"PrefixCodesModel", "put", "(IIZ)I"⟩ : MethodName).cls ≠ "java/lang/invoke/VarHandle" ∧ (parseMethodDescriptor (⟨"PrefixCodesModel", "put", "(IIZ)I"⟩ : MethodName).desc).map (fun d => d.parameters.length) = some 3 := by decide +kernel
def y_Mo_taken : MethodName := ⟨"PrefixCodesModel", "taken", "(IZ)I"⟩
abbrev w_Mo_taken : List Cond := Cond.code ⟨"PrefixCodesModel", "taken", "(IZ)I"⟩ prog_13_method_32_code 8 (some .int) :: gW
abbrev rm_Mo_taken : Room := { frames := 2, cells := 0, slots := 0, locals := 48 }
theorem yd_Mo_taken : (⟨"PrefixCodesModel", "taken", "(IZ)I"⟩ : MethodName).cls = "PrefixCodesModel" ∧ (⟨"PrefixCodesModel", "taken", "(IZ)I"⟩ : MethodName).cls ≠ "java/lang/invoke/MethodHandle" ∧ (⟨"PrefixCodesModel", "taken", "(IZ)I"⟩ : MethodName).cls ≠ "java/lang/invoke/VarHandle" ∧ (parseMethodDescriptor (⟨"PrefixCodesModel", "taken", "(IZ)I"⟩ : MethodName).desc).map (fun d => d.parameters.length) = some 2 := by decide +kernel
def y_Mo_take : MethodName := ⟨"PrefixCodesModel", "take", "(IZ)I"⟩
abbrev w_Mo_take : List Cond := Cond.code ⟨"PrefixCodesModel", "take", "(IZ)I"⟩ prog_13_method_33_code 4 (some .int) :: gW
abbrev rm_Mo_take : Room := { frames := 3, cells := 0, slots := 0, locals := 75 }
theorem yd_Mo_take : (⟨"PrefixCodesModel", "take", "(IZ)I"⟩ : MethodName).cls = "PrefixCodesModel" ∧ (⟨"PrefixCodesModel", "take", "(IZ)I"⟩ : MethodName).cls ≠ "java/lang/invoke/MethodHandle" ∧ (⟨"PrefixCodesModel", "take", "(IZ)I"⟩ : MethodName).cls ≠ "java/lang/invoke/VarHandle" ∧ (parseMethodDescriptor (⟨"PrefixCodesModel", "take", "(IZ)I"⟩ : MethodName).desc).map (fun d => d.parameters.length) = some 2 := by decide +kernel
def y_Mo_orderOf : MethodName := ⟨"PrefixCodesModel", "orderOf", "(I)I"⟩
abbrev w_Mo_orderOf : List Cond := Cond.code ⟨"PrefixCodesModel", "orderOf", "(I)I"⟩ prog_13_method_34_code 1 (some .int) :: gW
abbrev rm_Mo_orderOf : Room := { frames := 0, cells := 0, slots := 0, locals := 0 }
theorem yd_Mo_orderOf : (⟨"PrefixCodesModel", "orderOf", "(I)I"⟩ : MethodName).cls = "PrefixCodesModel" ∧ (⟨"PrefixCodesModel", "orderOf", "(I)I"⟩ : MethodName).cls ≠ "java/lang/invoke/MethodHandle" ∧ (⟨"PrefixCodesModel", "orderOf", "(I)I"⟩ : MethodName).cls ≠ "java/lang/invoke/VarHandle" ∧ (parseMethodDescriptor (⟨"PrefixCodesModel", "orderOf", "(I)I"⟩ : MethodName).desc).map (fun d => d.parameters.length) = some 1 := by decide +kernel
def y_Mo_extra : MethodName := ⟨"PrefixCodesModel", "extra", "(I)I"⟩
abbrev w_Mo_extra : List Cond := Cond.code ⟨"PrefixCodesModel", "extra", "(I)I"⟩ prog_13_method_35_code 1 (some .int) :: gW
abbrev rm_Mo_extra : Room := { frames := 0, cells := 0, slots := 0, locals := 0 }
theorem yd_Mo_extra : (⟨"PrefixCodesModel", "extra", "(I)I"⟩ : MethodName).cls = "PrefixCodesModel" ∧ (⟨"PrefixCodesModel", "extra", "(I)I"⟩ : MethodName).cls ≠ "java/lang/invoke/MethodHandle" ∧ (⟨"PrefixCodesModel", "extra", "(I)I"⟩ : MethodName).cls ≠ "java/lang/invoke/VarHandle" ∧ (parseMethodDescriptor (⟨"PrefixCodesModel", "extra", "(I)I"⟩ : MethodName).desc).map (fun d => d.parameters.length) = some 1 := by decide +kernel
def y_Mo_tell : MethodName := ⟨"PrefixCodesModel", "tell", "(II)V"⟩
abbrev w_Mo_tell : List Cond := Cond.code ⟨"PrefixCodesModel", "tell", "(II)V"⟩ prog_13_method_36_code 3 none :: gW
abbrev rm_Mo_tell : Room := { frames := 0, cells := 0, slots := 0, locals := 0 }
theorem yd_Mo_tell : (⟨"PrefixCodesModel", "tell", "(II)V"⟩ : MethodName).cls = "PrefixCodesModel" ∧ (⟨"PrefixCodesModel", "tell", "(II)V"⟩ : MethodName).cls ≠ "java/lang/invoke/MethodHandle" ∧ (⟨"PrefixCodesModel", "tell", "(II)V"⟩ : MethodName).cls ≠ "java/lang/invoke/VarHandle" ∧ (parseMethodDescriptor (⟨"PrefixCodesModel", "tell", "(II)V"⟩ : MethodName).desc).map (fun d => d.parameters.length) = some 2 := by decide +kernel
def y_Mo_fillCommands : MethodName := ⟨"PrefixCodesModel", "fillCommands", "(I)V"⟩
abbrev w_Mo_fillCommands : List Cond := Cond.code ⟨"PrefixCodesModel", "fillCommands", "(I)V"⟩ prog_13_method_37_code 7 none :: gW
abbrev rm_Mo_fillCommands : Room := { frames := 1, cells := 0, slots := 0, locals := 22 }
theorem yd_Mo_fillCommands : (⟨"PrefixCodesModel", "fillCommands", "(I)V"⟩ : MethodName).cls = "PrefixCodesModel" ∧ (⟨"PrefixCodesModel", "fillCommands", "(I)V"⟩ : MethodName).cls ≠ "java/lang/invoke/MethodHandle" ∧ (⟨"PrefixCodesModel", "fillCommands", "(I)V"⟩ : MethodName).cls ≠ "java/lang/invoke/VarHandle" ∧ (parseMethodDescriptor (⟨"PrefixCodesModel", "fillCommands", "(I)V"⟩ : MethodName).desc).map (fun d => d.parameters.length) = some 1 := by decide +kernel
def y_Mo_runs : MethodName := ⟨"PrefixCodesModel", "runs", "(IZ)I"⟩
abbrev w_Mo_runs : List Cond := Cond.code ⟨"PrefixCodesModel", "runs", "(IZ)I"⟩ prog_13_method_39_code 8 (some .int) :: gW
abbrev rm_Mo_runs : Room := { frames := 2, cells := 0, slots := 0, locals := 61 }
theorem yd_Mo_runs : (⟨"PrefixCodesModel", "runs", "(IZ)I"⟩ : MethodName).cls = "PrefixCodesModel" ∧ (⟨"PrefixCodesModel", "runs", "(IZ)I"⟩ : MethodName).cls ≠ "java/lang/invoke/MethodHandle" ∧ (⟨"PrefixCodesModel", "runs", "(IZ)I"⟩ : MethodName).cls ≠ "java/lang/invoke/VarHandle" ∧ (parseMethodDescriptor (⟨"PrefixCodesModel", "runs", "(IZ)I"⟩ : MethodName).desc).map (fun d => d.parameters.length) = some 2 := by decide +kernel
def y_Mo_packed : MethodName := ⟨"PrefixCodesModel", "packed", "(IIZ)I"⟩
abbrev w_Mo_packed : List Cond := Cond.code ⟨"PrefixCodesModel", "packed", "(IIZ)I"⟩ prog_13_method_38_code 9 (some .int) :: gW
abbrev rm_Mo_packed : Room := { frames := 3, cells := 0, slots := 0, locals := 88 }
theorem yd_Mo_packed : (⟨"PrefixCodesModel", "packed", "(IIZ)I"⟩ : MethodName).cls = "PrefixCodesModel" ∧ (⟨"PrefixCodesModel", "packed", "(IIZ)I"⟩ : MethodName).cls ≠ "java/lang/invoke/MethodHandle" ∧ (⟨"PrefixCodesModel", "packed", "(IIZ)I"⟩ : MethodName).cls ≠ "java/lang/invoke/VarHandle" ∧ (parseMethodDescriptor (⟨"PrefixCodesModel", "packed", "(IIZ)I"⟩ : MethodName).desc).map (fun d => d.parameters.length) = some 3 := by decide +kernel
def y_Mo_pack : MethodName := ⟨"PrefixCodesModel", "pack", "(II)I"⟩
abbrev w_Mo_pack : List Cond := Cond.code ⟨"PrefixCodesModel", "pack", "(II)I"⟩ prog_13_method_40_code 4 (some .int) :: gW
abbrev rm_Mo_pack : Room := { frames := 4, cells := 0, slots := 0, locals := 116 }
theorem yd_Mo_pack : (⟨"PrefixCodesModel", "pack", "(II)I"⟩ : MethodName).cls = "PrefixCodesModel" ∧ (⟨"PrefixCodesModel", "pack", "(II)I"⟩ : MethodName).cls ≠ "java/lang/invoke/MethodHandle" ∧ (⟨"PrefixCodesModel", "pack", "(II)I"⟩ : MethodName).cls ≠ "java/lang/invoke/VarHandle" ∧ (parseMethodDescriptor (⟨"PrefixCodesModel", "pack", "(II)I"⟩ : MethodName).desc).map (fun d => d.parameters.length) = some 2 := by decide +kernel
def y_Mo_plain : MethodName := ⟨"PrefixCodesModel", "plain", "(I)I"⟩
abbrev w_Mo_plain : List Cond := Cond.code ⟨"PrefixCodesModel", "plain", "(I)I"⟩ prog_13_method_42_code 4 (some .int) :: gW
abbrev rm_Mo_plain : Room := { frames := 1, cells := 0, slots := 0, locals := 23 }
theorem yd_Mo_plain : (⟨"PrefixCodesModel", "plain", "(I)I"⟩ : MethodName).cls = "PrefixCodesModel" ∧ (⟨"PrefixCodesModel", "plain", "(I)I"⟩ : MethodName).cls ≠ "java/lang/invoke/MethodHandle" ∧ (⟨"PrefixCodesModel", "plain", "(I)I"⟩ : MethodName).cls ≠ "java/lang/invoke/VarHandle" ∧ (parseMethodDescriptor (⟨"PrefixCodesModel", "plain", "(I)I"⟩ : MethodName).desc).map (fun d => d.parameters.length) = some 1 := by decide +kernel
def y_Mo_steps : MethodName := ⟨"PrefixCodesModel", "steps", "(I)I"⟩
abbrev w_Mo_steps : List Cond := Cond.code ⟨"PrefixCodesModel", "steps", "(I)I"⟩ prog_13_method_43_code 6 (some .int) :: gW
abbrev rm_Mo_steps : Room := { frames := 1, cells := 0, slots := 0, locals := 23 }
theorem yd_Mo_steps : (⟨"PrefixCodesModel", "steps", "(I)I"⟩ : MethodName).cls = "PrefixCodesModel" ∧ (⟨"PrefixCodesModel", "steps", "(I)I"⟩ : MethodName).cls ≠ "java/lang/invoke/MethodHandle" ∧ (⟨"PrefixCodesModel", "steps", "(I)I"⟩ : MethodName).cls ≠ "java/lang/invoke/VarHandle" ∧ (parseMethodDescriptor (⟨"PrefixCodesModel", "steps", "(I)I"⟩ : MethodName).desc).map (fun d => d.parameters.length) = some 1 := by decide +kernel
def y_Mo_readRuns : MethodName := ⟨"PrefixCodesModel", "readRuns", "(I)I"⟩
abbrev w_Mo_readRuns : List Cond := Cond.code ⟨"PrefixCodesModel", "readRuns", "(I)I"⟩ prog_13_method_44_code 10 (some .int) :: gW
abbrev rm_Mo_readRuns : Room := { frames := 3, cells := 0, slots := 0, locals := 75 }
theorem yd_Mo_readRuns : (⟨"PrefixCodesModel", "readRuns", "(I)I"⟩ : MethodName).cls = "PrefixCodesModel" ∧ (⟨"PrefixCodesModel", "readRuns", "(I)I"⟩ : MethodName).cls ≠ "java/lang/invoke/MethodHandle" ∧ (⟨"PrefixCodesModel", "readRuns", "(I)I"⟩ : MethodName).cls ≠ "java/lang/invoke/VarHandle" ∧ (parseMethodDescriptor (⟨"PrefixCodesModel", "readRuns", "(I)I"⟩ : MethodName).desc).map (fun d => d.parameters.length) = some 1 := by decide +kernel
def y_Mo_unpack : MethodName := ⟨"PrefixCodesModel", "unpack", "(II)I"⟩
abbrev w_Mo_unpack : List Cond := Cond.code ⟨"PrefixCodesModel", "unpack", "(II)I"⟩ prog_13_method_41_code 7 (some .int) :: gW
abbrev rm_Mo_unpack : Room := { frames := 4, cells := 0, slots := 0, locals := 104 }
theorem yd_Mo_unpack : (⟨"PrefixCodesModel", "unpack", "(II)I"⟩ : MethodName).cls = "PrefixCodesModel" ∧ (⟨"PrefixCodesModel", "unpack", "(II)I"⟩ : MethodName).cls ≠ "java/lang/invoke/MethodHandle" ∧ (⟨"PrefixCodesModel", "unpack", "(II)I"⟩ : MethodName).cls ≠ "java/lang/invoke/VarHandle" ∧ (parseMethodDescriptor (⟨"PrefixCodesModel", "unpack", "(II)I"⟩ : MethodName).desc).map (fun d => d.parameters.length) = some 2 := by decide +kernel
def y_Mo_putEntry : MethodName := ⟨"PrefixCodesModel", "putEntry", "(IIII)V"⟩
abbrev w_Mo_putEntry : List Cond := Cond.code ⟨"PrefixCodesModel", "putEntry", "(IIII)V"⟩ prog_13_method_47_code 5 none :: gW
abbrev rm_Mo_putEntry : Room := { frames := 0, cells := 0, slots := 0, locals := 0 }
theorem yd_Mo_putEntry : (⟨"PrefixCodesModel", "putEntry", "(IIII)V"⟩ : MethodName).cls = "PrefixCodesModel" ∧ (⟨"PrefixCodesModel", "putEntry", "(IIII)V"⟩ : MethodName).cls ≠ "java/lang/invoke/MethodHandle" ∧ (⟨"PrefixCodesModel", "putEntry", "(IIII)V"⟩ : MethodName).cls ≠ "java/lang/invoke/VarHandle" ∧ (parseMethodDescriptor (⟨"PrefixCodesModel", "putEntry", "(IIII)V"⟩ : MethodName).desc).map (fun d => d.parameters.length) = some 4 := by decide +kernel
def y_Mo_clearEntries : MethodName := ⟨"PrefixCodesModel", "clearEntries", "(II)V"⟩
abbrev w_Mo_clearEntries : List Cond := Cond.code ⟨"PrefixCodesModel", "clearEntries", "(II)V"⟩ prog_13_method_46_code 4 none :: gW
abbrev rm_Mo_clearEntries : Room := { frames := 1, cells := 0, slots := 0, locals := 24 }
theorem yd_Mo_clearEntries : (⟨"PrefixCodesModel", "clearEntries", "(II)V"⟩ : MethodName).cls = "PrefixCodesModel" ∧ (⟨"PrefixCodesModel", "clearEntries", "(II)V"⟩ : MethodName).cls ≠ "java/lang/invoke/MethodHandle" ∧ (⟨"PrefixCodesModel", "clearEntries", "(II)V"⟩ : MethodName).cls ≠ "java/lang/invoke/VarHandle" ∧ (parseMethodDescriptor (⟨"PrefixCodesModel", "clearEntries", "(II)V"⟩ : MethodName).desc).map (fun d => d.parameters.length) = some 2 := by decide +kernel
def y_Mo_part : MethodName := ⟨"PrefixCodesModel", "part", "(IIII)V"⟩
abbrev w_Mo_part : List Cond := Cond.code ⟨"PrefixCodesModel", "part", "(IIII)V"⟩ prog_13_method_48_code 11 none :: gW
abbrev rm_Mo_part : Room := { frames := 2, cells := 0, slots := 0, locals := 48 }
theorem yd_Mo_part : (⟨"PrefixCodesModel", "part", "(IIII)V"⟩ : MethodName).cls = "PrefixCodesModel" ∧ (⟨"PrefixCodesModel", "part", "(IIII)V"⟩ : MethodName).cls ≠ "java/lang/invoke/MethodHandle" ∧ (⟨"PrefixCodesModel", "part", "(IIII)V"⟩ : MethodName).cls ≠ "java/lang/invoke/VarHandle" ∧ (parseMethodDescriptor (⟨"PrefixCodesModel", "part", "(IIII)V"⟩ : MethodName).desc).map (fun d => d.parameters.length) = some 4 := by decide +kernel
def y_Mo_table : MethodName := ⟨"PrefixCodesModel", "table", "(II)I"⟩
abbrev w_Mo_table : List Cond := Cond.code ⟨"PrefixCodesModel", "table", "(II)I"⟩ prog_13_method_45_code 8 (some .int) :: gW
abbrev rm_Mo_table : Room := { frames := 3, cells := 0, slots := 0, locals := 78 }
theorem yd_Mo_table : (⟨"PrefixCodesModel", "table", "(II)I"⟩ : MethodName).cls = "PrefixCodesModel" ∧ (⟨"PrefixCodesModel", "table", "(II)I"⟩ : MethodName).cls ≠ "java/lang/invoke/MethodHandle" ∧ (⟨"PrefixCodesModel", "table", "(II)I"⟩ : MethodName).cls ≠ "java/lang/invoke/VarHandle" ∧ (parseMethodDescriptor (⟨"PrefixCodesModel", "table", "(II)I"⟩ : MethodName).desc).map (fun d => d.parameters.length) = some 2 := by decide +kernel
def y_Mo_entry : MethodName := ⟨"PrefixCodesModel", "entry", "(II)I"⟩
abbrev w_Mo_entry : List Cond := Cond.code ⟨"PrefixCodesModel", "entry", "(II)I"⟩ prog_13_method_49_code 3 (some .int) :: gW
abbrev rm_Mo_entry : Room := { frames := 0, cells := 0, slots := 0, locals := 0 }
theorem yd_Mo_entry : (⟨"PrefixCodesModel", "entry", "(II)I"⟩ : MethodName).cls = "PrefixCodesModel" ∧ (⟨"PrefixCodesModel", "entry", "(II)I"⟩ : MethodName).cls ≠ "java/lang/invoke/MethodHandle" ∧ (⟨"PrefixCodesModel", "entry", "(II)I"⟩ : MethodName).cls ≠ "java/lang/invoke/VarHandle" ∧ (parseMethodDescriptor (⟨"PrefixCodesModel", "entry", "(II)I"⟩ : MethodName).desc).map (fun d => d.parameters.length) = some 2 := by decide +kernel
def y_Mo_at : MethodName := ⟨"PrefixCodesModel", "at", "(IIIIII)I"⟩
abbrev w_Mo_at : List Cond := Cond.code ⟨"PrefixCodesModel", "at", "(IIIIII)I"⟩ prog_13_method_51_code 6 (some .int) :: gW
abbrev rm_Mo_at : Room := { frames := 0, cells := 0, slots := 0, locals := 0 }
theorem yd_Mo_at : (⟨"PrefixCodesModel", "at", "(IIIIII)I"⟩ : MethodName).cls = "PrefixCodesModel" ∧ (⟨"PrefixCodesModel", "at", "(IIIIII)I"⟩ : MethodName).cls ≠ "java/lang/invoke/MethodHandle" ∧ (⟨"PrefixCodesModel", "at", "(IIIIII)I"⟩ : MethodName).cls ≠ "java/lang/invoke/VarHandle" ∧ (parseMethodDescriptor (⟨"PrefixCodesModel", "at", "(IIIIII)I"⟩ : MethodName).desc).map (fun d => d.parameters.length) = some 6 := by decide +kernel
def y_Mo_add : MethodName := ⟨"PrefixCodesModel", "add", "(IIIII)I"⟩
abbrev w_Mo_add : List Cond := Cond.code ⟨"PrefixCodesModel", "add", "(IIIII)I"⟩ prog_13_method_50_code 8 (some .int) :: gW
abbrev rm_Mo_add : Room := { frames := 1, cells := 0, slots := 0, locals := 25 }
theorem yd_Mo_add : (⟨"PrefixCodesModel", "add", "(IIIII)I"⟩ : MethodName).cls = "PrefixCodesModel" ∧ (⟨"PrefixCodesModel", "add", "(IIIII)I"⟩ : MethodName).cls ≠ "java/lang/invoke/MethodHandle" ∧ (⟨"PrefixCodesModel", "add", "(IIIII)I"⟩ : MethodName).cls ≠ "java/lang/invoke/VarHandle" ∧ (parseMethodDescriptor (⟨"PrefixCodesModel", "add", "(IIIII)I"⟩ : MethodName).desc).map (fun d => d.parameters.length) = some 5 := by decide +kernel
def y_Mo_forget : MethodName := ⟨"PrefixCodesModel", "forget", "()I"⟩
abbrev w_Mo_forget : List Cond := Cond.code ⟨"PrefixCodesModel", "forget", "()I"⟩ prog_13_method_52_code 2 (some .int) :: gW
abbrev rm_Mo_forget : Room := { frames := 0, cells := 0, slots := 0, locals := 0 }
theorem yd_Mo_forget : (⟨"PrefixCodesModel", "forget", "()I"⟩ : MethodName).cls = "PrefixCodesModel" ∧ (⟨"PrefixCodesModel", "forget", "()I"⟩ : MethodName).cls ≠ "java/lang/invoke/MethodHandle" ∧ (⟨"PrefixCodesModel", "forget", "()I"⟩ : MethodName).cls ≠ "java/lang/invoke/VarHandle" ∧ (parseMethodDescriptor (⟨"PrefixCodesModel", "forget", "()I"⟩ : MethodName).desc).map (fun d => d.parameters.length) = some 0 := by decide +kernel
def y_Mo_groupOf : MethodName := ⟨"PrefixCodesModel", "groupOf", "(II)I"⟩
abbrev w_Mo_groupOf : List Cond := Cond.code ⟨"PrefixCodesModel", "groupOf", "(II)I"⟩ prog_13_method_53_code 3 (some .int) :: gW
abbrev rm_Mo_groupOf : Room := { frames := 0, cells := 0, slots := 0, locals := 0 }
theorem yd_Mo_groupOf : (⟨"PrefixCodesModel", "groupOf", "(II)I"⟩ : MethodName).cls = "PrefixCodesModel" ∧ (⟨"PrefixCodesModel", "groupOf", "(II)I"⟩ : MethodName).cls ≠ "java/lang/invoke/MethodHandle" ∧ (⟨"PrefixCodesModel", "groupOf", "(II)I"⟩ : MethodName).cls ≠ "java/lang/invoke/VarHandle" ∧ (parseMethodDescriptor (⟨"PrefixCodesModel", "groupOf", "(II)I"⟩ : MethodName).desc).map (fun d => d.parameters.length) = some 2 := by decide +kernel
def y_Mo_make : MethodName := ⟨"PrefixCodesModel", "make", "(I)V"⟩
abbrev w_Mo_make : List Cond := Cond.code ⟨"PrefixCodesModel", "make", "(I)V"⟩ prog_13_method_54_code 4 none :: gW
abbrev rm_Mo_make : Room := { frames := 2, cells := 0, slots := 0, locals := 61 }
theorem yd_Mo_make : (⟨"PrefixCodesModel", "make", "(I)V"⟩ : MethodName).cls = "PrefixCodesModel" ∧ (⟨"PrefixCodesModel", "make", "(I)V"⟩ : MethodName).cls ≠ "java/lang/invoke/MethodHandle" ∧ (⟨"PrefixCodesModel", "make", "(I)V"⟩ : MethodName).cls ≠ "java/lang/invoke/VarHandle" ∧ (parseMethodDescriptor (⟨"PrefixCodesModel", "make", "(I)V"⟩ : MethodName).desc).map (fun d => d.parameters.length) = some 1 := by decide +kernel
def y_Mo_best : MethodName := ⟨"PrefixCodesModel", "best", "(I)I"⟩
abbrev w_Mo_best : List Cond := Cond.code ⟨"PrefixCodesModel", "best", "(I)I"⟩ prog_13_method_56_code 7 (some .int) :: gW
abbrev rm_Mo_best : Room := { frames := 1, cells := 0, slots := 0, locals := 22 }
theorem yd_Mo_best : (⟨"PrefixCodesModel", "best", "(I)I"⟩ : MethodName).cls = "PrefixCodesModel" ∧ (⟨"PrefixCodesModel", "best", "(I)I"⟩ : MethodName).cls ≠ "java/lang/invoke/MethodHandle" ∧ (⟨"PrefixCodesModel", "best", "(I)I"⟩ : MethodName).cls ≠ "java/lang/invoke/VarHandle" ∧ (parseMethodDescriptor (⟨"PrefixCodesModel", "best", "(I)I"⟩ : MethodName).desc).map (fun d => d.parameters.length) = some 1 := by decide +kernel
def y_Mo_choose : MethodName := ⟨"PrefixCodesModel", "choose", "(IIII)I"⟩
abbrev w_Mo_choose : List Cond := Cond.code ⟨"PrefixCodesModel", "choose", "(IIII)I"⟩ prog_13_method_55_code 7 (some .int) :: gW
abbrev rm_Mo_choose : Room := { frames := 3, cells := 0, slots := 0, locals := 84 }
theorem yd_Mo_choose : (⟨"PrefixCodesModel", "choose", "(IIII)I"⟩ : MethodName).cls = "PrefixCodesModel" ∧ (⟨"PrefixCodesModel", "choose", "(IIII)I"⟩ : MethodName).cls ≠ "java/lang/invoke/MethodHandle" ∧ (⟨"PrefixCodesModel", "choose", "(IIII)I"⟩ : MethodName).cls ≠ "java/lang/invoke/VarHandle" ∧ (parseMethodDescriptor (⟨"PrefixCodesModel", "choose", "(IIII)I"⟩ : MethodName).desc).map (fun d => d.parameters.length) = some 4 := by decide +kernel
def y_Mo_group : MethodName := ⟨"PrefixCodesModel", "group", "(I)I"⟩
abbrev w_Mo_group : List Cond := Cond.code ⟨"PrefixCodesModel", "group", "(I)I"⟩ prog_13_method_57_code 2 (some .int) :: gW
abbrev rm_Mo_group : Room := { frames := 0, cells := 0, slots := 0, locals := 0 }
theorem yd_Mo_group : (⟨"PrefixCodesModel", "group", "(I)I"⟩ : MethodName).cls = "PrefixCodesModel" ∧ (⟨"PrefixCodesModel", "group", "(I)I"⟩ : MethodName).cls ≠ "java/lang/invoke/MethodHandle" ∧ (⟨"PrefixCodesModel", "group", "(I)I"⟩ : MethodName).cls ≠ "java/lang/invoke/VarHandle" ∧ (parseMethodDescriptor (⟨"PrefixCodesModel", "group", "(I)I"⟩ : MethodName).desc).map (fun d => d.parameters.length) = some 1 := by decide +kernel
def y_Mo_begin : MethodName := ⟨"PrefixCodesModel", "begin", "(I)V"⟩
abbrev w_Mo_begin : List Cond := Cond.code ⟨"PrefixCodesModel", "begin", "(I)V"⟩ prog_13_method_58_code 3 none :: gW
abbrev rm_Mo_begin : Room := { frames := 0, cells := 0, slots := 0, locals := 0 }
theorem yd_Mo_begin : (⟨"PrefixCodesModel", "begin", "(I)V"⟩ : MethodName).cls = "PrefixCodesModel" ∧ (⟨"PrefixCodesModel", "begin", "(I)V"⟩ : MethodName).cls ≠ "java/lang/invoke/MethodHandle" ∧ (⟨"PrefixCodesModel", "begin", "(I)V"⟩ : MethodName).cls ≠ "java/lang/invoke/VarHandle" ∧ (parseMethodDescriptor (⟨"PrefixCodesModel", "begin", "(I)V"⟩ : MethodName).desc).map (fun d => d.parameters.length) = some 1 := by decide +kernel
def y_Mo_front : MethodName := ⟨"PrefixCodesModel", "front", "(I)I"⟩
abbrev w_Mo_front : List Cond := Cond.code ⟨"PrefixCodesModel", "front", "(I)I"⟩ prog_13_method_59_code 4 (some .int) :: gW
abbrev rm_Mo_front : Room := { frames := 0, cells := 0, slots := 0, locals := 0 }
theorem yd_Mo_front : (⟨"PrefixCodesModel", "front", "(I)I"⟩ : MethodName).cls = "PrefixCodesModel" ∧ (⟨"PrefixCodesModel", "front", "(I)I"⟩ : MethodName).cls ≠ "java/lang/invoke/MethodHandle" ∧ (⟨"PrefixCodesModel", "front", "(I)I"⟩ : MethodName).cls ≠ "java/lang/invoke/VarHandle" ∧ (parseMethodDescriptor (⟨"PrefixCodesModel", "front", "(I)I"⟩ : MethodName).desc).map (fun d => d.parameters.length) = some 1 := by decide +kernel
def y_Mo_write : MethodName := ⟨"PrefixCodesModel", "write", "()I"⟩
abbrev w_Mo_write : List Cond := Cond.code ⟨"PrefixCodesModel", "write", "()I"⟩ prog_13_method_60_code 6 (some .int) :: gW
abbrev rm_Mo_write : Room := { frames := 3, cells := 0, slots := 0, locals := 68 }
theorem yd_Mo_write : (⟨"PrefixCodesModel", "write", "()I"⟩ : MethodName).cls = "PrefixCodesModel" ∧ (⟨"PrefixCodesModel", "write", "()I"⟩ : MethodName).cls ≠ "java/lang/invoke/MethodHandle" ∧ (⟨"PrefixCodesModel", "write", "()I"⟩ : MethodName).cls ≠ "java/lang/invoke/VarHandle" ∧ (parseMethodDescriptor (⟨"PrefixCodesModel", "write", "()I"⟩ : MethodName).desc).map (fun d => d.parameters.length) = some 0 := by decide +kernel
def y_Mo_read : MethodName := ⟨"PrefixCodesModel", "read", "(IIII)I"⟩
abbrev w_Mo_read : List Cond := Cond.code ⟨"PrefixCodesModel", "read", "(IIII)I"⟩ prog_13_method_61_code 9 (some .int) :: gW
abbrev rm_Mo_read : Room := { frames := 3, cells := 0, slots := 0, locals := 75 }
theorem yd_Mo_read : (⟨"PrefixCodesModel", "read", "(IIII)I"⟩ : MethodName).cls = "PrefixCodesModel" ∧ (⟨"PrefixCodesModel", "read", "(IIII)I"⟩ : MethodName).cls ≠ "java/lang/invoke/MethodHandle" ∧ (⟨"PrefixCodesModel", "read", "(IIII)I"⟩ : MethodName).cls ≠ "java/lang/invoke/VarHandle" ∧ (parseMethodDescriptor (⟨"PrefixCodesModel", "read", "(IIII)I"⟩ : MethodName).desc).map (fun d => d.parameters.length) = some 4 := by decide +kernel
def y_Mo_symbol : MethodName := ⟨"PrefixCodesModel", "symbol", "(I)I"⟩
abbrev w_Mo_symbol : List Cond := Cond.code ⟨"PrefixCodesModel", "symbol", "(I)I"⟩ prog_13_method_62_code 2 (some .int) :: gW
abbrev rm_Mo_symbol : Room := { frames := 0, cells := 0, slots := 0, locals := 0 }
theorem yd_Mo_symbol : (⟨"PrefixCodesModel", "symbol", "(I)I"⟩ : MethodName).cls = "PrefixCodesModel" ∧ (⟨"PrefixCodesModel", "symbol", "(I)I"⟩ : MethodName).cls ≠ "java/lang/invoke/MethodHandle" ∧ (⟨"PrefixCodesModel", "symbol", "(I)I"⟩ : MethodName).cls ≠ "java/lang/invoke/VarHandle" ∧ (parseMethodDescriptor (⟨"PrefixCodesModel", "symbol", "(I)I"⟩ : MethodName).desc).map (fun d => d.parameters.length) = some 1 := by decide +kernel
end
section
theorem d_Arrays_fill_0 : decode prog_21_method_103_code 0 = .ok (.iconst 0, 1) := by decide +kernel
theorem d_Arrays_fill_1 : decode prog_21_method_103_code 1 = .ok (.istore_n 2, 1) := by decide +kernel
theorem d_Arrays_fill_2 : decode prog_21_method_103_code 2 = .ok (.aload_n 0, 1) := by decide +kernel
theorem d_Arrays_fill_3 : decode prog_21_method_103_code 3 = .ok (.arraylength, 1) := by decide +kernel
theorem d_Arrays_fill_4 : decode prog_21_method_103_code 4 = .ok (.istore_n 3, 1) := by decide +kernel
theorem d_Arrays_fill_5 : decode prog_21_method_103_code 5 = .ok (.iload_n 2, 1) := by decide +kernel
theorem d_Arrays_fill_6 : decode prog_21_method_103_code 6 = .ok (.iload_n 3, 1) := by decide +kernel
theorem d_Arrays_fill_7 : decode prog_21_method_103_code 7 = .ok (.if_icmp .ge 13, 3) := by decide +kernel
theorem d_Arrays_fill_10 : decode prog_21_method_103_code 10 = .ok (.aload_n 0, 1) := by decide +kernel
theorem d_Arrays_fill_11 : decode prog_21_method_103_code 11 = .ok (.iload_n 2, 1) := by decide +kernel
theorem d_Arrays_fill_12 : decode prog_21_method_103_code 12 = .ok (.iload_n 1, 1) := by decide +kernel
theorem d_Arrays_fill_13 : decode prog_21_method_103_code 13 = .ok (.iastore, 1) := by decide +kernel
theorem d_Arrays_fill_14 : decode prog_21_method_103_code 14 = .ok (.iinc 2 1, 3) := by decide +kernel
theorem d_Arrays_fill_17 : decode prog_21_method_103_code 17 = .ok (.goto (-12), 3) := by decide +kernel
theorem d_Arrays_fill_20 : decode prog_21_method_103_code 20 = .ok (.return_, 1) := by decide +kernel
end
section
noncomputable def lb_Arrays_fill_5 (fa1 ia1 na1 : Nat) (a2 : Int32) (x1 : Int32) (σ : St) (v2 : Int32) : Option ((St × Int32) ⊕ ((St × Int32))) :=
  if x1 ≤ v2 then
    some (.inr (σ, v2))
  else
  gd (ib v2 na1) <|
  nm (sI σ fa1 ia1 (v2.toNatClampNeg) a2) fun σ2 =>
  nm (v2 + 1) fun x3 =>
  some (.inl (σ2, x3))
noncomputable def f_Arrays_fill (σ : St) (fa1 ia1 na1 : Nat) (a2 : Int32) : Option (St) :=
  nm (nI na1) fun x1 =>
  b2 (lpE (fun q => lb_Arrays_fill_5 fa1 ia1 na1 a2 x1 q.1 q.2) (σ, 0)) fun σ4 x5 =>
  some σ4
end
section
set_option maxHeartbeats 4000000 in
set_option maxRecDepth 100000 in
theorem c_Arrays_fill (l : Launch) (D : va_G) (aC : Nat → ClassId) (A : Nat → Prop) (ad : Nat → Nat → Nat) (n : Nat) (σ : St) (fa1 ia1 na1 : Nat) (a2 : Int32) (hka1 : kd fa1 = .inr (0, na1)) (hda1 : dm n fa1 ia1) (o : St) (h : f_Arrays_fill σ fa1 ia1 na1 a2 = some o) : Met l y_Arrays_fill w_Arrays_fill rm_Arrays_fill (va_Pc [.ref (ad fa1 ia1), .int a2] (Pre D aC A ad n σ)) (va_Qv (fun (_ : Unit) => True) (fun _ t => Hold D aC A ad n o t.heap) A) 0 0 A := by
  refine Met.ofW (cc := prog_21_method_103_code) (maxL := 4) (ret := none) (by decide) rfl ?_
  intro p e s m args below meth c s₁ B hml hv
  obtain ⟨hargs, hH, hK, hZ⟩ := hv
  have hx := B.exec
  have hb := B.bytes
  have hr := B.returns
  have hts := atoms_spec (ws := w_Arrays_fill) B.pre
  have hg : ∀ w ∈ gW, w.before args s = true := fun w h => hts w (List.mem_cons_of_mem _ h)
  have hown : s.vm.findClass "java/util/Arrays" = some m.cls := findClass_of_methodNamed B.named
  have hlocks := B.notSynchronized
  have hS : va_S A s.heap s.heap [] := va_S.rf
  have hl := lv_entry ([.ref (ad fa1 ia1), .int a2]) (n := 4) (Nat.le_of_ble_eq_true rfl)
  rw [show entryFrame m args 4 = entryFrame m (([.ref (ad fa1 ia1), .int a2] : List Value).toArray) 4 by rw [hargs], lg_entry_eq]
  generalize (lg_sl ([.ref (ad fa1 ia1), .int a2]) ++ List.replicate (4 - (lg_sl ([.ref (ad fa1 ia1), .int a2])).length) Slot.unset).toArray = ls at hl ⊢
  have hl : lv_has ls 4 [(0, .ref (ad fa1 ia1)), (1, .int a2)] := hl
  generalize hQ0 : MQ below (va_Qv (fun (_ : Unit) => True) (fun _ t => Hold D aC A ad n o t.heap) A) args s 0 0 A = Q0
  unfold f_Arrays_fill at h
  refine lv_iconst (v := 0) hx hb d_Arrays_fill_0 (by decide) ?_
  refine lv_istore_n (lv' := [(2, .int 0), (0, .ref (ad fa1 ia1)), (1, .int a2)]) hx hb d_Arrays_fill_1 rfl hl (by decide) rfl (fun ls hl => ?_)
  refine lv_aload_n hx hb d_Arrays_fill_2 rfl (lv_at hl 1 rfl) ?_
  refine st_alen hx hb hK hH (f := fa1) (i := ia1) hda1 hka1 (v := (nI na1)) rfl d_Arrays_fill_3 ?_
  refine lv_topi (fun x1 ex1 => ?_)
  have h := nm_at ex1 h
  refine lv_istore_n (lv' := [(3, .int x1), (2, .int 0), (0, .ref (ad fa1 ia1)), (1, .int a2)]) hx hb d_Arrays_fill_4 rfl hl (by decide) rfl (fun ls hl => ?_)
  obtain ⟨q1, hq1, h⟩ := b2_some h
  have K1 : ∀ (σ4 : St) (x5 : Int32) (H : Heap) (locs : List Loc) (ls : Array Slot), q1 = (σ4, x5) → Hold D aC A ad n σ4 H → va_S A s.heap H locs → lv_has ls 4 [(0, .ref (ad fa1 ia1)), (1, .int a2), (2, .int x5), (3, .int x1)] → W p l e (headSpec w_Arrays_fill rm_Arrays_fill).room s m args below meth c H locs 0 0 Q0 (F0 m 20 ls []) := by
    intro σ4 x5 H locs ls eq1 hH hS hl
    subst eq1
    have h := b2_at h
    cases h
    rw [← hQ0]
    exact W.vret hx hb hr (fun t ht hW => ⟨⟨(), rfl, trivial, by dsimp only; rw [ht]; exact hH⟩, hS.F ht⟩) hS.2.2 d_Arrays_fill_20
  have loop1 : ∀ (k : Nat) (σ : St) (v2 : Int32) (H : Heap) (locs : List Loc) (ls : Array Slot), Hold D aC A ad n σ H → va_S A s.heap H locs → lv_has ls 4 [(0, .ref (ad fa1 ia1)), (1, .int a2), (2, .int v2), (3, .int x1)] → lp (fun q => lb_Arrays_fill_5 fa1 ia1 na1 a2 x1 q.1 q.2) k (σ, v2) = some q1 → W p l e (headSpec w_Arrays_fill rm_Arrays_fill).room s m args below meth c H locs 0 0 Q0 (F0 m 5 ls []) := by
    intro k
    induction k with
    | zero => intro σ v2 H locs ls hH hS hl h; exact absurd h (lp_zero _ _ _)
    | succ k ih1 =>
      intro σ v2 H locs ls hH hS hl h
      obtain ⟨z1, h1, hk1⟩ := lp_succ h
      have h1 : lb_Arrays_fill_5 fa1 ia1 na1 a2 x1 σ v2 = some z1 := h1
      unfold lb_Arrays_fill_5 at h1
      refine lv_iload_n hx hb d_Arrays_fill_5 rfl (lv_at hl 2 rfl) ?_
      refine lv_iload_n hx hb d_Arrays_fill_6 rfl (lv_at hl 3 rfl) ?_
      refine lv_icmp_ge (tgt := 20) hx hb d_Arrays_fill_7 (by decide) (fun c7 => ?_) (fun c7 => ?_)
      · have h1 := it h1 c7
        cases h1
        exact K1 σ v2 _ _ ls (Option.some.inj hk1).symm hH hS (lv_sub hl [0, 1, 2, 3] rfl)
      · have h1 := ie h1 c7
        refine lv_aload_n hx hb d_Arrays_fill_10 rfl (lv_at hl 0 rfl) ?_
        refine lv_iload_n hx hb d_Arrays_fill_11 rfl (lv_at hl 2 rfl) ?_
        refine lv_iload_n hx hb d_Arrays_fill_12 rfl (lv_at hl 1 rfl) ?_
        obtain ⟨g13, h1⟩ := gd_some h1
        refine st_iast hx hb hK hH hS (f := fa1) (i := ia1) hda1 hka1 g13 d_Arrays_fill_13 (fun σ2 H locs eσ2 hH hS => ?_)
        have h1 := nm_at eσ2 h1
        obtain ⟨x3, ex3⟩ : ∃ y : Int32, y = v2 + 1 := ⟨_, rfl⟩
        have h1 := nm_at ex3 h1
        refine lv_iinc (v := x3) (lv' := [(2, .int x3), (0, .ref (ad fa1 ia1)), (1, .int a2), (3, .int x1)]) hx hb d_Arrays_fill_14 hl (k := 2) rfl (by rw [ex3]; rfl) (by decide) rfl (fun ls hl => ?_)
        refine lv_goto (tgt := 5) hx hb d_Arrays_fill_17 (by decide) ?_
        cases h1
        exact ih1 σ2 x3 _ _ ls hH hS (lv_sub hl [1, 2, 0, 3] rfl) hk1
  obtain ⟨k1, hq1⟩ := lpE_some hq1
  exact loop1 k1 σ 0 _ _ ls hH hS (lv_sub hl [2, 3, 1, 0] rfl) hq1
end
section
theorem d_Stream_placeOf_0 : decode prog_9_method_2_code 0 = .ok (.aload_n 0, 1) := by decide +kernel
theorem d_Stream_placeOf_1 : decode prog_9_method_2_code 1 = .ok (.getfield 15, 3) := by decide +kernel
theorem d_Stream_placeOf_4 : decode prog_9_method_2_code 4 = .ok (.iload_n 1, 1) := by decide +kernel
theorem d_Stream_placeOf_5 : decode prog_9_method_2_code 5 = .ok (.iadd, 1) := by decide +kernel
theorem d_Stream_placeOf_6 : decode prog_9_method_2_code 6 = .ok (.sipush 20000, 3) := by decide +kernel
theorem d_Stream_placeOf_9 : decode prog_9_method_2_code 9 = .ok (.irem, 1) := by decide +kernel
theorem d_Stream_placeOf_10 : decode prog_9_method_2_code 10 = .ok (.ireturn, 1) := by decide +kernel
theorem d_Stream_bitOf_0 : decode prog_9_method_3_code 0 = .ok (.aload_n 0, 1) := by decide +kernel
theorem d_Stream_bitOf_1 : decode prog_9_method_3_code 1 = .ok (.getfield 11, 3) := by decide +kernel
theorem d_Stream_bitOf_4 : decode prog_9_method_3_code 4 = .ok (.iload_n 1, 1) := by decide +kernel
theorem d_Stream_bitOf_5 : decode prog_9_method_3_code 5 = .ok (.bipush 32, 2) := by decide +kernel
theorem d_Stream_bitOf_7 : decode prog_9_method_3_code 7 = .ok (.idiv, 1) := by decide +kernel
theorem d_Stream_bitOf_8 : decode prog_9_method_3_code 8 = .ok (.iaload, 1) := by decide +kernel
theorem d_Stream_bitOf_9 : decode prog_9_method_3_code 9 = .ok (.iload_n 1, 1) := by decide +kernel
theorem d_Stream_bitOf_10 : decode prog_9_method_3_code 10 = .ok (.bipush 32, 2) := by decide +kernel
theorem d_Stream_bitOf_12 : decode prog_9_method_3_code 12 = .ok (.irem, 1) := by decide +kernel
theorem d_Stream_bitOf_13 : decode prog_9_method_3_code 13 = .ok (.iushr, 1) := by decide +kernel
theorem d_Stream_bitOf_14 : decode prog_9_method_3_code 14 = .ok (.iconst 1, 1) := by decide +kernel
theorem d_Stream_bitOf_15 : decode prog_9_method_3_code 15 = .ok (.iand, 1) := by decide +kernel
theorem d_Stream_bitOf_16 : decode prog_9_method_3_code 16 = .ok (.ireturn, 1) := by decide +kernel
theorem d_Stream_at_0 : decode prog_9_method_4_code 0 = .ok (.aload_n 0, 1) := by decide +kernel
theorem d_Stream_at_1 : decode prog_9_method_4_code 1 = .ok (.aload_n 0, 1) := by decide +kernel
theorem d_Stream_at_2 : decode prog_9_method_4_code 2 = .ok (.iload_n 1, 1) := by decide +kernel
theorem d_Stream_at_3 : decode prog_9_method_4_code 3 = .ok (.invokevirtual 29, 3) := by decide +kernel
theorem d_Stream_at_6 : decode prog_9_method_4_code 6 = .ok (.invokevirtual 33, 3) := by decide +kernel
theorem d_Stream_at_9 : decode prog_9_method_4_code 9 = .ok (.ireturn, 1) := by decide +kernel
theorem d_Stream_append_0 : decode prog_9_method_7_code 0 = .ok (.aload_n 0, 1) := by decide +kernel
theorem d_Stream_append_1 : decode prog_9_method_7_code 1 = .ok (.getfield 19, 3) := by decide +kernel
theorem d_Stream_append_4 : decode prog_9_method_7_code 4 = .ok (.sipush 20000, 3) := by decide +kernel
theorem d_Stream_append_7 : decode prog_9_method_7_code 7 = .ok (.if_icmp .lt 9, 3) := by decide +kernel
theorem d_Stream_append_10 : decode prog_9_method_7_code 10 = .ok (.aload_n 0, 1) := by decide +kernel
theorem d_Stream_append_11 : decode prog_9_method_7_code 11 = .ok (.iconst 1, 1) := by decide +kernel
theorem d_Stream_append_12 : decode prog_9_method_7_code 12 = .ok (.putfield 25, 3) := by decide +kernel
theorem d_Stream_append_15 : decode prog_9_method_7_code 15 = .ok (.return_, 1) := by decide +kernel
theorem d_Stream_append_16 : decode prog_9_method_7_code 16 = .ok (.aload_n 0, 1) := by decide +kernel
theorem d_Stream_append_17 : decode prog_9_method_7_code 17 = .ok (.aload_n 0, 1) := by decide +kernel
theorem d_Stream_append_18 : decode prog_9_method_7_code 18 = .ok (.getfield 19, 3) := by decide +kernel
theorem d_Stream_append_21 : decode prog_9_method_7_code 21 = .ok (.invokevirtual 29, 3) := by decide +kernel
theorem d_Stream_append_24 : decode prog_9_method_7_code 24 = .ok (.istore_n 2, 1) := by decide +kernel
theorem d_Stream_append_25 : decode prog_9_method_7_code 25 = .ok (.iconst 1, 1) := by decide +kernel
theorem d_Stream_append_26 : decode prog_9_method_7_code 26 = .ok (.iload_n 2, 1) := by decide +kernel
theorem d_Stream_append_27 : decode prog_9_method_7_code 27 = .ok (.bipush 32, 2) := by decide +kernel
theorem d_Stream_append_29 : decode prog_9_method_7_code 29 = .ok (.irem, 1) := by decide +kernel
theorem d_Stream_append_30 : decode prog_9_method_7_code 30 = .ok (.ishl, 1) := by decide +kernel
theorem d_Stream_append_31 : decode prog_9_method_7_code 31 = .ok (.istore_n 3, 1) := by decide +kernel
theorem d_Stream_append_32 : decode prog_9_method_7_code 32 = .ok (.aload_n 0, 1) := by decide +kernel
theorem d_Stream_append_33 : decode prog_9_method_7_code 33 = .ok (.getfield 11, 3) := by decide +kernel
theorem d_Stream_append_36 : decode prog_9_method_7_code 36 = .ok (.iload_n 2, 1) := by decide +kernel
theorem d_Stream_append_37 : decode prog_9_method_7_code 37 = .ok (.bipush 32, 2) := by decide +kernel
theorem d_Stream_append_39 : decode prog_9_method_7_code 39 = .ok (.idiv, 1) := by decide +kernel
theorem d_Stream_append_40 : decode prog_9_method_7_code 40 = .ok (.iaload, 1) := by decide +kernel
theorem d_Stream_append_41 : decode prog_9_method_7_code 41 = .ok (.iload_n 3, 1) := by decide +kernel
theorem d_Stream_append_42 : decode prog_9_method_7_code 42 = .ok (.iconst (-1), 1) := by decide +kernel
theorem d_Stream_append_43 : decode prog_9_method_7_code 43 = .ok (.ixor, 1) := by decide +kernel
theorem d_Stream_append_44 : decode prog_9_method_7_code 44 = .ok (.iand, 1) := by decide +kernel
theorem d_Stream_append_45 : decode prog_9_method_7_code 45 = .ok (.istore 4, 2) := by decide +kernel
theorem d_Stream_append_47 : decode prog_9_method_7_code 47 = .ok (.aload_n 0, 1) := by decide +kernel
theorem d_Stream_append_48 : decode prog_9_method_7_code 48 = .ok (.getfield 11, 3) := by decide +kernel
theorem d_Stream_append_51 : decode prog_9_method_7_code 51 = .ok (.iload_n 2, 1) := by decide +kernel
theorem d_Stream_append_52 : decode prog_9_method_7_code 52 = .ok (.bipush 32, 2) := by decide +kernel
theorem d_Stream_append_54 : decode prog_9_method_7_code 54 = .ok (.idiv, 1) := by decide +kernel
theorem d_Stream_append_55 : decode prog_9_method_7_code 55 = .ok (.iload_n 1, 1) := by decide +kernel
theorem d_Stream_append_56 : decode prog_9_method_7_code 56 = .ok (.ifCond .ne 8, 3) := by decide +kernel
theorem d_Stream_append_59 : decode prog_9_method_7_code 59 = .ok (.iload 4, 2) := by decide +kernel
theorem d_Stream_append_61 : decode prog_9_method_7_code 61 = .ok (.goto 7, 3) := by decide +kernel
theorem d_Stream_append_64 : decode prog_9_method_7_code 64 = .ok (.iload 4, 2) := by decide +kernel
theorem d_Stream_append_66 : decode prog_9_method_7_code 66 = .ok (.iload_n 3, 1) := by decide +kernel
theorem d_Stream_append_67 : decode prog_9_method_7_code 67 = .ok (.ior, 1) := by decide +kernel
theorem d_Stream_append_68 : decode prog_9_method_7_code 68 = .ok (.iastore, 1) := by decide +kernel
theorem d_Stream_append_69 : decode prog_9_method_7_code 69 = .ok (.aload_n 0, 1) := by decide +kernel
theorem d_Stream_append_70 : decode prog_9_method_7_code 70 = .ok (.dup, 1) := by decide +kernel
theorem d_Stream_append_71 : decode prog_9_method_7_code 71 = .ok (.getfield 19, 3) := by decide +kernel
theorem d_Stream_append_74 : decode prog_9_method_7_code 74 = .ok (.iconst 1, 1) := by decide +kernel
theorem d_Stream_append_75 : decode prog_9_method_7_code 75 = .ok (.iadd, 1) := by decide +kernel
theorem d_Stream_append_76 : decode prog_9_method_7_code 76 = .ok (.putfield 19, 3) := by decide +kernel
theorem d_Stream_append_79 : decode prog_9_method_7_code 79 = .ok (.return_, 1) := by decide +kernel
theorem d_Stream_appendNumber_0 : decode prog_9_method_8_code 0 = .ok (.iload_n 2, 1) := by decide +kernel
theorem d_Stream_appendNumber_1 : decode prog_9_method_8_code 1 = .ok (.iconst 1, 1) := by decide +kernel
theorem d_Stream_appendNumber_2 : decode prog_9_method_8_code 2 = .ok (.isub, 1) := by decide +kernel
theorem d_Stream_appendNumber_3 : decode prog_9_method_8_code 3 = .ok (.istore_n 3, 1) := by decide +kernel
theorem d_Stream_appendNumber_4 : decode prog_9_method_8_code 4 = .ok (.iload_n 3, 1) := by decide +kernel
theorem d_Stream_appendNumber_5 : decode prog_9_method_8_code 5 = .ok (.ifCond .lt 18, 3) := by decide +kernel
theorem d_Stream_appendNumber_8 : decode prog_9_method_8_code 8 = .ok (.aload_n 0, 1) := by decide +kernel
theorem d_Stream_appendNumber_9 : decode prog_9_method_8_code 9 = .ok (.iload_n 1, 1) := by decide +kernel
theorem d_Stream_appendNumber_10 : decode prog_9_method_8_code 10 = .ok (.iload_n 3, 1) := by decide +kernel
theorem d_Stream_appendNumber_11 : decode prog_9_method_8_code 11 = .ok (.iushr, 1) := by decide +kernel
theorem d_Stream_appendNumber_12 : decode prog_9_method_8_code 12 = .ok (.iconst 1, 1) := by decide +kernel
theorem d_Stream_appendNumber_13 : decode prog_9_method_8_code 13 = .ok (.iand, 1) := by decide +kernel
theorem d_Stream_appendNumber_14 : decode prog_9_method_8_code 14 = .ok (.invokevirtual 36, 3) := by decide +kernel
theorem d_Stream_appendNumber_17 : decode prog_9_method_8_code 17 = .ok (.iinc 3 (-1), 3) := by decide +kernel
theorem d_Stream_appendNumber_20 : decode prog_9_method_8_code 20 = .ok (.goto (-16), 3) := by decide +kernel
theorem d_Stream_appendNumber_23 : decode prog_9_method_8_code 23 = .ok (.return_, 1) := by decide +kernel
theorem d_Stream_removeFirst_0 : decode prog_9_method_9_code 0 = .ok (.aload_n 0, 1) := by decide +kernel
theorem d_Stream_removeFirst_1 : decode prog_9_method_9_code 1 = .ok (.getfield 19, 3) := by decide +kernel
theorem d_Stream_removeFirst_4 : decode prog_9_method_9_code 4 = .ok (.ifCond .ne 6, 3) := by decide +kernel
theorem d_Stream_removeFirst_7 : decode prog_9_method_9_code 7 = .ok (.bipush (-104), 2) := by decide +kernel
theorem d_Stream_removeFirst_9 : decode prog_9_method_9_code 9 = .ok (.ireturn, 1) := by decide +kernel
theorem d_Stream_removeFirst_10 : decode prog_9_method_9_code 10 = .ok (.aload_n 0, 1) := by decide +kernel
theorem d_Stream_removeFirst_11 : decode prog_9_method_9_code 11 = .ok (.aload_n 0, 1) := by decide +kernel
theorem d_Stream_removeFirst_12 : decode prog_9_method_9_code 12 = .ok (.getfield 15, 3) := by decide +kernel
theorem d_Stream_removeFirst_15 : decode prog_9_method_9_code 15 = .ok (.invokevirtual 33, 3) := by decide +kernel
theorem d_Stream_removeFirst_18 : decode prog_9_method_9_code 18 = .ok (.istore_n 1, 1) := by decide +kernel
theorem d_Stream_removeFirst_19 : decode prog_9_method_9_code 19 = .ok (.aload_n 0, 1) := by decide +kernel
theorem d_Stream_removeFirst_20 : decode prog_9_method_9_code 20 = .ok (.aload_n 0, 1) := by decide +kernel
theorem d_Stream_removeFirst_21 : decode prog_9_method_9_code 21 = .ok (.iconst 1, 1) := by decide +kernel
theorem d_Stream_removeFirst_22 : decode prog_9_method_9_code 22 = .ok (.invokevirtual 29, 3) := by decide +kernel
theorem d_Stream_removeFirst_25 : decode prog_9_method_9_code 25 = .ok (.putfield 15, 3) := by decide +kernel
theorem d_Stream_removeFirst_28 : decode prog_9_method_9_code 28 = .ok (.aload_n 0, 1) := by decide +kernel
theorem d_Stream_removeFirst_29 : decode prog_9_method_9_code 29 = .ok (.dup, 1) := by decide +kernel
theorem d_Stream_removeFirst_30 : decode prog_9_method_9_code 30 = .ok (.getfield 19, 3) := by decide +kernel
theorem d_Stream_removeFirst_33 : decode prog_9_method_9_code 33 = .ok (.iconst 1, 1) := by decide +kernel
theorem d_Stream_removeFirst_34 : decode prog_9_method_9_code 34 = .ok (.isub, 1) := by decide +kernel
theorem d_Stream_removeFirst_35 : decode prog_9_method_9_code 35 = .ok (.putfield 19, 3) := by decide +kernel
theorem d_Stream_removeFirst_38 : decode prog_9_method_9_code 38 = .ok (.iload_n 1, 1) := by decide +kernel
theorem d_Stream_removeFirst_39 : decode prog_9_method_9_code 39 = .ok (.ireturn, 1) := by decide +kernel
theorem d_Stream_removeNumber_0 : decode prog_9_method_11_code 0 = .ok (.iload_n 1, 1) := by decide +kernel
theorem d_Stream_removeNumber_1 : decode prog_9_method_11_code 1 = .ok (.aload_n 0, 1) := by decide +kernel
theorem d_Stream_removeNumber_2 : decode prog_9_method_11_code 2 = .ok (.getfield 19, 3) := by decide +kernel
theorem d_Stream_removeNumber_5 : decode prog_9_method_11_code 5 = .ok (.if_icmp .le 6, 3) := by decide +kernel
theorem d_Stream_removeNumber_8 : decode prog_9_method_11_code 8 = .ok (.bipush (-104), 2) := by decide +kernel
theorem d_Stream_removeNumber_10 : decode prog_9_method_11_code 10 = .ok (.ireturn, 1) := by decide +kernel
theorem d_Stream_removeNumber_11 : decode prog_9_method_11_code 11 = .ok (.iconst 0, 1) := by decide +kernel
theorem d_Stream_removeNumber_12 : decode prog_9_method_11_code 12 = .ok (.istore_n 2, 1) := by decide +kernel
theorem d_Stream_removeNumber_13 : decode prog_9_method_11_code 13 = .ok (.iconst 0, 1) := by decide +kernel
theorem d_Stream_removeNumber_14 : decode prog_9_method_11_code 14 = .ok (.istore_n 3, 1) := by decide +kernel
theorem d_Stream_removeNumber_15 : decode prog_9_method_11_code 15 = .ok (.iload_n 3, 1) := by decide +kernel
theorem d_Stream_removeNumber_16 : decode prog_9_method_11_code 16 = .ok (.iload_n 1, 1) := by decide +kernel
theorem d_Stream_removeNumber_17 : decode prog_9_method_11_code 17 = .ok (.if_icmp .ge 18, 3) := by decide +kernel
theorem d_Stream_removeNumber_20 : decode prog_9_method_11_code 20 = .ok (.iload_n 2, 1) := by decide +kernel
theorem d_Stream_removeNumber_21 : decode prog_9_method_11_code 21 = .ok (.iconst 1, 1) := by decide +kernel
theorem d_Stream_removeNumber_22 : decode prog_9_method_11_code 22 = .ok (.ishl, 1) := by decide +kernel
theorem d_Stream_removeNumber_23 : decode prog_9_method_11_code 23 = .ok (.aload_n 0, 1) := by decide +kernel
theorem d_Stream_removeNumber_24 : decode prog_9_method_11_code 24 = .ok (.invokevirtual 43, 3) := by decide +kernel
theorem d_Stream_removeNumber_27 : decode prog_9_method_11_code 27 = .ok (.ior, 1) := by decide +kernel
theorem d_Stream_removeNumber_28 : decode prog_9_method_11_code 28 = .ok (.istore_n 2, 1) := by decide +kernel
theorem d_Stream_removeNumber_29 : decode prog_9_method_11_code 29 = .ok (.iinc 3 1, 3) := by decide +kernel
theorem d_Stream_removeNumber_32 : decode prog_9_method_11_code 32 = .ok (.goto (-17), 3) := by decide +kernel
theorem d_Stream_removeNumber_35 : decode prog_9_method_11_code 35 = .ok (.iload_n 2, 1) := by decide +kernel
theorem d_Stream_removeNumber_36 : decode prog_9_method_11_code 36 = .ok (.ireturn, 1) := by decide +kernel
theorem d_Stream_removeLast_0 : decode prog_9_method_10_code 0 = .ok (.aload_n 0, 1) := by decide +kernel
theorem d_Stream_removeLast_1 : decode prog_9_method_10_code 1 = .ok (.getfield 19, 3) := by decide +kernel
theorem d_Stream_removeLast_4 : decode prog_9_method_10_code 4 = .ok (.ifCond .ne 6, 3) := by decide +kernel
theorem d_Stream_removeLast_7 : decode prog_9_method_10_code 7 = .ok (.bipush (-104), 2) := by decide +kernel
theorem d_Stream_removeLast_9 : decode prog_9_method_10_code 9 = .ok (.ireturn, 1) := by decide +kernel
theorem d_Stream_removeLast_10 : decode prog_9_method_10_code 10 = .ok (.aload_n 0, 1) := by decide +kernel
theorem d_Stream_removeLast_11 : decode prog_9_method_10_code 11 = .ok (.aload_n 0, 1) := by decide +kernel
theorem d_Stream_removeLast_12 : decode prog_9_method_10_code 12 = .ok (.getfield 19, 3) := by decide +kernel
theorem d_Stream_removeLast_15 : decode prog_9_method_10_code 15 = .ok (.iconst 1, 1) := by decide +kernel
theorem d_Stream_removeLast_16 : decode prog_9_method_10_code 16 = .ok (.isub, 1) := by decide +kernel
theorem d_Stream_removeLast_17 : decode prog_9_method_10_code 17 = .ok (.invokevirtual 40, 3) := by decide +kernel
theorem d_Stream_removeLast_20 : decode prog_9_method_10_code 20 = .ok (.istore_n 1, 1) := by decide +kernel
theorem d_Stream_removeLast_21 : decode prog_9_method_10_code 21 = .ok (.aload_n 0, 1) := by decide +kernel
theorem d_Stream_removeLast_22 : decode prog_9_method_10_code 22 = .ok (.dup, 1) := by decide +kernel
theorem d_Stream_removeLast_23 : decode prog_9_method_10_code 23 = .ok (.getfield 19, 3) := by decide +kernel
theorem d_Stream_removeLast_26 : decode prog_9_method_10_code 26 = .ok (.iconst 1, 1) := by decide +kernel
theorem d_Stream_removeLast_27 : decode prog_9_method_10_code 27 = .ok (.isub, 1) := by decide +kernel
theorem d_Stream_removeLast_28 : decode prog_9_method_10_code 28 = .ok (.putfield 19, 3) := by decide +kernel
theorem d_Stream_removeLast_31 : decode prog_9_method_10_code 31 = .ok (.iload_n 1, 1) := by decide +kernel
theorem d_Stream_removeLast_32 : decode prog_9_method_10_code 32 = .ok (.ireturn, 1) := by decide +kernel
theorem d_Stream_begin_0 : decode prog_9_method_5_code 0 = .ok (.aload_n 0, 1) := by decide +kernel
theorem d_Stream_begin_1 : decode prog_9_method_5_code 1 = .ok (.aload_n 0, 1) := by decide +kernel
theorem d_Stream_begin_2 : decode prog_9_method_5_code 2 = .ok (.getfield 19, 3) := by decide +kernel
theorem d_Stream_begin_5 : decode prog_9_method_5_code 5 = .ok (.putfield 22, 3) := by decide +kernel
theorem d_Stream_begin_8 : decode prog_9_method_5_code 8 = .ok (.aload_n 0, 1) := by decide +kernel
theorem d_Stream_begin_9 : decode prog_9_method_5_code 9 = .ok (.iconst 0, 1) := by decide +kernel
theorem d_Stream_begin_10 : decode prog_9_method_5_code 10 = .ok (.putfield 25, 3) := by decide +kernel
theorem d_Stream_begin_13 : decode prog_9_method_5_code 13 = .ok (.return_, 1) := by decide +kernel
theorem d_Stream_settle_0 : decode prog_9_method_6_code 0 = .ok (.aload_n 0, 1) := by decide +kernel
theorem d_Stream_settle_1 : decode prog_9_method_6_code 1 = .ok (.getfield 25, 3) := by decide +kernel
theorem d_Stream_settle_4 : decode prog_9_method_6_code 4 = .ok (.ifCond .eq 14, 3) := by decide +kernel
theorem d_Stream_settle_7 : decode prog_9_method_6_code 7 = .ok (.aload_n 0, 1) := by decide +kernel
theorem d_Stream_settle_8 : decode prog_9_method_6_code 8 = .ok (.aload_n 0, 1) := by decide +kernel
theorem d_Stream_settle_9 : decode prog_9_method_6_code 9 = .ok (.getfield 22, 3) := by decide +kernel
theorem d_Stream_settle_12 : decode prog_9_method_6_code 12 = .ok (.putfield 19, 3) := by decide +kernel
theorem d_Stream_settle_15 : decode prog_9_method_6_code 15 = .ok (.bipush (-106), 2) := by decide +kernel
theorem d_Stream_settle_17 : decode prog_9_method_6_code 17 = .ok (.ireturn, 1) := by decide +kernel
theorem d_Stream_settle_18 : decode prog_9_method_6_code 18 = .ok (.aload_n 0, 1) := by decide +kernel
theorem d_Stream_settle_19 : decode prog_9_method_6_code 19 = .ok (.getfield 19, 3) := by decide +kernel
theorem d_Stream_settle_22 : decode prog_9_method_6_code 22 = .ok (.aload_n 0, 1) := by decide +kernel
theorem d_Stream_settle_23 : decode prog_9_method_6_code 23 = .ok (.getfield 22, 3) := by decide +kernel
theorem d_Stream_settle_26 : decode prog_9_method_6_code 26 = .ok (.isub, 1) := by decide +kernel
theorem d_Stream_settle_27 : decode prog_9_method_6_code 27 = .ok (.ireturn, 1) := by decide +kernel
theorem d_Stream_giveBack_0 : decode prog_9_method_12_code 0 = .ok (.aload_n 0, 1) := by decide +kernel
theorem d_Stream_giveBack_1 : decode prog_9_method_12_code 1 = .ok (.aload_n 0, 1) := by decide +kernel
theorem d_Stream_giveBack_2 : decode prog_9_method_12_code 2 = .ok (.sipush 20000, 3) := by decide +kernel
theorem d_Stream_giveBack_5 : decode prog_9_method_12_code 5 = .ok (.iload_n 1, 1) := by decide +kernel
theorem d_Stream_giveBack_6 : decode prog_9_method_12_code 6 = .ok (.isub, 1) := by decide +kernel
theorem d_Stream_giveBack_7 : decode prog_9_method_12_code 7 = .ok (.invokevirtual 29, 3) := by decide +kernel
theorem d_Stream_giveBack_10 : decode prog_9_method_12_code 10 = .ok (.putfield 15, 3) := by decide +kernel
theorem d_Stream_giveBack_13 : decode prog_9_method_12_code 13 = .ok (.aload_n 0, 1) := by decide +kernel
theorem d_Stream_giveBack_14 : decode prog_9_method_12_code 14 = .ok (.dup, 1) := by decide +kernel
theorem d_Stream_giveBack_15 : decode prog_9_method_12_code 15 = .ok (.getfield 19, 3) := by decide +kernel
theorem d_Stream_giveBack_18 : decode prog_9_method_12_code 18 = .ok (.iload_n 1, 1) := by decide +kernel
theorem d_Stream_giveBack_19 : decode prog_9_method_12_code 19 = .ok (.iadd, 1) := by decide +kernel
theorem d_Stream_giveBack_20 : decode prog_9_method_12_code 20 = .ok (.putfield 19, 3) := by decide +kernel
theorem d_Stream_giveBack_23 : decode prog_9_method_12_code 23 = .ok (.return_, 1) := by decide +kernel
end
section
noncomputable def f_Stream_placeOf (σ : St) (a1 : Int32) : Option (St × Int32) :=
  some (σ, ((σ.1 3 0 1) + a1) - ((σ.1 3 0 1) + a1) / 20000 * 20000)
noncomputable def f_Stream_bitOf (σ : St) (a1 : Int32) : Option (St × Int32) :=
  gd (ib (a1 / 32) 625) <|
  some (σ, (((σ.1 4 0 (a1 / 32).toNatClampNeg).toUInt32 >>> ((a1 - a1 / 32 * 32).toUInt32 &&& Int32.toUInt32 31)).toInt32) &&& 1)
noncomputable def f_Stream_at (σ : St) (a1 : Int32) : Option (St × Int32) :=
  b2 (f_Stream_placeOf σ a1) fun σ1 x2 =>
  b2 (f_Stream_bitOf σ1 x2) fun σ3 x4 =>
  some (σ3, x4)
noncomputable def f_Stream_append (σ : St) (a1 : Int32) : Option (St) :=
  if (σ.1 3 0 2) < 20000 then
    b2 (f_Stream_placeOf σ (σ.1 3 0 2)) fun σ1 x2 =>
    nm (1 <<< ((x2 - x2 / 32 * 32) &&& 31)) fun x3 =>
    gd (ib (x2 / 32) 625) <|
    nm ((σ1.1 4 0 (x2 / 32).toNatClampNeg) &&& (x3 ^^^ (-1))) fun x4 =>
    if a1 = 0 then
      gd (ib (x2 / 32) 625) <|
      nm (sI σ1 4 0 ((x2 / 32).toNatClampNeg) x4) fun σ7 =>
      nm (sI σ7 3 0 2 ((σ7.1 3 0 2) + 1)) fun σ8 =>
      some σ8
    else
    gd (ib (x2 / 32) 625) <|
    nm (sI σ1 4 0 ((x2 / 32).toNatClampNeg) (x4 ||| x3)) fun σ5 =>
    nm (sI σ5 3 0 2 ((σ5.1 3 0 2) + 1)) fun σ6 =>
    some σ6
  else
  nm (sI σ 3 0 4 1) fun σ9 =>
  some σ9
noncomputable def lb_Stream_appendNumber_4 (a1 : Int32) (σ : St) (v3 : Int32) : Option ((St × Int32) ⊕ ((St × Int32))) :=
  if v3 < 0 then
    some (.inr (σ, v3))
  else
  b1 (f_Stream_append σ (((a1.toUInt32 >>> (v3.toUInt32 &&& Int32.toUInt32 31)).toInt32) &&& 1)) fun σ2 =>
  nm (v3 + (-1)) fun x3 =>
  some (.inl (σ2, x3))
noncomputable def f_Stream_appendNumber (σ : St) (a1 : Int32) (a2 : Int32) : Option (St) :=
  nm (a2 - 1) fun x1 =>
  b2 (lpE (fun q => lb_Stream_appendNumber_4 a1 q.1 q.2) (σ, x1)) fun σ4 x5 =>
  some σ4
noncomputable def f_Stream_removeFirst (σ : St) : Option (St × Int32) :=
  if (σ.1 3 0 2) = 0 then
    some (σ, (-104))
  else
  b2 (f_Stream_bitOf σ (σ.1 3 0 1)) fun σ1 x2 =>
  b2 (f_Stream_placeOf σ1 1) fun σ3 x4 =>
  nm (sI σ3 3 0 1 x4) fun σ5 =>
  nm (sI σ5 3 0 2 ((σ5.1 3 0 2) - 1)) fun σ6 =>
  some (σ6, x2)
noncomputable def lb_Stream_removeNumber_15 (a1 : Int32) (σ : St) (v2 : Int32) (v3 : Int32) : Option ((St × Int32 × Int32) ⊕ ((St × Int32 × Int32))) :=
  if a1 ≤ v3 then
    some (.inr (σ, v2, v3))
  else
  b2 (f_Stream_removeFirst σ) fun σ1 x2 =>
  nm ((v2 <<< (1 &&& 31)) ||| x2) fun x3 =>
  nm (v3 + 1) fun x4 =>
  some (.inl (σ1, x3, x4))
noncomputable def f_Stream_removeNumber (σ : St) (a1 : Int32) : Option (St × Int32) :=
  if a1 ≤ (σ.1 3 0 2) then
    b3 (lpE (fun q => lb_Stream_removeNumber_15 a1 q.1 q.2.1 q.2.2) (σ, 0, 0)) fun σ5 x6 x7 =>
    some (σ5, x6)
  else
  some (σ, (-104))
noncomputable def f_Stream_removeLast (σ : St) : Option (St × Int32) :=
  if (σ.1 3 0 2) = 0 then
    some (σ, (-104))
  else
  b2 (f_Stream_at σ ((σ.1 3 0 2) - 1)) fun σ1 x2 =>
  nm (sI σ1 3 0 2 ((σ1.1 3 0 2) - 1)) fun σ3 =>
  some (σ3, x2)
noncomputable def f_Stream_begin (σ : St) : Option (St) :=
  nm (sI σ 3 0 3 (σ.1 3 0 2)) fun σ1 =>
  nm (sI σ1 3 0 4 0) fun σ2 =>
  some σ2
noncomputable def f_Stream_settle (σ : St) : Option (St × Int32) :=
  if (σ.1 3 0 4) = 0 then
    some (σ, (σ.1 3 0 2) - (σ.1 3 0 3))
  else
  nm (sI σ 3 0 2 (σ.1 3 0 3)) fun σ1 =>
  some (σ1, (-106))
noncomputable def f_Stream_giveBack (σ : St) (a1 : Int32) : Option (St) :=
  b2 (f_Stream_placeOf σ (20000 - a1)) fun σ1 x2 =>
  nm (sI σ1 3 0 1 x2) fun σ3 =>
  nm (sI σ3 3 0 2 ((σ3.1 3 0 2) + a1)) fun σ4 =>
  some σ4
end
section
set_option maxHeartbeats 4000000 in
set_option maxRecDepth 100000 in
theorem c_Stream_placeOf (l : Launch) (D : va_G) (aC : Nat → ClassId) (A : Nat → Prop) (ad : Nat → Nat → Nat) (n : Nat) (σ : St) (a1 : Int32) (o : St × Int32) (h : f_Stream_placeOf σ a1 = some o) : Met l y_Stream_placeOf w_Stream_placeOf rm_Stream_placeOf (va_Pc [.ref (ad 3 0), .int a1] (Pre D aC A ad n σ)) (va_Qi (fun r (_ : Unit) => r = o.2) (fun _ t => Hold D aC A ad n o.1 t.heap) A) 0 0 A := by
  refine Met.ofW (cc := prog_9_method_2_code) (maxL := 2) (ret := (some .int)) (by decide) rfl ?_
  intro p e s m args below meth c s₁ B hml hv
  obtain ⟨hargs, hH, hK, hZ⟩ := hv
  have hx := B.exec
  have hb := B.bytes
  have hr := B.returns
  have hts := atoms_spec (ws := w_Stream_placeOf) B.pre
  have hg : ∀ w ∈ gW, w.before args s = true := fun w h => hts w (List.mem_cons_of_mem _ h)
  have hown : s.vm.findClass "PrefixCodes$Stream" = some m.cls := findClass_of_methodNamed B.named
  have hlocks := B.notSynchronized
  have hS : va_S A s.heap s.heap [] := va_S.rf
  have hl := lv_entry ([.ref (ad 3 0), .int a1]) (n := 2) (Nat.le_of_ble_eq_true rfl)
  rw [show entryFrame m args 2 = entryFrame m (([.ref (ad 3 0), .int a1] : List Value).toArray) 2 by rw [hargs], lg_entry_eq]
  generalize (lg_sl ([.ref (ad 3 0), .int a1]) ++ List.replicate (2 - (lg_sl ([.ref (ad 3 0), .int a1])).length) Slot.unset).toArray = ls at hl ⊢
  have hl : lv_has ls 2 [(0, .ref (ad 3 0)), (1, .int a1)] := hl
  generalize hQ0 : MQ below (va_Qi (fun r (_ : Unit) => r = o.2) (fun _ t => Hold D aC A ad n o.1 t.heap) A) args s 0 0 A = Q0
  unfold f_Stream_placeOf at h
  refine lv_aload_n hx hb d_Stream_placeOf_0 rfl (lv_at hl 0 rfl) ?_
  refine st_get hx hb hg hown hK hH (f := 3) (i := 0) hd_3 rfl rfl u_Stream 1 (by decide) (hg _ wd_115) (v := .int (σ.1 3 0 1)) rfl d_Stream_placeOf_1 ?_
  refine lv_iload_n hx hb d_Stream_placeOf_4 rfl (lv_at hl 1 rfl) ?_
  refine lv_iadd hx hb d_Stream_placeOf_5 ?_
  refine lv_sipush (v := 20000) hx hb d_Stream_placeOf_6 (by decide) ?_
  refine lv_irem hx hb d_Stream_placeOf_9 (by decide) ?_
  cases h
  rw [← hQ0]
  exact W.iret hx hb hr (fun t ht hW => ⟨⟨_, (), rfl, rfl, by dsimp only; rw [ht]; exact hH⟩, hS.F ht⟩) hS.2.2 d_Stream_placeOf_10
set_option maxHeartbeats 4000000 in
set_option maxRecDepth 100000 in
theorem c_Stream_bitOf (l : Launch) (D : va_G) (aC : Nat → ClassId) (A : Nat → Prop) (ad : Nat → Nat → Nat) (n : Nat) (σ : St) (a1 : Int32) (o : St × Int32) (h : f_Stream_bitOf σ a1 = some o) : Met l y_Stream_bitOf w_Stream_bitOf rm_Stream_bitOf (va_Pc [.ref (ad 3 0), .int a1] (Pre D aC A ad n σ)) (va_Qi (fun r (_ : Unit) => r = o.2) (fun _ t => Hold D aC A ad n o.1 t.heap) A) 0 0 A := by
  refine Met.ofW (cc := prog_9_method_3_code) (maxL := 2) (ret := (some .int)) (by decide) rfl ?_
  intro p e s m args below meth c s₁ B hml hv
  obtain ⟨hargs, hH, hK, hZ⟩ := hv
  have hx := B.exec
  have hb := B.bytes
  have hr := B.returns
  have hts := atoms_spec (ws := w_Stream_bitOf) B.pre
  have hg : ∀ w ∈ gW, w.before args s = true := fun w h => hts w (List.mem_cons_of_mem _ h)
  have hown : s.vm.findClass "PrefixCodes$Stream" = some m.cls := findClass_of_methodNamed B.named
  have hlocks := B.notSynchronized
  have hS : va_S A s.heap s.heap [] := va_S.rf
  have hl := lv_entry ([.ref (ad 3 0), .int a1]) (n := 2) (Nat.le_of_ble_eq_true rfl)
  rw [show entryFrame m args 2 = entryFrame m (([.ref (ad 3 0), .int a1] : List Value).toArray) 2 by rw [hargs], lg_entry_eq]
  generalize (lg_sl ([.ref (ad 3 0), .int a1]) ++ List.replicate (2 - (lg_sl ([.ref (ad 3 0), .int a1])).length) Slot.unset).toArray = ls at hl ⊢
  have hl : lv_has ls 2 [(0, .ref (ad 3 0)), (1, .int a1)] := hl
  generalize hQ0 : MQ below (va_Qi (fun r (_ : Unit) => r = o.2) (fun _ t => Hold D aC A ad n o.1 t.heap) A) args s 0 0 A = Q0
  unfold f_Stream_bitOf at h
  refine lv_aload_n hx hb d_Stream_bitOf_0 rfl (lv_at hl 0 rfl) ?_
  refine st_get hx hb hg hown hK hH (f := 3) (i := 0) hd_3 rfl rfl u_Stream 0 (by decide) (hg _ wd_116) (v := .ref (ad 4 0)) rfl d_Stream_bitOf_1 ?_
  refine lv_iload_n hx hb d_Stream_bitOf_4 rfl (lv_at hl 1 rfl) ?_
  refine lv_bipush (v := 32) hx hb d_Stream_bitOf_5 (by decide) ?_
  refine lv_idiv hx hb d_Stream_bitOf_7 (by decide) ?_
  obtain ⟨g8, h⟩ := gd_some h
  refine st_iald hx hb hK hH (f := 4) (i := 0) hd_4 rfl g8 d_Stream_bitOf_8 ?_
  refine lv_iload_n hx hb d_Stream_bitOf_9 rfl (lv_at hl 1 rfl) ?_
  refine lv_bipush (v := 32) hx hb d_Stream_bitOf_10 (by decide) ?_
  refine lv_irem hx hb d_Stream_bitOf_12 (by decide) ?_
  refine lv_iushr hx hb d_Stream_bitOf_13 rfl ?_
  refine lv_iconst (v := 1) hx hb d_Stream_bitOf_14 (by decide) ?_
  refine lv_iand hx hb d_Stream_bitOf_15 ?_
  cases h
  rw [← hQ0]
  exact W.iret hx hb hr (fun t ht hW => ⟨⟨_, (), rfl, rfl, by dsimp only; rw [ht]; exact hH⟩, hS.F ht⟩) hS.2.2 d_Stream_bitOf_16
set_option maxHeartbeats 4000000 in
set_option maxRecDepth 100000 in
theorem c_Stream_at (l : Launch) (D : va_G) (aC : Nat → ClassId) (A : Nat → Prop) (ad : Nat → Nat → Nat) (n : Nat) (σ : St) (a1 : Int32) (o : St × Int32) (h : f_Stream_at σ a1 = some o) : Met l y_Stream_at w_Stream_at rm_Stream_at (va_Pc [.ref (ad 3 0), .int a1] (Pre D aC A ad n σ)) (va_Qi (fun r (_ : Unit) => r = o.2) (fun _ t => Hold D aC A ad n o.1 t.heap) A) 0 0 A := by
  refine Met.ofW (cc := prog_9_method_4_code) (maxL := 2) (ret := (some .int)) (by decide) rfl ?_
  intro p e s m args below meth c s₁ B hml hv
  obtain ⟨hargs, hH, hK, hZ⟩ := hv
  have hx := B.exec
  have hb := B.bytes
  have hr := B.returns
  have hts := atoms_spec (ws := w_Stream_at) B.pre
  have hg : ∀ w ∈ gW, w.before args s = true := fun w h => hts w (List.mem_cons_of_mem _ h)
  have hown : s.vm.findClass "PrefixCodes$Stream" = some m.cls := findClass_of_methodNamed B.named
  have hlocks := B.notSynchronized
  have hS : va_S A s.heap s.heap [] := va_S.rf
  have hl := lv_entry ([.ref (ad 3 0), .int a1]) (n := 2) (Nat.le_of_ble_eq_true rfl)
  rw [show entryFrame m args 2 = entryFrame m (([.ref (ad 3 0), .int a1] : List Value).toArray) 2 by rw [hargs], lg_entry_eq]
  generalize (lg_sl ([.ref (ad 3 0), .int a1]) ++ List.replicate (2 - (lg_sl ([.ref (ad 3 0), .int a1])).length) Slot.unset).toArray = ls at hl ⊢
  have hl : lv_has ls 2 [(0, .ref (ad 3 0)), (1, .int a1)] := hl
  generalize hQ0 : MQ below (va_Qi (fun r (_ : Unit) => r = o.2) (fun _ t => Hold D aC A ad n o.1 t.heap) A) args s 0 0 A = Q0
  unfold f_Stream_at at h
  refine lv_aload_n hx hb d_Stream_at_0 rfl (lv_at hl 0 rfl) ?_
  refine lv_aload_n hx hb d_Stream_at_1 rfl (lv_at hl 0 rfl) ?_
  refine lv_iload_n hx hb d_Stream_at_2 rfl (lv_at hl 1 rfl) ?_
  obtain ⟨qc, hc3, h⟩ := b2_some h
  obtain ⟨σ1, x2⟩ := qc
  have h := b2_at h
  refine st_Vi (As := [.int a1]) (rest := [.ref (ad 3 0)]) ⟨hx, hb, hml, hown, hg⟩ (c_Stream_placeOf l D aC A ad n _ a1 _ hc3) (cwG hg wd_117 wd_118 wd_120 wd_121 wd_119 yd_Stream_placeOf ⟨Nat.le_of_ble_eq_true rfl, Nat.le_of_ble_eq_true rfl⟩) hK hH hS hZ hd_3 rfl rfl rfl hl.1 rfl (Nat.le_of_ble_eq_true rfl) d_Stream_at_3 ⟨Nat.zero_le _, Nat.zero_le _⟩ (fun H locs hH hS => ?_)
  obtain ⟨qc, hc6, h⟩ := b2_some h
  obtain ⟨σ3, x4⟩ := qc
  have h := b2_at h
  refine st_Vi (As := [.int x2]) (rest := []) ⟨hx, hb, hml, hown, hg⟩ (c_Stream_bitOf l D aC A ad n _ x2 _ hc6) (cwG hg wd_122 wd_123 wd_124 wd_125 wd_119 yd_Stream_bitOf ⟨Nat.le_of_ble_eq_true rfl, Nat.le_of_ble_eq_true rfl⟩) hK hH hS hZ hd_3 rfl rfl rfl hl.1 rfl (Nat.le_of_ble_eq_true rfl) d_Stream_at_6 ⟨Nat.zero_le _, Nat.zero_le _⟩ (fun H locs hH hS => ?_)
  cases h
  rw [← hQ0]
  exact W.iret hx hb hr (fun t ht hW => ⟨⟨_, (), rfl, rfl, by dsimp only; rw [ht]; exact hH⟩, hS.F ht⟩) hS.2.2 d_Stream_at_9
set_option maxHeartbeats 4000000 in
set_option maxRecDepth 100000 in
theorem c_Stream_append (l : Launch) (D : va_G) (aC : Nat → ClassId) (A : Nat → Prop) (ad : Nat → Nat → Nat) (n : Nat) (σ : St) (a1 : Int32) (o : St) (h : f_Stream_append σ a1 = some o) : Met l y_Stream_append w_Stream_append rm_Stream_append (va_Pc [.ref (ad 3 0), .int a1] (Pre D aC A ad n σ)) (va_Qv (fun (_ : Unit) => True) (fun _ t => Hold D aC A ad n o t.heap) A) 0 0 A := by
  refine Met.ofW (cc := prog_9_method_7_code) (maxL := 5) (ret := none) (by decide) rfl ?_
  intro p e s m args below meth c s₁ B hml hv
  obtain ⟨hargs, hH, hK, hZ⟩ := hv
  have hx := B.exec
  have hb := B.bytes
  have hr := B.returns
  have hts := atoms_spec (ws := w_Stream_append) B.pre
  have hg : ∀ w ∈ gW, w.before args s = true := fun w h => hts w (List.mem_cons_of_mem _ h)
  have hown : s.vm.findClass "PrefixCodes$Stream" = some m.cls := findClass_of_methodNamed B.named
  have hlocks := B.notSynchronized
  have hS : va_S A s.heap s.heap [] := va_S.rf
  have hl := lv_entry ([.ref (ad 3 0), .int a1]) (n := 5) (Nat.le_of_ble_eq_true rfl)
  rw [show entryFrame m args 5 = entryFrame m (([.ref (ad 3 0), .int a1] : List Value).toArray) 5 by rw [hargs], lg_entry_eq]
  generalize (lg_sl ([.ref (ad 3 0), .int a1]) ++ List.replicate (5 - (lg_sl ([.ref (ad 3 0), .int a1])).length) Slot.unset).toArray = ls at hl ⊢
  have hl : lv_has ls 5 [(0, .ref (ad 3 0)), (1, .int a1)] := hl
  generalize hQ0 : MQ below (va_Qv (fun (_ : Unit) => True) (fun _ t => Hold D aC A ad n o t.heap) A) args s 0 0 A = Q0
  unfold f_Stream_append at h
  refine lv_aload_n hx hb d_Stream_append_0 rfl (lv_at hl 0 rfl) ?_
  refine st_get hx hb hg hown hK hH (f := 3) (i := 0) hd_3 rfl rfl u_Stream 2 (by decide) (hg _ wd_126) (v := .int (σ.1 3 0 2)) rfl d_Stream_append_1 ?_
  refine lv_sipush (v := 20000) hx hb d_Stream_append_4 (by decide) ?_
  refine lv_icmp_lt (tgt := 16) hx hb d_Stream_append_7 (by decide) (fun c7 => ?_) (fun c7 => ?_)
  · have h := it h c7
    refine lv_aload_n hx hb d_Stream_append_16 rfl (lv_at hl 0 rfl) ?_
    refine lv_aload_n hx hb d_Stream_append_17 rfl (lv_at hl 0 rfl) ?_
    refine st_get hx hb hg hown hK hH (f := 3) (i := 0) hd_3 rfl rfl u_Stream 2 (by decide) (hg _ wd_126) (v := .int (σ.1 3 0 2)) rfl d_Stream_append_18 ?_
    obtain ⟨qc, hc21, h⟩ := b2_some h
    obtain ⟨σ1, x2⟩ := qc
    have h := b2_at h
    refine st_Vi (As := [.int (σ.1 3 0 2)]) (rest := []) ⟨hx, hb, hml, hown, hg⟩ (c_Stream_placeOf l D aC A ad n _ (σ.1 3 0 2) _ hc21) (cwG hg wd_117 wd_118 wd_120 wd_121 wd_119 yd_Stream_placeOf ⟨Nat.le_of_ble_eq_true rfl, Nat.le_of_ble_eq_true rfl⟩) hK hH hS hZ hd_3 rfl rfl rfl hl.1 rfl (Nat.le_of_ble_eq_true rfl) d_Stream_append_21 ⟨Nat.zero_le _, Nat.zero_le _⟩ (fun H locs hH hS => ?_)
    refine lv_istore_n (lv' := [(2, .int x2), (0, .ref (ad 3 0)), (1, .int a1)]) hx hb d_Stream_append_24 rfl hl (by decide) rfl (fun ls hl => ?_)
    refine lv_iconst (v := 1) hx hb d_Stream_append_25 (by decide) ?_
    refine lv_iload_n hx hb d_Stream_append_26 rfl (lv_at hl 0 rfl) ?_
    refine lv_bipush (v := 32) hx hb d_Stream_append_27 (by decide) ?_
    refine lv_irem hx hb d_Stream_append_29 (by decide) ?_
    refine lv_ishl hx hb d_Stream_append_30 ?_
    refine lv_topi (fun x3 ex3 => ?_)
    have h := nm_at ex3 h
    refine lv_istore_n (lv' := [(3, .int x3), (2, .int x2), (0, .ref (ad 3 0)), (1, .int a1)]) hx hb d_Stream_append_31 rfl hl (by decide) rfl (fun ls hl => ?_)
    refine lv_aload_n hx hb d_Stream_append_32 rfl (lv_at hl 2 rfl) ?_
    refine st_get hx hb hg hown hK hH (f := 3) (i := 0) hd_3 rfl rfl u_Stream 0 (by decide) (hg _ wd_116) (v := .ref (ad 4 0)) rfl d_Stream_append_33 ?_
    refine lv_iload_n hx hb d_Stream_append_36 rfl (lv_at hl 1 rfl) ?_
    refine lv_bipush (v := 32) hx hb d_Stream_append_37 (by decide) ?_
    refine lv_idiv hx hb d_Stream_append_39 (by decide) ?_
    obtain ⟨g40, h⟩ := gd_some h
    refine st_iald hx hb hK hH (f := 4) (i := 0) hd_4 rfl g40 d_Stream_append_40 ?_
    refine lv_iload_n hx hb d_Stream_append_41 rfl (lv_at hl 0 rfl) ?_
    refine lv_iconst (v := (-1)) hx hb d_Stream_append_42 (by decide) ?_
    refine lv_ixor hx hb d_Stream_append_43 ?_
    refine lv_iand hx hb d_Stream_append_44 ?_
    refine lv_topi (fun x4 ex4 => ?_)
    have h := nm_at ex4 h
    refine lv_istore (lv' := [(4, .int x4), (3, .int x3), (2, .int x2), (0, .ref (ad 3 0)), (1, .int a1)]) hx hb d_Stream_append_45 hl (by decide) rfl (fun ls hl => ?_)
    refine lv_aload_n hx hb d_Stream_append_47 rfl (lv_at hl 3 rfl) ?_
    refine st_get hx hb hg hown hK hH (f := 3) (i := 0) hd_3 rfl rfl u_Stream 0 (by decide) (hg _ wd_116) (v := .ref (ad 4 0)) rfl d_Stream_append_48 ?_
    refine lv_iload_n hx hb d_Stream_append_51 rfl (lv_at hl 2 rfl) ?_
    refine lv_bipush (v := 32) hx hb d_Stream_append_52 (by decide) ?_
    refine lv_idiv hx hb d_Stream_append_54 (by decide) ?_
    refine lv_iload_n hx hb d_Stream_append_55 rfl (lv_at hl 4 rfl) ?_
    refine lv_if_ne (tgt := 64) hx hb d_Stream_append_56 (by decide) (fun c56 => ?_) (fun c56 => ?_)
    · have h := ie h c56
      refine lv_iload hx hb d_Stream_append_64 (lv_at hl 0 rfl) ?_
      refine lv_iload_n hx hb d_Stream_append_66 rfl (lv_at hl 1 rfl) ?_
      refine lv_ior hx hb d_Stream_append_67 ?_
      obtain ⟨g68, h⟩ := gd_some h
      refine st_iast hx hb hK hH hS (f := 4) (i := 0) hd_4 rfl g68 d_Stream_append_68 (fun σ5 H locs eσ5 hH hS => ?_)
      have h := nm_at eσ5 h
      refine lv_aload_n hx hb d_Stream_append_69 rfl (lv_at hl 3 rfl) ?_
      refine lv_dup hx hb d_Stream_append_70 rfl ?_
      refine st_get hx hb hg hown hK hH (f := 3) (i := 0) hd_3 rfl rfl u_Stream 2 (by decide) (hg _ wd_126) (v := .int (σ5.1 3 0 2)) rfl d_Stream_append_71 ?_
      refine lv_iconst (v := 1) hx hb d_Stream_append_74 (by decide) ?_
      refine lv_iadd hx hb d_Stream_append_75 ?_
      refine st_put hx hb hg hown hK hH hS (f := 3) (i := 0) hd_3 rfl rfl u_Stream t_Stream t_Stream_ok n_Stream 2 (by decide) (hg _ wd_126) rfl rfl rfl d_Stream_append_76 (fun σ6 H locs eσ6 hH hS => ?_)
      have h := nm_at eσ6 h
      cases h
      rw [← hQ0]
      exact W.vret hx hb hr (fun t ht hW => ⟨⟨(), rfl, trivial, by dsimp only; rw [ht]; exact hH⟩, hS.F ht⟩) hS.2.2 d_Stream_append_79
    · have h := it h c56
      refine lv_iload hx hb d_Stream_append_59 (lv_at hl 0 rfl) ?_
      refine lv_goto (tgt := 68) hx hb d_Stream_append_61 (by decide) ?_
      obtain ⟨g68, h⟩ := gd_some h
      refine st_iast hx hb hK hH hS (f := 4) (i := 0) hd_4 rfl g68 d_Stream_append_68 (fun σ7 H locs eσ7 hH hS => ?_)
      have h := nm_at eσ7 h
      refine lv_aload_n hx hb d_Stream_append_69 rfl (lv_at hl 3 rfl) ?_
      refine lv_dup hx hb d_Stream_append_70 rfl ?_
      refine st_get hx hb hg hown hK hH (f := 3) (i := 0) hd_3 rfl rfl u_Stream 2 (by decide) (hg _ wd_126) (v := .int (σ7.1 3 0 2)) rfl d_Stream_append_71 ?_
      refine lv_iconst (v := 1) hx hb d_Stream_append_74 (by decide) ?_
      refine lv_iadd hx hb d_Stream_append_75 ?_
      refine st_put hx hb hg hown hK hH hS (f := 3) (i := 0) hd_3 rfl rfl u_Stream t_Stream t_Stream_ok n_Stream 2 (by decide) (hg _ wd_126) rfl rfl rfl d_Stream_append_76 (fun σ8 H locs eσ8 hH hS => ?_)
      have h := nm_at eσ8 h
      cases h
      rw [← hQ0]
      exact W.vret hx hb hr (fun t ht hW => ⟨⟨(), rfl, trivial, by dsimp only; rw [ht]; exact hH⟩, hS.F ht⟩) hS.2.2 d_Stream_append_79
  · have h := ie h c7
    refine lv_aload_n hx hb d_Stream_append_10 rfl (lv_at hl 0 rfl) ?_
    refine lv_iconst (v := 1) hx hb d_Stream_append_11 (by decide) ?_
    refine st_putV (ty := .boolean) hx hb hg hown hK hH hS (f := 3) (i := 0) hd_3 rfl rfl u_Stream t_Stream t_Stream_ok n_Stream 4 (by decide) (hg _ wd_127) rfl rfl (t_Stream_ok 4 (by decide)) rfl rfl d_Stream_append_12 (fun σ9 H locs eσ9 hH hS => ?_)
    have h := nm_at eσ9 h
    cases h
    rw [← hQ0]
    exact W.vret hx hb hr (fun t ht hW => ⟨⟨(), rfl, trivial, by dsimp only; rw [ht]; exact hH⟩, hS.F ht⟩) hS.2.2 d_Stream_append_15
set_option maxHeartbeats 4000000 in
set_option maxRecDepth 100000 in
theorem c_Stream_appendNumber (l : Launch) (D : va_G) (aC : Nat → ClassId) (A : Nat → Prop) (ad : Nat → Nat → Nat) (n : Nat) (σ : St) (a1 : Int32) (a2 : Int32) (o : St) (h : f_Stream_appendNumber σ a1 a2 = some o) : Met l y_Stream_appendNumber w_Stream_appendNumber rm_Stream_appendNumber (va_Pc [.ref (ad 3 0), .int a1, .int a2] (Pre D aC A ad n σ)) (va_Qv (fun (_ : Unit) => True) (fun _ t => Hold D aC A ad n o t.heap) A) 0 0 A := by
  refine Met.ofW (cc := prog_9_method_8_code) (maxL := 4) (ret := none) (by decide) rfl ?_
  intro p e s m args below meth c s₁ B hml hv
  obtain ⟨hargs, hH, hK, hZ⟩ := hv
  have hx := B.exec
  have hb := B.bytes
  have hr := B.returns
  have hts := atoms_spec (ws := w_Stream_appendNumber) B.pre
  have hg : ∀ w ∈ gW, w.before args s = true := fun w h => hts w (List.mem_cons_of_mem _ h)
  have hown : s.vm.findClass "PrefixCodes$Stream" = some m.cls := findClass_of_methodNamed B.named
  have hlocks := B.notSynchronized
  have hS : va_S A s.heap s.heap [] := va_S.rf
  have hl := lv_entry ([.ref (ad 3 0), .int a1, .int a2]) (n := 4) (Nat.le_of_ble_eq_true rfl)
  rw [show entryFrame m args 4 = entryFrame m (([.ref (ad 3 0), .int a1, .int a2] : List Value).toArray) 4 by rw [hargs], lg_entry_eq]
  generalize (lg_sl ([.ref (ad 3 0), .int a1, .int a2]) ++ List.replicate (4 - (lg_sl ([.ref (ad 3 0), .int a1, .int a2])).length) Slot.unset).toArray = ls at hl ⊢
  have hl : lv_has ls 4 [(0, .ref (ad 3 0)), (1, .int a1), (2, .int a2)] := hl
  generalize hQ0 : MQ below (va_Qv (fun (_ : Unit) => True) (fun _ t => Hold D aC A ad n o t.heap) A) args s 0 0 A = Q0
  unfold f_Stream_appendNumber at h
  refine lv_iload_n hx hb d_Stream_appendNumber_0 rfl (lv_at hl 2 rfl) ?_
  refine lv_iconst (v := 1) hx hb d_Stream_appendNumber_1 (by decide) ?_
  refine lv_isub hx hb d_Stream_appendNumber_2 ?_
  refine lv_topi (fun x1 ex1 => ?_)
  have h := nm_at ex1 h
  refine lv_istore_n (lv' := [(3, .int x1), (0, .ref (ad 3 0)), (1, .int a1), (2, .int a2)]) hx hb d_Stream_appendNumber_3 rfl hl (by decide) rfl (fun ls hl => ?_)
  obtain ⟨q1, hq1, h⟩ := b2_some h
  have K1 : ∀ (σ4 : St) (x5 : Int32) (H : Heap) (locs : List Loc) (ls : Array Slot), q1 = (σ4, x5) → Hold D aC A ad n σ4 H → va_S A s.heap H locs → lv_has ls 4 [(0, .ref (ad 3 0)), (1, .int a1), (3, .int x5)] → W p l e (headSpec w_Stream_appendNumber rm_Stream_appendNumber).room s m args below meth c H locs 0 0 Q0 (F0 m 23 ls []) := by
    intro σ4 x5 H locs ls eq1 hH hS hl
    subst eq1
    have h := b2_at h
    cases h
    rw [← hQ0]
    exact W.vret hx hb hr (fun t ht hW => ⟨⟨(), rfl, trivial, by dsimp only; rw [ht]; exact hH⟩, hS.F ht⟩) hS.2.2 d_Stream_appendNumber_23
  have loop1 : ∀ (k : Nat) (σ : St) (v3 : Int32) (H : Heap) (locs : List Loc) (ls : Array Slot), Hold D aC A ad n σ H → va_S A s.heap H locs → lv_has ls 4 [(0, .ref (ad 3 0)), (1, .int a1), (3, .int v3)] → lp (fun q => lb_Stream_appendNumber_4 a1 q.1 q.2) k (σ, v3) = some q1 → W p l e (headSpec w_Stream_appendNumber rm_Stream_appendNumber).room s m args below meth c H locs 0 0 Q0 (F0 m 4 ls []) := by
    intro k
    induction k with
    | zero => intro σ v3 H locs ls hH hS hl h; exact absurd h (lp_zero _ _ _)
    | succ k ih1 =>
      intro σ v3 H locs ls hH hS hl h
      obtain ⟨z1, h1, hk1⟩ := lp_succ h
      have h1 : lb_Stream_appendNumber_4 a1 σ v3 = some z1 := h1
      unfold lb_Stream_appendNumber_4 at h1
      refine lv_iload_n hx hb d_Stream_appendNumber_4 rfl (lv_at hl 2 rfl) ?_
      refine lv_if_lt (tgt := 23) hx hb d_Stream_appendNumber_5 (by decide) (fun c5 => ?_) (fun c5 => ?_)
      · have h1 := it h1 c5
        cases h1
        exact K1 σ v3 _ _ ls (Option.some.inj hk1).symm hH hS (lv_sub hl [0, 1, 2] rfl)
      · have h1 := ie h1 c5
        refine lv_aload_n hx hb d_Stream_appendNumber_8 rfl (lv_at hl 0 rfl) ?_
        refine lv_iload_n hx hb d_Stream_appendNumber_9 rfl (lv_at hl 1 rfl) ?_
        refine lv_iload_n hx hb d_Stream_appendNumber_10 rfl (lv_at hl 2 rfl) ?_
        refine lv_iushr hx hb d_Stream_appendNumber_11 rfl ?_
        refine lv_iconst (v := 1) hx hb d_Stream_appendNumber_12 (by decide) ?_
        refine lv_iand hx hb d_Stream_appendNumber_13 ?_
        obtain ⟨qc, hc14, h1⟩ := b1_some h1
        obtain ⟨σ2, rfl⟩ : ∃ z, z = qc := ⟨_, rfl⟩
        have h1 := b1_at h1
        refine st_Vv (As := [.int (((a1.toUInt32 >>> (v3.toUInt32 &&& Int32.toUInt32 31)).toInt32) &&& 1)]) (rest := []) ⟨hx, hb, hml, hown, hg⟩ (c_Stream_append l D aC A ad n _ (((a1.toUInt32 >>> (v3.toUInt32 &&& Int32.toUInt32 31)).toInt32) &&& 1) _ hc14) (cwG hg wd_128 wd_129 wd_130 wd_131 wd_119 yd_Stream_append ⟨Nat.le_of_ble_eq_true rfl, Nat.le_of_ble_eq_true rfl⟩) hK hH hS hZ hd_3 rfl rfl rfl hl.1 rfl (Nat.le_of_ble_eq_true rfl) d_Stream_appendNumber_14 ⟨Nat.zero_le _, Nat.zero_le _⟩ (fun H locs hH hS => ?_)
        obtain ⟨x3, ex3⟩ : ∃ y : Int32, y = v3 + (-1) := ⟨_, rfl⟩
        have h1 := nm_at ex3 h1
        refine lv_iinc (v := x3) (lv' := [(3, .int x3), (0, .ref (ad 3 0)), (1, .int a1)]) hx hb d_Stream_appendNumber_17 hl (k := 2) rfl (by rw [ex3]; rfl) (by decide) rfl (fun ls hl => ?_)
        refine lv_goto (tgt := 4) hx hb d_Stream_appendNumber_20 (by decide) ?_
        cases h1
        exact ih1 σ2 x3 _ _ ls hH hS (lv_sub hl [1, 2, 0] rfl) hk1
  obtain ⟨k1, hq1⟩ := lpE_some hq1
  exact loop1 k1 σ x1 _ _ ls hH hS (lv_sub hl [1, 2, 0] rfl) hq1
set_option maxHeartbeats 4000000 in
set_option maxRecDepth 100000 in
theorem c_Stream_removeFirst (l : Launch) (D : va_G) (aC : Nat → ClassId) (A : Nat → Prop) (ad : Nat → Nat → Nat) (n : Nat) (σ : St) (o : St × Int32) (h : f_Stream_removeFirst σ  = some o) : Met l y_Stream_removeFirst w_Stream_removeFirst rm_Stream_removeFirst (va_Pc [.ref (ad 3 0)] (Pre D aC A ad n σ)) (va_Qi (fun r (_ : Unit) => r = o.2) (fun _ t => Hold D aC A ad n o.1 t.heap) A) 0 0 A := by
  refine Met.ofW (cc := prog_9_method_9_code) (maxL := 2) (ret := (some .int)) (by decide) rfl ?_
  intro p e s m args below meth c s₁ B hml hv
  obtain ⟨hargs, hH, hK, hZ⟩ := hv
  have hx := B.exec
  have hb := B.bytes
  have hr := B.returns
  have hts := atoms_spec (ws := w_Stream_removeFirst) B.pre
  have hg : ∀ w ∈ gW, w.before args s = true := fun w h => hts w (List.mem_cons_of_mem _ h)
  have hown : s.vm.findClass "PrefixCodes$Stream" = some m.cls := findClass_of_methodNamed B.named
  have hlocks := B.notSynchronized
  have hS : va_S A s.heap s.heap [] := va_S.rf
  have hl := lv_entry ([.ref (ad 3 0)]) (n := 2) (Nat.le_of_ble_eq_true rfl)
  rw [show entryFrame m args 2 = entryFrame m (([.ref (ad 3 0)] : List Value).toArray) 2 by rw [hargs], lg_entry_eq]
  generalize (lg_sl ([.ref (ad 3 0)]) ++ List.replicate (2 - (lg_sl ([.ref (ad 3 0)])).length) Slot.unset).toArray = ls at hl ⊢
  have hl : lv_has ls 2 [(0, .ref (ad 3 0))] := hl
  generalize hQ0 : MQ below (va_Qi (fun r (_ : Unit) => r = o.2) (fun _ t => Hold D aC A ad n o.1 t.heap) A) args s 0 0 A = Q0
  unfold f_Stream_removeFirst at h
  refine lv_aload_n hx hb d_Stream_removeFirst_0 rfl (lv_at hl 0 rfl) ?_
  refine st_get hx hb hg hown hK hH (f := 3) (i := 0) hd_3 rfl rfl u_Stream 2 (by decide) (hg _ wd_126) (v := .int (σ.1 3 0 2)) rfl d_Stream_removeFirst_1 ?_
  refine lv_if_ne (tgt := 10) hx hb d_Stream_removeFirst_4 (by decide) (fun c4 => ?_) (fun c4 => ?_)
  · have h := ie h c4
    refine lv_aload_n hx hb d_Stream_removeFirst_10 rfl (lv_at hl 0 rfl) ?_
    refine lv_aload_n hx hb d_Stream_removeFirst_11 rfl (lv_at hl 0 rfl) ?_
    refine st_get hx hb hg hown hK hH (f := 3) (i := 0) hd_3 rfl rfl u_Stream 1 (by decide) (hg _ wd_115) (v := .int (σ.1 3 0 1)) rfl d_Stream_removeFirst_12 ?_
    obtain ⟨qc, hc15, h⟩ := b2_some h
    obtain ⟨σ1, x2⟩ := qc
    have h := b2_at h
    refine st_Vi (As := [.int (σ.1 3 0 1)]) (rest := []) ⟨hx, hb, hml, hown, hg⟩ (c_Stream_bitOf l D aC A ad n _ (σ.1 3 0 1) _ hc15) (cwG hg wd_122 wd_123 wd_124 wd_125 wd_119 yd_Stream_bitOf ⟨Nat.le_of_ble_eq_true rfl, Nat.le_of_ble_eq_true rfl⟩) hK hH hS hZ hd_3 rfl rfl rfl hl.1 rfl (Nat.le_of_ble_eq_true rfl) d_Stream_removeFirst_15 ⟨Nat.zero_le _, Nat.zero_le _⟩ (fun H locs hH hS => ?_)
    refine lv_istore_n (lv' := [(1, .int x2), (0, .ref (ad 3 0))]) hx hb d_Stream_removeFirst_18 rfl hl (by decide) rfl (fun ls hl => ?_)
    refine lv_aload_n hx hb d_Stream_removeFirst_19 rfl (lv_at hl 1 rfl) ?_
    refine lv_aload_n hx hb d_Stream_removeFirst_20 rfl (lv_at hl 1 rfl) ?_
    refine lv_iconst (v := 1) hx hb d_Stream_removeFirst_21 (by decide) ?_
    obtain ⟨qc, hc22, h⟩ := b2_some h
    obtain ⟨σ3, x4⟩ := qc
    have h := b2_at h
    refine st_Vi (As := [.int 1]) (rest := [.ref (ad 3 0)]) ⟨hx, hb, hml, hown, hg⟩ (c_Stream_placeOf l D aC A ad n _ 1 _ hc22) (cwG hg wd_117 wd_118 wd_120 wd_121 wd_119 yd_Stream_placeOf ⟨Nat.le_of_ble_eq_true rfl, Nat.le_of_ble_eq_true rfl⟩) hK hH hS hZ hd_3 rfl rfl rfl hl.1 rfl (Nat.le_of_ble_eq_true rfl) d_Stream_removeFirst_22 ⟨Nat.zero_le _, Nat.zero_le _⟩ (fun H locs hH hS => ?_)
    refine st_put hx hb hg hown hK hH hS (f := 3) (i := 0) hd_3 rfl rfl u_Stream t_Stream t_Stream_ok n_Stream 1 (by decide) (hg _ wd_115) rfl rfl rfl d_Stream_removeFirst_25 (fun σ5 H locs eσ5 hH hS => ?_)
    have h := nm_at eσ5 h
    refine lv_aload_n hx hb d_Stream_removeFirst_28 rfl (lv_at hl 1 rfl) ?_
    refine lv_dup hx hb d_Stream_removeFirst_29 rfl ?_
    refine st_get hx hb hg hown hK hH (f := 3) (i := 0) hd_3 rfl rfl u_Stream 2 (by decide) (hg _ wd_126) (v := .int (σ5.1 3 0 2)) rfl d_Stream_removeFirst_30 ?_
    refine lv_iconst (v := 1) hx hb d_Stream_removeFirst_33 (by decide) ?_
    refine lv_isub hx hb d_Stream_removeFirst_34 ?_
    refine st_put hx hb hg hown hK hH hS (f := 3) (i := 0) hd_3 rfl rfl u_Stream t_Stream t_Stream_ok n_Stream 2 (by decide) (hg _ wd_126) rfl rfl rfl d_Stream_removeFirst_35 (fun σ6 H locs eσ6 hH hS => ?_)
    have h := nm_at eσ6 h
    refine lv_iload_n hx hb d_Stream_removeFirst_38 rfl (lv_at hl 0 rfl) ?_
    cases h
    rw [← hQ0]
    exact W.iret hx hb hr (fun t ht hW => ⟨⟨_, (), rfl, rfl, by dsimp only; rw [ht]; exact hH⟩, hS.F ht⟩) hS.2.2 d_Stream_removeFirst_39
  · have h := it h c4
    refine lv_bipush (v := (-104)) hx hb d_Stream_removeFirst_7 (by decide) ?_
    cases h
    rw [← hQ0]
    exact W.iret hx hb hr (fun t ht hW => ⟨⟨_, (), rfl, rfl, by dsimp only; rw [ht]; exact hH⟩, hS.F ht⟩) hS.2.2 d_Stream_removeFirst_9
set_option maxHeartbeats 4000000 in
set_option maxRecDepth 100000 in
theorem c_Stream_removeNumber (l : Launch) (D : va_G) (aC : Nat → ClassId) (A : Nat → Prop) (ad : Nat → Nat → Nat) (n : Nat) (σ : St) (a1 : Int32) (o : St × Int32) (h : f_Stream_removeNumber σ a1 = some o) : Met l y_Stream_removeNumber w_Stream_removeNumber rm_Stream_removeNumber (va_Pc [.ref (ad 3 0), .int a1] (Pre D aC A ad n σ)) (va_Qi (fun r (_ : Unit) => r = o.2) (fun _ t => Hold D aC A ad n o.1 t.heap) A) 0 0 A := by
  refine Met.ofW (cc := prog_9_method_11_code) (maxL := 4) (ret := (some .int)) (by decide) rfl ?_
  intro p e s m args below meth c s₁ B hml hv
  obtain ⟨hargs, hH, hK, hZ⟩ := hv
  have hx := B.exec
  have hb := B.bytes
  have hr := B.returns
  have hts := atoms_spec (ws := w_Stream_removeNumber) B.pre
  have hg : ∀ w ∈ gW, w.before args s = true := fun w h => hts w (List.mem_cons_of_mem _ h)
  have hown : s.vm.findClass "PrefixCodes$Stream" = some m.cls := findClass_of_methodNamed B.named
  have hlocks := B.notSynchronized
  have hS : va_S A s.heap s.heap [] := va_S.rf
  have hl := lv_entry ([.ref (ad 3 0), .int a1]) (n := 4) (Nat.le_of_ble_eq_true rfl)
  rw [show entryFrame m args 4 = entryFrame m (([.ref (ad 3 0), .int a1] : List Value).toArray) 4 by rw [hargs], lg_entry_eq]
  generalize (lg_sl ([.ref (ad 3 0), .int a1]) ++ List.replicate (4 - (lg_sl ([.ref (ad 3 0), .int a1])).length) Slot.unset).toArray = ls at hl ⊢
  have hl : lv_has ls 4 [(0, .ref (ad 3 0)), (1, .int a1)] := hl
  generalize hQ0 : MQ below (va_Qi (fun r (_ : Unit) => r = o.2) (fun _ t => Hold D aC A ad n o.1 t.heap) A) args s 0 0 A = Q0
  unfold f_Stream_removeNumber at h
  refine lv_iload_n hx hb d_Stream_removeNumber_0 rfl (lv_at hl 1 rfl) ?_
  refine lv_aload_n hx hb d_Stream_removeNumber_1 rfl (lv_at hl 0 rfl) ?_
  refine st_get hx hb hg hown hK hH (f := 3) (i := 0) hd_3 rfl rfl u_Stream 2 (by decide) (hg _ wd_126) (v := .int (σ.1 3 0 2)) rfl d_Stream_removeNumber_2 ?_
  refine lv_icmp_le (tgt := 11) hx hb d_Stream_removeNumber_5 (by decide) (fun c5 => ?_) (fun c5 => ?_)
  · have h := it h c5
    refine lv_iconst (v := 0) hx hb d_Stream_removeNumber_11 (by decide) ?_
    refine lv_istore_n (lv' := [(2, .int 0), (0, .ref (ad 3 0)), (1, .int a1)]) hx hb d_Stream_removeNumber_12 rfl hl (by decide) rfl (fun ls hl => ?_)
    refine lv_iconst (v := 0) hx hb d_Stream_removeNumber_13 (by decide) ?_
    refine lv_istore_n (lv' := [(3, .int 0), (2, .int 0), (0, .ref (ad 3 0)), (1, .int a1)]) hx hb d_Stream_removeNumber_14 rfl hl (by decide) rfl (fun ls hl => ?_)
    obtain ⟨q1, hq1, h⟩ := b3_some h
    have K1 : ∀ (σ5 : St) (x6 : Int32) (x7 : Int32) (H : Heap) (locs : List Loc) (ls : Array Slot), q1 = (σ5, x6, x7) → Hold D aC A ad n σ5 H → va_S A s.heap H locs → lv_has ls 4 [(0, .ref (ad 3 0)), (1, .int a1), (2, .int x6), (3, .int x7)] → W p l e (headSpec w_Stream_removeNumber rm_Stream_removeNumber).room s m args below meth c H locs 0 0 Q0 (F0 m 35 ls []) := by
      intro σ5 x6 x7 H locs ls eq1 hH hS hl
      subst eq1
      have h := b3_at h
      refine lv_iload_n hx hb d_Stream_removeNumber_35 rfl (lv_at hl 2 rfl) ?_
      cases h
      rw [← hQ0]
      exact W.iret hx hb hr (fun t ht hW => ⟨⟨_, (), rfl, rfl, by dsimp only; rw [ht]; exact hH⟩, hS.F ht⟩) hS.2.2 d_Stream_removeNumber_36
    have loop1 : ∀ (k : Nat) (σ : St) (v2 : Int32) (v3 : Int32) (H : Heap) (locs : List Loc) (ls : Array Slot), Hold D aC A ad n σ H → va_S A s.heap H locs → lv_has ls 4 [(0, .ref (ad 3 0)), (1, .int a1), (2, .int v2), (3, .int v3)] → lp (fun q => lb_Stream_removeNumber_15 a1 q.1 q.2.1 q.2.2) k (σ, v2, v3) = some q1 → W p l e (headSpec w_Stream_removeNumber rm_Stream_removeNumber).room s m args below meth c H locs 0 0 Q0 (F0 m 15 ls []) := by
      intro k
      induction k with
      | zero => intro σ v2 v3 H locs ls hH hS hl h; exact absurd h (lp_zero _ _ _)
      | succ k ih1 =>
        intro σ v2 v3 H locs ls hH hS hl h
        obtain ⟨z1, h1, hk1⟩ := lp_succ h
        have h1 : lb_Stream_removeNumber_15 a1 σ v2 v3 = some z1 := h1
        unfold lb_Stream_removeNumber_15 at h1
        refine lv_iload_n hx hb d_Stream_removeNumber_15 rfl (lv_at hl 3 rfl) ?_
        refine lv_iload_n hx hb d_Stream_removeNumber_16 rfl (lv_at hl 1 rfl) ?_
        refine lv_icmp_ge (tgt := 35) hx hb d_Stream_removeNumber_17 (by decide) (fun c17 => ?_) (fun c17 => ?_)
        · have h1 := it h1 c17
          cases h1
          exact K1 σ v2 v3 _ _ ls (Option.some.inj hk1).symm hH hS (lv_sub hl [0, 1, 2, 3] rfl)
        · have h1 := ie h1 c17
          refine lv_iload_n hx hb d_Stream_removeNumber_20 rfl (lv_at hl 2 rfl) ?_
          refine lv_iconst (v := 1) hx hb d_Stream_removeNumber_21 (by decide) ?_
          refine lv_ishl hx hb d_Stream_removeNumber_22 ?_
          refine lv_aload_n hx hb d_Stream_removeNumber_23 rfl (lv_at hl 0 rfl) ?_
          obtain ⟨qc, hc24, h1⟩ := b2_some h1
          obtain ⟨σ1, x2⟩ := qc
          have h1 := b2_at h1
          refine st_Vi (As := []) (rest := [.int (v2 <<< (1 &&& 31))]) ⟨hx, hb, hml, hown, hg⟩ (c_Stream_removeFirst l D aC A ad n _  _ hc24) (cwG hg wd_140 wd_141 wd_142 wd_143 wd_119 yd_Stream_removeFirst ⟨Nat.le_of_ble_eq_true rfl, Nat.le_of_ble_eq_true rfl⟩) hK hH hS hZ hd_3 rfl rfl rfl hl.1 rfl (Nat.le_of_ble_eq_true rfl) d_Stream_removeNumber_24 ⟨Nat.zero_le _, Nat.zero_le _⟩ (fun H locs hH hS => ?_)
          refine lv_ior hx hb d_Stream_removeNumber_27 ?_
          refine lv_topi (fun x3 ex3 => ?_)
          have h1 := nm_at ex3 h1
          refine lv_istore_n (lv' := [(2, .int x3), (0, .ref (ad 3 0)), (1, .int a1), (3, .int v3)]) hx hb d_Stream_removeNumber_28 rfl hl (by decide) rfl (fun ls hl => ?_)
          obtain ⟨x4, ex4⟩ : ∃ y : Int32, y = v3 + 1 := ⟨_, rfl⟩
          have h1 := nm_at ex4 h1
          refine lv_iinc (v := x4) (lv' := [(3, .int x4), (2, .int x3), (0, .ref (ad 3 0)), (1, .int a1)]) hx hb d_Stream_removeNumber_29 hl (k := 3) rfl (by rw [ex4]; rfl) (by decide) rfl (fun ls hl => ?_)
          refine lv_goto (tgt := 15) hx hb d_Stream_removeNumber_32 (by decide) ?_
          cases h1
          exact ih1 σ1 x3 x4 _ _ ls hH hS (lv_sub hl [2, 3, 1, 0] rfl) hk1
    obtain ⟨k1, hq1⟩ := lpE_some hq1
    exact loop1 k1 σ 0 0 _ _ ls hH hS (lv_sub hl [2, 3, 1, 0] rfl) hq1
  · have h := ie h c5
    refine lv_bipush (v := (-104)) hx hb d_Stream_removeNumber_8 (by decide) ?_
    cases h
    rw [← hQ0]
    exact W.iret hx hb hr (fun t ht hW => ⟨⟨_, (), rfl, rfl, by dsimp only; rw [ht]; exact hH⟩, hS.F ht⟩) hS.2.2 d_Stream_removeNumber_10
set_option maxHeartbeats 4000000 in
set_option maxRecDepth 100000 in
theorem c_Stream_removeLast (l : Launch) (D : va_G) (aC : Nat → ClassId) (A : Nat → Prop) (ad : Nat → Nat → Nat) (n : Nat) (σ : St) (o : St × Int32) (h : f_Stream_removeLast σ  = some o) : Met l y_Stream_removeLast w_Stream_removeLast rm_Stream_removeLast (va_Pc [.ref (ad 3 0)] (Pre D aC A ad n σ)) (va_Qi (fun r (_ : Unit) => r = o.2) (fun _ t => Hold D aC A ad n o.1 t.heap) A) 0 0 A := by
  refine Met.ofW (cc := prog_9_method_10_code) (maxL := 2) (ret := (some .int)) (by decide) rfl ?_
  intro p e s m args below meth c s₁ B hml hv
  obtain ⟨hargs, hH, hK, hZ⟩ := hv
  have hx := B.exec
  have hb := B.bytes
  have hr := B.returns
  have hts := atoms_spec (ws := w_Stream_removeLast) B.pre
  have hg : ∀ w ∈ gW, w.before args s = true := fun w h => hts w (List.mem_cons_of_mem _ h)
  have hown : s.vm.findClass "PrefixCodes$Stream" = some m.cls := findClass_of_methodNamed B.named
  have hlocks := B.notSynchronized
  have hS : va_S A s.heap s.heap [] := va_S.rf
  have hl := lv_entry ([.ref (ad 3 0)]) (n := 2) (Nat.le_of_ble_eq_true rfl)
  rw [show entryFrame m args 2 = entryFrame m (([.ref (ad 3 0)] : List Value).toArray) 2 by rw [hargs], lg_entry_eq]
  generalize (lg_sl ([.ref (ad 3 0)]) ++ List.replicate (2 - (lg_sl ([.ref (ad 3 0)])).length) Slot.unset).toArray = ls at hl ⊢
  have hl : lv_has ls 2 [(0, .ref (ad 3 0))] := hl
  generalize hQ0 : MQ below (va_Qi (fun r (_ : Unit) => r = o.2) (fun _ t => Hold D aC A ad n o.1 t.heap) A) args s 0 0 A = Q0
  unfold f_Stream_removeLast at h
  refine lv_aload_n hx hb d_Stream_removeLast_0 rfl (lv_at hl 0 rfl) ?_
  refine st_get hx hb hg hown hK hH (f := 3) (i := 0) hd_3 rfl rfl u_Stream 2 (by decide) (hg _ wd_126) (v := .int (σ.1 3 0 2)) rfl d_Stream_removeLast_1 ?_
  refine lv_if_ne (tgt := 10) hx hb d_Stream_removeLast_4 (by decide) (fun c4 => ?_) (fun c4 => ?_)
  · have h := ie h c4
    refine lv_aload_n hx hb d_Stream_removeLast_10 rfl (lv_at hl 0 rfl) ?_
    refine lv_aload_n hx hb d_Stream_removeLast_11 rfl (lv_at hl 0 rfl) ?_
    refine st_get hx hb hg hown hK hH (f := 3) (i := 0) hd_3 rfl rfl u_Stream 2 (by decide) (hg _ wd_126) (v := .int (σ.1 3 0 2)) rfl d_Stream_removeLast_12 ?_
    refine lv_iconst (v := 1) hx hb d_Stream_removeLast_15 (by decide) ?_
    refine lv_isub hx hb d_Stream_removeLast_16 ?_
    obtain ⟨qc, hc17, h⟩ := b2_some h
    obtain ⟨σ1, x2⟩ := qc
    have h := b2_at h
    refine st_Vi (As := [.int ((σ.1 3 0 2) - 1)]) (rest := []) ⟨hx, hb, hml, hown, hg⟩ (c_Stream_at l D aC A ad n _ ((σ.1 3 0 2) - 1) _ hc17) (cwG hg wd_148 wd_149 wd_150 wd_151 wd_119 yd_Stream_at ⟨Nat.le_of_ble_eq_true rfl, Nat.le_of_ble_eq_true rfl⟩) hK hH hS hZ hd_3 rfl rfl rfl hl.1 rfl (Nat.le_of_ble_eq_true rfl) d_Stream_removeLast_17 ⟨Nat.zero_le _, Nat.zero_le _⟩ (fun H locs hH hS => ?_)
    refine lv_istore_n (lv' := [(1, .int x2), (0, .ref (ad 3 0))]) hx hb d_Stream_removeLast_20 rfl hl (by decide) rfl (fun ls hl => ?_)
    refine lv_aload_n hx hb d_Stream_removeLast_21 rfl (lv_at hl 1 rfl) ?_
    refine lv_dup hx hb d_Stream_removeLast_22 rfl ?_
    refine st_get hx hb hg hown hK hH (f := 3) (i := 0) hd_3 rfl rfl u_Stream 2 (by decide) (hg _ wd_126) (v := .int (σ1.1 3 0 2)) rfl d_Stream_removeLast_23 ?_
    refine lv_iconst (v := 1) hx hb d_Stream_removeLast_26 (by decide) ?_
    refine lv_isub hx hb d_Stream_removeLast_27 ?_
    refine st_put hx hb hg hown hK hH hS (f := 3) (i := 0) hd_3 rfl rfl u_Stream t_Stream t_Stream_ok n_Stream 2 (by decide) (hg _ wd_126) rfl rfl rfl d_Stream_removeLast_28 (fun σ3 H locs eσ3 hH hS => ?_)
    have h := nm_at eσ3 h
    refine lv_iload_n hx hb d_Stream_removeLast_31 rfl (lv_at hl 0 rfl) ?_
    cases h
    rw [← hQ0]
    exact W.iret hx hb hr (fun t ht hW => ⟨⟨_, (), rfl, rfl, by dsimp only; rw [ht]; exact hH⟩, hS.F ht⟩) hS.2.2 d_Stream_removeLast_32
  · have h := it h c4
    refine lv_bipush (v := (-104)) hx hb d_Stream_removeLast_7 (by decide) ?_
    cases h
    rw [← hQ0]
    exact W.iret hx hb hr (fun t ht hW => ⟨⟨_, (), rfl, rfl, by dsimp only; rw [ht]; exact hH⟩, hS.F ht⟩) hS.2.2 d_Stream_removeLast_9
set_option maxHeartbeats 4000000 in
set_option maxRecDepth 100000 in
theorem c_Stream_begin (l : Launch) (D : va_G) (aC : Nat → ClassId) (A : Nat → Prop) (ad : Nat → Nat → Nat) (n : Nat) (σ : St) (o : St) (h : f_Stream_begin σ  = some o) : Met l y_Stream_begin w_Stream_begin rm_Stream_begin (va_Pc [.ref (ad 3 0)] (Pre D aC A ad n σ)) (va_Qv (fun (_ : Unit) => True) (fun _ t => Hold D aC A ad n o t.heap) A) 0 0 A := by
  refine Met.ofW (cc := prog_9_method_5_code) (maxL := 1) (ret := none) (by decide) rfl ?_
  intro p e s m args below meth c s₁ B hml hv
  obtain ⟨hargs, hH, hK, hZ⟩ := hv
  have hx := B.exec
  have hb := B.bytes
  have hr := B.returns
  have hts := atoms_spec (ws := w_Stream_begin) B.pre
  have hg : ∀ w ∈ gW, w.before args s = true := fun w h => hts w (List.mem_cons_of_mem _ h)
  have hown : s.vm.findClass "PrefixCodes$Stream" = some m.cls := findClass_of_methodNamed B.named
  have hlocks := B.notSynchronized
  have hS : va_S A s.heap s.heap [] := va_S.rf
  have hl := lv_entry ([.ref (ad 3 0)]) (n := 1) (Nat.le_of_ble_eq_true rfl)
  rw [show entryFrame m args 1 = entryFrame m (([.ref (ad 3 0)] : List Value).toArray) 1 by rw [hargs], lg_entry_eq]
  generalize (lg_sl ([.ref (ad 3 0)]) ++ List.replicate (1 - (lg_sl ([.ref (ad 3 0)])).length) Slot.unset).toArray = ls at hl ⊢
  have hl : lv_has ls 1 [(0, .ref (ad 3 0))] := hl
  generalize hQ0 : MQ below (va_Qv (fun (_ : Unit) => True) (fun _ t => Hold D aC A ad n o t.heap) A) args s 0 0 A = Q0
  unfold f_Stream_begin at h
  refine lv_aload_n hx hb d_Stream_begin_0 rfl (lv_at hl 0 rfl) ?_
  refine lv_aload_n hx hb d_Stream_begin_1 rfl (lv_at hl 0 rfl) ?_
  refine st_get hx hb hg hown hK hH (f := 3) (i := 0) hd_3 rfl rfl u_Stream 2 (by decide) (hg _ wd_126) (v := .int (σ.1 3 0 2)) rfl d_Stream_begin_2 ?_
  refine st_put hx hb hg hown hK hH hS (f := 3) (i := 0) hd_3 rfl rfl u_Stream t_Stream t_Stream_ok n_Stream 3 (by decide) (hg _ wd_165) rfl rfl rfl d_Stream_begin_5 (fun σ1 H locs eσ1 hH hS => ?_)
  have h := nm_at eσ1 h
  refine lv_aload_n hx hb d_Stream_begin_8 rfl (lv_at hl 0 rfl) ?_
  refine lv_iconst (v := 0) hx hb d_Stream_begin_9 (by decide) ?_
  refine st_putV (ty := .boolean) hx hb hg hown hK hH hS (f := 3) (i := 0) hd_3 rfl rfl u_Stream t_Stream t_Stream_ok n_Stream 4 (by decide) (hg _ wd_127) rfl rfl (t_Stream_ok 4 (by decide)) rfl rfl d_Stream_begin_10 (fun σ2 H locs eσ2 hH hS => ?_)
  have h := nm_at eσ2 h
  cases h
  rw [← hQ0]
  exact W.vret hx hb hr (fun t ht hW => ⟨⟨(), rfl, trivial, by dsimp only; rw [ht]; exact hH⟩, hS.F ht⟩) hS.2.2 d_Stream_begin_13
set_option maxHeartbeats 4000000 in
set_option maxRecDepth 100000 in
theorem c_Stream_settle (l : Launch) (D : va_G) (aC : Nat → ClassId) (A : Nat → Prop) (ad : Nat → Nat → Nat) (n : Nat) (σ : St) (o : St × Int32) (h : f_Stream_settle σ  = some o) : Met l y_Stream_settle w_Stream_settle rm_Stream_settle (va_Pc [.ref (ad 3 0)] (Pre D aC A ad n σ)) (va_Qi (fun r (_ : Unit) => r = o.2) (fun _ t => Hold D aC A ad n o.1 t.heap) A) 0 0 A := by
  refine Met.ofW (cc := prog_9_method_6_code) (maxL := 1) (ret := (some .int)) (by decide) rfl ?_
  intro p e s m args below meth c s₁ B hml hv
  obtain ⟨hargs, hH, hK, hZ⟩ := hv
  have hx := B.exec
  have hb := B.bytes
  have hr := B.returns
  have hts := atoms_spec (ws := w_Stream_settle) B.pre
  have hg : ∀ w ∈ gW, w.before args s = true := fun w h => hts w (List.mem_cons_of_mem _ h)
  have hown : s.vm.findClass "PrefixCodes$Stream" = some m.cls := findClass_of_methodNamed B.named
  have hlocks := B.notSynchronized
  have hS : va_S A s.heap s.heap [] := va_S.rf
  have hl := lv_entry ([.ref (ad 3 0)]) (n := 1) (Nat.le_of_ble_eq_true rfl)
  rw [show entryFrame m args 1 = entryFrame m (([.ref (ad 3 0)] : List Value).toArray) 1 by rw [hargs], lg_entry_eq]
  generalize (lg_sl ([.ref (ad 3 0)]) ++ List.replicate (1 - (lg_sl ([.ref (ad 3 0)])).length) Slot.unset).toArray = ls at hl ⊢
  have hl : lv_has ls 1 [(0, .ref (ad 3 0))] := hl
  generalize hQ0 : MQ below (va_Qi (fun r (_ : Unit) => r = o.2) (fun _ t => Hold D aC A ad n o.1 t.heap) A) args s 0 0 A = Q0
  unfold f_Stream_settle at h
  refine lv_aload_n hx hb d_Stream_settle_0 rfl (lv_at hl 0 rfl) ?_
  refine st_get hx hb hg hown hK hH (f := 3) (i := 0) hd_3 rfl rfl u_Stream 4 (by decide) (hg _ wd_127) (v := .int (σ.1 3 0 4)) rfl d_Stream_settle_1 ?_
  refine lv_if_eq (tgt := 18) hx hb d_Stream_settle_4 (by decide) (fun c4 => ?_) (fun c4 => ?_)
  · have h := it h c4
    refine lv_aload_n hx hb d_Stream_settle_18 rfl (lv_at hl 0 rfl) ?_
    refine st_get hx hb hg hown hK hH (f := 3) (i := 0) hd_3 rfl rfl u_Stream 2 (by decide) (hg _ wd_126) (v := .int (σ.1 3 0 2)) rfl d_Stream_settle_19 ?_
    refine lv_aload_n hx hb d_Stream_settle_22 rfl (lv_at hl 0 rfl) ?_
    refine st_get hx hb hg hown hK hH (f := 3) (i := 0) hd_3 rfl rfl u_Stream 3 (by decide) (hg _ wd_165) (v := .int (σ.1 3 0 3)) rfl d_Stream_settle_23 ?_
    refine lv_isub hx hb d_Stream_settle_26 ?_
    cases h
    rw [← hQ0]
    exact W.iret hx hb hr (fun t ht hW => ⟨⟨_, (), rfl, rfl, by dsimp only; rw [ht]; exact hH⟩, hS.F ht⟩) hS.2.2 d_Stream_settle_27
  · have h := ie h c4
    refine lv_aload_n hx hb d_Stream_settle_7 rfl (lv_at hl 0 rfl) ?_
    refine lv_aload_n hx hb d_Stream_settle_8 rfl (lv_at hl 0 rfl) ?_
    refine st_get hx hb hg hown hK hH (f := 3) (i := 0) hd_3 rfl rfl u_Stream 3 (by decide) (hg _ wd_165) (v := .int (σ.1 3 0 3)) rfl d_Stream_settle_9 ?_
    refine st_put hx hb hg hown hK hH hS (f := 3) (i := 0) hd_3 rfl rfl u_Stream t_Stream t_Stream_ok n_Stream 2 (by decide) (hg _ wd_126) rfl rfl rfl d_Stream_settle_12 (fun σ1 H locs eσ1 hH hS => ?_)
    have h := nm_at eσ1 h
    refine lv_bipush (v := (-106)) hx hb d_Stream_settle_15 (by decide) ?_
    cases h
    rw [← hQ0]
    exact W.iret hx hb hr (fun t ht hW => ⟨⟨_, (), rfl, rfl, by dsimp only; rw [ht]; exact hH⟩, hS.F ht⟩) hS.2.2 d_Stream_settle_17
set_option maxHeartbeats 4000000 in
set_option maxRecDepth 100000 in
theorem c_Stream_giveBack (l : Launch) (D : va_G) (aC : Nat → ClassId) (A : Nat → Prop) (ad : Nat → Nat → Nat) (n : Nat) (σ : St) (a1 : Int32) (o : St) (h : f_Stream_giveBack σ a1 = some o) : Met l y_Stream_giveBack w_Stream_giveBack rm_Stream_giveBack (va_Pc [.ref (ad 3 0), .int a1] (Pre D aC A ad n σ)) (va_Qv (fun (_ : Unit) => True) (fun _ t => Hold D aC A ad n o t.heap) A) 0 0 A := by
  refine Met.ofW (cc := prog_9_method_12_code) (maxL := 2) (ret := none) (by decide) rfl ?_
  intro p e s m args below meth c s₁ B hml hv
  obtain ⟨hargs, hH, hK, hZ⟩ := hv
  have hx := B.exec
  have hb := B.bytes
  have hr := B.returns
  have hts := atoms_spec (ws := w_Stream_giveBack) B.pre
  have hg : ∀ w ∈ gW, w.before args s = true := fun w h => hts w (List.mem_cons_of_mem _ h)
  have hown : s.vm.findClass "PrefixCodes$Stream" = some m.cls := findClass_of_methodNamed B.named
  have hlocks := B.notSynchronized
  have hS : va_S A s.heap s.heap [] := va_S.rf
  have hl := lv_entry ([.ref (ad 3 0), .int a1]) (n := 2) (Nat.le_of_ble_eq_true rfl)
  rw [show entryFrame m args 2 = entryFrame m (([.ref (ad 3 0), .int a1] : List Value).toArray) 2 by rw [hargs], lg_entry_eq]
  generalize (lg_sl ([.ref (ad 3 0), .int a1]) ++ List.replicate (2 - (lg_sl ([.ref (ad 3 0), .int a1])).length) Slot.unset).toArray = ls at hl ⊢
  have hl : lv_has ls 2 [(0, .ref (ad 3 0)), (1, .int a1)] := hl
  generalize hQ0 : MQ below (va_Qv (fun (_ : Unit) => True) (fun _ t => Hold D aC A ad n o t.heap) A) args s 0 0 A = Q0
  unfold f_Stream_giveBack at h
  refine lv_aload_n hx hb d_Stream_giveBack_0 rfl (lv_at hl 0 rfl) ?_
  refine lv_aload_n hx hb d_Stream_giveBack_1 rfl (lv_at hl 0 rfl) ?_
  refine lv_sipush (v := 20000) hx hb d_Stream_giveBack_2 (by decide) ?_
  refine lv_iload_n hx hb d_Stream_giveBack_5 rfl (lv_at hl 1 rfl) ?_
  refine lv_isub hx hb d_Stream_giveBack_6 ?_
  obtain ⟨qc, hc7, h⟩ := b2_some h
  obtain ⟨σ1, x2⟩ := qc
  have h := b2_at h
  refine st_Vi (As := [.int (20000 - a1)]) (rest := [.ref (ad 3 0)]) ⟨hx, hb, hml, hown, hg⟩ (c_Stream_placeOf l D aC A ad n _ (20000 - a1) _ hc7) (cwG hg wd_117 wd_118 wd_120 wd_121 wd_119 yd_Stream_placeOf ⟨Nat.le_of_ble_eq_true rfl, Nat.le_of_ble_eq_true rfl⟩) hK hH hS hZ hd_3 rfl rfl rfl hl.1 rfl (Nat.le_of_ble_eq_true rfl) d_Stream_giveBack_7 ⟨Nat.zero_le _, Nat.zero_le _⟩ (fun H locs hH hS => ?_)
  refine st_put hx hb hg hown hK hH hS (f := 3) (i := 0) hd_3 rfl rfl u_Stream t_Stream t_Stream_ok n_Stream 1 (by decide) (hg _ wd_115) rfl rfl rfl d_Stream_giveBack_10 (fun σ3 H locs eσ3 hH hS => ?_)
  have h := nm_at eσ3 h
  refine lv_aload_n hx hb d_Stream_giveBack_13 rfl (lv_at hl 0 rfl) ?_
  refine lv_dup hx hb d_Stream_giveBack_14 rfl ?_
  refine st_get hx hb hg hown hK hH (f := 3) (i := 0) hd_3 rfl rfl u_Stream 2 (by decide) (hg _ wd_126) (v := .int (σ3.1 3 0 2)) rfl d_Stream_giveBack_15 ?_
  refine lv_iload_n hx hb d_Stream_giveBack_18 rfl (lv_at hl 1 rfl) ?_
  refine lv_iadd hx hb d_Stream_giveBack_19 ?_
  refine st_put hx hb hg hown hK hH hS (f := 3) (i := 0) hd_3 rfl rfl u_Stream t_Stream t_Stream_ok n_Stream 2 (by decide) (hg _ wd_126) rfl rfl rfl d_Stream_giveBack_20 (fun σ4 H locs eσ4 hH hS => ?_)
  have h := nm_at eσ4 h
  cases h
  rw [← hQ0]
  exact W.vret hx hb hr (fun t ht hW => ⟨⟨(), rfl, trivial, by dsimp only; rw [ht]; exact hH⟩, hS.F ht⟩) hS.2.2 d_Stream_giveBack_23
end
