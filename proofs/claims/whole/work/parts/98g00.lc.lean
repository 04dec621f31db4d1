def LC (l : Launch) (p : Program) (s : State) (m : MethodId) (c : Code) (args : Array Value) (b L : Nat) (xs : Nat → Int32) (D : va_G) (aC : Nat → ClassId) (A : Nat → Prop) : Prop :=
  p.tables.exec = Jvm.exec ∧ c.code = code ∧ c.maxLocals = 7 ∧ s.vm.findClass "PrefixCodesLaw" = some m.cls ∧ (∀ w ∈ gW, w.before args s = true) ∧ Kn D aC s ∧ Stc aC A s s.heap ∧ Thr A s ∧ va_X b L xs s s.heap ∧ b < s.heap.size ∧ ¬ A b ∧ (∀ q, s.heap.size ≤ q → A q) ∧ l.stackTraces = false
abbrev lvL (b : Nat) (ad : Nat → Nat → Nat) (i : Nat) : List (Nat × Value) := [(0, .ref b), (1, .ref (ad 0 0)), (2, .ref (ad 48 0)), (3, .ref (ad 70 0)), (4, .int (Int32.ofNat i))]
/-- the end of a case: the counter is to be raised -/
def LK (p : Program) (l : Launch) (e : Env) (s : State) (m : MethodId) (args : Array Value) (below : List Frame) (meth : Method) (c : Code) (b i : Nat) (D : va_G) (aC : Nat → ClassId) (A : Nat → Prop) (ad : Nat → Nat → Nat) (cells slots : Nat) (Q : State → Prop) : Prop :=
  ∀ (ad1 : Nat → Nat → Nat) (n1 : Nat) (σ1 : St) (H1 : Heap) (locs1 : List Loc) (ls1 : Array Slot), ad1 0 0 = ad 0 0 → ad1 48 0 = ad 48 0 → ad1 70 0 = ad 70 0 → Hold D aC A ad1 n1 σ1 H1 → II σ1 → va_S A s.heap H1 locs1 → lv_has ls1 7 (lvL b ad1 i) → W p l e room_1 s m args below meth c H1 locs1 (cells + 42) (slots + 1506) Q (F0 m 1192 ls1 [])
section SW
variable {p : Program} {l : Launch} {e : Env} {R : Room} {s : State} {m : MethodId} {args : Array Value} {below : List Frame} {meth : Method} {c : Code} {H : Heap} {locs : List Loc} {cells slots : Nat} {Q : State → Prop}
variable {cc bytes : ByteArray} {pc nL maxL index k mc ms : Nat} {ls : Array Slot} {rest As st0 : List Value} {D : va_G} {aC : Nat → ClassId} {A : Nat → Prop} {ad : Nat → Nat → Nat} {n : Nat} {σ σ1 : St} {own : String} {y : MethodName} {ret : Option FieldType} {hh : List (Nat × Nat × Nat × Nat)} {rm : Room}
theorem st_SW {v : Int32} (S : CallFix p m c cc nL s args gW own) (hM : Met l y (Cond.codeWith y bytes maxL ret hh :: gW) rm (va_Pc As (PreT D aC A ad n σ)) (va_Qi (fun r (_ : Unit) => r = v) (fun _ t => Hold D aC A ad n σ1 t.heap) A) mc ms A) (hrc : rm.cells = mc) (hrs : rm.slots = ms) (hR : rm.frames + 1 ≤ R.frames ∧ 8 + (maxL + 11) + rm.locals ≤ R.locals) (hcw : Cond.codeWith y bytes maxL ret hh ∈ gW) (hini : (Cond.initialized y.cls).before args s = true) (hy : y.cls ≠ "java/lang/invoke/MethodHandle" ∧ y.cls ≠ "java/lang/invoke/VarHandle") (hlen : (parseMethodDescriptor y.desc).map (fun d => d.parameters.length) = some k) (hlk : (Cond.methodLink own index y).before args s = true) (hstt : (Cond.static y).before args s = true)
    (hK : Kn D aC s) (hH : Hold D aC A ad n σ H) (hS : va_S A s.heap H locs) (hZ : Stc aC A s s.heap) (hT : Thr A s) (hn : As.length = k) (hsize : ls.size = nL) (hstk : st0 = As.reverse ++ rest) (hW : (rest.map fun v => v.category).sum ≤ 8) (hdg : decode cc pc = .ok (.invokestatic index, 3)) (hf : cells + mc ≤ R.cells ∧ slots + ms ≤ R.slots)
    (kk : ∀ (H1 : Heap) (locs1 : List Loc), Hold D aC A ad n σ1 H1 → va_S A s.heap H1 locs1 → W p l e R s m args below meth c H1 locs1 (cells + mc) (slots + ms) Q (F0 m (pc + 3) ls (.int v :: rest))) : W p l e R s m args below meth c H locs cells slots Q (F0 m pc ls st0) := by
  refine va_calli (A1 := A) (va_runSW (As := As) (rest := rest) S hM hrc hrs hR (pay_in S.2.2.2.2 (gIn0 hcw)) List.mem_cons_self (S.2.2.2.2 _ hcw) hini hy hlen hlk hstt ⟨PreT.blind, fun U hU hW => ⟨rfl, ⟨by rw [hU]; exact hH, hK.warm hW, by rw [hU]; exact hZ.go hW.alike hS.2.1⟩, hT.go hW (by rw [hU]; exact hS.2.1)⟩⟩ rfl hn hsize hstk (lv_room hW) hdg hf) hS (fun q _ h => h) (fun q h => h) (fun r u t H1 locs1 ht hvm hw hB hz hk1 hS1 => ?_)
  subst hw
  exact kk H1 locs1 (by rw [← ht]; exact hB) hS1
end SW
theorem we_103 : (Cond.code ⟨"PrefixCodes", "code", "(I)I"⟩ prog_1_method_2_code 2 (some .int) : Cond) ∈ gW := List.mem_filter.mpr ⟨gt2 _ (List.mem_of_getElem? (i := 123) rfl), rfl⟩
theorem we_104 : (Cond.methodLink "PrefixCodesLaw" 26 ⟨"PrefixCodes", "code", "(I)I"⟩ : Cond) ∈ gW := List.mem_filter.mpr ⟨gt2 _ (List.mem_of_getElem? (i := 120) rfl), rfl⟩
theorem we_105 : (Cond.instanceMethod ⟨"PrefixCodes", "code", "(I)I"⟩ : Cond) ∈ gW := List.mem_filter.mpr ⟨gt2 _ (List.mem_of_getElem? (i := 121) rfl), rfl⟩
theorem we_106 : (Cond.selects "PrefixCodes" ⟨"PrefixCodes", "code", "(I)I"⟩ ⟨"PrefixCodes", "code", "(I)I"⟩ : Cond) ∈ gW := List.mem_filter.mpr ⟨gt2 _ (List.mem_of_getElem? (i := 122) rfl), rfl⟩
theorem we_107 : (Cond.code ⟨"PrefixCodesModel", "code", "(I)I"⟩ prog_13_method_7_code 2 (some .int) : Cond) ∈ gW := List.mem_filter.mpr ⟨gt5 _ (List.mem_of_getElem? (i := 41) rfl), rfl⟩
theorem we_108 : (Cond.methodLink "PrefixCodesLaw" 29 ⟨"PrefixCodesModel", "code", "(I)I"⟩ : Cond) ∈ gW := List.mem_filter.mpr ⟨gt5 _ (List.mem_of_getElem? (i := 38) rfl), rfl⟩
theorem we_109 : (Cond.instanceMethod ⟨"PrefixCodesModel", "code", "(I)I"⟩ : Cond) ∈ gW := List.mem_filter.mpr ⟨gt5 _ (List.mem_of_getElem? (i := 39) rfl), rfl⟩
theorem we_110 : (Cond.selects "PrefixCodesModel" ⟨"PrefixCodesModel", "code", "(I)I"⟩ ⟨"PrefixCodesModel", "code", "(I)I"⟩ : Cond) ∈ gW := List.mem_filter.mpr ⟨gt5 _ (List.mem_of_getElem? (i := 40) rfl), rfl⟩
theorem we_111 : (Cond.code ⟨"PrefixCodes", "length", "(III)I"⟩ prog_1_method_3_code 6 (some .int) : Cond) ∈ gW := List.mem_filter.mpr ⟨gt2 _ (List.mem_of_getElem? (i := 135) rfl), rfl⟩
theorem we_112 : (Cond.methodLink "PrefixCodesLaw" 30 ⟨"PrefixCodes", "length", "(III)I"⟩ : Cond) ∈ gW := List.mem_filter.mpr ⟨gt2 _ (List.mem_of_getElem? (i := 132) rfl), rfl⟩
theorem we_113 : (Cond.instanceMethod ⟨"PrefixCodes", "length", "(III)I"⟩ : Cond) ∈ gW := List.mem_filter.mpr ⟨gt2 _ (List.mem_of_getElem? (i := 133) rfl), rfl⟩
theorem we_114 : (Cond.selects "PrefixCodes" ⟨"PrefixCodes", "length", "(III)I"⟩ ⟨"PrefixCodes", "length", "(III)I"⟩ : Cond) ∈ gW := List.mem_filter.mpr ⟨gt2 _ (List.mem_of_getElem? (i := 134) rfl), rfl⟩
theorem we_115 : (Cond.code ⟨"PrefixCodesModel", "length", "(III)I"⟩ prog_13_method_8_code 5 (some .int) : Cond) ∈ gW := List.mem_filter.mpr ⟨gt5 _ (List.mem_of_getElem? (i := 49) rfl), rfl⟩
theorem we_116 : (Cond.methodLink "PrefixCodesLaw" 34 ⟨"PrefixCodesModel", "length", "(III)I"⟩ : Cond) ∈ gW := List.mem_filter.mpr ⟨gt5 _ (List.mem_of_getElem? (i := 46) rfl), rfl⟩
theorem we_117 : (Cond.instanceMethod ⟨"PrefixCodesModel", "length", "(III)I"⟩ : Cond) ∈ gW := List.mem_filter.mpr ⟨gt5 _ (List.mem_of_getElem? (i := 47) rfl), rfl⟩
theorem we_118 : (Cond.selects "PrefixCodesModel" ⟨"PrefixCodesModel", "length", "(III)I"⟩ ⟨"PrefixCodesModel", "length", "(III)I"⟩ : Cond) ∈ gW := List.mem_filter.mpr ⟨gt5 _ (List.mem_of_getElem? (i := 48) rfl), rfl⟩
theorem we_119 : (Cond.code ⟨"PrefixCodes", "about", "(II)I"⟩ prog_1_method_4_code 4 (some .int) : Cond) ∈ gW := List.mem_filter.mpr ⟨gt2 _ (List.mem_of_getElem? (i := 171) rfl), rfl⟩
theorem we_120 : (Cond.methodLink "PrefixCodesLaw" 35 ⟨"PrefixCodes", "about", "(II)I"⟩ : Cond) ∈ gW := List.mem_filter.mpr ⟨gt2 _ (List.mem_of_getElem? (i := 168) rfl), rfl⟩
theorem we_121 : (Cond.instanceMethod ⟨"PrefixCodes", "about", "(II)I"⟩ : Cond) ∈ gW := List.mem_filter.mpr ⟨gt2 _ (List.mem_of_getElem? (i := 169) rfl), rfl⟩
theorem we_122 : (Cond.selects "PrefixCodes" ⟨"PrefixCodes", "about", "(II)I"⟩ ⟨"PrefixCodes", "about", "(II)I"⟩ : Cond) ∈ gW := List.mem_filter.mpr ⟨gt2 _ (List.mem_of_getElem? (i := 170) rfl), rfl⟩
theorem we_123 : (Cond.code ⟨"PrefixCodesModel", "about", "(II)I"⟩ prog_13_method_13_code 3 (some .int) : Cond) ∈ gW := List.mem_filter.mpr ⟨gt5 _ (List.mem_of_getElem? (i := 65) rfl), rfl⟩
theorem we_124 : (Cond.methodLink "PrefixCodesLaw" 38 ⟨"PrefixCodesModel", "about", "(II)I"⟩ : Cond) ∈ gW := List.mem_filter.mpr ⟨gt5 _ (List.mem_of_getElem? (i := 62) rfl), rfl⟩
theorem we_125 : (Cond.instanceMethod ⟨"PrefixCodesModel", "about", "(II)I"⟩ : Cond) ∈ gW := List.mem_filter.mpr ⟨gt5 _ (List.mem_of_getElem? (i := 63) rfl), rfl⟩
theorem we_126 : (Cond.selects "PrefixCodesModel" ⟨"PrefixCodesModel", "about", "(II)I"⟩ ⟨"PrefixCodesModel", "about", "(II)I"⟩ : Cond) ∈ gW := List.mem_filter.mpr ⟨gt5 _ (List.mem_of_getElem? (i := 64) rfl), rfl⟩
theorem we_127 : (Cond.code ⟨"PrefixCodes", "word", "(IIZ)I"⟩ prog_1_method_5_code 5 (some .int) : Cond) ∈ gW := List.mem_filter.mpr ⟨gt2 _ (List.mem_of_getElem? (i := 175) rfl), rfl⟩
theorem we_128 : (Cond.methodLink "PrefixCodesLaw" 39 ⟨"PrefixCodes", "word", "(IIZ)I"⟩ : Cond) ∈ gW := List.mem_filter.mpr ⟨gt2 _ (List.mem_of_getElem? (i := 172) rfl), rfl⟩
theorem we_129 : (Cond.instanceMethod ⟨"PrefixCodes", "word", "(IIZ)I"⟩ : Cond) ∈ gW := List.mem_filter.mpr ⟨gt2 _ (List.mem_of_getElem? (i := 173) rfl), rfl⟩
theorem we_130 : (Cond.selects "PrefixCodes" ⟨"PrefixCodes", "word", "(IIZ)I"⟩ ⟨"PrefixCodes", "word", "(IIZ)I"⟩ : Cond) ∈ gW := List.mem_filter.mpr ⟨gt2 _ (List.mem_of_getElem? (i := 174) rfl), rfl⟩
theorem we_131 : (Cond.methodLink "PrefixCodesLaw" 43 ⟨"PrefixCodesModel", "word", "(IIZ)I"⟩ : Cond) ∈ gW := List.mem_filter.mpr ⟨gt5 _ (List.mem_of_getElem? (i := 83) rfl), rfl⟩
theorem we_132 : (Cond.code ⟨"PrefixCodes", "count", "(II)I"⟩ prog_1_method_6_code 4 (some .int) : Cond) ∈ gW := List.mem_filter.mpr ⟨gt2 _ (List.mem_of_getElem? (i := 187) rfl), rfl⟩
theorem we_133 : (Cond.methodLink "PrefixCodesLaw" 44 ⟨"PrefixCodes", "count", "(II)I"⟩ : Cond) ∈ gW := List.mem_filter.mpr ⟨gt2 _ (List.mem_of_getElem? (i := 184) rfl), rfl⟩
theorem we_134 : (Cond.instanceMethod ⟨"PrefixCodes", "count", "(II)I"⟩ : Cond) ∈ gW := List.mem_filter.mpr ⟨gt2 _ (List.mem_of_getElem? (i := 185) rfl), rfl⟩
theorem we_135 : (Cond.selects "PrefixCodes" ⟨"PrefixCodes", "count", "(II)I"⟩ ⟨"PrefixCodes", "count", "(II)I"⟩ : Cond) ∈ gW := List.mem_filter.mpr ⟨gt2 _ (List.mem_of_getElem? (i := 186) rfl), rfl⟩
theorem we_136 : (Cond.code ⟨"PrefixCodesModel", "count", "(II)I"⟩ prog_13_method_17_code 4 (some .int) : Cond) ∈ gW := List.mem_filter.mpr ⟨gt5 _ (List.mem_of_getElem? (i := 97) rfl), rfl⟩
theorem we_137 : (Cond.methodLink "PrefixCodesLaw" 47 ⟨"PrefixCodesModel", "count", "(II)I"⟩ : Cond) ∈ gW := List.mem_filter.mpr ⟨gt5 _ (List.mem_of_getElem? (i := 94) rfl), rfl⟩
theorem we_138 : (Cond.instanceMethod ⟨"PrefixCodesModel", "count", "(II)I"⟩ : Cond) ∈ gW := List.mem_filter.mpr ⟨gt5 _ (List.mem_of_getElem? (i := 95) rfl), rfl⟩
theorem we_139 : (Cond.selects "PrefixCodesModel" ⟨"PrefixCodesModel", "count", "(II)I"⟩ ⟨"PrefixCodesModel", "count", "(II)I"⟩ : Cond) ∈ gW := List.mem_filter.mpr ⟨gt5 _ (List.mem_of_getElem? (i := 96) rfl), rfl⟩
theorem we_140 : (Cond.code ⟨"PrefixCodes", "countText", "()I"⟩ prog_1_method_7_code 1 (some .int) : Cond) ∈ gW := List.mem_filter.mpr ⟨gt2 _ (List.mem_of_getElem? (i := 192) rfl), rfl⟩
theorem we_141 : (Cond.methodLink "PrefixCodesLaw" 48 ⟨"PrefixCodes", "countText", "()I"⟩ : Cond) ∈ gW := List.mem_filter.mpr ⟨gt2 _ (List.mem_of_getElem? (i := 189) rfl), rfl⟩
theorem we_142 : (Cond.instanceMethod ⟨"PrefixCodes", "countText", "()I"⟩ : Cond) ∈ gW := List.mem_filter.mpr ⟨gt2 _ (List.mem_of_getElem? (i := 190) rfl), rfl⟩
theorem we_143 : (Cond.selects "PrefixCodes" ⟨"PrefixCodes", "countText", "()I"⟩ ⟨"PrefixCodes", "countText", "()I"⟩ : Cond) ∈ gW := List.mem_filter.mpr ⟨gt2 _ (List.mem_of_getElem? (i := 191) rfl), rfl⟩
theorem we_144 : (Cond.code ⟨"PrefixCodesModel", "countText", "()I"⟩ prog_13_method_18_code 2 (some .int) : Cond) ∈ gW := List.mem_filter.mpr ⟨gt5 _ (List.mem_of_getElem? (i := 102) rfl), rfl⟩
theorem we_145 : (Cond.methodLink "PrefixCodesLaw" 52 ⟨"PrefixCodesModel", "countText", "()I"⟩ : Cond) ∈ gW := List.mem_filter.mpr ⟨gt5 _ (List.mem_of_getElem? (i := 99) rfl), rfl⟩
theorem we_146 : (Cond.instanceMethod ⟨"PrefixCodesModel", "countText", "()I"⟩ : Cond) ∈ gW := List.mem_filter.mpr ⟨gt5 _ (List.mem_of_getElem? (i := 100) rfl), rfl⟩
theorem we_147 : (Cond.selects "PrefixCodesModel" ⟨"PrefixCodesModel", "countText", "()I"⟩ ⟨"PrefixCodesModel", "countText", "()I"⟩ : Cond) ∈ gW := List.mem_filter.mpr ⟨gt5 _ (List.mem_of_getElem? (i := 101) rfl), rfl⟩
theorem we_148 : (Cond.code ⟨"PrefixCodes", "least", "(II)I"⟩ prog_1_method_8_code 4 (some .int) : Cond) ∈ gW := List.mem_filter.mpr ⟨gt2 _ (List.mem_of_getElem? (i := 205) rfl), rfl⟩
theorem we_149 : (Cond.methodLink "PrefixCodesLaw" 53 ⟨"PrefixCodes", "least", "(II)I"⟩ : Cond) ∈ gW := List.mem_filter.mpr ⟨gt2 _ (List.mem_of_getElem? (i := 202) rfl), rfl⟩
theorem we_150 : (Cond.instanceMethod ⟨"PrefixCodes", "least", "(II)I"⟩ : Cond) ∈ gW := List.mem_filter.mpr ⟨gt2 _ (List.mem_of_getElem? (i := 203) rfl), rfl⟩
theorem we_151 : (Cond.selects "PrefixCodes" ⟨"PrefixCodes", "least", "(II)I"⟩ ⟨"PrefixCodes", "least", "(II)I"⟩ : Cond) ∈ gW := List.mem_filter.mpr ⟨gt2 _ (List.mem_of_getElem? (i := 204) rfl), rfl⟩
theorem we_152 : (Cond.code ⟨"PrefixCodesModel", "least", "(II)I"⟩ prog_13_method_22_code 5 (some .int) : Cond) ∈ gW := List.mem_filter.mpr ⟨gt5 _ (List.mem_of_getElem? (i := 109) rfl), rfl⟩
theorem we_153 : (Cond.methodLink "PrefixCodesLaw" 56 ⟨"PrefixCodesModel", "least", "(II)I"⟩ : Cond) ∈ gW := List.mem_filter.mpr ⟨gt5 _ (List.mem_of_getElem? (i := 106) rfl), rfl⟩
theorem we_154 : (Cond.instanceMethod ⟨"PrefixCodesModel", "least", "(II)I"⟩ : Cond) ∈ gW := List.mem_filter.mpr ⟨gt5 _ (List.mem_of_getElem? (i := 107) rfl), rfl⟩
theorem we_155 : (Cond.selects "PrefixCodesModel" ⟨"PrefixCodesModel", "least", "(II)I"⟩ ⟨"PrefixCodesModel", "least", "(II)I"⟩ : Cond) ∈ gW := List.mem_filter.mpr ⟨gt5 _ (List.mem_of_getElem? (i := 108) rfl), rfl⟩
theorem we_156 : (Cond.code ⟨"PrefixCodes", "cost", "(I)J"⟩ prog_1_method_9_code 6 (some .long) : Cond) ∈ gW := List.mem_filter.mpr ⟨gt2 _ (List.mem_of_getElem? (i := 235) rfl), rfl⟩
theorem we_157 : (Cond.methodLink "PrefixCodesLaw" 57 ⟨"PrefixCodes", "cost", "(I)J"⟩ : Cond) ∈ gW := List.mem_filter.mpr ⟨gt2 _ (List.mem_of_getElem? (i := 232) rfl), rfl⟩
theorem we_158 : (Cond.instanceMethod ⟨"PrefixCodes", "cost", "(I)J"⟩ : Cond) ∈ gW := List.mem_filter.mpr ⟨gt2 _ (List.mem_of_getElem? (i := 233) rfl), rfl⟩
theorem we_159 : (Cond.selects "PrefixCodes" ⟨"PrefixCodes", "cost", "(I)J"⟩ ⟨"PrefixCodes", "cost", "(I)J"⟩ : Cond) ∈ gW := List.mem_filter.mpr ⟨gt2 _ (List.mem_of_getElem? (i := 234) rfl), rfl⟩
theorem we_160 : (Cond.code ⟨"PrefixCodesModel", "cost", "(I)J"⟩ prog_13_method_23_code 5 (some .long) : Cond) ∈ gW := List.mem_filter.mpr ⟨gt5 _ (List.mem_of_getElem? (i := 121) rfl), rfl⟩
theorem we_161 : (Cond.methodLink "PrefixCodesLaw" 61 ⟨"PrefixCodesModel", "cost", "(I)J"⟩ : Cond) ∈ gW := List.mem_filter.mpr ⟨gt5 _ (List.mem_of_getElem? (i := 118) rfl), rfl⟩
theorem we_162 : (Cond.instanceMethod ⟨"PrefixCodesModel", "cost", "(I)J"⟩ : Cond) ∈ gW := List.mem_filter.mpr ⟨gt5 _ (List.mem_of_getElem? (i := 119) rfl), rfl⟩
theorem we_163 : (Cond.selects "PrefixCodesModel" ⟨"PrefixCodesModel", "cost", "(I)J"⟩ ⟨"PrefixCodesModel", "cost", "(I)J"⟩ : Cond) ∈ gW := List.mem_filter.mpr ⟨gt5 _ (List.mem_of_getElem? (i := 120) rfl), rfl⟩
theorem we_164 : (Cond.code ⟨"PrefixCodes", "bits", "()I"⟩ prog_1_method_10_code 1 (some .int) : Cond) ∈ gW := List.mem_filter.mpr ⟨gt3 _ (List.mem_of_getElem? (i := 0) rfl), rfl⟩
theorem we_165 : (Cond.methodLink "PrefixCodesLaw" 62 ⟨"PrefixCodes", "bits", "()I"⟩ : Cond) ∈ gW := List.mem_filter.mpr ⟨gt2 _ (List.mem_of_getElem? (i := 237) rfl), rfl⟩
theorem we_166 : (Cond.instanceMethod ⟨"PrefixCodes", "bits", "()I"⟩ : Cond) ∈ gW := List.mem_filter.mpr ⟨gt2 _ (List.mem_of_getElem? (i := 238) rfl), rfl⟩
theorem we_167 : (Cond.selects "PrefixCodes" ⟨"PrefixCodes", "bits", "()I"⟩ ⟨"PrefixCodes", "bits", "()I"⟩ : Cond) ∈ gW := List.mem_filter.mpr ⟨gt2 _ (List.mem_of_getElem? (i := 239) rfl), rfl⟩
theorem we_168 : (Cond.code ⟨"PrefixCodesModel", "bits", "()I"⟩ prog_13_method_24_code 1 (some .int) : Cond) ∈ gW := List.mem_filter.mpr ⟨gt5 _ (List.mem_of_getElem? (i := 126) rfl), rfl⟩
theorem we_169 : (Cond.methodLink "PrefixCodesLaw" 65 ⟨"PrefixCodesModel", "bits", "()I"⟩ : Cond) ∈ gW := List.mem_filter.mpr ⟨gt5 _ (List.mem_of_getElem? (i := 123) rfl), rfl⟩
theorem we_170 : (Cond.instanceMethod ⟨"PrefixCodesModel", "bits", "()I"⟩ : Cond) ∈ gW := List.mem_filter.mpr ⟨gt5 _ (List.mem_of_getElem? (i := 124) rfl), rfl⟩
theorem we_171 : (Cond.selects "PrefixCodesModel" ⟨"PrefixCodesModel", "bits", "()I"⟩ ⟨"PrefixCodesModel", "bits", "()I"⟩ : Cond) ∈ gW := List.mem_filter.mpr ⟨gt5 _ (List.mem_of_getElem? (i := 125) rfl), rfl⟩
theorem we_172 : (Cond.initialized "PrefixCodesLaw" : Cond) ∈ gW := List.mem_filter.mpr ⟨gt1 _ (List.mem_of_getElem? (i := 0) rfl), rfl⟩
theorem we_173 : (Cond.methodLink "PrefixCodesLaw" 66 ⟨"PrefixCodesLaw", "bit", "(LPrefixCodes;I[J)I"⟩ : Cond) ∈ gW := List.mem_filter.mpr ⟨gt4 _ (List.mem_of_getElem? (i := 52) rfl), rfl⟩
theorem we_174 : (Cond.static ⟨"PrefixCodesLaw", "bit", "(LPrefixCodes;I[J)I"⟩ : Cond) ∈ gW := List.mem_filter.mpr ⟨gt4 _ (List.mem_of_getElem? (i := 53) rfl), rfl⟩
theorem we_175 : (Cond.code ⟨"PrefixCodesModel", "bit", "(I)I"⟩ prog_13_method_25_code 2 (some .int) : Cond) ∈ gW := List.mem_filter.mpr ⟨gt5 _ (List.mem_of_getElem? (i := 130) rfl), rfl⟩
theorem we_176 : (Cond.methodLink "PrefixCodesLaw" 71 ⟨"PrefixCodesModel", "bit", "(I)I"⟩ : Cond) ∈ gW := List.mem_filter.mpr ⟨gt5 _ (List.mem_of_getElem? (i := 127) rfl), rfl⟩
theorem we_177 : (Cond.instanceMethod ⟨"PrefixCodesModel", "bit", "(I)I"⟩ : Cond) ∈ gW := List.mem_filter.mpr ⟨gt5 _ (List.mem_of_getElem? (i := 128) rfl), rfl⟩
theorem we_178 : (Cond.selects "PrefixCodesModel" ⟨"PrefixCodesModel", "bit", "(I)I"⟩ ⟨"PrefixCodesModel", "bit", "(I)I"⟩ : Cond) ∈ gW := List.mem_filter.mpr ⟨gt5 _ (List.mem_of_getElem? (i := 129) rfl), rfl⟩
theorem we_179 : (Cond.code ⟨"PrefixCodesModel", "thrown", "()I"⟩ prog_13_method_2_code 1 (some .int) : Cond) ∈ gW := List.mem_filter.mpr ⟨gt5 _ (List.mem_of_getElem? (i := 37) rfl), rfl⟩
theorem we_180 : (Cond.methodLink "PrefixCodesLaw" 72 ⟨"PrefixCodesModel", "thrown", "()I"⟩ : Cond) ∈ gW := List.mem_filter.mpr ⟨gt5 _ (List.mem_of_getElem? (i := 34) rfl), rfl⟩
theorem we_181 : (Cond.instanceMethod ⟨"PrefixCodesModel", "thrown", "()I"⟩ : Cond) ∈ gW := List.mem_filter.mpr ⟨gt5 _ (List.mem_of_getElem? (i := 35) rfl), rfl⟩
theorem we_182 : (Cond.selects "PrefixCodesModel" ⟨"PrefixCodesModel", "thrown", "()I"⟩ ⟨"PrefixCodesModel", "thrown", "()I"⟩ : Cond) ∈ gW := List.mem_filter.mpr ⟨gt5 _ (List.mem_of_getElem? (i := 36) rfl), rfl⟩
theorem we_183 : (Cond.code ⟨"PrefixCodes", "clear", "()I"⟩ prog_1_method_12_code 2 (some .int) : Cond) ∈ gW := List.mem_filter.mpr ⟨gt3 _ (List.mem_of_getElem? (i := 4) rfl), rfl⟩
theorem we_184 : (Cond.methodLink "PrefixCodesLaw" 75 ⟨"PrefixCodes", "clear", "()I"⟩ : Cond) ∈ gW := List.mem_filter.mpr ⟨gt3 _ (List.mem_of_getElem? (i := 1) rfl), rfl⟩
theorem we_185 : (Cond.instanceMethod ⟨"PrefixCodes", "clear", "()I"⟩ : Cond) ∈ gW := List.mem_filter.mpr ⟨gt3 _ (List.mem_of_getElem? (i := 2) rfl), rfl⟩
theorem we_186 : (Cond.selects "PrefixCodes" ⟨"PrefixCodes", "clear", "()I"⟩ ⟨"PrefixCodes", "clear", "()I"⟩ : Cond) ∈ gW := List.mem_filter.mpr ⟨gt3 _ (List.mem_of_getElem? (i := 3) rfl), rfl⟩
theorem we_187 : (Cond.code ⟨"PrefixCodesModel", "clear", "()I"⟩ prog_13_method_26_code 2 (some .int) : Cond) ∈ gW := List.mem_filter.mpr ⟨gt5 _ (List.mem_of_getElem? (i := 134) rfl), rfl⟩
theorem we_188 : (Cond.methodLink "PrefixCodesLaw" 78 ⟨"PrefixCodesModel", "clear", "()I"⟩ : Cond) ∈ gW := List.mem_filter.mpr ⟨gt5 _ (List.mem_of_getElem? (i := 131) rfl), rfl⟩
theorem we_189 : (Cond.instanceMethod ⟨"PrefixCodesModel", "clear", "()I"⟩ : Cond) ∈ gW := List.mem_filter.mpr ⟨gt5 _ (List.mem_of_getElem? (i := 132) rfl), rfl⟩
theorem we_190 : (Cond.selects "PrefixCodesModel" ⟨"PrefixCodesModel", "clear", "()I"⟩ ⟨"PrefixCodesModel", "clear", "()I"⟩ : Cond) ∈ gW := List.mem_filter.mpr ⟨gt5 _ (List.mem_of_getElem? (i := 133) rfl), rfl⟩
theorem we_191 : (Cond.code ⟨"PrefixCodes", "putNumber", "(II)I"⟩ prog_1_method_13_code 3 (some .int) : Cond) ∈ gW := List.mem_filter.mpr ⟨gt3 _ (List.mem_of_getElem? (i := 8) rfl), rfl⟩
theorem we_192 : (Cond.methodLink "PrefixCodesLaw" 79 ⟨"PrefixCodes", "putNumber", "(II)I"⟩ : Cond) ∈ gW := List.mem_filter.mpr ⟨gt3 _ (List.mem_of_getElem? (i := 5) rfl), rfl⟩
theorem we_193 : (Cond.instanceMethod ⟨"PrefixCodes", "putNumber", "(II)I"⟩ : Cond) ∈ gW := List.mem_filter.mpr ⟨gt3 _ (List.mem_of_getElem? (i := 6) rfl), rfl⟩
theorem we_194 : (Cond.selects "PrefixCodes" ⟨"PrefixCodes", "putNumber", "(II)I"⟩ ⟨"PrefixCodes", "putNumber", "(II)I"⟩ : Cond) ∈ gW := List.mem_filter.mpr ⟨gt3 _ (List.mem_of_getElem? (i := 7) rfl), rfl⟩
theorem we_195 : (Cond.code ⟨"PrefixCodesModel", "putNumber", "(II)I"⟩ prog_13_method_29_code 3 (some .int) : Cond) ∈ gW := List.mem_filter.mpr ⟨gt5 _ (List.mem_of_getElem? (i := 138) rfl), rfl⟩
theorem we_196 : (Cond.methodLink "PrefixCodesLaw" 82 ⟨"PrefixCodesModel", "putNumber", "(II)I"⟩ : Cond) ∈ gW := List.mem_filter.mpr ⟨gt5 _ (List.mem_of_getElem? (i := 135) rfl), rfl⟩
theorem we_197 : (Cond.instanceMethod ⟨"PrefixCodesModel", "putNumber", "(II)I"⟩ : Cond) ∈ gW := List.mem_filter.mpr ⟨gt5 _ (List.mem_of_getElem? (i := 136) rfl), rfl⟩
theorem we_198 : (Cond.selects "PrefixCodesModel" ⟨"PrefixCodesModel", "putNumber", "(II)I"⟩ ⟨"PrefixCodesModel", "putNumber", "(II)I"⟩ : Cond) ∈ gW := List.mem_filter.mpr ⟨gt5 _ (List.mem_of_getElem? (i := 137) rfl), rfl⟩
theorem we_199 : (Cond.code ⟨"PrefixCodes", "takeNumber", "(I)I"⟩ prog_1_method_14_code 2 (some .int) : Cond) ∈ gW := List.mem_filter.mpr ⟨gt3 _ (List.mem_of_getElem? (i := 28) rfl), rfl⟩
theorem we_200 : (Cond.methodLink "PrefixCodesLaw" 83 ⟨"PrefixCodes", "takeNumber", "(I)I"⟩ : Cond) ∈ gW := List.mem_filter.mpr ⟨gt3 _ (List.mem_of_getElem? (i := 25) rfl), rfl⟩
theorem we_201 : (Cond.instanceMethod ⟨"PrefixCodes", "takeNumber", "(I)I"⟩ : Cond) ∈ gW := List.mem_filter.mpr ⟨gt3 _ (List.mem_of_getElem? (i := 26) rfl), rfl⟩
theorem we_202 : (Cond.selects "PrefixCodes" ⟨"PrefixCodes", "takeNumber", "(I)I"⟩ ⟨"PrefixCodes", "takeNumber", "(I)I"⟩ : Cond) ∈ gW := List.mem_filter.mpr ⟨gt3 _ (List.mem_of_getElem? (i := 27) rfl), rfl⟩
theorem we_203 : (Cond.methodLink "PrefixCodesLaw" 86 ⟨"PrefixCodesModel", "takeNumber", "(I)I"⟩ : Cond) ∈ gW := List.mem_filter.mpr ⟨gt5 _ (List.mem_of_getElem? (i := 147) rfl), rfl⟩
theorem we_204 : (Cond.code ⟨"PrefixCodes", "put", "(IIZ)I"⟩ prog_1_method_15_code 5 (some .int) : Cond) ∈ gW := List.mem_filter.mpr ⟨gt3 _ (List.mem_of_getElem? (i := 44) rfl), rfl⟩
theorem we_205 : (Cond.methodLink "PrefixCodesLaw" 87 ⟨"PrefixCodes", "put", "(IIZ)I"⟩ : Cond) ∈ gW := List.mem_filter.mpr ⟨gt3 _ (List.mem_of_getElem? (i := 41) rfl), rfl⟩
theorem we_206 : (Cond.instanceMethod ⟨"PrefixCodes", "put", "(IIZ)I"⟩ : Cond) ∈ gW := List.mem_filter.mpr ⟨gt3 _ (List.mem_of_getElem? (i := 42) rfl), rfl⟩
theorem we_207 : (Cond.selects "PrefixCodes" ⟨"PrefixCodes", "put", "(IIZ)I"⟩ ⟨"PrefixCodes", "put", "(IIZ)I"⟩ : Cond) ∈ gW := List.mem_filter.mpr ⟨gt3 _ (List.mem_of_getElem? (i := 43) rfl), rfl⟩
theorem we_208 : (Cond.code ⟨"PrefixCodesModel", "put", "(IIZ)I"⟩ prog_13_method_31_code 6 (some .int) : Cond) ∈ gW := List.mem_filter.mpr ⟨gt5 _ (List.mem_of_getElem? (i := 154) rfl), rfl⟩
theorem we_209 : (Cond.methodLink "PrefixCodesLaw" 90 ⟨"PrefixCodesModel", "put", "(IIZ)I"⟩ : Cond) ∈ gW := List.mem_filter.mpr ⟨gt5 _ (List.mem_of_getElem? (i := 151) rfl), rfl⟩
theorem we_210 : (Cond.instanceMethod ⟨"PrefixCodesModel", "put", "(IIZ)I"⟩ : Cond) ∈ gW := List.mem_filter.mpr ⟨gt5 _ (List.mem_of_getElem? (i := 152) rfl), rfl⟩
theorem we_211 : (Cond.selects "PrefixCodesModel" ⟨"PrefixCodesModel", "put", "(IIZ)I"⟩ ⟨"PrefixCodesModel", "put", "(IIZ)I"⟩ : Cond) ∈ gW := List.mem_filter.mpr ⟨gt5 _ (List.mem_of_getElem? (i := 153) rfl), rfl⟩
theorem we_212 : (Cond.code ⟨"PrefixCodes", "take", "(IZ)I"⟩ prog_1_method_16_code 4 (some .int) : Cond) ∈ gW := List.mem_filter.mpr ⟨gt3 _ (List.mem_of_getElem? (i := 48) rfl), rfl⟩
theorem we_213 : (Cond.methodLink "PrefixCodesLaw" 91 ⟨"PrefixCodes", "take", "(IZ)I"⟩ : Cond) ∈ gW := List.mem_filter.mpr ⟨gt3 _ (List.mem_of_getElem? (i := 45) rfl), rfl⟩
theorem we_214 : (Cond.instanceMethod ⟨"PrefixCodes", "take", "(IZ)I"⟩ : Cond) ∈ gW := List.mem_filter.mpr ⟨gt3 _ (List.mem_of_getElem? (i := 46) rfl), rfl⟩
theorem we_215 : (Cond.selects "PrefixCodes" ⟨"PrefixCodes", "take", "(IZ)I"⟩ ⟨"PrefixCodes", "take", "(IZ)I"⟩ : Cond) ∈ gW := List.mem_filter.mpr ⟨gt3 _ (List.mem_of_getElem? (i := 47) rfl), rfl⟩
theorem we_216 : (Cond.code ⟨"PrefixCodesModel", "take", "(IZ)I"⟩ prog_13_method_33_code 4 (some .int) : Cond) ∈ gW := List.mem_filter.mpr ⟨gt5 _ (List.mem_of_getElem? (i := 159) rfl), rfl⟩
theorem we_217 : (Cond.methodLink "PrefixCodesLaw" 95 ⟨"PrefixCodesModel", "take", "(IZ)I"⟩ : Cond) ∈ gW := List.mem_filter.mpr ⟨gt5 _ (List.mem_of_getElem? (i := 156) rfl), rfl⟩
theorem we_218 : (Cond.instanceMethod ⟨"PrefixCodesModel", "take", "(IZ)I"⟩ : Cond) ∈ gW := List.mem_filter.mpr ⟨gt5 _ (List.mem_of_getElem? (i := 157) rfl), rfl⟩
theorem we_219 : (Cond.selects "PrefixCodesModel" ⟨"PrefixCodesModel", "take", "(IZ)I"⟩ ⟨"PrefixCodesModel", "take", "(IZ)I"⟩ : Cond) ∈ gW := List.mem_filter.mpr ⟨gt5 _ (List.mem_of_getElem? (i := 158) rfl), rfl⟩
theorem we_220 : (Cond.code ⟨"PrefixCodes", "pack", "(II)I"⟩ prog_1_method_17_code 4 (some .int) : Cond) ∈ gW := List.mem_filter.mpr ⟨gt3 _ (List.mem_of_getElem? (i := 69) rfl), rfl⟩
theorem we_221 : (Cond.methodLink "PrefixCodesLaw" 96 ⟨"PrefixCodes", "pack", "(II)I"⟩ : Cond) ∈ gW := List.mem_filter.mpr ⟨gt3 _ (List.mem_of_getElem? (i := 66) rfl), rfl⟩
theorem we_222 : (Cond.instanceMethod ⟨"PrefixCodes", "pack", "(II)I"⟩ : Cond) ∈ gW := List.mem_filter.mpr ⟨gt3 _ (List.mem_of_getElem? (i := 67) rfl), rfl⟩
theorem we_223 : (Cond.selects "PrefixCodes" ⟨"PrefixCodes", "pack", "(II)I"⟩ ⟨"PrefixCodes", "pack", "(II)I"⟩ : Cond) ∈ gW := List.mem_filter.mpr ⟨gt3 _ (List.mem_of_getElem? (i := 68) rfl), rfl⟩
theorem we_224 : (Cond.code ⟨"PrefixCodesModel", "pack", "(II)I"⟩ prog_13_method_40_code 4 (some .int) : Cond) ∈ gW := List.mem_filter.mpr ⟨gt5 _ (List.mem_of_getElem? (i := 167) rfl), rfl⟩
theorem we_225 : (Cond.methodLink "PrefixCodesLaw" 99 ⟨"PrefixCodesModel", "pack", "(II)I"⟩ : Cond) ∈ gW := List.mem_filter.mpr ⟨gt5 _ (List.mem_of_getElem? (i := 164) rfl), rfl⟩
theorem we_226 : (Cond.instanceMethod ⟨"PrefixCodesModel", "pack", "(II)I"⟩ : Cond) ∈ gW := List.mem_filter.mpr ⟨gt5 _ (List.mem_of_getElem? (i := 165) rfl), rfl⟩
theorem we_227 : (Cond.selects "PrefixCodesModel" ⟨"PrefixCodesModel", "pack", "(II)I"⟩ ⟨"PrefixCodesModel", "pack", "(II)I"⟩ : Cond) ∈ gW := List.mem_filter.mpr ⟨gt5 _ (List.mem_of_getElem? (i := 166) rfl), rfl⟩
theorem we_228 : (Cond.code ⟨"PrefixCodes", "unpack", "(II)I"⟩ prog_1_method_18_code 6 (some .int) : Cond) ∈ gW := List.mem_filter.mpr ⟨gt3 _ (List.mem_of_getElem? (i := 130) rfl), rfl⟩
theorem we_229 : (Cond.methodLink "PrefixCodesLaw" 100 ⟨"PrefixCodes", "unpack", "(II)I"⟩ : Cond) ∈ gW := List.mem_filter.mpr ⟨gt3 _ (List.mem_of_getElem? (i := 127) rfl), rfl⟩
theorem we_230 : (Cond.instanceMethod ⟨"PrefixCodes", "unpack", "(II)I"⟩ : Cond) ∈ gW := List.mem_filter.mpr ⟨gt3 _ (List.mem_of_getElem? (i := 128) rfl), rfl⟩
theorem we_231 : (Cond.selects "PrefixCodes" ⟨"PrefixCodes", "unpack", "(II)I"⟩ ⟨"PrefixCodes", "unpack", "(II)I"⟩ : Cond) ∈ gW := List.mem_filter.mpr ⟨gt3 _ (List.mem_of_getElem? (i := 129) rfl), rfl⟩
theorem we_232 : (Cond.code ⟨"PrefixCodesModel", "unpack", "(II)I"⟩ prog_13_method_41_code 7 (some .int) : Cond) ∈ gW := List.mem_filter.mpr ⟨gt5 _ (List.mem_of_getElem? (i := 193) rfl), rfl⟩
theorem we_233 : (Cond.methodLink "PrefixCodesLaw" 103 ⟨"PrefixCodesModel", "unpack", "(II)I"⟩ : Cond) ∈ gW := List.mem_filter.mpr ⟨gt5 _ (List.mem_of_getElem? (i := 190) rfl), rfl⟩
theorem we_234 : (Cond.instanceMethod ⟨"PrefixCodesModel", "unpack", "(II)I"⟩ : Cond) ∈ gW := List.mem_filter.mpr ⟨gt5 _ (List.mem_of_getElem? (i := 191) rfl), rfl⟩
theorem we_235 : (Cond.selects "PrefixCodesModel" ⟨"PrefixCodesModel", "unpack", "(II)I"⟩ ⟨"PrefixCodesModel", "unpack", "(II)I"⟩ : Cond) ∈ gW := List.mem_filter.mpr ⟨gt5 _ (List.mem_of_getElem? (i := 192) rfl), rfl⟩
theorem we_236 : (Cond.code ⟨"PrefixCodes", "table", "(II)I"⟩ prog_1_method_19_code 4 (some .int) : Cond) ∈ gW := List.mem_filter.mpr ⟨gt3 _ (List.mem_of_getElem? (i := 175) rfl), rfl⟩
theorem we_237 : (Cond.methodLink "PrefixCodesLaw" 104 ⟨"PrefixCodes", "table", "(II)I"⟩ : Cond) ∈ gW := List.mem_filter.mpr ⟨gt3 _ (List.mem_of_getElem? (i := 172) rfl), rfl⟩
theorem we_238 : (Cond.instanceMethod ⟨"PrefixCodes", "table", "(II)I"⟩ : Cond) ∈ gW := List.mem_filter.mpr ⟨gt3 _ (List.mem_of_getElem? (i := 173) rfl), rfl⟩
theorem we_239 : (Cond.selects "PrefixCodes" ⟨"PrefixCodes", "table", "(II)I"⟩ ⟨"PrefixCodes", "table", "(II)I"⟩ : Cond) ∈ gW := List.mem_filter.mpr ⟨gt3 _ (List.mem_of_getElem? (i := 174) rfl), rfl⟩
theorem we_240 : (Cond.code ⟨"PrefixCodesModel", "table", "(II)I"⟩ prog_13_method_45_code 8 (some .int) : Cond) ∈ gW := List.mem_filter.mpr ⟨gt5 _ (List.mem_of_getElem? (i := 210) rfl), rfl⟩
theorem we_241 : (Cond.methodLink "PrefixCodesLaw" 107 ⟨"PrefixCodesModel", "table", "(II)I"⟩ : Cond) ∈ gW := List.mem_filter.mpr ⟨gt5 _ (List.mem_of_getElem? (i := 207) rfl), rfl⟩
theorem we_242 : (Cond.instanceMethod ⟨"PrefixCodesModel", "table", "(II)I"⟩ : Cond) ∈ gW := List.mem_filter.mpr ⟨gt5 _ (List.mem_of_getElem? (i := 208) rfl), rfl⟩
theorem we_243 : (Cond.selects "PrefixCodesModel" ⟨"PrefixCodesModel", "table", "(II)I"⟩ ⟨"PrefixCodesModel", "table", "(II)I"⟩ : Cond) ∈ gW := List.mem_filter.mpr ⟨gt5 _ (List.mem_of_getElem? (i := 209) rfl), rfl⟩
theorem we_244 : (Cond.methodLink "PrefixCodesLaw" 108 ⟨"PrefixCodesLaw", "entry", "(LPrefixCodes;II[J)I"⟩ : Cond) ∈ gW := List.mem_filter.mpr ⟨gt4 _ (List.mem_of_getElem? (i := 127) rfl), rfl⟩
theorem we_245 : (Cond.static ⟨"PrefixCodesLaw", "entry", "(LPrefixCodes;II[J)I"⟩ : Cond) ∈ gW := List.mem_filter.mpr ⟨gt4 _ (List.mem_of_getElem? (i := 128) rfl), rfl⟩
theorem we_246 : (Cond.code ⟨"PrefixCodesModel", "entry", "(II)I"⟩ prog_13_method_49_code 3 (some .int) : Cond) ∈ gW := List.mem_filter.mpr ⟨gt5 _ (List.mem_of_getElem? (i := 226) rfl), rfl⟩
theorem we_247 : (Cond.methodLink "PrefixCodesLaw" 111 ⟨"PrefixCodesModel", "entry", "(II)I"⟩ : Cond) ∈ gW := List.mem_filter.mpr ⟨gt5 _ (List.mem_of_getElem? (i := 223) rfl), rfl⟩
theorem we_248 : (Cond.instanceMethod ⟨"PrefixCodesModel", "entry", "(II)I"⟩ : Cond) ∈ gW := List.mem_filter.mpr ⟨gt5 _ (List.mem_of_getElem? (i := 224) rfl), rfl⟩
theorem we_249 : (Cond.selects "PrefixCodesModel" ⟨"PrefixCodesModel", "entry", "(II)I"⟩ ⟨"PrefixCodesModel", "entry", "(II)I"⟩ : Cond) ∈ gW := List.mem_filter.mpr ⟨gt5 _ (List.mem_of_getElem? (i := 225) rfl), rfl⟩
theorem we_250 : (Cond.code ⟨"PrefixCodes", "add", "(IIIII)I"⟩ prog_1_method_21_code 6 (some .int) : Cond) ∈ gW := List.mem_filter.mpr ⟨gt3 _ (List.mem_of_getElem? (i := 187) rfl), rfl⟩
theorem we_251 : (Cond.methodLink "PrefixCodesLaw" 112 ⟨"PrefixCodes", "add", "(IIIII)I"⟩ : Cond) ∈ gW := List.mem_filter.mpr ⟨gt3 _ (List.mem_of_getElem? (i := 184) rfl), rfl⟩
theorem we_252 : (Cond.instanceMethod ⟨"PrefixCodes", "add", "(IIIII)I"⟩ : Cond) ∈ gW := List.mem_filter.mpr ⟨gt3 _ (List.mem_of_getElem? (i := 185) rfl), rfl⟩
theorem we_253 : (Cond.selects "PrefixCodes" ⟨"PrefixCodes", "add", "(IIIII)I"⟩ ⟨"PrefixCodes", "add", "(IIIII)I"⟩ : Cond) ∈ gW := List.mem_filter.mpr ⟨gt3 _ (List.mem_of_getElem? (i := 186) rfl), rfl⟩
theorem we_254 : (Cond.code ⟨"PrefixCodesModel", "add", "(IIIII)I"⟩ prog_13_method_50_code 8 (some .int) : Cond) ∈ gW := List.mem_filter.mpr ⟨gt5 _ (List.mem_of_getElem? (i := 230) rfl), rfl⟩
theorem we_255 : (Cond.methodLink "PrefixCodesLaw" 116 ⟨"PrefixCodesModel", "add", "(IIIII)I"⟩ : Cond) ∈ gW := List.mem_filter.mpr ⟨gt5 _ (List.mem_of_getElem? (i := 227) rfl), rfl⟩
theorem we_256 : (Cond.instanceMethod ⟨"PrefixCodesModel", "add", "(IIIII)I"⟩ : Cond) ∈ gW := List.mem_filter.mpr ⟨gt5 _ (List.mem_of_getElem? (i := 228) rfl), rfl⟩
theorem we_257 : (Cond.selects "PrefixCodesModel" ⟨"PrefixCodesModel", "add", "(IIIII)I"⟩ ⟨"PrefixCodesModel", "add", "(IIIII)I"⟩ : Cond) ∈ gW := List.mem_filter.mpr ⟨gt5 _ (List.mem_of_getElem? (i := 229) rfl), rfl⟩
theorem we_258 : (Cond.code ⟨"PrefixCodes", "forget", "()I"⟩ prog_1_method_22_code 2 (some .int) : Cond) ∈ gW := List.mem_filter.mpr ⟨gt3 _ (List.mem_of_getElem? (i := 196) rfl), rfl⟩
theorem we_259 : (Cond.methodLink "PrefixCodesLaw" 117 ⟨"PrefixCodes", "forget", "()I"⟩ : Cond) ∈ gW := List.mem_filter.mpr ⟨gt3 _ (List.mem_of_getElem? (i := 193) rfl), rfl⟩
theorem we_260 : (Cond.instanceMethod ⟨"PrefixCodes", "forget", "()I"⟩ : Cond) ∈ gW := List.mem_filter.mpr ⟨gt3 _ (List.mem_of_getElem? (i := 194) rfl), rfl⟩
theorem we_261 : (Cond.selects "PrefixCodes" ⟨"PrefixCodes", "forget", "()I"⟩ ⟨"PrefixCodes", "forget", "()I"⟩ : Cond) ∈ gW := List.mem_filter.mpr ⟨gt3 _ (List.mem_of_getElem? (i := 195) rfl), rfl⟩
theorem we_262 : (Cond.code ⟨"PrefixCodesModel", "forget", "()I"⟩ prog_13_method_52_code 2 (some .int) : Cond) ∈ gW := List.mem_filter.mpr ⟨gt5 _ (List.mem_of_getElem? (i := 237) rfl), rfl⟩
theorem we_263 : (Cond.methodLink "PrefixCodesLaw" 120 ⟨"PrefixCodesModel", "forget", "()I"⟩ : Cond) ∈ gW := List.mem_filter.mpr ⟨gt5 _ (List.mem_of_getElem? (i := 234) rfl), rfl⟩
theorem we_264 : (Cond.instanceMethod ⟨"PrefixCodesModel", "forget", "()I"⟩ : Cond) ∈ gW := List.mem_filter.mpr ⟨gt5 _ (List.mem_of_getElem? (i := 235) rfl), rfl⟩
theorem we_265 : (Cond.selects "PrefixCodesModel" ⟨"PrefixCodesModel", "forget", "()I"⟩ ⟨"PrefixCodesModel", "forget", "()I"⟩ : Cond) ∈ gW := List.mem_filter.mpr ⟨gt5 _ (List.mem_of_getElem? (i := 236) rfl), rfl⟩
theorem we_266 : (Cond.code ⟨"PrefixCodes", "choose", "(IIII)I"⟩ prog_1_method_23_code 9 (some .int) : Cond) ∈ gW := List.mem_filter.mpr ⟨gt3 _ (List.mem_of_getElem? (i := 200) rfl), rfl⟩
theorem we_267 : (Cond.methodLink "PrefixCodesLaw" 121 ⟨"PrefixCodes", "choose", "(IIII)I"⟩ : Cond) ∈ gW := List.mem_filter.mpr ⟨gt3 _ (List.mem_of_getElem? (i := 197) rfl), rfl⟩
theorem we_268 : (Cond.instanceMethod ⟨"PrefixCodes", "choose", "(IIII)I"⟩ : Cond) ∈ gW := List.mem_filter.mpr ⟨gt3 _ (List.mem_of_getElem? (i := 198) rfl), rfl⟩
theorem we_269 : (Cond.selects "PrefixCodes" ⟨"PrefixCodes", "choose", "(IIII)I"⟩ ⟨"PrefixCodes", "choose", "(IIII)I"⟩ : Cond) ∈ gW := List.mem_filter.mpr ⟨gt3 _ (List.mem_of_getElem? (i := 199) rfl), rfl⟩
theorem we_270 : (Cond.code ⟨"PrefixCodesModel", "choose", "(IIII)I"⟩ prog_13_method_55_code 7 (some .int) : Cond) ∈ gW := List.mem_filter.mpr ⟨gt6 _ (List.mem_of_getElem? (i := 1) rfl), rfl⟩
theorem we_271 : (Cond.methodLink "PrefixCodesLaw" 125 ⟨"PrefixCodesModel", "choose", "(IIII)I"⟩ : Cond) ∈ gW := List.mem_filter.mpr ⟨gt5 _ (List.mem_of_getElem? (i := 238) rfl), rfl⟩
theorem we_272 : (Cond.instanceMethod ⟨"PrefixCodesModel", "choose", "(IIII)I"⟩ : Cond) ∈ gW := List.mem_filter.mpr ⟨gt5 _ (List.mem_of_getElem? (i := 239) rfl), rfl⟩
theorem we_273 : (Cond.selects "PrefixCodesModel" ⟨"PrefixCodesModel", "choose", "(IIII)I"⟩ ⟨"PrefixCodesModel", "choose", "(IIII)I"⟩ : Cond) ∈ gW := List.mem_filter.mpr ⟨gt6 _ (List.mem_of_getElem? (i := 0) rfl), rfl⟩
theorem we_274 : (Cond.code ⟨"PrefixCodes", "group", "(I)I"⟩ prog_1_method_24_code 2 (some .int) : Cond) ∈ gW := List.mem_filter.mpr ⟨gt4 _ (List.mem_of_getElem? (i := 1) rfl), rfl⟩
theorem we_275 : (Cond.methodLink "PrefixCodesLaw" 126 ⟨"PrefixCodes", "group", "(I)I"⟩ : Cond) ∈ gW := List.mem_filter.mpr ⟨gt3 _ (List.mem_of_getElem? (i := 238) rfl), rfl⟩
theorem we_276 : (Cond.instanceMethod ⟨"PrefixCodes", "group", "(I)I"⟩ : Cond) ∈ gW := List.mem_filter.mpr ⟨gt3 _ (List.mem_of_getElem? (i := 239) rfl), rfl⟩
theorem we_277 : (Cond.selects "PrefixCodes" ⟨"PrefixCodes", "group", "(I)I"⟩ ⟨"PrefixCodes", "group", "(I)I"⟩ : Cond) ∈ gW := List.mem_filter.mpr ⟨gt4 _ (List.mem_of_getElem? (i := 0) rfl), rfl⟩
theorem we_278 : (Cond.code ⟨"PrefixCodesModel", "group", "(I)I"⟩ prog_13_method_57_code 2 (some .int) : Cond) ∈ gW := List.mem_filter.mpr ⟨gt6 _ (List.mem_of_getElem? (i := 17) rfl), rfl⟩
theorem we_279 : (Cond.methodLink "PrefixCodesLaw" 129 ⟨"PrefixCodesModel", "group", "(I)I"⟩ : Cond) ∈ gW := List.mem_filter.mpr ⟨gt6 _ (List.mem_of_getElem? (i := 14) rfl), rfl⟩
theorem we_280 : (Cond.instanceMethod ⟨"PrefixCodesModel", "group", "(I)I"⟩ : Cond) ∈ gW := List.mem_filter.mpr ⟨gt6 _ (List.mem_of_getElem? (i := 15) rfl), rfl⟩
theorem we_281 : (Cond.selects "PrefixCodesModel" ⟨"PrefixCodesModel", "group", "(I)I"⟩ ⟨"PrefixCodesModel", "group", "(I)I"⟩ : Cond) ∈ gW := List.mem_filter.mpr ⟨gt6 _ (List.mem_of_getElem? (i := 16) rfl), rfl⟩
theorem we_282 : (Cond.code ⟨"PrefixCodes", "write", "()I"⟩ prog_1_method_25_code 1 (some .int) : Cond) ∈ gW := List.mem_filter.mpr ⟨gt4 _ (List.mem_of_getElem? (i := 5) rfl), rfl⟩
theorem we_283 : (Cond.methodLink "PrefixCodesLaw" 130 ⟨"PrefixCodes", "write", "()I"⟩ : Cond) ∈ gW := List.mem_filter.mpr ⟨gt4 _ (List.mem_of_getElem? (i := 2) rfl), rfl⟩
theorem we_284 : (Cond.instanceMethod ⟨"PrefixCodes", "write", "()I"⟩ : Cond) ∈ gW := List.mem_filter.mpr ⟨gt4 _ (List.mem_of_getElem? (i := 3) rfl), rfl⟩
theorem we_285 : (Cond.selects "PrefixCodes" ⟨"PrefixCodes", "write", "()I"⟩ ⟨"PrefixCodes", "write", "()I"⟩ : Cond) ∈ gW := List.mem_filter.mpr ⟨gt4 _ (List.mem_of_getElem? (i := 4) rfl), rfl⟩
theorem we_286 : (Cond.code ⟨"PrefixCodesModel", "write", "()I"⟩ prog_13_method_60_code 6 (some .int) : Cond) ∈ gW := List.mem_filter.mpr ⟨gt6 _ (List.mem_of_getElem? (i := 21) rfl), rfl⟩
theorem we_287 : (Cond.methodLink "PrefixCodesLaw" 133 ⟨"PrefixCodesModel", "write", "()I"⟩ : Cond) ∈ gW := List.mem_filter.mpr ⟨gt6 _ (List.mem_of_getElem? (i := 18) rfl), rfl⟩
theorem we_288 : (Cond.instanceMethod ⟨"PrefixCodesModel", "write", "()I"⟩ : Cond) ∈ gW := List.mem_filter.mpr ⟨gt6 _ (List.mem_of_getElem? (i := 19) rfl), rfl⟩
theorem we_289 : (Cond.selects "PrefixCodesModel" ⟨"PrefixCodesModel", "write", "()I"⟩ ⟨"PrefixCodesModel", "write", "()I"⟩ : Cond) ∈ gW := List.mem_filter.mpr ⟨gt6 _ (List.mem_of_getElem? (i := 20) rfl), rfl⟩
theorem we_290 : (Cond.code ⟨"PrefixCodes", "read", "(IIII)I"⟩ prog_1_method_26_code 7 (some .int) : Cond) ∈ gW := List.mem_filter.mpr ⟨gt4 _ (List.mem_of_getElem? (i := 32) rfl), rfl⟩
theorem we_291 : (Cond.methodLink "PrefixCodesLaw" 134 ⟨"PrefixCodes", "read", "(IIII)I"⟩ : Cond) ∈ gW := List.mem_filter.mpr ⟨gt4 _ (List.mem_of_getElem? (i := 29) rfl), rfl⟩
theorem we_292 : (Cond.instanceMethod ⟨"PrefixCodes", "read", "(IIII)I"⟩ : Cond) ∈ gW := List.mem_filter.mpr ⟨gt4 _ (List.mem_of_getElem? (i := 30) rfl), rfl⟩
theorem we_293 : (Cond.selects "PrefixCodes" ⟨"PrefixCodes", "read", "(IIII)I"⟩ ⟨"PrefixCodes", "read", "(IIII)I"⟩ : Cond) ∈ gW := List.mem_filter.mpr ⟨gt4 _ (List.mem_of_getElem? (i := 31) rfl), rfl⟩
theorem we_294 : (Cond.code ⟨"PrefixCodesModel", "read", "(IIII)I"⟩ prog_13_method_61_code 9 (some .int) : Cond) ∈ gW := List.mem_filter.mpr ⟨gt6 _ (List.mem_of_getElem? (i := 33) rfl), rfl⟩
theorem we_295 : (Cond.methodLink "PrefixCodesLaw" 137 ⟨"PrefixCodesModel", "read", "(IIII)I"⟩ : Cond) ∈ gW := List.mem_filter.mpr ⟨gt6 _ (List.mem_of_getElem? (i := 30) rfl), rfl⟩
theorem we_296 : (Cond.instanceMethod ⟨"PrefixCodesModel", "read", "(IIII)I"⟩ : Cond) ∈ gW := List.mem_filter.mpr ⟨gt6 _ (List.mem_of_getElem? (i := 31) rfl), rfl⟩
theorem we_297 : (Cond.selects "PrefixCodesModel" ⟨"PrefixCodesModel", "read", "(IIII)I"⟩ ⟨"PrefixCodesModel", "read", "(IIII)I"⟩ : Cond) ∈ gW := List.mem_filter.mpr ⟨gt6 _ (List.mem_of_getElem? (i := 32) rfl), rfl⟩
theorem we_298 : (Cond.methodLink "PrefixCodesLaw" 138 ⟨"PrefixCodesLaw", "symbol", "(LPrefixCodes;I[J)I"⟩ : Cond) ∈ gW := List.mem_filter.mpr ⟨gt4 _ (List.mem_of_getElem? (i := 158) rfl), rfl⟩
theorem we_299 : (Cond.static ⟨"PrefixCodesLaw", "symbol", "(LPrefixCodes;I[J)I"⟩ : Cond) ∈ gW := List.mem_filter.mpr ⟨gt4 _ (List.mem_of_getElem? (i := 159) rfl), rfl⟩
theorem we_300 : (Cond.code ⟨"PrefixCodesModel", "symbol", "(I)I"⟩ prog_13_method_62_code 2 (some .int) : Cond) ∈ gW := List.mem_filter.mpr ⟨gt6 _ (List.mem_of_getElem? (i := 37) rfl), rfl⟩
theorem we_301 : (Cond.methodLink "PrefixCodesLaw" 140 ⟨"PrefixCodesModel", "symbol", "(I)I"⟩ : Cond) ∈ gW := List.mem_filter.mpr ⟨gt6 _ (List.mem_of_getElem? (i := 34) rfl), rfl⟩
theorem we_302 : (Cond.instanceMethod ⟨"PrefixCodesModel", "symbol", "(I)I"⟩ : Cond) ∈ gW := List.mem_filter.mpr ⟨gt6 _ (List.mem_of_getElem? (i := 35) rfl), rfl⟩
theorem we_303 : (Cond.selects "PrefixCodesModel" ⟨"PrefixCodesModel", "symbol", "(I)I"⟩ ⟨"PrefixCodesModel", "symbol", "(I)I"⟩ : Cond) ∈ gW := List.mem_filter.mpr ⟨gt6 _ (List.mem_of_getElem? (i := 36) rfl), rfl⟩
