/-! ===== a throw out of a method of the class ===== -/
abbrev thX : String := "java/lang/IndexOutOfBoundsException"
abbrev thN : List String := ["java/lang/RuntimeException", "java/lang/Exception"]
def thS : List (Nat × String) := [(146, "there is no such bit"), (201, "there is no such entry, or nothing such to tell of it"), (243, "there is no such symbol in the text")]
def thL : List Cond := Jvm.Bundle.ownAtoms "PrefixCodes" 148 thX thN
/-- the words that no reader of steady words carries -/
def thD : List MethodName := [Jvm.Bundle.initS "java/lang/RuntimeException", Jvm.Bundle.initS "java/lang/Exception", Jvm.Bundle.initS "java/lang/Throwable"]
def thF : List (String × String × String) := [("java/lang/Throwable", "UNASSIGNED_STACK", "[Ljava/lang/StackTraceElement;"), ("java/lang/Throwable", "SUPPRESSED_SENTINEL", "Ljava/util/List;")]
def Thr (A : Nat → Prop) (U : State) : Prop := ∃ s0 : State, s0.WarmedH U.vm ∧ (∀ q, q < s0.heap.size → ¬ A q ∧ U.heap[q]? = s0.heap[q]?) ∧ (∀ w ∈ thL, w.before #[] s0 = true) ∧ ∀ q ∈ thS, (Cond.stringRef "PrefixCodes" q.1 q.2).before #[] s0 = true
theorem Thr.go {A : Nat → Prop} {u U : State} (h : Thr A u) (hW : u.WarmedH U.vm) (hq : ∀ a : Nat, a < u.heap.size → ¬ A a → U.heap[a]? = u.heap[a]?) : Thr A U := by
  obtain ⟨s0, h1, h2, h3, h4⟩ := h
  refine ⟨s0, State.WarmedH.trans h1 hW, fun q hl => ?_, h3, h4⟩
  obtain ⟨z1, z2⟩ := h2 q hl
  refine ⟨z1, ?_⟩
  have : q < u.heap.size := by
    rw [Array.getElem?_eq_getElem hl] at z2
    exact (Array.getElem?_eq_some_iff.mp z2).1
  rw [hq q this z1, z2]
theorem Thr.calling {A : Nat → Prop} {U : State} {g : JFrame} {mk : MethodId} {a : Array Value} (h : Thr A U) : Thr A (U.calling g mk a) := h
theorem th_cl : ∀ w ∈ thL, (w.onTables && w.keeps) = true ∨ (∃ x ∈ thD, w = .declares x) ∨ w = .castable thX thX ∨ ∃ x ∈ thF, w = .laysStatic x.1 x.2.1 x.2.2 ∨ w = .isRef (.static x.1 x.2.1 x.2.2) := by decide +kernel
theorem th_fl : ∀ x ∈ thF, Cond.laysStatic x.1 x.2.1 x.2.2 ∈ thL ∧ Cond.isRef (.static x.1 x.2.1 x.2.2) ∈ thL := by decide +kernel
theorem th_stat {s U : State} {args : Array Value} {C n d : String} (hW : s.WarmedH U.vm) (hq : ∀ q, q < s.heap.size → U.heap[q]? = s.heap[q]?) (h1 : (Cond.laysStatic C n d).before #[] s = true) (h2 : (Cond.isRef (.static C n d)).before #[] s = true) :
    (Cond.laysStatic C n d).before args U = true ∧ (Cond.isRef (.static C n d)).before args U = true := by
  obtain ⟨c, k, i, f, a, cell, hc, hi, hst, ha, hcell, hs, hcls, hlt, hty⟩ := Cond.laysStatic_spec h1
  obtain ⟨k', hi', hek⟩ := State.fieldFound?_setVm hW.alike hi
  have hi2 : U.fieldFound? C n d = some (c, k', i, f) := hi'
  have hcell2 : U.heap[a]? = some cell := by rw [hq a (Array.getElem?_eq_some_iff.mp hcell).1]; exact hcell
  refine ⟨Cond.laysStatic_of (s := U) (by rw [hW.alike.findClass]; exact hc) hi2 hst (by rw [hek]; exact ha) hcell2 hs hcls hlt (by rw [hek]; exact hty), ?_⟩
  have e1 : (Term.static C n d).eval args U none [] U = cell.slots[f.slot]? := by
    simp [Term.eval, State.fieldNamed?, hi2, hst, show k'.statics = some a by rw [hek]; exact ha, hcell2, hs]
  have e0 : (Term.static C n d).eval #[] s none [] s = cell.slots[f.slot]? := by
    simp [Term.eval, State.fieldNamed?, hi, hst, ha, hcell, hs]
  simp only [Cond.before, Cond.holds, Cond.value] at h2 ⊢
  rw [e0] at h2
  rw [e1]
  exact h2
theorem th_use {A : Nat → Prop} {U : State} {args : Array Value} (h : Thr A U) : ∀ w ∈ thL, w.before args U = true := by
  obtain ⟨s0, hW, hq, hw, -⟩ := h
  intro w hm
  have hU : U.setVm U.vm = U := rfl
  rcases th_cl w hm with h | ⟨x, -, rfl⟩ | rfl | ⟨x, hx, h⟩
  · rw [Bool.and_eq_true] at h
    have := Cond.onTables_warm (args' := args) (T := U) hW h.1 h.2 (hw w hm)
    rw [hU] at this
    exact this
  · exact va_Nw.use rfl (va_Nw.warmD hW (hw _ hm))
  · exact va_Nw.use rfl (va_Nw.warmC hW (hw _ hm))
  · obtain ⟨m1, m2⟩ := th_fl x hx
    obtain ⟨z1, z2⟩ := th_stat (args := args) hW (fun q hl => (hq q hl).2) (hw _ m1) (hw _ m2)
    rcases h with rfl | rfl
    · exact z1
    · exact z2
theorem th_str {A : Nat → Prop} {U : State} {args : Array Value} (h : Thr A U) {k : Nat} {tx : String} (hk : (k, tx) ∈ thS) : (Cond.stringRef "PrefixCodes" k tx).before args U = true := by
  obtain ⟨s0, hW, hq, -, hw⟩ := h
  have h1 := hw _ hk
  have h2 : (Cond.stringRef "PrefixCodes" k tx).before #[] (s0.setVm U.vm) = true := Cond.stringRef_warmed hW h1
  simp only [Cond.before, Cond.holds, Cond.value, State.names, State.poolOf?, State.resolvedAt?] at h2 ⊢
  exact h2
/-- what a throwing call leaves: the exception in a new cell, all else as it was -/
def ThQ (_ : Array Value) (st : State) (o : Outcome) (t : State) : Prop := ∃ (x : Addr) (cell : Cell), o = .threw x ∧ st.WarmedH t.vm ∧ st.sameButNew ({ t with vm := st.vm } : State) [] 1 6 ∧ t.heap[x]? = some cell ∧ cell.vm = .none ∧ st.vm.findClass thX = some cell.cls ∧ st.vm.assignable cell.cls cell.cls = true
def ThZ (below : List Frame) (a : Array Value) (s : State) : State → Prop := fun t => ∃ o, t.status = .running ∧ Ended t below o ∧ ThQ a s o t
def MetT (l : Launch) (y : MethodName) (ws : List Cond) (rm : Room) (Pc : Array Value → State → Prop) : Prop := MetFree l y (headSpec ws rm) Pc (fun _ _ _ _ _ => True) ThQ
theorem MetT.ofW {l : Launch} {y : MethodName} {ws ws' : List Cond} {rm : Room} {Pc : Array Value → State → Prop} {cc : ByteArray} {maxL : Nat} {ret : Option FieldType} (hy : plainName y.cls = true) (hw : ws = Cond.code y cc maxL ret :: ws')
    (body : ∀ p e s m args below meth c s₁, BodyLoose p l y (headSpec ws rm) cc maxL ret e s m args below meth c s₁ → c.maxLocals = maxL → Pc args s →
      W p l e (headSpec ws rm).room s m args below meth c s.heap [] 0 0 (ThZ below args s) (entryFrame m args maxL)) : MetT l y ws rm Pc := by
  refine MetFree.of_bodyS (code := cc) (maxLocals := maxL) (ret := ret) hy ?_ ?_
  · intro args s m h hn
    obtain ⟨meth, c, h1, h2, h3, h4, h5, h6, -, -⟩ := Cond.code_spec hn (atoms_spec (ws := ws) h _ (by rw [hw]; exact List.mem_cons_self))
    exact ⟨meth, c, h1, h2, h3, h4, h5, h6⟩
  · intro p e s m args below meth c s₁ B hml hP _
    have hh0 : s₁.heap = s.heap := by rw [B.state]; rfl
    obtain ⟨t, a1, o, b1, b2, b3⟩ := body p e s m args below meth c s₁ B hml hP s₁ hh0 (Stand.of_body B)
    exact ⟨t, o, a1, b1, b2, b3⟩
section THROW
variable {p : Program} {l : Launch} {e : Env} {R : Room} {s : State} {m : MethodId} {args : Array Value} {below : List Frame} {meth : Method} {c : Code} {H : Heap}
variable {cc : ByteArray} {pc : Nat} {ls : Array Slot} {A : Nat → Prop}
set_option maxHeartbeats 1000000 in
theorem st_throw (hexec : p.tables.exec = Jvm.exec) (hb : c.code = cc) (hl : l.stackTraces = false) (hT : Thr A s) (hcl : (Cond.classLink "PrefixCodes" 144 thX).before args s = true) (hini : (Cond.initialized thX).before args s = true) (hown : s.vm.findClass "PrefixCodes" = some m.cls) {k : Nat} {tx : String} (hk : (k, tx) ∈ thS)
    (hempty : c.exceptionTable.isEmpty = true) (hlocks : meth.locks = false) (hsize : ls.size = c.maxLocals) (hHs : s.heap.size ≤ H.size) (hR1 : 6 ≤ R.frames) (hR2 : 1 ≤ R.cells) (hR3 : 6 ≤ R.slots) (hR4 : 100 ≤ R.locals)
    (d0 : decode cc pc = .ok (.new 144, 3)) (d3 : decode cc (pc + 3) = .ok (.dup, 1)) (d4 : decode cc (pc + 4) = .ok (.ldc k, 2)) (d6 : decode cc (pc + 6) = .ok (.invokespecial 148, 3)) (d9 : decode cc (pc + 9) = .ok (.athrow, 1)) :
    W p l e R s m args below meth c H [] 0 0 (ThZ below args s) (F0 m pc ls []) := by
  intro T hTH X
  have htr : e.platform.stackTraces = false := by rw [X.admits.platform]; exact hl
  have hconst := th_str (args := args) hT hk
  have hall := th_use (args := args) hT
  obtain ⟨vm₁, cX, kX, hfX, hkX, -, -, X₁, st1⟩ := X.newCold hexec (own := "PrefixCodes") (C := thX) (index := 144) (n := 6) hown hcl (hall (.instantiable thX 6) (by decide +kernel)) hini (g := F0 m pc ls []) rfl (by rw [hb]; exact d0) (by omega) (by omega)
  generalize hT2 : (T.setVm vm₁).pushCell { cls := cX, slots := kX.instanceTypes.map defaultValue, vm := .none } = T2 at X₁ st1
  have hcellA : T2.heap[T.heap.size]? = some (freshCell cX kX) := by rw [← hT2]; exact State.heap_pushCell_size _ _
  obtain ⟨-, -, -, sa, -, -, -, -, -, hev⟩ := Cond.stringRef_spec hown hconst
  obtain ⟨U, hsteps, hrun, hend, hW, hsame, ce, hce, K⟩ := X₁.ctorThrowS hexec htr (own := "PrefixCodes") (cls := thX) (names := thN) (ic := 148) hown (by decide +kernel) (by decide +kernel) hall (fun y hy => by cases hy) hfX hkX hcellA (by rw [hTH]; exact hHs) (msg := .ref sa) rfl
    (g := F0 m (pc + 6) ls [.ref sa, .ref T.heap.size, .ref T.heap.size]) rfl hsize rfl rfl (rest := []) rfl (by rw [hb]; exact d6) (by rw [hb]; exact d9) (covers_of_empty hempty _) (by show 2 + 3 < R.frames; omega) (by show 2 * 0 + (1 + 0) + (13 * (2 + 1) + 42) ≤ R.locals; omega) hlocks
  refine ⟨U, ?_, .threw T.heap.size, hrun, hend, T.heap.size, ce, rfl, hW, ?_, hce, K.vm, K.cls, K.self⟩
  · refine st1 _ ?_
    show Steps p.tables e below (T2.setTop (F0 m (pc + 3) ls [.ref T.heap.size])) _
    jvm_step X₁.here [X₁.here.top, hexec, hb, d3, Value.category]
    exact X₁.ldcString hexec (own := "PrefixCodes") (text := tx) (index := k) (a := sa) hown hconst hev (g := F0 m (pc + 4) ls [.ref T.heap.size, .ref T.heap.size]) rfl (by rw [hb]; exact d4) _ hsteps
  · exact hsame
end THROW
