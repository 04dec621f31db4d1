/-! ===== the throw is caught by the caller ===== -/
theorem fh_cold {E : CtlPost} {e : Env} {d : Bool} {acts : List Action} {s : State} {f : JFrame} {a : Addr} {Q : Handler → Bool → List Action → State → Prop} {x : ExceptionTableEntry} {t : List ExceptionTableEntry} {vm' : Vm} {cl : ClassId} (hx : covers x f.pc = true) (h0 : x.catchType ≠ 0)
    (hg : (Jvm.resolveClass f.method.cls x.catchType).Gives e.toSetting s.vm (.ok cl) vm') (hr : vm'.classReady f.method.cls x.catchType cl) (hsz : vm'.classes.size ≤ s.vm.classes.size) :
    Sem.wp (findHandler.go f a (x :: t)) Q E e d acts s ↔ Sem.wp (findHandler.go f a (x :: t)) Q E e d acts (s.setVm vm') := by
  obtain ⟨ha, ht⟩ := hg.op (op := VmOp.resolveClass f.method.cls x.catchType) rfl
  obtain ⟨k, hkd, hres⟩ := hr
  simp only [covers] at hx
  simp [findHandler.go, hx, h0, ha, ht, hsz, resolveClass_memo e hkd hres, VmOp.dirties, VmOp.acts]
  exact Iff.rfl
theorem stt_caught {e : Env} {s : State} {a : Addr} {f : JFrame} {r : List Frame} {pc : Nat} {vm' : Vm} (hfind : ∀ (Q : Handler → Bool → List Action → State → Prop) (E : CtlPost) (d : Bool) (acts : List Action), Sem.wp (findHandler f a) Q E e d acts s ↔ Q (.found pc) d acts (s.setVm vm')) :
    (stepThrowing e s a (.java f :: r)).1 = (s.setVm vm').setFrames (.java { f with pc := pc, stack := [.ref a] } :: r) := by
  simp only [stepThrowing, searchFrame, vmDo]
  generalize hr : Sem.go _ e false [] s = res
  obtain ⟨as, rfl, ha⟩ := Sem.eq_ok_of hr (a := Handler.found pc) (s' := s.setVm vm') (acts' := []) (by simp [hfind _ _ _ _])
  rfl
section CATCH
variable {p : Program} {l : Launch} {e : Env} {R : Room} {s : State} {m : MethodId} {args : Array Value} {below : List Frame} {meth : Method} {c : Code} {T : State} {locs : List Loc} {cells slots : Nat}
theorem st_caught (X : Stand p l e R s m args below meth c T locs cells slots) {own C : String} {x : ExceptionTableEntry} (hown : s.vm.findClass own = some m.cls) (hclink : (Cond.classLink own x.catchType C).before args s = true) {a : Addr} {cell : Cell} (hcell : T.heap[a]? = some cell) (hvm : cell.vm = .none) (hcls : s.vm.findClass C = some cell.cls) (hasg : s.vm.assignable cell.cls cell.cls = true)
    {g : JFrame} (hg : g.method = m) (htab : c.exceptionTable.toList = [x]) (hx : covers x g.pc = true) (h0 : x.catchType ≠ 0) :
    ∃ vm' : Vm, Stand p l e R s m args below meth c (T.setVm vm') locs cells slots ∧ ∀ target, Steps p.tables e below ((T.setVm vm').setTop { g with pc := x.handlerPc, stack := [.ref a] }) target → Steps p.tables e below ((T.setTop g).pushFrame (.throwing a)) target := by
  subst hg
  have hpl : e.platform.magicAccessors = ({} : Platform).magicAccessors := by rw [X.admits.platform]
  obtain ⟨cc, hfcc, hcl⟩ := Cond.classLink_spec hown hclink e.platform hpl
  cases hcls.symm.trans hfcc
  obtain ⟨hg₁, hwarm₁, hready₁⟩ := State.classEntry (e := e) X.warmed hcl
  have hsz : (T.vm.noted g.method.cls x.catchType (.cls cell.cls)).classes.size ≤ T.vm.classes.size := by rw [Vm.size_noted]; exact Nat.le_refl _
  generalize T.vm.noted g.method.cls x.catchType (.cls cell.cls) = vm₁ at hg₁ hwarm₁ hready₁ hsz
  obtain ⟨kE, hkE⟩ := Vm.classAt_of_findClass hcls
  obtain ⟨k₁, hk₁, he₁⟩ := hwarm₁.alike.2.2 _ _ hkE
  have hm1 : T.vm.method? g.method = some meth := X.method'
  have hasg₁ : vm₁.assignable cell.cls cell.cls = true := by rw [hwarm₁.alike.assignable]; exact hasg
  have hfind : ∀ (Q : Handler → Bool → List Action → State → Prop) (E : CtlPost) (d : Bool) (acts : List Action), Sem.wp (findHandler g a) Q E e d acts ((T.setTop g).pushFrame (.throwing a)) ↔ Q (.found x.handlerPc) d acts (((T.setTop g).pushFrame (.throwing a)).setVm vm₁) := by
    intro Q E d acts
    rw [W.findHandler_eq (s := (T.setTop g).pushFrame (.throwing a)) (by rw [Stand.throwing_vm]; exact hm1) X.code, htab]
    rw [fh_cold hx h0 (by rw [Stand.throwing_vm]; exact hg₁) hready₁ (by rw [Stand.throwing_vm]; exact hsz)]
    rw [W.findHandler_go_class (s := ((T.setTop g).pushFrame (.throwing a)).setVm vm₁) (cell := cell) hx h0 hready₁ (show ((T.setTop g).pushFrame (.throwing a)).heap[a]? = some cell by rw [Stand.throwing_heap]; exact hcell) (fun k hk => by rw [hvm] at hk; cases hk) ⟨_, hk₁⟩ ⟨_, hk₁⟩, if_pos (show (((T.setTop g).pushFrame (.throwing a)).setVm vm₁).vm.assignable cell.cls cell.cls = true from hasg₁)]
  refine ⟨vm₁, X.noted hwarm₁, fun target hrest => ?_⟩
  have h : At T g.method c below := X.here
  obtain ⟨hgo, hw⟩ := h.throwing a
  refine Steps.head hgo hw ?_
  rw [stepThread_throwing (frames_entered h.top _), stt_caught hfind]
  obtain ⟨g₀, hg0⟩ := Option.isSome_iff_exists.mp h.top
  obtain ⟨r, hr⟩ := State.topJava?_eq_some.mp hg0
  have hr2 : (T.setVm vm₁).frames = .java g₀ :: r := hr
  rw [State.setTop_of_frames _ hr2] at hrest
  have e1 : (((T.setTop g).pushFrame (.throwing a)).setVm vm₁).setFrames (.java { g with pc := x.handlerPc, stack := [.ref a] } :: T.frames.tail) = (T.setVm vm₁).setFrames (.java { g with pc := x.handlerPc, stack := [.ref a] } :: r) := by
    rw [State.pushFrame, State.setTop_of_frames _ hr, State.setFrames_setFrames, hr]
    show ((T.setFrames _).setFrames _).setVm vm₁ = _
    rw [State.setFrames_setFrames]
    rfl
  rw [e1]
  exact hrest
variable {H : Heap} {Q : State → Prop} {cc bytes : ByteArray} {pc nL maxL index n : Nat} {ls : Array Slot} {y : MethodName} {ws Ts : List Cond} {rm : Room} {Pc : Array Value → State → Prop} {ret : Option FieldType} {own C : String} {b : Addr} {As rest st0 : List Value}
set_option maxHeartbeats 1000000 in
theorem st_Vt {x : ExceptionTableEntry} (S : CallFix p m c cc nL s args Ts own) (hM : MetT l y ws rm Pc) (cw : CallW R s args own C index y bytes maxL ret ws rm 1 6 n) (hp : PreV s H C b Pc As) (hclink : (Cond.classLink own x.catchType thX).before args s = true) (htab : c.exceptionTable.toList = [x]) (hx : covers x pc = true) (h0 : x.catchType ≠ 0)
    (hn : As.length = n) (hsize : ls.size = nL) (hstk : st0 = As.reverse ++ .ref b :: rest) (hW : (rest.map fun v => v.category).sum ≤ 8) (hdg : decode cc pc = .ok (.invokevirtual index, 3)) (hf : cells + 1 ≤ R.cells ∧ slots + 6 ≤ R.slots)
    (kk : ∀ (a : Nat) (H1 : Heap), H.size ≤ H1.size → (∀ q : Nat, q < H.size → H1[q]? = H[q]?) → W p l e R s m args below meth c H1 locs (cells + 1) (slots + 6) Q (F0 m x.handlerPc ls [.ref a])) : W p l e R s m args below meth c H locs cells slots Q (F0 m pc ls st0) := by
  intro T hT X
  obtain ⟨hexec, hb, hml, hown, -⟩ := S
  obtain ⟨⟨hrc, hrs, hframes, hlocals, hws, -, hcode, hini, hy, hlen, hlink⟩, hinst, hsel⟩ := cw
  obtain ⟨hblind, ⟨cellB, hcB, hoB, hclB⟩, hPc⟩ := hp
  obtain ⟨mk, methM, hnamed, hmethM, hstM, habM⟩ := Cond.instanceMethod_spec hinst
  obtain ⟨methM', cM, hmethM', hcM, -, hlM, -, -, -, hsigM⟩ := Cond.code_spec hnamed hcode
  cases hmethM.symm.trans hmethM'
  obtain ⟨c2, r2, m2, q1, q2, q3, q4, kP, hkP, hkPi⟩ := Cond.selects_spec hsel
  cases hclB.symm.trans q1
  cases (State.methodFound?_of_named hnamed hy).symm.trans q2
  cases hnamed.symm.trans q3
  have hselP : selectMethod e.platform s.vm cellB.cls mk = .method mk := by rw [Launch.admits_selectMethod X.admits]; exact q4
  obtain ⟨vm₁, X₁, hstep₁⟩ := X.invokevirtual hexec hown hlink hnamed hmethM hstM hkP hkPi hy (a := b) (cell := cellB) (by rw [hT]; exact hcB)
    (fun z h => by rw [h] at hoB; cases hoB) hselP hmethM habM hkP hkPi (g := F0 m pc ls st0) rfl (argsL := As) (rest := rest) (hn.trans (hlen _ hsigM)) hstk (by rw [hb]; exact hdg)
  have hn1 : (T.setVm vm₁).methodNamed? y = some mk := X₁.named hnamed
  have hinitP : kP.init = .initialized := Cond.initialized_spec (findClass_of_methodNamed hnamed) hkP hini
  obtain ⟨kP₁, hkP₁, heP₁⟩ := X₁.warmed.alike.2.2 _ _ hkP
  have h : At (T.setVm vm₁) (F0 m pc ls rest).method c below := X₁.here
  have happ : (headSpec ws rm).appliesLoose y e.platform ((T.setVm vm₁).calling (F0 m pc ls rest) mk (Value.ref b :: As).toArray) = true :=
    Spec.appliesLoose_calling (g := F0 m pc ls rest) h (by rw [hb]; exact hdg) hn1 hkP₁ (by rw [heP₁]; exact hinitP)
      (X₁.room_calling (g := F0 m pc ls rest) (R' := rm) (hsize.trans hml.symm) (show (T.setVm vm₁).vm.method? mk = some methM by rw [X₁.warmed.alike.method?]; exact hmethM) hcM hframes (by rw [hlM]; show 2 * 0 + (rest.map fun v => v.category).sum + (maxL + 11) + rm.locals ≤ R.locals; omega) (by rw [hrc]; exact hf.1) (by rw [hrs]; exact hf.2))
      (atoms_intro fun w hw => hws w hw _ _ X₁.warmed)
  obtain ⟨mid, hmid⟩ := h.above
  have hfr : ((T.setVm vm₁).setTop (F0 m pc ls rest)).frames = (.java (F0 m pc ls rest) :: mid) ++ below := by rw [State.frames_setTop' _ h.top, hmid]; rfl
  have hP : Pc (Value.ref b :: As).toArray ((T.setVm vm₁).calling (F0 m pc ls rest) mk (Value.ref b :: As).toArray) := hblind _ _ _ _ (hPc (T.setVm vm₁) hT X₁.warmed)
  obtain ⟨o, s₂, hsteps, -, hend, a, cell, rfl, hWt, hsame, hcell, hvm, hcls, hasg⟩ := Steps.callFree hM p X.admits X.cas X.clock (acts := []) hfr happ hP trivial
  rw [State.frames_setTop' _ h.top, X₁.tail] at hend
  obtain ⟨T', X', hTW, hsm, ht⟩ := X₁.outOfThrown (g := F0 m pc ls rest) (mk := mk) (a := (Value.ref b :: As).toArray) rfl hend hWt hsame
  have hcell' : T'.heap[a]? = some cell := by
    have e1 : s₂.heap = T'.heap := by rw [ht, Stand.throwing_heap]
    rw [← e1]; exact hcell
  have hclsS : s.vm.findClass thX = some cell.cls := by
    have e1 : (T.setVm vm₁).vm.findClass thX = some cell.cls := hcls
    rw [X₁.warmed.alike.findClass] at e1
    exact e1
  have hasgS : s.vm.assignable cell.cls cell.cls = true := by
    have e1 : (T.setVm vm₁).vm.assignable cell.cls cell.cls = true := hasg
    rw [X₁.warmed.alike.assignable] at e1
    exact e1
  rw [List.append_nil] at X'
  obtain ⟨vm₂, X₂, hst2⟩ := st_caught X' (own := own) (C := thX) (x := x) hown hclink hcell' hvm hclsS hasgS (g := F0 m pc ls rest) rfl htab hx h0
  obtain ⟨-, hz, -, -, -, hk⟩ := hsm
  have hz1 : H.size ≤ T'.heap.size := by rw [← hT]; exact hz
  have hk1 : ∀ q : Nat, q < H.size → T'.heap[q]? = H[q]? := fun q hq => by
    have hq0 : q < T.heap.size := by rw [hT]; exact hq
    obtain ⟨c', h1, h2, h3, h4⟩ := hk q _ (Array.getElem?_eq_getElem hq0)
    have e1 : c' = T.heap[q] := by
      rw [h2]
      have : c'.slots = T.heap[q].slots := Array.ext_getElem? (fun i => h4 i (fun z => by cases z))
      rw [this]
    rw [← hT, Array.getElem?_eq_getElem hq0, ← e1]
    exact h1
  obtain ⟨t, hs, hq⟩ := kk a T'.heap hz1 hk1 (T'.setVm vm₂) rfl X₂
  refine ⟨t, ?_, hq⟩
  refine hstep₁ _ fun acts => ?_
  rw [doInvoke_state]
  refine Steps.trans hsteps ?_
  rw [ht]
  exact hst2 _ hs
end CATCH
