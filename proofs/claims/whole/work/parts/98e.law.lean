/-! ===== the law's own methods that catch ===== -/
section RUNSW
variable {p : Program} {l : Launch} {e : Env} {R : Room} {s : State} {m : MethodId} {args : Array Value} {below : List Frame} {meth : Method} {c : Code} {H : Heap} {locs : List Loc} {cells slots : Nat}
variable {y : MethodName} {bytes cc : ByteArray} {maxL nL mc ms n index : Nat} {ret : Option FieldType} {hh : List (Nat × Nat × Nat × Nat)} {ws : List Cond} {rm : Room} {Pc : Array Value → State → Prop} {Qc : Array Value → State → Outcome → State → Prop} {free : Addr → Prop} {Ts : List Cond} {own : String} {As rest : List Value} {g : JFrame}
theorem va_runSW (S : CallFix p m c cc nL s args Ts own) (hM : Met l y ws rm Pc Qc mc ms free) (hrc : rm.cells = mc) (hrs : rm.slots = ms) (hR : rm.frames + 1 ≤ R.frames ∧ 8 + (maxL + 11) + rm.locals ≤ R.locals) (hws : ∀ w ∈ ws, ∀ (a' : Array Value) (U : State), s.WarmedH U.vm → w.before a' U = true) (hcw : Cond.codeWith y bytes maxL ret hh ∈ ws)
    (hcode : (Cond.codeWith y bytes maxL ret hh).before args s = true) (hini : (Cond.initialized y.cls).before args s = true) (hy : y.cls ≠ "java/lang/invoke/MethodHandle" ∧ y.cls ≠ "java/lang/invoke/VarHandle") (hlen : (parseMethodDescriptor y.desc).map (fun d => d.parameters.length) = some n) (hl : (Cond.methodLink own index y).before args s = true) (hstt : (Cond.static y).before args s = true) (hp : PreS s H Pc As)
    (hg : g.method = m) (hn : As.length = n) (hsize : g.locals.size = nL) (hstack : g.stack = As.reverse ++ rest) (hW : 2 * g.monitorRoom + (rest.map fun v => v.category).sum ≤ 8) (hdg : decode cc g.pc = .ok (.invokestatic index, 3)) (hf : cells + mc ≤ R.cells ∧ slots + ms ≤ R.slots) :
    va_Run p l e R s m args below meth c H locs cells slots mc ms g rest (Qc As.toArray) (free) := by
  have hK : Back l R p e below s args y 3 8 (PreOf R mc ms Pc) (PostOf Qc mc ms free) := va_backW (hh := hh) (bytes := bytes) (maxL := maxL) (ret := ret) hM hp.1 hrc hrs hR.1 hR.2 hws hcw (fun a' U hW => word_at hW (Or.inl (by first | rfl | simp [Cond.onTables, Cond.keeps, Cond.steady])) hini)
  obtain ⟨hx, hb, hml, hown, -⟩ := S
  intro T hT X
  obtain ⟨mk, methM, cM, hnamed, hmethM, -, -, -, -, -, -, hsigM⟩ := Cond.codeWith_spec hcode
  have hstatic : methM.isStatic = true := Cond.static_spec hnamed hmethM hstt
  obtain ⟨kP, hkP, -⟩ := className_of_methodNamed hnamed
  have hinitP : kP.init = .initialized := Cond.initialized_spec (findClass_of_methodNamed hnamed) hkP hini
  have hlenM : As.length = methM.sig.parameters.length := by
    rw [hsigM] at hlen
    exact hn.trans (Option.some.inj hlen).symm
  obtain ⟨vm₁, X₁, hstep₁⟩ := X.invokestatic hx hown hl hnamed hmethM hstatic hkP hinitP hy (g := g) hg (argsL := As) (rest := rest) hlenM hstack (by rw [hb]; exact hdg)
  obtain ⟨v, ⟨U', l2, c2, s2⟩, X', ⟨g', mk', t, L, e1, e2, hq, h1, hL, h2, h3⟩, hsteps⟩ := hK m meth c ⟨T.setVm vm₁, locs, cells, slots⟩ { g with stack := rest } (.invokestatic index) mk As.toArray X₁ hg (hsize.trans hml.symm) (by rw [hb]; exact hdg) hW (X₁.named hnamed) ⟨hf.1, hf.2, hp.2 (T.setVm vm₁) hT X₁.warmed⟩
  dsimp only [Pt.U, Pt.locs, Pt.cells, Pt.slots] at X' e1 e2 h1 h2 h3 hsteps
  subst h1; subst h2; subst h3
  exact ⟨v, (T.setVm vm₁).calling g' mk' As.toArray, t, U', L, hT, X', hL, e1, e2, hq, fun target h => hstep₁ _ fun acts => by rw [doInvoke_state]; exact hsteps.trans h⟩
end RUNSW
theorem tab_one {L : List ExceptionTableEntry} {a b c d : Nat} (h : L.map (fun h => (h.startPc, h.endPc, h.handlerPc, h.catchType)) = [(a, b, c, d)]) : L = [⟨a, b, c, d⟩] := by
  match L, h with
  | [x], h =>
    cases x
    simp at h
    obtain ⟨rfl, rfl, rfl, rfl⟩ := h
    rfl
  | [], h => cases h
  | x :: y :: t, h => simp at h
theorem Hold.more {D : va_G} {aC : Nat → ClassId} {A : Nat → Prop} {ad : Nat → Nat → Nat} {n : Nat} {σ : St} {H H1 : Heap} (h : Hold D aC A ad n σ H) (hk : ∀ q : Nat, q < H.size → H1[q]? = H[q]?) : Hold D aC A ad n σ H1 :=
  ⟨fun f i hd => (h.1 f i hd).kept (hk _ (h.1 f i hd).lt), h.2⟩
theorem va_S.more {A : Nat → Prop} {H0 H H1 : Heap} {locs : List Loc} (h : va_S A H0 H locs) (hz : H.size ≤ H1.size) (hk : ∀ q : Nat, q < H.size → H1[q]? = H[q]?) : va_S A H0 H1 locs :=
  ⟨Nat.le_trans h.1 hz, fun q h1 h2 => by rw [hk q (Nat.lt_of_lt_of_le h1 h.1)]; exact h.2.1 q h1 h2, h.2.2⟩
abbrev rmLB : Room := { frames := 7, cells := 1, slots := 6, locals := 180 }
theorem lw_w0 : (Cond.initialized "PrefixCodes" : Cond) ∈ gW := wd_4
theorem lw_bit_c : (Cond.codeWith ⟨"PrefixCodesLaw", "bit", "(LPrefixCodes;I[J)I"⟩ method_3_code 4 (some .int) [(0, 9, 12, 13)] : Cond) ∈ gW := List.mem_filter.mpr ⟨gt4 _ (List.mem_of_getElem? (i := 54) rfl), rfl⟩
theorem lw_bit_0 : (Cond.code ⟨"PrefixCodes", "bit", "(I)I"⟩ prog_1_method_11_code 2 (some .int) : Cond) ∈ gW := List.mem_filter.mpr ⟨gt4 _ (List.mem_of_getElem? (i := 59) rfl), rfl⟩
theorem lw_bit_1 : (Cond.methodLink "PrefixCodesLaw" 7 ⟨"PrefixCodes", "bit", "(I)I"⟩ : Cond) ∈ gW := List.mem_filter.mpr ⟨gt4 _ (List.mem_of_getElem? (i := 56) rfl), rfl⟩
theorem lw_bit_2 : (Cond.instanceMethod ⟨"PrefixCodes", "bit", "(I)I"⟩ : Cond) ∈ gW := List.mem_filter.mpr ⟨gt4 _ (List.mem_of_getElem? (i := 57) rfl), rfl⟩
theorem lw_bit_3 : (Cond.selects "PrefixCodes" ⟨"PrefixCodes", "bit", "(I)I"⟩ ⟨"PrefixCodes", "bit", "(I)I"⟩ : Cond) ∈ gW := List.mem_filter.mpr ⟨gt4 _ (List.mem_of_getElem? (i := 58) rfl), rfl⟩
def y_Lw_bit : MethodName := ⟨"PrefixCodesLaw", "bit", "(LPrefixCodes;I[J)I"⟩
abbrev w_Lw_bit : List Cond := Cond.codeWith ⟨"PrefixCodesLaw", "bit", "(LPrefixCodes;I[J)I"⟩ method_3_code 4 (some .int) [(0, 9, 12, 13)] :: gW
theorem d_Lw_bit_0 : decode method_3_code 0 = .ok (.aload_n 2, 1) := by decide +kernel
theorem d_Lw_bit_1 : decode method_3_code 1 = .ok (.iconst 0, 1) := by decide +kernel
theorem d_Lw_bit_2 : decode method_3_code 2 = .ok (.aload_n 0, 1) := by decide +kernel
theorem d_Lw_bit_3 : decode method_3_code 3 = .ok (.iload_n 1, 1) := by decide +kernel
theorem d_Lw_bit_4 : decode method_3_code 4 = .ok (.invokevirtual 7, 3) := by decide +kernel
theorem d_Lw_bit_7 : decode method_3_code 7 = .ok (.i2l, 1) := by decide +kernel
theorem d_Lw_bit_8 : decode method_3_code 8 = .ok (.lastore, 1) := by decide +kernel
theorem d_Lw_bit_9 : decode method_3_code 9 = .ok (.goto 6, 3) := by decide +kernel
theorem d_Lw_bit_12 : decode method_3_code 12 = .ok (.astore_n 3, 1) := by decide +kernel
theorem d_Lw_bit_13 : decode method_3_code 13 = .ok (.iconst 1, 1) := by decide +kernel
theorem d_Lw_bit_14 : decode method_3_code 14 = .ok (.ireturn, 1) := by decide +kernel
theorem d_Lw_bit_15 : decode method_3_code 15 = .ok (.iconst 0, 1) := by decide +kernel
theorem d_Lw_bit_16 : decode method_3_code 16 = .ok (.ireturn, 1) := by decide +kernel
set_option maxHeartbeats 4000000 in
set_option maxRecDepth 100000 in
theorem c_Lw_bit (l : Launch) (hlt : l.stackTraces = false) (D : va_G) (aC : Nat → ClassId) (A : Nat → Prop) (ad : Nat → Nat → Nat) (n : Nat) (σ : St) (a1 : Int32) (o : St × Int32) (h : (∃ r, f_PC_bit σ a1 = some (σ, r) ∧ o = (sL σ 70 0 0 r.toInt64, 0)) ∨ (f_PC_isOutside σ a1 0 (σ.1 3 0 2 - 1) = some (σ, 1) ∧ o = (σ, 1))) : Met l y_Lw_bit w_Lw_bit rmLB (va_Pc [.ref (ad 0 0), .int a1, .ref (ad 70 0)] (PreT D aC A ad n σ)) (va_Qi (fun r (_ : Unit) => r = o.2) (fun _ t => Hold D aC A ad n o.1 t.heap) A) 1 6 A := by
  refine va_MetW (cc := method_3_code) (maxL := 4) (ret := (some .int)) (hh := [(0, 9, 12, 13)]) (by decide) rfl ?_
  intro p e s m args below meth c s₁ B hml hv
  obtain ⟨hargs, ⟨hH, hK, hZ⟩, hT⟩ := hv
  have hx := B.exec
  have hb := B.bytes
  have hr := B.returns
  have hts := atoms_spec (ws := w_Lw_bit) B.pre
  have hg : ∀ w ∈ gW, w.before args s = true := fun w h => hts w (List.mem_cons_of_mem _ h)
  obtain ⟨m9, meth9, c9, n1, n2, n3, -, -, htab, -, -, -⟩ := Cond.codeWith_spec (hts _ List.mem_cons_self)
  cases B.named.symm.trans n1
  cases B.method.symm.trans n2
  cases (Stand.of_body B).code.symm.trans n3
  have htab := tab_one htab
  have hown : s.vm.findClass "PrefixCodesLaw" = some m.cls := findClass_of_methodNamed B.named
  have hlocks := B.notSynchronized
  have hS : va_S A s.heap s.heap [] := va_S.rf
  have hl := lv_entry ([.ref (ad 0 0), .int a1, .ref (ad 70 0)]) (n := 4) (Nat.le_of_ble_eq_true rfl)
  rw [show entryFrame m args 4 = entryFrame m (([.ref (ad 0 0), .int a1, .ref (ad 70 0)] : List Value).toArray) 4 by rw [hargs], lg_entry_eq]
  generalize (lg_sl ([.ref (ad 0 0), .int a1, .ref (ad 70 0)]) ++ List.replicate (4 - (lg_sl ([.ref (ad 0 0), .int a1, .ref (ad 70 0)])).length) Slot.unset).toArray = ls at hl ⊢
  have hl : lv_has ls 4 [(0, .ref (ad 0 0)), (1, .int a1), (2, .ref (ad 70 0))] := hl
  refine lv_aload_n hx hb d_Lw_bit_0 rfl (lv_at hl 2 rfl) ?_
  refine lv_iconst (v := 0) hx hb d_Lw_bit_1 (by decide) ?_
  refine lv_aload_n hx hb d_Lw_bit_2 rfl (lv_at hl 0 rfl) ?_
  refine lv_iload_n hx hb d_Lw_bit_3 rfl (lv_at hl 1 rfl) ?_
  rcases h with ⟨r, hf, rfl⟩ | ⟨hf, rfl⟩
  · refine st_Vi (As := [.int a1]) (rest := [.int 0, .ref (ad 70 0)]) ⟨hx, hb, hml, hown, hg⟩ (c_PC_bit l D aC A ad n _ a1 _ hf) (cwG hg lw_bit_0 lw_bit_1 lw_bit_2 lw_bit_3 lw_w0 yd_PC_bit ⟨Nat.le_of_ble_eq_true rfl, Nat.le_of_ble_eq_true rfl⟩) hK hH hS hZ hd_0 rfl rfl rfl hl.1 rfl (Nat.le_of_ble_eq_true rfl) d_Lw_bit_4 ⟨Nat.zero_le _, Nat.zero_le _⟩ (fun H locs hH hS => ?_)
    refine lv_i2l hx hb d_Lw_bit_7 rfl ?_
    refine st_last hx hb hK hH hS (f := 70) (i := 0) hd_70 rfl (by decide) d_Lw_bit_8 (fun σ1 H locs eσ hH hS => ?_)
    refine lv_goto (tgt := 15) hx hb d_Lw_bit_9 (by decide) ?_
    refine lv_iconst (v := 0) hx hb d_Lw_bit_15 (by decide) ?_
    subst eσ
    exact W.widen (k := 1) (n := 6) (by decide) (by decide) (W.iret hx hb hr (fun t ht hW => ⟨⟨_, (), rfl, rfl, by dsimp only; rw [ht]; exact hH⟩, hS.F ht⟩) hS.2.2 d_Lw_bit_16)
  · refine st_Vt (As := [.int a1]) (rest := [.int 0, .ref (ad 70 0)]) (x := ⟨0, 9, 12, 13⟩) ⟨hx, hb, hml, hown, hg⟩ (t_PC_bit l hlt D aC A ad n σ a1 hf) (cwG (rm := rmT) hg lw_bit_0 lw_bit_1 lw_bit_2 lw_bit_3 lw_w0 yd_PC_bit ⟨Nat.le_of_ble_eq_true rfl, Nat.le_of_ble_eq_true rfl⟩) ⟨PreT.blind, st_recv hK hH hd_0 rfl rfl, fun U hU hW => ⟨rfl, ⟨by rw [hU]; exact hH, hK.warm hW, by rw [hU]; exact hZ.go hW.alike hS.2.1⟩, hT.go hW (by rw [hU]; exact hS.2.1)⟩⟩ (hg _ th_w2) htab rfl (by decide) rfl hl.1 rfl (Nat.le_of_ble_eq_true rfl) d_Lw_bit_4 ⟨Nat.le_of_ble_eq_true rfl, Nat.le_of_ble_eq_true rfl⟩ (fun a H hz hk => ?_)
    have hH := hH.more hk
    have hS := hS.more hz hk
    refine lv_astore_n hx hb d_Lw_bit_12 rfl hl (by decide) rfl (fun ls hl => ?_)
    refine lv_iconst (v := 1) hx hb d_Lw_bit_13 (by decide) ?_
    exact W.widen (k := 1) (n := 6) (by decide) (by decide) (W.iret hx hb hr (fun t ht hW => ⟨⟨_, (), rfl, rfl, by dsimp only; rw [ht]; exact hH⟩, hS.F ht⟩) hS.2.2 d_Lw_bit_14)
theorem lw_entry_c : (Cond.codeWith ⟨"PrefixCodesLaw", "entry", "(LPrefixCodes;II[J)I"⟩ method_4_code 5 (some .int) [(0, 10, 13, 13)] : Cond) ∈ gW := List.mem_filter.mpr ⟨gt4 _ (List.mem_of_getElem? (i := 129) rfl), rfl⟩
theorem lw_entry_0 : (Cond.code ⟨"PrefixCodes", "entry", "(II)I"⟩ prog_1_method_20_code 3 (some .int) : Cond) ∈ gW := List.mem_filter.mpr ⟨gt4 _ (List.mem_of_getElem? (i := 133) rfl), rfl⟩
theorem lw_entry_1 : (Cond.methodLink "PrefixCodesLaw" 15 ⟨"PrefixCodes", "entry", "(II)I"⟩ : Cond) ∈ gW := List.mem_filter.mpr ⟨gt4 _ (List.mem_of_getElem? (i := 130) rfl), rfl⟩
theorem lw_entry_2 : (Cond.instanceMethod ⟨"PrefixCodes", "entry", "(II)I"⟩ : Cond) ∈ gW := List.mem_filter.mpr ⟨gt4 _ (List.mem_of_getElem? (i := 131) rfl), rfl⟩
theorem lw_entry_3 : (Cond.selects "PrefixCodes" ⟨"PrefixCodes", "entry", "(II)I"⟩ ⟨"PrefixCodes", "entry", "(II)I"⟩ : Cond) ∈ gW := List.mem_filter.mpr ⟨gt4 _ (List.mem_of_getElem? (i := 132) rfl), rfl⟩
def y_Lw_entry : MethodName := ⟨"PrefixCodesLaw", "entry", "(LPrefixCodes;II[J)I"⟩
abbrev w_Lw_entry : List Cond := Cond.codeWith ⟨"PrefixCodesLaw", "entry", "(LPrefixCodes;II[J)I"⟩ method_4_code 5 (some .int) [(0, 10, 13, 13)] :: gW
theorem d_Lw_entry_0 : decode method_4_code 0 = .ok (.aload_n 3, 1) := by decide +kernel
theorem d_Lw_entry_1 : decode method_4_code 1 = .ok (.iconst 0, 1) := by decide +kernel
theorem d_Lw_entry_2 : decode method_4_code 2 = .ok (.aload_n 0, 1) := by decide +kernel
theorem d_Lw_entry_3 : decode method_4_code 3 = .ok (.iload_n 1, 1) := by decide +kernel
theorem d_Lw_entry_4 : decode method_4_code 4 = .ok (.iload_n 2, 1) := by decide +kernel
theorem d_Lw_entry_5 : decode method_4_code 5 = .ok (.invokevirtual 15, 3) := by decide +kernel
theorem d_Lw_entry_8 : decode method_4_code 8 = .ok (.i2l, 1) := by decide +kernel
theorem d_Lw_entry_9 : decode method_4_code 9 = .ok (.lastore, 1) := by decide +kernel
theorem d_Lw_entry_10 : decode method_4_code 10 = .ok (.goto 7, 3) := by decide +kernel
theorem d_Lw_entry_13 : decode method_4_code 13 = .ok (.astore 4, 2) := by decide +kernel
theorem d_Lw_entry_15 : decode method_4_code 15 = .ok (.iconst 1, 1) := by decide +kernel
theorem d_Lw_entry_16 : decode method_4_code 16 = .ok (.ireturn, 1) := by decide +kernel
theorem d_Lw_entry_17 : decode method_4_code 17 = .ok (.iconst 0, 1) := by decide +kernel
theorem d_Lw_entry_18 : decode method_4_code 18 = .ok (.ireturn, 1) := by decide +kernel
set_option maxHeartbeats 4000000 in
set_option maxRecDepth 100000 in
theorem c_Lw_entry (l : Launch) (hlt : l.stackTraces = false) (D : va_G) (aC : Nat → ClassId) (A : Nat → Prop) (ad : Nat → Nat → Nat) (n : Nat) (σ : St) (a1 : Int32) (a2 : Int32) (o : St × Int32) (h : (∃ r, f_PC_entry σ a1 a2 = some (σ, r) ∧ o = (sL σ 70 0 0 r.toInt64, 0)) ∨ ((f_PC_isOutside σ a1 0 (σ.1 19 0 1 - 1) = some (σ, 1) ∨ (f_PC_isOutside σ a1 0 (σ.1 19 0 1 - 1) = some (σ, 0) ∧ f_PC_isOutside σ a2 0 2 = some (σ, 1))) ∧ o = (σ, 1))) : Met l y_Lw_entry w_Lw_entry rmLB (va_Pc [.ref (ad 0 0), .int a1, .int a2, .ref (ad 70 0)] (PreT D aC A ad n σ)) (va_Qi (fun r (_ : Unit) => r = o.2) (fun _ t => Hold D aC A ad n o.1 t.heap) A) 1 6 A := by
  refine va_MetW (cc := method_4_code) (maxL := 5) (ret := (some .int)) (hh := [(0, 10, 13, 13)]) (by decide) rfl ?_
  intro p e s m args below meth c s₁ B hml hv
  obtain ⟨hargs, ⟨hH, hK, hZ⟩, hT⟩ := hv
  have hx := B.exec
  have hb := B.bytes
  have hr := B.returns
  have hts := atoms_spec (ws := w_Lw_entry) B.pre
  have hg : ∀ w ∈ gW, w.before args s = true := fun w h => hts w (List.mem_cons_of_mem _ h)
  obtain ⟨m9, meth9, c9, n1, n2, n3, -, -, htab, -, -, -⟩ := Cond.codeWith_spec (hts _ List.mem_cons_self)
  cases B.named.symm.trans n1
  cases B.method.symm.trans n2
  cases (Stand.of_body B).code.symm.trans n3
  have htab := tab_one htab
  have hown : s.vm.findClass "PrefixCodesLaw" = some m.cls := findClass_of_methodNamed B.named
  have hlocks := B.notSynchronized
  have hS : va_S A s.heap s.heap [] := va_S.rf
  have hl := lv_entry ([.ref (ad 0 0), .int a1, .int a2, .ref (ad 70 0)]) (n := 5) (Nat.le_of_ble_eq_true rfl)
  rw [show entryFrame m args 5 = entryFrame m (([.ref (ad 0 0), .int a1, .int a2, .ref (ad 70 0)] : List Value).toArray) 5 by rw [hargs], lg_entry_eq]
  generalize (lg_sl ([.ref (ad 0 0), .int a1, .int a2, .ref (ad 70 0)]) ++ List.replicate (5 - (lg_sl ([.ref (ad 0 0), .int a1, .int a2, .ref (ad 70 0)])).length) Slot.unset).toArray = ls at hl ⊢
  have hl : lv_has ls 5 [(0, .ref (ad 0 0)), (1, .int a1), (2, .int a2), (3, .ref (ad 70 0))] := hl
  refine lv_aload_n hx hb d_Lw_entry_0 rfl (lv_at hl 3 rfl) ?_
  refine lv_iconst (v := 0) hx hb d_Lw_entry_1 (by decide) ?_
  refine lv_aload_n hx hb d_Lw_entry_2 rfl (lv_at hl 0 rfl) ?_
  refine lv_iload_n hx hb d_Lw_entry_3 rfl (lv_at hl 1 rfl) ?_
  refine lv_iload_n hx hb d_Lw_entry_4 rfl (lv_at hl 2 rfl) ?_
  rcases h with ⟨r, hf, rfl⟩ | ⟨hf, rfl⟩
  · refine st_Vi (As := [.int a1, .int a2]) (rest := [.int 0, .ref (ad 70 0)]) ⟨hx, hb, hml, hown, hg⟩ (c_PC_entry l D aC A ad n _ a1 a2 _ hf) (cwG hg lw_entry_0 lw_entry_1 lw_entry_2 lw_entry_3 lw_w0 yd_PC_entry ⟨Nat.le_of_ble_eq_true rfl, Nat.le_of_ble_eq_true rfl⟩) hK hH hS hZ hd_0 rfl rfl rfl hl.1 rfl (Nat.le_of_ble_eq_true rfl) d_Lw_entry_5 ⟨Nat.zero_le _, Nat.zero_le _⟩ (fun H locs hH hS => ?_)
    refine lv_i2l hx hb d_Lw_entry_8 rfl ?_
    refine st_last hx hb hK hH hS (f := 70) (i := 0) hd_70 rfl (by decide) d_Lw_entry_9 (fun σ1 H locs eσ hH hS => ?_)
    refine lv_goto (tgt := 17) hx hb d_Lw_entry_10 (by decide) ?_
    refine lv_iconst (v := 0) hx hb d_Lw_entry_17 (by decide) ?_
    subst eσ
    exact W.widen (k := 1) (n := 6) (by decide) (by decide) (W.iret hx hb hr (fun t ht hW => ⟨⟨_, (), rfl, rfl, by dsimp only; rw [ht]; exact hH⟩, hS.F ht⟩) hS.2.2 d_Lw_entry_18)
  · refine st_Vt (As := [.int a1, .int a2]) (rest := [.int 0, .ref (ad 70 0)]) (x := ⟨0, 10, 13, 13⟩) ⟨hx, hb, hml, hown, hg⟩ (t_PC_entry l hlt D aC A ad n σ a1 a2 hf) (cwG (rm := rmT) hg lw_entry_0 lw_entry_1 lw_entry_2 lw_entry_3 lw_w0 yd_PC_entry ⟨Nat.le_of_ble_eq_true rfl, Nat.le_of_ble_eq_true rfl⟩) ⟨PreT.blind, st_recv hK hH hd_0 rfl rfl, fun U hU hW => ⟨rfl, ⟨by rw [hU]; exact hH, hK.warm hW, by rw [hU]; exact hZ.go hW.alike hS.2.1⟩, hT.go hW (by rw [hU]; exact hS.2.1)⟩⟩ (hg _ th_w2) htab rfl (by decide) rfl hl.1 rfl (Nat.le_of_ble_eq_true rfl) d_Lw_entry_5 ⟨Nat.le_of_ble_eq_true rfl, Nat.le_of_ble_eq_true rfl⟩ (fun a H hz hk => ?_)
    have hH := hH.more hk
    have hS := hS.more hz hk
    refine lv_astore hx hb d_Lw_entry_13 hl (by decide) rfl (fun ls hl => ?_)
    refine lv_iconst (v := 1) hx hb d_Lw_entry_15 (by decide) ?_
    exact W.widen (k := 1) (n := 6) (by decide) (by decide) (W.iret hx hb hr (fun t ht hW => ⟨⟨_, (), rfl, rfl, by dsimp only; rw [ht]; exact hH⟩, hS.F ht⟩) hS.2.2 d_Lw_entry_16)
theorem lw_symbol_c : (Cond.codeWith ⟨"PrefixCodesLaw", "symbol", "(LPrefixCodes;I[J)I"⟩ method_5_code 4 (some .int) [(0, 9, 12, 13)] : Cond) ∈ gW := List.mem_filter.mpr ⟨gt4 _ (List.mem_of_getElem? (i := 160) rfl), rfl⟩
theorem lw_symbol_0 : (Cond.code ⟨"PrefixCodes", "symbol", "(I)I"⟩ prog_1_method_27_code 2 (some .int) : Cond) ∈ gW := List.mem_filter.mpr ⟨gt4 _ (List.mem_of_getElem? (i := 164) rfl), rfl⟩
theorem lw_symbol_1 : (Cond.methodLink "PrefixCodesLaw" 19 ⟨"PrefixCodes", "symbol", "(I)I"⟩ : Cond) ∈ gW := List.mem_filter.mpr ⟨gt4 _ (List.mem_of_getElem? (i := 161) rfl), rfl⟩
theorem lw_symbol_2 : (Cond.instanceMethod ⟨"PrefixCodes", "symbol", "(I)I"⟩ : Cond) ∈ gW := List.mem_filter.mpr ⟨gt4 _ (List.mem_of_getElem? (i := 162) rfl), rfl⟩
theorem lw_symbol_3 : (Cond.selects "PrefixCodes" ⟨"PrefixCodes", "symbol", "(I)I"⟩ ⟨"PrefixCodes", "symbol", "(I)I"⟩ : Cond) ∈ gW := List.mem_filter.mpr ⟨gt4 _ (List.mem_of_getElem? (i := 163) rfl), rfl⟩
def y_Lw_symbol : MethodName := ⟨"PrefixCodesLaw", "symbol", "(LPrefixCodes;I[J)I"⟩
abbrev w_Lw_symbol : List Cond := Cond.codeWith ⟨"PrefixCodesLaw", "symbol", "(LPrefixCodes;I[J)I"⟩ method_5_code 4 (some .int) [(0, 9, 12, 13)] :: gW
theorem d_Lw_symbol_0 : decode method_5_code 0 = .ok (.aload_n 2, 1) := by decide +kernel
theorem d_Lw_symbol_1 : decode method_5_code 1 = .ok (.iconst 0, 1) := by decide +kernel
theorem d_Lw_symbol_2 : decode method_5_code 2 = .ok (.aload_n 0, 1) := by decide +kernel
theorem d_Lw_symbol_3 : decode method_5_code 3 = .ok (.iload_n 1, 1) := by decide +kernel
theorem d_Lw_symbol_4 : decode method_5_code 4 = .ok (.invokevirtual 19, 3) := by decide +kernel
theorem d_Lw_symbol_7 : decode method_5_code 7 = .ok (.i2l, 1) := by decide +kernel
theorem d_Lw_symbol_8 : decode method_5_code 8 = .ok (.lastore, 1) := by decide +kernel
theorem d_Lw_symbol_9 : decode method_5_code 9 = .ok (.goto 6, 3) := by decide +kernel
theorem d_Lw_symbol_12 : decode method_5_code 12 = .ok (.astore_n 3, 1) := by decide +kernel
theorem d_Lw_symbol_13 : decode method_5_code 13 = .ok (.iconst 1, 1) := by decide +kernel
theorem d_Lw_symbol_14 : decode method_5_code 14 = .ok (.ireturn, 1) := by decide +kernel
theorem d_Lw_symbol_15 : decode method_5_code 15 = .ok (.iconst 0, 1) := by decide +kernel
theorem d_Lw_symbol_16 : decode method_5_code 16 = .ok (.ireturn, 1) := by decide +kernel
set_option maxHeartbeats 4000000 in
set_option maxRecDepth 100000 in
theorem c_Lw_symbol (l : Launch) (hlt : l.stackTraces = false) (D : va_G) (aC : Nat → ClassId) (A : Nat → Prop) (ad : Nat → Nat → Nat) (n : Nat) (σ : St) (a1 : Int32) (o : St × Int32) (h : (∃ r, f_PC_symbol σ a1 = some (σ, r) ∧ o = (sL σ 70 0 0 r.toInt64, 0)) ∨ (f_PC_isOutside σ a1 0 (σ.1 26 0 1 - 1) = some (σ, 1) ∧ o = (σ, 1))) : Met l y_Lw_symbol w_Lw_symbol rmLB (va_Pc [.ref (ad 0 0), .int a1, .ref (ad 70 0)] (PreT D aC A ad n σ)) (va_Qi (fun r (_ : Unit) => r = o.2) (fun _ t => Hold D aC A ad n o.1 t.heap) A) 1 6 A := by
  refine va_MetW (cc := method_5_code) (maxL := 4) (ret := (some .int)) (hh := [(0, 9, 12, 13)]) (by decide) rfl ?_
  intro p e s m args below meth c s₁ B hml hv
  obtain ⟨hargs, ⟨hH, hK, hZ⟩, hT⟩ := hv
  have hx := B.exec
  have hb := B.bytes
  have hr := B.returns
  have hts := atoms_spec (ws := w_Lw_symbol) B.pre
  have hg : ∀ w ∈ gW, w.before args s = true := fun w h => hts w (List.mem_cons_of_mem _ h)
  obtain ⟨m9, meth9, c9, n1, n2, n3, -, -, htab, -, -, -⟩ := Cond.codeWith_spec (hts _ List.mem_cons_self)
  cases B.named.symm.trans n1
  cases B.method.symm.trans n2
  cases (Stand.of_body B).code.symm.trans n3
  have htab := tab_one htab
  have hown : s.vm.findClass "PrefixCodesLaw" = some m.cls := findClass_of_methodNamed B.named
  have hlocks := B.notSynchronized
  have hS : va_S A s.heap s.heap [] := va_S.rf
  have hl := lv_entry ([.ref (ad 0 0), .int a1, .ref (ad 70 0)]) (n := 4) (Nat.le_of_ble_eq_true rfl)
  rw [show entryFrame m args 4 = entryFrame m (([.ref (ad 0 0), .int a1, .ref (ad 70 0)] : List Value).toArray) 4 by rw [hargs], lg_entry_eq]
  generalize (lg_sl ([.ref (ad 0 0), .int a1, .ref (ad 70 0)]) ++ List.replicate (4 - (lg_sl ([.ref (ad 0 0), .int a1, .ref (ad 70 0)])).length) Slot.unset).toArray = ls at hl ⊢
  have hl : lv_has ls 4 [(0, .ref (ad 0 0)), (1, .int a1), (2, .ref (ad 70 0))] := hl
  refine lv_aload_n hx hb d_Lw_symbol_0 rfl (lv_at hl 2 rfl) ?_
  refine lv_iconst (v := 0) hx hb d_Lw_symbol_1 (by decide) ?_
  refine lv_aload_n hx hb d_Lw_symbol_2 rfl (lv_at hl 0 rfl) ?_
  refine lv_iload_n hx hb d_Lw_symbol_3 rfl (lv_at hl 1 rfl) ?_
  rcases h with ⟨r, hf, rfl⟩ | ⟨hf, rfl⟩
  · refine st_Vi (As := [.int a1]) (rest := [.int 0, .ref (ad 70 0)]) ⟨hx, hb, hml, hown, hg⟩ (c_PC_symbol l D aC A ad n _ a1 _ hf) (cwG hg lw_symbol_0 lw_symbol_1 lw_symbol_2 lw_symbol_3 lw_w0 yd_PC_symbol ⟨Nat.le_of_ble_eq_true rfl, Nat.le_of_ble_eq_true rfl⟩) hK hH hS hZ hd_0 rfl rfl rfl hl.1 rfl (Nat.le_of_ble_eq_true rfl) d_Lw_symbol_4 ⟨Nat.zero_le _, Nat.zero_le _⟩ (fun H locs hH hS => ?_)
    refine lv_i2l hx hb d_Lw_symbol_7 rfl ?_
    refine st_last hx hb hK hH hS (f := 70) (i := 0) hd_70 rfl (by decide) d_Lw_symbol_8 (fun σ1 H locs eσ hH hS => ?_)
    refine lv_goto (tgt := 15) hx hb d_Lw_symbol_9 (by decide) ?_
    refine lv_iconst (v := 0) hx hb d_Lw_symbol_15 (by decide) ?_
    subst eσ
    exact W.widen (k := 1) (n := 6) (by decide) (by decide) (W.iret hx hb hr (fun t ht hW => ⟨⟨_, (), rfl, rfl, by dsimp only; rw [ht]; exact hH⟩, hS.F ht⟩) hS.2.2 d_Lw_symbol_16)
  · refine st_Vt (As := [.int a1]) (rest := [.int 0, .ref (ad 70 0)]) (x := ⟨0, 9, 12, 13⟩) ⟨hx, hb, hml, hown, hg⟩ (t_PC_symbol l hlt D aC A ad n σ a1 hf) (cwG (rm := rmT) hg lw_symbol_0 lw_symbol_1 lw_symbol_2 lw_symbol_3 lw_w0 yd_PC_symbol ⟨Nat.le_of_ble_eq_true rfl, Nat.le_of_ble_eq_true rfl⟩) ⟨PreT.blind, st_recv hK hH hd_0 rfl rfl, fun U hU hW => ⟨rfl, ⟨by rw [hU]; exact hH, hK.warm hW, by rw [hU]; exact hZ.go hW.alike hS.2.1⟩, hT.go hW (by rw [hU]; exact hS.2.1)⟩⟩ (hg _ th_w2) htab rfl (by decide) rfl hl.1 rfl (Nat.le_of_ble_eq_true rfl) d_Lw_symbol_4 ⟨Nat.le_of_ble_eq_true rfl, Nat.le_of_ble_eq_true rfl⟩ (fun a H hz hk => ?_)
    have hH := hH.more hk
    have hS := hS.more hz hk
    refine lv_astore_n hx hb d_Lw_symbol_12 rfl hl (by decide) rfl (fun ls hl => ?_)
    refine lv_iconst (v := 1) hx hb d_Lw_symbol_13 (by decide) ?_
    exact W.widen (k := 1) (n := 6) (by decide) (by decide) (W.iret hx hb hr (fun t ht hW => ⟨⟨_, (), rfl, rfl, by dsimp only; rw [ht]; exact hH⟩, hS.F ht⟩) hS.2.2 d_Lw_symbol_14)
