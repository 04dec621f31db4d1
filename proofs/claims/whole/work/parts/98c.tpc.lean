theorem th_w0 : (Cond.classLink "PrefixCodes" 144 "java/lang/IndexOutOfBoundsException" : Cond) ∈ gW := List.mem_filter.mpr ⟨gt4 _ (List.mem_of_getElem? (i := 60) rfl), rfl⟩
theorem th_w1 : (Cond.initialized "java/lang/IndexOutOfBoundsException" : Cond) ∈ gW := List.mem_filter.mpr ⟨gt1 _ (List.mem_of_getElem? (i := 17) rfl), rfl⟩
theorem th_w2 : (Cond.classLink "PrefixCodesLaw" 13 "java/lang/IndexOutOfBoundsException" : Cond) ∈ gW := List.mem_filter.mpr ⟨gt4 _ (List.mem_of_getElem? (i := 55) rfl), rfl⟩
/-! ===== isOutside touches no cell ===== -/
set_option maxHeartbeats 4000000 in
set_option maxRecDepth 100000 in
theorem c_out (l : Launch) (σ σ' : St) (a1 a2 a3 x : Int32) (h : f_PC_isOutside σ a1 a2 a3 = some (σ', x)) : Met l y_PC_isOutside w_PC_isOutside rm_PC_isOutside (va_Pc [.int a1, .int a2, .int a3] (fun _ => True)) (va_Qi (fun r (_ : Unit) => r = x) (fun _ _ => True) (fun _ => False)) 0 0 (fun _ => False) := by
  refine Met.ofW (cc := prog_1_method_28_code) (maxL := 3) (ret := (some .boolean)) (by decide) rfl ?_
  intro p e s m args below meth c s₁ B hml hv
  obtain ⟨hargs, -⟩ := hv
  have hx := B.exec
  have hb := B.bytes
  have hr := B.returns
  have hlocks := B.notSynchronized
  have hS : va_S (fun _ => False) s.heap s.heap [] := va_S.rf
  have hl := lv_entry ([.int a1, .int a2, .int a3]) (n := 3) (Nat.le_of_ble_eq_true rfl)
  rw [show entryFrame m args 3 = entryFrame m (([.int a1, .int a2, .int a3] : List Value).toArray) 3 by rw [hargs], lg_entry_eq]
  generalize (lg_sl ([.int a1, .int a2, .int a3]) ++ List.replicate (3 - (lg_sl ([.int a1, .int a2, .int a3])).length) Slot.unset).toArray = ls at hl ⊢
  have hl : lv_has ls 3 [(0, .int a1), (1, .int a2), (2, .int a3)] := hl
  generalize hQ0 : MQ below (va_Qi (fun r (_ : Unit) => r = x) (fun _ _ => True) (fun _ => False)) args s 0 0 (fun _ => False) = Q0
  unfold f_PC_isOutside at h
  refine lv_iload_n hx hb d_PC_isOutside_0 rfl (lv_at hl 0 rfl) ?_
  refine lv_iload_n hx hb d_PC_isOutside_1 rfl (lv_at hl 1 rfl) ?_
  refine lv_icmp_lt (tgt := 10) hx hb d_PC_isOutside_2 (by decide) (fun c2 => ?_) (fun c2 => ?_)
  · have h := it h c2
    refine lv_iconst (v := 1) hx hb d_PC_isOutside_10 (by decide) ?_
    refine lv_goto (tgt := 15) hx hb d_PC_isOutside_11 (by decide) ?_
    cases h
    rw [← hQ0]
    exact W.zret hx hb hr rfl (fun t ht hW => ⟨⟨_, (), rfl, rfl, trivial⟩, hS.F ht⟩) hS.2.2 d_PC_isOutside_15
  · have h := ie h c2
    refine lv_iload_n hx hb d_PC_isOutside_5 rfl (lv_at hl 0 rfl) ?_
    refine lv_iload_n hx hb d_PC_isOutside_6 rfl (lv_at hl 2 rfl) ?_
    refine lv_icmp_le (tgt := 14) hx hb d_PC_isOutside_7 (by decide) (fun c7 => ?_) (fun c7 => ?_)
    · have h := it h c7
      refine lv_iconst (v := 0) hx hb d_PC_isOutside_14 (by decide) ?_
      cases h
      rw [← hQ0]
      exact W.zret hx hb hr rfl (fun t ht hW => ⟨⟨_, (), rfl, rfl, trivial⟩, hS.F ht⟩) hS.2.2 d_PC_isOutside_15
    · have h := ie h c7
      refine lv_iconst (v := 1) hx hb d_PC_isOutside_10 (by decide) ?_
      refine lv_goto (tgt := 15) hx hb d_PC_isOutside_11 (by decide) ?_
      cases h
      rw [← hQ0]
      exact W.zret hx hb hr rfl (fun t ht hW => ⟨⟨_, (), rfl, rfl, trivial⟩, hS.F ht⟩) hS.2.2 d_PC_isOutside_15
section OUT
variable {p : Program} {l : Launch} {e : Env} {R : Room} {s : State} {m : MethodId} {args : Array Value} {below : List Frame} {meth : Method} {c : Code} {H : Heap} {Q : State → Prop}
variable {cc : ByteArray} {pc nL : Nat} {ls : Array Slot} {own : String}
theorem va_blindT {av : List Value} : FrameBlind (va_Pc av (fun _ => True)) := fun _ _ _ _ h => h
theorem st_out {σ σ' : St} {a1 a2 a3 x : Int32} {k : Nat} (hcs : f_PC_isOutside σ a1 a2 a3 = some (σ', x)) (S : CallFix p m c cc nL s args gW "PrefixCodes") (cw : CallB R s args "PrefixCodes" k y_PC_isOutside prog_1_method_28_code 3 (some .boolean) w_PC_isOutside rm_PC_isOutside 0 0 3 ∧ (Cond.static y_PC_isOutside).before args s = true) (hH : s.heap.size ≤ H.size)
    (hsize : ls.size = nL) (hdg : decode cc pc = .ok (.invokestatic k, 3)) (kk : ∀ H1 : Heap, s.heap.size ≤ H1.size → W p l e R s m args below meth c H1 [] 0 0 Q (F0 m (pc + 3) ls [.int x])) : W p l e R s m args below meth c H [] 0 0 Q (F0 m pc ls [.int a3, .int a2, .int a1]) := by
  refine va_calli (A0 := fun _ => False) (H0 := H) (A1 := fun _ => False) (va_runS (As := [.int a1, .int a2, .int a3]) (rest := []) S (c_out l σ σ' a1 a2 a3 x hcs) cw ⟨va_blindT, fun U _ _ => ⟨rfl, trivial⟩⟩ rfl rfl hsize rfl (lv_room (Nat.zero_le _)) hdg ⟨Nat.zero_le _, Nat.zero_le _⟩) va_S.rf (fun _ _ h => h) (fun _ h => h) (fun r u t H1 locs1 ht hvm hw hB hz hk1 hS1 => ?_)
  subst hw
  have e1 : locs1 = [] := List.eq_nil_iff_forall_not_mem.mpr (fun q hq => hS1.2.2 q hq)
  subst e1
  exact kk H1 (Nat.le_trans hH hz)
end OUT
abbrev rmT : Room := { frames := 6, cells := 1, slots := 6, locals := 150 }
def PreT (D : va_G) (aC : Nat → ClassId) (A : Nat → Prop) (ad : Nat → Nat → Nat) (n : Nat) (σ : St) (U : State) : Prop := Pre D aC A ad n σ U ∧ Thr A U
theorem PreT.blind {D : va_G} {aC : Nat → ClassId} {A : Nat → Prop} {ad : Nat → Nat → Nat} {n : Nat} {σ : St} {av : List Value} : FrameBlind (va_Pc av (PreT D aC A ad n σ)) := fun a U g mk h => ⟨h.1, (Pre.blind (av := av) a U g mk ⟨h.1, h.2.1⟩).2, h.2.2.calling⟩
set_option maxHeartbeats 4000000 in
set_option maxRecDepth 100000 in
theorem t_PC_bit (l : Launch) (hlt : l.stackTraces = false) (D : va_G) (aC : Nat → ClassId) (A : Nat → Prop) (ad : Nat → Nat → Nat) (n : Nat) (σ : St) (a1 : Int32) (h : f_PC_isOutside σ a1 0 (σ.1 3 0 2 - 1) = some (σ, 1)) : MetT l y_PC_bit w_PC_bit rmT (va_Pc [.ref (ad 0 0), .int a1] (PreT D aC A ad n σ)) := by
  refine MetT.ofW (cc := prog_1_method_11_code) (maxL := 2) (ret := (some .int)) (by decide) rfl ?_
  intro p e s m args below meth c s₁ B hml hv
  obtain ⟨hargs, ⟨hH, hK, hZ⟩, hT⟩ := hv
  have hx := B.exec
  have hb := B.bytes
  have hr := B.returns
  have hts := atoms_spec (ws := w_PC_bit) B.pre
  have hg : ∀ w ∈ gW, w.before args s = true := fun w h => hts w (List.mem_cons_of_mem _ h)
  have hem := B.noHandlers (hts _ List.mem_cons_self)
  have hown : s.vm.findClass "PrefixCodes" = some m.cls := findClass_of_methodNamed B.named
  have hlocks := B.notSynchronized
  have hS : va_S A s.heap s.heap [] := va_S.rf
  have hl := lv_entry ([.ref (ad 0 0), .int a1]) (n := 2) (Nat.le_of_ble_eq_true rfl)
  rw [show entryFrame m args 2 = entryFrame m (([.ref (ad 0 0), .int a1] : List Value).toArray) 2 by rw [hargs], lg_entry_eq]
  generalize (lg_sl ([.ref (ad 0 0), .int a1]) ++ List.replicate (2 - (lg_sl ([.ref (ad 0 0), .int a1])).length) Slot.unset).toArray = ls at hl ⊢
  have hl : lv_has ls 2 [(0, .ref (ad 0 0)), (1, .int a1)] := hl
  refine lv_iload_n hx hb d_PC_bit_0 rfl (lv_at hl 1 rfl) ?_
  refine lv_iconst (v := 0) hx hb d_PC_bit_1 (by decide) ?_
  refine lv_aload_n hx hb d_PC_bit_2 rfl (lv_at hl 0 rfl) ?_
  refine st_get hx hb hg hown hK hH (f := 0) (i := 0) hd_0 rfl rfl u_PC 3 (by decide) (hg _ wd_113) (v := .ref (ad 3 0)) rfl d_PC_bit_3 ?_
  refine st_get hx hb hg hown hK hH (f := 3) (i := 0) hd_3 rfl rfl u_Stream 2 (by decide) (hg _ wd_114) (v := .int (σ.1 3 0 2)) rfl d_PC_bit_6 ?_
  refine lv_iconst (v := 1) hx hb d_PC_bit_9 (by decide) ?_
  refine lv_isub hx hb d_PC_bit_10 ?_
  refine st_out h ⟨hx, hb, hml, hown, hg⟩ (cwGS hg wd_2 wd_3 wd_5 wd_4 yd_PC_isOutside ⟨Nat.le_of_ble_eq_true rfl, Nat.le_of_ble_eq_true rfl⟩) (Nat.le_refl _) hl.1 d_PC_bit_11 (fun H hz => ?_)
  refine lv_if_eq (tgt := 27) hx hb d_PC_bit_14 (by decide) (fun c14 => absurd c14 (by decide)) (fun c14 => ?_)
  exact st_throw hx hb hlt hT (hg _ th_w0) (hg _ th_w1) hown (List.mem_of_getElem? (i := 0) rfl) hem hlocks (hl.1.trans hml.symm) hz (Nat.le_of_ble_eq_true rfl) (Nat.le_of_ble_eq_true rfl) (Nat.le_of_ble_eq_true rfl) (Nat.le_of_ble_eq_true rfl) d_PC_bit_17 d_PC_bit_20 d_PC_bit_21 d_PC_bit_23 d_PC_bit_26
set_option maxHeartbeats 4000000 in
set_option maxRecDepth 100000 in
theorem t_PC_symbol (l : Launch) (hlt : l.stackTraces = false) (D : va_G) (aC : Nat → ClassId) (A : Nat → Prop) (ad : Nat → Nat → Nat) (n : Nat) (σ : St) (a1 : Int32) (h : f_PC_isOutside σ a1 0 (σ.1 26 0 1 - 1) = some (σ, 1)) : MetT l y_PC_symbol w_PC_symbol rmT (va_Pc [.ref (ad 0 0), .int a1] (PreT D aC A ad n σ)) := by
  refine MetT.ofW (cc := prog_1_method_27_code) (maxL := 2) (ret := (some .int)) (by decide) rfl ?_
  intro p e s m args below meth c s₁ B hml hv
  obtain ⟨hargs, ⟨hH, hK, hZ⟩, hT⟩ := hv
  have hx := B.exec
  have hb := B.bytes
  have hr := B.returns
  have hts := atoms_spec (ws := w_PC_symbol) B.pre
  have hg : ∀ w ∈ gW, w.before args s = true := fun w h => hts w (List.mem_cons_of_mem _ h)
  have hem := B.noHandlers (hts _ List.mem_cons_self)
  have hown : s.vm.findClass "PrefixCodes" = some m.cls := findClass_of_methodNamed B.named
  have hlocks := B.notSynchronized
  have hS : va_S A s.heap s.heap [] := va_S.rf
  have hl := lv_entry ([.ref (ad 0 0), .int a1]) (n := 2) (Nat.le_of_ble_eq_true rfl)
  rw [show entryFrame m args 2 = entryFrame m (([.ref (ad 0 0), .int a1] : List Value).toArray) 2 by rw [hargs], lg_entry_eq]
  generalize (lg_sl ([.ref (ad 0 0), .int a1]) ++ List.replicate (2 - (lg_sl ([.ref (ad 0 0), .int a1])).length) Slot.unset).toArray = ls at hl ⊢
  have hl : lv_has ls 2 [(0, .ref (ad 0 0)), (1, .int a1)] := hl
  refine lv_iload_n hx hb d_PC_symbol_0 rfl (lv_at hl 1 rfl) ?_
  refine lv_iconst (v := 0) hx hb d_PC_symbol_1 (by decide) ?_
  refine lv_aload_n hx hb d_PC_symbol_2 rfl (lv_at hl 0 rfl) ?_
  refine st_get hx hb hg hown hK hH (f := 0) (i := 0) hd_0 rfl rfl u_PC 7 (by decide) (hg _ wd_71) (v := .ref (ad 26 0)) rfl d_PC_symbol_3 ?_
  refine st_get hx hb hg hown hK hH (f := 26) (i := 0) hd_26 rfl rfl u_Text 1 (by decide) (hg _ wd_324) (v := .int (σ.1 26 0 1)) rfl d_PC_symbol_6 ?_
  refine lv_iconst (v := 1) hx hb d_PC_symbol_9 (by decide) ?_
  refine lv_isub hx hb d_PC_symbol_10 ?_
  refine st_out h ⟨hx, hb, hml, hown, hg⟩ (cwGS hg wd_2 wd_3 wd_5 wd_4 yd_PC_isOutside ⟨Nat.le_of_ble_eq_true rfl, Nat.le_of_ble_eq_true rfl⟩) (Nat.le_refl _) hl.1 d_PC_symbol_11 (fun H hz => ?_)
  refine lv_if_eq (tgt := 27) hx hb d_PC_symbol_14 (by decide) (fun c14 => absurd c14 (by decide)) (fun c14 => ?_)
  exact st_throw hx hb hlt hT (hg _ th_w0) (hg _ th_w1) hown (List.mem_of_getElem? (i := 2) rfl) hem hlocks (hl.1.trans hml.symm) hz (Nat.le_of_ble_eq_true rfl) (Nat.le_of_ble_eq_true rfl) (Nat.le_of_ble_eq_true rfl) (Nat.le_of_ble_eq_true rfl) d_PC_symbol_17 d_PC_symbol_20 d_PC_symbol_21 d_PC_symbol_23 d_PC_symbol_26
set_option maxHeartbeats 4000000 in
set_option maxRecDepth 100000 in
theorem t_PC_entry (l : Launch) (hlt : l.stackTraces = false) (D : va_G) (aC : Nat → ClassId) (A : Nat → Prop) (ad : Nat → Nat → Nat) (n : Nat) (σ : St) (a1 : Int32) (a2 : Int32) (h : f_PC_isOutside σ a1 0 (σ.1 19 0 1 - 1) = some (σ, 1) ∨ (f_PC_isOutside σ a1 0 (σ.1 19 0 1 - 1) = some (σ, 0) ∧ f_PC_isOutside σ a2 0 2 = some (σ, 1))) : MetT l y_PC_entry w_PC_entry rmT (va_Pc [.ref (ad 0 0), .int a1, .int a2] (PreT D aC A ad n σ)) := by
  refine MetT.ofW (cc := prog_1_method_20_code) (maxL := 3) (ret := (some .int)) (by decide) rfl ?_
  intro p e s m args below meth c s₁ B hml hv
  obtain ⟨hargs, ⟨hH, hK, hZ⟩, hT⟩ := hv
  have hx := B.exec
  have hb := B.bytes
  have hr := B.returns
  have hts := atoms_spec (ws := w_PC_entry) B.pre
  have hg : ∀ w ∈ gW, w.before args s = true := fun w h => hts w (List.mem_cons_of_mem _ h)
  have hem := B.noHandlers (hts _ List.mem_cons_self)
  have hown : s.vm.findClass "PrefixCodes" = some m.cls := findClass_of_methodNamed B.named
  have hlocks := B.notSynchronized
  have hS : va_S A s.heap s.heap [] := va_S.rf
  have hl := lv_entry ([.ref (ad 0 0), .int a1, .int a2]) (n := 3) (Nat.le_of_ble_eq_true rfl)
  rw [show entryFrame m args 3 = entryFrame m (([.ref (ad 0 0), .int a1, .int a2] : List Value).toArray) 3 by rw [hargs], lg_entry_eq]
  generalize (lg_sl ([.ref (ad 0 0), .int a1, .int a2]) ++ List.replicate (3 - (lg_sl ([.ref (ad 0 0), .int a1, .int a2])).length) Slot.unset).toArray = ls at hl ⊢
  have hl : lv_has ls 3 [(0, .ref (ad 0 0)), (1, .int a1), (2, .int a2)] := hl
  refine lv_iload_n hx hb d_PC_entry_0 rfl (lv_at hl 1 rfl) ?_
  refine lv_iconst (v := 0) hx hb d_PC_entry_1 (by decide) ?_
  refine lv_aload_n hx hb d_PC_entry_2 rfl (lv_at hl 0 rfl) ?_
  refine st_get hx hb hg hown hK hH (f := 0) (i := 0) hd_0 rfl rfl u_PC 6 (by decide) (hg _ wd_289) (v := .ref (ad 19 0)) rfl d_PC_entry_3 ?_
  refine st_get hx hb hg hown hK hH (f := 19) (i := 0) hd_19 rfl rfl u_Table 1 (by decide) (hg _ wd_290) (v := .int (σ.1 19 0 1)) rfl d_PC_entry_6 ?_
  refine lv_iconst (v := 1) hx hb d_PC_entry_9 (by decide) ?_
  refine lv_isub hx hb d_PC_entry_10 ?_
  rcases h with h | ⟨h, h2⟩
  · refine st_out h ⟨hx, hb, hml, hown, hg⟩ (cwGS hg wd_2 wd_3 wd_5 wd_4 yd_PC_isOutside ⟨Nat.le_of_ble_eq_true rfl, Nat.le_of_ble_eq_true rfl⟩) (Nat.le_refl _) hl.1 d_PC_entry_11 (fun H hz => ?_)
    refine lv_if_ne (tgt := 26) hx hb d_PC_entry_14 (by decide) (fun c14 => ?_) (fun c14 => absurd c14 (by decide))
    exact st_throw hx hb hlt hT (hg _ th_w0) (hg _ th_w1) hown (List.mem_of_getElem? (i := 1) rfl) hem hlocks (hl.1.trans hml.symm) hz (Nat.le_of_ble_eq_true rfl) (Nat.le_of_ble_eq_true rfl) (Nat.le_of_ble_eq_true rfl) (Nat.le_of_ble_eq_true rfl) d_PC_entry_26 d_PC_entry_29 d_PC_entry_30 d_PC_entry_32 d_PC_entry_35
  · refine st_out h ⟨hx, hb, hml, hown, hg⟩ (cwGS hg wd_2 wd_3 wd_5 wd_4 yd_PC_isOutside ⟨Nat.le_of_ble_eq_true rfl, Nat.le_of_ble_eq_true rfl⟩) (Nat.le_refl _) hl.1 d_PC_entry_11 (fun H hz => ?_)
    refine lv_if_ne (tgt := 26) hx hb d_PC_entry_14 (by decide) (fun c14 => absurd rfl c14) (fun c14 => ?_)
    refine lv_iload_n hx hb d_PC_entry_17 rfl (lv_at hl 2 rfl) ?_
    refine lv_iconst (v := 0) hx hb d_PC_entry_18 (by decide) ?_
    refine lv_iconst (v := 2) hx hb d_PC_entry_19 (by decide) ?_
    refine st_out h2 ⟨hx, hb, hml, hown, hg⟩ (cwGS hg wd_2 wd_3 wd_5 wd_4 yd_PC_isOutside ⟨Nat.le_of_ble_eq_true rfl, Nat.le_of_ble_eq_true rfl⟩) hz hl.1 d_PC_entry_20 (fun H hz => ?_)
    refine lv_if_eq (tgt := 36) hx hb d_PC_entry_23 (by decide) (fun c23 => absurd c23 (by decide)) (fun c23 => ?_)
    exact st_throw hx hb hlt hT (hg _ th_w0) (hg _ th_w1) hown (List.mem_of_getElem? (i := 1) rfl) hem hlocks (hl.1.trans hml.symm) hz (Nat.le_of_ble_eq_true rfl) (Nat.le_of_ble_eq_true rfl) (Nat.le_of_ble_eq_true rfl) (Nat.le_of_ble_eq_true rfl) d_PC_entry_26 d_PC_entry_29 d_PC_entry_30 d_PC_entry_32 d_PC_entry_35
