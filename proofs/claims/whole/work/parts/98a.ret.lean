theorem we_98 : (Cond.methodLink "PrefixCodes" 151 ⟨"PrefixCodes$Stream", "at", "(I)I"⟩ : Cond) ∈ gW := List.mem_filter.mpr ⟨gt4 _ (List.mem_of_getElem? (i := 126) rfl), rfl⟩
theorem we_99 : (Cond.code ⟨"PrefixCodes$Table", "tell", "(II)I"⟩ prog_10_method_4_code 5 (some .int) : Cond) ∈ gW := List.mem_filter.mpr ⟨gt4 _ (List.mem_of_getElem? (i := 138) rfl), rfl⟩
theorem we_100 : (Cond.methodLink "PrefixCodes" 203 ⟨"PrefixCodes$Table", "tell", "(II)I"⟩ : Cond) ∈ gW := List.mem_filter.mpr ⟨gt4 _ (List.mem_of_getElem? (i := 135) rfl), rfl⟩
theorem we_101 : (Cond.instanceMethod ⟨"PrefixCodes$Table", "tell", "(II)I"⟩ : Cond) ∈ gW := List.mem_filter.mpr ⟨gt4 _ (List.mem_of_getElem? (i := 136) rfl), rfl⟩
theorem we_102 : (Cond.selects "PrefixCodes$Table" ⟨"PrefixCodes$Table", "tell", "(II)I"⟩ ⟨"PrefixCodes$Table", "tell", "(II)I"⟩ : Cond) ∈ gW := List.mem_filter.mpr ⟨gt4 _ (List.mem_of_getElem? (i := 137) rfl), rfl⟩
theorem d_PC_bit_0 : decode prog_1_method_11_code 0 = .ok (.iload_n 1, 1) := by decide +kernel
theorem d_PC_bit_1 : decode prog_1_method_11_code 1 = .ok (.iconst 0, 1) := by decide +kernel
theorem d_PC_bit_2 : decode prog_1_method_11_code 2 = .ok (.aload_n 0, 1) := by decide +kernel
theorem d_PC_bit_3 : decode prog_1_method_11_code 3 = .ok (.getfield 26, 3) := by decide +kernel
theorem d_PC_bit_6 : decode prog_1_method_11_code 6 = .ok (.getfield 141, 3) := by decide +kernel
theorem d_PC_bit_9 : decode prog_1_method_11_code 9 = .ok (.iconst 1, 1) := by decide +kernel
theorem d_PC_bit_10 : decode prog_1_method_11_code 10 = .ok (.isub, 1) := by decide +kernel
theorem d_PC_bit_11 : decode prog_1_method_11_code 11 = .ok (.invokestatic 76, 3) := by decide +kernel
theorem d_PC_bit_14 : decode prog_1_method_11_code 14 = .ok (.ifCond .eq 13, 3) := by decide +kernel
theorem d_PC_bit_17 : decode prog_1_method_11_code 17 = .ok (.new 144, 3) := by decide +kernel
theorem d_PC_bit_20 : decode prog_1_method_11_code 20 = .ok (.dup, 1) := by decide +kernel
theorem d_PC_bit_21 : decode prog_1_method_11_code 21 = .ok (.ldc 146, 2) := by decide +kernel
theorem d_PC_bit_23 : decode prog_1_method_11_code 23 = .ok (.invokespecial 148, 3) := by decide +kernel
theorem d_PC_bit_26 : decode prog_1_method_11_code 26 = .ok (.athrow, 1) := by decide +kernel
theorem d_PC_bit_27 : decode prog_1_method_11_code 27 = .ok (.aload_n 0, 1) := by decide +kernel
theorem d_PC_bit_28 : decode prog_1_method_11_code 28 = .ok (.getfield 26, 3) := by decide +kernel
theorem d_PC_bit_31 : decode prog_1_method_11_code 31 = .ok (.iload_n 1, 1) := by decide +kernel
theorem d_PC_bit_32 : decode prog_1_method_11_code 32 = .ok (.invokevirtual 151, 3) := by decide +kernel
theorem d_PC_bit_35 : decode prog_1_method_11_code 35 = .ok (.ireturn, 1) := by decide +kernel
noncomputable def f_PC_bit (σ : St) (a1 : Int32) : Option (St × Int32) :=
  b2 (f_PC_isOutside σ a1 0 ((σ.1 3 0 2) - 1)) fun σ1 x2 =>
  if x2 = 0 then
    b2 (f_Stream_at σ1 a1) fun σ3 x4 =>
    some (σ3, x4)
  else
  none
set_option maxHeartbeats 4000000 in
set_option maxRecDepth 100000 in
theorem c_PC_bit (l : Launch) (D : va_G) (aC : Nat → ClassId) (A : Nat → Prop) (ad : Nat → Nat → Nat) (n : Nat) (σ : St) (a1 : Int32) (o : St × Int32) (h : f_PC_bit σ a1 = some o) : Met l y_PC_bit w_PC_bit rm_PC_bit (va_Pc [.ref (ad 0 0), .int a1] (Pre D aC A ad n σ)) (va_Qi (fun r (_ : Unit) => r = o.2) (fun _ t => Hold D aC A ad n o.1 t.heap) A) 0 0 A := by
  refine Met.ofW (cc := prog_1_method_11_code) (maxL := 2) (ret := (some .int)) (by decide) rfl ?_
  intro p e s m args below meth c s₁ B hml hv
  obtain ⟨hargs, hH, hK, hZ⟩ := hv
  have hx := B.exec
  have hb := B.bytes
  have hr := B.returns
  have hts := atoms_spec (ws := w_PC_bit) B.pre
  have hg : ∀ w ∈ gW, w.before args s = true := fun w h => hts w (List.mem_cons_of_mem _ h)
  have hown : s.vm.findClass "PrefixCodes" = some m.cls := findClass_of_methodNamed B.named
  have hlocks := B.notSynchronized
  have hS : va_S A s.heap s.heap [] := va_S.rf
  have hl := lv_entry ([.ref (ad 0 0), .int a1]) (n := 2) (Nat.le_of_ble_eq_true rfl)
  rw [show entryFrame m args 2 = entryFrame m (([.ref (ad 0 0), .int a1] : List Value).toArray) 2 by rw [hargs], lg_entry_eq]
  generalize (lg_sl ([.ref (ad 0 0), .int a1]) ++ List.replicate (2 - (lg_sl ([.ref (ad 0 0), .int a1])).length) Slot.unset).toArray = ls at hl ⊢
  have hl : lv_has ls 2 [(0, .ref (ad 0 0)), (1, .int a1)] := hl
  generalize hQ0 : MQ below (va_Qi (fun r (_ : Unit) => r = o.2) (fun _ t => Hold D aC A ad n o.1 t.heap) A) args s 0 0 A = Q0
  unfold f_PC_bit at h
  refine lv_iload_n hx hb d_PC_bit_0 rfl (lv_at hl 1 rfl) ?_
  refine lv_iconst (v := 0) hx hb d_PC_bit_1 (by decide) ?_
  refine lv_aload_n hx hb d_PC_bit_2 rfl (lv_at hl 0 rfl) ?_
  refine st_get hx hb hg hown hK hH (f := 0) (i := 0) hd_0 rfl rfl u_PC 3 (by decide) (hg _ wd_113) (v := .ref (ad 3 0)) rfl d_PC_bit_3 ?_
  refine st_get hx hb hg hown hK hH (f := 3) (i := 0) hd_3 rfl rfl u_Stream 2 (by decide) (hg _ wd_114) (v := .int (σ.1 3 0 2)) rfl d_PC_bit_6 ?_
  refine lv_iconst (v := 1) hx hb d_PC_bit_9 (by decide) ?_
  refine lv_isub hx hb d_PC_bit_10 ?_
  obtain ⟨qc, hc11, h⟩ := b2_some h
  obtain ⟨σ1, x2⟩ := qc
  have h := b2_at h
  refine st_Si (As := [.int a1, .int 0, .int ((σ.1 3 0 2) - 1)]) (rest := []) ⟨hx, hb, hml, hown, hg⟩ (c_PC_isOutside l D aC A ad n _ a1 0 ((σ.1 3 0 2) - 1) _ hc11) (cwGS hg wd_2 wd_3 wd_5 wd_4 yd_PC_isOutside ⟨Nat.le_of_ble_eq_true rfl, Nat.le_of_ble_eq_true rfl⟩) hK hH hS hZ rfl hl.1 rfl (Nat.le_of_ble_eq_true rfl) d_PC_bit_11 ⟨Nat.zero_le _, Nat.zero_le _⟩ (fun H locs hH hS => ?_)
  refine lv_if_eq (tgt := 27) hx hb d_PC_bit_14 (by decide) (fun c14 => ?_) (fun c14 => ?_)
  · have h := it h c14
    refine lv_aload_n hx hb d_PC_bit_27 rfl (lv_at hl 0 rfl) ?_
    refine st_get hx hb hg hown hK hH (f := 0) (i := 0) hd_0 rfl rfl u_PC 3 (by decide) (hg _ wd_113) (v := .ref (ad 3 0)) rfl d_PC_bit_28 ?_
    refine lv_iload_n hx hb d_PC_bit_31 rfl (lv_at hl 1 rfl) ?_
    obtain ⟨qc, hc32, h⟩ := b2_some h
    obtain ⟨σ3, x4⟩ := qc
    have h := b2_at h
    refine st_Vi (As := [.int a1]) (rest := []) ⟨hx, hb, hml, hown, hg⟩ (c_Stream_at l D aC A ad n _ a1 _ hc32) (cwG hg wd_148 we_98 wd_150 wd_151 wd_119 yd_Stream_at ⟨Nat.le_of_ble_eq_true rfl, Nat.le_of_ble_eq_true rfl⟩) hK hH hS hZ hd_3 rfl rfl rfl hl.1 rfl (Nat.le_of_ble_eq_true rfl) d_PC_bit_32 ⟨Nat.zero_le _, Nat.zero_le _⟩ (fun H locs hH hS => ?_)
    cases h
    rw [← hQ0]
    exact W.iret hx hb hr (fun t ht hW => ⟨⟨_, (), rfl, rfl, by dsimp only; rw [ht]; exact hH⟩, hS.F ht⟩) hS.2.2 d_PC_bit_35
  · have h := ie h c14
    cases h
theorem d_PC_entry_0 : decode prog_1_method_20_code 0 = .ok (.iload_n 1, 1) := by decide +kernel
theorem d_PC_entry_1 : decode prog_1_method_20_code 1 = .ok (.iconst 0, 1) := by decide +kernel
theorem d_PC_entry_2 : decode prog_1_method_20_code 2 = .ok (.aload_n 0, 1) := by decide +kernel
theorem d_PC_entry_3 : decode prog_1_method_20_code 3 = .ok (.getfield 49, 3) := by decide +kernel
theorem d_PC_entry_6 : decode prog_1_method_20_code 6 = .ok (.getfield 198, 3) := by decide +kernel
theorem d_PC_entry_9 : decode prog_1_method_20_code 9 = .ok (.iconst 1, 1) := by decide +kernel
theorem d_PC_entry_10 : decode prog_1_method_20_code 10 = .ok (.isub, 1) := by decide +kernel
theorem d_PC_entry_11 : decode prog_1_method_20_code 11 = .ok (.invokestatic 76, 3) := by decide +kernel
theorem d_PC_entry_14 : decode prog_1_method_20_code 14 = .ok (.ifCond .ne 12, 3) := by decide +kernel
theorem d_PC_entry_17 : decode prog_1_method_20_code 17 = .ok (.iload_n 2, 1) := by decide +kernel
theorem d_PC_entry_18 : decode prog_1_method_20_code 18 = .ok (.iconst 0, 1) := by decide +kernel
theorem d_PC_entry_19 : decode prog_1_method_20_code 19 = .ok (.iconst 2, 1) := by decide +kernel
theorem d_PC_entry_20 : decode prog_1_method_20_code 20 = .ok (.invokestatic 76, 3) := by decide +kernel
theorem d_PC_entry_23 : decode prog_1_method_20_code 23 = .ok (.ifCond .eq 13, 3) := by decide +kernel
theorem d_PC_entry_26 : decode prog_1_method_20_code 26 = .ok (.new 144, 3) := by decide +kernel
theorem d_PC_entry_29 : decode prog_1_method_20_code 29 = .ok (.dup, 1) := by decide +kernel
theorem d_PC_entry_30 : decode prog_1_method_20_code 30 = .ok (.ldc 201, 2) := by decide +kernel
theorem d_PC_entry_32 : decode prog_1_method_20_code 32 = .ok (.invokespecial 148, 3) := by decide +kernel
theorem d_PC_entry_35 : decode prog_1_method_20_code 35 = .ok (.athrow, 1) := by decide +kernel
theorem d_PC_entry_36 : decode prog_1_method_20_code 36 = .ok (.aload_n 0, 1) := by decide +kernel
theorem d_PC_entry_37 : decode prog_1_method_20_code 37 = .ok (.getfield 49, 3) := by decide +kernel
theorem d_PC_entry_40 : decode prog_1_method_20_code 40 = .ok (.iload_n 1, 1) := by decide +kernel
theorem d_PC_entry_41 : decode prog_1_method_20_code 41 = .ok (.iload_n 2, 1) := by decide +kernel
theorem d_PC_entry_42 : decode prog_1_method_20_code 42 = .ok (.invokevirtual 203, 3) := by decide +kernel
theorem d_PC_entry_45 : decode prog_1_method_20_code 45 = .ok (.ireturn, 1) := by decide +kernel
noncomputable def f_PC_entry (σ : St) (a1 : Int32) (a2 : Int32) : Option (St × Int32) :=
  b2 (f_PC_isOutside σ a1 0 ((σ.1 19 0 1) - 1)) fun σ1 x2 =>
  if x2 = 0 then
    b2 (f_PC_isOutside σ1 a2 0 2) fun σ3 x4 =>
    if x4 = 0 then
      b2 (f_Table_tell σ3 a1 a2) fun σ5 x6 =>
      some (σ5, x6)
    else
    none
  else
  none
set_option maxHeartbeats 4000000 in
set_option maxRecDepth 100000 in
theorem c_PC_entry (l : Launch) (D : va_G) (aC : Nat → ClassId) (A : Nat → Prop) (ad : Nat → Nat → Nat) (n : Nat) (σ : St) (a1 : Int32) (a2 : Int32) (o : St × Int32) (h : f_PC_entry σ a1 a2 = some o) : Met l y_PC_entry w_PC_entry rm_PC_entry (va_Pc [.ref (ad 0 0), .int a1, .int a2] (Pre D aC A ad n σ)) (va_Qi (fun r (_ : Unit) => r = o.2) (fun _ t => Hold D aC A ad n o.1 t.heap) A) 0 0 A := by
  refine Met.ofW (cc := prog_1_method_20_code) (maxL := 3) (ret := (some .int)) (by decide) rfl ?_
  intro p e s m args below meth c s₁ B hml hv
  obtain ⟨hargs, hH, hK, hZ⟩ := hv
  have hx := B.exec
  have hb := B.bytes
  have hr := B.returns
  have hts := atoms_spec (ws := w_PC_entry) B.pre
  have hg : ∀ w ∈ gW, w.before args s = true := fun w h => hts w (List.mem_cons_of_mem _ h)
  have hown : s.vm.findClass "PrefixCodes" = some m.cls := findClass_of_methodNamed B.named
  have hlocks := B.notSynchronized
  have hS : va_S A s.heap s.heap [] := va_S.rf
  have hl := lv_entry ([.ref (ad 0 0), .int a1, .int a2]) (n := 3) (Nat.le_of_ble_eq_true rfl)
  rw [show entryFrame m args 3 = entryFrame m (([.ref (ad 0 0), .int a1, .int a2] : List Value).toArray) 3 by rw [hargs], lg_entry_eq]
  generalize (lg_sl ([.ref (ad 0 0), .int a1, .int a2]) ++ List.replicate (3 - (lg_sl ([.ref (ad 0 0), .int a1, .int a2])).length) Slot.unset).toArray = ls at hl ⊢
  have hl : lv_has ls 3 [(0, .ref (ad 0 0)), (1, .int a1), (2, .int a2)] := hl
  generalize hQ0 : MQ below (va_Qi (fun r (_ : Unit) => r = o.2) (fun _ t => Hold D aC A ad n o.1 t.heap) A) args s 0 0 A = Q0
  unfold f_PC_entry at h
  refine lv_iload_n hx hb d_PC_entry_0 rfl (lv_at hl 1 rfl) ?_
  refine lv_iconst (v := 0) hx hb d_PC_entry_1 (by decide) ?_
  refine lv_aload_n hx hb d_PC_entry_2 rfl (lv_at hl 0 rfl) ?_
  refine st_get hx hb hg hown hK hH (f := 0) (i := 0) hd_0 rfl rfl u_PC 6 (by decide) (hg _ wd_289) (v := .ref (ad 19 0)) rfl d_PC_entry_3 ?_
  refine st_get hx hb hg hown hK hH (f := 19) (i := 0) hd_19 rfl rfl u_Table 1 (by decide) (hg _ wd_290) (v := .int (σ.1 19 0 1)) rfl d_PC_entry_6 ?_
  refine lv_iconst (v := 1) hx hb d_PC_entry_9 (by decide) ?_
  refine lv_isub hx hb d_PC_entry_10 ?_
  obtain ⟨qc, hc11, h⟩ := b2_some h
  obtain ⟨σ1, x2⟩ := qc
  have h := b2_at h
  refine st_Si (As := [.int a1, .int 0, .int ((σ.1 19 0 1) - 1)]) (rest := []) ⟨hx, hb, hml, hown, hg⟩ (c_PC_isOutside l D aC A ad n _ a1 0 ((σ.1 19 0 1) - 1) _ hc11) (cwGS hg wd_2 wd_3 wd_5 wd_4 yd_PC_isOutside ⟨Nat.le_of_ble_eq_true rfl, Nat.le_of_ble_eq_true rfl⟩) hK hH hS hZ rfl hl.1 rfl (Nat.le_of_ble_eq_true rfl) d_PC_entry_11 ⟨Nat.zero_le _, Nat.zero_le _⟩ (fun H locs hH hS => ?_)
  refine lv_if_ne (tgt := 26) hx hb d_PC_entry_14 (by decide) (fun c14 => ?_) (fun c14 => ?_)
  · have h := ie h c14
    cases h
  · have h := it h c14
    refine lv_iload_n hx hb d_PC_entry_17 rfl (lv_at hl 2 rfl) ?_
    refine lv_iconst (v := 0) hx hb d_PC_entry_18 (by decide) ?_
    refine lv_iconst (v := 2) hx hb d_PC_entry_19 (by decide) ?_
    obtain ⟨qc, hc20, h⟩ := b2_some h
    obtain ⟨σ3, x4⟩ := qc
    have h := b2_at h
    refine st_Si (As := [.int a2, .int 0, .int 2]) (rest := []) ⟨hx, hb, hml, hown, hg⟩ (c_PC_isOutside l D aC A ad n _ a2 0 2 _ hc20) (cwGS hg wd_2 wd_3 wd_5 wd_4 yd_PC_isOutside ⟨Nat.le_of_ble_eq_true rfl, Nat.le_of_ble_eq_true rfl⟩) hK hH hS hZ rfl hl.1 rfl (Nat.le_of_ble_eq_true rfl) d_PC_entry_20 ⟨Nat.zero_le _, Nat.zero_le _⟩ (fun H locs hH hS => ?_)
    refine lv_if_eq (tgt := 36) hx hb d_PC_entry_23 (by decide) (fun c23 => ?_) (fun c23 => ?_)
    · have h := it h c23
      refine lv_aload_n hx hb d_PC_entry_36 rfl (lv_at hl 0 rfl) ?_
      refine st_get hx hb hg hown hK hH (f := 0) (i := 0) hd_0 rfl rfl u_PC 6 (by decide) (hg _ wd_289) (v := .ref (ad 19 0)) rfl d_PC_entry_37 ?_
      refine lv_iload_n hx hb d_PC_entry_40 rfl (lv_at hl 1 rfl) ?_
      refine lv_iload_n hx hb d_PC_entry_41 rfl (lv_at hl 2 rfl) ?_
      obtain ⟨qc, hc42, h⟩ := b2_some h
      obtain ⟨σ5, x6⟩ := qc
      have h := b2_at h
      refine st_Vi (As := [.int a1, .int a2]) (rest := []) ⟨hx, hb, hml, hown, hg⟩ (c_Table_tell l D aC A ad n _ a1 a2 _ hc42) (cwG hg we_99 we_100 we_101 we_102 wd_286 yd_Table_tell ⟨Nat.le_of_ble_eq_true rfl, Nat.le_of_ble_eq_true rfl⟩) hK hH hS hZ hd_19 rfl rfl rfl hl.1 rfl (Nat.le_of_ble_eq_true rfl) d_PC_entry_42 ⟨Nat.zero_le _, Nat.zero_le _⟩ (fun H locs hH hS => ?_)
      cases h
      rw [← hQ0]
      exact W.iret hx hb hr (fun t ht hW => ⟨⟨_, (), rfl, rfl, by dsimp only; rw [ht]; exact hH⟩, hS.F ht⟩) hS.2.2 d_PC_entry_45
    · have h := ie h c23
      cases h
theorem d_PC_symbol_0 : decode prog_1_method_27_code 0 = .ok (.iload_n 1, 1) := by decide +kernel
theorem d_PC_symbol_1 : decode prog_1_method_27_code 1 = .ok (.iconst 0, 1) := by decide +kernel
theorem d_PC_symbol_2 : decode prog_1_method_27_code 2 = .ok (.aload_n 0, 1) := by decide +kernel
theorem d_PC_symbol_3 : decode prog_1_method_27_code 3 = .ok (.getfield 56, 3) := by decide +kernel
theorem d_PC_symbol_6 : decode prog_1_method_27_code 6 = .ok (.getfield 212, 3) := by decide +kernel
theorem d_PC_symbol_9 : decode prog_1_method_27_code 9 = .ok (.iconst 1, 1) := by decide +kernel
theorem d_PC_symbol_10 : decode prog_1_method_27_code 10 = .ok (.isub, 1) := by decide +kernel
theorem d_PC_symbol_11 : decode prog_1_method_27_code 11 = .ok (.invokestatic 76, 3) := by decide +kernel
theorem d_PC_symbol_14 : decode prog_1_method_27_code 14 = .ok (.ifCond .eq 13, 3) := by decide +kernel
theorem d_PC_symbol_17 : decode prog_1_method_27_code 17 = .ok (.new 144, 3) := by decide +kernel
theorem d_PC_symbol_20 : decode prog_1_method_27_code 20 = .ok (.dup, 1) := by decide +kernel
theorem d_PC_symbol_21 : decode prog_1_method_27_code 21 = .ok (.ldc 243, 2) := by decide +kernel
theorem d_PC_symbol_23 : decode prog_1_method_27_code 23 = .ok (.invokespecial 148, 3) := by decide +kernel
theorem d_PC_symbol_26 : decode prog_1_method_27_code 26 = .ok (.athrow, 1) := by decide +kernel
theorem d_PC_symbol_27 : decode prog_1_method_27_code 27 = .ok (.aload_n 0, 1) := by decide +kernel
theorem d_PC_symbol_28 : decode prog_1_method_27_code 28 = .ok (.getfield 56, 3) := by decide +kernel
theorem d_PC_symbol_31 : decode prog_1_method_27_code 31 = .ok (.getfield 245, 3) := by decide +kernel
theorem d_PC_symbol_34 : decode prog_1_method_27_code 34 = .ok (.iload_n 1, 1) := by decide +kernel
theorem d_PC_symbol_35 : decode prog_1_method_27_code 35 = .ok (.iaload, 1) := by decide +kernel
theorem d_PC_symbol_36 : decode prog_1_method_27_code 36 = .ok (.ireturn, 1) := by decide +kernel
noncomputable def f_PC_symbol (σ : St) (a1 : Int32) : Option (St × Int32) :=
  b2 (f_PC_isOutside σ a1 0 ((σ.1 26 0 1) - 1)) fun σ1 x2 =>
  if x2 = 0 then
    gd (ib a1 1000) <|
    some (σ1, σ1.1 27 0 a1.toNatClampNeg)
  else
  none
set_option maxHeartbeats 4000000 in
set_option maxRecDepth 100000 in
theorem c_PC_symbol (l : Launch) (D : va_G) (aC : Nat → ClassId) (A : Nat → Prop) (ad : Nat → Nat → Nat) (n : Nat) (σ : St) (a1 : Int32) (o : St × Int32) (h : f_PC_symbol σ a1 = some o) : Met l y_PC_symbol w_PC_symbol rm_PC_symbol (va_Pc [.ref (ad 0 0), .int a1] (Pre D aC A ad n σ)) (va_Qi (fun r (_ : Unit) => r = o.2) (fun _ t => Hold D aC A ad n o.1 t.heap) A) 0 0 A := by
  refine Met.ofW (cc := prog_1_method_27_code) (maxL := 2) (ret := (some .int)) (by decide) rfl ?_
  intro p e s m args below meth c s₁ B hml hv
  obtain ⟨hargs, hH, hK, hZ⟩ := hv
  have hx := B.exec
  have hb := B.bytes
  have hr := B.returns
  have hts := atoms_spec (ws := w_PC_symbol) B.pre
  have hg : ∀ w ∈ gW, w.before args s = true := fun w h => hts w (List.mem_cons_of_mem _ h)
  have hown : s.vm.findClass "PrefixCodes" = some m.cls := findClass_of_methodNamed B.named
  have hlocks := B.notSynchronized
  have hS : va_S A s.heap s.heap [] := va_S.rf
  have hl := lv_entry ([.ref (ad 0 0), .int a1]) (n := 2) (Nat.le_of_ble_eq_true rfl)
  rw [show entryFrame m args 2 = entryFrame m (([.ref (ad 0 0), .int a1] : List Value).toArray) 2 by rw [hargs], lg_entry_eq]
  generalize (lg_sl ([.ref (ad 0 0), .int a1]) ++ List.replicate (2 - (lg_sl ([.ref (ad 0 0), .int a1])).length) Slot.unset).toArray = ls at hl ⊢
  have hl : lv_has ls 2 [(0, .ref (ad 0 0)), (1, .int a1)] := hl
  generalize hQ0 : MQ below (va_Qi (fun r (_ : Unit) => r = o.2) (fun _ t => Hold D aC A ad n o.1 t.heap) A) args s 0 0 A = Q0
  unfold f_PC_symbol at h
  refine lv_iload_n hx hb d_PC_symbol_0 rfl (lv_at hl 1 rfl) ?_
  refine lv_iconst (v := 0) hx hb d_PC_symbol_1 (by decide) ?_
  refine lv_aload_n hx hb d_PC_symbol_2 rfl (lv_at hl 0 rfl) ?_
  refine st_get hx hb hg hown hK hH (f := 0) (i := 0) hd_0 rfl rfl u_PC 7 (by decide) (hg _ wd_71) (v := .ref (ad 26 0)) rfl d_PC_symbol_3 ?_
  refine st_get hx hb hg hown hK hH (f := 26) (i := 0) hd_26 rfl rfl u_Text 1 (by decide) (hg _ wd_324) (v := .int (σ.1 26 0 1)) rfl d_PC_symbol_6 ?_
  refine lv_iconst (v := 1) hx hb d_PC_symbol_9 (by decide) ?_
  refine lv_isub hx hb d_PC_symbol_10 ?_
  obtain ⟨qc, hc11, h⟩ := b2_some h
  obtain ⟨σ1, x2⟩ := qc
  have h := b2_at h
  refine st_Si (As := [.int a1, .int 0, .int ((σ.1 26 0 1) - 1)]) (rest := []) ⟨hx, hb, hml, hown, hg⟩ (c_PC_isOutside l D aC A ad n _ a1 0 ((σ.1 26 0 1) - 1) _ hc11) (cwGS hg wd_2 wd_3 wd_5 wd_4 yd_PC_isOutside ⟨Nat.le_of_ble_eq_true rfl, Nat.le_of_ble_eq_true rfl⟩) hK hH hS hZ rfl hl.1 rfl (Nat.le_of_ble_eq_true rfl) d_PC_symbol_11 ⟨Nat.zero_le _, Nat.zero_le _⟩ (fun H locs hH hS => ?_)
  refine lv_if_eq (tgt := 27) hx hb d_PC_symbol_14 (by decide) (fun c14 => ?_) (fun c14 => ?_)
  · have h := it h c14
    refine lv_aload_n hx hb d_PC_symbol_27 rfl (lv_at hl 0 rfl) ?_
    refine st_get hx hb hg hown hK hH (f := 0) (i := 0) hd_0 rfl rfl u_PC 7 (by decide) (hg _ wd_71) (v := .ref (ad 26 0)) rfl d_PC_symbol_28 ?_
    refine st_get hx hb hg hown hK hH (f := 26) (i := 0) hd_26 rfl rfl u_Text 0 (by decide) (hg _ wd_422) (v := .ref (ad 27 0)) rfl d_PC_symbol_31 ?_
    refine lv_iload_n hx hb d_PC_symbol_34 rfl (lv_at hl 1 rfl) ?_
    obtain ⟨g35, h⟩ := gd_some h
    refine st_iald hx hb hK hH (f := 27) (i := 0) hd_27 rfl g35 d_PC_symbol_35 ?_
    cases h
    rw [← hQ0]
    exact W.iret hx hb hr (fun t ht hW => ⟨⟨_, (), rfl, rfl, by dsimp only; rw [ht]; exact hH⟩, hS.F ht⟩) hS.2.2 d_PC_symbol_36
  · have h := ie h c14
    cases h
