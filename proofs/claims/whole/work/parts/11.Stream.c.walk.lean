set_option maxHeartbeats 4000000 in
set_option maxRecDepth 100000 in
theorem c_Stream_placeOf (l : Launch) (D : va_G) (aC : Nat → ClassId) (A : Nat → Prop) (ad : Nat → Nat → Nat) (n : Nat) (σ : St) (a1 : Int32) (o : St × Int32) (h : f_Stream_placeOf σ a1 = some o) : Met l y_Stream_placeOf w_Stream_placeOf rm_Stream_placeOf (va_Pc [.ref (ad 3 0), .int a1] (Pre D aC A ad n σ)) (va_Qi (fun r (_ : Unit) => r = o.2) (fun _ t => Hold D aC A ad n o.1 t.heap) A) 0 0 A := by
  refine Met.ofW (cc := prog_9_method_2_code) (maxL := 2) (ret := (some .int)) (by decide) rfl ?_
  intro p e s m args below meth c s₁ B hml hv
  obtain ⟨hargs, hH, hK, hZ⟩ := hv
  have hx := B.exec
  have hb := B.bytes
  have hr := B.returns
  have hts := atoms_spec (ws := w_Stream_placeOf) B.pre
  have hg : ∀ w ∈ gW, w.before args s = true := fun w h => hts w (List.mem_cons_of_mem _ h)
  have hown : s.vm.findClass "PrefixCodes$Stream" = some m.cls := findClass_of_methodNamed B.named
  have hlocks := B.notSynchronized
  have hS : va_S A s.heap s.heap [] := va_S.rf
  have hl := lv_entry ([.ref (ad 3 0), .int a1]) (n := 2) (Nat.le_of_ble_eq_true rfl)
  rw [show entryFrame m args 2 = entryFrame m (([.ref (ad 3 0), .int a1] : List Value).toArray) 2 by rw [hargs], lg_entry_eq]
  generalize (lg_sl ([.ref (ad 3 0), .int a1]) ++ List.replicate (2 - (lg_sl ([.ref (ad 3 0), .int a1])).length) Slot.unset).toArray = ls at hl ⊢
  have hl : lv_has ls 2 [(0, .ref (ad 3 0)), (1, .int a1)] := hl
  generalize hQ0 : MQ below (va_Qi (fun r (_ : Unit) => r = o.2) (fun _ t => Hold D aC A ad n o.1 t.heap) A) args s 0 0 A = Q0
  unfold f_Stream_placeOf at h
  refine lv_aload_n hx hb d_Stream_placeOf_0 rfl (lv_at hl 0 rfl) ?_
  refine st_get hx hb hg hown hK hH (f := 3) (i := 0) hd_3 rfl rfl u_Stream 1 (by decide) (hg _ wd_115) (v := .int (σ.1 3 0 1)) rfl d_Stream_placeOf_1 ?_
  refine lv_iload_n hx hb d_Stream_placeOf_4 rfl (lv_at hl 1 rfl) ?_
  refine lv_iadd hx hb d_Stream_placeOf_5 ?_
  refine lv_sipush (v := 20000) hx hb d_Stream_placeOf_6 (by decide) ?_
  refine lv_irem hx hb d_Stream_placeOf_9 (by decide) ?_
  cases h
  rw [← hQ0]
  exact W.iret hx hb hr (fun t ht hW => ⟨⟨_, (), rfl, rfl, by dsimp only; rw [ht]; exact hH⟩, hS.F ht⟩) hS.2.2 d_Stream_placeOf_10
set_option maxHeartbeats 4000000 in
set_option maxRecDepth 100000 in
theorem c_Stream_bitOf (l : Launch) (D : va_G) (aC : Nat → ClassId) (A : Nat → Prop) (ad : Nat → Nat → Nat) (n : Nat) (σ : St) (a1 : Int32) (o : St × Int32) (h : f_Stream_bitOf σ a1 = some o) : Met l y_Stream_bitOf w_Stream_bitOf rm_Stream_bitOf (va_Pc [.ref (ad 3 0), .int a1] (Pre D aC A ad n σ)) (va_Qi (fun r (_ : Unit) => r = o.2) (fun _ t => Hold D aC A ad n o.1 t.heap) A) 0 0 A := by
  refine Met.ofW (cc := prog_9_method_3_code) (maxL := 2) (ret := (some .int)) (by decide) rfl ?_
  intro p e s m args below meth c s₁ B hml hv
  obtain ⟨hargs, hH, hK, hZ⟩ := hv
  have hx := B.exec
  have hb := B.bytes
  have hr := B.returns
  have hts := atoms_spec (ws := w_Stream_bitOf) B.pre
  have hg : ∀ w ∈ gW, w.before args s = true := fun w h => hts w (List.mem_cons_of_mem _ h)
  have hown : s.vm.findClass "PrefixCodes$Stream" = some m.cls := findClass_of_methodNamed B.named
  have hlocks := B.notSynchronized
  have hS : va_S A s.heap s.heap [] := va_S.rf
  have hl := lv_entry ([.ref (ad 3 0), .int a1]) (n := 2) (Nat.le_of_ble_eq_true rfl)
  rw [show entryFrame m args 2 = entryFrame m (([.ref (ad 3 0), .int a1] : List Value).toArray) 2 by rw [hargs], lg_entry_eq]
  generalize (lg_sl ([.ref (ad 3 0), .int a1]) ++ List.replicate (2 - (lg_sl ([.ref (ad 3 0), .int a1])).length) Slot.unset).toArray = ls at hl ⊢
  have hl : lv_has ls 2 [(0, .ref (ad 3 0)), (1, .int a1)] := hl
  generalize hQ0 : MQ below (va_Qi (fun r (_ : Unit) => r = o.2) (fun _ t => Hold D aC A ad n o.1 t.heap) A) args s 0 0 A = Q0
  unfold f_Stream_bitOf at h
  refine lv_aload_n hx hb d_Stream_bitOf_0 rfl (lv_at hl 0 rfl) ?_
  refine st_get hx hb hg hown hK hH (f := 3) (i := 0) hd_3 rfl rfl u_Stream 0 (by decide) (hg _ wd_116) (v := .ref (ad 4 0)) rfl d_Stream_bitOf_1 ?_
  refine lv_iload_n hx hb d_Stream_bitOf_4 rfl (lv_at hl 1 rfl) ?_
  refine lv_bipush (v := 32) hx hb d_Stream_bitOf_5 (by decide) ?_
  refine lv_idiv hx hb d_Stream_bitOf_7 (by decide) ?_
  obtain ⟨g8, h⟩ := gd_some h
  refine st_iald hx hb hK hH (f := 4) (i := 0) hd_4 rfl g8 d_Stream_bitOf_8 ?_
  refine lv_iload_n hx hb d_Stream_bitOf_9 rfl (lv_at hl 1 rfl) ?_
  refine lv_bipush (v := 32) hx hb d_Stream_bitOf_10 (by decide) ?_
  refine lv_irem hx hb d_Stream_bitOf_12 (by decide) ?_
  refine lv_iushr hx hb d_Stream_bitOf_13 rfl ?_
  refine lv_iconst (v := 1) hx hb d_Stream_bitOf_14 (by decide) ?_
  refine lv_iand hx hb d_Stream_bitOf_15 ?_
  cases h
  rw [← hQ0]
  exact W.iret hx hb hr (fun t ht hW => ⟨⟨_, (), rfl, rfl, by dsimp only; rw [ht]; exact hH⟩, hS.F ht⟩) hS.2.2 d_Stream_bitOf_16
set_option maxHeartbeats 4000000 in
set_option maxRecDepth 100000 in
theorem c_Stream_at (l : Launch) (D : va_G) (aC : Nat → ClassId) (A : Nat → Prop) (ad : Nat → Nat → Nat) (n : Nat) (σ : St) (a1 : Int32) (o : St × Int32) (h : f_Stream_at σ a1 = some o) : Met l y_Stream_at w_Stream_at rm_Stream_at (va_Pc [.ref (ad 3 0), .int a1] (Pre D aC A ad n σ)) (va_Qi (fun r (_ : Unit) => r = o.2) (fun _ t => Hold D aC A ad n o.1 t.heap) A) 0 0 A := by
  refine Met.ofW (cc := prog_9_method_4_code) (maxL := 2) (ret := (some .int)) (by decide) rfl ?_
  intro p e s m args below meth c s₁ B hml hv
  obtain ⟨hargs, hH, hK, hZ⟩ := hv
  have hx := B.exec
  have hb := B.bytes
  have hr := B.returns
  have hts := atoms_spec (ws := w_Stream_at) B.pre
  have hg : ∀ w ∈ gW, w.before args s = true := fun w h => hts w (List.mem_cons_of_mem _ h)
  have hown : s.vm.findClass "PrefixCodes$Stream" = some m.cls := findClass_of_methodNamed B.named
  have hlocks := B.notSynchronized
  have hS : va_S A s.heap s.heap [] := va_S.rf
  have hl := lv_entry ([.ref (ad 3 0), .int a1]) (n := 2) (Nat.le_of_ble_eq_true rfl)
  rw [show entryFrame m args 2 = entryFrame m (([.ref (ad 3 0), .int a1] : List Value).toArray) 2 by rw [hargs], lg_entry_eq]
  generalize (lg_sl ([.ref (ad 3 0), .int a1]) ++ List.replicate (2 - (lg_sl ([.ref (ad 3 0), .int a1])).length) Slot.unset).toArray = ls at hl ⊢
  have hl : lv_has ls 2 [(0, .ref (ad 3 0)), (1, .int a1)] := hl
  generalize hQ0 : MQ below (va_Qi (fun r (_ : Unit) => r = o.2) (fun _ t => Hold D aC A ad n o.1 t.heap) A) args s 0 0 A = Q0
  unfold f_Stream_at at h
  refine lv_aload_n hx hb d_Stream_at_0 rfl (lv_at hl 0 rfl) ?_
  refine lv_aload_n hx hb d_Stream_at_1 rfl (lv_at hl 0 rfl) ?_
  refine lv_iload_n hx hb d_Stream_at_2 rfl (lv_at hl 1 rfl) ?_
  obtain ⟨qc, hc3, h⟩ := b2_some h
  obtain ⟨σ1, x2⟩ := qc
  have h := b2_at h
  refine st_Vi (As := [.int a1]) (rest := [.ref (ad 3 0)]) ⟨hx, hb, hml, hown, hg⟩ (c_Stream_placeOf l D aC A ad n _ a1 _ hc3) (cwG hg wd_117 wd_118 wd_120 wd_121 wd_119 yd_Stream_placeOf ⟨Nat.le_of_ble_eq_true rfl, Nat.le_of_ble_eq_true rfl⟩) hK hH hS hZ hd_3 rfl rfl rfl hl.1 rfl (Nat.le_of_ble_eq_true rfl) d_Stream_at_3 ⟨Nat.zero_le _, Nat.zero_le _⟩ (fun H locs hH hS => ?_)
  obtain ⟨qc, hc6, h⟩ := b2_some h
  obtain ⟨σ3, x4⟩ := qc
  have h := b2_at h
  refine st_Vi (As := [.int x2]) (rest := []) ⟨hx, hb, hml, hown, hg⟩ (c_Stream_bitOf l D aC A ad n _ x2 _ hc6) (cwG hg wd_122 wd_123 wd_124 wd_125 wd_119 yd_Stream_bitOf ⟨Nat.le_of_ble_eq_true rfl, Nat.le_of_ble_eq_true rfl⟩) hK hH hS hZ hd_3 rfl rfl rfl hl.1 rfl (Nat.le_of_ble_eq_true rfl) d_Stream_at_6 ⟨Nat.zero_le _, Nat.zero_le _⟩ (fun H locs hH hS => ?_)
  cases h
  rw [← hQ0]
  exact W.iret hx hb hr (fun t ht hW => ⟨⟨_, (), rfl, rfl, by dsimp only; rw [ht]; exact hH⟩, hS.F ht⟩) hS.2.2 d_Stream_at_9
set_option maxHeartbeats 4000000 in
set_option maxRecDepth 100000 in
theorem c_Stream_append (l : Launch) (D : va_G) (aC : Nat → ClassId) (A : Nat → Prop) (ad : Nat → Nat → Nat) (n : Nat) (σ : St) (a1 : Int32) (o : St) (h : f_Stream_append σ a1 = some o) : Met l y_Stream_append w_Stream_append rm_Stream_append (va_Pc [.ref (ad 3 0), .int a1] (Pre D aC A ad n σ)) (va_Qv (fun (_ : Unit) => True) (fun _ t => Hold D aC A ad n o t.heap) A) 0 0 A := by
  refine Met.ofW (cc := prog_9_method_7_code) (maxL := 5) (ret := none) (by decide) rfl ?_
  intro p e s m args below meth c s₁ B hml hv
  obtain ⟨hargs, hH, hK, hZ⟩ := hv
  have hx := B.exec
  have hb := B.bytes
  have hr := B.returns
  have hts := atoms_spec (ws := w_Stream_append) B.pre
  have hg : ∀ w ∈ gW, w.before args s = true := fun w h => hts w (List.mem_cons_of_mem _ h)
  have hown : s.vm.findClass "PrefixCodes$Stream" = some m.cls := findClass_of_methodNamed B.named
  have hlocks := B.notSynchronized
  have hS : va_S A s.heap s.heap [] := va_S.rf
  have hl := lv_entry ([.ref (ad 3 0), .int a1]) (n := 5) (Nat.le_of_ble_eq_true rfl)
  rw [show entryFrame m args 5 = entryFrame m (([.ref (ad 3 0), .int a1] : List Value).toArray) 5 by rw [hargs], lg_entry_eq]
  generalize (lg_sl ([.ref (ad 3 0), .int a1]) ++ List.replicate (5 - (lg_sl ([.ref (ad 3 0), .int a1])).length) Slot.unset).toArray = ls at hl ⊢
  have hl : lv_has ls 5 [(0, .ref (ad 3 0)), (1, .int a1)] := hl
  generalize hQ0 : MQ below (va_Qv (fun (_ : Unit) => True) (fun _ t => Hold D aC A ad n o t.heap) A) args s 0 0 A = Q0
  unfold f_Stream_append at h
  refine lv_aload_n hx hb d_Stream_append_0 rfl (lv_at hl 0 rfl) ?_
  refine st_get hx hb hg hown hK hH (f := 3) (i := 0) hd_3 rfl rfl u_Stream 2 (by decide) (hg _ wd_126) (v := .int (σ.1 3 0 2)) rfl d_Stream_append_1 ?_
  refine lv_sipush (v := 20000) hx hb d_Stream_append_4 (by decide) ?_
  refine lv_icmp_lt (tgt := 16) hx hb d_Stream_append_7 (by decide) (fun c7 => ?_) (fun c7 => ?_)
  · have h := it h c7
    refine lv_aload_n hx hb d_Stream_append_16 rfl (lv_at hl 0 rfl) ?_
    refine lv_aload_n hx hb d_Stream_append_17 rfl (lv_at hl 0 rfl) ?_
    refine st_get hx hb hg hown hK hH (f := 3) (i := 0) hd_3 rfl rfl u_Stream 2 (by decide) (hg _ wd_126) (v := .int (σ.1 3 0 2)) rfl d_Stream_append_18 ?_
    obtain ⟨qc, hc21, h⟩ := b2_some h
    obtain ⟨σ1, x2⟩ := qc
    have h := b2_at h
    refine st_Vi (As := [.int (σ.1 3 0 2)]) (rest := []) ⟨hx, hb, hml, hown, hg⟩ (c_Stream_placeOf l D aC A ad n _ (σ.1 3 0 2) _ hc21) (cwG hg wd_117 wd_118 wd_120 wd_121 wd_119 yd_Stream_placeOf ⟨Nat.le_of_ble_eq_true rfl, Nat.le_of_ble_eq_true rfl⟩) hK hH hS hZ hd_3 rfl rfl rfl hl.1 rfl (Nat.le_of_ble_eq_true rfl) d_Stream_append_21 ⟨Nat.zero_le _, Nat.zero_le _⟩ (fun H locs hH hS => ?_)
    refine lv_istore_n (lv' := [(2, .int x2), (0, .ref (ad 3 0)), (1, .int a1)]) hx hb d_Stream_append_24 rfl hl (by decide) rfl (fun ls hl => ?_)
    refine lv_iconst (v := 1) hx hb d_Stream_append_25 (by decide) ?_
    refine lv_iload_n hx hb d_Stream_append_26 rfl (lv_at hl 0 rfl) ?_
    refine lv_bipush (v := 32) hx hb d_Stream_append_27 (by decide) ?_
    refine lv_irem hx hb d_Stream_append_29 (by decide) ?_
    refine lv_ishl hx hb d_Stream_append_30 ?_
    refine lv_topi (fun x3 ex3 => ?_)
    have h := nm_at ex3 h
    refine lv_istore_n (lv' := [(3, .int x3), (2, .int x2), (0, .ref (ad 3 0)), (1, .int a1)]) hx hb d_Stream_append_31 rfl hl (by decide) rfl (fun ls hl => ?_)
    refine lv_aload_n hx hb d_Stream_append_32 rfl (lv_at hl 2 rfl) ?_
    refine st_get hx hb hg hown hK hH (f := 3) (i := 0) hd_3 rfl rfl u_Stream 0 (by decide) (hg _ wd_116) (v := .ref (ad 4 0)) rfl d_Stream_append_33 ?_
    refine lv_iload_n hx hb d_Stream_append_36 rfl (lv_at hl 1 rfl) ?_
    refine lv_bipush (v := 32) hx hb d_Stream_append_37 (by decide) ?_
    refine lv_idiv hx hb d_Stream_append_39 (by decide) ?_
    obtain ⟨g40, h⟩ := gd_some h
    refine st_iald hx hb hK hH (f := 4) (i := 0) hd_4 rfl g40 d_Stream_append_40 ?_
    refine lv_iload_n hx hb d_Stream_append_41 rfl (lv_at hl 0 rfl) ?_
    refine lv_iconst (v := (-1)) hx hb d_Stream_append_42 (by decide) ?_
    refine lv_ixor hx hb d_Stream_append_43 ?_
    refine lv_iand hx hb d_Stream_append_44 ?_
    refine lv_topi (fun x4 ex4 => ?_)
    have h := nm_at ex4 h
    refine lv_istore (lv' := [(4, .int x4), (3, .int x3), (2, .int x2), (0, .ref (ad 3 0)), (1, .int a1)]) hx hb d_Stream_append_45 hl (by decide) rfl (fun ls hl => ?_)
    refine lv_aload_n hx hb d_Stream_append_47 rfl (lv_at hl 3 rfl) ?_
    refine st_get hx hb hg hown hK hH (f := 3) (i := 0) hd_3 rfl rfl u_Stream 0 (by decide) (hg _ wd_116) (v := .ref (ad 4 0)) rfl d_Stream_append_48 ?_
    refine lv_iload_n hx hb d_Stream_append_51 rfl (lv_at hl 2 rfl) ?_
    refine lv_bipush (v := 32) hx hb d_Stream_append_52 (by decide) ?_
    refine lv_idiv hx hb d_Stream_append_54 (by decide) ?_
    refine lv_iload_n hx hb d_Stream_append_55 rfl (lv_at hl 4 rfl) ?_
    refine lv_if_ne (tgt := 64) hx hb d_Stream_append_56 (by decide) (fun c56 => ?_) (fun c56 => ?_)
    · have h := ie h c56
      refine lv_iload hx hb d_Stream_append_64 (lv_at hl 0 rfl) ?_
      refine lv_iload_n hx hb d_Stream_append_66 rfl (lv_at hl 1 rfl) ?_
      refine lv_ior hx hb d_Stream_append_67 ?_
      obtain ⟨g68, h⟩ := gd_some h
      refine st_iast hx hb hK hH hS (f := 4) (i := 0) hd_4 rfl g68 d_Stream_append_68 (fun σ5 H locs eσ5 hH hS => ?_)
      have h := nm_at eσ5 h
      refine lv_aload_n hx hb d_Stream_append_69 rfl (lv_at hl 3 rfl) ?_
      refine lv_dup hx hb d_Stream_append_70 rfl ?_
      refine st_get hx hb hg hown hK hH (f := 3) (i := 0) hd_3 rfl rfl u_Stream 2 (by decide) (hg _ wd_126) (v := .int (σ5.1 3 0 2)) rfl d_Stream_append_71 ?_
      refine lv_iconst (v := 1) hx hb d_Stream_append_74 (by decide) ?_
      refine lv_iadd hx hb d_Stream_append_75 ?_
      refine st_put hx hb hg hown hK hH hS (f := 3) (i := 0) hd_3 rfl rfl u_Stream t_Stream t_Stream_ok n_Stream 2 (by decide) (hg _ wd_126) rfl rfl rfl d_Stream_append_76 (fun σ6 H locs eσ6 hH hS => ?_)
      have h := nm_at eσ6 h
      cases h
      rw [← hQ0]
      exact W.vret hx hb hr (fun t ht hW => ⟨⟨(), rfl, trivial, by dsimp only; rw [ht]; exact hH⟩, hS.F ht⟩) hS.2.2 d_Stream_append_79
    · have h := it h c56
      refine lv_iload hx hb d_Stream_append_59 (lv_at hl 0 rfl) ?_
      refine lv_goto (tgt := 68) hx hb d_Stream_append_61 (by decide) ?_
      obtain ⟨g68, h⟩ := gd_some h
      refine st_iast hx hb hK hH hS (f := 4) (i := 0) hd_4 rfl g68 d_Stream_append_68 (fun σ7 H locs eσ7 hH hS => ?_)
      have h := nm_at eσ7 h
      refine lv_aload_n hx hb d_Stream_append_69 rfl (lv_at hl 3 rfl) ?_
      refine lv_dup hx hb d_Stream_append_70 rfl ?_
      refine st_get hx hb hg hown hK hH (f := 3) (i := 0) hd_3 rfl rfl u_Stream 2 (by decide) (hg _ wd_126) (v := .int (σ7.1 3 0 2)) rfl d_Stream_append_71 ?_
      refine lv_iconst (v := 1) hx hb d_Stream_append_74 (by decide) ?_
      refine lv_iadd hx hb d_Stream_append_75 ?_
      refine st_put hx hb hg hown hK hH hS (f := 3) (i := 0) hd_3 rfl rfl u_Stream t_Stream t_Stream_ok n_Stream 2 (by decide) (hg _ wd_126) rfl rfl rfl d_Stream_append_76 (fun σ8 H locs eσ8 hH hS => ?_)
      have h := nm_at eσ8 h
      cases h
      rw [← hQ0]
      exact W.vret hx hb hr (fun t ht hW => ⟨⟨(), rfl, trivial, by dsimp only; rw [ht]; exact hH⟩, hS.F ht⟩) hS.2.2 d_Stream_append_79
  · have h := ie h c7
    refine lv_aload_n hx hb d_Stream_append_10 rfl (lv_at hl 0 rfl) ?_
    refine lv_iconst (v := 1) hx hb d_Stream_append_11 (by decide) ?_
    refine st_putV (ty := .boolean) hx hb hg hown hK hH hS (f := 3) (i := 0) hd_3 rfl rfl u_Stream t_Stream t_Stream_ok n_Stream 4 (by decide) (hg _ wd_127) rfl rfl (t_Stream_ok 4 (by decide)) rfl rfl d_Stream_append_12 (fun σ9 H locs eσ9 hH hS => ?_)
    have h := nm_at eσ9 h
    cases h
    rw [← hQ0]
    exact W.vret hx hb hr (fun t ht hW => ⟨⟨(), rfl, trivial, by dsimp only; rw [ht]; exact hH⟩, hS.F ht⟩) hS.2.2 d_Stream_append_15
set_option maxHeartbeats 4000000 in
set_option maxRecDepth 100000 in
theorem c_Stream_appendNumber (l : Launch) (D : va_G) (aC : Nat → ClassId) (A : Nat → Prop) (ad : Nat → Nat → Nat) (n : Nat) (σ : St) (a1 : Int32) (a2 : Int32) (o : St) (h : f_Stream_appendNumber σ a1 a2 = some o) : Met l y_Stream_appendNumber w_Stream_appendNumber rm_Stream_appendNumber (va_Pc [.ref (ad 3 0), .int a1, .int a2] (Pre D aC A ad n σ)) (va_Qv (fun (_ : Unit) => True) (fun _ t => Hold D aC A ad n o t.heap) A) 0 0 A := by
  refine Met.ofW (cc := prog_9_method_8_code) (maxL := 4) (ret := none) (by decide) rfl ?_
  intro p e s m args below meth c s₁ B hml hv
  obtain ⟨hargs, hH, hK, hZ⟩ := hv
  have hx := B.exec
  have hb := B.bytes
  have hr := B.returns
  have hts := atoms_spec (ws := w_Stream_appendNumber) B.pre
  have hg : ∀ w ∈ gW, w.before args s = true := fun w h => hts w (List.mem_cons_of_mem _ h)
  have hown : s.vm.findClass "PrefixCodes$Stream" = some m.cls := findClass_of_methodNamed B.named
  have hlocks := B.notSynchronized
  have hS : va_S A s.heap s.heap [] := va_S.rf
  have hl := lv_entry ([.ref (ad 3 0), .int a1, .int a2]) (n := 4) (Nat.le_of_ble_eq_true rfl)
  rw [show entryFrame m args 4 = entryFrame m (([.ref (ad 3 0), .int a1, .int a2] : List Value).toArray) 4 by rw [hargs], lg_entry_eq]
  generalize (lg_sl ([.ref (ad 3 0), .int a1, .int a2]) ++ List.replicate (4 - (lg_sl ([.ref (ad 3 0), .int a1, .int a2])).length) Slot.unset).toArray = ls at hl ⊢
  have hl : lv_has ls 4 [(0, .ref (ad 3 0)), (1, .int a1), (2, .int a2)] := hl
  generalize hQ0 : MQ below (va_Qv (fun (_ : Unit) => True) (fun _ t => Hold D aC A ad n o t.heap) A) args s 0 0 A = Q0
  unfold f_Stream_appendNumber at h
  refine lv_iload_n hx hb d_Stream_appendNumber_0 rfl (lv_at hl 2 rfl) ?_
  refine lv_iconst (v := 1) hx hb d_Stream_appendNumber_1 (by decide) ?_
  refine lv_isub hx hb d_Stream_appendNumber_2 ?_
  refine lv_topi (fun x1 ex1 => ?_)
  have h := nm_at ex1 h
  refine lv_istore_n (lv' := [(3, .int x1), (0, .ref (ad 3 0)), (1, .int a1), (2, .int a2)]) hx hb d_Stream_appendNumber_3 rfl hl (by decide) rfl (fun ls hl => ?_)
  obtain ⟨q1, hq1, h⟩ := b2_some h
  have K1 : ∀ (σ4 : St) (x5 : Int32) (H : Heap) (locs : List Loc) (ls : Array Slot), q1 = (σ4, x5) → Hold D aC A ad n σ4 H → va_S A s.heap H locs → lv_has ls 4 [(0, .ref (ad 3 0)), (1, .int a1), (3, .int x5)] → W p l e (headSpec w_Stream_appendNumber rm_Stream_appendNumber).room s m args below meth c H locs 0 0 Q0 (F0 m 23 ls []) := by
    intro σ4 x5 H locs ls eq1 hH hS hl
    subst eq1
    have h := b2_at h
    cases h
    rw [← hQ0]
    exact W.vret hx hb hr (fun t ht hW => ⟨⟨(), rfl, trivial, by dsimp only; rw [ht]; exact hH⟩, hS.F ht⟩) hS.2.2 d_Stream_appendNumber_23
  have loop1 : ∀ (k : Nat) (σ : St) (v3 : Int32) (H : Heap) (locs : List Loc) (ls : Array Slot), Hold D aC A ad n σ H → va_S A s.heap H locs → lv_has ls 4 [(0, .ref (ad 3 0)), (1, .int a1), (3, .int v3)] → lp (fun q => lb_Stream_appendNumber_4 a1 q.1 q.2) k (σ, v3) = some q1 → W p l e (headSpec w_Stream_appendNumber rm_Stream_appendNumber).room s m args below meth c H locs 0 0 Q0 (F0 m 4 ls []) := by
    intro k
    induction k with
    | zero => intro σ v3 H locs ls hH hS hl h; exact absurd h (lp_zero _ _ _)
    | succ k ih1 =>
      intro σ v3 H locs ls hH hS hl h
      obtain ⟨z1, h1, hk1⟩ := lp_succ h
      have h1 : lb_Stream_appendNumber_4 a1 σ v3 = some z1 := h1
      unfold lb_Stream_appendNumber_4 at h1
      refine lv_iload_n hx hb d_Stream_appendNumber_4 rfl (lv_at hl 2 rfl) ?_
      refine lv_if_lt (tgt := 23) hx hb d_Stream_appendNumber_5 (by decide) (fun c5 => ?_) (fun c5 => ?_)
      · have h1 := it h1 c5
        cases h1
        exact K1 σ v3 _ _ ls (Option.some.inj hk1).symm hH hS (lv_sub hl [0, 1, 2] rfl)
      · have h1 := ie h1 c5
        refine lv_aload_n hx hb d_Stream_appendNumber_8 rfl (lv_at hl 0 rfl) ?_
        refine lv_iload_n hx hb d_Stream_appendNumber_9 rfl (lv_at hl 1 rfl) ?_
        refine lv_iload_n hx hb d_Stream_appendNumber_10 rfl (lv_at hl 2 rfl) ?_
        refine lv_iushr hx hb d_Stream_appendNumber_11 rfl ?_
        refine lv_iconst (v := 1) hx hb d_Stream_appendNumber_12 (by decide) ?_
        refine lv_iand hx hb d_Stream_appendNumber_13 ?_
        obtain ⟨qc, hc14, h1⟩ := b1_some h1
        obtain ⟨σ2, rfl⟩ : ∃ z, z = qc := ⟨_, rfl⟩
        have h1 := b1_at h1
        refine st_Vv (As := [.int (((a1.toUInt32 >>> (v3.toUInt32 &&& Int32.toUInt32 31)).toInt32) &&& 1)]) (rest := []) ⟨hx, hb, hml, hown, hg⟩ (c_Stream_append l D aC A ad n _ (((a1.toUInt32 >>> (v3.toUInt32 &&& Int32.toUInt32 31)).toInt32) &&& 1) _ hc14) (cwG hg wd_128 wd_129 wd_130 wd_131 wd_119 yd_Stream_append ⟨Nat.le_of_ble_eq_true rfl, Nat.le_of_ble_eq_true rfl⟩) hK hH hS hZ hd_3 rfl rfl rfl hl.1 rfl (Nat.le_of_ble_eq_true rfl) d_Stream_appendNumber_14 ⟨Nat.zero_le _, Nat.zero_le _⟩ (fun H locs hH hS => ?_)
        obtain ⟨x3, ex3⟩ : ∃ y : Int32, y = v3 + (-1) := ⟨_, rfl⟩
        have h1 := nm_at ex3 h1
        refine lv_iinc (v := x3) (lv' := [(3, .int x3), (0, .ref (ad 3 0)), (1, .int a1)]) hx hb d_Stream_appendNumber_17 hl (k := 2) rfl (by rw [ex3]; rfl) (by decide) rfl (fun ls hl => ?_)
        refine lv_goto (tgt := 4) hx hb d_Stream_appendNumber_20 (by decide) ?_
        cases h1
        exact ih1 σ2 x3 _ _ ls hH hS (lv_sub hl [1, 2, 0] rfl) hk1
  obtain ⟨k1, hq1⟩ := lpE_some hq1
  exact loop1 k1 σ x1 _ _ ls hH hS (lv_sub hl [1, 2, 0] rfl) hq1
set_option maxHeartbeats 4000000 in
set_option maxRecDepth 100000 in
theorem c_Stream_removeFirst (l : Launch) (D : va_G) (aC : Nat → ClassId) (A : Nat → Prop) (ad : Nat → Nat → Nat) (n : Nat) (σ : St) (o : St × Int32) (h : f_Stream_removeFirst σ  = some o) : Met l y_Stream_removeFirst w_Stream_removeFirst rm_Stream_removeFirst (va_Pc [.ref (ad 3 0)] (Pre D aC A ad n σ)) (va_Qi (fun r (_ : Unit) => r = o.2) (fun _ t => Hold D aC A ad n o.1 t.heap) A) 0 0 A := by
  refine Met.ofW (cc := prog_9_method_9_code) (maxL := 2) (ret := (some .int)) (by decide) rfl ?_
  intro p e s m args below meth c s₁ B hml hv
  obtain ⟨hargs, hH, hK, hZ⟩ := hv
  have hx := B.exec
  have hb := B.bytes
  have hr := B.returns
  have hts := atoms_spec (ws := w_Stream_removeFirst) B.pre
  have hg : ∀ w ∈ gW, w.before args s = true := fun w h => hts w (List.mem_cons_of_mem _ h)
  have hown : s.vm.findClass "PrefixCodes$Stream" = some m.cls := findClass_of_methodNamed B.named
  have hlocks := B.notSynchronized
  have hS : va_S A s.heap s.heap [] := va_S.rf
  have hl := lv_entry ([.ref (ad 3 0)]) (n := 2) (Nat.le_of_ble_eq_true rfl)
  rw [show entryFrame m args 2 = entryFrame m (([.ref (ad 3 0)] : List Value).toArray) 2 by rw [hargs], lg_entry_eq]
  generalize (lg_sl ([.ref (ad 3 0)]) ++ List.replicate (2 - (lg_sl ([.ref (ad 3 0)])).length) Slot.unset).toArray = ls at hl ⊢
  have hl : lv_has ls 2 [(0, .ref (ad 3 0))] := hl
  generalize hQ0 : MQ below (va_Qi (fun r (_ : Unit) => r = o.2) (fun _ t => Hold D aC A ad n o.1 t.heap) A) args s 0 0 A = Q0
  unfold f_Stream_removeFirst at h
  refine lv_aload_n hx hb d_Stream_removeFirst_0 rfl (lv_at hl 0 rfl) ?_
  refine st_get hx hb hg hown hK hH (f := 3) (i := 0) hd_3 rfl rfl u_Stream 2 (by decide) (hg _ wd_126) (v := .int (σ.1 3 0 2)) rfl d_Stream_removeFirst_1 ?_
  refine lv_if_ne (tgt := 10) hx hb d_Stream_removeFirst_4 (by decide) (fun c4 => ?_) (fun c4 => ?_)
  · have h := ie h c4
    refine lv_aload_n hx hb d_Stream_removeFirst_10 rfl (lv_at hl 0 rfl) ?_
    refine lv_aload_n hx hb d_Stream_removeFirst_11 rfl (lv_at hl 0 rfl) ?_
    refine st_get hx hb hg hown hK hH (f := 3) (i := 0) hd_3 rfl rfl u_Stream 1 (by decide) (hg _ wd_115) (v := .int (σ.1 3 0 1)) rfl d_Stream_removeFirst_12 ?_
    obtain ⟨qc, hc15, h⟩ := b2_some h
    obtain ⟨σ1, x2⟩ := qc
    have h := b2_at h
    refine st_Vi (As := [.int (σ.1 3 0 1)]) (rest := []) ⟨hx, hb, hml, hown, hg⟩ (c_Stream_bitOf l D aC A ad n _ (σ.1 3 0 1) _ hc15) (cwG hg wd_122 wd_123 wd_124 wd_125 wd_119 yd_Stream_bitOf ⟨Nat.le_of_ble_eq_true rfl, Nat.le_of_ble_eq_true rfl⟩) hK hH hS hZ hd_3 rfl rfl rfl hl.1 rfl (Nat.le_of_ble_eq_true rfl) d_Stream_removeFirst_15 ⟨Nat.zero_le _, Nat.zero_le _⟩ (fun H locs hH hS => ?_)
    refine lv_istore_n (lv' := [(1, .int x2), (0, .ref (ad 3 0))]) hx hb d_Stream_removeFirst_18 rfl hl (by decide) rfl (fun ls hl => ?_)
    refine lv_aload_n hx hb d_Stream_removeFirst_19 rfl (lv_at hl 1 rfl) ?_
    refine lv_aload_n hx hb d_Stream_removeFirst_20 rfl (lv_at hl 1 rfl) ?_
    refine lv_iconst (v := 1) hx hb d_Stream_removeFirst_21 (by decide) ?_
    obtain ⟨qc, hc22, h⟩ := b2_some h
    obtain ⟨σ3, x4⟩ := qc
    have h := b2_at h
    refine st_Vi (As := [.int 1]) (rest := [.ref (ad 3 0)]) ⟨hx, hb, hml, hown, hg⟩ (c_Stream_placeOf l D aC A ad n _ 1 _ hc22) (cwG hg wd_117 wd_118 wd_120 wd_121 wd_119 yd_Stream_placeOf ⟨Nat.le_of_ble_eq_true rfl, Nat.le_of_ble_eq_true rfl⟩) hK hH hS hZ hd_3 rfl rfl rfl hl.1 rfl (Nat.le_of_ble_eq_true rfl) d_Stream_removeFirst_22 ⟨Nat.zero_le _, Nat.zero_le _⟩ (fun H locs hH hS => ?_)
    refine st_put hx hb hg hown hK hH hS (f := 3) (i := 0) hd_3 rfl rfl u_Stream t_Stream t_Stream_ok n_Stream 1 (by decide) (hg _ wd_115) rfl rfl rfl d_Stream_removeFirst_25 (fun σ5 H locs eσ5 hH hS => ?_)
    have h := nm_at eσ5 h
    refine lv_aload_n hx hb d_Stream_removeFirst_28 rfl (lv_at hl 1 rfl) ?_
    refine lv_dup hx hb d_Stream_removeFirst_29 rfl ?_
    refine st_get hx hb hg hown hK hH (f := 3) (i := 0) hd_3 rfl rfl u_Stream 2 (by decide) (hg _ wd_126) (v := .int (σ5.1 3 0 2)) rfl d_Stream_removeFirst_30 ?_
    refine lv_iconst (v := 1) hx hb d_Stream_removeFirst_33 (by decide) ?_
    refine lv_isub hx hb d_Stream_removeFirst_34 ?_
    refine st_put hx hb hg hown hK hH hS (f := 3) (i := 0) hd_3 rfl rfl u_Stream t_Stream t_Stream_ok n_Stream 2 (by decide) (hg _ wd_126) rfl rfl rfl d_Stream_removeFirst_35 (fun σ6 H locs eσ6 hH hS => ?_)
    have h := nm_at eσ6 h
    refine lv_iload_n hx hb d_Stream_removeFirst_38 rfl (lv_at hl 0 rfl) ?_
    cases h
    rw [← hQ0]
    exact W.iret hx hb hr (fun t ht hW => ⟨⟨_, (), rfl, rfl, by dsimp only; rw [ht]; exact hH⟩, hS.F ht⟩) hS.2.2 d_Stream_removeFirst_39
  · have h := it h c4
    refine lv_bipush (v := (-104)) hx hb d_Stream_removeFirst_7 (by decide) ?_
    cases h
    rw [← hQ0]
    exact W.iret hx hb hr (fun t ht hW => ⟨⟨_, (), rfl, rfl, by dsimp only; rw [ht]; exact hH⟩, hS.F ht⟩) hS.2.2 d_Stream_removeFirst_9
set_option maxHeartbeats 4000000 in
set_option maxRecDepth 100000 in
theorem c_Stream_removeNumber (l : Launch) (D : va_G) (aC : Nat → ClassId) (A : Nat → Prop) (ad : Nat → Nat → Nat) (n : Nat) (σ : St) (a1 : Int32) (o : St × Int32) (h : f_Stream_removeNumber σ a1 = some o) : Met l y_Stream_removeNumber w_Stream_removeNumber rm_Stream_removeNumber (va_Pc [.ref (ad 3 0), .int a1] (Pre D aC A ad n σ)) (va_Qi (fun r (_ : Unit) => r = o.2) (fun _ t => Hold D aC A ad n o.1 t.heap) A) 0 0 A := by
  refine Met.ofW (cc := prog_9_method_11_code) (maxL := 4) (ret := (some .int)) (by decide) rfl ?_
  intro p e s m args below meth c s₁ B hml hv
  obtain ⟨hargs, hH, hK, hZ⟩ := hv
  have hx := B.exec
  have hb := B.bytes
  have hr := B.returns
  have hts := atoms_spec (ws := w_Stream_removeNumber) B.pre
  have hg : ∀ w ∈ gW, w.before args s = true := fun w h => hts w (List.mem_cons_of_mem _ h)
  have hown : s.vm.findClass "PrefixCodes$Stream" = some m.cls := findClass_of_methodNamed B.named
  have hlocks := B.notSynchronized
  have hS : va_S A s.heap s.heap [] := va_S.rf
  have hl := lv_entry ([.ref (ad 3 0), .int a1]) (n := 4) (Nat.le_of_ble_eq_true rfl)
  rw [show entryFrame m args 4 = entryFrame m (([.ref (ad 3 0), .int a1] : List Value).toArray) 4 by rw [hargs], lg_entry_eq]
  generalize (lg_sl ([.ref (ad 3 0), .int a1]) ++ List.replicate (4 - (lg_sl ([.ref (ad 3 0), .int a1])).length) Slot.unset).toArray = ls at hl ⊢
  have hl : lv_has ls 4 [(0, .ref (ad 3 0)), (1, .int a1)] := hl
  generalize hQ0 : MQ below (va_Qi (fun r (_ : Unit) => r = o.2) (fun _ t => Hold D aC A ad n o.1 t.heap) A) args s 0 0 A = Q0
  unfold f_Stream_removeNumber at h
  refine lv_iload_n hx hb d_Stream_removeNumber_0 rfl (lv_at hl 1 rfl) ?_
  refine lv_aload_n hx hb d_Stream_removeNumber_1 rfl (lv_at hl 0 rfl) ?_
  refine st_get hx hb hg hown hK hH (f := 3) (i := 0) hd_3 rfl rfl u_Stream 2 (by decide) (hg _ wd_126) (v := .int (σ.1 3 0 2)) rfl d_Stream_removeNumber_2 ?_
  refine lv_icmp_le (tgt := 11) hx hb d_Stream_removeNumber_5 (by decide) (fun c5 => ?_) (fun c5 => ?_)
  · have h := it h c5
    refine lv_iconst (v := 0) hx hb d_Stream_removeNumber_11 (by decide) ?_
    refine lv_istore_n (lv' := [(2, .int 0), (0, .ref (ad 3 0)), (1, .int a1)]) hx hb d_Stream_removeNumber_12 rfl hl (by decide) rfl (fun ls hl => ?_)
    refine lv_iconst (v := 0) hx hb d_Stream_removeNumber_13 (by decide) ?_
    refine lv_istore_n (lv' := [(3, .int 0), (2, .int 0), (0, .ref (ad 3 0)), (1, .int a1)]) hx hb d_Stream_removeNumber_14 rfl hl (by decide) rfl (fun ls hl => ?_)
    obtain ⟨q1, hq1, h⟩ := b3_some h
    have K1 : ∀ (σ5 : St) (x6 : Int32) (x7 : Int32) (H : Heap) (locs : List Loc) (ls : Array Slot), q1 = (σ5, x6, x7) → Hold D aC A ad n σ5 H → va_S A s.heap H locs → lv_has ls 4 [(0, .ref (ad 3 0)), (1, .int a1), (2, .int x6), (3, .int x7)] → W p l e (headSpec w_Stream_removeNumber rm_Stream_removeNumber).room s m args below meth c H locs 0 0 Q0 (F0 m 35 ls []) := by
      intro σ5 x6 x7 H locs ls eq1 hH hS hl
      subst eq1
      have h := b3_at h
      refine lv_iload_n hx hb d_Stream_removeNumber_35 rfl (lv_at hl 2 rfl) ?_
      cases h
      rw [← hQ0]
      exact W.iret hx hb hr (fun t ht hW => ⟨⟨_, (), rfl, rfl, by dsimp only; rw [ht]; exact hH⟩, hS.F ht⟩) hS.2.2 d_Stream_removeNumber_36
    have loop1 : ∀ (k : Nat) (σ : St) (v2 : Int32) (v3 : Int32) (H : Heap) (locs : List Loc) (ls : Array Slot), Hold D aC A ad n σ H → va_S A s.heap H locs → lv_has ls 4 [(0, .ref (ad 3 0)), (1, .int a1), (2, .int v2), (3, .int v3)] → lp (fun q => lb_Stream_removeNumber_15 a1 q.1 q.2.1 q.2.2) k (σ, v2, v3) = some q1 → W p l e (headSpec w_Stream_removeNumber rm_Stream_removeNumber).room s m args below meth c H locs 0 0 Q0 (F0 m 15 ls []) := by
      intro k
      induction k with
      | zero => intro σ v2 v3 H locs ls hH hS hl h; exact absurd h (lp_zero _ _ _)
      | succ k ih1 =>
        intro σ v2 v3 H locs ls hH hS hl h
        obtain ⟨z1, h1, hk1⟩ := lp_succ h
        have h1 : lb_Stream_removeNumber_15 a1 σ v2 v3 = some z1 := h1
        unfold lb_Stream_removeNumber_15 at h1
        refine lv_iload_n hx hb d_Stream_removeNumber_15 rfl (lv_at hl 3 rfl) ?_
        refine lv_iload_n hx hb d_Stream_removeNumber_16 rfl (lv_at hl 1 rfl) ?_
        refine lv_icmp_ge (tgt := 35) hx hb d_Stream_removeNumber_17 (by decide) (fun c17 => ?_) (fun c17 => ?_)
        · have h1 := it h1 c17
          cases h1
          exact K1 σ v2 v3 _ _ ls (Option.some.inj hk1).symm hH hS (lv_sub hl [0, 1, 2, 3] rfl)
        · have h1 := ie h1 c17
          refine lv_iload_n hx hb d_Stream_removeNumber_20 rfl (lv_at hl 2 rfl) ?_
          refine lv_iconst (v := 1) hx hb d_Stream_removeNumber_21 (by decide) ?_
          refine lv_ishl hx hb d_Stream_removeNumber_22 ?_
          refine lv_aload_n hx hb d_Stream_removeNumber_23 rfl (lv_at hl 0 rfl) ?_
          obtain ⟨qc, hc24, h1⟩ := b2_some h1
          obtain ⟨σ1, x2⟩ := qc
          have h1 := b2_at h1
          refine st_Vi (As := []) (rest := [.int (v2 <<< (1 &&& 31))]) ⟨hx, hb, hml, hown, hg⟩ (c_Stream_removeFirst l D aC A ad n _  _ hc24) (cwG hg wd_140 wd_141 wd_142 wd_143 wd_119 yd_Stream_removeFirst ⟨Nat.le_of_ble_eq_true rfl, Nat.le_of_ble_eq_true rfl⟩) hK hH hS hZ hd_3 rfl rfl rfl hl.1 rfl (Nat.le_of_ble_eq_true rfl) d_Stream_removeNumber_24 ⟨Nat.zero_le _, Nat.zero_le _⟩ (fun H locs hH hS => ?_)
          refine lv_ior hx hb d_Stream_removeNumber_27 ?_
          refine lv_topi (fun x3 ex3 => ?_)
          have h1 := nm_at ex3 h1
          refine lv_istore_n (lv' := [(2, .int x3), (0, .ref (ad 3 0)), (1, .int a1), (3, .int v3)]) hx hb d_Stream_removeNumber_28 rfl hl (by decide) rfl (fun ls hl => ?_)
          obtain ⟨x4, ex4⟩ : ∃ y : Int32, y = v3 + 1 := ⟨_, rfl⟩
          have h1 := nm_at ex4 h1
          refine lv_iinc (v := x4) (lv' := [(3, .int x4), (2, .int x3), (0, .ref (ad 3 0)), (1, .int a1)]) hx hb d_Stream_removeNumber_29 hl (k := 3) rfl (by rw [ex4]; rfl) (by decide) rfl (fun ls hl => ?_)
          refine lv_goto (tgt := 15) hx hb d_Stream_removeNumber_32 (by decide) ?_
          cases h1
          exact ih1 σ1 x3 x4 _ _ ls hH hS (lv_sub hl [2, 3, 1, 0] rfl) hk1
    obtain ⟨k1, hq1⟩ := lpE_some hq1
    exact loop1 k1 σ 0 0 _ _ ls hH hS (lv_sub hl [2, 3, 1, 0] rfl) hq1
  · have h := ie h c5
    refine lv_bipush (v := (-104)) hx hb d_Stream_removeNumber_8 (by decide) ?_
    cases h
    rw [← hQ0]
    exact W.iret hx hb hr (fun t ht hW => ⟨⟨_, (), rfl, rfl, by dsimp only; rw [ht]; exact hH⟩, hS.F ht⟩) hS.2.2 d_Stream_removeNumber_10
set_option maxHeartbeats 4000000 in
set_option maxRecDepth 100000 in
theorem c_Stream_removeLast (l : Launch) (D : va_G) (aC : Nat → ClassId) (A : Nat → Prop) (ad : Nat → Nat → Nat) (n : Nat) (σ : St) (o : St × Int32) (h : f_Stream_removeLast σ  = some o) : Met l y_Stream_removeLast w_Stream_removeLast rm_Stream_removeLast (va_Pc [.ref (ad 3 0)] (Pre D aC A ad n σ)) (va_Qi (fun r (_ : Unit) => r = o.2) (fun _ t => Hold D aC A ad n o.1 t.heap) A) 0 0 A := by
  refine Met.ofW (cc := prog_9_method_10_code) (maxL := 2) (ret := (some .int)) (by decide) rfl ?_
  intro p e s m args below meth c s₁ B hml hv
  obtain ⟨hargs, hH, hK, hZ⟩ := hv
  have hx := B.exec
  have hb := B.bytes
  have hr := B.returns
  have hts := atoms_spec (ws := w_Stream_removeLast) B.pre
  have hg : ∀ w ∈ gW, w.before args s = true := fun w h => hts w (List.mem_cons_of_mem _ h)
  have hown : s.vm.findClass "PrefixCodes$Stream" = some m.cls := findClass_of_methodNamed B.named
  have hlocks := B.notSynchronized
  have hS : va_S A s.heap s.heap [] := va_S.rf
  have hl := lv_entry ([.ref (ad 3 0)]) (n := 2) (Nat.le_of_ble_eq_true rfl)
  rw [show entryFrame m args 2 = entryFrame m (([.ref (ad 3 0)] : List Value).toArray) 2 by rw [hargs], lg_entry_eq]
  generalize (lg_sl ([.ref (ad 3 0)]) ++ List.replicate (2 - (lg_sl ([.ref (ad 3 0)])).length) Slot.unset).toArray = ls at hl ⊢
  have hl : lv_has ls 2 [(0, .ref (ad 3 0))] := hl
  generalize hQ0 : MQ below (va_Qi (fun r (_ : Unit) => r = o.2) (fun _ t => Hold D aC A ad n o.1 t.heap) A) args s 0 0 A = Q0
  unfold f_Stream_removeLast at h
  refine lv_aload_n hx hb d_Stream_removeLast_0 rfl (lv_at hl 0 rfl) ?_
  refine st_get hx hb hg hown hK hH (f := 3) (i := 0) hd_3 rfl rfl u_Stream 2 (by decide) (hg _ wd_126) (v := .int (σ.1 3 0 2)) rfl d_Stream_removeLast_1 ?_
  refine lv_if_ne (tgt := 10) hx hb d_Stream_removeLast_4 (by decide) (fun c4 => ?_) (fun c4 => ?_)
  · have h := ie h c4
    refine lv_aload_n hx hb d_Stream_removeLast_10 rfl (lv_at hl 0 rfl) ?_
    refine lv_aload_n hx hb d_Stream_removeLast_11 rfl (lv_at hl 0 rfl) ?_
    refine st_get hx hb hg hown hK hH (f := 3) (i := 0) hd_3 rfl rfl u_Stream 2 (by decide) (hg _ wd_126) (v := .int (σ.1 3 0 2)) rfl d_Stream_removeLast_12 ?_
    refine lv_iconst (v := 1) hx hb d_Stream_removeLast_15 (by decide) ?_
    refine lv_isub hx hb d_Stream_removeLast_16 ?_
    obtain ⟨qc, hc17, h⟩ := b2_some h
    obtain ⟨σ1, x2⟩ := qc
    have h := b2_at h
    refine st_Vi (As := [.int ((σ.1 3 0 2) - 1)]) (rest := []) ⟨hx, hb, hml, hown, hg⟩ (c_Stream_at l D aC A ad n _ ((σ.1 3 0 2) - 1) _ hc17) (cwG hg wd_148 wd_149 wd_150 wd_151 wd_119 yd_Stream_at ⟨Nat.le_of_ble_eq_true rfl, Nat.le_of_ble_eq_true rfl⟩) hK hH hS hZ hd_3 rfl rfl rfl hl.1 rfl (Nat.le_of_ble_eq_true rfl) d_Stream_removeLast_17 ⟨Nat.zero_le _, Nat.zero_le _⟩ (fun H locs hH hS => ?_)
    refine lv_istore_n (lv' := [(1, .int x2), (0, .ref (ad 3 0))]) hx hb d_Stream_removeLast_20 rfl hl (by decide) rfl (fun ls hl => ?_)
    refine lv_aload_n hx hb d_Stream_removeLast_21 rfl (lv_at hl 1 rfl) ?_
    refine lv_dup hx hb d_Stream_removeLast_22 rfl ?_
    refine st_get hx hb hg hown hK hH (f := 3) (i := 0) hd_3 rfl rfl u_Stream 2 (by decide) (hg _ wd_126) (v := .int (σ1.1 3 0 2)) rfl d_Stream_removeLast_23 ?_
    refine lv_iconst (v := 1) hx hb d_Stream_removeLast_26 (by decide) ?_
    refine lv_isub hx hb d_Stream_removeLast_27 ?_
    refine st_put hx hb hg hown hK hH hS (f := 3) (i := 0) hd_3 rfl rfl u_Stream t_Stream t_Stream_ok n_Stream 2 (by decide) (hg _ wd_126) rfl rfl rfl d_Stream_removeLast_28 (fun σ3 H locs eσ3 hH hS => ?_)
    have h := nm_at eσ3 h
    refine lv_iload_n hx hb d_Stream_removeLast_31 rfl (lv_at hl 0 rfl) ?_
    cases h
    rw [← hQ0]
    exact W.iret hx hb hr (fun t ht hW => ⟨⟨_, (), rfl, rfl, by dsimp only; rw [ht]; exact hH⟩, hS.F ht⟩) hS.2.2 d_Stream_removeLast_32
  · have h := it h c4
    refine lv_bipush (v := (-104)) hx hb d_Stream_removeLast_7 (by decide) ?_
    cases h
    rw [← hQ0]
    exact W.iret hx hb hr (fun t ht hW => ⟨⟨_, (), rfl, rfl, by dsimp only; rw [ht]; exact hH⟩, hS.F ht⟩) hS.2.2 d_Stream_removeLast_9
set_option maxHeartbeats 4000000 in
set_option maxRecDepth 100000 in
theorem c_Stream_begin (l : Launch) (D : va_G) (aC : Nat → ClassId) (A : Nat → Prop) (ad : Nat → Nat → Nat) (n : Nat) (σ : St) (o : St) (h : f_Stream_begin σ  = some o) : Met l y_Stream_begin w_Stream_begin rm_Stream_begin (va_Pc [.ref (ad 3 0)] (Pre D aC A ad n σ)) (va_Qv (fun (_ : Unit) => True) (fun _ t => Hold D aC A ad n o t.heap) A) 0 0 A := by
  refine Met.ofW (cc := prog_9_method_5_code) (maxL := 1) (ret := none) (by decide) rfl ?_
  intro p e s m args below meth c s₁ B hml hv
  obtain ⟨hargs, hH, hK, hZ⟩ := hv
  have hx := B.exec
  have hb := B.bytes
  have hr := B.returns
  have hts := atoms_spec (ws := w_Stream_begin) B.pre
  have hg : ∀ w ∈ gW, w.before args s = true := fun w h => hts w (List.mem_cons_of_mem _ h)
  have hown : s.vm.findClass "PrefixCodes$Stream" = some m.cls := findClass_of_methodNamed B.named
  have hlocks := B.notSynchronized
  have hS : va_S A s.heap s.heap [] := va_S.rf
  have hl := lv_entry ([.ref (ad 3 0)]) (n := 1) (Nat.le_of_ble_eq_true rfl)
  rw [show entryFrame m args 1 = entryFrame m (([.ref (ad 3 0)] : List Value).toArray) 1 by rw [hargs], lg_entry_eq]
  generalize (lg_sl ([.ref (ad 3 0)]) ++ List.replicate (1 - (lg_sl ([.ref (ad 3 0)])).length) Slot.unset).toArray = ls at hl ⊢
  have hl : lv_has ls 1 [(0, .ref (ad 3 0))] := hl
  generalize hQ0 : MQ below (va_Qv (fun (_ : Unit) => True) (fun _ t => Hold D aC A ad n o t.heap) A) args s 0 0 A = Q0
  unfold f_Stream_begin at h
  refine lv_aload_n hx hb d_Stream_begin_0 rfl (lv_at hl 0 rfl) ?_
  refine lv_aload_n hx hb d_Stream_begin_1 rfl (lv_at hl 0 rfl) ?_
  refine st_get hx hb hg hown hK hH (f := 3) (i := 0) hd_3 rfl rfl u_Stream 2 (by decide) (hg _ wd_126) (v := .int (σ.1 3 0 2)) rfl d_Stream_begin_2 ?_
  refine st_put hx hb hg hown hK hH hS (f := 3) (i := 0) hd_3 rfl rfl u_Stream t_Stream t_Stream_ok n_Stream 3 (by decide) (hg _ wd_165) rfl rfl rfl d_Stream_begin_5 (fun σ1 H locs eσ1 hH hS => ?_)
  have h := nm_at eσ1 h
  refine lv_aload_n hx hb d_Stream_begin_8 rfl (lv_at hl 0 rfl) ?_
  refine lv_iconst (v := 0) hx hb d_Stream_begin_9 (by decide) ?_
  refine st_putV (ty := .boolean) hx hb hg hown hK hH hS (f := 3) (i := 0) hd_3 rfl rfl u_Stream t_Stream t_Stream_ok n_Stream 4 (by decide) (hg _ wd_127) rfl rfl (t_Stream_ok 4 (by decide)) rfl rfl d_Stream_begin_10 (fun σ2 H locs eσ2 hH hS => ?_)
  have h := nm_at eσ2 h
  cases h
  rw [← hQ0]
  exact W.vret hx hb hr (fun t ht hW => ⟨⟨(), rfl, trivial, by dsimp only; rw [ht]; exact hH⟩, hS.F ht⟩) hS.2.2 d_Stream_begin_13
set_option maxHeartbeats 4000000 in
set_option maxRecDepth 100000 in
theorem c_Stream_settle (l : Launch) (D : va_G) (aC : Nat → ClassId) (A : Nat → Prop) (ad : Nat → Nat → Nat) (n : Nat) (σ : St) (o : St × Int32) (h : f_Stream_settle σ  = some o) : Met l y_Stream_settle w_Stream_settle rm_Stream_settle (va_Pc [.ref (ad 3 0)] (Pre D aC A ad n σ)) (va_Qi (fun r (_ : Unit) => r = o.2) (fun _ t => Hold D aC A ad n o.1 t.heap) A) 0 0 A := by
  refine Met.ofW (cc := prog_9_method_6_code) (maxL := 1) (ret := (some .int)) (by decide) rfl ?_
  intro p e s m args below meth c s₁ B hml hv
  obtain ⟨hargs, hH, hK, hZ⟩ := hv
  have hx := B.exec
  have hb := B.bytes
  have hr := B.returns
  have hts := atoms_spec (ws := w_Stream_settle) B.pre
  have hg : ∀ w ∈ gW, w.before args s = true := fun w h => hts w (List.mem_cons_of_mem _ h)
  have hown : s.vm.findClass "PrefixCodes$Stream" = some m.cls := findClass_of_methodNamed B.named
  have hlocks := B.notSynchronized
  have hS : va_S A s.heap s.heap [] := va_S.rf
  have hl := lv_entry ([.ref (ad 3 0)]) (n := 1) (Nat.le_of_ble_eq_true rfl)
  rw [show entryFrame m args 1 = entryFrame m (([.ref (ad 3 0)] : List Value).toArray) 1 by rw [hargs], lg_entry_eq]
  generalize (lg_sl ([.ref (ad 3 0)]) ++ List.replicate (1 - (lg_sl ([.ref (ad 3 0)])).length) Slot.unset).toArray = ls at hl ⊢
  have hl : lv_has ls 1 [(0, .ref (ad 3 0))] := hl
  generalize hQ0 : MQ below (va_Qi (fun r (_ : Unit) => r = o.2) (fun _ t => Hold D aC A ad n o.1 t.heap) A) args s 0 0 A = Q0
  unfold f_Stream_settle at h
  refine lv_aload_n hx hb d_Stream_settle_0 rfl (lv_at hl 0 rfl) ?_
  refine st_get hx hb hg hown hK hH (f := 3) (i := 0) hd_3 rfl rfl u_Stream 4 (by decide) (hg _ wd_127) (v := .int (σ.1 3 0 4)) rfl d_Stream_settle_1 ?_
  refine lv_if_eq (tgt := 18) hx hb d_Stream_settle_4 (by decide) (fun c4 => ?_) (fun c4 => ?_)
  · have h := it h c4
    refine lv_aload_n hx hb d_Stream_settle_18 rfl (lv_at hl 0 rfl) ?_
    refine st_get hx hb hg hown hK hH (f := 3) (i := 0) hd_3 rfl rfl u_Stream 2 (by decide) (hg _ wd_126) (v := .int (σ.1 3 0 2)) rfl d_Stream_settle_19 ?_
    refine lv_aload_n hx hb d_Stream_settle_22 rfl (lv_at hl 0 rfl) ?_
    refine st_get hx hb hg hown hK hH (f := 3) (i := 0) hd_3 rfl rfl u_Stream 3 (by decide) (hg _ wd_165) (v := .int (σ.1 3 0 3)) rfl d_Stream_settle_23 ?_
    refine lv_isub hx hb d_Stream_settle_26 ?_
    cases h
    rw [← hQ0]
    exact W.iret hx hb hr (fun t ht hW => ⟨⟨_, (), rfl, rfl, by dsimp only; rw [ht]; exact hH⟩, hS.F ht⟩) hS.2.2 d_Stream_settle_27
  · have h := ie h c4
    refine lv_aload_n hx hb d_Stream_settle_7 rfl (lv_at hl 0 rfl) ?_
    refine lv_aload_n hx hb d_Stream_settle_8 rfl (lv_at hl 0 rfl) ?_
    refine st_get hx hb hg hown hK hH (f := 3) (i := 0) hd_3 rfl rfl u_Stream 3 (by decide) (hg _ wd_165) (v := .int (σ.1 3 0 3)) rfl d_Stream_settle_9 ?_
    refine st_put hx hb hg hown hK hH hS (f := 3) (i := 0) hd_3 rfl rfl u_Stream t_Stream t_Stream_ok n_Stream 2 (by decide) (hg _ wd_126) rfl rfl rfl d_Stream_settle_12 (fun σ1 H locs eσ1 hH hS => ?_)
    have h := nm_at eσ1 h
    refine lv_bipush (v := (-106)) hx hb d_Stream_settle_15 (by decide) ?_
    cases h
    rw [← hQ0]
    exact W.iret hx hb hr (fun t ht hW => ⟨⟨_, (), rfl, rfl, by dsimp only; rw [ht]; exact hH⟩, hS.F ht⟩) hS.2.2 d_Stream_settle_17
set_option maxHeartbeats 4000000 in
set_option maxRecDepth 100000 in
theorem c_Stream_giveBack (l : Launch) (D : va_G) (aC : Nat → ClassId) (A : Nat → Prop) (ad : Nat → Nat → Nat) (n : Nat) (σ : St) (a1 : Int32) (o : St) (h : f_Stream_giveBack σ a1 = some o) : Met l y_Stream_giveBack w_Stream_giveBack rm_Stream_giveBack (va_Pc [.ref (ad 3 0), .int a1] (Pre D aC A ad n σ)) (va_Qv (fun (_ : Unit) => True) (fun _ t => Hold D aC A ad n o t.heap) A) 0 0 A := by
  refine Met.ofW (cc := prog_9_method_12_code) (maxL := 2) (ret := none) (by decide) rfl ?_
  intro p e s m args below meth c s₁ B hml hv
  obtain ⟨hargs, hH, hK, hZ⟩ := hv
  have hx := B.exec
  have hb := B.bytes
  have hr := B.returns
  have hts := atoms_spec (ws := w_Stream_giveBack) B.pre
  have hg : ∀ w ∈ gW, w.before args s = true := fun w h => hts w (List.mem_cons_of_mem _ h)
  have hown : s.vm.findClass "PrefixCodes$Stream" = some m.cls := findClass_of_methodNamed B.named
  have hlocks := B.notSynchronized
  have hS : va_S A s.heap s.heap [] := va_S.rf
  have hl := lv_entry ([.ref (ad 3 0), .int a1]) (n := 2) (Nat.le_of_ble_eq_true rfl)
  rw [show entryFrame m args 2 = entryFrame m (([.ref (ad 3 0), .int a1] : List Value).toArray) 2 by rw [hargs], lg_entry_eq]
  generalize (lg_sl ([.ref (ad 3 0), .int a1]) ++ List.replicate (2 - (lg_sl ([.ref (ad 3 0), .int a1])).length) Slot.unset).toArray = ls at hl ⊢
  have hl : lv_has ls 2 [(0, .ref (ad 3 0)), (1, .int a1)] := hl
  generalize hQ0 : MQ below (va_Qv (fun (_ : Unit) => True) (fun _ t => Hold D aC A ad n o t.heap) A) args s 0 0 A = Q0
  unfold f_Stream_giveBack at h
  refine lv_aload_n hx hb d_Stream_giveBack_0 rfl (lv_at hl 0 rfl) ?_
  refine lv_aload_n hx hb d_Stream_giveBack_1 rfl (lv_at hl 0 rfl) ?_
  refine lv_sipush (v := 20000) hx hb d_Stream_giveBack_2 (by decide) ?_
  refine lv_iload_n hx hb d_Stream_giveBack_5 rfl (lv_at hl 1 rfl) ?_
  refine lv_isub hx hb d_Stream_giveBack_6 ?_
  obtain ⟨qc, hc7, h⟩ := b2_some h
  obtain ⟨σ1, x2⟩ := qc
  have h := b2_at h
  refine st_Vi (As := [.int (20000 - a1)]) (rest := [.ref (ad 3 0)]) ⟨hx, hb, hml, hown, hg⟩ (c_Stream_placeOf l D aC A ad n _ (20000 - a1) _ hc7) (cwG hg wd_117 wd_118 wd_120 wd_121 wd_119 yd_Stream_placeOf ⟨Nat.le_of_ble_eq_true rfl, Nat.le_of_ble_eq_true rfl⟩) hK hH hS hZ hd_3 rfl rfl rfl hl.1 rfl (Nat.le_of_ble_eq_true rfl) d_Stream_giveBack_7 ⟨Nat.zero_le _, Nat.zero_le _⟩ (fun H locs hH hS => ?_)
  refine st_put hx hb hg hown hK hH hS (f := 3) (i := 0) hd_3 rfl rfl u_Stream t_Stream t_Stream_ok n_Stream 1 (by decide) (hg _ wd_115) rfl rfl rfl d_Stream_giveBack_10 (fun σ3 H locs eσ3 hH hS => ?_)
  have h := nm_at eσ3 h
  refine lv_aload_n hx hb d_Stream_giveBack_13 rfl (lv_at hl 0 rfl) ?_
  refine lv_dup hx hb d_Stream_giveBack_14 rfl ?_
  refine st_get hx hb hg hown hK hH (f := 3) (i := 0) hd_3 rfl rfl u_Stream 2 (by decide) (hg _ wd_126) (v := .int (σ3.1 3 0 2)) rfl d_Stream_giveBack_15 ?_
  refine lv_iload_n hx hb d_Stream_giveBack_18 rfl (lv_at hl 1 rfl) ?_
  refine lv_iadd hx hb d_Stream_giveBack_19 ?_
  refine st_put hx hb hg hown hK hH hS (f := 3) (i := 0) hd_3 rfl rfl u_Stream t_Stream t_Stream_ok n_Stream 2 (by decide) (hg _ wd_126) rfl rfl rfl d_Stream_giveBack_20 (fun σ4 H locs eσ4 hH hS => ?_)
  have h := nm_at eσ4 h
  cases h
  rw [← hQ0]
  exact W.vret hx hb hr (fun t ht hW => ⟨⟨(), rfl, trivial, by dsimp only; rw [ht]; exact hH⟩, hS.F ht⟩) hS.2.2 d_Stream_giveBack_23
