theorem we_69 : (Cond.methodLink "PrefixCodes" 80 ⟨"PrefixCodes$Code", "<init>", "(I)V"⟩ : Cond) ∈ gW := List.mem_filter.mpr ⟨gt2 _ (List.mem_of_getElem? (i := 127) rfl), rfl⟩
theorem we_70 : (Cond.code ⟨"PrefixCodes", "keep", "(LPrefixCodes$Code;)I"⟩ prog_1_method_31_code 2 (some .int) : Cond) ∈ gW := List.mem_filter.mpr ⟨gt2 _ (List.mem_of_getElem? (i := 131) rfl), rfl⟩
theorem we_71 : (Cond.methodLink "PrefixCodes" 83 ⟨"PrefixCodes", "keep", "(LPrefixCodes$Code;)I"⟩ : Cond) ∈ gW := List.mem_filter.mpr ⟨gt2 _ (List.mem_of_getElem? (i := 128) rfl), rfl⟩
theorem we_72 : (Cond.instanceMethod ⟨"PrefixCodes", "keep", "(LPrefixCodes$Code;)I"⟩ : Cond) ∈ gW := List.mem_filter.mpr ⟨gt2 _ (List.mem_of_getElem? (i := 130) rfl), rfl⟩
theorem we_73 : (Cond.selects "PrefixCodes" ⟨"PrefixCodes", "keep", "(LPrefixCodes$Code;)I"⟩ ⟨"PrefixCodes", "keep", "(LPrefixCodes$Code;)I"⟩ : Cond) ∈ gW := List.mem_filter.mpr ⟨gp1 (⟨"PrefixCodes", "keep", "(LPrefixCodes$Code;)I"⟩, 10) (List.mem_of_getElem? (i := 0) rfl), rfl⟩
theorem we_74 : (Cond.methodLink "PrefixCodes" 135 ⟨"PrefixCodes$Packages", "fit", "([IILPrefixCodes$Code;)V"⟩ : Cond) ∈ gW := List.mem_filter.mpr ⟨gt2 _ (List.mem_of_getElem? (i := 206) rfl), rfl⟩
theorem we_75 : (Cond.fieldLink "PrefixCodes" 186 "PrefixCodes$Manners" "found" "[I" : Cond) ∈ gW := List.mem_filter.mpr ⟨gt1 _ (List.mem_of_getElem? (i := 181) rfl), rfl⟩
theorem we_76 : (Cond.methodLink "PrefixCodes" 189 ⟨"java/lang/System", "arraycopy", "(Ljava/lang/Object;ILjava/lang/Object;II)V"⟩ : Cond) ∈ gW := List.mem_filter.mpr ⟨gt3 _ (List.mem_of_getElem? (i := 169) rfl), rfl⟩
theorem we_77 : (Cond.code ⟨"PrefixCodes$Manners", "remove", "(II)I"⟩ prog_5_method_3_code 3 (some .int) : Cond) ∈ gW := List.mem_filter.mpr ⟨gt3 _ (List.mem_of_getElem? (i := 134) rfl), rfl⟩
theorem we_78 : (Cond.methodLink "PrefixCodes" 180 ⟨"PrefixCodes$Manners", "remove", "(II)I"⟩ : Cond) ∈ gW := List.mem_filter.mpr ⟨gt3 _ (List.mem_of_getElem? (i := 131) rfl), rfl⟩
theorem we_79 : (Cond.instanceMethod ⟨"PrefixCodes$Manners", "remove", "(II)I"⟩ : Cond) ∈ gW := List.mem_filter.mpr ⟨gt3 _ (List.mem_of_getElem? (i := 132) rfl), rfl⟩
theorem we_80 : (Cond.selects "PrefixCodes$Manners" ⟨"PrefixCodes$Manners", "remove", "(II)I"⟩ ⟨"PrefixCodes$Manners", "remove", "(II)I"⟩ : Cond) ∈ gW := List.mem_filter.mpr ⟨gt3 _ (List.mem_of_getElem? (i := 133) rfl), rfl⟩
theorem we_81 : (Cond.code ⟨"PrefixCodes$Stream", "giveBack", "(I)V"⟩ prog_9_method_12_code 2 none : Cond) ∈ gW := List.mem_filter.mpr ⟨gt3 _ (List.mem_of_getElem? (i := 168) rfl), rfl⟩
theorem we_82 : (Cond.methodLink "PrefixCodes" 183 ⟨"PrefixCodes$Stream", "giveBack", "(I)V"⟩ : Cond) ∈ gW := List.mem_filter.mpr ⟨gt3 _ (List.mem_of_getElem? (i := 165) rfl), rfl⟩
theorem we_83 : (Cond.instanceMethod ⟨"PrefixCodes$Stream", "giveBack", "(I)V"⟩ : Cond) ∈ gW := List.mem_filter.mpr ⟨gt3 _ (List.mem_of_getElem? (i := 166) rfl), rfl⟩
theorem we_84 : (Cond.selects "PrefixCodes$Stream" ⟨"PrefixCodes$Stream", "giveBack", "(I)V"⟩ ⟨"PrefixCodes$Stream", "giveBack", "(I)V"⟩ : Cond) ∈ gW := List.mem_filter.mpr ⟨gt3 _ (List.mem_of_getElem? (i := 167) rfl), rfl⟩
abbrev rmA_PC_code : Room := { frames := 2, cells := 7, slots := 251, locals := 70 }
theorem d_PC_code_0 : decode prog_1_method_2_code 0 = .ok (.iload_n 1, 1) := by decide +kernel
theorem d_PC_code_1 : decode prog_1_method_2_code 1 = .ok (.iconst 1, 1) := by decide +kernel
theorem d_PC_code_2 : decode prog_1_method_2_code 2 = .ok (.bipush 64, 2) := by decide +kernel
theorem d_PC_code_4 : decode prog_1_method_2_code 4 = .ok (.invokestatic 76, 3) := by decide +kernel
theorem d_PC_code_7 : decode prog_1_method_2_code 7 = .ok (.ifCond .eq 6, 3) := by decide +kernel
theorem d_PC_code_10 : decode prog_1_method_2_code 10 = .ok (.bipush (-102), 2) := by decide +kernel
theorem d_PC_code_12 : decode prog_1_method_2_code 12 = .ok (.ireturn, 1) := by decide +kernel
theorem d_PC_code_13 : decode prog_1_method_2_code 13 = .ok (.aload_n 0, 1) := by decide +kernel
theorem d_PC_code_14 : decode prog_1_method_2_code 14 = .ok (.getfield 15, 3) := by decide +kernel
theorem d_PC_code_17 : decode prog_1_method_2_code 17 = .ok (.bipush 12, 2) := by decide +kernel
theorem d_PC_code_19 : decode prog_1_method_2_code 19 = .ok (.if_icmp .lt 6, 3) := by decide +kernel
theorem d_PC_code_22 : decode prog_1_method_2_code 22 = .ok (.bipush (-106), 2) := by decide +kernel
theorem d_PC_code_24 : decode prog_1_method_2_code 24 = .ok (.ireturn, 1) := by decide +kernel
theorem d_PC_code_25 : decode prog_1_method_2_code 25 = .ok (.aload_n 0, 1) := by decide +kernel
theorem d_PC_code_26 : decode prog_1_method_2_code 26 = .ok (.new 9, 3) := by decide +kernel
theorem d_PC_code_29 : decode prog_1_method_2_code 29 = .ok (.dup, 1) := by decide +kernel
theorem d_PC_code_30 : decode prog_1_method_2_code 30 = .ok (.iload_n 1, 1) := by decide +kernel
theorem d_PC_code_31 : decode prog_1_method_2_code 31 = .ok (.invokespecial 80, 3) := by decide +kernel
theorem d_PC_code_34 : decode prog_1_method_2_code 34 = .ok (.invokevirtual 83, 3) := by decide +kernel
theorem d_PC_code_37 : decode prog_1_method_2_code 37 = .ok (.ireturn, 1) := by decide +kernel
set_option maxHeartbeats 4000000 in
set_option maxRecDepth 100000 in
theorem c_PC_code (l : Launch) (D : va_G) (aC : Nat → ClassId) (A : Nat → Prop) (ad : Nat → Nat → Nat) (n : Nat) (σ : St) (a1 : Int32) (o : St × Int32) (h : f_PC_code σ a1 = some o) : Met l y_PC_code w_PC_code rmA_PC_code (va_Pc [.ref (ad 0 0), .int a1] (PreA D aC A ad n σ)) (va_Qi (fun r (_ : Nat → Nat → Nat) => r = o.2) (fun u t => HoldA D aC A ad n u o.1 t.heap) A) 7 251 A := by
  refine Met.ofW (cc := prog_1_method_2_code) (maxL := 2) (ret := (some .int)) (by decide) rfl ?_
  intro p e s m args below meth c s₁ B hml hv
  obtain ⟨hargs, ⟨hH, hK, hZ⟩, hA⟩ := hv
  have hx := B.exec
  have hb := B.bytes
  have hr := B.returns
  have hts := atoms_spec (ws := w_PC_code) B.pre
  have hg : ∀ w ∈ gW, w.before args s = true := fun w h => hts w (List.mem_cons_of_mem _ h)
  have hown : s.vm.findClass "PrefixCodes" = some m.cls := findClass_of_methodNamed B.named
  have hlocks := B.notSynchronized
  have hS : va_S A s.heap s.heap [] := va_S.rf
  have hl := lv_entry ([.ref (ad 0 0), .int a1]) (n := 2) (Nat.le_of_ble_eq_true rfl)
  rw [show entryFrame m args 2 = entryFrame m (([.ref (ad 0 0), .int a1] : List Value).toArray) 2 by rw [hargs], lg_entry_eq]
  generalize (lg_sl ([.ref (ad 0 0), .int a1]) ++ List.replicate (2 - (lg_sl ([.ref (ad 0 0), .int a1])).length) Slot.unset).toArray = ls at hl ⊢
  have hl : lv_has ls 2 [(0, .ref (ad 0 0)), (1, .int a1)] := hl
  generalize hQ0 : MQ below (va_Qi (fun r (_ : Nat → Nat → Nat) => r = o.2) (fun u t => HoldA D aC A ad n u o.1 t.heap) A) args s 7 251 A = Q0
  unfold f_PC_code at h
  refine lv_iload_n hx hb d_PC_code_0 rfl (lv_at hl 1 rfl) ?_
  refine lv_iconst (v := 1) hx hb d_PC_code_1 (by decide) ?_
  refine lv_bipush (v := 64) hx hb d_PC_code_2 (by decide) ?_
  obtain ⟨qc, hc4, h⟩ := b2_some h
  obtain ⟨σ1, x2⟩ := qc
  have h := b2_at h
  refine st_Si (As := [.int a1, .int 1, .int 64]) (rest := []) ⟨hx, hb, hml, hown, hg⟩ (c_PC_isOutside l D aC A ad n _ a1 1 64 _ hc4) (cwGS hg wd_2 wd_3 wd_5 wd_4 yd_PC_isOutside ⟨Nat.le_of_ble_eq_true rfl, Nat.le_of_ble_eq_true rfl⟩) hK hH hS hZ rfl hl.1 rfl (Nat.le_of_ble_eq_true rfl) d_PC_code_4 ⟨Nat.zero_le _, Nat.zero_le _⟩ (fun H locs hH hS => ?_)
  refine lv_if_eq (tgt := 13) hx hb d_PC_code_7 (by decide) (fun c7 => ?_) (fun c7 => ?_)
  · have h := it h c7
    refine lv_aload_n hx hb d_PC_code_13 rfl (lv_at hl 0 rfl) ?_
    refine st_get hx hb hg hown hK hH (f := 0) (i := 0) hd_0 rfl rfl u_PC 1 (by decide) (hg _ wd_0) (v := .int (σ1.1 0 0 1)) rfl d_PC_code_14 ?_
    refine lv_bipush (v := 12) hx hb d_PC_code_17 (by decide) ?_
    refine lv_icmp_lt (tgt := 25) hx hb d_PC_code_19 (by decide) (fun c19 => ?_) (fun c19 => ?_)
    · have h := it h c19
      refine lv_aload_n hx hb d_PC_code_25 rfl (lv_at hl 0 rfl) ?_
      obtain ⟨hn12, h⟩ := gd_some h
      rw [hH.2.2.2.2] at hn12
      obtain ⟨j3, ej3⟩ : ∃ z, z = σ1.2.2.2 := ⟨_, rfl⟩
      have h := nm_at ej3 h
      obtain ⟨σ4, eσ4⟩ : ∃ z, z = nC σ1 a1 := ⟨_, rfl⟩
      have h := nm_at eσ4 h
      have hjj3 : j3 = n := ej3.trans hH.2.2.2.2
      refine st_new41 hx hb hg hown (hg _ we_37) (hg _ we_14) (hg _ wd_29) hK hH hS (Nat.le_of_ble_eq_true rfl) (Nat.le_of_ble_eq_true rfl) d_PC_code_26 (fun qn H hsq hlt hqn hH hS => ?_)
      refine lv_dup hx hb d_PC_code_29 rfl ?_
      refine lv_iload_n hx hb d_PC_code_30 rfl (lv_at hl 1 rfl) ?_
      refine st_initC (rest := [.ref (ad 0 0)]) ⟨hx, hb, hml, hown, hg⟩ (cwGI hg we_15 we_69 we_17 wd_29 rfl yd_Code_init ⟨Nat.le_of_ble_eq_true rfl, Nat.le_of_ble_eq_true rfl⟩) hK hH hn12 hlt hqn hsq hA hS hl.1 (Nat.le_of_ble_eq_true rfl) d_PC_code_31 ⟨Nat.le_of_ble_eq_true rfl, Nat.le_of_ble_eq_true rfl⟩ (fun ad1 H locs hx1 hH hS => ?_)
      rw [← eσ4] at hH
      have hdj3 : dm (n + 1) 41 j3 := by rw [hjj3]; exact dm_new (by decide) (by decide)
      rw [show ad1 41 n = ad1 41 j3 by rw [hjj3]]
      rw [← hx1 0 0 hd_0] at hl
      rw [← hx1 0 0 hd_0]
      obtain ⟨qc, hc34, h⟩ := b2_some h
      obtain ⟨σ5, x6⟩ := qc
      have h := b2_at h
      refine st_Vi (As := [.ref (ad1 41 j3)]) (rest := []) ⟨hx, hb, hml, hown, hg⟩ (c_PC_keep l D aC A ad1 (n + 1) _ j3 hdj3 _ hc34) (cwG hg we_70 we_71 we_72 we_73 wd_4 yd_PC_keep ⟨Nat.le_of_ble_eq_true rfl, Nat.le_of_ble_eq_true rfl⟩) hK hH hS hZ hd_0 rfl rfl rfl hl.1 rfl (Nat.le_of_ble_eq_true rfl) d_PC_code_34 ⟨Nat.le_of_ble_eq_true rfl, Nat.le_of_ble_eq_true rfl⟩ (fun H locs hH hS => ?_)
      cases h
      rw [← hQ0]
      exact W.widen (k := 7) (n := 251) (by decide) (by decide) (W.iret hx hb hr (fun t ht hW => ⟨⟨_, ad1, rfl, rfl, by dsimp only; rw [ht]; exact ⟨by rw [hH.2.2.2.2]; exact hH, hx1⟩⟩, hS.F ht⟩) hS.2.2 d_PC_code_37)
    · have h := ie h c19
      refine lv_bipush (v := (-106)) hx hb d_PC_code_22 (by decide) ?_
      cases h
      rw [← hQ0]
      exact W.widen (k := 7) (n := 251) (by decide) (by decide) (W.iret hx hb hr (fun t ht hW => ⟨⟨_, ad, rfl, rfl, by dsimp only; rw [ht]; exact ⟨by rw [hH.2.2.2.2]; exact hH, fun _ _ _ => rfl⟩⟩, hS.F ht⟩) hS.2.2 d_PC_code_24)
  · have h := ie h c7
    refine lv_bipush (v := (-102)) hx hb d_PC_code_10 (by decide) ?_
    cases h
    rw [← hQ0]
    exact W.widen (k := 7) (n := 251) (by decide) (by decide) (W.iret hx hb hr (fun t ht hW => ⟨⟨_, ad, rfl, rfl, by dsimp only; rw [ht]; exact ⟨by rw [hH.2.2.2.2]; exact hH, fun _ _ _ => rfl⟩⟩, hS.F ht⟩) hS.2.2 d_PC_code_12)
abbrev rmA_PC_least : Room := { frames := 4, cells := 7, slots := 251, locals := 89 }
theorem d_PC_least_0 : decode prog_1_method_8_code 0 = .ok (.iload_n 1, 1) := by decide +kernel
theorem d_PC_least_1 : decode prog_1_method_8_code 1 = .ok (.iconst 1, 1) := by decide +kernel
theorem d_PC_least_2 : decode prog_1_method_8_code 2 = .ok (.bipush 64, 2) := by decide +kernel
theorem d_PC_least_4 : decode prog_1_method_8_code 4 = .ok (.invokestatic 76, 3) := by decide +kernel
theorem d_PC_least_7 : decode prog_1_method_8_code 7 = .ok (.ifCond .ne 13, 3) := by decide +kernel
theorem d_PC_least_10 : decode prog_1_method_8_code 10 = .ok (.iload_n 2, 1) := by decide +kernel
theorem d_PC_least_11 : decode prog_1_method_8_code 11 = .ok (.iconst 1, 1) := by decide +kernel
theorem d_PC_least_12 : decode prog_1_method_8_code 12 = .ok (.bipush 15, 2) := by decide +kernel
theorem d_PC_least_14 : decode prog_1_method_8_code 14 = .ok (.invokestatic 76, 3) := by decide +kernel
theorem d_PC_least_17 : decode prog_1_method_8_code 17 = .ok (.ifCond .eq 6, 3) := by decide +kernel
theorem d_PC_least_20 : decode prog_1_method_8_code 20 = .ok (.bipush (-102), 2) := by decide +kernel
theorem d_PC_least_22 : decode prog_1_method_8_code 22 = .ok (.ireturn, 1) := by decide +kernel
theorem d_PC_least_23 : decode prog_1_method_8_code 23 = .ok (.aload_n 0, 1) := by decide +kernel
theorem d_PC_least_24 : decode prog_1_method_8_code 24 = .ok (.iload_n 1, 1) := by decide +kernel
theorem d_PC_least_25 : decode prog_1_method_8_code 25 = .ok (.invokevirtual 132, 3) := by decide +kernel
theorem d_PC_least_28 : decode prog_1_method_8_code 28 = .ok (.iconst 1, 1) := by decide +kernel
theorem d_PC_least_29 : decode prog_1_method_8_code 29 = .ok (.iload_n 2, 1) := by decide +kernel
theorem d_PC_least_30 : decode prog_1_method_8_code 30 = .ok (.ishl, 1) := by decide +kernel
theorem d_PC_least_31 : decode prog_1_method_8_code 31 = .ok (.if_icmp .le 6, 3) := by decide +kernel
theorem d_PC_least_34 : decode prog_1_method_8_code 34 = .ok (.bipush (-103), 2) := by decide +kernel
theorem d_PC_least_36 : decode prog_1_method_8_code 36 = .ok (.ireturn, 1) := by decide +kernel
theorem d_PC_least_37 : decode prog_1_method_8_code 37 = .ok (.aload_n 0, 1) := by decide +kernel
theorem d_PC_least_38 : decode prog_1_method_8_code 38 = .ok (.getfield 15, 3) := by decide +kernel
theorem d_PC_least_41 : decode prog_1_method_8_code 41 = .ok (.bipush 12, 2) := by decide +kernel
theorem d_PC_least_43 : decode prog_1_method_8_code 43 = .ok (.if_icmp .lt 6, 3) := by decide +kernel
theorem d_PC_least_46 : decode prog_1_method_8_code 46 = .ok (.bipush (-106), 2) := by decide +kernel
theorem d_PC_least_48 : decode prog_1_method_8_code 48 = .ok (.ireturn, 1) := by decide +kernel
theorem d_PC_least_49 : decode prog_1_method_8_code 49 = .ok (.new 9, 3) := by decide +kernel
theorem d_PC_least_52 : decode prog_1_method_8_code 52 = .ok (.dup, 1) := by decide +kernel
theorem d_PC_least_53 : decode prog_1_method_8_code 53 = .ok (.iload_n 1, 1) := by decide +kernel
theorem d_PC_least_54 : decode prog_1_method_8_code 54 = .ok (.invokespecial 80, 3) := by decide +kernel
theorem d_PC_least_57 : decode prog_1_method_8_code 57 = .ok (.astore_n 3, 1) := by decide +kernel
theorem d_PC_least_58 : decode prog_1_method_8_code 58 = .ok (.aload_n 0, 1) := by decide +kernel
theorem d_PC_least_59 : decode prog_1_method_8_code 59 = .ok (.getfield 33, 3) := by decide +kernel
theorem d_PC_least_62 : decode prog_1_method_8_code 62 = .ok (.aload_n 0, 1) := by decide +kernel
theorem d_PC_least_63 : decode prog_1_method_8_code 63 = .ok (.getfield 19, 3) := by decide +kernel
theorem d_PC_least_66 : decode prog_1_method_8_code 66 = .ok (.iload_n 2, 1) := by decide +kernel
theorem d_PC_least_67 : decode prog_1_method_8_code 67 = .ok (.aload_n 3, 1) := by decide +kernel
theorem d_PC_least_68 : decode prog_1_method_8_code 68 = .ok (.invokevirtual 135, 3) := by decide +kernel
theorem d_PC_least_71 : decode prog_1_method_8_code 71 = .ok (.aload_n 0, 1) := by decide +kernel
theorem d_PC_least_72 : decode prog_1_method_8_code 72 = .ok (.aload_n 3, 1) := by decide +kernel
theorem d_PC_least_73 : decode prog_1_method_8_code 73 = .ok (.invokevirtual 83, 3) := by decide +kernel
theorem d_PC_least_76 : decode prog_1_method_8_code 76 = .ok (.ireturn, 1) := by decide +kernel
set_option maxHeartbeats 4000000 in
set_option maxRecDepth 100000 in
theorem c_PC_least (l : Launch) (D : va_G) (aC : Nat → ClassId) (A : Nat → Prop) (ad : Nat → Nat → Nat) (n : Nat) (σ : St) (a1 : Int32) (a2 : Int32) (o : St × Int32) (h : f_PC_least σ a1 a2 = some o) : Met l y_PC_least w_PC_least rmA_PC_least (va_Pc [.ref (ad 0 0), .int a1, .int a2] (PreA D aC A ad n σ)) (va_Qi (fun r (_ : Nat → Nat → Nat) => r = o.2) (fun u t => HoldA D aC A ad n u o.1 t.heap) A) 7 251 A := by
  refine Met.ofW (cc := prog_1_method_8_code) (maxL := 4) (ret := (some .int)) (by decide) rfl ?_
  intro p e s m args below meth c s₁ B hml hv
  obtain ⟨hargs, ⟨hH, hK, hZ⟩, hA⟩ := hv
  have hx := B.exec
  have hb := B.bytes
  have hr := B.returns
  have hts := atoms_spec (ws := w_PC_least) B.pre
  have hg : ∀ w ∈ gW, w.before args s = true := fun w h => hts w (List.mem_cons_of_mem _ h)
  have hown : s.vm.findClass "PrefixCodes" = some m.cls := findClass_of_methodNamed B.named
  have hlocks := B.notSynchronized
  have hS : va_S A s.heap s.heap [] := va_S.rf
  have hl := lv_entry ([.ref (ad 0 0), .int a1, .int a2]) (n := 4) (Nat.le_of_ble_eq_true rfl)
  rw [show entryFrame m args 4 = entryFrame m (([.ref (ad 0 0), .int a1, .int a2] : List Value).toArray) 4 by rw [hargs], lg_entry_eq]
  generalize (lg_sl ([.ref (ad 0 0), .int a1, .int a2]) ++ List.replicate (4 - (lg_sl ([.ref (ad 0 0), .int a1, .int a2])).length) Slot.unset).toArray = ls at hl ⊢
  have hl : lv_has ls 4 [(0, .ref (ad 0 0)), (1, .int a1), (2, .int a2)] := hl
  generalize hQ0 : MQ below (va_Qi (fun r (_ : Nat → Nat → Nat) => r = o.2) (fun u t => HoldA D aC A ad n u o.1 t.heap) A) args s 7 251 A = Q0
  unfold f_PC_least at h
  refine lv_iload_n hx hb d_PC_least_0 rfl (lv_at hl 1 rfl) ?_
  refine lv_iconst (v := 1) hx hb d_PC_least_1 (by decide) ?_
  refine lv_bipush (v := 64) hx hb d_PC_least_2 (by decide) ?_
  obtain ⟨qc, hc4, h⟩ := b2_some h
  obtain ⟨σ1, x2⟩ := qc
  have h := b2_at h
  refine st_Si (As := [.int a1, .int 1, .int 64]) (rest := []) ⟨hx, hb, hml, hown, hg⟩ (c_PC_isOutside l D aC A ad n _ a1 1 64 _ hc4) (cwGS hg wd_2 wd_3 wd_5 wd_4 yd_PC_isOutside ⟨Nat.le_of_ble_eq_true rfl, Nat.le_of_ble_eq_true rfl⟩) hK hH hS hZ rfl hl.1 rfl (Nat.le_of_ble_eq_true rfl) d_PC_least_4 ⟨Nat.zero_le _, Nat.zero_le _⟩ (fun H locs hH hS => ?_)
  refine lv_if_ne (tgt := 20) hx hb d_PC_least_7 (by decide) (fun c7 => ?_) (fun c7 => ?_)
  · have h := ie h c7
    refine lv_bipush (v := (-102)) hx hb d_PC_least_20 (by decide) ?_
    cases h
    rw [← hQ0]
    exact W.widen (k := 7) (n := 251) (by decide) (by decide) (W.iret hx hb hr (fun t ht hW => ⟨⟨_, ad, rfl, rfl, by dsimp only; rw [ht]; exact ⟨by rw [hH.2.2.2.2]; exact hH, fun _ _ _ => rfl⟩⟩, hS.F ht⟩) hS.2.2 d_PC_least_22)
  · have h := it h c7
    refine lv_iload_n hx hb d_PC_least_10 rfl (lv_at hl 2 rfl) ?_
    refine lv_iconst (v := 1) hx hb d_PC_least_11 (by decide) ?_
    refine lv_bipush (v := 15) hx hb d_PC_least_12 (by decide) ?_
    obtain ⟨qc, hc14, h⟩ := b2_some h
    obtain ⟨σ3, x4⟩ := qc
    have h := b2_at h
    refine st_Si (As := [.int a2, .int 1, .int 15]) (rest := []) ⟨hx, hb, hml, hown, hg⟩ (c_PC_isOutside l D aC A ad n _ a2 1 15 _ hc14) (cwGS hg wd_2 wd_3 wd_5 wd_4 yd_PC_isOutside ⟨Nat.le_of_ble_eq_true rfl, Nat.le_of_ble_eq_true rfl⟩) hK hH hS hZ rfl hl.1 rfl (Nat.le_of_ble_eq_true rfl) d_PC_least_14 ⟨Nat.zero_le _, Nat.zero_le _⟩ (fun H locs hH hS => ?_)
    refine lv_if_eq (tgt := 23) hx hb d_PC_least_17 (by decide) (fun c17 => ?_) (fun c17 => ?_)
    · have h := it h c17
      refine lv_aload_n hx hb d_PC_least_23 rfl (lv_at hl 0 rfl) ?_
      refine lv_iload_n hx hb d_PC_least_24 rfl (lv_at hl 1 rfl) ?_
      obtain ⟨qc, hc25, h⟩ := b2_some h
      obtain ⟨σ5, x6⟩ := qc
      have h := b2_at h
      refine st_Vi (As := [.int a1]) (rest := []) ⟨hx, hb, hml, hown, hg⟩ (c_PC_countedBelow l D aC A ad n _ a1 _ hc25) (cwG hg wd_77 wd_78 wd_79 wd_80 wd_4 yd_PC_countedBelow ⟨Nat.le_of_ble_eq_true rfl, Nat.le_of_ble_eq_true rfl⟩) hK hH hS hZ hd_0 rfl rfl rfl hl.1 rfl (Nat.le_of_ble_eq_true rfl) d_PC_least_25 ⟨Nat.zero_le _, Nat.zero_le _⟩ (fun H locs hH hS => ?_)
      refine lv_iconst (v := 1) hx hb d_PC_least_28 (by decide) ?_
      refine lv_iload_n hx hb d_PC_least_29 rfl (lv_at hl 2 rfl) ?_
      refine lv_ishl hx hb d_PC_least_30 ?_
      refine lv_icmp_le (tgt := 37) hx hb d_PC_least_31 (by decide) (fun c31 => ?_) (fun c31 => ?_)
      · have h := it h c31
        refine lv_aload_n hx hb d_PC_least_37 rfl (lv_at hl 0 rfl) ?_
        refine st_get hx hb hg hown hK hH (f := 0) (i := 0) hd_0 rfl rfl u_PC 1 (by decide) (hg _ wd_0) (v := .int (σ5.1 0 0 1)) rfl d_PC_least_38 ?_
        refine lv_bipush (v := 12) hx hb d_PC_least_41 (by decide) ?_
        refine lv_icmp_lt (tgt := 49) hx hb d_PC_least_43 (by decide) (fun c43 => ?_) (fun c43 => ?_)
        · have h := it h c43
          obtain ⟨hn12, h⟩ := gd_some h
          rw [hH.2.2.2.2] at hn12
          obtain ⟨j7, ej7⟩ : ∃ z, z = σ5.2.2.2 := ⟨_, rfl⟩
          have h := nm_at ej7 h
          obtain ⟨σ8, eσ8⟩ : ∃ z, z = nC σ5 a1 := ⟨_, rfl⟩
          have h := nm_at eσ8 h
          have hjj7 : j7 = n := ej7.trans hH.2.2.2.2
          refine st_new41 hx hb hg hown (hg _ we_37) (hg _ we_14) (hg _ wd_29) hK hH hS (Nat.le_of_ble_eq_true rfl) (Nat.le_of_ble_eq_true rfl) d_PC_least_49 (fun qn H hsq hlt hqn hH hS => ?_)
          refine lv_dup hx hb d_PC_least_52 rfl ?_
          refine lv_iload_n hx hb d_PC_least_53 rfl (lv_at hl 1 rfl) ?_
          refine st_initC (rest := []) ⟨hx, hb, hml, hown, hg⟩ (cwGI hg we_15 we_69 we_17 wd_29 rfl yd_Code_init ⟨Nat.le_of_ble_eq_true rfl, Nat.le_of_ble_eq_true rfl⟩) hK hH hn12 hlt hqn hsq hA hS hl.1 (Nat.le_of_ble_eq_true rfl) d_PC_least_54 ⟨Nat.le_of_ble_eq_true rfl, Nat.le_of_ble_eq_true rfl⟩ (fun ad1 H locs hx1 hH hS => ?_)
          rw [← eσ8] at hH
          have hdj7 : dm (n + 1) 41 j7 := by rw [hjj7]; exact dm_new (by decide) (by decide)
          rw [show ad1 41 n = ad1 41 j7 by rw [hjj7]]
          rw [← hx1 0 0 hd_0] at hl
          refine lv_astore_n (lv' := [(3, .ref (ad1 41 j7)), (0, .ref (ad1 0 0)), (1, .int a1), (2, .int a2)]) hx hb d_PC_least_57 rfl hl (by decide) rfl (fun ls hl => ?_)
          refine lv_aload_n hx hb d_PC_least_58 rfl (lv_at hl 1 rfl) ?_
          refine st_get hx hb hg hown hK hH (f := 0) (i := 0) hd_0 rfl rfl u_PC 4 (by decide) (hg _ we_46) (v := .ref (ad1 5 0)) rfl d_PC_least_59 ?_
          refine lv_aload_n hx hb d_PC_least_62 rfl (lv_at hl 1 rfl) ?_
          refine st_get hx hb hg hown hK hH (f := 0) (i := 0) hd_0 rfl rfl u_PC 2 (by decide) (hg _ wd_67) (v := .ref (ad1 2 0)) rfl d_PC_least_63 ?_
          refine lv_iload_n hx hb d_PC_least_66 rfl (lv_at hl 3 rfl) ?_
          refine lv_aload_n hx hb d_PC_least_67 rfl (lv_at hl 0 rfl) ?_
          obtain ⟨qc, hc68, h⟩ := b1_some h
          obtain ⟨σ9, rfl⟩ : ∃ z, z = qc := ⟨_, rfl⟩
          have h := b1_at h
          refine st_Vv (As := [.ref (ad1 2 0), .int a2, .ref (ad1 41 j7)]) (rest := []) ⟨hx, hb, hml, hown, hg⟩ (c_Packages_fit l D aC A ad1 (n + 1) _ 2 0 64 a2 j7 rfl hd_2 hdj7 _ hc68) (cwG hg wd_204 we_74 wd_206 wd_207 wd_86 yd_Packages_fit ⟨Nat.le_of_ble_eq_true rfl, Nat.le_of_ble_eq_true rfl⟩) hK hH hS hZ hd_5 rfl rfl rfl hl.1 rfl (Nat.le_of_ble_eq_true rfl) d_PC_least_68 ⟨Nat.le_of_ble_eq_true rfl, Nat.le_of_ble_eq_true rfl⟩ (fun H locs hH hS => ?_)
          refine lv_aload_n hx hb d_PC_least_71 rfl (lv_at hl 1 rfl) ?_
          refine lv_aload_n hx hb d_PC_least_72 rfl (lv_at hl 0 rfl) ?_
          obtain ⟨qc, hc73, h⟩ := b2_some h
          obtain ⟨σ10, x11⟩ := qc
          have h := b2_at h
          refine st_Vi (As := [.ref (ad1 41 j7)]) (rest := []) ⟨hx, hb, hml, hown, hg⟩ (c_PC_keep l D aC A ad1 (n + 1) _ j7 hdj7 _ hc73) (cwG hg we_70 we_71 we_72 we_73 wd_4 yd_PC_keep ⟨Nat.le_of_ble_eq_true rfl, Nat.le_of_ble_eq_true rfl⟩) hK hH hS hZ hd_0 rfl rfl rfl hl.1 rfl (Nat.le_of_ble_eq_true rfl) d_PC_least_73 ⟨Nat.le_of_ble_eq_true rfl, Nat.le_of_ble_eq_true rfl⟩ (fun H locs hH hS => ?_)
          cases h
          rw [← hQ0]
          exact W.widen (k := 7) (n := 251) (by decide) (by decide) (W.iret hx hb hr (fun t ht hW => ⟨⟨_, ad1, rfl, rfl, by dsimp only; rw [ht]; exact ⟨by rw [hH.2.2.2.2]; exact hH, hx1⟩⟩, hS.F ht⟩) hS.2.2 d_PC_least_76)
        · have h := ie h c43
          refine lv_bipush (v := (-106)) hx hb d_PC_least_46 (by decide) ?_
          cases h
          rw [← hQ0]
          exact W.widen (k := 7) (n := 251) (by decide) (by decide) (W.iret hx hb hr (fun t ht hW => ⟨⟨_, ad, rfl, rfl, by dsimp only; rw [ht]; exact ⟨by rw [hH.2.2.2.2]; exact hH, fun _ _ _ => rfl⟩⟩, hS.F ht⟩) hS.2.2 d_PC_least_48)
      · have h := ie h c31
        refine lv_bipush (v := (-103)) hx hb d_PC_least_34 (by decide) ?_
        cases h
        rw [← hQ0]
        exact W.widen (k := 7) (n := 251) (by decide) (by decide) (W.iret hx hb hr (fun t ht hW => ⟨⟨_, ad, rfl, rfl, by dsimp only; rw [ht]; exact ⟨by rw [hH.2.2.2.2]; exact hH, fun _ _ _ => rfl⟩⟩, hS.F ht⟩) hS.2.2 d_PC_least_36)
    · have h := ie h c17
      refine lv_bipush (v := (-102)) hx hb d_PC_least_20 (by decide) ?_
      cases h
      rw [← hQ0]
      exact W.widen (k := 7) (n := 251) (by decide) (by decide) (W.iret hx hb hr (fun t ht hW => ⟨⟨_, ad, rfl, rfl, by dsimp only; rw [ht]; exact ⟨by rw [hH.2.2.2.2]; exact hH, fun _ _ _ => rfl⟩⟩, hS.F ht⟩) hS.2.2 d_PC_least_22)
abbrev rmA_PC_unpack : Room := { frames := 7, cells := 7, slots := 251, locals := 164 }
theorem d_PC_unpack_0 : decode prog_1_method_18_code 0 = .ok (.iload_n 1, 1) := by decide +kernel
theorem d_PC_unpack_1 : decode prog_1_method_18_code 1 = .ok (.iconst 1, 1) := by decide +kernel
theorem d_PC_unpack_2 : decode prog_1_method_18_code 2 = .ok (.bipush 64, 2) := by decide +kernel
theorem d_PC_unpack_4 : decode prog_1_method_18_code 4 = .ok (.invokestatic 76, 3) := by decide +kernel
theorem d_PC_unpack_7 : decode prog_1_method_18_code 7 = .ok (.ifCond .ne 12, 3) := by decide +kernel
theorem d_PC_unpack_10 : decode prog_1_method_18_code 10 = .ok (.iload_n 2, 1) := by decide +kernel
theorem d_PC_unpack_11 : decode prog_1_method_18_code 11 = .ok (.iconst 0, 1) := by decide +kernel
theorem d_PC_unpack_12 : decode prog_1_method_18_code 12 = .ok (.iconst 2, 1) := by decide +kernel
theorem d_PC_unpack_13 : decode prog_1_method_18_code 13 = .ok (.invokestatic 76, 3) := by decide +kernel
theorem d_PC_unpack_16 : decode prog_1_method_18_code 16 = .ok (.ifCond .eq 6, 3) := by decide +kernel
theorem d_PC_unpack_19 : decode prog_1_method_18_code 19 = .ok (.bipush (-102), 2) := by decide +kernel
theorem d_PC_unpack_21 : decode prog_1_method_18_code 21 = .ok (.ireturn, 1) := by decide +kernel
theorem d_PC_unpack_22 : decode prog_1_method_18_code 22 = .ok (.aload_n 0, 1) := by decide +kernel
theorem d_PC_unpack_23 : decode prog_1_method_18_code 23 = .ok (.getfield 26, 3) := by decide +kernel
theorem d_PC_unpack_26 : decode prog_1_method_18_code 26 = .ok (.getfield 141, 3) := by decide +kernel
theorem d_PC_unpack_29 : decode prog_1_method_18_code 29 = .ok (.istore_n 3, 1) := by decide +kernel
theorem d_PC_unpack_30 : decode prog_1_method_18_code 30 = .ok (.aload_n 0, 1) := by decide +kernel
theorem d_PC_unpack_31 : decode prog_1_method_18_code 31 = .ok (.getfield 42, 3) := by decide +kernel
theorem d_PC_unpack_34 : decode prog_1_method_18_code 34 = .ok (.iload_n 1, 1) := by decide +kernel
theorem d_PC_unpack_35 : decode prog_1_method_18_code 35 = .ok (.iload_n 2, 1) := by decide +kernel
theorem d_PC_unpack_36 : decode prog_1_method_18_code 36 = .ok (.invokevirtual 180, 3) := by decide +kernel
theorem d_PC_unpack_39 : decode prog_1_method_18_code 39 = .ok (.istore 4, 2) := by decide +kernel
theorem d_PC_unpack_41 : decode prog_1_method_18_code 41 = .ok (.iload 4, 2) := by decide +kernel
theorem d_PC_unpack_43 : decode prog_1_method_18_code 43 = .ok (.ifCond .ge 6, 3) := by decide +kernel
theorem d_PC_unpack_46 : decode prog_1_method_18_code 46 = .ok (.iload 4, 2) := by decide +kernel
theorem d_PC_unpack_48 : decode prog_1_method_18_code 48 = .ok (.ireturn, 1) := by decide +kernel
theorem d_PC_unpack_49 : decode prog_1_method_18_code 49 = .ok (.aload_n 0, 1) := by decide +kernel
theorem d_PC_unpack_50 : decode prog_1_method_18_code 50 = .ok (.getfield 15, 3) := by decide +kernel
theorem d_PC_unpack_53 : decode prog_1_method_18_code 53 = .ok (.bipush 12, 2) := by decide +kernel
theorem d_PC_unpack_55 : decode prog_1_method_18_code 55 = .ok (.if_icmp .lt 22, 3) := by decide +kernel
theorem d_PC_unpack_58 : decode prog_1_method_18_code 58 = .ok (.aload_n 0, 1) := by decide +kernel
theorem d_PC_unpack_59 : decode prog_1_method_18_code 59 = .ok (.getfield 26, 3) := by decide +kernel
theorem d_PC_unpack_62 : decode prog_1_method_18_code 62 = .ok (.iload_n 3, 1) := by decide +kernel
theorem d_PC_unpack_63 : decode prog_1_method_18_code 63 = .ok (.aload_n 0, 1) := by decide +kernel
theorem d_PC_unpack_64 : decode prog_1_method_18_code 64 = .ok (.getfield 26, 3) := by decide +kernel
theorem d_PC_unpack_67 : decode prog_1_method_18_code 67 = .ok (.getfield 141, 3) := by decide +kernel
theorem d_PC_unpack_70 : decode prog_1_method_18_code 70 = .ok (.isub, 1) := by decide +kernel
theorem d_PC_unpack_71 : decode prog_1_method_18_code 71 = .ok (.invokevirtual 183, 3) := by decide +kernel
theorem d_PC_unpack_74 : decode prog_1_method_18_code 74 = .ok (.bipush (-106), 2) := by decide +kernel
theorem d_PC_unpack_76 : decode prog_1_method_18_code 76 = .ok (.ireturn, 1) := by decide +kernel
theorem d_PC_unpack_77 : decode prog_1_method_18_code 77 = .ok (.new 9, 3) := by decide +kernel
theorem d_PC_unpack_80 : decode prog_1_method_18_code 80 = .ok (.dup, 1) := by decide +kernel
theorem d_PC_unpack_81 : decode prog_1_method_18_code 81 = .ok (.iload_n 1, 1) := by decide +kernel
theorem d_PC_unpack_82 : decode prog_1_method_18_code 82 = .ok (.invokespecial 80, 3) := by decide +kernel
theorem d_PC_unpack_85 : decode prog_1_method_18_code 85 = .ok (.astore 5, 2) := by decide +kernel
theorem d_PC_unpack_87 : decode prog_1_method_18_code 87 = .ok (.aload_n 0, 1) := by decide +kernel
theorem d_PC_unpack_88 : decode prog_1_method_18_code 88 = .ok (.getfield 42, 3) := by decide +kernel
theorem d_PC_unpack_91 : decode prog_1_method_18_code 91 = .ok (.getfield 186, 3) := by decide +kernel
theorem d_PC_unpack_94 : decode prog_1_method_18_code 94 = .ok (.iconst 0, 1) := by decide +kernel
theorem d_PC_unpack_95 : decode prog_1_method_18_code 95 = .ok (.aload 5, 2) := by decide +kernel
theorem d_PC_unpack_97 : decode prog_1_method_18_code 97 = .ok (.getfield 91, 3) := by decide +kernel
theorem d_PC_unpack_100 : decode prog_1_method_18_code 100 = .ok (.iconst 0, 1) := by decide +kernel
theorem d_PC_unpack_101 : decode prog_1_method_18_code 101 = .ok (.iload_n 1, 1) := by decide +kernel
theorem d_PC_unpack_102 : decode prog_1_method_18_code 102 = .ok (.invokestatic 189, 3) := by decide +kernel
theorem d_PC_unpack_105 : decode prog_1_method_18_code 105 = .ok (.aload 5, 2) := by decide +kernel
theorem d_PC_unpack_107 : decode prog_1_method_18_code 107 = .ok (.invokevirtual 94, 3) := by decide +kernel
theorem d_PC_unpack_110 : decode prog_1_method_18_code 110 = .ok (.aload_n 0, 1) := by decide +kernel
theorem d_PC_unpack_111 : decode prog_1_method_18_code 111 = .ok (.aload 5, 2) := by decide +kernel
theorem d_PC_unpack_113 : decode prog_1_method_18_code 113 = .ok (.invokevirtual 83, 3) := by decide +kernel
theorem d_PC_unpack_116 : decode prog_1_method_18_code 116 = .ok (.ireturn, 1) := by decide +kernel
set_option maxHeartbeats 4000000 in
set_option maxRecDepth 100000 in
theorem c_PC_unpack (l : Launch) (D : va_G) (aC : Nat → ClassId) (A : Nat → Prop) (ad : Nat → Nat → Nat) (n : Nat) (σ : St) (a1 : Int32) (a2 : Int32) (o : St × Int32) (h : f_PC_unpack σ a1 a2 = some o) : Met l y_PC_unpack w_PC_unpack rmA_PC_unpack (va_Pc [.ref (ad 0 0), .int a1, .int a2] (PreA D aC A ad n σ)) (va_Qi (fun r (_ : Nat → Nat → Nat) => r = o.2) (fun u t => HoldA D aC A ad n u o.1 t.heap) A) 7 251 A := by
  refine Met.ofW (cc := prog_1_method_18_code) (maxL := 6) (ret := (some .int)) (by decide) rfl ?_
  intro p e s m args below meth c s₁ B hml hv
  obtain ⟨hargs, ⟨hH, hK, hZ⟩, hA⟩ := hv
  have hx := B.exec
  have hb := B.bytes
  have hr := B.returns
  have hts := atoms_spec (ws := w_PC_unpack) B.pre
  have hg : ∀ w ∈ gW, w.before args s = true := fun w h => hts w (List.mem_cons_of_mem _ h)
  have hown : s.vm.findClass "PrefixCodes" = some m.cls := findClass_of_methodNamed B.named
  have hlocks := B.notSynchronized
  have hS : va_S A s.heap s.heap [] := va_S.rf
  have hl := lv_entry ([.ref (ad 0 0), .int a1, .int a2]) (n := 6) (Nat.le_of_ble_eq_true rfl)
  rw [show entryFrame m args 6 = entryFrame m (([.ref (ad 0 0), .int a1, .int a2] : List Value).toArray) 6 by rw [hargs], lg_entry_eq]
  generalize (lg_sl ([.ref (ad 0 0), .int a1, .int a2]) ++ List.replicate (6 - (lg_sl ([.ref (ad 0 0), .int a1, .int a2])).length) Slot.unset).toArray = ls at hl ⊢
  have hl : lv_has ls 6 [(0, .ref (ad 0 0)), (1, .int a1), (2, .int a2)] := hl
  generalize hQ0 : MQ below (va_Qi (fun r (_ : Nat → Nat → Nat) => r = o.2) (fun u t => HoldA D aC A ad n u o.1 t.heap) A) args s 7 251 A = Q0
  unfold f_PC_unpack at h
  refine lv_iload_n hx hb d_PC_unpack_0 rfl (lv_at hl 1 rfl) ?_
  refine lv_iconst (v := 1) hx hb d_PC_unpack_1 (by decide) ?_
  refine lv_bipush (v := 64) hx hb d_PC_unpack_2 (by decide) ?_
  obtain ⟨qc, hc4, h⟩ := b2_some h
  obtain ⟨σ1, x2⟩ := qc
  have h := b2_at h
  refine st_Si (As := [.int a1, .int 1, .int 64]) (rest := []) ⟨hx, hb, hml, hown, hg⟩ (c_PC_isOutside l D aC A ad n _ a1 1 64 _ hc4) (cwGS hg wd_2 wd_3 wd_5 wd_4 yd_PC_isOutside ⟨Nat.le_of_ble_eq_true rfl, Nat.le_of_ble_eq_true rfl⟩) hK hH hS hZ rfl hl.1 rfl (Nat.le_of_ble_eq_true rfl) d_PC_unpack_4 ⟨Nat.zero_le _, Nat.zero_le _⟩ (fun H locs hH hS => ?_)
  refine lv_if_ne (tgt := 19) hx hb d_PC_unpack_7 (by decide) (fun c7 => ?_) (fun c7 => ?_)
  · have h := ie h c7
    refine lv_bipush (v := (-102)) hx hb d_PC_unpack_19 (by decide) ?_
    cases h
    rw [← hQ0]
    exact W.widen (k := 7) (n := 251) (by decide) (by decide) (W.iret hx hb hr (fun t ht hW => ⟨⟨_, ad, rfl, rfl, by dsimp only; rw [ht]; exact ⟨by rw [hH.2.2.2.2]; exact hH, fun _ _ _ => rfl⟩⟩, hS.F ht⟩) hS.2.2 d_PC_unpack_21)
  · have h := it h c7
    refine lv_iload_n hx hb d_PC_unpack_10 rfl (lv_at hl 2 rfl) ?_
    refine lv_iconst (v := 0) hx hb d_PC_unpack_11 (by decide) ?_
    refine lv_iconst (v := 2) hx hb d_PC_unpack_12 (by decide) ?_
    obtain ⟨qc, hc13, h⟩ := b2_some h
    obtain ⟨σ3, x4⟩ := qc
    have h := b2_at h
    refine st_Si (As := [.int a2, .int 0, .int 2]) (rest := []) ⟨hx, hb, hml, hown, hg⟩ (c_PC_isOutside l D aC A ad n _ a2 0 2 _ hc13) (cwGS hg wd_2 wd_3 wd_5 wd_4 yd_PC_isOutside ⟨Nat.le_of_ble_eq_true rfl, Nat.le_of_ble_eq_true rfl⟩) hK hH hS hZ rfl hl.1 rfl (Nat.le_of_ble_eq_true rfl) d_PC_unpack_13 ⟨Nat.zero_le _, Nat.zero_le _⟩ (fun H locs hH hS => ?_)
    refine lv_if_eq (tgt := 22) hx hb d_PC_unpack_16 (by decide) (fun c16 => ?_) (fun c16 => ?_)
    · have h := it h c16
      refine lv_aload_n hx hb d_PC_unpack_22 rfl (lv_at hl 0 rfl) ?_
      refine st_get hx hb hg hown hK hH (f := 0) (i := 0) hd_0 rfl rfl u_PC 3 (by decide) (hg _ wd_113) (v := .ref (ad 3 0)) rfl d_PC_unpack_23 ?_
      refine st_get hx hb hg hown hK hH (f := 3) (i := 0) hd_3 rfl rfl u_Stream 2 (by decide) (hg _ wd_114) (v := .int (σ3.1 3 0 2)) rfl d_PC_unpack_26 ?_
      refine lv_topi (fun x5 ex5 => ?_)
      have h := nm_at ex5 h
      refine lv_istore_n (lv' := [(3, .int x5), (0, .ref (ad 0 0)), (1, .int a1), (2, .int a2)]) hx hb d_PC_unpack_29 rfl hl (by decide) rfl (fun ls hl => ?_)
      refine lv_aload_n hx hb d_PC_unpack_30 rfl (lv_at hl 1 rfl) ?_
      refine st_get hx hb hg hown hK hH (f := 0) (i := 0) hd_0 rfl rfl u_PC 5 (by decide) (hg _ wd_226) (v := .ref (ad 13 0)) rfl d_PC_unpack_31 ?_
      refine lv_iload_n hx hb d_PC_unpack_34 rfl (lv_at hl 2 rfl) ?_
      refine lv_iload_n hx hb d_PC_unpack_35 rfl (lv_at hl 3 rfl) ?_
      obtain ⟨qc, hc36, h⟩ := b2_some h
      obtain ⟨σ6, x7⟩ := qc
      have h := b2_at h
      refine st_Vi (As := [.int a1, .int a2]) (rest := []) ⟨hx, hb, hml, hown, hg⟩ (c_Manners_remove l D aC A ad n _ a1 a2 _ hc36) (cwG hg we_77 we_78 we_79 we_80 wd_215 yd_Manners_remove ⟨Nat.le_of_ble_eq_true rfl, Nat.le_of_ble_eq_true rfl⟩) hK hH hS hZ hd_13 rfl rfl rfl hl.1 rfl (Nat.le_of_ble_eq_true rfl) d_PC_unpack_36 ⟨Nat.zero_le _, Nat.zero_le _⟩ (fun H locs hH hS => ?_)
      refine lv_istore (lv' := [(4, .int x7), (3, .int x5), (0, .ref (ad 0 0)), (1, .int a1), (2, .int a2)]) hx hb d_PC_unpack_39 hl (by decide) rfl (fun ls hl => ?_)
      refine lv_iload hx hb d_PC_unpack_41 (lv_at hl 0 rfl) ?_
      refine lv_if_ge (tgt := 49) hx hb d_PC_unpack_43 (by decide) (fun c43 => ?_) (fun c43 => ?_)
      · have h := it h c43
        refine lv_aload_n hx hb d_PC_unpack_49 rfl (lv_at hl 2 rfl) ?_
        refine st_get hx hb hg hown hK hH (f := 0) (i := 0) hd_0 rfl rfl u_PC 1 (by decide) (hg _ wd_0) (v := .int (σ6.1 0 0 1)) rfl d_PC_unpack_50 ?_
        refine lv_bipush (v := 12) hx hb d_PC_unpack_53 (by decide) ?_
        refine lv_icmp_lt (tgt := 77) hx hb d_PC_unpack_55 (by decide) (fun c55 => ?_) (fun c55 => ?_)
        · have h := it h c55
          obtain ⟨hn12, h⟩ := gd_some h
          rw [hH.2.2.2.2] at hn12
          obtain ⟨j8, ej8⟩ : ∃ z, z = σ6.2.2.2 := ⟨_, rfl⟩
          have h := nm_at ej8 h
          obtain ⟨σ9, eσ9⟩ : ∃ z, z = nC σ6 a1 := ⟨_, rfl⟩
          have h := nm_at eσ9 h
          have hjj8 : j8 = n := ej8.trans hH.2.2.2.2
          refine st_new41 hx hb hg hown (hg _ we_37) (hg _ we_14) (hg _ wd_29) hK hH hS (Nat.le_of_ble_eq_true rfl) (Nat.le_of_ble_eq_true rfl) d_PC_unpack_77 (fun qn H hsq hlt hqn hH hS => ?_)
          refine lv_dup hx hb d_PC_unpack_80 rfl ?_
          refine lv_iload_n hx hb d_PC_unpack_81 rfl (lv_at hl 3 rfl) ?_
          refine st_initC (rest := []) ⟨hx, hb, hml, hown, hg⟩ (cwGI hg we_15 we_69 we_17 wd_29 rfl yd_Code_init ⟨Nat.le_of_ble_eq_true rfl, Nat.le_of_ble_eq_true rfl⟩) hK hH hn12 hlt hqn hsq hA hS hl.1 (Nat.le_of_ble_eq_true rfl) d_PC_unpack_82 ⟨Nat.le_of_ble_eq_true rfl, Nat.le_of_ble_eq_true rfl⟩ (fun ad1 H locs hx1 hH hS => ?_)
          rw [← eσ9] at hH
          have hdj8 : dm (n + 1) 41 j8 := by rw [hjj8]; exact dm_new (by decide) (by decide)
          rw [show ad1 41 n = ad1 41 j8 by rw [hjj8]]
          rw [← hx1 0 0 hd_0] at hl
          refine lv_astore (lv' := [(5, .ref (ad1 41 j8)), (4, .int x7), (3, .int x5), (0, .ref (ad1 0 0)), (1, .int a1), (2, .int a2)]) hx hb d_PC_unpack_85 hl (by decide) rfl (fun ls hl => ?_)
          refine lv_aload_n hx hb d_PC_unpack_87 rfl (lv_at hl 3 rfl) ?_
          refine st_get hx hb hg hown hK hH (f := 0) (i := 0) hd_0 rfl rfl u_PC 5 (by decide) (hg _ wd_226) (v := .ref (ad1 13 0)) rfl d_PC_unpack_88 ?_
          refine st_get hx hb hg hown hK hH (f := 13) (i := 0) hd_13 rfl rfl u_Manners 2 (by decide) (hg _ we_75) (v := .ref (ad1 14 0)) rfl d_PC_unpack_91 ?_
          refine lv_iconst (v := 0) hx hb d_PC_unpack_94 (by decide) ?_
          refine lv_aload hx hb d_PC_unpack_95 (lv_at hl 0 rfl) ?_
          refine st_get hx hb hg hown hK hH (f := 41) (i := j8) hdj8 rfl rfl u_Code 1 (by decide) (hg _ wd_44) (v := .ref (ad1 42 j8)) rfl d_PC_unpack_97 ?_
          refine lv_iconst (v := 0) hx hb d_PC_unpack_100 (by decide) ?_
          refine lv_iload_n hx hb d_PC_unpack_101 rfl (lv_at hl 4 rfl) ?_
          obtain ⟨g102, h⟩ := gd_some h
          refine st_copy hx hb (hml.trans hl.1.symm) hown (hg _ we_76) (hg _ wd_316) (hg _ wd_317) (hg _ wd_318) hK hH hS hd_14 rfl (show dm (n + 1) 42 j8 from hdj8) rfl g102 (Nat.le_of_ble_eq_true rfl) (Nat.le_of_ble_eq_true rfl) d_PC_unpack_102 (fun σ10 H locs eσ10 hH hS => ?_)
          have h := nm_at eσ10 h
          refine lv_aload hx hb d_PC_unpack_105 (lv_at hl 0 rfl) ?_
          obtain ⟨qc, hc107, h⟩ := b1_some h
          obtain ⟨σ11, rfl⟩ : ∃ z, z = qc := ⟨_, rfl⟩
          have h := b1_at h
          refine st_Vv (As := []) (rest := []) ⟨hx, hb, hml, hown, hg⟩ (c_Code_renumber l D aC A ad1 (n + 1) _ j8 hdj8 _ hc107) (cwG hg wd_49 wd_50 wd_51 wd_52 wd_29 yd_Code_renumber ⟨Nat.le_of_ble_eq_true rfl, Nat.le_of_ble_eq_true rfl⟩) hK hH hS hZ hdj8 rfl rfl rfl hl.1 rfl (Nat.le_of_ble_eq_true rfl) d_PC_unpack_107 ⟨Nat.le_of_ble_eq_true rfl, Nat.le_of_ble_eq_true rfl⟩ (fun H locs hH hS => ?_)
          refine lv_aload_n hx hb d_PC_unpack_110 rfl (lv_at hl 3 rfl) ?_
          refine lv_aload hx hb d_PC_unpack_111 (lv_at hl 0 rfl) ?_
          obtain ⟨qc, hc113, h⟩ := b2_some h
          obtain ⟨σ12, x13⟩ := qc
          have h := b2_at h
          refine st_Vi (As := [.ref (ad1 41 j8)]) (rest := []) ⟨hx, hb, hml, hown, hg⟩ (c_PC_keep l D aC A ad1 (n + 1) _ j8 hdj8 _ hc113) (cwG hg we_70 we_71 we_72 we_73 wd_4 yd_PC_keep ⟨Nat.le_of_ble_eq_true rfl, Nat.le_of_ble_eq_true rfl⟩) hK hH hS hZ hd_0 rfl rfl rfl hl.1 rfl (Nat.le_of_ble_eq_true rfl) d_PC_unpack_113 ⟨Nat.le_of_ble_eq_true rfl, Nat.le_of_ble_eq_true rfl⟩ (fun H locs hH hS => ?_)
          cases h
          rw [← hQ0]
          exact W.widen (k := 7) (n := 251) (by decide) (by decide) (W.iret hx hb hr (fun t ht hW => ⟨⟨_, ad1, rfl, rfl, by dsimp only; rw [ht]; exact ⟨by rw [hH.2.2.2.2]; exact hH, hx1⟩⟩, hS.F ht⟩) hS.2.2 d_PC_unpack_116)
        · have h := ie h c55
          refine lv_aload_n hx hb d_PC_unpack_58 rfl (lv_at hl 2 rfl) ?_
          refine st_get hx hb hg hown hK hH (f := 0) (i := 0) hd_0 rfl rfl u_PC 3 (by decide) (hg _ wd_113) (v := .ref (ad 3 0)) rfl d_PC_unpack_59 ?_
          refine lv_iload_n hx hb d_PC_unpack_62 rfl (lv_at hl 1 rfl) ?_
          refine lv_aload_n hx hb d_PC_unpack_63 rfl (lv_at hl 2 rfl) ?_
          refine st_get hx hb hg hown hK hH (f := 0) (i := 0) hd_0 rfl rfl u_PC 3 (by decide) (hg _ wd_113) (v := .ref (ad 3 0)) rfl d_PC_unpack_64 ?_
          refine st_get hx hb hg hown hK hH (f := 3) (i := 0) hd_3 rfl rfl u_Stream 2 (by decide) (hg _ wd_114) (v := .int (σ6.1 3 0 2)) rfl d_PC_unpack_67 ?_
          refine lv_isub hx hb d_PC_unpack_70 ?_
          obtain ⟨qc, hc71, h⟩ := b1_some h
          obtain ⟨σ14, rfl⟩ : ∃ z, z = qc := ⟨_, rfl⟩
          have h := b1_at h
          refine st_Vv (As := [.int (x5 - (σ6.1 3 0 2))]) (rest := []) ⟨hx, hb, hml, hown, hg⟩ (c_Stream_giveBack l D aC A ad n _ (x5 - (σ6.1 3 0 2)) _ hc71) (cwG hg we_81 we_82 we_83 we_84 wd_119 yd_Stream_giveBack ⟨Nat.le_of_ble_eq_true rfl, Nat.le_of_ble_eq_true rfl⟩) hK hH hS hZ hd_3 rfl rfl rfl hl.1 rfl (Nat.le_of_ble_eq_true rfl) d_PC_unpack_71 ⟨Nat.zero_le _, Nat.zero_le _⟩ (fun H locs hH hS => ?_)
          refine lv_bipush (v := (-106)) hx hb d_PC_unpack_74 (by decide) ?_
          cases h
          rw [← hQ0]
          exact W.widen (k := 7) (n := 251) (by decide) (by decide) (W.iret hx hb hr (fun t ht hW => ⟨⟨_, ad, rfl, rfl, by dsimp only; rw [ht]; exact ⟨by rw [hH.2.2.2.2]; exact hH, fun _ _ _ => rfl⟩⟩, hS.F ht⟩) hS.2.2 d_PC_unpack_76)
      · have h := ie h c43
        refine lv_iload hx hb d_PC_unpack_46 (lv_at hl 0 rfl) ?_
        cases h
        rw [← hQ0]
        exact W.widen (k := 7) (n := 251) (by decide) (by decide) (W.iret hx hb hr (fun t ht hW => ⟨⟨_, ad, rfl, rfl, by dsimp only; rw [ht]; exact ⟨by rw [hH.2.2.2.2]; exact hH, fun _ _ _ => rfl⟩⟩, hS.F ht⟩) hS.2.2 d_PC_unpack_48)
    · have h := ie h c16
      refine lv_bipush (v := (-102)) hx hb d_PC_unpack_19 (by decide) ?_
      cases h
      rw [← hQ0]
      exact W.widen (k := 7) (n := 251) (by decide) (by decide) (W.iret hx hb hr (fun t ht hW => ⟨⟨_, ad, rfl, rfl, by dsimp only; rw [ht]; exact ⟨by rw [hH.2.2.2.2]; exact hH, fun _ _ _ => rfl⟩⟩, hS.F ht⟩) hS.2.2 d_PC_unpack_21)
