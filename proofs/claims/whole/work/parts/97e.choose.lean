theorem dm_le {n n1 f i : Nat} (hn : n ≤ n1) (h : dm n f i) : dm n1 f i := by
  unfold dm at h ⊢
  by_cases y : muL.getD f 0 = 99
  · rw [if_pos y] at h ⊢
    rcases h with h | h
    · exact Or.inl (by omega)
    · exact Or.inr h
  · rw [if_neg y] at h ⊢
    exact h
theorem we_85 : (Cond.fieldLink "PrefixCodes" 219 "PrefixCodes$Choice" "codes" "[LPrefixCodes$Code;" : Cond) ∈ gW := List.mem_filter.mpr ⟨gt2 _ (List.mem_of_getElem? (i := 39) rfl), rfl⟩
theorem we_86 : (Cond.code ⟨"PrefixCodes$Text", "different", "()I"⟩ prog_11_method_5_code 3 (some .int) : Cond) ∈ gW := List.mem_filter.mpr ⟨gt3 _ (List.mem_of_getElem? (i := 204) rfl), rfl⟩
theorem we_87 : (Cond.methodLink "PrefixCodes" 213 ⟨"PrefixCodes$Text", "different", "()I"⟩ : Cond) ∈ gW := List.mem_filter.mpr ⟨gt3 _ (List.mem_of_getElem? (i := 201) rfl), rfl⟩
theorem we_88 : (Cond.instanceMethod ⟨"PrefixCodes$Text", "different", "()I"⟩ : Cond) ∈ gW := List.mem_filter.mpr ⟨gt3 _ (List.mem_of_getElem? (i := 202) rfl), rfl⟩
theorem we_89 : (Cond.selects "PrefixCodes$Text" ⟨"PrefixCodes$Text", "different", "()I"⟩ ⟨"PrefixCodes$Text", "different", "()I"⟩ : Cond) ∈ gW := List.mem_filter.mpr ⟨gt3 _ (List.mem_of_getElem? (i := 203) rfl), rfl⟩
theorem we_90 : (Cond.code ⟨"PrefixCodes$Choice", "begin", "(LPrefixCodes$Text;II)V"⟩ prog_2_method_2_code 5 none : Cond) ∈ gW := List.mem_filter.mpr ⟨gt3 _ (List.mem_of_getElem? (i := 209) rfl), rfl⟩
theorem we_91 : (Cond.methodLink "PrefixCodes" 216 ⟨"PrefixCodes$Choice", "begin", "(LPrefixCodes$Text;II)V"⟩ : Cond) ∈ gW := List.mem_filter.mpr ⟨gt3 _ (List.mem_of_getElem? (i := 206) rfl), rfl⟩
theorem we_92 : (Cond.instanceMethod ⟨"PrefixCodes$Choice", "begin", "(LPrefixCodes$Text;II)V"⟩ : Cond) ∈ gW := List.mem_filter.mpr ⟨gt3 _ (List.mem_of_getElem? (i := 207) rfl), rfl⟩
theorem we_93 : (Cond.selects "PrefixCodes$Choice" ⟨"PrefixCodes$Choice", "begin", "(LPrefixCodes$Text;II)V"⟩ ⟨"PrefixCodes$Choice", "begin", "(LPrefixCodes$Text;II)V"⟩ : Cond) ∈ gW := List.mem_filter.mpr ⟨gt3 _ (List.mem_of_getElem? (i := 208) rfl), rfl⟩
theorem we_94 : (Cond.code ⟨"PrefixCodes$Choice", "settle", "(LPrefixCodes$Packages;II)V"⟩ prog_2_method_3_code 5 none : Cond) ∈ gW := List.mem_filter.mpr ⟨gt3 _ (List.mem_of_getElem? (i := 214) rfl), rfl⟩
theorem we_95 : (Cond.methodLink "PrefixCodes" 220 ⟨"PrefixCodes$Choice", "settle", "(LPrefixCodes$Packages;II)V"⟩ : Cond) ∈ gW := List.mem_filter.mpr ⟨gt3 _ (List.mem_of_getElem? (i := 211) rfl), rfl⟩
theorem we_96 : (Cond.instanceMethod ⟨"PrefixCodes$Choice", "settle", "(LPrefixCodes$Packages;II)V"⟩ : Cond) ∈ gW := List.mem_filter.mpr ⟨gt3 _ (List.mem_of_getElem? (i := 212) rfl), rfl⟩
theorem we_97 : (Cond.selects "PrefixCodes$Choice" ⟨"PrefixCodes$Choice", "settle", "(LPrefixCodes$Packages;II)V"⟩ ⟨"PrefixCodes$Choice", "settle", "(LPrefixCodes$Packages;II)V"⟩ : Cond) ∈ gW := List.mem_filter.mpr ⟨gt3 _ (List.mem_of_getElem? (i := 213) rfl), rfl⟩
abbrev rmA_PC_choose : Room := { frames := 6, cells := 42, slots := 1506, locals := 136 }
theorem d_PC_choose_0 : decode prog_1_method_23_code 0 = .ok (.iload_n 1, 1) := by decide +kernel
theorem d_PC_choose_1 : decode prog_1_method_23_code 1 = .ok (.iconst 1, 1) := by decide +kernel
theorem d_PC_choose_2 : decode prog_1_method_23_code 2 = .ok (.bipush 6, 2) := by decide +kernel
theorem d_PC_choose_4 : decode prog_1_method_23_code 4 = .ok (.invokestatic 76, 3) := by decide +kernel
theorem d_PC_choose_7 : decode prog_1_method_23_code 7 = .ok (.ifCond .ne 34, 3) := by decide +kernel
theorem d_PC_choose_10 : decode prog_1_method_23_code 10 = .ok (.iload_n 2, 1) := by decide +kernel
theorem d_PC_choose_11 : decode prog_1_method_23_code 11 = .ok (.iconst 1, 1) := by decide +kernel
theorem d_PC_choose_12 : decode prog_1_method_23_code 12 = .ok (.bipush 100, 2) := by decide +kernel
theorem d_PC_choose_14 : decode prog_1_method_23_code 14 = .ok (.invokestatic 76, 3) := by decide +kernel
theorem d_PC_choose_17 : decode prog_1_method_23_code 17 = .ok (.ifCond .ne 24, 3) := by decide +kernel
theorem d_PC_choose_20 : decode prog_1_method_23_code 20 = .ok (.iload_n 3, 1) := by decide +kernel
theorem d_PC_choose_21 : decode prog_1_method_23_code 21 = .ok (.iconst 1, 1) := by decide +kernel
theorem d_PC_choose_22 : decode prog_1_method_23_code 22 = .ok (.bipush 15, 2) := by decide +kernel
theorem d_PC_choose_24 : decode prog_1_method_23_code 24 = .ok (.invokestatic 76, 3) := by decide +kernel
theorem d_PC_choose_27 : decode prog_1_method_23_code 27 = .ok (.ifCond .ne 14, 3) := by decide +kernel
theorem d_PC_choose_30 : decode prog_1_method_23_code 30 = .ok (.iload 4, 2) := by decide +kernel
theorem d_PC_choose_32 : decode prog_1_method_23_code 32 = .ok (.iconst 0, 1) := by decide +kernel
theorem d_PC_choose_33 : decode prog_1_method_23_code 33 = .ok (.bipush 8, 2) := by decide +kernel
theorem d_PC_choose_35 : decode prog_1_method_23_code 35 = .ok (.invokestatic 76, 3) := by decide +kernel
theorem d_PC_choose_38 : decode prog_1_method_23_code 38 = .ok (.ifCond .eq 6, 3) := by decide +kernel
theorem d_PC_choose_41 : decode prog_1_method_23_code 41 = .ok (.bipush (-102), 2) := by decide +kernel
theorem d_PC_choose_43 : decode prog_1_method_23_code 43 = .ok (.ireturn, 1) := by decide +kernel
theorem d_PC_choose_44 : decode prog_1_method_23_code 44 = .ok (.aload_n 0, 1) := by decide +kernel
theorem d_PC_choose_45 : decode prog_1_method_23_code 45 = .ok (.getfield 56, 3) := by decide +kernel
theorem d_PC_choose_48 : decode prog_1_method_23_code 48 = .ok (.invokevirtual 213, 3) := by decide +kernel
theorem d_PC_choose_51 : decode prog_1_method_23_code 51 = .ok (.istore 5, 2) := by decide +kernel
theorem d_PC_choose_53 : decode prog_1_method_23_code 53 = .ok (.iload 5, 2) := by decide +kernel
theorem d_PC_choose_55 : decode prog_1_method_23_code 55 = .ok (.ifCond .eq 11, 3) := by decide +kernel
theorem d_PC_choose_58 : decode prog_1_method_23_code 58 = .ok (.iload 5, 2) := by decide +kernel
theorem d_PC_choose_60 : decode prog_1_method_23_code 60 = .ok (.iconst 1, 1) := by decide +kernel
theorem d_PC_choose_61 : decode prog_1_method_23_code 61 = .ok (.iload_n 3, 1) := by decide +kernel
theorem d_PC_choose_62 : decode prog_1_method_23_code 62 = .ok (.ishl, 1) := by decide +kernel
theorem d_PC_choose_63 : decode prog_1_method_23_code 63 = .ok (.if_icmp .le 6, 3) := by decide +kernel
theorem d_PC_choose_66 : decode prog_1_method_23_code 66 = .ok (.bipush (-103), 2) := by decide +kernel
theorem d_PC_choose_68 : decode prog_1_method_23_code 68 = .ok (.ireturn, 1) := by decide +kernel
theorem d_PC_choose_69 : decode prog_1_method_23_code 69 = .ok (.iload_n 1, 1) := by decide +kernel
theorem d_PC_choose_70 : decode prog_1_method_23_code 70 = .ok (.bipush 12, 2) := by decide +kernel
theorem d_PC_choose_72 : decode prog_1_method_23_code 72 = .ok (.aload_n 0, 1) := by decide +kernel
theorem d_PC_choose_73 : decode prog_1_method_23_code 73 = .ok (.getfield 15, 3) := by decide +kernel
theorem d_PC_choose_76 : decode prog_1_method_23_code 76 = .ok (.isub, 1) := by decide +kernel
theorem d_PC_choose_77 : decode prog_1_method_23_code 77 = .ok (.if_icmp .le 6, 3) := by decide +kernel
theorem d_PC_choose_80 : decode prog_1_method_23_code 80 = .ok (.bipush (-106), 2) := by decide +kernel
theorem d_PC_choose_82 : decode prog_1_method_23_code 82 = .ok (.ireturn, 1) := by decide +kernel
theorem d_PC_choose_83 : decode prog_1_method_23_code 83 = .ok (.aload_n 0, 1) := by decide +kernel
theorem d_PC_choose_84 : decode prog_1_method_23_code 84 = .ok (.getfield 15, 3) := by decide +kernel
theorem d_PC_choose_87 : decode prog_1_method_23_code 87 = .ok (.istore 6, 2) := by decide +kernel
theorem d_PC_choose_89 : decode prog_1_method_23_code 89 = .ok (.aload_n 0, 1) := by decide +kernel
theorem d_PC_choose_90 : decode prog_1_method_23_code 90 = .ok (.getfield 63, 3) := by decide +kernel
theorem d_PC_choose_93 : decode prog_1_method_23_code 93 = .ok (.aload_n 0, 1) := by decide +kernel
theorem d_PC_choose_94 : decode prog_1_method_23_code 94 = .ok (.getfield 56, 3) := by decide +kernel
theorem d_PC_choose_97 : decode prog_1_method_23_code 97 = .ok (.iload_n 1, 1) := by decide +kernel
theorem d_PC_choose_98 : decode prog_1_method_23_code 98 = .ok (.iload_n 2, 1) := by decide +kernel
theorem d_PC_choose_99 : decode prog_1_method_23_code 99 = .ok (.invokevirtual 216, 3) := by decide +kernel
theorem d_PC_choose_102 : decode prog_1_method_23_code 102 = .ok (.iconst 0, 1) := by decide +kernel
theorem d_PC_choose_103 : decode prog_1_method_23_code 103 = .ok (.istore 7, 2) := by decide +kernel
theorem d_PC_choose_105 : decode prog_1_method_23_code 105 = .ok (.iload 7, 2) := by decide +kernel
theorem d_PC_choose_107 : decode prog_1_method_23_code 107 = .ok (.iload_n 1, 1) := by decide +kernel
theorem d_PC_choose_108 : decode prog_1_method_23_code 108 = .ok (.if_icmp .ge 39, 3) := by decide +kernel
theorem d_PC_choose_111 : decode prog_1_method_23_code 111 = .ok (.new 9, 3) := by decide +kernel
theorem d_PC_choose_114 : decode prog_1_method_23_code 114 = .ok (.dup, 1) := by decide +kernel
theorem d_PC_choose_115 : decode prog_1_method_23_code 115 = .ok (.bipush 64, 2) := by decide +kernel
theorem d_PC_choose_117 : decode prog_1_method_23_code 117 = .ok (.invokespecial 80, 3) := by decide +kernel
theorem d_PC_choose_120 : decode prog_1_method_23_code 120 = .ok (.astore 8, 2) := by decide +kernel
theorem d_PC_choose_122 : decode prog_1_method_23_code 122 = .ok (.aload_n 0, 1) := by decide +kernel
theorem d_PC_choose_123 : decode prog_1_method_23_code 123 = .ok (.aload 8, 2) := by decide +kernel
theorem d_PC_choose_125 : decode prog_1_method_23_code 125 = .ok (.invokevirtual 83, 3) := by decide +kernel
theorem d_PC_choose_128 : decode prog_1_method_23_code 128 = .ok (.pop, 1) := by decide +kernel
theorem d_PC_choose_129 : decode prog_1_method_23_code 129 = .ok (.aload_n 0, 1) := by decide +kernel
theorem d_PC_choose_130 : decode prog_1_method_23_code 130 = .ok (.getfield 63, 3) := by decide +kernel
theorem d_PC_choose_133 : decode prog_1_method_23_code 133 = .ok (.getfield 219, 3) := by decide +kernel
theorem d_PC_choose_136 : decode prog_1_method_23_code 136 = .ok (.iload 7, 2) := by decide +kernel
theorem d_PC_choose_138 : decode prog_1_method_23_code 138 = .ok (.aload 8, 2) := by decide +kernel
theorem d_PC_choose_140 : decode prog_1_method_23_code 140 = .ok (.aastore, 1) := by decide +kernel
theorem d_PC_choose_141 : decode prog_1_method_23_code 141 = .ok (.iinc 7 1, 3) := by decide +kernel
theorem d_PC_choose_144 : decode prog_1_method_23_code 144 = .ok (.goto (-39), 3) := by decide +kernel
theorem d_PC_choose_147 : decode prog_1_method_23_code 147 = .ok (.aload_n 0, 1) := by decide +kernel
theorem d_PC_choose_148 : decode prog_1_method_23_code 148 = .ok (.getfield 63, 3) := by decide +kernel
theorem d_PC_choose_151 : decode prog_1_method_23_code 151 = .ok (.aload_n 0, 1) := by decide +kernel
theorem d_PC_choose_152 : decode prog_1_method_23_code 152 = .ok (.getfield 33, 3) := by decide +kernel
theorem d_PC_choose_155 : decode prog_1_method_23_code 155 = .ok (.iload_n 3, 1) := by decide +kernel
theorem d_PC_choose_156 : decode prog_1_method_23_code 156 = .ok (.iload 4, 2) := by decide +kernel
theorem d_PC_choose_158 : decode prog_1_method_23_code 158 = .ok (.invokevirtual 220, 3) := by decide +kernel
theorem d_PC_choose_161 : decode prog_1_method_23_code 161 = .ok (.iload 6, 2) := by decide +kernel
theorem d_PC_choose_163 : decode prog_1_method_23_code 163 = .ok (.ireturn, 1) := by decide +kernel
set_option maxHeartbeats 4000000 in
set_option maxRecDepth 100000 in
theorem c_PC_choose (l : Launch) (D : va_G) (aC : Nat → ClassId) (A : Nat → Prop) (ad : Nat → Nat → Nat) (n : Nat) (σ : St) (a1 : Int32) (a2 : Int32) (a3 : Int32) (a4 : Int32) (o : St × Int32) (h : f_PC_choose σ a1 a2 a3 a4 = some o) : Met l y_PC_choose w_PC_choose rmA_PC_choose (va_Pc [.ref (ad 0 0), .int a1, .int a2, .int a3, .int a4] (PreA D aC A ad n σ)) (va_Qi (fun r (_ : Nat → Nat → Nat) => r = o.2) (fun u t => HoldA D aC A ad n u o.1 t.heap) A) 42 1506 A := by
  refine Met.ofW (cc := prog_1_method_23_code) (maxL := 9) (ret := (some .int)) (by decide) rfl ?_
  intro p e s m args below meth c s₁ B hml hv
  obtain ⟨hargs, ⟨hH, hK, hZ⟩, hA⟩ := hv
  have hx := B.exec
  have hb := B.bytes
  have hr := B.returns
  have hts := atoms_spec (ws := w_PC_choose) B.pre
  have hg : ∀ w ∈ gW, w.before args s = true := fun w h => hts w (List.mem_cons_of_mem _ h)
  have hown : s.vm.findClass "PrefixCodes" = some m.cls := findClass_of_methodNamed B.named
  have hlocks := B.notSynchronized
  have hS : va_S A s.heap s.heap [] := va_S.rf
  have hl := lv_entry ([.ref (ad 0 0), .int a1, .int a2, .int a3, .int a4]) (n := 9) (Nat.le_of_ble_eq_true rfl)
  rw [show entryFrame m args 9 = entryFrame m (([.ref (ad 0 0), .int a1, .int a2, .int a3, .int a4] : List Value).toArray) 9 by rw [hargs], lg_entry_eq]
  generalize (lg_sl ([.ref (ad 0 0), .int a1, .int a2, .int a3, .int a4]) ++ List.replicate (9 - (lg_sl ([.ref (ad 0 0), .int a1, .int a2, .int a3, .int a4])).length) Slot.unset).toArray = ls at hl ⊢
  have hl : lv_has ls 9 [(0, .ref (ad 0 0)), (1, .int a1), (2, .int a2), (3, .int a3), (4, .int a4)] := hl
  generalize hQ0 : MQ below (va_Qi (fun r (_ : Nat → Nat → Nat) => r = o.2) (fun u t => HoldA D aC A ad n u o.1 t.heap) A) args s 42 1506 A = Q0
  unfold f_PC_choose at h
  refine lv_iload_n hx hb d_PC_choose_0 rfl (lv_at hl 1 rfl) ?_
  refine lv_iconst (v := 1) hx hb d_PC_choose_1 (by decide) ?_
  refine lv_bipush (v := 6) hx hb d_PC_choose_2 (by decide) ?_
  obtain ⟨qc, hc4, h⟩ := b2_some h
  obtain ⟨σ1, x2⟩ := qc
  have h := b2_at h
  refine st_Si (As := [.int a1, .int 1, .int 6]) (rest := []) ⟨hx, hb, hml, hown, hg⟩ (c_PC_isOutside l D aC A ad n _ a1 1 6 _ hc4) (cwGS hg wd_2 wd_3 wd_5 wd_4 yd_PC_isOutside ⟨Nat.le_of_ble_eq_true rfl, Nat.le_of_ble_eq_true rfl⟩) hK hH hS hZ rfl hl.1 rfl (Nat.le_of_ble_eq_true rfl) d_PC_choose_4 ⟨Nat.zero_le _, Nat.zero_le _⟩ (fun H locs hH hS => ?_)
  refine lv_if_ne (tgt := 41) hx hb d_PC_choose_7 (by decide) (fun c7 => ?_) (fun c7 => ?_)
  · have h := ie h c7
    refine lv_bipush (v := (-102)) hx hb d_PC_choose_41 (by decide) ?_
    cases h
    rw [← hQ0]
    exact W.widen (k := 42) (n := 1506) (by decide) (by decide) (W.iret hx hb hr (fun t ht hW => ⟨⟨_, ad, rfl, rfl, by dsimp only; rw [ht]; exact ⟨by rw [hH.2.2.2.2]; exact hH, fun _ _ _ => rfl⟩⟩, hS.F ht⟩) hS.2.2 d_PC_choose_43)
  · have h := it h c7
    refine lv_iload_n hx hb d_PC_choose_10 rfl (lv_at hl 2 rfl) ?_
    refine lv_iconst (v := 1) hx hb d_PC_choose_11 (by decide) ?_
    refine lv_bipush (v := 100) hx hb d_PC_choose_12 (by decide) ?_
    obtain ⟨qc, hc14, h⟩ := b2_some h
    obtain ⟨σ3, x4⟩ := qc
    have h := b2_at h
    refine st_Si (As := [.int a2, .int 1, .int 100]) (rest := []) ⟨hx, hb, hml, hown, hg⟩ (c_PC_isOutside l D aC A ad n _ a2 1 100 _ hc14) (cwGS hg wd_2 wd_3 wd_5 wd_4 yd_PC_isOutside ⟨Nat.le_of_ble_eq_true rfl, Nat.le_of_ble_eq_true rfl⟩) hK hH hS hZ rfl hl.1 rfl (Nat.le_of_ble_eq_true rfl) d_PC_choose_14 ⟨Nat.zero_le _, Nat.zero_le _⟩ (fun H locs hH hS => ?_)
    refine lv_if_ne (tgt := 41) hx hb d_PC_choose_17 (by decide) (fun c17 => ?_) (fun c17 => ?_)
    · have h := ie h c17
      refine lv_bipush (v := (-102)) hx hb d_PC_choose_41 (by decide) ?_
      cases h
      rw [← hQ0]
      exact W.widen (k := 42) (n := 1506) (by decide) (by decide) (W.iret hx hb hr (fun t ht hW => ⟨⟨_, ad, rfl, rfl, by dsimp only; rw [ht]; exact ⟨by rw [hH.2.2.2.2]; exact hH, fun _ _ _ => rfl⟩⟩, hS.F ht⟩) hS.2.2 d_PC_choose_43)
    · have h := it h c17
      refine lv_iload_n hx hb d_PC_choose_20 rfl (lv_at hl 3 rfl) ?_
      refine lv_iconst (v := 1) hx hb d_PC_choose_21 (by decide) ?_
      refine lv_bipush (v := 15) hx hb d_PC_choose_22 (by decide) ?_
      obtain ⟨qc, hc24, h⟩ := b2_some h
      obtain ⟨σ5, x6⟩ := qc
      have h := b2_at h
      refine st_Si (As := [.int a3, .int 1, .int 15]) (rest := []) ⟨hx, hb, hml, hown, hg⟩ (c_PC_isOutside l D aC A ad n _ a3 1 15 _ hc24) (cwGS hg wd_2 wd_3 wd_5 wd_4 yd_PC_isOutside ⟨Nat.le_of_ble_eq_true rfl, Nat.le_of_ble_eq_true rfl⟩) hK hH hS hZ rfl hl.1 rfl (Nat.le_of_ble_eq_true rfl) d_PC_choose_24 ⟨Nat.zero_le _, Nat.zero_le _⟩ (fun H locs hH hS => ?_)
      refine lv_if_ne (tgt := 41) hx hb d_PC_choose_27 (by decide) (fun c27 => ?_) (fun c27 => ?_)
      · have h := ie h c27
        refine lv_bipush (v := (-102)) hx hb d_PC_choose_41 (by decide) ?_
        cases h
        rw [← hQ0]
        exact W.widen (k := 42) (n := 1506) (by decide) (by decide) (W.iret hx hb hr (fun t ht hW => ⟨⟨_, ad, rfl, rfl, by dsimp only; rw [ht]; exact ⟨by rw [hH.2.2.2.2]; exact hH, fun _ _ _ => rfl⟩⟩, hS.F ht⟩) hS.2.2 d_PC_choose_43)
      · have h := it h c27
        refine lv_iload hx hb d_PC_choose_30 (lv_at hl 4 rfl) ?_
        refine lv_iconst (v := 0) hx hb d_PC_choose_32 (by decide) ?_
        refine lv_bipush (v := 8) hx hb d_PC_choose_33 (by decide) ?_
        obtain ⟨qc, hc35, h⟩ := b2_some h
        obtain ⟨σ7, x8⟩ := qc
        have h := b2_at h
        refine st_Si (As := [.int a4, .int 0, .int 8]) (rest := []) ⟨hx, hb, hml, hown, hg⟩ (c_PC_isOutside l D aC A ad n _ a4 0 8 _ hc35) (cwGS hg wd_2 wd_3 wd_5 wd_4 yd_PC_isOutside ⟨Nat.le_of_ble_eq_true rfl, Nat.le_of_ble_eq_true rfl⟩) hK hH hS hZ rfl hl.1 rfl (Nat.le_of_ble_eq_true rfl) d_PC_choose_35 ⟨Nat.zero_le _, Nat.zero_le _⟩ (fun H locs hH hS => ?_)
        refine lv_if_eq (tgt := 44) hx hb d_PC_choose_38 (by decide) (fun c38 => ?_) (fun c38 => ?_)
        · have h := it h c38
          refine lv_aload_n hx hb d_PC_choose_44 rfl (lv_at hl 0 rfl) ?_
          refine st_get hx hb hg hown hK hH (f := 0) (i := 0) hd_0 rfl rfl u_PC 7 (by decide) (hg _ wd_71) (v := .ref (ad 26 0)) rfl d_PC_choose_45 ?_
          obtain ⟨qc, hc48, h⟩ := b2_some h
          obtain ⟨σ9, x10⟩ := qc
          have h := b2_at h
          refine st_Vi (As := []) (rest := []) ⟨hx, hb, hml, hown, hg⟩ (c_Text_different l D aC A ad n _  _ hc48) (cwG hg we_86 we_87 we_88 we_89 wd_74 yd_Text_different ⟨Nat.le_of_ble_eq_true rfl, Nat.le_of_ble_eq_true rfl⟩) hK hH hS hZ hd_26 rfl rfl rfl hl.1 rfl (Nat.le_of_ble_eq_true rfl) d_PC_choose_48 ⟨Nat.zero_le _, Nat.zero_le _⟩ (fun H locs hH hS => ?_)
          refine lv_istore (lv' := [(5, .int x10), (0, .ref (ad 0 0)), (1, .int a1), (2, .int a2), (3, .int a3), (4, .int a4)]) hx hb d_PC_choose_51 hl (by decide) rfl (fun ls hl => ?_)
          refine lv_iload hx hb d_PC_choose_53 (lv_at hl 0 rfl) ?_
          refine lv_if_eq (tgt := 66) hx hb d_PC_choose_55 (by decide) (fun c55 => ?_) (fun c55 => ?_)
          · have h := it h c55
            refine lv_bipush (v := (-103)) hx hb d_PC_choose_66 (by decide) ?_
            cases h
            rw [← hQ0]
            exact W.widen (k := 42) (n := 1506) (by decide) (by decide) (W.iret hx hb hr (fun t ht hW => ⟨⟨_, ad, rfl, rfl, by dsimp only; rw [ht]; exact ⟨by rw [hH.2.2.2.2]; exact hH, fun _ _ _ => rfl⟩⟩, hS.F ht⟩) hS.2.2 d_PC_choose_68)
          · have h := ie h c55
            refine lv_iload hx hb d_PC_choose_58 (lv_at hl 0 rfl) ?_
            refine lv_iconst (v := 1) hx hb d_PC_choose_60 (by decide) ?_
            refine lv_iload_n hx hb d_PC_choose_61 rfl (lv_at hl 4 rfl) ?_
            refine lv_ishl hx hb d_PC_choose_62 ?_
            refine lv_icmp_le (tgt := 69) hx hb d_PC_choose_63 (by decide) (fun c63 => ?_) (fun c63 => ?_)
            · have h := it h c63
              refine lv_iload_n hx hb d_PC_choose_69 rfl (lv_at hl 2 rfl) ?_
              refine lv_bipush (v := 12) hx hb d_PC_choose_70 (by decide) ?_
              refine lv_aload_n hx hb d_PC_choose_72 rfl (lv_at hl 1 rfl) ?_
              refine st_get hx hb hg hown hK hH (f := 0) (i := 0) hd_0 rfl rfl u_PC 1 (by decide) (hg _ wd_0) (v := .int (σ9.1 0 0 1)) rfl d_PC_choose_73 ?_
              refine lv_isub hx hb d_PC_choose_76 ?_
              refine lv_icmp_le (tgt := 83) hx hb d_PC_choose_77 (by decide) (fun c77 => ?_) (fun c77 => ?_)
              · have h := it h c77
                refine lv_aload_n hx hb d_PC_choose_83 rfl (lv_at hl 1 rfl) ?_
                refine st_get hx hb hg hown hK hH (f := 0) (i := 0) hd_0 rfl rfl u_PC 1 (by decide) (hg _ wd_0) (v := .int (σ9.1 0 0 1)) rfl d_PC_choose_84 ?_
                refine lv_topi (fun x11 ex11 => ?_)
                have h := nm_at ex11 h
                refine lv_istore (lv' := [(6, .int x11), (5, .int x10), (0, .ref (ad 0 0)), (1, .int a1), (2, .int a2), (3, .int a3), (4, .int a4)]) hx hb d_PC_choose_87 hl (by decide) rfl (fun ls hl => ?_)
                refine lv_aload_n hx hb d_PC_choose_89 rfl (lv_at hl 2 rfl) ?_
                refine st_get hx hb hg hown hK hH (f := 0) (i := 0) hd_0 rfl rfl u_PC 8 (by decide) (hg _ wd_363) (v := .ref (ad 30 0)) rfl d_PC_choose_90 ?_
                refine lv_aload_n hx hb d_PC_choose_93 rfl (lv_at hl 2 rfl) ?_
                refine st_get hx hb hg hown hK hH (f := 0) (i := 0) hd_0 rfl rfl u_PC 7 (by decide) (hg _ wd_71) (v := .ref (ad 26 0)) rfl d_PC_choose_94 ?_
                refine lv_iload_n hx hb d_PC_choose_97 rfl (lv_at hl 3 rfl) ?_
                refine lv_iload_n hx hb d_PC_choose_98 rfl (lv_at hl 4 rfl) ?_
                obtain ⟨qc, hc99, h⟩ := b1_some h
                obtain ⟨σ12, rfl⟩ : ∃ z, z = qc := ⟨_, rfl⟩
                have h := b1_at h
                refine st_Vv (As := [.ref (ad 26 0), .int a1, .int a2]) (rest := []) ⟨hx, hb, hml, hown, hg⟩ (c_Choice_begin l D aC A ad n _ a1 a2 _ hc99) (cwG hg we_90 we_91 we_92 we_93 wd_341 yd_Choice_begin ⟨Nat.le_of_ble_eq_true rfl, Nat.le_of_ble_eq_true rfl⟩) hK hH hS hZ hd_30 rfl rfl rfl hl.1 rfl (Nat.le_of_ble_eq_true rfl) d_PC_choose_99 ⟨Nat.zero_le _, Nat.zero_le _⟩ (fun H locs hH hS => ?_)
                refine lv_iconst (v := 0) hx hb d_PC_choose_102 (by decide) ?_
                refine lv_istore (lv' := [(7, .int 0), (6, .int x11), (5, .int x10), (0, .ref (ad 0 0)), (1, .int a1), (2, .int a2), (3, .int a3), (4, .int a4)]) hx hb d_PC_choose_103 hl (by decide) rfl (fun ls hl => ?_)
                obtain ⟨q1, hq1, h⟩ := b2_some h
                have K1 : ∀ (ad1 : Nat → Nat → Nat) (n1 v : Nat) (σ19 : St) (x20 : Int32) (H : Heap) (locs : List Loc) (ls : Array Slot), v ≤ 6 → (∀ f i, dm n f i → ad1 f i = ad f i) → q1 = (σ19, x20) → Hold D aC A ad1 n1 σ19 H → va_S A s.heap H locs → lv_has ls 9 [(0, .ref (ad1 0 0)), (1, .int a1), (3, .int a3), (4, .int a4), (6, .int x11), (7, .int x20)] → W p l e (headSpec w_PC_choose rmA_PC_choose).room s m args below meth c H locs (7 * v) (251 * v) Q0 (F0 m 147 ls []) := by
                  intro ad1 n1 v σ19 x20 H locs ls hv6 hx0 eq1 hH hS hl
                  subst eq1
                  have h := b2_at h
                  refine lv_aload_n hx hb d_PC_choose_147 rfl (lv_at hl 0 rfl) ?_
                  refine st_get hx hb hg hown hK hH (f := 0) (i := 0) hd_0 rfl rfl u_PC 8 (by decide) (hg _ wd_363) (v := .ref (ad1 30 0)) rfl d_PC_choose_148 ?_
                  refine lv_aload_n hx hb d_PC_choose_151 rfl (lv_at hl 0 rfl) ?_
                  refine st_get hx hb hg hown hK hH (f := 0) (i := 0) hd_0 rfl rfl u_PC 4 (by decide) (hg _ we_46) (v := .ref (ad1 5 0)) rfl d_PC_choose_152 ?_
                  refine lv_iload_n hx hb d_PC_choose_155 rfl (lv_at hl 2 rfl) ?_
                  refine lv_iload hx hb d_PC_choose_156 (lv_at hl 3 rfl) ?_
                  obtain ⟨qc, hc158, h⟩ := b1_some h
                  obtain ⟨σ21, rfl⟩ : ∃ z, z = qc := ⟨_, rfl⟩
                  have h := b1_at h
                  refine st_Vv (As := [.ref (ad1 5 0), .int a3, .int a4]) (rest := []) ⟨hx, hb, hml, hown, hg⟩ (c_Choice_settle l D aC A ad1 n1 _ a3 a4 _ hc158) (cwG hg we_94 we_95 we_96 we_97 wd_341 yd_Choice_settle ⟨Nat.le_of_ble_eq_true rfl, Nat.le_of_ble_eq_true rfl⟩) hK hH hS hZ hd_30 rfl rfl rfl hl.1 rfl (Nat.le_of_ble_eq_true rfl) d_PC_choose_158 ⟨by show 7 * v ≤ 42; omega, by show 251 * v ≤ 1506; omega⟩ (fun H locs hH hS => ?_)
                  refine lv_iload hx hb d_PC_choose_161 (lv_at hl 4 rfl) ?_
                  cases h
                  rw [← hQ0]
                  exact W.widen (k := 42) (n := 1506) (by omega) (by omega) (W.iret hx hb hr (fun t ht hW => ⟨⟨_, ad1, rfl, rfl, by dsimp only; rw [ht]; exact ⟨by rw [hH.2.2.2.2]; exact hH, hx0⟩⟩, hS.F ht⟩) hS.2.2 d_PC_choose_163)
                have loop1 : ∀ (k : Nat) (ad1 : Nat → Nat → Nat) (n1 v : Nat) (σ : St) (v7 : Int32) (H : Heap) (locs : List Loc) (ls : Array Slot), v7 = nI v → v ≤ 6 → n ≤ n1 → (∀ f i, dm n f i → ad1 f i = ad f i) → Hold D aC A ad1 n1 σ H → va_S A s.heap H locs → lv_has ls 9 [(0, .ref (ad1 0 0)), (1, .int a1), (3, .int a3), (4, .int a4), (6, .int x11), (7, .int v7)] → lp (fun q => lb_PC_choose_105 a1 a3 a4 x11 q.1 q.2) k (σ, v7) = some q1 → W p l e (headSpec w_PC_choose rmA_PC_choose).room s m args below meth c H locs (7 * v) (251 * v) Q0 (F0 m 105 ls []) := by
                  intro k
                  induction k with
                  | zero => intro ad1 n1 v σ v7 H locs ls hv7 hv6 hnn hx0 hH hS hl hlp; exact absurd hlp (lp_zero _ _ _)
                  | succ k ih1 =>
                    intro ad1 n1 v σ v7 H locs ls hv7 hv6 hnn hx0 hH hS hl hlp
                    obtain ⟨z1, h1, hk1⟩ := lp_succ hlp
                    have h1 : lb_PC_choose_105 a1 a3 a4 x11 σ v7 = some z1 := h1
                    unfold lb_PC_choose_105 at h1
                    refine lv_iload hx hb d_PC_choose_105 (lv_at hl 5 rfl) ?_
                    refine lv_iload_n hx hb d_PC_choose_107 rfl (lv_at hl 1 rfl) ?_
                    refine lv_icmp_ge (tgt := 147) hx hb d_PC_choose_108 (by decide) (fun c108 => ?_) (fun c108 => ?_)
                    · have h1 := it h1 c108
                      cases h1
                      exact K1 ad1 n1 v σ v7 _ _ ls hv6 hx0 (Option.some.inj hk1).symm hH hS (lv_sub hl [0, 1, 2, 3, 4, 5] rfl)
                    · have h1 := ie h1 c108
                      have hib : ib v7 6 := by
                        obtain ⟨-, hh⟩ := gd_some h1
                        have hh := nm_at rfl (nm_at rfl hh)
                        obtain ⟨qc, -, hh⟩ := b2_some hh
                        obtain ⟨qa, qb⟩ := qc
                        exact (gd_some (b2_at hh)).1
                      have hv5 : v ≤ 5 := by
                        rw [hv7] at hib
                        have hz := Nat.not_le.mp (fun z => hib (Or.inr z))
                        rw [nI_cl (by omega)] at hz
                        omega
                      obtain ⟨hn12, h1⟩ := gd_some h1
                      rw [hH.2.2.2.2] at hn12
                      obtain ⟨j13, ej13⟩ : ∃ z, z = σ.2.2.2 := ⟨_, rfl⟩
                      have h1 := nm_at ej13 h1
                      obtain ⟨σ14, eσ14⟩ : ∃ z, z = nC σ 64 := ⟨_, rfl⟩
                      have h1 := nm_at eσ14 h1
                      have hjj13 : j13 = n1 := ej13.trans hH.2.2.2.2
                      refine st_new41 hx hb hg hown (hg _ we_37) (hg _ we_14) (hg _ wd_29) hK hH hS (by show 7 * v + 1 ≤ 42; omega) (by show 251 * v + 11 ≤ 1506; omega) d_PC_choose_111 (fun qn H hsq hlt hqn hH hS => ?_)
                      refine lv_dup hx hb d_PC_choose_114 rfl ?_
                      refine lv_bipush (v := 64) hx hb d_PC_choose_115 (by decide) ?_
                      refine st_initC (rest := []) ⟨hx, hb, hml, hown, hg⟩ (cwGI hg we_15 we_69 we_17 wd_29 rfl yd_Code_init ⟨Nat.le_of_ble_eq_true rfl, Nat.le_of_ble_eq_true rfl⟩) hK hH hn12 hlt hqn hsq hA hS hl.1 (Nat.le_of_ble_eq_true rfl) d_PC_choose_117 ⟨by show 7 * v + 1 + 6 ≤ 42; omega, by show 251 * v + 11 + 240 ≤ 1506; omega⟩ (fun ad2 H locs hx1 hH hS => ?_)
                      rw [← eσ14] at hH
                      have hdj13 : dm (n1 + 1) 41 j13 := by rw [hjj13]; exact dm_new (by decide) (by decide)
                      rw [show ad2 41 n1 = ad2 41 j13 by rw [hjj13]]
                      rw [← hx1 0 0 hd_0] at hl
                      refine lv_astore (lv' := [(8, .ref (ad2 41 j13)), (0, .ref (ad2 0 0)), (1, .int a1), (3, .int a3), (4, .int a4), (6, .int x11), (7, .int v7)]) hx hb d_PC_choose_120 hl (by decide) rfl (fun ls hl => ?_)
                      refine lv_aload_n hx hb d_PC_choose_122 rfl (lv_at hl 1 rfl) ?_
                      refine lv_aload hx hb d_PC_choose_123 (lv_at hl 0 rfl) ?_
                      obtain ⟨qc, hc125, h1⟩ := b2_some h1
                      obtain ⟨σ15, x16⟩ := qc
                      have h1 := b2_at h1
                      refine st_Vi (As := [.ref (ad2 41 j13)]) (rest := []) ⟨hx, hb, hml, hown, hg⟩ (c_PC_keep l D aC A ad2 (n1 + 1) _ j13 hdj13 _ hc125) (cwG hg we_70 we_71 we_72 we_73 wd_4 yd_PC_keep ⟨Nat.le_of_ble_eq_true rfl, Nat.le_of_ble_eq_true rfl⟩) hK hH hS hZ hd_0 rfl rfl rfl hl.1 rfl (Nat.le_of_ble_eq_true rfl) d_PC_choose_125 ⟨by show 7 * v + 1 + 6 ≤ 42; omega, by show 251 * v + 11 + 240 ≤ 1506; omega⟩ (fun H locs hH hS => ?_)
                      refine lv_pop hx hb d_PC_choose_128 rfl ?_
                      refine lv_aload_n hx hb d_PC_choose_129 rfl (lv_at hl 1 rfl) ?_
                      refine st_get hx hb hg hown hK hH (f := 0) (i := 0) hd_0 rfl rfl u_PC 8 (by decide) (hg _ wd_363) (v := .ref (ad2 30 0)) rfl d_PC_choose_130 ?_
                      refine st_get hx hb hg hown hK hH (f := 30) (i := 0) hd_30 rfl rfl u_Choice 5 (by decide) (hg _ we_85) (v := .ref (ad2 33 0)) rfl d_PC_choose_133 ?_
                      refine lv_iload hx hb d_PC_choose_136 (lv_at hl 6 rfl) ?_
                      refine lv_aload hx hb d_PC_choose_138 (lv_at hl 0 rfl) ?_
                      obtain ⟨g140, h1⟩ := gd_some h1
                      refine st_aast hx hb hK hH hS (f := 33) (i := 0) hd_33 rfl rfl hdj13 g140 d_PC_choose_140 (fun σ17 H locs eσ17 hH hS => ?_)
                      have h1 := nm_at eσ17 h1
                      obtain ⟨x18, ex18⟩ : ∃ y : Int32, y = v7 + 1 := ⟨_, rfl⟩
                      have h1 := nm_at ex18 h1
                      refine lv_iinc (v := x18) (lv' := [(7, .int x18), (8, .ref (ad2 41 j13)), (0, .ref (ad2 0 0)), (1, .int a1), (3, .int a3), (4, .int a4), (6, .int x11)]) hx hb d_PC_choose_141 hl (k := 6) rfl (by rw [ex18]; rfl) (by decide) rfl (fun ls hl => ?_)
                      refine lv_goto (tgt := 105) hx hb d_PC_choose_144 (by decide) ?_
                      cases h1
                      refine W.widen (k := 7 * (v + 1)) (n := 251 * (v + 1)) (by omega) (by omega) ?_
                      exact ih1 ad2 (n1 + 1) (v + 1) σ17 x18 _ _ ls (by rw [ex18, hv7, nI_1]) (by omega) (by omega) (fun f i hd => (hx1 f i (dm_le hnn hd)).trans (hx0 f i hd)) hH hS (lv_sub hl [2, 3, 4, 5, 6, 0] rfl) hk1
                obtain ⟨k1, hq1⟩ := lpE_some hq1
                exact loop1 k1 ad n 0 σ12 0 _ _ ls rfl (by omega) (Nat.le_refl _) (fun _ _ _ => rfl) hH hS (lv_sub hl [3, 4, 6, 7, 1, 0] rfl) hq1
              · have h := ie h c77
                refine lv_bipush (v := (-106)) hx hb d_PC_choose_80 (by decide) ?_
                cases h
                rw [← hQ0]
                exact W.widen (k := 42) (n := 1506) (by decide) (by decide) (W.iret hx hb hr (fun t ht hW => ⟨⟨_, ad, rfl, rfl, by dsimp only; rw [ht]; exact ⟨by rw [hH.2.2.2.2]; exact hH, fun _ _ _ => rfl⟩⟩, hS.F ht⟩) hS.2.2 d_PC_choose_82)
            · have h := ie h c63
              refine lv_bipush (v := (-103)) hx hb d_PC_choose_66 (by decide) ?_
              cases h
              rw [← hQ0]
              exact W.widen (k := 42) (n := 1506) (by decide) (by decide) (W.iret hx hb hr (fun t ht hW => ⟨⟨_, ad, rfl, rfl, by dsimp only; rw [ht]; exact ⟨by rw [hH.2.2.2.2]; exact hH, fun _ _ _ => rfl⟩⟩, hS.F ht⟩) hS.2.2 d_PC_choose_68)
        · have h := ie h c38
          refine lv_bipush (v := (-102)) hx hb d_PC_choose_41 (by decide) ?_
          cases h
          rw [← hQ0]
          exact W.widen (k := 42) (n := 1506) (by decide) (by decide) (W.iret hx hb hr (fun t ht hW => ⟨⟨_, ad, rfl, rfl, by dsimp only; rw [ht]; exact ⟨by rw [hH.2.2.2.2]; exact hH, fun _ _ _ => rfl⟩⟩, hS.F ht⟩) hS.2.2 d_PC_choose_43)

