theorem we_0 : (Cond.methodLink "PrefixCodes$Code" 3 ⟨"java/lang/Object", "<init>", "()V"⟩ : Cond) ∈ gW := List.mem_filter.mpr ⟨gt1 _ (List.mem_of_getElem? (i := 101) rfl), rfl⟩
theorem we_1 : (Cond.instanceMethod ⟨"java/lang/Object", "<init>", "()V"⟩ : Cond) ∈ gW := List.mem_filter.mpr ⟨gt1 _ (List.mem_of_getElem? (i := 26) rfl), rfl⟩
theorem we_2 : (Cond.code ⟨"java/lang/Object", "<init>", "()V"⟩ object_method_1_code 1 none : Cond) ∈ gW := List.mem_filter.mpr ⟨gt1 _ (List.mem_of_getElem? (i := 27) rfl), rfl⟩
theorem we_3 : (Cond.arrayClass .int : Cond) ∈ gW := List.mem_filter.mpr ⟨gt1 _ (List.mem_of_getElem? (i := 53) rfl), rfl⟩
theorem we_4 : (Cond.methodLink "PrefixCodes$Selectors" 3 ⟨"java/lang/Object", "<init>", "()V"⟩ : Cond) ∈ gW := List.mem_filter.mpr ⟨gt2 _ (List.mem_of_getElem? (i := 23) rfl), rfl⟩
theorem we_5 : (Cond.methodLink "PrefixCodes$Stream" 3 ⟨"java/lang/Object", "<init>", "()V"⟩ : Cond) ∈ gW := List.mem_filter.mpr ⟨gt1 _ (List.mem_of_getElem? (i := 35) rfl), rfl⟩
theorem we_6 : (Cond.methodLink "PrefixCodes$Table" 3 ⟨"java/lang/Object", "<init>", "()V"⟩ : Cond) ∈ gW := List.mem_filter.mpr ⟨gt1 _ (List.mem_of_getElem? (i := 194) rfl), rfl⟩
theorem we_7 : (Cond.methodLink "PrefixCodes$Text" 3 ⟨"java/lang/Object", "<init>", "()V"⟩ : Cond) ∈ gW := List.mem_filter.mpr ⟨gt1 _ (List.mem_of_getElem? (i := 232) rfl), rfl⟩
def y_Code_init : MethodName := ⟨"PrefixCodes$Code", "<init>", "(I)V"⟩
abbrev w_Code_init : List Cond := Cond.code ⟨"PrefixCodes$Code", "<init>", "(I)V"⟩ prog_3_method_1_code 2 none :: gW
abbrev rm_Code_init : Room := { frames := 1, cells := 6, slots := 240, locals := 16 }
theorem yd_Code_init : (⟨"PrefixCodes$Code", "<init>", "(I)V"⟩ : MethodName).cls = "PrefixCodes$Code" ∧ (⟨"PrefixCodes$Code", "<init>", "(I)V"⟩ : MethodName).cls ≠ "java/lang/invoke/MethodHandle" ∧ (⟨"PrefixCodes$Code", "<init>", "(I)V"⟩ : MethodName).cls ≠ "java/lang/invoke/VarHandle" ∧ (parseMethodDescriptor (⟨"PrefixCodes$Code", "<init>", "(I)V"⟩ : MethodName).desc).map (fun d => d.parameters.length) = some 1 := by decide +kernel
theorem d_Code_init_0 : decode prog_3_method_1_code 0 = .ok (.aload_n 0, 1) := by decide +kernel
theorem d_Code_init_1 : decode prog_3_method_1_code 1 = .ok (.invokespecial 3, 3) := by decide +kernel
theorem d_Code_init_4 : decode prog_3_method_1_code 4 = .ok (.aload_n 0, 1) := by decide +kernel
theorem d_Code_init_5 : decode prog_3_method_1_code 5 = .ok (.bipush 64, 2) := by decide +kernel
theorem d_Code_init_7 : decode prog_3_method_1_code 7 = .ok (.newarray .int, 2) := by decide +kernel
theorem d_Code_init_9 : decode prog_3_method_1_code 9 = .ok (.putfield 9, 3) := by decide +kernel
theorem d_Code_init_12 : decode prog_3_method_1_code 12 = .ok (.aload_n 0, 1) := by decide +kernel
theorem d_Code_init_13 : decode prog_3_method_1_code 13 = .ok (.bipush 64, 2) := by decide +kernel
theorem d_Code_init_15 : decode prog_3_method_1_code 15 = .ok (.newarray .int, 2) := by decide +kernel
theorem d_Code_init_17 : decode prog_3_method_1_code 17 = .ok (.putfield 15, 3) := by decide +kernel
theorem d_Code_init_20 : decode prog_3_method_1_code 20 = .ok (.aload_n 0, 1) := by decide +kernel
theorem d_Code_init_21 : decode prog_3_method_1_code 21 = .ok (.bipush 64, 2) := by decide +kernel
theorem d_Code_init_23 : decode prog_3_method_1_code 23 = .ok (.newarray .int, 2) := by decide +kernel
theorem d_Code_init_25 : decode prog_3_method_1_code 25 = .ok (.putfield 18, 3) := by decide +kernel
theorem d_Code_init_28 : decode prog_3_method_1_code 28 = .ok (.aload_n 0, 1) := by decide +kernel
theorem d_Code_init_29 : decode prog_3_method_1_code 29 = .ok (.bipush 16, 2) := by decide +kernel
theorem d_Code_init_31 : decode prog_3_method_1_code 31 = .ok (.newarray .int, 2) := by decide +kernel
theorem d_Code_init_33 : decode prog_3_method_1_code 33 = .ok (.putfield 21, 3) := by decide +kernel
theorem d_Code_init_36 : decode prog_3_method_1_code 36 = .ok (.aload_n 0, 1) := by decide +kernel
theorem d_Code_init_37 : decode prog_3_method_1_code 37 = .ok (.bipush 16, 2) := by decide +kernel
theorem d_Code_init_39 : decode prog_3_method_1_code 39 = .ok (.newarray .int, 2) := by decide +kernel
theorem d_Code_init_41 : decode prog_3_method_1_code 41 = .ok (.putfield 24, 3) := by decide +kernel
theorem d_Code_init_44 : decode prog_3_method_1_code 44 = .ok (.aload_n 0, 1) := by decide +kernel
theorem d_Code_init_45 : decode prog_3_method_1_code 45 = .ok (.bipush 16, 2) := by decide +kernel
theorem d_Code_init_47 : decode prog_3_method_1_code 47 = .ok (.newarray .int, 2) := by decide +kernel
theorem d_Code_init_49 : decode prog_3_method_1_code 49 = .ok (.putfield 27, 3) := by decide +kernel
theorem d_Code_init_52 : decode prog_3_method_1_code 52 = .ok (.aload_n 0, 1) := by decide +kernel
theorem d_Code_init_53 : decode prog_3_method_1_code 53 = .ok (.iconst 0, 1) := by decide +kernel
theorem d_Code_init_54 : decode prog_3_method_1_code 54 = .ok (.putfield 30, 3) := by decide +kernel
theorem d_Code_init_57 : decode prog_3_method_1_code 57 = .ok (.aload_n 0, 1) := by decide +kernel
theorem d_Code_init_58 : decode prog_3_method_1_code 58 = .ok (.iconst 0, 1) := by decide +kernel
theorem d_Code_init_59 : decode prog_3_method_1_code 59 = .ok (.putfield 34, 3) := by decide +kernel
theorem d_Code_init_62 : decode prog_3_method_1_code 62 = .ok (.aload_n 0, 1) := by decide +kernel
theorem d_Code_init_63 : decode prog_3_method_1_code 63 = .ok (.iconst 0, 1) := by decide +kernel
theorem d_Code_init_64 : decode prog_3_method_1_code 64 = .ok (.putfield 37, 3) := by decide +kernel
theorem d_Code_init_67 : decode prog_3_method_1_code 67 = .ok (.aload_n 0, 1) := by decide +kernel
theorem d_Code_init_68 : decode prog_3_method_1_code 68 = .ok (.iconst 0, 1) := by decide +kernel
theorem d_Code_init_69 : decode prog_3_method_1_code 69 = .ok (.putfield 40, 3) := by decide +kernel
theorem d_Code_init_72 : decode prog_3_method_1_code 72 = .ok (.aload_n 0, 1) := by decide +kernel
theorem d_Code_init_73 : decode prog_3_method_1_code 73 = .ok (.iload_n 1, 1) := by decide +kernel
theorem d_Code_init_74 : decode prog_3_method_1_code 74 = .ok (.putfield 43, 3) := by decide +kernel
theorem d_Code_init_77 : decode prog_3_method_1_code 77 = .ok (.return_, 1) := by decide +kernel
def ws_Code (aC : Nat → ClassId) (h0 : Nat) (a1 : Int32) (q1 q2 q3 q4 q5 q6 : Nat) : va_W := [(h0, .inr (3, [.int a1, .ref q1, .ref q2, .ref q3, .ref q4, .ref q5, .ref q6, .int 0, .int 0, .int 0, .int 0])), (q1, .inl (aC 0, 64, .inl (fun _ => 0))), (q2, .inl (aC 0, 64, .inl (fun _ => 0))), (q3, .inl (aC 0, 64, .inl (fun _ => 0))), (q4, .inl (aC 0, 16, .inl (fun _ => 0))), (q5, .inl (aC 0, 16, .inl (fun _ => 0))), (q6, .inl (aC 0, 16, .inl (fun _ => 0)))]
set_option maxHeartbeats 4000000 in
set_option maxRecDepth 100000 in
theorem c_Code_init (l : Launch) (D : va_G) (aC : Nat → ClassId) (h0 sz : Nat) (a1 : Int32) : Met l y_Code_init w_Code_init rm_Code_init (va_Pc [.ref h0, .int a1] (cPre D aC sz [(h0, .inr (3, [.int 0, .null, .null, .null, .null, .null, .null, .int 0, .int 0, .int 0, .int 0]))])) (va_Qv (fun (_ : Nat × Nat × Nat × Nat × Nat × Nat) => True) (fun u t => va_P D vwCl (ws_Code aC h0 a1 (u.1) (u.2.1) (u.2.2.1) (u.2.2.2.1) (u.2.2.2.2.1) (u.2.2.2.2.2)) t.heap ∧ va_D (va_A [(h0, .inr (3, [.int 0, .null, .null, .null, .null, .null, .null, .int 0, .int 0, .int 0, .int 0]))] sz) (ws_Code aC h0 a1 (u.1) (u.2.1) (u.2.2.1) (u.2.2.2.1) (u.2.2.2.2.1) (u.2.2.2.2.2))) (va_A [(h0, .inr (3, [.int 0, .null, .null, .null, .null, .null, .null, .int 0, .int 0, .int 0, .int 0]))] sz)) 6 240 (va_A [(h0, .inr (3, [.int 0, .null, .null, .null, .null, .null, .null, .int 0, .int 0, .int 0, .int 0]))] sz) := by
  refine Met.ofW (cc := prog_3_method_1_code) (maxL := 2) (ret := none) (by decide) rfl ?_
  intro p e s m args below meth c s₁ B hml hv
  obtain ⟨hargs, hsz, hP, hK, hD0⟩ := hv
  have hx := B.exec
  have hb := B.bytes
  have hr := B.returns
  have hts := atoms_spec (ws := w_Code_init) B.pre
  have hg : ∀ w ∈ gW, w.before args s = true := fun w h => hts w (List.mem_cons_of_mem _ h)
  have hown : s.vm.findClass "PrefixCodes$Code" = some m.cls := findClass_of_methodNamed B.named
  have hlocks := B.notSynchronized
  have hin : meth.name = "<init>" := (name_of_methodNamed B.named B.method).1
  subst hsz
  have hD := hD0.self (sz := s.heap.size)
  generalize hAe : va_A [(h0, .inr (3, [.int 0, .null, .null, .null, .null, .null, .null, .int 0, .int 0, .int 0, .int 0]))] s.heap.size = A at hD ⊢
  have hA : ∀ q : Nat, s.heap.size ≤ q → A q := fun q h => by rw [← hAe]; exact Or.inr h
  have hS : va_S A s.heap s.heap [] := va_S.rf
  have hP : va_P D vwCl [(h0, .inr (3, [.int 0, .null, .null, .null, .null, .null, .null, .int 0, .int 0, .int 0, .int 0]))] s.heap := hP
  have hl := lv_entry ([.ref h0, .int a1]) (n := 2) (Nat.le_of_ble_eq_true rfl)
  rw [show entryFrame m args 2 = entryFrame m (([.ref h0, .int a1] : List Value).toArray) 2 by rw [hargs], lg_entry_eq]
  generalize (lg_sl ([.ref h0, .int a1]) ++ List.replicate (2 - (lg_sl ([.ref h0, .int a1])).length) Slot.unset).toArray = ls at hl ⊢
  have hl : lv_has ls 2 [(0, .ref h0), (1, .int a1)] := hl
  refine lv_aload_n hx hb d_Code_init_0 rfl (lv_at hl 0 rfl) ?_
  refine W.objInit hx hb hown (hg _ we_0) (hg _ we_1) (hg _ we_2) rfl (by rw [hml]; exact hl.1) rfl d_Code_init_1 (Nat.le_of_ble_eq_true rfl) (Nat.le_of_ble_eq_true rfl) ?_
  refine W.eq (g2 := F0 m 4 ls []) rfl ?_
  refine lv_aload_n hx hb d_Code_init_4 rfl (lv_at hl 0 rfl) ?_
  refine lv_bipush (v := 64) hx hb d_Code_init_5 (by decide) ?_
  refine ct_newI hx hb (hg _ we_3) hK hP hD hS hA (n := 64) (N := 64) (by decide) (by decide) (by decide) (Nat.le_of_ble_eq_true rfl) (Nat.le_of_ble_eq_true rfl) d_Code_init_7 (fun q1 H hP hD hS => ?_)
  have hP : va_P D vwCl [(h0, .inr (3, [.int 0, .null, .null, .null, .null, .null, .null, .int 0, .int 0, .int 0, .int 0])), (q1, .inl (aC 0, 64, .inl (fun _ => 0)))] H := hP
  have hD : va_D A [(h0, .inr (3, [.int 0, .null, .null, .null, .null, .null, .null, .int 0, .int 0, .int 0, .int 0])), (q1, .inl (aC 0, 64, .inl (fun _ => 0)))] := hD
  refine va_putF (D := D) (ci := 3) (v := .ref q1) (ty := .array .int) (C := "PrefixCodes$Code") (T := F_Code) (N := 11) hx hb hg u_Code t_Code t_Code_ok n_Code hown hK.1 hP hD hS 0 rfl rfl 1 (by decide) (hg _ wd_13) (fun _ h9 => h9) rfl hin rfl (by decide +kernel) rfl rfl (Nat.le_of_ble_eq_true rfl) d_Code_init_9 (fun H locs hP hD hS => ?_)
  have hP : va_P D vwCl [(h0, .inr (3, [.int 0, .ref q1, .null, .null, .null, .null, .null, .int 0, .int 0, .int 0, .int 0])), (q1, .inl (aC 0, 64, .inl (fun _ => 0)))] H := hP
  have hD : va_D A [(h0, .inr (3, [.int 0, .ref q1, .null, .null, .null, .null, .null, .int 0, .int 0, .int 0, .int 0])), (q1, .inl (aC 0, 64, .inl (fun _ => 0)))] := hD
  refine lv_aload_n hx hb d_Code_init_12 rfl (lv_at hl 0 rfl) ?_
  refine lv_bipush (v := 64) hx hb d_Code_init_13 (by decide) ?_
  refine ct_newI hx hb (hg _ we_3) hK hP hD hS hA (n := 64) (N := 64) (by decide) (by decide) (by decide) (Nat.le_of_ble_eq_true rfl) (Nat.le_of_ble_eq_true rfl) d_Code_init_15 (fun q2 H hP hD hS => ?_)
  have hP : va_P D vwCl [(h0, .inr (3, [.int 0, .ref q1, .null, .null, .null, .null, .null, .int 0, .int 0, .int 0, .int 0])), (q1, .inl (aC 0, 64, .inl (fun _ => 0))), (q2, .inl (aC 0, 64, .inl (fun _ => 0)))] H := hP
  have hD : va_D A [(h0, .inr (3, [.int 0, .ref q1, .null, .null, .null, .null, .null, .int 0, .int 0, .int 0, .int 0])), (q1, .inl (aC 0, 64, .inl (fun _ => 0))), (q2, .inl (aC 0, 64, .inl (fun _ => 0)))] := hD
  refine va_putF (D := D) (ci := 3) (v := .ref q2) (ty := .array .int) (C := "PrefixCodes$Code") (T := F_Code) (N := 11) hx hb hg u_Code t_Code t_Code_ok n_Code hown hK.1 hP hD hS 0 rfl rfl 2 (by decide) (hg _ wd_23) (fun _ h9 => h9) rfl hin rfl (by decide +kernel) rfl rfl (Nat.le_of_ble_eq_true rfl) d_Code_init_17 (fun H locs hP hD hS => ?_)
  have hP : va_P D vwCl [(h0, .inr (3, [.int 0, .ref q1, .ref q2, .null, .null, .null, .null, .int 0, .int 0, .int 0, .int 0])), (q1, .inl (aC 0, 64, .inl (fun _ => 0))), (q2, .inl (aC 0, 64, .inl (fun _ => 0)))] H := hP
  have hD : va_D A [(h0, .inr (3, [.int 0, .ref q1, .ref q2, .null, .null, .null, .null, .int 0, .int 0, .int 0, .int 0])), (q1, .inl (aC 0, 64, .inl (fun _ => 0))), (q2, .inl (aC 0, 64, .inl (fun _ => 0)))] := hD
  refine lv_aload_n hx hb d_Code_init_20 rfl (lv_at hl 0 rfl) ?_
  refine lv_bipush (v := 64) hx hb d_Code_init_21 (by decide) ?_
  refine ct_newI hx hb (hg _ we_3) hK hP hD hS hA (n := 64) (N := 64) (by decide) (by decide) (by decide) (Nat.le_of_ble_eq_true rfl) (Nat.le_of_ble_eq_true rfl) d_Code_init_23 (fun q3 H hP hD hS => ?_)
  have hP : va_P D vwCl [(h0, .inr (3, [.int 0, .ref q1, .ref q2, .null, .null, .null, .null, .int 0, .int 0, .int 0, .int 0])), (q1, .inl (aC 0, 64, .inl (fun _ => 0))), (q2, .inl (aC 0, 64, .inl (fun _ => 0))), (q3, .inl (aC 0, 64, .inl (fun _ => 0)))] H := hP
  have hD : va_D A [(h0, .inr (3, [.int 0, .ref q1, .ref q2, .null, .null, .null, .null, .int 0, .int 0, .int 0, .int 0])), (q1, .inl (aC 0, 64, .inl (fun _ => 0))), (q2, .inl (aC 0, 64, .inl (fun _ => 0))), (q3, .inl (aC 0, 64, .inl (fun _ => 0)))] := hD
  refine va_putF (D := D) (ci := 3) (v := .ref q3) (ty := .array .int) (C := "PrefixCodes$Code") (T := F_Code) (N := 11) hx hb hg u_Code t_Code t_Code_ok n_Code hown hK.1 hP hD hS 0 rfl rfl 3 (by decide) (hg _ wd_24) (fun _ h9 => h9) rfl hin rfl (by decide +kernel) rfl rfl (Nat.le_of_ble_eq_true rfl) d_Code_init_25 (fun H locs hP hD hS => ?_)
  have hP : va_P D vwCl [(h0, .inr (3, [.int 0, .ref q1, .ref q2, .ref q3, .null, .null, .null, .int 0, .int 0, .int 0, .int 0])), (q1, .inl (aC 0, 64, .inl (fun _ => 0))), (q2, .inl (aC 0, 64, .inl (fun _ => 0))), (q3, .inl (aC 0, 64, .inl (fun _ => 0)))] H := hP
  have hD : va_D A [(h0, .inr (3, [.int 0, .ref q1, .ref q2, .ref q3, .null, .null, .null, .int 0, .int 0, .int 0, .int 0])), (q1, .inl (aC 0, 64, .inl (fun _ => 0))), (q2, .inl (aC 0, 64, .inl (fun _ => 0))), (q3, .inl (aC 0, 64, .inl (fun _ => 0)))] := hD
  refine lv_aload_n hx hb d_Code_init_28 rfl (lv_at hl 0 rfl) ?_
  refine lv_bipush (v := 16) hx hb d_Code_init_29 (by decide) ?_
  refine ct_newI hx hb (hg _ we_3) hK hP hD hS hA (n := 16) (N := 16) (by decide) (by decide) (by decide) (Nat.le_of_ble_eq_true rfl) (Nat.le_of_ble_eq_true rfl) d_Code_init_31 (fun q4 H hP hD hS => ?_)
  have hP : va_P D vwCl [(h0, .inr (3, [.int 0, .ref q1, .ref q2, .ref q3, .null, .null, .null, .int 0, .int 0, .int 0, .int 0])), (q1, .inl (aC 0, 64, .inl (fun _ => 0))), (q2, .inl (aC 0, 64, .inl (fun _ => 0))), (q3, .inl (aC 0, 64, .inl (fun _ => 0))), (q4, .inl (aC 0, 16, .inl (fun _ => 0)))] H := hP
  have hD : va_D A [(h0, .inr (3, [.int 0, .ref q1, .ref q2, .ref q3, .null, .null, .null, .int 0, .int 0, .int 0, .int 0])), (q1, .inl (aC 0, 64, .inl (fun _ => 0))), (q2, .inl (aC 0, 64, .inl (fun _ => 0))), (q3, .inl (aC 0, 64, .inl (fun _ => 0))), (q4, .inl (aC 0, 16, .inl (fun _ => 0)))] := hD
  refine va_putF (D := D) (ci := 3) (v := .ref q4) (ty := .array .int) (C := "PrefixCodes$Code") (T := F_Code) (N := 11) hx hb hg u_Code t_Code t_Code_ok n_Code hown hK.1 hP hD hS 0 rfl rfl 4 (by decide) (hg _ wd_11) (fun _ h9 => h9) rfl hin rfl (by decide +kernel) rfl rfl (Nat.le_of_ble_eq_true rfl) d_Code_init_33 (fun H locs hP hD hS => ?_)
  have hP : va_P D vwCl [(h0, .inr (3, [.int 0, .ref q1, .ref q2, .ref q3, .ref q4, .null, .null, .int 0, .int 0, .int 0, .int 0])), (q1, .inl (aC 0, 64, .inl (fun _ => 0))), (q2, .inl (aC 0, 64, .inl (fun _ => 0))), (q3, .inl (aC 0, 64, .inl (fun _ => 0))), (q4, .inl (aC 0, 16, .inl (fun _ => 0)))] H := hP
  have hD : va_D A [(h0, .inr (3, [.int 0, .ref q1, .ref q2, .ref q3, .ref q4, .null, .null, .int 0, .int 0, .int 0, .int 0])), (q1, .inl (aC 0, 64, .inl (fun _ => 0))), (q2, .inl (aC 0, 64, .inl (fun _ => 0))), (q3, .inl (aC 0, 64, .inl (fun _ => 0))), (q4, .inl (aC 0, 16, .inl (fun _ => 0)))] := hD
  refine lv_aload_n hx hb d_Code_init_36 rfl (lv_at hl 0 rfl) ?_
  refine lv_bipush (v := 16) hx hb d_Code_init_37 (by decide) ?_
  refine ct_newI hx hb (hg _ we_3) hK hP hD hS hA (n := 16) (N := 16) (by decide) (by decide) (by decide) (Nat.le_of_ble_eq_true rfl) (Nat.le_of_ble_eq_true rfl) d_Code_init_39 (fun q5 H hP hD hS => ?_)
  have hP : va_P D vwCl [(h0, .inr (3, [.int 0, .ref q1, .ref q2, .ref q3, .ref q4, .null, .null, .int 0, .int 0, .int 0, .int 0])), (q1, .inl (aC 0, 64, .inl (fun _ => 0))), (q2, .inl (aC 0, 64, .inl (fun _ => 0))), (q3, .inl (aC 0, 64, .inl (fun _ => 0))), (q4, .inl (aC 0, 16, .inl (fun _ => 0))), (q5, .inl (aC 0, 16, .inl (fun _ => 0)))] H := hP
  have hD : va_D A [(h0, .inr (3, [.int 0, .ref q1, .ref q2, .ref q3, .ref q4, .null, .null, .int 0, .int 0, .int 0, .int 0])), (q1, .inl (aC 0, 64, .inl (fun _ => 0))), (q2, .inl (aC 0, 64, .inl (fun _ => 0))), (q3, .inl (aC 0, 64, .inl (fun _ => 0))), (q4, .inl (aC 0, 16, .inl (fun _ => 0))), (q5, .inl (aC 0, 16, .inl (fun _ => 0)))] := hD
  refine va_putF (D := D) (ci := 3) (v := .ref q5) (ty := .array .int) (C := "PrefixCodes$Code") (T := F_Code) (N := 11) hx hb hg u_Code t_Code t_Code_ok n_Code hown hK.1 hP hD hS 0 rfl rfl 5 (by decide) (hg _ wd_21) (fun _ h9 => h9) rfl hin rfl (by decide +kernel) rfl rfl (Nat.le_of_ble_eq_true rfl) d_Code_init_41 (fun H locs hP hD hS => ?_)
  have hP : va_P D vwCl [(h0, .inr (3, [.int 0, .ref q1, .ref q2, .ref q3, .ref q4, .ref q5, .null, .int 0, .int 0, .int 0, .int 0])), (q1, .inl (aC 0, 64, .inl (fun _ => 0))), (q2, .inl (aC 0, 64, .inl (fun _ => 0))), (q3, .inl (aC 0, 64, .inl (fun _ => 0))), (q4, .inl (aC 0, 16, .inl (fun _ => 0))), (q5, .inl (aC 0, 16, .inl (fun _ => 0)))] H := hP
  have hD : va_D A [(h0, .inr (3, [.int 0, .ref q1, .ref q2, .ref q3, .ref q4, .ref q5, .null, .int 0, .int 0, .int 0, .int 0])), (q1, .inl (aC 0, 64, .inl (fun _ => 0))), (q2, .inl (aC 0, 64, .inl (fun _ => 0))), (q3, .inl (aC 0, 64, .inl (fun _ => 0))), (q4, .inl (aC 0, 16, .inl (fun _ => 0))), (q5, .inl (aC 0, 16, .inl (fun _ => 0)))] := hD
  refine lv_aload_n hx hb d_Code_init_44 rfl (lv_at hl 0 rfl) ?_
  refine lv_bipush (v := 16) hx hb d_Code_init_45 (by decide) ?_
  refine ct_newI hx hb (hg _ we_3) hK hP hD hS hA (n := 16) (N := 16) (by decide) (by decide) (by decide) (Nat.le_of_ble_eq_true rfl) (Nat.le_of_ble_eq_true rfl) d_Code_init_47 (fun q6 H hP hD hS => ?_)
  have hP : va_P D vwCl [(h0, .inr (3, [.int 0, .ref q1, .ref q2, .ref q3, .ref q4, .ref q5, .null, .int 0, .int 0, .int 0, .int 0])), (q1, .inl (aC 0, 64, .inl (fun _ => 0))), (q2, .inl (aC 0, 64, .inl (fun _ => 0))), (q3, .inl (aC 0, 64, .inl (fun _ => 0))), (q4, .inl (aC 0, 16, .inl (fun _ => 0))), (q5, .inl (aC 0, 16, .inl (fun _ => 0))), (q6, .inl (aC 0, 16, .inl (fun _ => 0)))] H := hP
  have hD : va_D A [(h0, .inr (3, [.int 0, .ref q1, .ref q2, .ref q3, .ref q4, .ref q5, .null, .int 0, .int 0, .int 0, .int 0])), (q1, .inl (aC 0, 64, .inl (fun _ => 0))), (q2, .inl (aC 0, 64, .inl (fun _ => 0))), (q3, .inl (aC 0, 64, .inl (fun _ => 0))), (q4, .inl (aC 0, 16, .inl (fun _ => 0))), (q5, .inl (aC 0, 16, .inl (fun _ => 0))), (q6, .inl (aC 0, 16, .inl (fun _ => 0)))] := hD
  refine va_putF (D := D) (ci := 3) (v := .ref q6) (ty := .array .int) (C := "PrefixCodes$Code") (T := F_Code) (N := 11) hx hb hg u_Code t_Code t_Code_ok n_Code hown hK.1 hP hD hS 0 rfl rfl 6 (by decide) (hg _ wd_22) (fun _ h9 => h9) rfl hin rfl (by decide +kernel) rfl rfl (Nat.le_of_ble_eq_true rfl) d_Code_init_49 (fun H locs hP hD hS => ?_)
  have hP : va_P D vwCl [(h0, .inr (3, [.int 0, .ref q1, .ref q2, .ref q3, .ref q4, .ref q5, .ref q6, .int 0, .int 0, .int 0, .int 0])), (q1, .inl (aC 0, 64, .inl (fun _ => 0))), (q2, .inl (aC 0, 64, .inl (fun _ => 0))), (q3, .inl (aC 0, 64, .inl (fun _ => 0))), (q4, .inl (aC 0, 16, .inl (fun _ => 0))), (q5, .inl (aC 0, 16, .inl (fun _ => 0))), (q6, .inl (aC 0, 16, .inl (fun _ => 0)))] H := hP
  have hD : va_D A [(h0, .inr (3, [.int 0, .ref q1, .ref q2, .ref q3, .ref q4, .ref q5, .ref q6, .int 0, .int 0, .int 0, .int 0])), (q1, .inl (aC 0, 64, .inl (fun _ => 0))), (q2, .inl (aC 0, 64, .inl (fun _ => 0))), (q3, .inl (aC 0, 64, .inl (fun _ => 0))), (q4, .inl (aC 0, 16, .inl (fun _ => 0))), (q5, .inl (aC 0, 16, .inl (fun _ => 0))), (q6, .inl (aC 0, 16, .inl (fun _ => 0)))] := hD
  refine lv_aload_n hx hb d_Code_init_52 rfl (lv_at hl 0 rfl) ?_
  refine lv_iconst (v := 0) hx hb d_Code_init_53 (by decide) ?_
  refine va_put (D := D) (ci := 3) (v := .int 0) (ty := .int) (C := "PrefixCodes$Code") (T := F_Code) (N := 11) hx hb hg u_Code t_Code t_Code_ok n_Code hown hK.1 hP hD hS 0 rfl rfl 7 (by decide) (hg _ wd_18) (fun _ h9 => h9) rfl (by decide +kernel) rfl rfl (Nat.le_of_ble_eq_true rfl) d_Code_init_54 (fun H locs hP hD hS => ?_)
  have hP : va_P D vwCl [(h0, .inr (3, [.int 0, .ref q1, .ref q2, .ref q3, .ref q4, .ref q5, .ref q6, .int 0, .int 0, .int 0, .int 0])), (q1, .inl (aC 0, 64, .inl (fun _ => 0))), (q2, .inl (aC 0, 64, .inl (fun _ => 0))), (q3, .inl (aC 0, 64, .inl (fun _ => 0))), (q4, .inl (aC 0, 16, .inl (fun _ => 0))), (q5, .inl (aC 0, 16, .inl (fun _ => 0))), (q6, .inl (aC 0, 16, .inl (fun _ => 0)))] H := hP
  have hD : va_D A [(h0, .inr (3, [.int 0, .ref q1, .ref q2, .ref q3, .ref q4, .ref q5, .ref q6, .int 0, .int 0, .int 0, .int 0])), (q1, .inl (aC 0, 64, .inl (fun _ => 0))), (q2, .inl (aC 0, 64, .inl (fun _ => 0))), (q3, .inl (aC 0, 64, .inl (fun _ => 0))), (q4, .inl (aC 0, 16, .inl (fun _ => 0))), (q5, .inl (aC 0, 16, .inl (fun _ => 0))), (q6, .inl (aC 0, 16, .inl (fun _ => 0)))] := hD
  refine lv_aload_n hx hb d_Code_init_57 rfl (lv_at hl 0 rfl) ?_
  refine lv_iconst (v := 0) hx hb d_Code_init_58 (by decide) ?_
  refine va_put (D := D) (ci := 3) (v := .int 0) (ty := .int) (C := "PrefixCodes$Code") (T := F_Code) (N := 11) hx hb hg u_Code t_Code t_Code_ok n_Code hown hK.1 hP hD hS 0 rfl rfl 8 (by decide) (hg _ wd_19) (fun _ h9 => h9) rfl (by decide +kernel) rfl rfl (Nat.le_of_ble_eq_true rfl) d_Code_init_59 (fun H locs hP hD hS => ?_)
  have hP : va_P D vwCl [(h0, .inr (3, [.int 0, .ref q1, .ref q2, .ref q3, .ref q4, .ref q5, .ref q6, .int 0, .int 0, .int 0, .int 0])), (q1, .inl (aC 0, 64, .inl (fun _ => 0))), (q2, .inl (aC 0, 64, .inl (fun _ => 0))), (q3, .inl (aC 0, 64, .inl (fun _ => 0))), (q4, .inl (aC 0, 16, .inl (fun _ => 0))), (q5, .inl (aC 0, 16, .inl (fun _ => 0))), (q6, .inl (aC 0, 16, .inl (fun _ => 0)))] H := hP
  have hD : va_D A [(h0, .inr (3, [.int 0, .ref q1, .ref q2, .ref q3, .ref q4, .ref q5, .ref q6, .int 0, .int 0, .int 0, .int 0])), (q1, .inl (aC 0, 64, .inl (fun _ => 0))), (q2, .inl (aC 0, 64, .inl (fun _ => 0))), (q3, .inl (aC 0, 64, .inl (fun _ => 0))), (q4, .inl (aC 0, 16, .inl (fun _ => 0))), (q5, .inl (aC 0, 16, .inl (fun _ => 0))), (q6, .inl (aC 0, 16, .inl (fun _ => 0)))] := hD
  refine lv_aload_n hx hb d_Code_init_62 rfl (lv_at hl 0 rfl) ?_
  refine lv_iconst (v := 0) hx hb d_Code_init_63 (by decide) ?_
  refine va_put (D := D) (ci := 3) (v := .int 0) (ty := .int) (C := "PrefixCodes$Code") (T := F_Code) (N := 11) hx hb hg u_Code t_Code t_Code_ok n_Code hown hK.1 hP hD hS 0 rfl rfl 9 (by decide) (hg _ wd_20) (fun _ h9 => h9) rfl (by decide +kernel) rfl rfl (Nat.le_of_ble_eq_true rfl) d_Code_init_64 (fun H locs hP hD hS => ?_)
  have hP : va_P D vwCl [(h0, .inr (3, [.int 0, .ref q1, .ref q2, .ref q3, .ref q4, .ref q5, .ref q6, .int 0, .int 0, .int 0, .int 0])), (q1, .inl (aC 0, 64, .inl (fun _ => 0))), (q2, .inl (aC 0, 64, .inl (fun _ => 0))), (q3, .inl (aC 0, 64, .inl (fun _ => 0))), (q4, .inl (aC 0, 16, .inl (fun _ => 0))), (q5, .inl (aC 0, 16, .inl (fun _ => 0))), (q6, .inl (aC 0, 16, .inl (fun _ => 0)))] H := hP
  have hD : va_D A [(h0, .inr (3, [.int 0, .ref q1, .ref q2, .ref q3, .ref q4, .ref q5, .ref q6, .int 0, .int 0, .int 0, .int 0])), (q1, .inl (aC 0, 64, .inl (fun _ => 0))), (q2, .inl (aC 0, 64, .inl (fun _ => 0))), (q3, .inl (aC 0, 64, .inl (fun _ => 0))), (q4, .inl (aC 0, 16, .inl (fun _ => 0))), (q5, .inl (aC 0, 16, .inl (fun _ => 0))), (q6, .inl (aC 0, 16, .inl (fun _ => 0)))] := hD
  refine lv_aload_n hx hb d_Code_init_67 rfl (lv_at hl 0 rfl) ?_
  refine lv_iconst (v := 0) hx hb d_Code_init_68 (by decide) ?_
  refine va_put (D := D) (ci := 3) (v := .int 0) (ty := .int) (C := "PrefixCodes$Code") (T := F_Code) (N := 11) hx hb hg u_Code t_Code t_Code_ok n_Code hown hK.1 hP hD hS 0 rfl rfl 10 (by decide) (hg _ wd_26) (fun _ h9 => h9) rfl (by decide +kernel) rfl rfl (Nat.le_of_ble_eq_true rfl) d_Code_init_69 (fun H locs hP hD hS => ?_)
  have hP : va_P D vwCl [(h0, .inr (3, [.int 0, .ref q1, .ref q2, .ref q3, .ref q4, .ref q5, .ref q6, .int 0, .int 0, .int 0, .int 0])), (q1, .inl (aC 0, 64, .inl (fun _ => 0))), (q2, .inl (aC 0, 64, .inl (fun _ => 0))), (q3, .inl (aC 0, 64, .inl (fun _ => 0))), (q4, .inl (aC 0, 16, .inl (fun _ => 0))), (q5, .inl (aC 0, 16, .inl (fun _ => 0))), (q6, .inl (aC 0, 16, .inl (fun _ => 0)))] H := hP
  have hD : va_D A [(h0, .inr (3, [.int 0, .ref q1, .ref q2, .ref q3, .ref q4, .ref q5, .ref q6, .int 0, .int 0, .int 0, .int 0])), (q1, .inl (aC 0, 64, .inl (fun _ => 0))), (q2, .inl (aC 0, 64, .inl (fun _ => 0))), (q3, .inl (aC 0, 64, .inl (fun _ => 0))), (q4, .inl (aC 0, 16, .inl (fun _ => 0))), (q5, .inl (aC 0, 16, .inl (fun _ => 0))), (q6, .inl (aC 0, 16, .inl (fun _ => 0)))] := hD
  refine lv_aload_n hx hb d_Code_init_72 rfl (lv_at hl 0 rfl) ?_
  refine lv_iload_n hx hb d_Code_init_73 rfl (lv_at hl 1 rfl) ?_
  refine va_putF (D := D) (ci := 3) (v := .int a1) (ty := .int) (C := "PrefixCodes$Code") (T := F_Code) (N := 11) hx hb hg u_Code t_Code t_Code_ok n_Code hown hK.1 hP hD hS 0 rfl rfl 0 (by decide) (hg _ wd_12) (fun _ h9 => h9) rfl hin rfl (by decide +kernel) rfl rfl (Nat.le_of_ble_eq_true rfl) d_Code_init_74 (fun H locs hP hD hS => ?_)
  have hP : va_P D vwCl [(h0, .inr (3, [.int a1, .ref q1, .ref q2, .ref q3, .ref q4, .ref q5, .ref q6, .int 0, .int 0, .int 0, .int 0])), (q1, .inl (aC 0, 64, .inl (fun _ => 0))), (q2, .inl (aC 0, 64, .inl (fun _ => 0))), (q3, .inl (aC 0, 64, .inl (fun _ => 0))), (q4, .inl (aC 0, 16, .inl (fun _ => 0))), (q5, .inl (aC 0, 16, .inl (fun _ => 0))), (q6, .inl (aC 0, 16, .inl (fun _ => 0)))] H := hP
  have hD : va_D A [(h0, .inr (3, [.int a1, .ref q1, .ref q2, .ref q3, .ref q4, .ref q5, .ref q6, .int 0, .int 0, .int 0, .int 0])), (q1, .inl (aC 0, 64, .inl (fun _ => 0))), (q2, .inl (aC 0, 64, .inl (fun _ => 0))), (q3, .inl (aC 0, 64, .inl (fun _ => 0))), (q4, .inl (aC 0, 16, .inl (fun _ => 0))), (q5, .inl (aC 0, 16, .inl (fun _ => 0))), (q6, .inl (aC 0, 16, .inl (fun _ => 0)))] := hD
  exact W.vret hx hb hr (fun t ht hW => ⟨⟨(q1, q2, q3, q4, q5, q6), rfl, trivial, by rw [ht]; exact hP, hD⟩, hS.F ht⟩) hS.2.2 d_Code_init_77
def y_Selectors_init : MethodName := ⟨"PrefixCodes$Selectors", "<init>", "()V"⟩
abbrev w_Selectors_init : List Cond := Cond.code ⟨"PrefixCodes$Selectors", "<init>", "()V"⟩ prog_8_method_1_code 1 none :: gW
abbrev rm_Selectors_init : Room := { frames := 1, cells := 1, slots := 6, locals := 16 }
theorem yd_Selectors_init : (⟨"PrefixCodes$Selectors", "<init>", "()V"⟩ : MethodName).cls = "PrefixCodes$Selectors" ∧ (⟨"PrefixCodes$Selectors", "<init>", "()V"⟩ : MethodName).cls ≠ "java/lang/invoke/MethodHandle" ∧ (⟨"PrefixCodes$Selectors", "<init>", "()V"⟩ : MethodName).cls ≠ "java/lang/invoke/VarHandle" ∧ (parseMethodDescriptor (⟨"PrefixCodes$Selectors", "<init>", "()V"⟩ : MethodName).desc).map (fun d => d.parameters.length) = some 0 := by decide +kernel
theorem d_Selectors_init_0 : decode prog_8_method_1_code 0 = .ok (.aload_n 0, 1) := by decide +kernel
theorem d_Selectors_init_1 : decode prog_8_method_1_code 1 = .ok (.invokespecial 3, 3) := by decide +kernel
theorem d_Selectors_init_4 : decode prog_8_method_1_code 4 = .ok (.aload_n 0, 1) := by decide +kernel
theorem d_Selectors_init_5 : decode prog_8_method_1_code 5 = .ok (.bipush 6, 2) := by decide +kernel
theorem d_Selectors_init_7 : decode prog_8_method_1_code 7 = .ok (.newarray .int, 2) := by decide +kernel
theorem d_Selectors_init_9 : decode prog_8_method_1_code 9 = .ok (.putfield 9, 3) := by decide +kernel
theorem d_Selectors_init_12 : decode prog_8_method_1_code 12 = .ok (.aload_n 0, 1) := by decide +kernel
theorem d_Selectors_init_13 : decode prog_8_method_1_code 13 = .ok (.iconst 0, 1) := by decide +kernel
theorem d_Selectors_init_14 : decode prog_8_method_1_code 14 = .ok (.putfield 15, 3) := by decide +kernel
theorem d_Selectors_init_17 : decode prog_8_method_1_code 17 = .ok (.return_, 1) := by decide +kernel
def ws_Selectors (aC : Nat → ClassId) (h0 : Nat) (q1 : Nat) : va_W := [(h0, .inr (8, [.ref q1, .int 0])), (q1, .inl (aC 0, 6, .inl (fun _ => 0)))]
set_option maxHeartbeats 4000000 in
set_option maxRecDepth 100000 in
theorem c_Selectors_init (l : Launch) (D : va_G) (aC : Nat → ClassId) (h0 sz : Nat) : Met l y_Selectors_init w_Selectors_init rm_Selectors_init (va_Pc [.ref h0] (cPre D aC sz [(h0, .inr (8, [.null, .int 0]))])) (va_Qv (fun (_ : Nat) => True) (fun u t => va_P D vwCl (ws_Selectors aC h0 u) t.heap ∧ va_D (va_A [(h0, .inr (8, [.null, .int 0]))] sz) (ws_Selectors aC h0 u)) (va_A [(h0, .inr (8, [.null, .int 0]))] sz)) 1 6 (va_A [(h0, .inr (8, [.null, .int 0]))] sz) := by
  refine Met.ofW (cc := prog_8_method_1_code) (maxL := 1) (ret := none) (by decide) rfl ?_
  intro p e s m args below meth c s₁ B hml hv
  obtain ⟨hargs, hsz, hP, hK, hD0⟩ := hv
  have hx := B.exec
  have hb := B.bytes
  have hr := B.returns
  have hts := atoms_spec (ws := w_Selectors_init) B.pre
  have hg : ∀ w ∈ gW, w.before args s = true := fun w h => hts w (List.mem_cons_of_mem _ h)
  have hown : s.vm.findClass "PrefixCodes$Selectors" = some m.cls := findClass_of_methodNamed B.named
  have hlocks := B.notSynchronized
  have hin : meth.name = "<init>" := (name_of_methodNamed B.named B.method).1
  subst hsz
  have hD := hD0.self (sz := s.heap.size)
  generalize hAe : va_A [(h0, .inr (8, [.null, .int 0]))] s.heap.size = A at hD ⊢
  have hA : ∀ q : Nat, s.heap.size ≤ q → A q := fun q h => by rw [← hAe]; exact Or.inr h
  have hS : va_S A s.heap s.heap [] := va_S.rf
  have hP : va_P D vwCl [(h0, .inr (8, [.null, .int 0]))] s.heap := hP
  have hl := lv_entry ([.ref h0]) (n := 1) (Nat.le_of_ble_eq_true rfl)
  rw [show entryFrame m args 1 = entryFrame m (([.ref h0] : List Value).toArray) 1 by rw [hargs], lg_entry_eq]
  generalize (lg_sl ([.ref h0]) ++ List.replicate (1 - (lg_sl ([.ref h0])).length) Slot.unset).toArray = ls at hl ⊢
  have hl : lv_has ls 1 [(0, .ref h0)] := hl
  refine lv_aload_n hx hb d_Selectors_init_0 rfl (lv_at hl 0 rfl) ?_
  refine W.objInit hx hb hown (hg _ we_4) (hg _ we_1) (hg _ we_2) rfl (by rw [hml]; exact hl.1) rfl d_Selectors_init_1 (Nat.le_of_ble_eq_true rfl) (Nat.le_of_ble_eq_true rfl) ?_
  refine W.eq (g2 := F0 m 4 ls []) rfl ?_
  refine lv_aload_n hx hb d_Selectors_init_4 rfl (lv_at hl 0 rfl) ?_
  refine lv_bipush (v := 6) hx hb d_Selectors_init_5 (by decide) ?_
  refine ct_newI hx hb (hg _ we_3) hK hP hD hS hA (n := 6) (N := 6) (by decide) (by decide) (by decide) (Nat.le_of_ble_eq_true rfl) (Nat.le_of_ble_eq_true rfl) d_Selectors_init_7 (fun q1 H hP hD hS => ?_)
  have hP : va_P D vwCl [(h0, .inr (8, [.null, .int 0])), (q1, .inl (aC 0, 6, .inl (fun _ => 0)))] H := hP
  have hD : va_D A [(h0, .inr (8, [.null, .int 0])), (q1, .inl (aC 0, 6, .inl (fun _ => 0)))] := hD
  refine va_putF (D := D) (ci := 8) (v := .ref q1) (ty := .array .int) (C := "PrefixCodes$Selectors") (T := F_Selectors) (N := 2) hx hb hg u_Selectors t_Selectors t_Selectors_ok n_Selectors hown hK.1 hP hD hS 0 rfl rfl 0 (by decide) (hg _ wd_368) (fun _ h9 => h9) rfl hin rfl (by decide +kernel) rfl rfl (Nat.le_of_ble_eq_true rfl) d_Selectors_init_9 (fun H locs hP hD hS => ?_)
  have hP : va_P D vwCl [(h0, .inr (8, [.ref q1, .int 0])), (q1, .inl (aC 0, 6, .inl (fun _ => 0)))] H := hP
  have hD : va_D A [(h0, .inr (8, [.ref q1, .int 0])), (q1, .inl (aC 0, 6, .inl (fun _ => 0)))] := hD
  refine lv_aload_n hx hb d_Selectors_init_12 rfl (lv_at hl 0 rfl) ?_
  refine lv_iconst (v := 0) hx hb d_Selectors_init_13 (by decide) ?_
  refine va_put (D := D) (ci := 8) (v := .int 0) (ty := .int) (C := "PrefixCodes$Selectors") (T := F_Selectors) (N := 2) hx hb hg u_Selectors t_Selectors t_Selectors_ok n_Selectors hown hK.1 hP hD hS 0 rfl rfl 1 (by decide) (hg _ wd_367) (fun _ h9 => h9) rfl (by decide +kernel) rfl rfl (Nat.le_of_ble_eq_true rfl) d_Selectors_init_14 (fun H locs hP hD hS => ?_)
  have hP : va_P D vwCl [(h0, .inr (8, [.ref q1, .int 0])), (q1, .inl (aC 0, 6, .inl (fun _ => 0)))] H := hP
  have hD : va_D A [(h0, .inr (8, [.ref q1, .int 0])), (q1, .inl (aC 0, 6, .inl (fun _ => 0)))] := hD
  exact W.vret hx hb hr (fun t ht hW => ⟨⟨q1, rfl, trivial, by rw [ht]; exact hP, hD⟩, hS.F ht⟩) hS.2.2 d_Selectors_init_17
def y_Stream_init : MethodName := ⟨"PrefixCodes$Stream", "<init>", "()V"⟩
abbrev w_Stream_init : List Cond := Cond.code ⟨"PrefixCodes$Stream", "<init>", "()V"⟩ prog_9_method_1_code 1 none :: gW
abbrev rm_Stream_init : Room := { frames := 1, cells := 1, slots := 625, locals := 16 }
theorem yd_Stream_init : (⟨"PrefixCodes$Stream", "<init>", "()V"⟩ : MethodName).cls = "PrefixCodes$Stream" ∧ (⟨"PrefixCodes$Stream", "<init>", "()V"⟩ : MethodName).cls ≠ "java/lang/invoke/MethodHandle" ∧ (⟨"PrefixCodes$Stream", "<init>", "()V"⟩ : MethodName).cls ≠ "java/lang/invoke/VarHandle" ∧ (parseMethodDescriptor (⟨"PrefixCodes$Stream", "<init>", "()V"⟩ : MethodName).desc).map (fun d => d.parameters.length) = some 0 := by decide +kernel
theorem d_Stream_init_0 : decode prog_9_method_1_code 0 = .ok (.aload_n 0, 1) := by decide +kernel
theorem d_Stream_init_1 : decode prog_9_method_1_code 1 = .ok (.invokespecial 3, 3) := by decide +kernel
theorem d_Stream_init_4 : decode prog_9_method_1_code 4 = .ok (.aload_n 0, 1) := by decide +kernel
theorem d_Stream_init_5 : decode prog_9_method_1_code 5 = .ok (.sipush 625, 3) := by decide +kernel
theorem d_Stream_init_8 : decode prog_9_method_1_code 8 = .ok (.newarray .int, 2) := by decide +kernel
theorem d_Stream_init_10 : decode prog_9_method_1_code 10 = .ok (.putfield 11, 3) := by decide +kernel
theorem d_Stream_init_13 : decode prog_9_method_1_code 13 = .ok (.aload_n 0, 1) := by decide +kernel
theorem d_Stream_init_14 : decode prog_9_method_1_code 14 = .ok (.iconst 0, 1) := by decide +kernel
theorem d_Stream_init_15 : decode prog_9_method_1_code 15 = .ok (.putfield 15, 3) := by decide +kernel
theorem d_Stream_init_18 : decode prog_9_method_1_code 18 = .ok (.aload_n 0, 1) := by decide +kernel
theorem d_Stream_init_19 : decode prog_9_method_1_code 19 = .ok (.iconst 0, 1) := by decide +kernel
theorem d_Stream_init_20 : decode prog_9_method_1_code 20 = .ok (.putfield 19, 3) := by decide +kernel
theorem d_Stream_init_23 : decode prog_9_method_1_code 23 = .ok (.aload_n 0, 1) := by decide +kernel
theorem d_Stream_init_24 : decode prog_9_method_1_code 24 = .ok (.iconst 0, 1) := by decide +kernel
theorem d_Stream_init_25 : decode prog_9_method_1_code 25 = .ok (.putfield 22, 3) := by decide +kernel
theorem d_Stream_init_28 : decode prog_9_method_1_code 28 = .ok (.aload_n 0, 1) := by decide +kernel
theorem d_Stream_init_29 : decode prog_9_method_1_code 29 = .ok (.iconst 0, 1) := by decide +kernel
theorem d_Stream_init_30 : decode prog_9_method_1_code 30 = .ok (.putfield 25, 3) := by decide +kernel
theorem d_Stream_init_33 : decode prog_9_method_1_code 33 = .ok (.return_, 1) := by decide +kernel
def ws_Stream (aC : Nat → ClassId) (h0 : Nat) (q1 : Nat) : va_W := [(h0, .inr (9, [.ref q1, .int 0, .int 0, .int 0, .int 0])), (q1, .inl (aC 0, 625, .inl (fun _ => 0)))]
set_option maxHeartbeats 4000000 in
set_option maxRecDepth 100000 in
theorem c_Stream_init (l : Launch) (D : va_G) (aC : Nat → ClassId) (h0 sz : Nat) : Met l y_Stream_init w_Stream_init rm_Stream_init (va_Pc [.ref h0] (cPre D aC sz [(h0, .inr (9, [.null, .int 0, .int 0, .int 0, .int 0]))])) (va_Qv (fun (_ : Nat) => True) (fun u t => va_P D vwCl (ws_Stream aC h0 u) t.heap ∧ va_D (va_A [(h0, .inr (9, [.null, .int 0, .int 0, .int 0, .int 0]))] sz) (ws_Stream aC h0 u)) (va_A [(h0, .inr (9, [.null, .int 0, .int 0, .int 0, .int 0]))] sz)) 1 625 (va_A [(h0, .inr (9, [.null, .int 0, .int 0, .int 0, .int 0]))] sz) := by
  refine Met.ofW (cc := prog_9_method_1_code) (maxL := 1) (ret := none) (by decide) rfl ?_
  intro p e s m args below meth c s₁ B hml hv
  obtain ⟨hargs, hsz, hP, hK, hD0⟩ := hv
  have hx := B.exec
  have hb := B.bytes
  have hr := B.returns
  have hts := atoms_spec (ws := w_Stream_init) B.pre
  have hg : ∀ w ∈ gW, w.before args s = true := fun w h => hts w (List.mem_cons_of_mem _ h)
  have hown : s.vm.findClass "PrefixCodes$Stream" = some m.cls := findClass_of_methodNamed B.named
  have hlocks := B.notSynchronized
  have hin : meth.name = "<init>" := (name_of_methodNamed B.named B.method).1
  subst hsz
  have hD := hD0.self (sz := s.heap.size)
  generalize hAe : va_A [(h0, .inr (9, [.null, .int 0, .int 0, .int 0, .int 0]))] s.heap.size = A at hD ⊢
  have hA : ∀ q : Nat, s.heap.size ≤ q → A q := fun q h => by rw [← hAe]; exact Or.inr h
  have hS : va_S A s.heap s.heap [] := va_S.rf
  have hP : va_P D vwCl [(h0, .inr (9, [.null, .int 0, .int 0, .int 0, .int 0]))] s.heap := hP
  have hl := lv_entry ([.ref h0]) (n := 1) (Nat.le_of_ble_eq_true rfl)
  rw [show entryFrame m args 1 = entryFrame m (([.ref h0] : List Value).toArray) 1 by rw [hargs], lg_entry_eq]
  generalize (lg_sl ([.ref h0]) ++ List.replicate (1 - (lg_sl ([.ref h0])).length) Slot.unset).toArray = ls at hl ⊢
  have hl : lv_has ls 1 [(0, .ref h0)] := hl
  refine lv_aload_n hx hb d_Stream_init_0 rfl (lv_at hl 0 rfl) ?_
  refine W.objInit hx hb hown (hg _ we_5) (hg _ we_1) (hg _ we_2) rfl (by rw [hml]; exact hl.1) rfl d_Stream_init_1 (Nat.le_of_ble_eq_true rfl) (Nat.le_of_ble_eq_true rfl) ?_
  refine W.eq (g2 := F0 m 4 ls []) rfl ?_
  refine lv_aload_n hx hb d_Stream_init_4 rfl (lv_at hl 0 rfl) ?_
  refine lv_sipush (v := 625) hx hb d_Stream_init_5 (by decide) ?_
  refine ct_newI hx hb (hg _ we_3) hK hP hD hS hA (n := 625) (N := 625) (by decide) (by decide) (by decide) (Nat.le_of_ble_eq_true rfl) (Nat.le_of_ble_eq_true rfl) d_Stream_init_8 (fun q1 H hP hD hS => ?_)
  have hP : va_P D vwCl [(h0, .inr (9, [.null, .int 0, .int 0, .int 0, .int 0])), (q1, .inl (aC 0, 625, .inl (fun _ => 0)))] H := hP
  have hD : va_D A [(h0, .inr (9, [.null, .int 0, .int 0, .int 0, .int 0])), (q1, .inl (aC 0, 625, .inl (fun _ => 0)))] := hD
  refine va_putF (D := D) (ci := 9) (v := .ref q1) (ty := .array .int) (C := "PrefixCodes$Stream") (T := F_Stream) (N := 5) hx hb hg u_Stream t_Stream t_Stream_ok n_Stream hown hK.1 hP hD hS 0 rfl rfl 0 (by decide) (hg _ wd_116) (fun _ h9 => h9) rfl hin rfl (by decide +kernel) rfl rfl (Nat.le_of_ble_eq_true rfl) d_Stream_init_10 (fun H locs hP hD hS => ?_)
  have hP : va_P D vwCl [(h0, .inr (9, [.ref q1, .int 0, .int 0, .int 0, .int 0])), (q1, .inl (aC 0, 625, .inl (fun _ => 0)))] H := hP
  have hD : va_D A [(h0, .inr (9, [.ref q1, .int 0, .int 0, .int 0, .int 0])), (q1, .inl (aC 0, 625, .inl (fun _ => 0)))] := hD
  refine lv_aload_n hx hb d_Stream_init_13 rfl (lv_at hl 0 rfl) ?_
  refine lv_iconst (v := 0) hx hb d_Stream_init_14 (by decide) ?_
  refine va_put (D := D) (ci := 9) (v := .int 0) (ty := .int) (C := "PrefixCodes$Stream") (T := F_Stream) (N := 5) hx hb hg u_Stream t_Stream t_Stream_ok n_Stream hown hK.1 hP hD hS 0 rfl rfl 1 (by decide) (hg _ wd_115) (fun _ h9 => h9) rfl (by decide +kernel) rfl rfl (Nat.le_of_ble_eq_true rfl) d_Stream_init_15 (fun H locs hP hD hS => ?_)
  have hP : va_P D vwCl [(h0, .inr (9, [.ref q1, .int 0, .int 0, .int 0, .int 0])), (q1, .inl (aC 0, 625, .inl (fun _ => 0)))] H := hP
  have hD : va_D A [(h0, .inr (9, [.ref q1, .int 0, .int 0, .int 0, .int 0])), (q1, .inl (aC 0, 625, .inl (fun _ => 0)))] := hD
  refine lv_aload_n hx hb d_Stream_init_18 rfl (lv_at hl 0 rfl) ?_
  refine lv_iconst (v := 0) hx hb d_Stream_init_19 (by decide) ?_
  refine va_put (D := D) (ci := 9) (v := .int 0) (ty := .int) (C := "PrefixCodes$Stream") (T := F_Stream) (N := 5) hx hb hg u_Stream t_Stream t_Stream_ok n_Stream hown hK.1 hP hD hS 0 rfl rfl 2 (by decide) (hg _ wd_126) (fun _ h9 => h9) rfl (by decide +kernel) rfl rfl (Nat.le_of_ble_eq_true rfl) d_Stream_init_20 (fun H locs hP hD hS => ?_)
  have hP : va_P D vwCl [(h0, .inr (9, [.ref q1, .int 0, .int 0, .int 0, .int 0])), (q1, .inl (aC 0, 625, .inl (fun _ => 0)))] H := hP
  have hD : va_D A [(h0, .inr (9, [.ref q1, .int 0, .int 0, .int 0, .int 0])), (q1, .inl (aC 0, 625, .inl (fun _ => 0)))] := hD
  refine lv_aload_n hx hb d_Stream_init_23 rfl (lv_at hl 0 rfl) ?_
  refine lv_iconst (v := 0) hx hb d_Stream_init_24 (by decide) ?_
  refine va_put (D := D) (ci := 9) (v := .int 0) (ty := .int) (C := "PrefixCodes$Stream") (T := F_Stream) (N := 5) hx hb hg u_Stream t_Stream t_Stream_ok n_Stream hown hK.1 hP hD hS 0 rfl rfl 3 (by decide) (hg _ wd_165) (fun _ h9 => h9) rfl (by decide +kernel) rfl rfl (Nat.le_of_ble_eq_true rfl) d_Stream_init_25 (fun H locs hP hD hS => ?_)
  have hP : va_P D vwCl [(h0, .inr (9, [.ref q1, .int 0, .int 0, .int 0, .int 0])), (q1, .inl (aC 0, 625, .inl (fun _ => 0)))] H := hP
  have hD : va_D A [(h0, .inr (9, [.ref q1, .int 0, .int 0, .int 0, .int 0])), (q1, .inl (aC 0, 625, .inl (fun _ => 0)))] := hD
  refine lv_aload_n hx hb d_Stream_init_28 rfl (lv_at hl 0 rfl) ?_
  refine lv_iconst (v := 0) hx hb d_Stream_init_29 (by decide) ?_
  refine va_put (D := D) (ci := 9) (v := .int 0) (ty := .boolean) (C := "PrefixCodes$Stream") (T := F_Stream) (N := 5) hx hb hg u_Stream t_Stream t_Stream_ok n_Stream hown hK.1 hP hD hS 0 rfl rfl 4 (by decide) (hg _ wd_127) (fun _ h9 => h9) rfl (by decide +kernel) rfl rfl (Nat.le_of_ble_eq_true rfl) d_Stream_init_30 (fun H locs hP hD hS => ?_)
  have hP : va_P D vwCl [(h0, .inr (9, [.ref q1, .int 0, .int 0, .int 0, .int 0])), (q1, .inl (aC 0, 625, .inl (fun _ => 0)))] H := hP
  have hD : va_D A [(h0, .inr (9, [.ref q1, .int 0, .int 0, .int 0, .int 0])), (q1, .inl (aC 0, 625, .inl (fun _ => 0)))] := hD
  exact W.vret hx hb hr (fun t ht hW => ⟨⟨q1, rfl, trivial, by rw [ht]; exact hP, hD⟩, hS.F ht⟩) hS.2.2 d_Stream_init_33
def y_Table_init : MethodName := ⟨"PrefixCodes$Table", "<init>", "()V"⟩
abbrev w_Table_init : List Cond := Cond.code ⟨"PrefixCodes$Table", "<init>", "()V"⟩ prog_10_method_1_code 1 none :: gW
abbrev rm_Table_init : Room := { frames := 1, cells := 6, slots := 384, locals := 16 }
theorem yd_Table_init : (⟨"PrefixCodes$Table", "<init>", "()V"⟩ : MethodName).cls = "PrefixCodes$Table" ∧ (⟨"PrefixCodes$Table", "<init>", "()V"⟩ : MethodName).cls ≠ "java/lang/invoke/MethodHandle" ∧ (⟨"PrefixCodes$Table", "<init>", "()V"⟩ : MethodName).cls ≠ "java/lang/invoke/VarHandle" ∧ (parseMethodDescriptor (⟨"PrefixCodes$Table", "<init>", "()V"⟩ : MethodName).desc).map (fun d => d.parameters.length) = some 0 := by decide +kernel
theorem d_Table_init_0 : decode prog_10_method_1_code 0 = .ok (.aload_n 0, 1) := by decide +kernel
theorem d_Table_init_1 : decode prog_10_method_1_code 1 = .ok (.invokespecial 3, 3) := by decide +kernel
theorem d_Table_init_4 : decode prog_10_method_1_code 4 = .ok (.aload_n 0, 1) := by decide +kernel
theorem d_Table_init_5 : decode prog_10_method_1_code 5 = .ok (.iconst 0, 1) := by decide +kernel
theorem d_Table_init_6 : decode prog_10_method_1_code 6 = .ok (.putfield 9, 3) := by decide +kernel
theorem d_Table_init_9 : decode prog_10_method_1_code 9 = .ok (.aload_n 0, 1) := by decide +kernel
theorem d_Table_init_10 : decode prog_10_method_1_code 10 = .ok (.iconst 0, 1) := by decide +kernel
theorem d_Table_init_11 : decode prog_10_method_1_code 11 = .ok (.putfield 15, 3) := by decide +kernel
theorem d_Table_init_14 : decode prog_10_method_1_code 14 = .ok (.aload_n 0, 1) := by decide +kernel
theorem d_Table_init_15 : decode prog_10_method_1_code 15 = .ok (.iconst 0, 1) := by decide +kernel
theorem d_Table_init_16 : decode prog_10_method_1_code 16 = .ok (.putfield 18, 3) := by decide +kernel
theorem d_Table_init_19 : decode prog_10_method_1_code 19 = .ok (.aload_n 0, 1) := by decide +kernel
theorem d_Table_init_20 : decode prog_10_method_1_code 20 = .ok (.bipush 64, 2) := by decide +kernel
theorem d_Table_init_22 : decode prog_10_method_1_code 22 = .ok (.newarray .int, 2) := by decide +kernel
theorem d_Table_init_24 : decode prog_10_method_1_code 24 = .ok (.putfield 21, 3) := by decide +kernel
theorem d_Table_init_27 : decode prog_10_method_1_code 27 = .ok (.aload_n 0, 1) := by decide +kernel
theorem d_Table_init_28 : decode prog_10_method_1_code 28 = .ok (.bipush 64, 2) := by decide +kernel
theorem d_Table_init_30 : decode prog_10_method_1_code 30 = .ok (.newarray .int, 2) := by decide +kernel
theorem d_Table_init_32 : decode prog_10_method_1_code 32 = .ok (.putfield 25, 3) := by decide +kernel
theorem d_Table_init_35 : decode prog_10_method_1_code 35 = .ok (.aload_n 0, 1) := by decide +kernel
theorem d_Table_init_36 : decode prog_10_method_1_code 36 = .ok (.bipush 64, 2) := by decide +kernel
theorem d_Table_init_38 : decode prog_10_method_1_code 38 = .ok (.newarray .int, 2) := by decide +kernel
theorem d_Table_init_40 : decode prog_10_method_1_code 40 = .ok (.putfield 28, 3) := by decide +kernel
theorem d_Table_init_43 : decode prog_10_method_1_code 43 = .ok (.aload_n 0, 1) := by decide +kernel
theorem d_Table_init_44 : decode prog_10_method_1_code 44 = .ok (.iconst 0, 1) := by decide +kernel
theorem d_Table_init_45 : decode prog_10_method_1_code 45 = .ok (.putfield 31, 3) := by decide +kernel
theorem d_Table_init_48 : decode prog_10_method_1_code 48 = .ok (.aload_n 0, 1) := by decide +kernel
theorem d_Table_init_49 : decode prog_10_method_1_code 49 = .ok (.bipush 64, 2) := by decide +kernel
theorem d_Table_init_51 : decode prog_10_method_1_code 51 = .ok (.newarray .int, 2) := by decide +kernel
theorem d_Table_init_53 : decode prog_10_method_1_code 53 = .ok (.putfield 34, 3) := by decide +kernel
theorem d_Table_init_56 : decode prog_10_method_1_code 56 = .ok (.aload_n 0, 1) := by decide +kernel
theorem d_Table_init_57 : decode prog_10_method_1_code 57 = .ok (.bipush 64, 2) := by decide +kernel
theorem d_Table_init_59 : decode prog_10_method_1_code 59 = .ok (.newarray .int, 2) := by decide +kernel
theorem d_Table_init_61 : decode prog_10_method_1_code 61 = .ok (.putfield 37, 3) := by decide +kernel
theorem d_Table_init_64 : decode prog_10_method_1_code 64 = .ok (.aload_n 0, 1) := by decide +kernel
theorem d_Table_init_65 : decode prog_10_method_1_code 65 = .ok (.bipush 64, 2) := by decide +kernel
theorem d_Table_init_67 : decode prog_10_method_1_code 67 = .ok (.newarray .int, 2) := by decide +kernel
theorem d_Table_init_69 : decode prog_10_method_1_code 69 = .ok (.putfield 40, 3) := by decide +kernel
theorem d_Table_init_72 : decode prog_10_method_1_code 72 = .ok (.return_, 1) := by decide +kernel
def ws_Table (aC : Nat → ClassId) (h0 : Nat) (q1 q2 q3 q4 q5 q6 : Nat) : va_W := [(h0, .inr (10, [.int 0, .int 0, .int 0, .ref q1, .ref q2, .ref q3, .int 0, .ref q4, .ref q5, .ref q6])), (q1, .inl (aC 0, 64, .inl (fun _ => 0))), (q2, .inl (aC 0, 64, .inl (fun _ => 0))), (q3, .inl (aC 0, 64, .inl (fun _ => 0))), (q4, .inl (aC 0, 64, .inl (fun _ => 0))), (q5, .inl (aC 0, 64, .inl (fun _ => 0))), (q6, .inl (aC 0, 64, .inl (fun _ => 0)))]
set_option maxHeartbeats 4000000 in
set_option maxRecDepth 100000 in
theorem c_Table_init (l : Launch) (D : va_G) (aC : Nat → ClassId) (h0 sz : Nat) : Met l y_Table_init w_Table_init rm_Table_init (va_Pc [.ref h0] (cPre D aC sz [(h0, .inr (10, [.int 0, .int 0, .int 0, .null, .null, .null, .int 0, .null, .null, .null]))])) (va_Qv (fun (_ : Nat × Nat × Nat × Nat × Nat × Nat) => True) (fun u t => va_P D vwCl (ws_Table aC h0 (u.1) (u.2.1) (u.2.2.1) (u.2.2.2.1) (u.2.2.2.2.1) (u.2.2.2.2.2)) t.heap ∧ va_D (va_A [(h0, .inr (10, [.int 0, .int 0, .int 0, .null, .null, .null, .int 0, .null, .null, .null]))] sz) (ws_Table aC h0 (u.1) (u.2.1) (u.2.2.1) (u.2.2.2.1) (u.2.2.2.2.1) (u.2.2.2.2.2))) (va_A [(h0, .inr (10, [.int 0, .int 0, .int 0, .null, .null, .null, .int 0, .null, .null, .null]))] sz)) 6 384 (va_A [(h0, .inr (10, [.int 0, .int 0, .int 0, .null, .null, .null, .int 0, .null, .null, .null]))] sz) := by
  refine Met.ofW (cc := prog_10_method_1_code) (maxL := 1) (ret := none) (by decide) rfl ?_
  intro p e s m args below meth c s₁ B hml hv
  obtain ⟨hargs, hsz, hP, hK, hD0⟩ := hv
  have hx := B.exec
  have hb := B.bytes
  have hr := B.returns
  have hts := atoms_spec (ws := w_Table_init) B.pre
  have hg : ∀ w ∈ gW, w.before args s = true := fun w h => hts w (List.mem_cons_of_mem _ h)
  have hown : s.vm.findClass "PrefixCodes$Table" = some m.cls := findClass_of_methodNamed B.named
  have hlocks := B.notSynchronized
  have hin : meth.name = "<init>" := (name_of_methodNamed B.named B.method).1
  subst hsz
  have hD := hD0.self (sz := s.heap.size)
  generalize hAe : va_A [(h0, .inr (10, [.int 0, .int 0, .int 0, .null, .null, .null, .int 0, .null, .null, .null]))] s.heap.size = A at hD ⊢
  have hA : ∀ q : Nat, s.heap.size ≤ q → A q := fun q h => by rw [← hAe]; exact Or.inr h
  have hS : va_S A s.heap s.heap [] := va_S.rf
  have hP : va_P D vwCl [(h0, .inr (10, [.int 0, .int 0, .int 0, .null, .null, .null, .int 0, .null, .null, .null]))] s.heap := hP
  have hl := lv_entry ([.ref h0]) (n := 1) (Nat.le_of_ble_eq_true rfl)
  rw [show entryFrame m args 1 = entryFrame m (([.ref h0] : List Value).toArray) 1 by rw [hargs], lg_entry_eq]
  generalize (lg_sl ([.ref h0]) ++ List.replicate (1 - (lg_sl ([.ref h0])).length) Slot.unset).toArray = ls at hl ⊢
  have hl : lv_has ls 1 [(0, .ref h0)] := hl
  refine lv_aload_n hx hb d_Table_init_0 rfl (lv_at hl 0 rfl) ?_
  refine W.objInit hx hb hown (hg _ we_6) (hg _ we_1) (hg _ we_2) rfl (by rw [hml]; exact hl.1) rfl d_Table_init_1 (Nat.le_of_ble_eq_true rfl) (Nat.le_of_ble_eq_true rfl) ?_
  refine W.eq (g2 := F0 m 4 ls []) rfl ?_
  refine lv_aload_n hx hb d_Table_init_4 rfl (lv_at hl 0 rfl) ?_
  refine lv_iconst (v := 0) hx hb d_Table_init_5 (by decide) ?_
  refine va_put (D := D) (ci := 10) (v := .int 0) (ty := .int) (C := "PrefixCodes$Table") (T := F_Table) (N := 10) hx hb hg u_Table t_Table t_Table_ok n_Table hown hK.1 hP hD hS 0 rfl rfl 0 (by decide) (hg _ wd_273) (fun _ h9 => h9) rfl (by decide +kernel) rfl rfl (Nat.le_of_ble_eq_true rfl) d_Table_init_6 (fun H locs hP hD hS => ?_)
  have hP : va_P D vwCl [(h0, .inr (10, [.int 0, .int 0, .int 0, .null, .null, .null, .int 0, .null, .null, .null]))] H := hP
  have hD : va_D A [(h0, .inr (10, [.int 0, .int 0, .int 0, .null, .null, .null, .int 0, .null, .null, .null]))] := hD
  refine lv_aload_n hx hb d_Table_init_9 rfl (lv_at hl 0 rfl) ?_
  refine lv_iconst (v := 0) hx hb d_Table_init_10 (by decide) ?_
  refine va_put (D := D) (ci := 10) (v := .int 0) (ty := .int) (C := "PrefixCodes$Table") (T := F_Table) (N := 10) hx hb hg u_Table t_Table t_Table_ok n_Table hown hK.1 hP hD hS 0 rfl rfl 1 (by decide) (hg _ wd_282) (fun _ h9 => h9) rfl (by decide +kernel) rfl rfl (Nat.le_of_ble_eq_true rfl) d_Table_init_11 (fun H locs hP hD hS => ?_)
  have hP : va_P D vwCl [(h0, .inr (10, [.int 0, .int 0, .int 0, .null, .null, .null, .int 0, .null, .null, .null]))] H := hP
  have hD : va_D A [(h0, .inr (10, [.int 0, .int 0, .int 0, .null, .null, .null, .int 0, .null, .null, .null]))] := hD
  refine lv_aload_n hx hb d_Table_init_14 rfl (lv_at hl 0 rfl) ?_
  refine lv_iconst (v := 0) hx hb d_Table_init_15 (by decide) ?_
  refine va_put (D := D) (ci := 10) (v := .int 0) (ty := .int) (C := "PrefixCodes$Table") (T := F_Table) (N := 10) hx hb hg u_Table t_Table t_Table_ok n_Table hown hK.1 hP hD hS 0 rfl rfl 2 (by decide) (hg _ wd_275) (fun _ h9 => h9) rfl (by decide +kernel) rfl rfl (Nat.le_of_ble_eq_true rfl) d_Table_init_16 (fun H locs hP hD hS => ?_)
  have hP : va_P D vwCl [(h0, .inr (10, [.int 0, .int 0, .int 0, .null, .null, .null, .int 0, .null, .null, .null]))] H := hP
  have hD : va_D A [(h0, .inr (10, [.int 0, .int 0, .int 0, .null, .null, .null, .int 0, .null, .null, .null]))] := hD
  refine lv_aload_n hx hb d_Table_init_19 rfl (lv_at hl 0 rfl) ?_
  refine lv_bipush (v := 64) hx hb d_Table_init_20 (by decide) ?_
  refine ct_newI hx hb (hg _ we_3) hK hP hD hS hA (n := 64) (N := 64) (by decide) (by decide) (by decide) (Nat.le_of_ble_eq_true rfl) (Nat.le_of_ble_eq_true rfl) d_Table_init_22 (fun q1 H hP hD hS => ?_)
  have hP : va_P D vwCl [(h0, .inr (10, [.int 0, .int 0, .int 0, .null, .null, .null, .int 0, .null, .null, .null])), (q1, .inl (aC 0, 64, .inl (fun _ => 0)))] H := hP
  have hD : va_D A [(h0, .inr (10, [.int 0, .int 0, .int 0, .null, .null, .null, .int 0, .null, .null, .null])), (q1, .inl (aC 0, 64, .inl (fun _ => 0)))] := hD
  refine va_putF (D := D) (ci := 10) (v := .ref q1) (ty := .array .int) (C := "PrefixCodes$Table") (T := F_Table) (N := 10) hx hb hg u_Table t_Table t_Table_ok n_Table hown hK.1 hP hD hS 0 rfl rfl 3 (by decide) (hg _ wd_277) (fun _ h9 => h9) rfl hin rfl (by decide +kernel) rfl rfl (Nat.le_of_ble_eq_true rfl) d_Table_init_24 (fun H locs hP hD hS => ?_)
  have hP : va_P D vwCl [(h0, .inr (10, [.int 0, .int 0, .int 0, .ref q1, .null, .null, .int 0, .null, .null, .null])), (q1, .inl (aC 0, 64, .inl (fun _ => 0)))] H := hP
  have hD : va_D A [(h0, .inr (10, [.int 0, .int 0, .int 0, .ref q1, .null, .null, .int 0, .null, .null, .null])), (q1, .inl (aC 0, 64, .inl (fun _ => 0)))] := hD
  refine lv_aload_n hx hb d_Table_init_27 rfl (lv_at hl 0 rfl) ?_
  refine lv_bipush (v := 64) hx hb d_Table_init_28 (by decide) ?_
  refine ct_newI hx hb (hg _ we_3) hK hP hD hS hA (n := 64) (N := 64) (by decide) (by decide) (by decide) (Nat.le_of_ble_eq_true rfl) (Nat.le_of_ble_eq_true rfl) d_Table_init_30 (fun q2 H hP hD hS => ?_)
  have hP : va_P D vwCl [(h0, .inr (10, [.int 0, .int 0, .int 0, .ref q1, .null, .null, .int 0, .null, .null, .null])), (q1, .inl (aC 0, 64, .inl (fun _ => 0))), (q2, .inl (aC 0, 64, .inl (fun _ => 0)))] H := hP
  have hD : va_D A [(h0, .inr (10, [.int 0, .int 0, .int 0, .ref q1, .null, .null, .int 0, .null, .null, .null])), (q1, .inl (aC 0, 64, .inl (fun _ => 0))), (q2, .inl (aC 0, 64, .inl (fun _ => 0)))] := hD
  refine va_putF (D := D) (ci := 10) (v := .ref q2) (ty := .array .int) (C := "PrefixCodes$Table") (T := F_Table) (N := 10) hx hb hg u_Table t_Table t_Table_ok n_Table hown hK.1 hP hD hS 0 rfl rfl 4 (by decide) (hg _ wd_278) (fun _ h9 => h9) rfl hin rfl (by decide +kernel) rfl rfl (Nat.le_of_ble_eq_true rfl) d_Table_init_32 (fun H locs hP hD hS => ?_)
  have hP : va_P D vwCl [(h0, .inr (10, [.int 0, .int 0, .int 0, .ref q1, .ref q2, .null, .int 0, .null, .null, .null])), (q1, .inl (aC 0, 64, .inl (fun _ => 0))), (q2, .inl (aC 0, 64, .inl (fun _ => 0)))] H := hP
  have hD : va_D A [(h0, .inr (10, [.int 0, .int 0, .int 0, .ref q1, .ref q2, .null, .int 0, .null, .null, .null])), (q1, .inl (aC 0, 64, .inl (fun _ => 0))), (q2, .inl (aC 0, 64, .inl (fun _ => 0)))] := hD
  refine lv_aload_n hx hb d_Table_init_35 rfl (lv_at hl 0 rfl) ?_
  refine lv_bipush (v := 64) hx hb d_Table_init_36 (by decide) ?_
  refine ct_newI hx hb (hg _ we_3) hK hP hD hS hA (n := 64) (N := 64) (by decide) (by decide) (by decide) (Nat.le_of_ble_eq_true rfl) (Nat.le_of_ble_eq_true rfl) d_Table_init_38 (fun q3 H hP hD hS => ?_)
  have hP : va_P D vwCl [(h0, .inr (10, [.int 0, .int 0, .int 0, .ref q1, .ref q2, .null, .int 0, .null, .null, .null])), (q1, .inl (aC 0, 64, .inl (fun _ => 0))), (q2, .inl (aC 0, 64, .inl (fun _ => 0))), (q3, .inl (aC 0, 64, .inl (fun _ => 0)))] H := hP
  have hD : va_D A [(h0, .inr (10, [.int 0, .int 0, .int 0, .ref q1, .ref q2, .null, .int 0, .null, .null, .null])), (q1, .inl (aC 0, 64, .inl (fun _ => 0))), (q2, .inl (aC 0, 64, .inl (fun _ => 0))), (q3, .inl (aC 0, 64, .inl (fun _ => 0)))] := hD
  refine va_putF (D := D) (ci := 10) (v := .ref q3) (ty := .array .int) (C := "PrefixCodes$Table") (T := F_Table) (N := 10) hx hb hg u_Table t_Table t_Table_ok n_Table hown hK.1 hP hD hS 0 rfl rfl 5 (by decide) (hg _ wd_280) (fun _ h9 => h9) rfl hin rfl (by decide +kernel) rfl rfl (Nat.le_of_ble_eq_true rfl) d_Table_init_40 (fun H locs hP hD hS => ?_)
  have hP : va_P D vwCl [(h0, .inr (10, [.int 0, .int 0, .int 0, .ref q1, .ref q2, .ref q3, .int 0, .null, .null, .null])), (q1, .inl (aC 0, 64, .inl (fun _ => 0))), (q2, .inl (aC 0, 64, .inl (fun _ => 0))), (q3, .inl (aC 0, 64, .inl (fun _ => 0)))] H := hP
  have hD : va_D A [(h0, .inr (10, [.int 0, .int 0, .int 0, .ref q1, .ref q2, .ref q3, .int 0, .null, .null, .null])), (q1, .inl (aC 0, 64, .inl (fun _ => 0))), (q2, .inl (aC 0, 64, .inl (fun _ => 0))), (q3, .inl (aC 0, 64, .inl (fun _ => 0)))] := hD
  refine lv_aload_n hx hb d_Table_init_43 rfl (lv_at hl 0 rfl) ?_
  refine lv_iconst (v := 0) hx hb d_Table_init_44 (by decide) ?_
  refine va_put (D := D) (ci := 10) (v := .int 0) (ty := .int) (C := "PrefixCodes$Table") (T := F_Table) (N := 10) hx hb hg u_Table t_Table t_Table_ok n_Table hown hK.1 hP hD hS 0 rfl rfl 6 (by decide) (hg _ wd_270) (fun _ h9 => h9) rfl (by decide +kernel) rfl rfl (Nat.le_of_ble_eq_true rfl) d_Table_init_45 (fun H locs hP hD hS => ?_)
  have hP : va_P D vwCl [(h0, .inr (10, [.int 0, .int 0, .int 0, .ref q1, .ref q2, .ref q3, .int 0, .null, .null, .null])), (q1, .inl (aC 0, 64, .inl (fun _ => 0))), (q2, .inl (aC 0, 64, .inl (fun _ => 0))), (q3, .inl (aC 0, 64, .inl (fun _ => 0)))] H := hP
  have hD : va_D A [(h0, .inr (10, [.int 0, .int 0, .int 0, .ref q1, .ref q2, .ref q3, .int 0, .null, .null, .null])), (q1, .inl (aC 0, 64, .inl (fun _ => 0))), (q2, .inl (aC 0, 64, .inl (fun _ => 0))), (q3, .inl (aC 0, 64, .inl (fun _ => 0)))] := hD
  refine lv_aload_n hx hb d_Table_init_48 rfl (lv_at hl 0 rfl) ?_
  refine lv_bipush (v := 64) hx hb d_Table_init_49 (by decide) ?_
  refine ct_newI hx hb (hg _ we_3) hK hP hD hS hA (n := 64) (N := 64) (by decide) (by decide) (by decide) (Nat.le_of_ble_eq_true rfl) (Nat.le_of_ble_eq_true rfl) d_Table_init_51 (fun q4 H hP hD hS => ?_)
  have hP : va_P D vwCl [(h0, .inr (10, [.int 0, .int 0, .int 0, .ref q1, .ref q2, .ref q3, .int 0, .null, .null, .null])), (q1, .inl (aC 0, 64, .inl (fun _ => 0))), (q2, .inl (aC 0, 64, .inl (fun _ => 0))), (q3, .inl (aC 0, 64, .inl (fun _ => 0))), (q4, .inl (aC 0, 64, .inl (fun _ => 0)))] H := hP
  have hD : va_D A [(h0, .inr (10, [.int 0, .int 0, .int 0, .ref q1, .ref q2, .ref q3, .int 0, .null, .null, .null])), (q1, .inl (aC 0, 64, .inl (fun _ => 0))), (q2, .inl (aC 0, 64, .inl (fun _ => 0))), (q3, .inl (aC 0, 64, .inl (fun _ => 0))), (q4, .inl (aC 0, 64, .inl (fun _ => 0)))] := hD
  refine va_putF (D := D) (ci := 10) (v := .ref q4) (ty := .array .int) (C := "PrefixCodes$Table") (T := F_Table) (N := 10) hx hb hg u_Table t_Table t_Table_ok n_Table hown hK.1 hP hD hS 0 rfl rfl 7 (by decide) (hg _ wd_271) (fun _ h9 => h9) rfl hin rfl (by decide +kernel) rfl rfl (Nat.le_of_ble_eq_true rfl) d_Table_init_53 (fun H locs hP hD hS => ?_)
  have hP : va_P D vwCl [(h0, .inr (10, [.int 0, .int 0, .int 0, .ref q1, .ref q2, .ref q3, .int 0, .ref q4, .null, .null])), (q1, .inl (aC 0, 64, .inl (fun _ => 0))), (q2, .inl (aC 0, 64, .inl (fun _ => 0))), (q3, .inl (aC 0, 64, .inl (fun _ => 0))), (q4, .inl (aC 0, 64, .inl (fun _ => 0)))] H := hP
  have hD : va_D A [(h0, .inr (10, [.int 0, .int 0, .int 0, .ref q1, .ref q2, .ref q3, .int 0, .ref q4, .null, .null])), (q1, .inl (aC 0, 64, .inl (fun _ => 0))), (q2, .inl (aC 0, 64, .inl (fun _ => 0))), (q3, .inl (aC 0, 64, .inl (fun _ => 0))), (q4, .inl (aC 0, 64, .inl (fun _ => 0)))] := hD
  refine lv_aload_n hx hb d_Table_init_56 rfl (lv_at hl 0 rfl) ?_
  refine lv_bipush (v := 64) hx hb d_Table_init_57 (by decide) ?_
  refine ct_newI hx hb (hg _ we_3) hK hP hD hS hA (n := 64) (N := 64) (by decide) (by decide) (by decide) (Nat.le_of_ble_eq_true rfl) (Nat.le_of_ble_eq_true rfl) d_Table_init_59 (fun q5 H hP hD hS => ?_)
  have hP : va_P D vwCl [(h0, .inr (10, [.int 0, .int 0, .int 0, .ref q1, .ref q2, .ref q3, .int 0, .ref q4, .null, .null])), (q1, .inl (aC 0, 64, .inl (fun _ => 0))), (q2, .inl (aC 0, 64, .inl (fun _ => 0))), (q3, .inl (aC 0, 64, .inl (fun _ => 0))), (q4, .inl (aC 0, 64, .inl (fun _ => 0))), (q5, .inl (aC 0, 64, .inl (fun _ => 0)))] H := hP
  have hD : va_D A [(h0, .inr (10, [.int 0, .int 0, .int 0, .ref q1, .ref q2, .ref q3, .int 0, .ref q4, .null, .null])), (q1, .inl (aC 0, 64, .inl (fun _ => 0))), (q2, .inl (aC 0, 64, .inl (fun _ => 0))), (q3, .inl (aC 0, 64, .inl (fun _ => 0))), (q4, .inl (aC 0, 64, .inl (fun _ => 0))), (q5, .inl (aC 0, 64, .inl (fun _ => 0)))] := hD
  refine va_putF (D := D) (ci := 10) (v := .ref q5) (ty := .array .int) (C := "PrefixCodes$Table") (T := F_Table) (N := 10) hx hb hg u_Table t_Table t_Table_ok n_Table hown hK.1 hP hD hS 0 rfl rfl 8 (by decide) (hg _ wd_272) (fun _ h9 => h9) rfl hin rfl (by decide +kernel) rfl rfl (Nat.le_of_ble_eq_true rfl) d_Table_init_61 (fun H locs hP hD hS => ?_)
  have hP : va_P D vwCl [(h0, .inr (10, [.int 0, .int 0, .int 0, .ref q1, .ref q2, .ref q3, .int 0, .ref q4, .ref q5, .null])), (q1, .inl (aC 0, 64, .inl (fun _ => 0))), (q2, .inl (aC 0, 64, .inl (fun _ => 0))), (q3, .inl (aC 0, 64, .inl (fun _ => 0))), (q4, .inl (aC 0, 64, .inl (fun _ => 0))), (q5, .inl (aC 0, 64, .inl (fun _ => 0)))] H := hP
  have hD : va_D A [(h0, .inr (10, [.int 0, .int 0, .int 0, .ref q1, .ref q2, .ref q3, .int 0, .ref q4, .ref q5, .null])), (q1, .inl (aC 0, 64, .inl (fun _ => 0))), (q2, .inl (aC 0, 64, .inl (fun _ => 0))), (q3, .inl (aC 0, 64, .inl (fun _ => 0))), (q4, .inl (aC 0, 64, .inl (fun _ => 0))), (q5, .inl (aC 0, 64, .inl (fun _ => 0)))] := hD
  refine lv_aload_n hx hb d_Table_init_64 rfl (lv_at hl 0 rfl) ?_
  refine lv_bipush (v := 64) hx hb d_Table_init_65 (by decide) ?_
  refine ct_newI hx hb (hg _ we_3) hK hP hD hS hA (n := 64) (N := 64) (by decide) (by decide) (by decide) (Nat.le_of_ble_eq_true rfl) (Nat.le_of_ble_eq_true rfl) d_Table_init_67 (fun q6 H hP hD hS => ?_)
  have hP : va_P D vwCl [(h0, .inr (10, [.int 0, .int 0, .int 0, .ref q1, .ref q2, .ref q3, .int 0, .ref q4, .ref q5, .null])), (q1, .inl (aC 0, 64, .inl (fun _ => 0))), (q2, .inl (aC 0, 64, .inl (fun _ => 0))), (q3, .inl (aC 0, 64, .inl (fun _ => 0))), (q4, .inl (aC 0, 64, .inl (fun _ => 0))), (q5, .inl (aC 0, 64, .inl (fun _ => 0))), (q6, .inl (aC 0, 64, .inl (fun _ => 0)))] H := hP
  have hD : va_D A [(h0, .inr (10, [.int 0, .int 0, .int 0, .ref q1, .ref q2, .ref q3, .int 0, .ref q4, .ref q5, .null])), (q1, .inl (aC 0, 64, .inl (fun _ => 0))), (q2, .inl (aC 0, 64, .inl (fun _ => 0))), (q3, .inl (aC 0, 64, .inl (fun _ => 0))), (q4, .inl (aC 0, 64, .inl (fun _ => 0))), (q5, .inl (aC 0, 64, .inl (fun _ => 0))), (q6, .inl (aC 0, 64, .inl (fun _ => 0)))] := hD
  refine va_putF (D := D) (ci := 10) (v := .ref q6) (ty := .array .int) (C := "PrefixCodes$Table") (T := F_Table) (N := 10) hx hb hg u_Table t_Table t_Table_ok n_Table hown hK.1 hP hD hS 0 rfl rfl 9 (by decide) (hg _ wd_283) (fun _ h9 => h9) rfl hin rfl (by decide +kernel) rfl rfl (Nat.le_of_ble_eq_true rfl) d_Table_init_69 (fun H locs hP hD hS => ?_)
  have hP : va_P D vwCl [(h0, .inr (10, [.int 0, .int 0, .int 0, .ref q1, .ref q2, .ref q3, .int 0, .ref q4, .ref q5, .ref q6])), (q1, .inl (aC 0, 64, .inl (fun _ => 0))), (q2, .inl (aC 0, 64, .inl (fun _ => 0))), (q3, .inl (aC 0, 64, .inl (fun _ => 0))), (q4, .inl (aC 0, 64, .inl (fun _ => 0))), (q5, .inl (aC 0, 64, .inl (fun _ => 0))), (q6, .inl (aC 0, 64, .inl (fun _ => 0)))] H := hP
  have hD : va_D A [(h0, .inr (10, [.int 0, .int 0, .int 0, .ref q1, .ref q2, .ref q3, .int 0, .ref q4, .ref q5, .ref q6])), (q1, .inl (aC 0, 64, .inl (fun _ => 0))), (q2, .inl (aC 0, 64, .inl (fun _ => 0))), (q3, .inl (aC 0, 64, .inl (fun _ => 0))), (q4, .inl (aC 0, 64, .inl (fun _ => 0))), (q5, .inl (aC 0, 64, .inl (fun _ => 0))), (q6, .inl (aC 0, 64, .inl (fun _ => 0)))] := hD
  exact W.vret hx hb hr (fun t ht hW => ⟨⟨(q1, q2, q3, q4, q5, q6), rfl, trivial, by rw [ht]; exact hP, hD⟩, hS.F ht⟩) hS.2.2 d_Table_init_72
def y_Text_init : MethodName := ⟨"PrefixCodes$Text", "<init>", "()V"⟩
abbrev w_Text_init : List Cond := Cond.code ⟨"PrefixCodes$Text", "<init>", "()V"⟩ prog_11_method_1_code 1 none :: gW
abbrev rm_Text_init : Room := { frames := 1, cells := 3, slots := 1069, locals := 16 }
theorem yd_Text_init : (⟨"PrefixCodes$Text", "<init>", "()V"⟩ : MethodName).cls = "PrefixCodes$Text" ∧ (⟨"PrefixCodes$Text", "<init>", "()V"⟩ : MethodName).cls ≠ "java/lang/invoke/MethodHandle" ∧ (⟨"PrefixCodes$Text", "<init>", "()V"⟩ : MethodName).cls ≠ "java/lang/invoke/VarHandle" ∧ (parseMethodDescriptor (⟨"PrefixCodes$Text", "<init>", "()V"⟩ : MethodName).desc).map (fun d => d.parameters.length) = some 0 := by decide +kernel
theorem d_Text_init_0 : decode prog_11_method_1_code 0 = .ok (.aload_n 0, 1) := by decide +kernel
theorem d_Text_init_1 : decode prog_11_method_1_code 1 = .ok (.invokespecial 3, 3) := by decide +kernel
theorem d_Text_init_4 : decode prog_11_method_1_code 4 = .ok (.aload_n 0, 1) := by decide +kernel
theorem d_Text_init_5 : decode prog_11_method_1_code 5 = .ok (.sipush 1000, 3) := by decide +kernel
theorem d_Text_init_8 : decode prog_11_method_1_code 8 = .ok (.newarray .int, 2) := by decide +kernel
theorem d_Text_init_10 : decode prog_11_method_1_code 10 = .ok (.putfield 9, 3) := by decide +kernel
theorem d_Text_init_13 : decode prog_11_method_1_code 13 = .ok (.aload_n 0, 1) := by decide +kernel
theorem d_Text_init_14 : decode prog_11_method_1_code 14 = .ok (.iconst 0, 1) := by decide +kernel
theorem d_Text_init_15 : decode prog_11_method_1_code 15 = .ok (.putfield 15, 3) := by decide +kernel
theorem d_Text_init_18 : decode prog_11_method_1_code 18 = .ok (.aload_n 0, 1) := by decide +kernel
theorem d_Text_init_19 : decode prog_11_method_1_code 19 = .ok (.iconst 5, 1) := by decide +kernel
theorem d_Text_init_20 : decode prog_11_method_1_code 20 = .ok (.newarray .int, 2) := by decide +kernel
theorem d_Text_init_22 : decode prog_11_method_1_code 22 = .ok (.putfield 19, 3) := by decide +kernel
theorem d_Text_init_25 : decode prog_11_method_1_code 25 = .ok (.aload_n 0, 1) := by decide +kernel
theorem d_Text_init_26 : decode prog_11_method_1_code 26 = .ok (.bipush 64, 2) := by decide +kernel
theorem d_Text_init_28 : decode prog_11_method_1_code 28 = .ok (.newarray .int, 2) := by decide +kernel
theorem d_Text_init_30 : decode prog_11_method_1_code 30 = .ok (.putfield 22, 3) := by decide +kernel
theorem d_Text_init_33 : decode prog_11_method_1_code 33 = .ok (.return_, 1) := by decide +kernel
def ws_Text (aC : Nat → ClassId) (h0 : Nat) (q1 q2 q3 : Nat) : va_W := [(h0, .inr (11, [.ref q1, .int 0, .ref q2, .ref q3])), (q1, .inl (aC 0, 1000, .inl (fun _ => 0))), (q2, .inl (aC 0, 5, .inl (fun _ => 0))), (q3, .inl (aC 0, 64, .inl (fun _ => 0)))]
set_option maxHeartbeats 4000000 in
set_option maxRecDepth 100000 in
theorem c_Text_init (l : Launch) (D : va_G) (aC : Nat → ClassId) (h0 sz : Nat) : Met l y_Text_init w_Text_init rm_Text_init (va_Pc [.ref h0] (cPre D aC sz [(h0, .inr (11, [.null, .int 0, .null, .null]))])) (va_Qv (fun (_ : Nat × Nat × Nat) => True) (fun u t => va_P D vwCl (ws_Text aC h0 (u.1) (u.2.1) (u.2.2)) t.heap ∧ va_D (va_A [(h0, .inr (11, [.null, .int 0, .null, .null]))] sz) (ws_Text aC h0 (u.1) (u.2.1) (u.2.2))) (va_A [(h0, .inr (11, [.null, .int 0, .null, .null]))] sz)) 3 1069 (va_A [(h0, .inr (11, [.null, .int 0, .null, .null]))] sz) := by
  refine Met.ofW (cc := prog_11_method_1_code) (maxL := 1) (ret := none) (by decide) rfl ?_
  intro p e s m args below meth c s₁ B hml hv
  obtain ⟨hargs, hsz, hP, hK, hD0⟩ := hv
  have hx := B.exec
  have hb := B.bytes
  have hr := B.returns
  have hts := atoms_spec (ws := w_Text_init) B.pre
  have hg : ∀ w ∈ gW, w.before args s = true := fun w h => hts w (List.mem_cons_of_mem _ h)
  have hown : s.vm.findClass "PrefixCodes$Text" = some m.cls := findClass_of_methodNamed B.named
  have hlocks := B.notSynchronized
  have hin : meth.name = "<init>" := (name_of_methodNamed B.named B.method).1
  subst hsz
  have hD := hD0.self (sz := s.heap.size)
  generalize hAe : va_A [(h0, .inr (11, [.null, .int 0, .null, .null]))] s.heap.size = A at hD ⊢
  have hA : ∀ q : Nat, s.heap.size ≤ q → A q := fun q h => by rw [← hAe]; exact Or.inr h
  have hS : va_S A s.heap s.heap [] := va_S.rf
  have hP : va_P D vwCl [(h0, .inr (11, [.null, .int 0, .null, .null]))] s.heap := hP
  have hl := lv_entry ([.ref h0]) (n := 1) (Nat.le_of_ble_eq_true rfl)
  rw [show entryFrame m args 1 = entryFrame m (([.ref h0] : List Value).toArray) 1 by rw [hargs], lg_entry_eq]
  generalize (lg_sl ([.ref h0]) ++ List.replicate (1 - (lg_sl ([.ref h0])).length) Slot.unset).toArray = ls at hl ⊢
  have hl : lv_has ls 1 [(0, .ref h0)] := hl
  refine lv_aload_n hx hb d_Text_init_0 rfl (lv_at hl 0 rfl) ?_
  refine W.objInit hx hb hown (hg _ we_7) (hg _ we_1) (hg _ we_2) rfl (by rw [hml]; exact hl.1) rfl d_Text_init_1 (Nat.le_of_ble_eq_true rfl) (Nat.le_of_ble_eq_true rfl) ?_
  refine W.eq (g2 := F0 m 4 ls []) rfl ?_
  refine lv_aload_n hx hb d_Text_init_4 rfl (lv_at hl 0 rfl) ?_
  refine lv_sipush (v := 1000) hx hb d_Text_init_5 (by decide) ?_
  refine ct_newI hx hb (hg _ we_3) hK hP hD hS hA (n := 1000) (N := 1000) (by decide) (by decide) (by decide) (Nat.le_of_ble_eq_true rfl) (Nat.le_of_ble_eq_true rfl) d_Text_init_8 (fun q1 H hP hD hS => ?_)
  have hP : va_P D vwCl [(h0, .inr (11, [.null, .int 0, .null, .null])), (q1, .inl (aC 0, 1000, .inl (fun _ => 0)))] H := hP
  have hD : va_D A [(h0, .inr (11, [.null, .int 0, .null, .null])), (q1, .inl (aC 0, 1000, .inl (fun _ => 0)))] := hD
  refine va_putF (D := D) (ci := 11) (v := .ref q1) (ty := .array .int) (C := "PrefixCodes$Text") (T := F_Text) (N := 4) hx hb hg u_Text t_Text t_Text_ok n_Text hown hK.1 hP hD hS 0 rfl rfl 0 (by decide) (hg _ wd_69) (fun _ h9 => h9) rfl hin rfl (by decide +kernel) rfl rfl (Nat.le_of_ble_eq_true rfl) d_Text_init_10 (fun H locs hP hD hS => ?_)
  have hP : va_P D vwCl [(h0, .inr (11, [.ref q1, .int 0, .null, .null])), (q1, .inl (aC 0, 1000, .inl (fun _ => 0)))] H := hP
  have hD : va_D A [(h0, .inr (11, [.ref q1, .int 0, .null, .null])), (q1, .inl (aC 0, 1000, .inl (fun _ => 0)))] := hD
  refine lv_aload_n hx hb d_Text_init_13 rfl (lv_at hl 0 rfl) ?_
  refine lv_iconst (v := 0) hx hb d_Text_init_14 (by decide) ?_
  refine va_put (D := D) (ci := 11) (v := .int 0) (ty := .int) (C := "PrefixCodes$Text") (T := F_Text) (N := 4) hx hb hg u_Text t_Text t_Text_ok n_Text hown hK.1 hP hD hS 0 rfl rfl 1 (by decide) (hg _ wd_68) (fun _ h9 => h9) rfl (by decide +kernel) rfl rfl (Nat.le_of_ble_eq_true rfl) d_Text_init_15 (fun H locs hP hD hS => ?_)
  have hP : va_P D vwCl [(h0, .inr (11, [.ref q1, .int 0, .null, .null])), (q1, .inl (aC 0, 1000, .inl (fun _ => 0)))] H := hP
  have hD : va_D A [(h0, .inr (11, [.ref q1, .int 0, .null, .null])), (q1, .inl (aC 0, 1000, .inl (fun _ => 0)))] := hD
  refine lv_aload_n hx hb d_Text_init_18 rfl (lv_at hl 0 rfl) ?_
  refine lv_iconst (v := 5) hx hb d_Text_init_19 (by decide) ?_
  refine ct_newI hx hb (hg _ we_3) hK hP hD hS hA (n := 5) (N := 5) (by decide) (by decide) (by decide) (Nat.le_of_ble_eq_true rfl) (Nat.le_of_ble_eq_true rfl) d_Text_init_20 (fun q2 H hP hD hS => ?_)
  have hP : va_P D vwCl [(h0, .inr (11, [.ref q1, .int 0, .null, .null])), (q1, .inl (aC 0, 1000, .inl (fun _ => 0))), (q2, .inl (aC 0, 5, .inl (fun _ => 0)))] H := hP
  have hD : va_D A [(h0, .inr (11, [.ref q1, .int 0, .null, .null])), (q1, .inl (aC 0, 1000, .inl (fun _ => 0))), (q2, .inl (aC 0, 5, .inl (fun _ => 0)))] := hD
  refine va_putF (D := D) (ci := 11) (v := .ref q2) (ty := .array .int) (C := "PrefixCodes$Text") (T := F_Text) (N := 4) hx hb hg u_Text t_Text t_Text_ok n_Text hown hK.1 hP hD hS 0 rfl rfl 2 (by decide) (hg _ wd_314) (fun _ h9 => h9) rfl hin rfl (by decide +kernel) rfl rfl (Nat.le_of_ble_eq_true rfl) d_Text_init_22 (fun H locs hP hD hS => ?_)
  have hP : va_P D vwCl [(h0, .inr (11, [.ref q1, .int 0, .ref q2, .null])), (q1, .inl (aC 0, 1000, .inl (fun _ => 0))), (q2, .inl (aC 0, 5, .inl (fun _ => 0)))] H := hP
  have hD : va_D A [(h0, .inr (11, [.ref q1, .int 0, .ref q2, .null])), (q1, .inl (aC 0, 1000, .inl (fun _ => 0))), (q2, .inl (aC 0, 5, .inl (fun _ => 0)))] := hD
  refine lv_aload_n hx hb d_Text_init_25 rfl (lv_at hl 0 rfl) ?_
  refine lv_bipush (v := 64) hx hb d_Text_init_26 (by decide) ?_
  refine ct_newI hx hb (hg _ we_3) hK hP hD hS hA (n := 64) (N := 64) (by decide) (by decide) (by decide) (Nat.le_of_ble_eq_true rfl) (Nat.le_of_ble_eq_true rfl) d_Text_init_28 (fun q3 H hP hD hS => ?_)
  have hP : va_P D vwCl [(h0, .inr (11, [.ref q1, .int 0, .ref q2, .null])), (q1, .inl (aC 0, 1000, .inl (fun _ => 0))), (q2, .inl (aC 0, 5, .inl (fun _ => 0))), (q3, .inl (aC 0, 64, .inl (fun _ => 0)))] H := hP
  have hD : va_D A [(h0, .inr (11, [.ref q1, .int 0, .ref q2, .null])), (q1, .inl (aC 0, 1000, .inl (fun _ => 0))), (q2, .inl (aC 0, 5, .inl (fun _ => 0))), (q3, .inl (aC 0, 64, .inl (fun _ => 0)))] := hD
  refine va_putF (D := D) (ci := 11) (v := .ref q3) (ty := .array .int) (C := "PrefixCodes$Text") (T := F_Text) (N := 4) hx hb hg u_Text t_Text t_Text_ok n_Text hown hK.1 hP hD hS 0 rfl rfl 3 (by decide) (hg _ wd_325) (fun _ h9 => h9) rfl hin rfl (by decide +kernel) rfl rfl (Nat.le_of_ble_eq_true rfl) d_Text_init_30 (fun H locs hP hD hS => ?_)
  have hP : va_P D vwCl [(h0, .inr (11, [.ref q1, .int 0, .ref q2, .ref q3])), (q1, .inl (aC 0, 1000, .inl (fun _ => 0))), (q2, .inl (aC 0, 5, .inl (fun _ => 0))), (q3, .inl (aC 0, 64, .inl (fun _ => 0)))] H := hP
  have hD : va_D A [(h0, .inr (11, [.ref q1, .int 0, .ref q2, .ref q3])), (q1, .inl (aC 0, 1000, .inl (fun _ => 0))), (q2, .inl (aC 0, 5, .inl (fun _ => 0))), (q3, .inl (aC 0, 64, .inl (fun _ => 0)))] := hD
  exact W.vret hx hb hr (fun t ht hW => ⟨⟨(q1, q2, q3), rfl, trivial, by rw [ht]; exact hP, hD⟩, hS.F ht⟩) hS.2.2 d_Text_init_33
