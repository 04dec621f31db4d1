theorem d_law_822 : decode code 822 = .ok (.aload_n 1, 1) := by decide +kernel
theorem d_law_823 : decode code 823 = .ok (.aload_n 0, 1) := by decide +kernel
theorem d_law_824 : decode code 824 = .ok (.iload 4, 2) := by decide +kernel
theorem d_law_826 : decode code 826 = .ok (.iconst 1, 1) := by decide +kernel
theorem d_law_827 : decode code 827 = .ok (.iadd, 1) := by decide +kernel
theorem d_law_828 : decode code 828 = .ok (.iaload, 1) := by decide +kernel
theorem d_law_829 : decode code 829 = .ok (.aload_n 0, 1) := by decide +kernel
theorem d_law_830 : decode code 830 = .ok (.iload 4, 2) := by decide +kernel
theorem d_law_832 : decode code 832 = .ok (.iconst 2, 1) := by decide +kernel
theorem d_law_833 : decode code 833 = .ok (.iadd, 1) := by decide +kernel
theorem d_law_834 : decode code 834 = .ok (.iaload, 1) := by decide +kernel
theorem d_law_835 : decode code 835 = .ok (.aload_n 3, 1) := by decide +kernel
theorem d_law_836 : decode code 836 = .ok (.invokestatic 108, 3) := by decide +kernel
theorem d_law_839 : decode code 839 = .ok (.istore 5, 2) := by decide +kernel
theorem d_law_841 : decode code 841 = .ok (.aload_n 2, 1) := by decide +kernel
theorem d_law_842 : decode code 842 = .ok (.aload_n 0, 1) := by decide +kernel
theorem d_law_843 : decode code 843 = .ok (.iload 4, 2) := by decide +kernel
theorem d_law_845 : decode code 845 = .ok (.iconst 1, 1) := by decide +kernel
theorem d_law_846 : decode code 846 = .ok (.iadd, 1) := by decide +kernel
theorem d_law_847 : decode code 847 = .ok (.iaload, 1) := by decide +kernel
theorem d_law_848 : decode code 848 = .ok (.aload_n 0, 1) := by decide +kernel
theorem d_law_849 : decode code 849 = .ok (.iload 4, 2) := by decide +kernel
theorem d_law_851 : decode code 851 = .ok (.iconst 2, 1) := by decide +kernel
theorem d_law_852 : decode code 852 = .ok (.iadd, 1) := by decide +kernel
theorem d_law_853 : decode code 853 = .ok (.iaload, 1) := by decide +kernel
theorem d_law_854 : decode code 854 = .ok (.invokevirtual 111, 3) := by decide +kernel
theorem d_law_857 : decode code 857 = .ok (.istore 6, 2) := by decide +kernel
theorem d_law_859 : decode code 859 = .ok (.aload_n 2, 1) := by decide +kernel
theorem d_law_860 : decode code 860 = .ok (.invokevirtual 72, 3) := by decide +kernel
theorem d_law_863 : decode code 863 = .ok (.iload 5, 2) := by decide +kernel
theorem d_law_865 : decode code 865 = .ok (.if_icmp .eq 5, 3) := by decide +kernel
theorem d_law_870 : decode code 870 = .ok (.iload 5, 2) := by decide +kernel
theorem d_law_872 : decode code 872 = .ok (.ifCond .ne 15, 3) := by decide +kernel
theorem d_law_875 : decode code 875 = .ok (.aload_n 3, 1) := by decide +kernel
theorem d_law_876 : decode code 876 = .ok (.iconst 0, 1) := by decide +kernel
theorem d_law_877 : decode code 877 = .ok (.laload, 1) := by decide +kernel
theorem d_law_878 : decode code 878 = .ok (.iload 6, 2) := by decide +kernel
theorem d_law_880 : decode code 880 = .ok (.i2l, 1) := by decide +kernel
theorem d_law_881 : decode code 881 = .ok (.lcmp, 1) := by decide +kernel
theorem d_law_882 : decode code 882 = .ok (.ifCond .eq 5, 3) := by decide +kernel
theorem d_law_887 : decode code 887 = .ok (.goto 305, 3) := by decide +kernel
section LCASE
variable {p : Program} {l : Launch} {e : Env} {s : State} {m : MethodId} {args : Array Value} {below : List Frame} {meth : Method} {c : Code} {H : Heap} {locs : List Loc} {cells slots : Nat} {Q : State → Prop}
variable {b L i : Nat} {xs : Nat → Int32} {ls : Array Slot} {D : va_G} {aC : Nat → ClassId} {A : Nat → Prop} {ad : Nat → Nat → Nat} {n : Nat} {σ : St}
set_option maxHeartbeats 4000000 in
set_option maxRecDepth 100000 in
theorem lc_18 (C : LC l p s m c args b L xs D aC A) (hL : L ≤ 3072) (hi : i + 6 ≤ L) (hc : cells + 42 ≤ 601024 ∧ slots + 1506 ≤ 7293033) (hH : Hold D aC A ad n σ H) (hI : II σ) (hS : va_S A s.heap H locs) (hl : lv_has ls 7 (lvL b ad i)) (KK : LK p l e s m args below meth c b i D aC A ad cells slots Q) : W p l e room_1 s m args below meth c H locs cells slots Q (F0 m 822 ls []) := by
  obtain ⟨hx, hb, hml, hown, hg, hK, hZ, hT, hX, hbl, hbA, hA, hlt⟩ := C
  have hf : cells ≤ room_1.cells ∧ slots ≤ room_1.slots := ⟨by show cells ≤ 601024; omega, by show slots ≤ 7293033; omega⟩
  obtain ⟨o, σ2, r2, f1, f2, f4, f5, f6⟩ := l_entry hI (xs (i + 1)) (xs (i + 2))
  refine lv_aload_n hx hb d_law_822 rfl (lv_at hl 1 rfl) ?_
  refine st_arg 1 (k := 1) hx hb (lv_at hl 0 rfl) (lv_at hl 4 rfl) hX hbl hbA hS hL (by omega) rfl rfl d_law_823 d_law_824 d_law_826 d_law_827 d_law_828 ?_
  refine st_arg 2 (k := 2) hx hb (lv_at hl 0 rfl) (lv_at hl 4 rfl) hX hbl hbA hS hL (by omega) rfl rfl d_law_829 d_law_830 d_law_832 d_law_833 d_law_834 ?_
  refine lv_aload_n hx hb d_law_835 rfl (lv_at hl 3 rfl) ?_
  refine st_SW (As := [.ref (ad 0 0), .int (xs (i + 1)), .int (xs (i + 2)), .ref (ad 70 0)]) (rest := []) (k := 4) (mc := 1) (ms := 6) ⟨hx, hb, hml, hown, hg⟩ (c_Lw_entry l hlt D aC A ad n σ (xs (i + 1)) (xs (i + 2)) o f1) rfl rfl ⟨Nat.le_of_ble_eq_true rfl, Nat.le_of_ble_eq_true rfl⟩ lw_entry_c (hg _ we_172) ⟨by decide, by decide⟩ (by decide +kernel) (hg _ we_244) (hg _ we_245) hK hH hS hZ hT rfl hl.1 rfl (Nat.le_of_ble_eq_true rfl) d_law_836 ⟨by show cells + 1 ≤ 601024; omega, by show slots + 6 ≤ 7293033; omega⟩ (fun H locs hH hS => ?_)
  refine lv_istore hx hb d_law_839 hl (by decide) rfl (fun ls hl => ?_)
  refine lv_aload_n hx hb d_law_841 rfl (lv_at hl 3 rfl) ?_
  refine st_arg 1 (k := 1) hx hb (lv_at hl 1 rfl) (lv_at hl 5 rfl) hX hbl hbA hS hL (by omega) rfl rfl d_law_842 d_law_843 d_law_845 d_law_846 d_law_847 ?_
  refine st_arg 2 (k := 2) hx hb (lv_at hl 1 rfl) (lv_at hl 5 rfl) hX hbl hbA hS hL (by omega) rfl rfl d_law_848 d_law_849 d_law_851 d_law_852 d_law_853 ?_
  refine st_Vi (As := [.int (xs (i + 1)), .int (xs (i + 2))]) (rest := []) ⟨hx, hb, hml, hown, hg⟩ (c_Mo_entry l D aC A ad n _ (xs (i + 1)) (xs (i + 2)) _ f2) (cwG hg we_246 we_247 we_248 we_249 wd_428 yd_Mo_entry ⟨Nat.le_of_ble_eq_true rfl, Nat.le_of_ble_eq_true rfl⟩) hK hH hS hZ hd_48 rfl rfl rfl hl.1 rfl (Nat.le_of_ble_eq_true rfl) d_law_854 ⟨by show cells + 1 ≤ 601024; omega, by show slots + 6 ≤ 7293033; omega⟩ (fun H locs hH hS => ?_)
  refine lv_istore hx hb d_law_857 hl (by decide) rfl (fun ls hl => ?_)
  refine lv_aload_n hx hb d_law_859 rfl (lv_at hl 4 rfl) ?_
  refine st_Vi (As := []) (rest := []) ⟨hx, hb, hml, hown, hg⟩ (c_Mo_thrown l D aC A ad n σ2 (σ2, σ2.1 48 0 0) rfl) (cwG hg we_179 we_180 we_181 we_182 wd_428 yd_Mo_thrown ⟨Nat.le_of_ble_eq_true rfl, Nat.le_of_ble_eq_true rfl⟩) hK hH hS hZ hd_48 rfl rfl rfl hl.1 rfl (Nat.le_of_ble_eq_true rfl) d_law_860 ⟨by show cells + 1 ≤ 601024; omega, by show slots + 6 ≤ 7293033; omega⟩ (fun H locs hH hS => ?_)
  have fin : W p l e room_1 s m args below meth c H locs (cells + 1) (slots + 6) Q (F0 m 887 ls []) := lv_goto (tgt := 1192) hx hb d_law_887 (by decide) (W.widen (by omega) (by omega) (KK ad _ σ2 H locs ls rfl rfl rfl hH f4 hS (lv_sub hl [2, 3, 4, 5, 6] rfl)))
  refine lv_iload hx hb d_law_863 (lv_at hl 1 rfl) ?_
  refine lv_icmp_eq (tgt := 870) hx hb d_law_865 (by decide) (fun _ => ?_) (fun z => absurd f5 z)
  refine lv_iload hx hb d_law_870 (lv_at hl 1 rfl) ?_
  refine lv_if_ne (tgt := 887) hx hb d_law_872 (by decide) (fun _ => fin) (fun z => ?_)
  refine lv_aload_n hx hb d_law_875 rfl (lv_at hl 5 rfl) ?_
  refine lv_iconst (v := 0) hx hb d_law_876 (by decide) ?_
  refine st_lald hx hb hK hH (f := 70) (i := 0) hd_70 rfl (by decide) d_law_877 ?_
  refine lv_iload hx hb d_law_878 (lv_at hl 0 rfl) ?_
  refine lv_i2l hx hb d_law_880 rfl ?_
  exact st_lcmp_eq (tgt := 887) hx hb d_law_881 d_law_882 (by decide) (fun _ => fin) (fun w => absurd (f6 z) w)
end LCASE
