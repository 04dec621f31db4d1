theorem d_law_976 : decode code 976 = .ok (.aload_n 1, 1) := by decide +kernel
theorem d_law_977 : decode code 977 = .ok (.aload_n 0, 1) := by decide +kernel
theorem d_law_978 : decode code 978 = .ok (.iload 4, 2) := by decide +kernel
theorem d_law_980 : decode code 980 = .ok (.iconst 1, 1) := by decide +kernel
theorem d_law_981 : decode code 981 = .ok (.iadd, 1) := by decide +kernel
theorem d_law_982 : decode code 982 = .ok (.iaload, 1) := by decide +kernel
theorem d_law_983 : decode code 983 = .ok (.aload_n 0, 1) := by decide +kernel
theorem d_law_984 : decode code 984 = .ok (.iload 4, 2) := by decide +kernel
theorem d_law_986 : decode code 986 = .ok (.iconst 2, 1) := by decide +kernel
theorem d_law_987 : decode code 987 = .ok (.iadd, 1) := by decide +kernel
theorem d_law_988 : decode code 988 = .ok (.iaload, 1) := by decide +kernel
theorem d_law_989 : decode code 989 = .ok (.aload_n 0, 1) := by decide +kernel
theorem d_law_990 : decode code 990 = .ok (.iload 4, 2) := by decide +kernel
theorem d_law_992 : decode code 992 = .ok (.iconst 3, 1) := by decide +kernel
theorem d_law_993 : decode code 993 = .ok (.iadd, 1) := by decide +kernel
theorem d_law_994 : decode code 994 = .ok (.iaload, 1) := by decide +kernel
theorem d_law_995 : decode code 995 = .ok (.aload_n 0, 1) := by decide +kernel
theorem d_law_996 : decode code 996 = .ok (.iload 4, 2) := by decide +kernel
theorem d_law_998 : decode code 998 = .ok (.iconst 4, 1) := by decide +kernel
theorem d_law_999 : decode code 999 = .ok (.iadd, 1) := by decide +kernel
theorem d_law_1000 : decode code 1000 = .ok (.iaload, 1) := by decide +kernel
theorem d_law_1001 : decode code 1001 = .ok (.invokevirtual 121, 3) := by decide +kernel
theorem d_law_1004 : decode code 1004 = .ok (.aload_n 2, 1) := by decide +kernel
theorem d_law_1005 : decode code 1005 = .ok (.aload_n 0, 1) := by decide +kernel
theorem d_law_1006 : decode code 1006 = .ok (.iload 4, 2) := by decide +kernel
theorem d_law_1008 : decode code 1008 = .ok (.iconst 1, 1) := by decide +kernel
theorem d_law_1009 : decode code 1009 = .ok (.iadd, 1) := by decide +kernel
theorem d_law_1010 : decode code 1010 = .ok (.iaload, 1) := by decide +kernel
theorem d_law_1011 : decode code 1011 = .ok (.aload_n 0, 1) := by decide +kernel
theorem d_law_1012 : decode code 1012 = .ok (.iload 4, 2) := by decide +kernel
theorem d_law_1014 : decode code 1014 = .ok (.iconst 2, 1) := by decide +kernel
theorem d_law_1015 : decode code 1015 = .ok (.iadd, 1) := by decide +kernel
theorem d_law_1016 : decode code 1016 = .ok (.iaload, 1) := by decide +kernel
theorem d_law_1017 : decode code 1017 = .ok (.aload_n 0, 1) := by decide +kernel
theorem d_law_1018 : decode code 1018 = .ok (.iload 4, 2) := by decide +kernel
theorem d_law_1020 : decode code 1020 = .ok (.iconst 3, 1) := by decide +kernel
theorem d_law_1021 : decode code 1021 = .ok (.iadd, 1) := by decide +kernel
theorem d_law_1022 : decode code 1022 = .ok (.iaload, 1) := by decide +kernel
theorem d_law_1023 : decode code 1023 = .ok (.aload_n 0, 1) := by decide +kernel
theorem d_law_1024 : decode code 1024 = .ok (.iload 4, 2) := by decide +kernel
theorem d_law_1026 : decode code 1026 = .ok (.iconst 4, 1) := by decide +kernel
theorem d_law_1027 : decode code 1027 = .ok (.iadd, 1) := by decide +kernel
theorem d_law_1028 : decode code 1028 = .ok (.iaload, 1) := by decide +kernel
theorem d_law_1029 : decode code 1029 = .ok (.invokevirtual 125, 3) := by decide +kernel
theorem d_law_1032 : decode code 1032 = .ok (.if_icmp .eq 160, 3) := by decide +kernel
theorem d_law_1037 : decode code 1037 = .ok (.aload_n 1, 1) := by decide +kernel
theorem d_law_1038 : decode code 1038 = .ok (.aload_n 0, 1) := by decide +kernel
theorem d_law_1039 : decode code 1039 = .ok (.iload 4, 2) := by decide +kernel
theorem d_law_1041 : decode code 1041 = .ok (.iconst 1, 1) := by decide +kernel
theorem d_law_1042 : decode code 1042 = .ok (.iadd, 1) := by decide +kernel
theorem d_law_1043 : decode code 1043 = .ok (.iaload, 1) := by decide +kernel
theorem d_law_1044 : decode code 1044 = .ok (.invokevirtual 126, 3) := by decide +kernel
theorem d_law_1047 : decode code 1047 = .ok (.aload_n 2, 1) := by decide +kernel
theorem d_law_1048 : decode code 1048 = .ok (.aload_n 0, 1) := by decide +kernel
theorem d_law_1049 : decode code 1049 = .ok (.iload 4, 2) := by decide +kernel
theorem d_law_1051 : decode code 1051 = .ok (.iconst 1, 1) := by decide +kernel
theorem d_law_1052 : decode code 1052 = .ok (.iadd, 1) := by decide +kernel
theorem d_law_1053 : decode code 1053 = .ok (.iaload, 1) := by decide +kernel
theorem d_law_1054 : decode code 1054 = .ok (.invokevirtual 129, 3) := by decide +kernel
theorem d_law_1057 : decode code 1057 = .ok (.if_icmp .eq 135, 3) := by decide +kernel
section LCASE
variable {p : Program} {l : Launch} {e : Env} {s : State} {m : MethodId} {args : Array Value} {below : List Frame} {meth : Method} {c : Code} {H : Heap} {locs : List Loc} {cells slots : Nat} {Q : State → Prop}
variable {b L i : Nat} {xs : Nat → Int32} {ls : Array Slot} {D : va_G} {aC : Nat → ClassId} {A : Nat → Prop} {ad : Nat → Nat → Nat} {n : Nat} {σ : St}
set_option maxHeartbeats 4000000 in
set_option maxRecDepth 100000 in
theorem lc_21 (C : LC l p s m c args b L xs D aC A) (hL : L ≤ 3072) (hi : i + 6 ≤ L) (hc : cells + 42 ≤ 601024 ∧ slots + 1506 ≤ 7293033) (hH : Hold D aC A ad n σ H) (hI : II σ) (hS : va_S A s.heap H locs) (hl : lv_has ls 7 (lvL b ad i)) (KK : LK p l e s m args below meth c b i D aC A ad cells slots Q) : W p l e room_1 s m args below meth c H locs cells slots Q (F0 m 976 ls []) := by
  obtain ⟨hx, hb, hml, hown, hg, hK, hZ, hT, hX, hbl, hbA, hA, hlt⟩ := C
  have hf : cells ≤ room_1.cells ∧ slots ≤ room_1.slots := ⟨by show cells ≤ 601024; omega, by show slots ≤ 7293033; omega⟩
  obtain ⟨⟨σ1, r1⟩, f1, ⟨σ2, r2⟩, f2, f3, f4⟩ := j_choose hI (xs (i + 1)) (xs (i + 2)) (xs (i + 3)) (xs (i + 4))
  dsimp only at f2 f3 f4
  refine lv_aload_n hx hb d_law_976 rfl (lv_at hl 1 rfl) ?_
  refine st_arg 1 (k := 1) hx hb (lv_at hl 0 rfl) (lv_at hl 4 rfl) hX hbl hbA hS hL (by omega) rfl rfl d_law_977 d_law_978 d_law_980 d_law_981 d_law_982 ?_
  refine st_arg 2 (k := 2) hx hb (lv_at hl 0 rfl) (lv_at hl 4 rfl) hX hbl hbA hS hL (by omega) rfl rfl d_law_983 d_law_984 d_law_986 d_law_987 d_law_988 ?_
  refine st_arg 3 (k := 3) hx hb (lv_at hl 0 rfl) (lv_at hl 4 rfl) hX hbl hbA hS hL (by omega) rfl rfl d_law_989 d_law_990 d_law_992 d_law_993 d_law_994 ?_
  refine st_arg 4 (k := 4) hx hb (lv_at hl 0 rfl) (lv_at hl 4 rfl) hX hbl hbA hS hL (by omega) rfl rfl d_law_995 d_law_996 d_law_998 d_law_999 d_law_1000 ?_
  refine st_ViA (As := [.int (xs (i + 1)), .int (xs (i + 2)), .int (xs (i + 3)), .int (xs (i + 4))]) (rest := []) (mc := 42) (ms := 1506) ⟨hx, hb, hml, hown, hg⟩ (c_PC_choose l D aC A ad n _ (xs (i + 1)) (xs (i + 2)) (xs (i + 3)) (xs (i + 4)) _ f1) (cwG hg we_266 we_267 we_268 we_269 wd_4 yd_PC_choose ⟨Nat.le_of_ble_eq_true rfl, Nat.le_of_ble_eq_true rfl⟩) hK hH hS hZ hA hd_0 rfl rfl rfl hl.1 rfl (Nat.le_of_ble_eq_true rfl) d_law_1001 ⟨by show cells + 42 ≤ 601024; omega, by show slots + 1506 ≤ 7293033; omega⟩ (fun ad1 H locs hx1 hH hS => ?_)
  have hl : lv_has ls 7 (lvL b ad1 i) := by
    show lv_has ls 7 [(0, .ref b), (1, .ref (ad1 0 0)), (2, .ref (ad1 48 0)), (3, .ref (ad1 70 0)), (4, .int (Int32.ofNat i))]
    rw [hx1 0 0 hd_0, hx1 48 0 hd_48, hx1 70 0 hd_70]
    exact hl
  refine lv_aload_n hx hb d_law_1004 rfl (lv_at hl 2 rfl) ?_
  refine st_arg 1 (k := 1) hx hb (lv_at hl 0 rfl) (lv_at hl 4 rfl) hX hbl hbA hS hL (by omega) rfl rfl d_law_1005 d_law_1006 d_law_1008 d_law_1009 d_law_1010 ?_
  refine st_arg 2 (k := 2) hx hb (lv_at hl 0 rfl) (lv_at hl 4 rfl) hX hbl hbA hS hL (by omega) rfl rfl d_law_1011 d_law_1012 d_law_1014 d_law_1015 d_law_1016 ?_
  refine st_arg 3 (k := 3) hx hb (lv_at hl 0 rfl) (lv_at hl 4 rfl) hX hbl hbA hS hL (by omega) rfl rfl d_law_1017 d_law_1018 d_law_1020 d_law_1021 d_law_1022 ?_
  refine st_arg 4 (k := 4) hx hb (lv_at hl 0 rfl) (lv_at hl 4 rfl) hX hbl hbA hS hL (by omega) rfl rfl d_law_1023 d_law_1024 d_law_1026 d_law_1027 d_law_1028 ?_
  refine st_Vi (As := [.int (xs (i + 1)), .int (xs (i + 2)), .int (xs (i + 3)), .int (xs (i + 4))]) (rest := [.int r1]) ⟨hx, hb, hml, hown, hg⟩ (c_Mo_choose l D aC A ad1 _ _ (xs (i + 1)) (xs (i + 2)) (xs (i + 3)) (xs (i + 4)) _ f2) (cwG hg we_270 we_271 we_272 we_273 wd_428 yd_Mo_choose ⟨Nat.le_of_ble_eq_true rfl, Nat.le_of_ble_eq_true rfl⟩) hK hH hS hZ hd_48 rfl rfl rfl hl.1 rfl (Nat.le_of_ble_eq_true rfl) d_law_1029 ⟨by show cells + 42 ≤ 601024; omega, by show slots + 1506 ≤ 7293033; omega⟩ (fun H locs hH hS => ?_)
  refine lv_icmp_eq (tgt := 1192) hx hb d_law_1032 (by decide) (fun _ => ?_) (fun z => absurd f3 z)
  exact W.widen (by omega) (by omega) (KK ad1 _ σ2 H locs ls (hx1 0 0 hd_0) (hx1 48 0 hd_48) (hx1 70 0 hd_70) hH f4 hS hl)
set_option maxHeartbeats 4000000 in
set_option maxRecDepth 100000 in
theorem lc_22 (C : LC l p s m c args b L xs D aC A) (hL : L ≤ 3072) (hi : i + 6 ≤ L) (hc : cells + 42 ≤ 601024 ∧ slots + 1506 ≤ 7293033) (hH : Hold D aC A ad n σ H) (hI : II σ) (hS : va_S A s.heap H locs) (hl : lv_has ls 7 (lvL b ad i)) (KK : LK p l e s m args below meth c b i D aC A ad cells slots Q) : W p l e room_1 s m args below meth c H locs cells slots Q (F0 m 1037 ls []) := by
  obtain ⟨hx, hb, hml, hown, hg, hK, hZ, hT, hX, hbl, hbA, hA, hlt⟩ := C
  have hf : cells ≤ room_1.cells ∧ slots ≤ room_1.slots := ⟨by show cells ≤ 601024; omega, by show slots ≤ 7293033; omega⟩
  obtain ⟨⟨σ1, r1⟩, f1, ⟨σ2, r2⟩, f2, f3, f4⟩ := j_group hI (xs (i + 1))
  dsimp only at f2 f3 f4
  refine lv_aload_n hx hb d_law_1037 rfl (lv_at hl 1 rfl) ?_
  refine st_arg 1 (k := 1) hx hb (lv_at hl 0 rfl) (lv_at hl 4 rfl) hX hbl hbA hS hL (by omega) rfl rfl d_law_1038 d_law_1039 d_law_1041 d_law_1042 d_law_1043 ?_
  refine st_Vi (As := [.int (xs (i + 1))]) (rest := []) ⟨hx, hb, hml, hown, hg⟩ (c_PC_group l D aC A ad n _ (xs (i + 1)) _ f1) (cwG hg we_274 we_275 we_276 we_277 wd_4 yd_PC_group ⟨Nat.le_of_ble_eq_true rfl, Nat.le_of_ble_eq_true rfl⟩) hK hH hS hZ hd_0 rfl rfl rfl hl.1 rfl (Nat.le_of_ble_eq_true rfl) d_law_1044 hf (fun H locs hH hS => ?_)
  refine lv_aload_n hx hb d_law_1047 rfl (lv_at hl 2 rfl) ?_
  refine st_arg 1 (k := 1) hx hb (lv_at hl 0 rfl) (lv_at hl 4 rfl) hX hbl hbA hS hL (by omega) rfl rfl d_law_1048 d_law_1049 d_law_1051 d_law_1052 d_law_1053 ?_
  refine st_Vi (As := [.int (xs (i + 1))]) (rest := [.int r1]) ⟨hx, hb, hml, hown, hg⟩ (c_Mo_group l D aC A ad n _ (xs (i + 1)) _ f2) (cwG hg we_278 we_279 we_280 we_281 wd_428 yd_Mo_group ⟨Nat.le_of_ble_eq_true rfl, Nat.le_of_ble_eq_true rfl⟩) hK hH hS hZ hd_48 rfl rfl rfl hl.1 rfl (Nat.le_of_ble_eq_true rfl) d_law_1054 hf (fun H locs hH hS => ?_)
  refine lv_icmp_eq (tgt := 1192) hx hb d_law_1057 (by decide) (fun _ => ?_) (fun z => absurd f3 z)
  exact W.widen (by omega) (by omega) (KK ad _ σ2 H locs ls rfl rfl rfl hH f4 hS hl)
end LCASE
