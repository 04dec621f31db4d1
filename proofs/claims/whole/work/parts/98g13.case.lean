theorem d_law_1062 : decode code 1062 = .ok (.aload_n 1, 1) := by decide +kernel
theorem d_law_1063 : decode code 1063 = .ok (.invokevirtual 130, 3) := by decide +kernel
theorem d_law_1066 : decode code 1066 = .ok (.aload_n 2, 1) := by decide +kernel
theorem d_law_1067 : decode code 1067 = .ok (.invokevirtual 133, 3) := by decide +kernel
theorem d_law_1070 : decode code 1070 = .ok (.if_icmp .eq 122, 3) := by decide +kernel
theorem d_law_1075 : decode code 1075 = .ok (.aload_n 1, 1) := by decide +kernel
theorem d_law_1076 : decode code 1076 = .ok (.aload_n 0, 1) := by decide +kernel
theorem d_law_1077 : decode code 1077 = .ok (.iload 4, 2) := by decide +kernel
theorem d_law_1079 : decode code 1079 = .ok (.iconst 1, 1) := by decide +kernel
theorem d_law_1080 : decode code 1080 = .ok (.iadd, 1) := by decide +kernel
theorem d_law_1081 : decode code 1081 = .ok (.iaload, 1) := by decide +kernel
theorem d_law_1082 : decode code 1082 = .ok (.aload_n 0, 1) := by decide +kernel
theorem d_law_1083 : decode code 1083 = .ok (.iload 4, 2) := by decide +kernel
theorem d_law_1085 : decode code 1085 = .ok (.iconst 2, 1) := by decide +kernel
theorem d_law_1086 : decode code 1086 = .ok (.iadd, 1) := by decide +kernel
theorem d_law_1087 : decode code 1087 = .ok (.iaload, 1) := by decide +kernel
theorem d_law_1088 : decode code 1088 = .ok (.aload_n 0, 1) := by decide +kernel
theorem d_law_1089 : decode code 1089 = .ok (.iload 4, 2) := by decide +kernel
theorem d_law_1091 : decode code 1091 = .ok (.iconst 3, 1) := by decide +kernel
theorem d_law_1092 : decode code 1092 = .ok (.iadd, 1) := by decide +kernel
theorem d_law_1093 : decode code 1093 = .ok (.iaload, 1) := by decide +kernel
theorem d_law_1094 : decode code 1094 = .ok (.aload_n 0, 1) := by decide +kernel
theorem d_law_1095 : decode code 1095 = .ok (.iload 4, 2) := by decide +kernel
theorem d_law_1097 : decode code 1097 = .ok (.iconst 4, 1) := by decide +kernel
theorem d_law_1098 : decode code 1098 = .ok (.iadd, 1) := by decide +kernel
theorem d_law_1099 : decode code 1099 = .ok (.iaload, 1) := by decide +kernel
theorem d_law_1100 : decode code 1100 = .ok (.invokevirtual 134, 3) := by decide +kernel
theorem d_law_1103 : decode code 1103 = .ok (.aload_n 2, 1) := by decide +kernel
theorem d_law_1104 : decode code 1104 = .ok (.aload_n 0, 1) := by decide +kernel
theorem d_law_1105 : decode code 1105 = .ok (.iload 4, 2) := by decide +kernel
theorem d_law_1107 : decode code 1107 = .ok (.iconst 1, 1) := by decide +kernel
theorem d_law_1108 : decode code 1108 = .ok (.iadd, 1) := by decide +kernel
theorem d_law_1109 : decode code 1109 = .ok (.iaload, 1) := by decide +kernel
theorem d_law_1110 : decode code 1110 = .ok (.aload_n 0, 1) := by decide +kernel
theorem d_law_1111 : decode code 1111 = .ok (.iload 4, 2) := by decide +kernel
theorem d_law_1113 : decode code 1113 = .ok (.iconst 2, 1) := by decide +kernel
theorem d_law_1114 : decode code 1114 = .ok (.iadd, 1) := by decide +kernel
theorem d_law_1115 : decode code 1115 = .ok (.iaload, 1) := by decide +kernel
theorem d_law_1116 : decode code 1116 = .ok (.aload_n 0, 1) := by decide +kernel
theorem d_law_1117 : decode code 1117 = .ok (.iload 4, 2) := by decide +kernel
theorem d_law_1119 : decode code 1119 = .ok (.iconst 3, 1) := by decide +kernel
theorem d_law_1120 : decode code 1120 = .ok (.iadd, 1) := by decide +kernel
theorem d_law_1121 : decode code 1121 = .ok (.iaload, 1) := by decide +kernel
theorem d_law_1122 : decode code 1122 = .ok (.aload_n 0, 1) := by decide +kernel
theorem d_law_1123 : decode code 1123 = .ok (.iload 4, 2) := by decide +kernel
theorem d_law_1125 : decode code 1125 = .ok (.iconst 4, 1) := by decide +kernel
theorem d_law_1126 : decode code 1126 = .ok (.iadd, 1) := by decide +kernel
theorem d_law_1127 : decode code 1127 = .ok (.iaload, 1) := by decide +kernel
theorem d_law_1128 : decode code 1128 = .ok (.invokevirtual 137, 3) := by decide +kernel
theorem d_law_1131 : decode code 1131 = .ok (.if_icmp .eq 61, 3) := by decide +kernel
section LCASE
variable {p : Program} {l : Launch} {e : Env} {s : State} {m : MethodId} {args : Array Value} {below : List Frame} {meth : Method} {c : Code} {H : Heap} {locs : List Loc} {cells slots : Nat} {Q : State → Prop}
variable {b L i : Nat} {xs : Nat → Int32} {ls : Array Slot} {D : va_G} {aC : Nat → ClassId} {A : Nat → Prop} {ad : Nat → Nat → Nat} {n : Nat} {σ : St}
set_option maxHeartbeats 4000000 in
set_option maxRecDepth 100000 in
theorem lc_23 (C : LC l p s m c args b L xs D aC A) (hL : L ≤ 3072) (hi : i + 6 ≤ L) (hc : cells + 42 ≤ 601024 ∧ slots + 1506 ≤ 7293033) (hH : Hold D aC A ad n σ H) (hI : II σ) (hS : va_S A s.heap H locs) (hl : lv_has ls 7 (lvL b ad i)) (KK : LK p l e s m args below meth c b i D aC A ad cells slots Q) : W p l e room_1 s m args below meth c H locs cells slots Q (F0 m 1062 ls []) := by
  obtain ⟨hx, hb, hml, hown, hg, hK, hZ, hT, hX, hbl, hbA, hA, hlt⟩ := C
  have hf : cells ≤ room_1.cells ∧ slots ≤ room_1.slots := ⟨by show cells ≤ 601024; omega, by show slots ≤ 7293033; omega⟩
  obtain ⟨⟨σ1, r1⟩, f1, ⟨σ2, r2⟩, f2, f3, f4⟩ := j_write hI 
  dsimp only at f2 f3 f4
  refine lv_aload_n hx hb d_law_1062 rfl (lv_at hl 1 rfl) ?_
  refine st_Vi (As := []) (rest := []) ⟨hx, hb, hml, hown, hg⟩ (c_PC_write l D aC A ad n _  _ f1) (cwG hg we_282 we_283 we_284 we_285 wd_4 yd_PC_write ⟨Nat.le_of_ble_eq_true rfl, Nat.le_of_ble_eq_true rfl⟩) hK hH hS hZ hd_0 rfl rfl rfl hl.1 rfl (Nat.le_of_ble_eq_true rfl) d_law_1063 hf (fun H locs hH hS => ?_)
  refine lv_aload_n hx hb d_law_1066 rfl (lv_at hl 2 rfl) ?_
  refine st_Vi (As := []) (rest := [.int r1]) ⟨hx, hb, hml, hown, hg⟩ (c_Mo_write l D aC A ad n _  _ f2) (cwG hg we_286 we_287 we_288 we_289 wd_428 yd_Mo_write ⟨Nat.le_of_ble_eq_true rfl, Nat.le_of_ble_eq_true rfl⟩) hK hH hS hZ hd_48 rfl rfl rfl hl.1 rfl (Nat.le_of_ble_eq_true rfl) d_law_1067 hf (fun H locs hH hS => ?_)
  refine lv_icmp_eq (tgt := 1192) hx hb d_law_1070 (by decide) (fun _ => ?_) (fun z => absurd f3 z)
  exact W.widen (by omega) (by omega) (KK ad _ σ2 H locs ls rfl rfl rfl hH f4 hS hl)
set_option maxHeartbeats 4000000 in
set_option maxRecDepth 100000 in
theorem lc_24 (C : LC l p s m c args b L xs D aC A) (hL : L ≤ 3072) (hi : i + 6 ≤ L) (hc : cells + 42 ≤ 601024 ∧ slots + 1506 ≤ 7293033) (hH : Hold D aC A ad n σ H) (hI : II σ) (hS : va_S A s.heap H locs) (hl : lv_has ls 7 (lvL b ad i)) (KK : LK p l e s m args below meth c b i D aC A ad cells slots Q) : W p l e room_1 s m args below meth c H locs cells slots Q (F0 m 1075 ls []) := by
  obtain ⟨hx, hb, hml, hown, hg, hK, hZ, hT, hX, hbl, hbA, hA, hlt⟩ := C
  have hf : cells ≤ room_1.cells ∧ slots ≤ room_1.slots := ⟨by show cells ≤ 601024; omega, by show slots ≤ 7293033; omega⟩
  obtain ⟨⟨σ1, r1⟩, f1, ⟨σ2, r2⟩, f2, f3, f4⟩ := j_read hI (xs (i + 1)) (xs (i + 2)) (xs (i + 3)) (xs (i + 4))
  dsimp only at f2 f3 f4
  refine lv_aload_n hx hb d_law_1075 rfl (lv_at hl 1 rfl) ?_
  refine st_arg 1 (k := 1) hx hb (lv_at hl 0 rfl) (lv_at hl 4 rfl) hX hbl hbA hS hL (by omega) rfl rfl d_law_1076 d_law_1077 d_law_1079 d_law_1080 d_law_1081 ?_
  refine st_arg 2 (k := 2) hx hb (lv_at hl 0 rfl) (lv_at hl 4 rfl) hX hbl hbA hS hL (by omega) rfl rfl d_law_1082 d_law_1083 d_law_1085 d_law_1086 d_law_1087 ?_
  refine st_arg 3 (k := 3) hx hb (lv_at hl 0 rfl) (lv_at hl 4 rfl) hX hbl hbA hS hL (by omega) rfl rfl d_law_1088 d_law_1089 d_law_1091 d_law_1092 d_law_1093 ?_
  refine st_arg 4 (k := 4) hx hb (lv_at hl 0 rfl) (lv_at hl 4 rfl) hX hbl hbA hS hL (by omega) rfl rfl d_law_1094 d_law_1095 d_law_1097 d_law_1098 d_law_1099 ?_
  refine st_Vi (As := [.int (xs (i + 1)), .int (xs (i + 2)), .int (xs (i + 3)), .int (xs (i + 4))]) (rest := []) ⟨hx, hb, hml, hown, hg⟩ (c_PC_read l D aC A ad n _ (xs (i + 1)) (xs (i + 2)) (xs (i + 3)) (xs (i + 4)) _ f1) (cwG hg we_290 we_291 we_292 we_293 wd_4 yd_PC_read ⟨Nat.le_of_ble_eq_true rfl, Nat.le_of_ble_eq_true rfl⟩) hK hH hS hZ hd_0 rfl rfl rfl hl.1 rfl (Nat.le_of_ble_eq_true rfl) d_law_1100 hf (fun H locs hH hS => ?_)
  refine lv_aload_n hx hb d_law_1103 rfl (lv_at hl 2 rfl) ?_
  refine st_arg 1 (k := 1) hx hb (lv_at hl 0 rfl) (lv_at hl 4 rfl) hX hbl hbA hS hL (by omega) rfl rfl d_law_1104 d_law_1105 d_law_1107 d_law_1108 d_law_1109 ?_
  refine st_arg 2 (k := 2) hx hb (lv_at hl 0 rfl) (lv_at hl 4 rfl) hX hbl hbA hS hL (by omega) rfl rfl d_law_1110 d_law_1111 d_law_1113 d_law_1114 d_law_1115 ?_
  refine st_arg 3 (k := 3) hx hb (lv_at hl 0 rfl) (lv_at hl 4 rfl) hX hbl hbA hS hL (by omega) rfl rfl d_law_1116 d_law_1117 d_law_1119 d_law_1120 d_law_1121 ?_
  refine st_arg 4 (k := 4) hx hb (lv_at hl 0 rfl) (lv_at hl 4 rfl) hX hbl hbA hS hL (by omega) rfl rfl d_law_1122 d_law_1123 d_law_1125 d_law_1126 d_law_1127 ?_
  refine st_Vi (As := [.int (xs (i + 1)), .int (xs (i + 2)), .int (xs (i + 3)), .int (xs (i + 4))]) (rest := [.int r1]) ⟨hx, hb, hml, hown, hg⟩ (c_Mo_read l D aC A ad n _ (xs (i + 1)) (xs (i + 2)) (xs (i + 3)) (xs (i + 4)) _ f2) (cwG hg we_294 we_295 we_296 we_297 wd_428 yd_Mo_read ⟨Nat.le_of_ble_eq_true rfl, Nat.le_of_ble_eq_true rfl⟩) hK hH hS hZ hd_48 rfl rfl rfl hl.1 rfl (Nat.le_of_ble_eq_true rfl) d_law_1128 hf (fun H locs hH hS => ?_)
  refine lv_icmp_eq (tgt := 1192) hx hb d_law_1131 (by decide) (fun _ => ?_) (fun z => absurd f3 z)
  exact W.widen (by omega) (by omega) (KK ad _ σ2 H locs ls rfl rfl rfl hH f4 hS hl)
end LCASE
