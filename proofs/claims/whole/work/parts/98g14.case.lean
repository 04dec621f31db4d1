theorem d_law_1136 : decode code 1136 = .ok (.aload_n 1, 1) := by decide +kernel
theorem d_law_1137 : decode code 1137 = .ok (.aload_n 0, 1) := by decide +kernel
theorem d_law_1138 : decode code 1138 = .ok (.iload 4, 2) := by decide +kernel
theorem d_law_1140 : decode code 1140 = .ok (.iconst 1, 1) := by decide +kernel
theorem d_law_1141 : decode code 1141 = .ok (.iadd, 1) := by decide +kernel
theorem d_law_1142 : decode code 1142 = .ok (.iaload, 1) := by decide +kernel
theorem d_law_1143 : decode code 1143 = .ok (.aload_n 3, 1) := by decide +kernel
theorem d_law_1144 : decode code 1144 = .ok (.invokestatic 138, 3) := by decide +kernel
theorem d_law_1147 : decode code 1147 = .ok (.istore 5, 2) := by decide +kernel
theorem d_law_1149 : decode code 1149 = .ok (.aload_n 2, 1) := by decide +kernel
theorem d_law_1150 : decode code 1150 = .ok (.aload_n 0, 1) := by decide +kernel
theorem d_law_1151 : decode code 1151 = .ok (.iload 4, 2) := by decide +kernel
theorem d_law_1153 : decode code 1153 = .ok (.iconst 1, 1) := by decide +kernel
theorem d_law_1154 : decode code 1154 = .ok (.iadd, 1) := by decide +kernel
theorem d_law_1155 : decode code 1155 = .ok (.iaload, 1) := by decide +kernel
theorem d_law_1156 : decode code 1156 = .ok (.invokevirtual 140, 3) := by decide +kernel
theorem d_law_1159 : decode code 1159 = .ok (.istore 6, 2) := by decide +kernel
theorem d_law_1161 : decode code 1161 = .ok (.aload_n 2, 1) := by decide +kernel
theorem d_law_1162 : decode code 1162 = .ok (.invokevirtual 72, 3) := by decide +kernel
theorem d_law_1165 : decode code 1165 = .ok (.iload 5, 2) := by decide +kernel
theorem d_law_1167 : decode code 1167 = .ok (.if_icmp .eq 5, 3) := by decide +kernel
theorem d_law_1172 : decode code 1172 = .ok (.iload 5, 2) := by decide +kernel
theorem d_law_1174 : decode code 1174 = .ok (.ifCond .ne 15, 3) := by decide +kernel
theorem d_law_1177 : decode code 1177 = .ok (.aload_n 3, 1) := by decide +kernel
theorem d_law_1178 : decode code 1178 = .ok (.iconst 0, 1) := by decide +kernel
theorem d_law_1179 : decode code 1179 = .ok (.laload, 1) := by decide +kernel
theorem d_law_1180 : decode code 1180 = .ok (.iload 6, 2) := by decide +kernel
theorem d_law_1182 : decode code 1182 = .ok (.i2l, 1) := by decide +kernel
theorem d_law_1183 : decode code 1183 = .ok (.lcmp, 1) := by decide +kernel
theorem d_law_1184 : decode code 1184 = .ok (.ifCond .eq 5, 3) := by decide +kernel
theorem d_law_1189 : decode code 1189 = .ok (.goto 3, 3) := by decide +kernel
section LCASE
variable {p : Program} {l : Launch} {e : Env} {s : State} {m : MethodId} {args : Array Value} {below : List Frame} {meth : Method} {c : Code} {H : Heap} {locs : List Loc} {cells slots : Nat} {Q : State → Prop}
variable {b L i : Nat} {xs : Nat → Int32} {ls : Array Slot} {D : va_G} {aC : Nat → ClassId} {A : Nat → Prop} {ad : Nat → Nat → Nat} {n : Nat} {σ : St}
set_option maxHeartbeats 4000000 in
set_option maxRecDepth 100000 in
theorem lc_25 (C : LC l p s m c args b L xs D aC A) (hL : L ≤ 3072) (hi : i + 6 ≤ L) (hc : cells + 42 ≤ 601024 ∧ slots + 1506 ≤ 7293033) (hH : Hold D aC A ad n σ H) (hI : II σ) (hS : va_S A s.heap H locs) (hl : lv_has ls 7 (lvL b ad i)) (KK : LK p l e s m args below meth c b i D aC A ad cells slots Q) : W p l e room_1 s m args below meth c H locs cells slots Q (F0 m 1136 ls []) := by
  obtain ⟨hx, hb, hml, hown, hg, hK, hZ, hT, hX, hbl, hbA, hA, hlt⟩ := C
  have hf : cells ≤ room_1.cells ∧ slots ≤ room_1.slots := ⟨by show cells ≤ 601024; omega, by show slots ≤ 7293033; omega⟩
  obtain ⟨o, σ2, r2, f1, f2, f4, f5, f6⟩ := l_symbol hI (xs (i + 1))
  refine lv_aload_n hx hb d_law_1136 rfl (lv_at hl 1 rfl) ?_
  refine st_arg 1 (k := 1) hx hb (lv_at hl 0 rfl) (lv_at hl 4 rfl) hX hbl hbA hS hL (by omega) rfl rfl d_law_1137 d_law_1138 d_law_1140 d_law_1141 d_law_1142 ?_
  refine lv_aload_n hx hb d_law_1143 rfl (lv_at hl 3 rfl) ?_
  refine st_SW (As := [.ref (ad 0 0), .int (xs (i + 1)), .ref (ad 70 0)]) (rest := []) (k := 3) (mc := 1) (ms := 6) ⟨hx, hb, hml, hown, hg⟩ (c_Lw_symbol l hlt D aC A ad n σ (xs (i + 1)) o f1) rfl rfl ⟨Nat.le_of_ble_eq_true rfl, Nat.le_of_ble_eq_true rfl⟩ lw_symbol_c (hg _ we_172) ⟨by decide, by decide⟩ (by decide +kernel) (hg _ we_298) (hg _ we_299) hK hH hS hZ hT rfl hl.1 rfl (Nat.le_of_ble_eq_true rfl) d_law_1144 ⟨by show cells + 1 ≤ 601024; omega, by show slots + 6 ≤ 7293033; omega⟩ (fun H locs hH hS => ?_)
  refine lv_istore hx hb d_law_1147 hl (by decide) rfl (fun ls hl => ?_)
  refine lv_aload_n hx hb d_law_1149 rfl (lv_at hl 3 rfl) ?_
  refine st_arg 1 (k := 1) hx hb (lv_at hl 1 rfl) (lv_at hl 5 rfl) hX hbl hbA hS hL (by omega) rfl rfl d_law_1150 d_law_1151 d_law_1153 d_law_1154 d_law_1155 ?_
  refine st_Vi (As := [.int (xs (i + 1))]) (rest := []) ⟨hx, hb, hml, hown, hg⟩ (c_Mo_symbol l D aC A ad n _ (xs (i + 1)) _ f2) (cwG hg we_300 we_301 we_302 we_303 wd_428 yd_Mo_symbol ⟨Nat.le_of_ble_eq_true rfl, Nat.le_of_ble_eq_true rfl⟩) hK hH hS hZ hd_48 rfl rfl rfl hl.1 rfl (Nat.le_of_ble_eq_true rfl) d_law_1156 ⟨by show cells + 1 ≤ 601024; omega, by show slots + 6 ≤ 7293033; omega⟩ (fun H locs hH hS => ?_)
  refine lv_istore hx hb d_law_1159 hl (by decide) rfl (fun ls hl => ?_)
  refine lv_aload_n hx hb d_law_1161 rfl (lv_at hl 4 rfl) ?_
  refine st_Vi (As := []) (rest := []) ⟨hx, hb, hml, hown, hg⟩ (c_Mo_thrown l D aC A ad n σ2 (σ2, σ2.1 48 0 0) rfl) (cwG hg we_179 we_180 we_181 we_182 wd_428 yd_Mo_thrown ⟨Nat.le_of_ble_eq_true rfl, Nat.le_of_ble_eq_true rfl⟩) hK hH hS hZ hd_48 rfl rfl rfl hl.1 rfl (Nat.le_of_ble_eq_true rfl) d_law_1162 ⟨by show cells + 1 ≤ 601024; omega, by show slots + 6 ≤ 7293033; omega⟩ (fun H locs hH hS => ?_)
  have fin : W p l e room_1 s m args below meth c H locs (cells + 1) (slots + 6) Q (F0 m 1189 ls []) := lv_goto (tgt := 1192) hx hb d_law_1189 (by decide) (W.widen (by omega) (by omega) (KK ad _ σ2 H locs ls rfl rfl rfl hH f4 hS (lv_sub hl [2, 3, 4, 5, 6] rfl)))
  refine lv_iload hx hb d_law_1165 (lv_at hl 1 rfl) ?_
  refine lv_icmp_eq (tgt := 1172) hx hb d_law_1167 (by decide) (fun _ => ?_) (fun z => absurd f5 z)
  refine lv_iload hx hb d_law_1172 (lv_at hl 1 rfl) ?_
  refine lv_if_ne (tgt := 1189) hx hb d_law_1174 (by decide) (fun _ => fin) (fun z => ?_)
  refine lv_aload_n hx hb d_law_1177 rfl (lv_at hl 5 rfl) ?_
  refine lv_iconst (v := 0) hx hb d_law_1178 (by decide) ?_
  refine st_lald hx hb hK hH (f := 70) (i := 0) hd_70 rfl (by decide) d_law_1179 ?_
  refine lv_iload hx hb d_law_1180 (lv_at hl 0 rfl) ?_
  refine lv_i2l hx hb d_law_1182 rfl ?_
  exact st_lcmp_eq (tgt := 1189) hx hb d_law_1183 d_law_1184 (by decide) (fun _ => fin) (fun w => absurd (f6 z) w)
end LCASE
