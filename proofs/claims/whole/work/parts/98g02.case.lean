theorem d_law_234 : decode code 234 = .ok (.aload_n 1, 1) := by decide +kernel
theorem d_law_235 : decode code 235 = .ok (.aload_n 0, 1) := by decide +kernel
theorem d_law_236 : decode code 236 = .ok (.iload 4, 2) := by decide +kernel
theorem d_law_238 : decode code 238 = .ok (.iconst 1, 1) := by decide +kernel
theorem d_law_239 : decode code 239 = .ok (.iadd, 1) := by decide +kernel
theorem d_law_240 : decode code 240 = .ok (.iaload, 1) := by decide +kernel
theorem d_law_241 : decode code 241 = .ok (.aload_n 0, 1) := by decide +kernel
theorem d_law_242 : decode code 242 = .ok (.iload 4, 2) := by decide +kernel
theorem d_law_244 : decode code 244 = .ok (.iconst 2, 1) := by decide +kernel
theorem d_law_245 : decode code 245 = .ok (.iadd, 1) := by decide +kernel
theorem d_law_246 : decode code 246 = .ok (.iaload, 1) := by decide +kernel
theorem d_law_247 : decode code 247 = .ok (.invokevirtual 35, 3) := by decide +kernel
theorem d_law_250 : decode code 250 = .ok (.aload_n 2, 1) := by decide +kernel
theorem d_law_251 : decode code 251 = .ok (.aload_n 0, 1) := by decide +kernel
theorem d_law_252 : decode code 252 = .ok (.iload 4, 2) := by decide +kernel
theorem d_law_254 : decode code 254 = .ok (.iconst 1, 1) := by decide +kernel
theorem d_law_255 : decode code 255 = .ok (.iadd, 1) := by decide +kernel
theorem d_law_256 : decode code 256 = .ok (.iaload, 1) := by decide +kernel
theorem d_law_257 : decode code 257 = .ok (.aload_n 0, 1) := by decide +kernel
theorem d_law_258 : decode code 258 = .ok (.iload 4, 2) := by decide +kernel
theorem d_law_260 : decode code 260 = .ok (.iconst 2, 1) := by decide +kernel
theorem d_law_261 : decode code 261 = .ok (.iadd, 1) := by decide +kernel
theorem d_law_262 : decode code 262 = .ok (.iaload, 1) := by decide +kernel
theorem d_law_263 : decode code 263 = .ok (.invokevirtual 38, 3) := by decide +kernel
theorem d_law_266 : decode code 266 = .ok (.if_icmp .eq 926, 3) := by decide +kernel
section LCASE
variable {p : Program} {l : Launch} {e : Env} {s : State} {m : MethodId} {args : Array Value} {below : List Frame} {meth : Method} {c : Code} {H : Heap} {locs : List Loc} {cells slots : Nat} {Q : State → Prop}
variable {b L i : Nat} {xs : Nat → Int32} {ls : Array Slot} {D : va_G} {aC : Nat → ClassId} {A : Nat → Prop} {ad : Nat → Nat → Nat} {n : Nat} {σ : St}
set_option maxHeartbeats 4000000 in
set_option maxRecDepth 100000 in
theorem lc_2 (C : LC l p s m c args b L xs D aC A) (hL : L ≤ 3072) (hi : i + 6 ≤ L) (hc : cells + 42 ≤ 601024 ∧ slots + 1506 ≤ 7293033) (hH : Hold D aC A ad n σ H) (hI : II σ) (hS : va_S A s.heap H locs) (hl : lv_has ls 7 (lvL b ad i)) (KK : LK p l e s m args below meth c b i D aC A ad cells slots Q) : W p l e room_1 s m args below meth c H locs cells slots Q (F0 m 234 ls []) := by
  obtain ⟨hx, hb, hml, hown, hg, hK, hZ, hT, hX, hbl, hbA, hA, hlt⟩ := C
  have hf : cells ≤ room_1.cells ∧ slots ≤ room_1.slots := ⟨by show cells ≤ 601024; omega, by show slots ≤ 7293033; omega⟩
  obtain ⟨⟨σ1, r1⟩, f1, ⟨σ2, r2⟩, f2, f3, f4⟩ := j_about hI (xs (i + 1)) (xs (i + 2))
  dsimp only at f2 f3 f4
  refine lv_aload_n hx hb d_law_234 rfl (lv_at hl 1 rfl) ?_
  refine st_arg 1 (k := 1) hx hb (lv_at hl 0 rfl) (lv_at hl 4 rfl) hX hbl hbA hS hL (by omega) rfl rfl d_law_235 d_law_236 d_law_238 d_law_239 d_law_240 ?_
  refine st_arg 2 (k := 2) hx hb (lv_at hl 0 rfl) (lv_at hl 4 rfl) hX hbl hbA hS hL (by omega) rfl rfl d_law_241 d_law_242 d_law_244 d_law_245 d_law_246 ?_
  refine st_Vi (As := [.int (xs (i + 1)), .int (xs (i + 2))]) (rest := []) ⟨hx, hb, hml, hown, hg⟩ (c_PC_about l D aC A ad n _ (xs (i + 1)) (xs (i + 2)) _ f1) (cwG hg we_119 we_120 we_121 we_122 wd_4 yd_PC_about ⟨Nat.le_of_ble_eq_true rfl, Nat.le_of_ble_eq_true rfl⟩) hK hH hS hZ hd_0 rfl rfl rfl hl.1 rfl (Nat.le_of_ble_eq_true rfl) d_law_247 hf (fun H locs hH hS => ?_)
  refine lv_aload_n hx hb d_law_250 rfl (lv_at hl 2 rfl) ?_
  refine st_arg 1 (k := 1) hx hb (lv_at hl 0 rfl) (lv_at hl 4 rfl) hX hbl hbA hS hL (by omega) rfl rfl d_law_251 d_law_252 d_law_254 d_law_255 d_law_256 ?_
  refine st_arg 2 (k := 2) hx hb (lv_at hl 0 rfl) (lv_at hl 4 rfl) hX hbl hbA hS hL (by omega) rfl rfl d_law_257 d_law_258 d_law_260 d_law_261 d_law_262 ?_
  refine st_Vi (As := [.int (xs (i + 1)), .int (xs (i + 2))]) (rest := [.int r1]) ⟨hx, hb, hml, hown, hg⟩ (c_Mo_about l D aC A ad n _ (xs (i + 1)) (xs (i + 2)) _ f2) (cwG hg we_123 we_124 we_125 we_126 wd_428 yd_Mo_about ⟨Nat.le_of_ble_eq_true rfl, Nat.le_of_ble_eq_true rfl⟩) hK hH hS hZ hd_48 rfl rfl rfl hl.1 rfl (Nat.le_of_ble_eq_true rfl) d_law_263 hf (fun H locs hH hS => ?_)
  refine lv_icmp_eq (tgt := 1192) hx hb d_law_266 (by decide) (fun _ => ?_) (fun z => absurd f3 z)
  exact W.widen (by omega) (by omega) (KK ad _ σ2 H locs ls rfl rfl rfl hH f4 hS hl)
end LCASE
