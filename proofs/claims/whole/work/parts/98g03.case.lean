theorem d_law_271 : decode code 271 = .ok (.aload_n 1, 1) := by decide +kernel
theorem d_law_272 : decode code 272 = .ok (.aload_n 0, 1) := by decide +kernel
theorem d_law_273 : decode code 273 = .ok (.iload 4, 2) := by decide +kernel
theorem d_law_275 : decode code 275 = .ok (.iconst 1, 1) := by decide +kernel
theorem d_law_276 : decode code 276 = .ok (.iadd, 1) := by decide +kernel
theorem d_law_277 : decode code 277 = .ok (.iaload, 1) := by decide +kernel
theorem d_law_278 : decode code 278 = .ok (.aload_n 0, 1) := by decide +kernel
theorem d_law_279 : decode code 279 = .ok (.iload 4, 2) := by decide +kernel
theorem d_law_281 : decode code 281 = .ok (.iconst 2, 1) := by decide +kernel
theorem d_law_282 : decode code 282 = .ok (.iadd, 1) := by decide +kernel
theorem d_law_283 : decode code 283 = .ok (.iaload, 1) := by decide +kernel
theorem d_law_284 : decode code 284 = .ok (.aload_n 0, 1) := by decide +kernel
theorem d_law_285 : decode code 285 = .ok (.iload 4, 2) := by decide +kernel
theorem d_law_287 : decode code 287 = .ok (.iconst 3, 1) := by decide +kernel
theorem d_law_288 : decode code 288 = .ok (.iadd, 1) := by decide +kernel
theorem d_law_289 : decode code 289 = .ok (.iaload, 1) := by decide +kernel
theorem d_law_290 : decode code 290 = .ok (.ifCond .eq 7, 3) := by decide +kernel
theorem d_law_293 : decode code 293 = .ok (.iconst 1, 1) := by decide +kernel
theorem d_law_294 : decode code 294 = .ok (.goto 4, 3) := by decide +kernel
theorem d_law_297 : decode code 297 = .ok (.iconst 0, 1) := by decide +kernel
theorem d_law_298 : decode code 298 = .ok (.invokevirtual 39, 3) := by decide +kernel
theorem d_law_301 : decode code 301 = .ok (.aload_n 2, 1) := by decide +kernel
theorem d_law_302 : decode code 302 = .ok (.aload_n 0, 1) := by decide +kernel
theorem d_law_303 : decode code 303 = .ok (.iload 4, 2) := by decide +kernel
theorem d_law_305 : decode code 305 = .ok (.iconst 1, 1) := by decide +kernel
theorem d_law_306 : decode code 306 = .ok (.iadd, 1) := by decide +kernel
theorem d_law_307 : decode code 307 = .ok (.iaload, 1) := by decide +kernel
theorem d_law_308 : decode code 308 = .ok (.aload_n 0, 1) := by decide +kernel
theorem d_law_309 : decode code 309 = .ok (.iload 4, 2) := by decide +kernel
theorem d_law_311 : decode code 311 = .ok (.iconst 2, 1) := by decide +kernel
theorem d_law_312 : decode code 312 = .ok (.iadd, 1) := by decide +kernel
theorem d_law_313 : decode code 313 = .ok (.iaload, 1) := by decide +kernel
theorem d_law_314 : decode code 314 = .ok (.aload_n 0, 1) := by decide +kernel
theorem d_law_315 : decode code 315 = .ok (.iload 4, 2) := by decide +kernel
theorem d_law_317 : decode code 317 = .ok (.iconst 3, 1) := by decide +kernel
theorem d_law_318 : decode code 318 = .ok (.iadd, 1) := by decide +kernel
theorem d_law_319 : decode code 319 = .ok (.iaload, 1) := by decide +kernel
theorem d_law_320 : decode code 320 = .ok (.ifCond .eq 7, 3) := by decide +kernel
theorem d_law_323 : decode code 323 = .ok (.iconst 1, 1) := by decide +kernel
theorem d_law_324 : decode code 324 = .ok (.goto 4, 3) := by decide +kernel
theorem d_law_327 : decode code 327 = .ok (.iconst 0, 1) := by decide +kernel
theorem d_law_328 : decode code 328 = .ok (.invokevirtual 43, 3) := by decide +kernel
theorem d_law_331 : decode code 331 = .ok (.if_icmp .eq 861, 3) := by decide +kernel
section LCASE
variable {p : Program} {l : Launch} {e : Env} {s : State} {m : MethodId} {args : Array Value} {below : List Frame} {meth : Method} {c : Code} {H : Heap} {locs : List Loc} {cells slots : Nat} {Q : State → Prop}
variable {b L i : Nat} {xs : Nat → Int32} {ls : Array Slot} {D : va_G} {aC : Nat → ClassId} {A : Nat → Prop} {ad : Nat → Nat → Nat} {n : Nat} {σ : St}
set_option maxHeartbeats 4000000 in
set_option maxRecDepth 100000 in
theorem lc_3 (C : LC l p s m c args b L xs D aC A) (hL : L ≤ 3072) (hi : i + 6 ≤ L) (hc : cells + 42 ≤ 601024 ∧ slots + 1506 ≤ 7293033) (hH : Hold D aC A ad n σ H) (hI : II σ) (hS : va_S A s.heap H locs) (hl : lv_has ls 7 (lvL b ad i)) (KK : LK p l e s m args below meth c b i D aC A ad cells slots Q) : W p l e room_1 s m args below meth c H locs cells slots Q (F0 m 271 ls []) := by
  obtain ⟨hx, hb, hml, hown, hg, hK, hZ, hT, hX, hbl, hbA, hA, hlt⟩ := C
  have hf : cells ≤ room_1.cells ∧ slots ≤ room_1.slots := ⟨by show cells ≤ 601024; omega, by show slots ≤ 7293033; omega⟩
  obtain ⟨⟨σ1, r1⟩, f1, ⟨σ2, r2⟩, f2, f3, f4⟩ := j_word hI (xs (i + 1)) (xs (i + 2)) (if xs (i + 3) = 0 then 0 else 1)
  dsimp only at f2 f3 f4
  refine lv_aload_n hx hb d_law_271 rfl (lv_at hl 1 rfl) ?_
  refine st_arg 1 (k := 1) hx hb (lv_at hl 0 rfl) (lv_at hl 4 rfl) hX hbl hbA hS hL (by omega) rfl rfl d_law_272 d_law_273 d_law_275 d_law_276 d_law_277 ?_
  refine st_arg 2 (k := 2) hx hb (lv_at hl 0 rfl) (lv_at hl 4 rfl) hX hbl hbA hS hL (by omega) rfl rfl d_law_278 d_law_279 d_law_281 d_law_282 d_law_283 ?_
  refine st_arg 3 (k := 3) hx hb (lv_at hl 0 rfl) (lv_at hl 4 rfl) hX hbl hbA hS hL (by omega) rfl rfl d_law_284 d_law_285 d_law_287 d_law_288 d_law_289 ?_
  refine st_bool hx hb d_law_290 d_law_293 d_law_294 d_law_297 rfl rfl ?_
  refine st_Vi (As := [.int (xs (i + 1)), .int (xs (i + 2)), .int (if xs (i + 3) = 0 then 0 else 1)]) (rest := []) ⟨hx, hb, hml, hown, hg⟩ (c_PC_word l D aC A ad n _ (xs (i + 1)) (xs (i + 2)) (if xs (i + 3) = 0 then 0 else 1) _ f1) (cwG hg we_127 we_128 we_129 we_130 wd_4 yd_PC_word ⟨Nat.le_of_ble_eq_true rfl, Nat.le_of_ble_eq_true rfl⟩) hK hH hS hZ hd_0 rfl rfl rfl hl.1 rfl (Nat.le_of_ble_eq_true rfl) d_law_298 hf (fun H locs hH hS => ?_)
  refine lv_aload_n hx hb d_law_301 rfl (lv_at hl 2 rfl) ?_
  refine st_arg 1 (k := 1) hx hb (lv_at hl 0 rfl) (lv_at hl 4 rfl) hX hbl hbA hS hL (by omega) rfl rfl d_law_302 d_law_303 d_law_305 d_law_306 d_law_307 ?_
  refine st_arg 2 (k := 2) hx hb (lv_at hl 0 rfl) (lv_at hl 4 rfl) hX hbl hbA hS hL (by omega) rfl rfl d_law_308 d_law_309 d_law_311 d_law_312 d_law_313 ?_
  refine st_arg 3 (k := 3) hx hb (lv_at hl 0 rfl) (lv_at hl 4 rfl) hX hbl hbA hS hL (by omega) rfl rfl d_law_314 d_law_315 d_law_317 d_law_318 d_law_319 ?_
  refine st_bool hx hb d_law_320 d_law_323 d_law_324 d_law_327 rfl rfl ?_
  refine st_Vi (As := [.int (xs (i + 1)), .int (xs (i + 2)), .int (if xs (i + 3) = 0 then 0 else 1)]) (rest := [.int r1]) ⟨hx, hb, hml, hown, hg⟩ (c_Mo_word l D aC A ad n _ (xs (i + 1)) (xs (i + 2)) (if xs (i + 3) = 0 then 0 else 1) _ f2) (cwG hg wd_501 we_131 wd_503 wd_504 wd_428 yd_Mo_word ⟨Nat.le_of_ble_eq_true rfl, Nat.le_of_ble_eq_true rfl⟩) hK hH hS hZ hd_48 rfl rfl rfl hl.1 rfl (Nat.le_of_ble_eq_true rfl) d_law_328 hf (fun H locs hH hS => ?_)
  refine lv_icmp_eq (tgt := 1192) hx hb d_law_331 (by decide) (fun _ => ?_) (fun z => absurd f3 z)
  exact W.widen (by omega) (by omega) (KK ad _ σ2 H locs ls rfl rfl rfl hH f4 hS hl)
end LCASE
