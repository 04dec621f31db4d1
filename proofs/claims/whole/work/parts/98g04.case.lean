theorem d_law_336 : decode code 336 = .ok (.aload_n 1, 1) := by decide +kernel
theorem d_law_337 : decode code 337 = .ok (.aload_n 0, 1) := by decide +kernel
theorem d_law_338 : decode code 338 = .ok (.iload 4, 2) := by decide +kernel
theorem d_law_340 : decode code 340 = .ok (.iconst 1, 1) := by decide +kernel
theorem d_law_341 : decode code 341 = .ok (.iadd, 1) := by decide +kernel
theorem d_law_342 : decode code 342 = .ok (.iaload, 1) := by decide +kernel
theorem d_law_343 : decode code 343 = .ok (.aload_n 0, 1) := by decide +kernel
theorem d_law_344 : decode code 344 = .ok (.iload 4, 2) := by decide +kernel
theorem d_law_346 : decode code 346 = .ok (.iconst 2, 1) := by decide +kernel
theorem d_law_347 : decode code 347 = .ok (.iadd, 1) := by decide +kernel
theorem d_law_348 : decode code 348 = .ok (.iaload, 1) := by decide +kernel
theorem d_law_349 : decode code 349 = .ok (.invokevirtual 44, 3) := by decide +kernel
theorem d_law_352 : decode code 352 = .ok (.aload_n 2, 1) := by decide +kernel
theorem d_law_353 : decode code 353 = .ok (.aload_n 0, 1) := by decide +kernel
theorem d_law_354 : decode code 354 = .ok (.iload 4, 2) := by decide +kernel
theorem d_law_356 : decode code 356 = .ok (.iconst 1, 1) := by decide +kernel
theorem d_law_357 : decode code 357 = .ok (.iadd, 1) := by decide +kernel
theorem d_law_358 : decode code 358 = .ok (.iaload, 1) := by decide +kernel
theorem d_law_359 : decode code 359 = .ok (.aload_n 0, 1) := by decide +kernel
theorem d_law_360 : decode code 360 = .ok (.iload 4, 2) := by decide +kernel
theorem d_law_362 : decode code 362 = .ok (.iconst 2, 1) := by decide +kernel
theorem d_law_363 : decode code 363 = .ok (.iadd, 1) := by decide +kernel
theorem d_law_364 : decode code 364 = .ok (.iaload, 1) := by decide +kernel
theorem d_law_365 : decode code 365 = .ok (.invokevirtual 47, 3) := by decide +kernel
theorem d_law_368 : decode code 368 = .ok (.if_icmp .eq 824, 3) := by decide +kernel
theorem d_law_373 : decode code 373 = .ok (.aload_n 1, 1) := by decide +kernel
theorem d_law_374 : decode code 374 = .ok (.invokevirtual 48, 3) := by decide +kernel
theorem d_law_377 : decode code 377 = .ok (.aload_n 2, 1) := by decide +kernel
theorem d_law_378 : decode code 378 = .ok (.invokevirtual 52, 3) := by decide +kernel
theorem d_law_381 : decode code 381 = .ok (.if_icmp .eq 811, 3) := by decide +kernel
theorem d_law_386 : decode code 386 = .ok (.aload_n 1, 1) := by decide +kernel
theorem d_law_387 : decode code 387 = .ok (.aload_n 0, 1) := by decide +kernel
theorem d_law_388 : decode code 388 = .ok (.iload 4, 2) := by decide +kernel
theorem d_law_390 : decode code 390 = .ok (.iconst 1, 1) := by decide +kernel
theorem d_law_391 : decode code 391 = .ok (.iadd, 1) := by decide +kernel
theorem d_law_392 : decode code 392 = .ok (.iaload, 1) := by decide +kernel
theorem d_law_393 : decode code 393 = .ok (.aload_n 0, 1) := by decide +kernel
theorem d_law_394 : decode code 394 = .ok (.iload 4, 2) := by decide +kernel
theorem d_law_396 : decode code 396 = .ok (.iconst 2, 1) := by decide +kernel
theorem d_law_397 : decode code 397 = .ok (.iadd, 1) := by decide +kernel
theorem d_law_398 : decode code 398 = .ok (.iaload, 1) := by decide +kernel
theorem d_law_399 : decode code 399 = .ok (.invokevirtual 53, 3) := by decide +kernel
theorem d_law_402 : decode code 402 = .ok (.aload_n 2, 1) := by decide +kernel
theorem d_law_403 : decode code 403 = .ok (.aload_n 0, 1) := by decide +kernel
theorem d_law_404 : decode code 404 = .ok (.iload 4, 2) := by decide +kernel
theorem d_law_406 : decode code 406 = .ok (.iconst 1, 1) := by decide +kernel
theorem d_law_407 : decode code 407 = .ok (.iadd, 1) := by decide +kernel
theorem d_law_408 : decode code 408 = .ok (.iaload, 1) := by decide +kernel
theorem d_law_409 : decode code 409 = .ok (.aload_n 0, 1) := by decide +kernel
theorem d_law_410 : decode code 410 = .ok (.iload 4, 2) := by decide +kernel
theorem d_law_412 : decode code 412 = .ok (.iconst 2, 1) := by decide +kernel
theorem d_law_413 : decode code 413 = .ok (.iadd, 1) := by decide +kernel
theorem d_law_414 : decode code 414 = .ok (.iaload, 1) := by decide +kernel
theorem d_law_415 : decode code 415 = .ok (.invokevirtual 56, 3) := by decide +kernel
theorem d_law_418 : decode code 418 = .ok (.if_icmp .eq 774, 3) := by decide +kernel
section LCASE
variable {p : Program} {l : Launch} {e : Env} {s : State} {m : MethodId} {args : Array Value} {below : List Frame} {meth : Method} {c : Code} {H : Heap} {locs : List Loc} {cells slots : Nat} {Q : State → Prop}
variable {b L i : Nat} {xs : Nat → Int32} {ls : Array Slot} {D : va_G} {aC : Nat → ClassId} {A : Nat → Prop} {ad : Nat → Nat → Nat} {n : Nat} {σ : St}
set_option maxHeartbeats 4000000 in
set_option maxRecDepth 100000 in
theorem lc_4 (C : LC l p s m c args b L xs D aC A) (hL : L ≤ 3072) (hi : i + 6 ≤ L) (hc : cells + 42 ≤ 601024 ∧ slots + 1506 ≤ 7293033) (hH : Hold D aC A ad n σ H) (hI : II σ) (hS : va_S A s.heap H locs) (hl : lv_has ls 7 (lvL b ad i)) (KK : LK p l e s m args below meth c b i D aC A ad cells slots Q) : W p l e room_1 s m args below meth c H locs cells slots Q (F0 m 336 ls []) := by
  obtain ⟨hx, hb, hml, hown, hg, hK, hZ, hT, hX, hbl, hbA, hA, hlt⟩ := C
  have hf : cells ≤ room_1.cells ∧ slots ≤ room_1.slots := ⟨by show cells ≤ 601024; omega, by show slots ≤ 7293033; omega⟩
  obtain ⟨⟨σ1, r1⟩, f1, ⟨σ2, r2⟩, f2, f3, f4⟩ := j_count hI (xs (i + 1)) (xs (i + 2))
  dsimp only at f2 f3 f4
  refine lv_aload_n hx hb d_law_336 rfl (lv_at hl 1 rfl) ?_
  refine st_arg 1 (k := 1) hx hb (lv_at hl 0 rfl) (lv_at hl 4 rfl) hX hbl hbA hS hL (by omega) rfl rfl d_law_337 d_law_338 d_law_340 d_law_341 d_law_342 ?_
  refine st_arg 2 (k := 2) hx hb (lv_at hl 0 rfl) (lv_at hl 4 rfl) hX hbl hbA hS hL (by omega) rfl rfl d_law_343 d_law_344 d_law_346 d_law_347 d_law_348 ?_
  refine st_Vi (As := [.int (xs (i + 1)), .int (xs (i + 2))]) (rest := []) ⟨hx, hb, hml, hown, hg⟩ (c_PC_count l D aC A ad n _ (xs (i + 1)) (xs (i + 2)) _ f1) (cwG hg we_132 we_133 we_134 we_135 wd_4 yd_PC_count ⟨Nat.le_of_ble_eq_true rfl, Nat.le_of_ble_eq_true rfl⟩) hK hH hS hZ hd_0 rfl rfl rfl hl.1 rfl (Nat.le_of_ble_eq_true rfl) d_law_349 hf (fun H locs hH hS => ?_)
  refine lv_aload_n hx hb d_law_352 rfl (lv_at hl 2 rfl) ?_
  refine st_arg 1 (k := 1) hx hb (lv_at hl 0 rfl) (lv_at hl 4 rfl) hX hbl hbA hS hL (by omega) rfl rfl d_law_353 d_law_354 d_law_356 d_law_357 d_law_358 ?_
  refine st_arg 2 (k := 2) hx hb (lv_at hl 0 rfl) (lv_at hl 4 rfl) hX hbl hbA hS hL (by omega) rfl rfl d_law_359 d_law_360 d_law_362 d_law_363 d_law_364 ?_
  refine st_Vi (As := [.int (xs (i + 1)), .int (xs (i + 2))]) (rest := [.int r1]) ⟨hx, hb, hml, hown, hg⟩ (c_Mo_count l D aC A ad n _ (xs (i + 1)) (xs (i + 2)) _ f2) (cwG hg we_136 we_137 we_138 we_139 wd_428 yd_Mo_count ⟨Nat.le_of_ble_eq_true rfl, Nat.le_of_ble_eq_true rfl⟩) hK hH hS hZ hd_48 rfl rfl rfl hl.1 rfl (Nat.le_of_ble_eq_true rfl) d_law_365 hf (fun H locs hH hS => ?_)
  refine lv_icmp_eq (tgt := 1192) hx hb d_law_368 (by decide) (fun _ => ?_) (fun z => absurd f3 z)
  exact W.widen (by omega) (by omega) (KK ad _ σ2 H locs ls rfl rfl rfl hH f4 hS hl)
set_option maxHeartbeats 4000000 in
set_option maxRecDepth 100000 in
theorem lc_5 (C : LC l p s m c args b L xs D aC A) (hL : L ≤ 3072) (hi : i + 6 ≤ L) (hc : cells + 42 ≤ 601024 ∧ slots + 1506 ≤ 7293033) (hH : Hold D aC A ad n σ H) (hI : II σ) (hS : va_S A s.heap H locs) (hl : lv_has ls 7 (lvL b ad i)) (KK : LK p l e s m args below meth c b i D aC A ad cells slots Q) : W p l e room_1 s m args below meth c H locs cells slots Q (F0 m 373 ls []) := by
  obtain ⟨hx, hb, hml, hown, hg, hK, hZ, hT, hX, hbl, hbA, hA, hlt⟩ := C
  have hf : cells ≤ room_1.cells ∧ slots ≤ room_1.slots := ⟨by show cells ≤ 601024; omega, by show slots ≤ 7293033; omega⟩
  obtain ⟨⟨σ1, r1⟩, f1, ⟨σ2, r2⟩, f2, f3, f4⟩ := j_countText hI 
  dsimp only at f2 f3 f4
  refine lv_aload_n hx hb d_law_373 rfl (lv_at hl 1 rfl) ?_
  refine st_Vi (As := []) (rest := []) ⟨hx, hb, hml, hown, hg⟩ (c_PC_countText l D aC A ad n _  _ f1) (cwG hg we_140 we_141 we_142 we_143 wd_4 yd_PC_countText ⟨Nat.le_of_ble_eq_true rfl, Nat.le_of_ble_eq_true rfl⟩) hK hH hS hZ hd_0 rfl rfl rfl hl.1 rfl (Nat.le_of_ble_eq_true rfl) d_law_374 hf (fun H locs hH hS => ?_)
  refine lv_aload_n hx hb d_law_377 rfl (lv_at hl 2 rfl) ?_
  refine st_Vi (As := []) (rest := [.int r1]) ⟨hx, hb, hml, hown, hg⟩ (c_Mo_countText l D aC A ad n _  _ f2) (cwG hg we_144 we_145 we_146 we_147 wd_428 yd_Mo_countText ⟨Nat.le_of_ble_eq_true rfl, Nat.le_of_ble_eq_true rfl⟩) hK hH hS hZ hd_48 rfl rfl rfl hl.1 rfl (Nat.le_of_ble_eq_true rfl) d_law_378 hf (fun H locs hH hS => ?_)
  refine lv_icmp_eq (tgt := 1192) hx hb d_law_381 (by decide) (fun _ => ?_) (fun z => absurd f3 z)
  exact W.widen (by omega) (by omega) (KK ad _ σ2 H locs ls rfl rfl rfl hH f4 hS hl)
set_option maxHeartbeats 4000000 in
set_option maxRecDepth 100000 in
theorem lc_6 (C : LC l p s m c args b L xs D aC A) (hL : L ≤ 3072) (hi : i + 6 ≤ L) (hc : cells + 42 ≤ 601024 ∧ slots + 1506 ≤ 7293033) (hH : Hold D aC A ad n σ H) (hI : II σ) (hS : va_S A s.heap H locs) (hl : lv_has ls 7 (lvL b ad i)) (KK : LK p l e s m args below meth c b i D aC A ad cells slots Q) : W p l e room_1 s m args below meth c H locs cells slots Q (F0 m 386 ls []) := by
  obtain ⟨hx, hb, hml, hown, hg, hK, hZ, hT, hX, hbl, hbA, hA, hlt⟩ := C
  have hf : cells ≤ room_1.cells ∧ slots ≤ room_1.slots := ⟨by show cells ≤ 601024; omega, by show slots ≤ 7293033; omega⟩
  obtain ⟨⟨σ1, r1⟩, f1, ⟨σ2, r2⟩, f2, f3, f4⟩ := j_least hI (xs (i + 1)) (xs (i + 2))
  dsimp only at f2 f3 f4
  refine lv_aload_n hx hb d_law_386 rfl (lv_at hl 1 rfl) ?_
  refine st_arg 1 (k := 1) hx hb (lv_at hl 0 rfl) (lv_at hl 4 rfl) hX hbl hbA hS hL (by omega) rfl rfl d_law_387 d_law_388 d_law_390 d_law_391 d_law_392 ?_
  refine st_arg 2 (k := 2) hx hb (lv_at hl 0 rfl) (lv_at hl 4 rfl) hX hbl hbA hS hL (by omega) rfl rfl d_law_393 d_law_394 d_law_396 d_law_397 d_law_398 ?_
  refine st_ViA (As := [.int (xs (i + 1)), .int (xs (i + 2))]) (rest := []) (mc := 7) (ms := 251) ⟨hx, hb, hml, hown, hg⟩ (c_PC_least l D aC A ad n _ (xs (i + 1)) (xs (i + 2)) _ f1) (cwG hg we_148 we_149 we_150 we_151 wd_4 yd_PC_least ⟨Nat.le_of_ble_eq_true rfl, Nat.le_of_ble_eq_true rfl⟩) hK hH hS hZ hA hd_0 rfl rfl rfl hl.1 rfl (Nat.le_of_ble_eq_true rfl) d_law_399 ⟨by show cells + 7 ≤ 601024; omega, by show slots + 251 ≤ 7293033; omega⟩ (fun ad1 H locs hx1 hH hS => ?_)
  have hl : lv_has ls 7 (lvL b ad1 i) := by
    show lv_has ls 7 [(0, .ref b), (1, .ref (ad1 0 0)), (2, .ref (ad1 48 0)), (3, .ref (ad1 70 0)), (4, .int (Int32.ofNat i))]
    rw [hx1 0 0 hd_0, hx1 48 0 hd_48, hx1 70 0 hd_70]
    exact hl
  refine lv_aload_n hx hb d_law_402 rfl (lv_at hl 2 rfl) ?_
  refine st_arg 1 (k := 1) hx hb (lv_at hl 0 rfl) (lv_at hl 4 rfl) hX hbl hbA hS hL (by omega) rfl rfl d_law_403 d_law_404 d_law_406 d_law_407 d_law_408 ?_
  refine st_arg 2 (k := 2) hx hb (lv_at hl 0 rfl) (lv_at hl 4 rfl) hX hbl hbA hS hL (by omega) rfl rfl d_law_409 d_law_410 d_law_412 d_law_413 d_law_414 ?_
  refine st_Vi (As := [.int (xs (i + 1)), .int (xs (i + 2))]) (rest := [.int r1]) ⟨hx, hb, hml, hown, hg⟩ (c_Mo_least l D aC A ad1 _ _ (xs (i + 1)) (xs (i + 2)) _ f2) (cwG hg we_152 we_153 we_154 we_155 wd_428 yd_Mo_least ⟨Nat.le_of_ble_eq_true rfl, Nat.le_of_ble_eq_true rfl⟩) hK hH hS hZ hd_48 rfl rfl rfl hl.1 rfl (Nat.le_of_ble_eq_true rfl) d_law_415 ⟨by show cells + 7 ≤ 601024; omega, by show slots + 251 ≤ 7293033; omega⟩ (fun H locs hH hS => ?_)
  refine lv_icmp_eq (tgt := 1192) hx hb d_law_418 (by decide) (fun _ => ?_) (fun z => absurd f3 z)
  exact W.widen (by omega) (by omega) (KK ad1 _ σ2 H locs ls (hx1 0 0 hd_0) (hx1 48 0 hd_48) (hx1 70 0 hd_70) hH f4 hS hl)
end LCASE
