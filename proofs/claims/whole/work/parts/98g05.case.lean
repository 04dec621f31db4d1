theorem d_law_423 : decode code 423 = .ok (.aload_n 1, 1) := by decide +kernel
theorem d_law_424 : decode code 424 = .ok (.aload_n 0, 1) := by decide +kernel
theorem d_law_425 : decode code 425 = .ok (.iload 4, 2) := by decide +kernel
theorem d_law_427 : decode code 427 = .ok (.iconst 1, 1) := by decide +kernel
theorem d_law_428 : decode code 428 = .ok (.iadd, 1) := by decide +kernel
theorem d_law_429 : decode code 429 = .ok (.iaload, 1) := by decide +kernel
theorem d_law_430 : decode code 430 = .ok (.invokevirtual 57, 3) := by decide +kernel
theorem d_law_433 : decode code 433 = .ok (.aload_n 2, 1) := by decide +kernel
theorem d_law_434 : decode code 434 = .ok (.aload_n 0, 1) := by decide +kernel
theorem d_law_435 : decode code 435 = .ok (.iload 4, 2) := by decide +kernel
theorem d_law_437 : decode code 437 = .ok (.iconst 1, 1) := by decide +kernel
theorem d_law_438 : decode code 438 = .ok (.iadd, 1) := by decide +kernel
theorem d_law_439 : decode code 439 = .ok (.iaload, 1) := by decide +kernel
theorem d_law_440 : decode code 440 = .ok (.invokevirtual 61, 3) := by decide +kernel
theorem d_law_443 : decode code 443 = .ok (.lcmp, 1) := by decide +kernel
theorem d_law_444 : decode code 444 = .ok (.ifCond .eq 748, 3) := by decide +kernel
theorem d_law_449 : decode code 449 = .ok (.aload_n 1, 1) := by decide +kernel
theorem d_law_450 : decode code 450 = .ok (.invokevirtual 62, 3) := by decide +kernel
theorem d_law_453 : decode code 453 = .ok (.aload_n 2, 1) := by decide +kernel
theorem d_law_454 : decode code 454 = .ok (.invokevirtual 65, 3) := by decide +kernel
theorem d_law_457 : decode code 457 = .ok (.if_icmp .eq 735, 3) := by decide +kernel
theorem d_law_462 : decode code 462 = .ok (.aload_n 1, 1) := by decide +kernel
theorem d_law_463 : decode code 463 = .ok (.aload_n 0, 1) := by decide +kernel
theorem d_law_464 : decode code 464 = .ok (.iload 4, 2) := by decide +kernel
theorem d_law_466 : decode code 466 = .ok (.iconst 1, 1) := by decide +kernel
theorem d_law_467 : decode code 467 = .ok (.iadd, 1) := by decide +kernel
theorem d_law_468 : decode code 468 = .ok (.iaload, 1) := by decide +kernel
theorem d_law_469 : decode code 469 = .ok (.aload_n 3, 1) := by decide +kernel
theorem d_law_470 : decode code 470 = .ok (.invokestatic 66, 3) := by decide +kernel
theorem d_law_473 : decode code 473 = .ok (.istore 5, 2) := by decide +kernel
theorem d_law_475 : decode code 475 = .ok (.aload_n 2, 1) := by decide +kernel
theorem d_law_476 : decode code 476 = .ok (.aload_n 0, 1) := by decide +kernel
theorem d_law_477 : decode code 477 = .ok (.iload 4, 2) := by decide +kernel
theorem d_law_479 : decode code 479 = .ok (.iconst 1, 1) := by decide +kernel
theorem d_law_480 : decode code 480 = .ok (.iadd, 1) := by decide +kernel
theorem d_law_481 : decode code 481 = .ok (.iaload, 1) := by decide +kernel
theorem d_law_482 : decode code 482 = .ok (.invokevirtual 71, 3) := by decide +kernel
theorem d_law_485 : decode code 485 = .ok (.istore 6, 2) := by decide +kernel
theorem d_law_487 : decode code 487 = .ok (.aload_n 2, 1) := by decide +kernel
theorem d_law_488 : decode code 488 = .ok (.invokevirtual 72, 3) := by decide +kernel
theorem d_law_491 : decode code 491 = .ok (.iload 5, 2) := by decide +kernel
theorem d_law_493 : decode code 493 = .ok (.if_icmp .eq 5, 3) := by decide +kernel
theorem d_law_498 : decode code 498 = .ok (.iload 5, 2) := by decide +kernel
theorem d_law_500 : decode code 500 = .ok (.ifCond .ne 15, 3) := by decide +kernel
theorem d_law_503 : decode code 503 = .ok (.aload_n 3, 1) := by decide +kernel
theorem d_law_504 : decode code 504 = .ok (.iconst 0, 1) := by decide +kernel
theorem d_law_505 : decode code 505 = .ok (.laload, 1) := by decide +kernel
theorem d_law_506 : decode code 506 = .ok (.iload 6, 2) := by decide +kernel
theorem d_law_508 : decode code 508 = .ok (.i2l, 1) := by decide +kernel
theorem d_law_509 : decode code 509 = .ok (.lcmp, 1) := by decide +kernel
theorem d_law_510 : decode code 510 = .ok (.ifCond .eq 5, 3) := by decide +kernel
theorem d_law_515 : decode code 515 = .ok (.goto 677, 3) := by decide +kernel
theorem d_law_518 : decode code 518 = .ok (.aload_n 1, 1) := by decide +kernel
theorem d_law_519 : decode code 519 = .ok (.invokevirtual 75, 3) := by decide +kernel
theorem d_law_522 : decode code 522 = .ok (.aload_n 2, 1) := by decide +kernel
theorem d_law_523 : decode code 523 = .ok (.invokevirtual 78, 3) := by decide +kernel
theorem d_law_526 : decode code 526 = .ok (.if_icmp .eq 666, 3) := by decide +kernel
section LCASE
variable {p : Program} {l : Launch} {e : Env} {s : State} {m : MethodId} {args : Array Value} {below : List Frame} {meth : Method} {c : Code} {H : Heap} {locs : List Loc} {cells slots : Nat} {Q : State → Prop}
variable {b L i : Nat} {xs : Nat → Int32} {ls : Array Slot} {D : va_G} {aC : Nat → ClassId} {A : Nat → Prop} {ad : Nat → Nat → Nat} {n : Nat} {σ : St}
set_option maxHeartbeats 4000000 in
set_option maxRecDepth 100000 in
theorem lc_7 (C : LC l p s m c args b L xs D aC A) (hL : L ≤ 3072) (hi : i + 6 ≤ L) (hc : cells + 42 ≤ 601024 ∧ slots + 1506 ≤ 7293033) (hH : Hold D aC A ad n σ H) (hI : II σ) (hS : va_S A s.heap H locs) (hl : lv_has ls 7 (lvL b ad i)) (KK : LK p l e s m args below meth c b i D aC A ad cells slots Q) : W p l e room_1 s m args below meth c H locs cells slots Q (F0 m 423 ls []) := by
  obtain ⟨hx, hb, hml, hown, hg, hK, hZ, hT, hX, hbl, hbA, hA, hlt⟩ := C
  have hf : cells ≤ room_1.cells ∧ slots ≤ room_1.slots := ⟨by show cells ≤ 601024; omega, by show slots ≤ 7293033; omega⟩
  obtain ⟨⟨σ1, r1⟩, f1, ⟨σ2, r2⟩, f2, f3, f4⟩ := j_cost hI (xs (i + 1))
  dsimp only at f2 f3 f4
  refine lv_aload_n hx hb d_law_423 rfl (lv_at hl 1 rfl) ?_
  refine st_arg 1 (k := 1) hx hb (lv_at hl 0 rfl) (lv_at hl 4 rfl) hX hbl hbA hS hL (by omega) rfl rfl d_law_424 d_law_425 d_law_427 d_law_428 d_law_429 ?_
  refine st_Vl (As := [.int (xs (i + 1))]) (rest := []) ⟨hx, hb, hml, hown, hg⟩ (c_PC_cost l D aC A ad n _ (xs (i + 1)) _ f1) (cwG hg we_156 we_157 we_158 we_159 wd_4 yd_PC_cost ⟨Nat.le_of_ble_eq_true rfl, Nat.le_of_ble_eq_true rfl⟩) hK hH hS hZ hd_0 rfl rfl rfl hl.1 rfl (Nat.le_of_ble_eq_true rfl) d_law_430 hf (fun H locs hH hS => ?_)
  refine lv_aload_n hx hb d_law_433 rfl (lv_at hl 2 rfl) ?_
  refine st_arg 1 (k := 1) hx hb (lv_at hl 0 rfl) (lv_at hl 4 rfl) hX hbl hbA hS hL (by omega) rfl rfl d_law_434 d_law_435 d_law_437 d_law_438 d_law_439 ?_
  refine st_Vl (As := [.int (xs (i + 1))]) (rest := [.long r1]) ⟨hx, hb, hml, hown, hg⟩ (c_Mo_cost l D aC A ad n _ (xs (i + 1)) _ f2) (cwG hg we_160 we_161 we_162 we_163 wd_428 yd_Mo_cost ⟨Nat.le_of_ble_eq_true rfl, Nat.le_of_ble_eq_true rfl⟩) hK hH hS hZ hd_48 rfl rfl rfl hl.1 rfl (Nat.le_of_ble_eq_true rfl) d_law_440 hf (fun H locs hH hS => ?_)
  refine st_lcmp_eq (tgt := 1192) hx hb d_law_443 d_law_444 (by decide) (fun _ => ?_) (fun z => absurd f3 z)
  exact W.widen (by omega) (by omega) (KK ad _ σ2 H locs ls rfl rfl rfl hH f4 hS hl)
set_option maxHeartbeats 4000000 in
set_option maxRecDepth 100000 in
theorem lc_8 (C : LC l p s m c args b L xs D aC A) (hL : L ≤ 3072) (hi : i + 6 ≤ L) (hc : cells + 42 ≤ 601024 ∧ slots + 1506 ≤ 7293033) (hH : Hold D aC A ad n σ H) (hI : II σ) (hS : va_S A s.heap H locs) (hl : lv_has ls 7 (lvL b ad i)) (KK : LK p l e s m args below meth c b i D aC A ad cells slots Q) : W p l e room_1 s m args below meth c H locs cells slots Q (F0 m 449 ls []) := by
  obtain ⟨hx, hb, hml, hown, hg, hK, hZ, hT, hX, hbl, hbA, hA, hlt⟩ := C
  have hf : cells ≤ room_1.cells ∧ slots ≤ room_1.slots := ⟨by show cells ≤ 601024; omega, by show slots ≤ 7293033; omega⟩
  obtain ⟨⟨σ1, r1⟩, f1, ⟨σ2, r2⟩, f2, f3, f4⟩ := j_bits hI 
  dsimp only at f2 f3 f4
  refine lv_aload_n hx hb d_law_449 rfl (lv_at hl 1 rfl) ?_
  refine st_Vi (As := []) (rest := []) ⟨hx, hb, hml, hown, hg⟩ (c_PC_bits l D aC A ad n _  _ f1) (cwG hg we_164 we_165 we_166 we_167 wd_4 yd_PC_bits ⟨Nat.le_of_ble_eq_true rfl, Nat.le_of_ble_eq_true rfl⟩) hK hH hS hZ hd_0 rfl rfl rfl hl.1 rfl (Nat.le_of_ble_eq_true rfl) d_law_450 hf (fun H locs hH hS => ?_)
  refine lv_aload_n hx hb d_law_453 rfl (lv_at hl 2 rfl) ?_
  refine st_Vi (As := []) (rest := [.int r1]) ⟨hx, hb, hml, hown, hg⟩ (c_Mo_bits l D aC A ad n _  _ f2) (cwG hg we_168 we_169 we_170 we_171 wd_428 yd_Mo_bits ⟨Nat.le_of_ble_eq_true rfl, Nat.le_of_ble_eq_true rfl⟩) hK hH hS hZ hd_48 rfl rfl rfl hl.1 rfl (Nat.le_of_ble_eq_true rfl) d_law_454 hf (fun H locs hH hS => ?_)
  refine lv_icmp_eq (tgt := 1192) hx hb d_law_457 (by decide) (fun _ => ?_) (fun z => absurd f3 z)
  exact W.widen (by omega) (by omega) (KK ad _ σ2 H locs ls rfl rfl rfl hH f4 hS hl)
set_option maxHeartbeats 4000000 in
set_option maxRecDepth 100000 in
theorem lc_9 (C : LC l p s m c args b L xs D aC A) (hL : L ≤ 3072) (hi : i + 6 ≤ L) (hc : cells + 42 ≤ 601024 ∧ slots + 1506 ≤ 7293033) (hH : Hold D aC A ad n σ H) (hI : II σ) (hS : va_S A s.heap H locs) (hl : lv_has ls 7 (lvL b ad i)) (KK : LK p l e s m args below meth c b i D aC A ad cells slots Q) : W p l e room_1 s m args below meth c H locs cells slots Q (F0 m 462 ls []) := by
  obtain ⟨hx, hb, hml, hown, hg, hK, hZ, hT, hX, hbl, hbA, hA, hlt⟩ := C
  have hf : cells ≤ room_1.cells ∧ slots ≤ room_1.slots := ⟨by show cells ≤ 601024; omega, by show slots ≤ 7293033; omega⟩
  obtain ⟨o, σ2, r2, f1, f2, f4, f5, f6⟩ := l_bit hI (xs (i + 1))
  refine lv_aload_n hx hb d_law_462 rfl (lv_at hl 1 rfl) ?_
  refine st_arg 1 (k := 1) hx hb (lv_at hl 0 rfl) (lv_at hl 4 rfl) hX hbl hbA hS hL (by omega) rfl rfl d_law_463 d_law_464 d_law_466 d_law_467 d_law_468 ?_
  refine lv_aload_n hx hb d_law_469 rfl (lv_at hl 3 rfl) ?_
  refine st_SW (As := [.ref (ad 0 0), .int (xs (i + 1)), .ref (ad 70 0)]) (rest := []) (k := 3) (mc := 1) (ms := 6) ⟨hx, hb, hml, hown, hg⟩ (c_Lw_bit l hlt D aC A ad n σ (xs (i + 1)) o f1) rfl rfl ⟨Nat.le_of_ble_eq_true rfl, Nat.le_of_ble_eq_true rfl⟩ lw_bit_c (hg _ we_172) ⟨by decide, by decide⟩ (by decide +kernel) (hg _ we_173) (hg _ we_174) hK hH hS hZ hT rfl hl.1 rfl (Nat.le_of_ble_eq_true rfl) d_law_470 ⟨by show cells + 1 ≤ 601024; omega, by show slots + 6 ≤ 7293033; omega⟩ (fun H locs hH hS => ?_)
  refine lv_istore hx hb d_law_473 hl (by decide) rfl (fun ls hl => ?_)
  refine lv_aload_n hx hb d_law_475 rfl (lv_at hl 3 rfl) ?_
  refine st_arg 1 (k := 1) hx hb (lv_at hl 1 rfl) (lv_at hl 5 rfl) hX hbl hbA hS hL (by omega) rfl rfl d_law_476 d_law_477 d_law_479 d_law_480 d_law_481 ?_
  refine st_Vi (As := [.int (xs (i + 1))]) (rest := []) ⟨hx, hb, hml, hown, hg⟩ (c_Mo_bit l D aC A ad n _ (xs (i + 1)) _ f2) (cwG hg we_175 we_176 we_177 we_178 wd_428 yd_Mo_bit ⟨Nat.le_of_ble_eq_true rfl, Nat.le_of_ble_eq_true rfl⟩) hK hH hS hZ hd_48 rfl rfl rfl hl.1 rfl (Nat.le_of_ble_eq_true rfl) d_law_482 ⟨by show cells + 1 ≤ 601024; omega, by show slots + 6 ≤ 7293033; omega⟩ (fun H locs hH hS => ?_)
  refine lv_istore hx hb d_law_485 hl (by decide) rfl (fun ls hl => ?_)
  refine lv_aload_n hx hb d_law_487 rfl (lv_at hl 4 rfl) ?_
  refine st_Vi (As := []) (rest := []) ⟨hx, hb, hml, hown, hg⟩ (c_Mo_thrown l D aC A ad n σ2 (σ2, σ2.1 48 0 0) rfl) (cwG hg we_179 we_180 we_181 we_182 wd_428 yd_Mo_thrown ⟨Nat.le_of_ble_eq_true rfl, Nat.le_of_ble_eq_true rfl⟩) hK hH hS hZ hd_48 rfl rfl rfl hl.1 rfl (Nat.le_of_ble_eq_true rfl) d_law_488 ⟨by show cells + 1 ≤ 601024; omega, by show slots + 6 ≤ 7293033; omega⟩ (fun H locs hH hS => ?_)
  have fin : W p l e room_1 s m args below meth c H locs (cells + 1) (slots + 6) Q (F0 m 515 ls []) := lv_goto (tgt := 1192) hx hb d_law_515 (by decide) (W.widen (by omega) (by omega) (KK ad _ σ2 H locs ls rfl rfl rfl hH f4 hS (lv_sub hl [2, 3, 4, 5, 6] rfl)))
  refine lv_iload hx hb d_law_491 (lv_at hl 1 rfl) ?_
  refine lv_icmp_eq (tgt := 498) hx hb d_law_493 (by decide) (fun _ => ?_) (fun z => absurd f5 z)
  refine lv_iload hx hb d_law_498 (lv_at hl 1 rfl) ?_
  refine lv_if_ne (tgt := 515) hx hb d_law_500 (by decide) (fun _ => fin) (fun z => ?_)
  refine lv_aload_n hx hb d_law_503 rfl (lv_at hl 5 rfl) ?_
  refine lv_iconst (v := 0) hx hb d_law_504 (by decide) ?_
  refine st_lald hx hb hK hH (f := 70) (i := 0) hd_70 rfl (by decide) d_law_505 ?_
  refine lv_iload hx hb d_law_506 (lv_at hl 0 rfl) ?_
  refine lv_i2l hx hb d_law_508 rfl ?_
  exact st_lcmp_eq (tgt := 515) hx hb d_law_509 d_law_510 (by decide) (fun _ => fin) (fun w => absurd (f6 z) w)
set_option maxHeartbeats 4000000 in
set_option maxRecDepth 100000 in
theorem lc_10 (C : LC l p s m c args b L xs D aC A) (hL : L ≤ 3072) (hi : i + 6 ≤ L) (hc : cells + 42 ≤ 601024 ∧ slots + 1506 ≤ 7293033) (hH : Hold D aC A ad n σ H) (hI : II σ) (hS : va_S A s.heap H locs) (hl : lv_has ls 7 (lvL b ad i)) (KK : LK p l e s m args below meth c b i D aC A ad cells slots Q) : W p l e room_1 s m args below meth c H locs cells slots Q (F0 m 518 ls []) := by
  obtain ⟨hx, hb, hml, hown, hg, hK, hZ, hT, hX, hbl, hbA, hA, hlt⟩ := C
  have hf : cells ≤ room_1.cells ∧ slots ≤ room_1.slots := ⟨by show cells ≤ 601024; omega, by show slots ≤ 7293033; omega⟩
  obtain ⟨⟨σ1, r1⟩, f1, ⟨σ2, r2⟩, f2, f3, f4⟩ := j_clear hI 
  dsimp only at f2 f3 f4
  refine lv_aload_n hx hb d_law_518 rfl (lv_at hl 1 rfl) ?_
  refine st_Vi (As := []) (rest := []) ⟨hx, hb, hml, hown, hg⟩ (c_PC_clear l D aC A ad n _  _ f1) (cwG hg we_183 we_184 we_185 we_186 wd_4 yd_PC_clear ⟨Nat.le_of_ble_eq_true rfl, Nat.le_of_ble_eq_true rfl⟩) hK hH hS hZ hd_0 rfl rfl rfl hl.1 rfl (Nat.le_of_ble_eq_true rfl) d_law_519 hf (fun H locs hH hS => ?_)
  refine lv_aload_n hx hb d_law_522 rfl (lv_at hl 2 rfl) ?_
  refine st_Vi (As := []) (rest := [.int r1]) ⟨hx, hb, hml, hown, hg⟩ (c_Mo_clear l D aC A ad n _  _ f2) (cwG hg we_187 we_188 we_189 we_190 wd_428 yd_Mo_clear ⟨Nat.le_of_ble_eq_true rfl, Nat.le_of_ble_eq_true rfl⟩) hK hH hS hZ hd_48 rfl rfl rfl hl.1 rfl (Nat.le_of_ble_eq_true rfl) d_law_523 hf (fun H locs hH hS => ?_)
  refine lv_icmp_eq (tgt := 1192) hx hb d_law_526 (by decide) (fun _ => ?_) (fun z => absurd f3 z)
  exact W.widen (by omega) (by omega) (KK ad _ σ2 H locs ls rfl rfl rfl hH f4 hS hl)
end LCASE
