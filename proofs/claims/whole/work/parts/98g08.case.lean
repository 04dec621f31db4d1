theorem d_law_658 : decode code 658 = .ok (.aload_n 1, 1) := by decide +kernel
theorem d_law_659 : decode code 659 = .ok (.aload_n 0, 1) := by decide +kernel
theorem d_law_660 : decode code 660 = .ok (.iload 4, 2) := by decide +kernel
theorem d_law_662 : decode code 662 = .ok (.iconst 1, 1) := by decide +kernel
theorem d_law_663 : decode code 663 = .ok (.iadd, 1) := by decide +kernel
theorem d_law_664 : decode code 664 = .ok (.iaload, 1) := by decide +kernel
theorem d_law_665 : decode code 665 = .ok (.aload_n 0, 1) := by decide +kernel
theorem d_law_666 : decode code 666 = .ok (.iload 4, 2) := by decide +kernel
theorem d_law_668 : decode code 668 = .ok (.iconst 2, 1) := by decide +kernel
theorem d_law_669 : decode code 669 = .ok (.iadd, 1) := by decide +kernel
theorem d_law_670 : decode code 670 = .ok (.iaload, 1) := by decide +kernel
theorem d_law_671 : decode code 671 = .ok (.ifCond .eq 7, 3) := by decide +kernel
theorem d_law_674 : decode code 674 = .ok (.iconst 1, 1) := by decide +kernel
theorem d_law_675 : decode code 675 = .ok (.goto 4, 3) := by decide +kernel
theorem d_law_678 : decode code 678 = .ok (.iconst 0, 1) := by decide +kernel
theorem d_law_679 : decode code 679 = .ok (.invokevirtual 91, 3) := by decide +kernel
theorem d_law_682 : decode code 682 = .ok (.aload_n 2, 1) := by decide +kernel
theorem d_law_683 : decode code 683 = .ok (.aload_n 0, 1) := by decide +kernel
theorem d_law_684 : decode code 684 = .ok (.iload 4, 2) := by decide +kernel
theorem d_law_686 : decode code 686 = .ok (.iconst 1, 1) := by decide +kernel
theorem d_law_687 : decode code 687 = .ok (.iadd, 1) := by decide +kernel
theorem d_law_688 : decode code 688 = .ok (.iaload, 1) := by decide +kernel
theorem d_law_689 : decode code 689 = .ok (.aload_n 0, 1) := by decide +kernel
theorem d_law_690 : decode code 690 = .ok (.iload 4, 2) := by decide +kernel
theorem d_law_692 : decode code 692 = .ok (.iconst 2, 1) := by decide +kernel
theorem d_law_693 : decode code 693 = .ok (.iadd, 1) := by decide +kernel
theorem d_law_694 : decode code 694 = .ok (.iaload, 1) := by decide +kernel
theorem d_law_695 : decode code 695 = .ok (.ifCond .eq 7, 3) := by decide +kernel
theorem d_law_698 : decode code 698 = .ok (.iconst 1, 1) := by decide +kernel
theorem d_law_699 : decode code 699 = .ok (.goto 4, 3) := by decide +kernel
theorem d_law_702 : decode code 702 = .ok (.iconst 0, 1) := by decide +kernel
theorem d_law_703 : decode code 703 = .ok (.invokevirtual 95, 3) := by decide +kernel
theorem d_law_706 : decode code 706 = .ok (.if_icmp .eq 486, 3) := by decide +kernel
theorem d_law_711 : decode code 711 = .ok (.aload_n 1, 1) := by decide +kernel
theorem d_law_712 : decode code 712 = .ok (.aload_n 0, 1) := by decide +kernel
theorem d_law_713 : decode code 713 = .ok (.iload 4, 2) := by decide +kernel
theorem d_law_715 : decode code 715 = .ok (.iconst 1, 1) := by decide +kernel
theorem d_law_716 : decode code 716 = .ok (.iadd, 1) := by decide +kernel
theorem d_law_717 : decode code 717 = .ok (.iaload, 1) := by decide +kernel
theorem d_law_718 : decode code 718 = .ok (.aload_n 0, 1) := by decide +kernel
theorem d_law_719 : decode code 719 = .ok (.iload 4, 2) := by decide +kernel
theorem d_law_721 : decode code 721 = .ok (.iconst 2, 1) := by decide +kernel
theorem d_law_722 : decode code 722 = .ok (.iadd, 1) := by decide +kernel
theorem d_law_723 : decode code 723 = .ok (.iaload, 1) := by decide +kernel
theorem d_law_724 : decode code 724 = .ok (.invokevirtual 96, 3) := by decide +kernel
theorem d_law_727 : decode code 727 = .ok (.aload_n 2, 1) := by decide +kernel
theorem d_law_728 : decode code 728 = .ok (.aload_n 0, 1) := by decide +kernel
theorem d_law_729 : decode code 729 = .ok (.iload 4, 2) := by decide +kernel
theorem d_law_731 : decode code 731 = .ok (.iconst 1, 1) := by decide +kernel
theorem d_law_732 : decode code 732 = .ok (.iadd, 1) := by decide +kernel
theorem d_law_733 : decode code 733 = .ok (.iaload, 1) := by decide +kernel
theorem d_law_734 : decode code 734 = .ok (.aload_n 0, 1) := by decide +kernel
theorem d_law_735 : decode code 735 = .ok (.iload 4, 2) := by decide +kernel
theorem d_law_737 : decode code 737 = .ok (.iconst 2, 1) := by decide +kernel
theorem d_law_738 : decode code 738 = .ok (.iadd, 1) := by decide +kernel
theorem d_law_739 : decode code 739 = .ok (.iaload, 1) := by decide +kernel
theorem d_law_740 : decode code 740 = .ok (.invokevirtual 99, 3) := by decide +kernel
theorem d_law_743 : decode code 743 = .ok (.if_icmp .eq 449, 3) := by decide +kernel
section LCASE
variable {p : Program} {l : Launch} {e : Env} {s : State} {m : MethodId} {args : Array Value} {below : List Frame} {meth : Method} {c : Code} {H : Heap} {locs : List Loc} {cells slots : Nat} {Q : State → Prop}
variable {b L i : Nat} {xs : Nat → Int32} {ls : Array Slot} {D : va_G} {aC : Nat → ClassId} {A : Nat → Prop} {ad : Nat → Nat → Nat} {n : Nat} {σ : St}
set_option maxHeartbeats 4000000 in
set_option maxRecDepth 100000 in
theorem lc_14 (C : LC l p s m c args b L xs D aC A) (hL : L ≤ 3072) (hi : i + 6 ≤ L) (hc : cells + 42 ≤ 601024 ∧ slots + 1506 ≤ 7293033) (hH : Hold D aC A ad n σ H) (hI : II σ) (hS : va_S A s.heap H locs) (hl : lv_has ls 7 (lvL b ad i)) (KK : LK p l e s m args below meth c b i D aC A ad cells slots Q) : W p l e room_1 s m args below meth c H locs cells slots Q (F0 m 658 ls []) := by
  obtain ⟨hx, hb, hml, hown, hg, hK, hZ, hT, hX, hbl, hbA, hA, hlt⟩ := C
  have hf : cells ≤ room_1.cells ∧ slots ≤ room_1.slots := ⟨by show cells ≤ 601024; omega, by show slots ≤ 7293033; omega⟩
  obtain ⟨⟨σ1, r1⟩, f1, ⟨σ2, r2⟩, f2, f3, f4⟩ := j_take hI (xs (i + 1)) (if xs (i + 2) = 0 then 0 else 1)
  dsimp only at f2 f3 f4
  refine lv_aload_n hx hb d_law_658 rfl (lv_at hl 1 rfl) ?_
  refine st_arg 1 (k := 1) hx hb (lv_at hl 0 rfl) (lv_at hl 4 rfl) hX hbl hbA hS hL (by omega) rfl rfl d_law_659 d_law_660 d_law_662 d_law_663 d_law_664 ?_
  refine st_arg 2 (k := 2) hx hb (lv_at hl 0 rfl) (lv_at hl 4 rfl) hX hbl hbA hS hL (by omega) rfl rfl d_law_665 d_law_666 d_law_668 d_law_669 d_law_670 ?_
  refine st_bool hx hb d_law_671 d_law_674 d_law_675 d_law_678 rfl rfl ?_
  refine st_Vi (As := [.int (xs (i + 1)), .int (if xs (i + 2) = 0 then 0 else 1)]) (rest := []) ⟨hx, hb, hml, hown, hg⟩ (c_PC_take l D aC A ad n _ (xs (i + 1)) (if xs (i + 2) = 0 then 0 else 1) _ f1) (cwG hg we_212 we_213 we_214 we_215 wd_4 yd_PC_take ⟨Nat.le_of_ble_eq_true rfl, Nat.le_of_ble_eq_true rfl⟩) hK hH hS hZ hd_0 rfl rfl rfl hl.1 rfl (Nat.le_of_ble_eq_true rfl) d_law_679 hf (fun H locs hH hS => ?_)
  refine lv_aload_n hx hb d_law_682 rfl (lv_at hl 2 rfl) ?_
  refine st_arg 1 (k := 1) hx hb (lv_at hl 0 rfl) (lv_at hl 4 rfl) hX hbl hbA hS hL (by omega) rfl rfl d_law_683 d_law_684 d_law_686 d_law_687 d_law_688 ?_
  refine st_arg 2 (k := 2) hx hb (lv_at hl 0 rfl) (lv_at hl 4 rfl) hX hbl hbA hS hL (by omega) rfl rfl d_law_689 d_law_690 d_law_692 d_law_693 d_law_694 ?_
  refine st_bool hx hb d_law_695 d_law_698 d_law_699 d_law_702 rfl rfl ?_
  refine st_Vi (As := [.int (xs (i + 1)), .int (if xs (i + 2) = 0 then 0 else 1)]) (rest := [.int r1]) ⟨hx, hb, hml, hown, hg⟩ (c_Mo_take l D aC A ad n _ (xs (i + 1)) (if xs (i + 2) = 0 then 0 else 1) _ f2) (cwG hg we_216 we_217 we_218 we_219 wd_428 yd_Mo_take ⟨Nat.le_of_ble_eq_true rfl, Nat.le_of_ble_eq_true rfl⟩) hK hH hS hZ hd_48 rfl rfl rfl hl.1 rfl (Nat.le_of_ble_eq_true rfl) d_law_703 hf (fun H locs hH hS => ?_)
  refine lv_icmp_eq (tgt := 1192) hx hb d_law_706 (by decide) (fun _ => ?_) (fun z => absurd f3 z)
  exact W.widen (by omega) (by omega) (KK ad _ σ2 H locs ls rfl rfl rfl hH f4 hS hl)
set_option maxHeartbeats 4000000 in
set_option maxRecDepth 100000 in
theorem lc_15 (C : LC l p s m c args b L xs D aC A) (hL : L ≤ 3072) (hi : i + 6 ≤ L) (hc : cells + 42 ≤ 601024 ∧ slots + 1506 ≤ 7293033) (hH : Hold D aC A ad n σ H) (hI : II σ) (hS : va_S A s.heap H locs) (hl : lv_has ls 7 (lvL b ad i)) (KK : LK p l e s m args below meth c b i D aC A ad cells slots Q) : W p l e room_1 s m args below meth c H locs cells slots Q (F0 m 711 ls []) := by
  obtain ⟨hx, hb, hml, hown, hg, hK, hZ, hT, hX, hbl, hbA, hA, hlt⟩ := C
  have hf : cells ≤ room_1.cells ∧ slots ≤ room_1.slots := ⟨by show cells ≤ 601024; omega, by show slots ≤ 7293033; omega⟩
  obtain ⟨⟨σ1, r1⟩, f1, ⟨σ2, r2⟩, f2, f3, f4⟩ := j_pack hI (xs (i + 1)) (xs (i + 2))
  dsimp only at f2 f3 f4
  refine lv_aload_n hx hb d_law_711 rfl (lv_at hl 1 rfl) ?_
  refine st_arg 1 (k := 1) hx hb (lv_at hl 0 rfl) (lv_at hl 4 rfl) hX hbl hbA hS hL (by omega) rfl rfl d_law_712 d_law_713 d_law_715 d_law_716 d_law_717 ?_
  refine st_arg 2 (k := 2) hx hb (lv_at hl 0 rfl) (lv_at hl 4 rfl) hX hbl hbA hS hL (by omega) rfl rfl d_law_718 d_law_719 d_law_721 d_law_722 d_law_723 ?_
  refine st_Vi (As := [.int (xs (i + 1)), .int (xs (i + 2))]) (rest := []) ⟨hx, hb, hml, hown, hg⟩ (c_PC_pack l D aC A ad n _ (xs (i + 1)) (xs (i + 2)) _ f1) (cwG hg we_220 we_221 we_222 we_223 wd_4 yd_PC_pack ⟨Nat.le_of_ble_eq_true rfl, Nat.le_of_ble_eq_true rfl⟩) hK hH hS hZ hd_0 rfl rfl rfl hl.1 rfl (Nat.le_of_ble_eq_true rfl) d_law_724 hf (fun H locs hH hS => ?_)
  refine lv_aload_n hx hb d_law_727 rfl (lv_at hl 2 rfl) ?_
  refine st_arg 1 (k := 1) hx hb (lv_at hl 0 rfl) (lv_at hl 4 rfl) hX hbl hbA hS hL (by omega) rfl rfl d_law_728 d_law_729 d_law_731 d_law_732 d_law_733 ?_
  refine st_arg 2 (k := 2) hx hb (lv_at hl 0 rfl) (lv_at hl 4 rfl) hX hbl hbA hS hL (by omega) rfl rfl d_law_734 d_law_735 d_law_737 d_law_738 d_law_739 ?_
  refine st_Vi (As := [.int (xs (i + 1)), .int (xs (i + 2))]) (rest := [.int r1]) ⟨hx, hb, hml, hown, hg⟩ (c_Mo_pack l D aC A ad n _ (xs (i + 1)) (xs (i + 2)) _ f2) (cwG hg we_224 we_225 we_226 we_227 wd_428 yd_Mo_pack ⟨Nat.le_of_ble_eq_true rfl, Nat.le_of_ble_eq_true rfl⟩) hK hH hS hZ hd_48 rfl rfl rfl hl.1 rfl (Nat.le_of_ble_eq_true rfl) d_law_740 hf (fun H locs hH hS => ?_)
  refine lv_icmp_eq (tgt := 1192) hx hb d_law_743 (by decide) (fun _ => ?_) (fun z => absurd f3 z)
  exact W.widen (by omega) (by omega) (KK ad _ σ2 H locs ls rfl rfl rfl hH f4 hS hl)
end LCASE
