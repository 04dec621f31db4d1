theorem d_law_890 : decode code 890 = .ok (.aload_n 1, 1) := by decide +kernel
theorem d_law_891 : decode code 891 = .ok (.aload_n 0, 1) := by decide +kernel
theorem d_law_892 : decode code 892 = .ok (.iload 4, 2) := by decide +kernel
theorem d_law_894 : decode code 894 = .ok (.iconst 1, 1) := by decide +kernel
theorem d_law_895 : decode code 895 = .ok (.iadd, 1) := by decide +kernel
theorem d_law_896 : decode code 896 = .ok (.iaload, 1) := by decide +kernel
theorem d_law_897 : decode code 897 = .ok (.aload_n 0, 1) := by decide +kernel
theorem d_law_898 : decode code 898 = .ok (.iload 4, 2) := by decide +kernel
theorem d_law_900 : decode code 900 = .ok (.iconst 2, 1) := by decide +kernel
theorem d_law_901 : decode code 901 = .ok (.iadd, 1) := by decide +kernel
theorem d_law_902 : decode code 902 = .ok (.iaload, 1) := by decide +kernel
theorem d_law_903 : decode code 903 = .ok (.aload_n 0, 1) := by decide +kernel
theorem d_law_904 : decode code 904 = .ok (.iload 4, 2) := by decide +kernel
theorem d_law_906 : decode code 906 = .ok (.iconst 3, 1) := by decide +kernel
theorem d_law_907 : decode code 907 = .ok (.iadd, 1) := by decide +kernel
theorem d_law_908 : decode code 908 = .ok (.iaload, 1) := by decide +kernel
theorem d_law_909 : decode code 909 = .ok (.aload_n 0, 1) := by decide +kernel
theorem d_law_910 : decode code 910 = .ok (.iload 4, 2) := by decide +kernel
theorem d_law_912 : decode code 912 = .ok (.iconst 4, 1) := by decide +kernel
theorem d_law_913 : decode code 913 = .ok (.iadd, 1) := by decide +kernel
theorem d_law_914 : decode code 914 = .ok (.iaload, 1) := by decide +kernel
theorem d_law_915 : decode code 915 = .ok (.aload_n 0, 1) := by decide +kernel
theorem d_law_916 : decode code 916 = .ok (.iload 4, 2) := by decide +kernel
theorem d_law_918 : decode code 918 = .ok (.iconst 5, 1) := by decide +kernel
theorem d_law_919 : decode code 919 = .ok (.iadd, 1) := by decide +kernel
theorem d_law_920 : decode code 920 = .ok (.iaload, 1) := by decide +kernel
theorem d_law_921 : decode code 921 = .ok (.invokevirtual 112, 3) := by decide +kernel
theorem d_law_924 : decode code 924 = .ok (.aload_n 2, 1) := by decide +kernel
theorem d_law_925 : decode code 925 = .ok (.aload_n 0, 1) := by decide +kernel
theorem d_law_926 : decode code 926 = .ok (.iload 4, 2) := by decide +kernel
theorem d_law_928 : decode code 928 = .ok (.iconst 1, 1) := by decide +kernel
theorem d_law_929 : decode code 929 = .ok (.iadd, 1) := by decide +kernel
theorem d_law_930 : decode code 930 = .ok (.iaload, 1) := by decide +kernel
theorem d_law_931 : decode code 931 = .ok (.aload_n 0, 1) := by decide +kernel
theorem d_law_932 : decode code 932 = .ok (.iload 4, 2) := by decide +kernel
theorem d_law_934 : decode code 934 = .ok (.iconst 2, 1) := by decide +kernel
theorem d_law_935 : decode code 935 = .ok (.iadd, 1) := by decide +kernel
theorem d_law_936 : decode code 936 = .ok (.iaload, 1) := by decide +kernel
theorem d_law_937 : decode code 937 = .ok (.aload_n 0, 1) := by decide +kernel
theorem d_law_938 : decode code 938 = .ok (.iload 4, 2) := by decide +kernel
theorem d_law_940 : decode code 940 = .ok (.iconst 3, 1) := by decide +kernel
theorem d_law_941 : decode code 941 = .ok (.iadd, 1) := by decide +kernel
theorem d_law_942 : decode code 942 = .ok (.iaload, 1) := by decide +kernel
theorem d_law_943 : decode code 943 = .ok (.aload_n 0, 1) := by decide +kernel
theorem d_law_944 : decode code 944 = .ok (.iload 4, 2) := by decide +kernel
theorem d_law_946 : decode code 946 = .ok (.iconst 4, 1) := by decide +kernel
theorem d_law_947 : decode code 947 = .ok (.iadd, 1) := by decide +kernel
theorem d_law_948 : decode code 948 = .ok (.iaload, 1) := by decide +kernel
theorem d_law_949 : decode code 949 = .ok (.aload_n 0, 1) := by decide +kernel
theorem d_law_950 : decode code 950 = .ok (.iload 4, 2) := by decide +kernel
theorem d_law_952 : decode code 952 = .ok (.iconst 5, 1) := by decide +kernel
theorem d_law_953 : decode code 953 = .ok (.iadd, 1) := by decide +kernel
theorem d_law_954 : decode code 954 = .ok (.iaload, 1) := by decide +kernel
theorem d_law_955 : decode code 955 = .ok (.invokevirtual 116, 3) := by decide +kernel
theorem d_law_958 : decode code 958 = .ok (.if_icmp .eq 234, 3) := by decide +kernel
theorem d_law_963 : decode code 963 = .ok (.aload_n 1, 1) := by decide +kernel
theorem d_law_964 : decode code 964 = .ok (.invokevirtual 117, 3) := by decide +kernel
theorem d_law_967 : decode code 967 = .ok (.aload_n 2, 1) := by decide +kernel
theorem d_law_968 : decode code 968 = .ok (.invokevirtual 120, 3) := by decide +kernel
theorem d_law_971 : decode code 971 = .ok (.if_icmp .eq 221, 3) := by decide +kernel
section LCASE
variable {p : Program} {l : Launch} {e : Env} {s : State} {m : MethodId} {args : Array Value} {below : List Frame} {meth : Method} {c : Code} {H : Heap} {locs : List Loc} {cells slots : Nat} {Q : State → Prop}
variable {b L i : Nat} {xs : Nat → Int32} {ls : Array Slot} {D : va_G} {aC : Nat → ClassId} {A : Nat → Prop} {ad : Nat → Nat → Nat} {n : Nat} {σ : St}
set_option maxHeartbeats 4000000 in
set_option maxRecDepth 100000 in
theorem lc_19 (C : LC l p s m c args b L xs D aC A) (hL : L ≤ 3072) (hi : i + 6 ≤ L) (hc : cells + 42 ≤ 601024 ∧ slots + 1506 ≤ 7293033) (hH : Hold D aC A ad n σ H) (hI : II σ) (hS : va_S A s.heap H locs) (hl : lv_has ls 7 (lvL b ad i)) (KK : LK p l e s m args below meth c b i D aC A ad cells slots Q) : W p l e room_1 s m args below meth c H locs cells slots Q (F0 m 890 ls []) := by
  obtain ⟨hx, hb, hml, hown, hg, hK, hZ, hT, hX, hbl, hbA, hA, hlt⟩ := C
  have hf : cells ≤ room_1.cells ∧ slots ≤ room_1.slots := ⟨by show cells ≤ 601024; omega, by show slots ≤ 7293033; omega⟩
  obtain ⟨⟨σ1, r1⟩, f1, ⟨σ2, r2⟩, f2, f3, f4⟩ := j_add hI (xs (i + 1)) (xs (i + 2)) (xs (i + 3)) (xs (i + 4)) (xs (i + 5))
  dsimp only at f2 f3 f4
  refine lv_aload_n hx hb d_law_890 rfl (lv_at hl 1 rfl) ?_
  refine st_arg 1 (k := 1) hx hb (lv_at hl 0 rfl) (lv_at hl 4 rfl) hX hbl hbA hS hL (by omega) rfl rfl d_law_891 d_law_892 d_law_894 d_law_895 d_law_896 ?_
  refine st_arg 2 (k := 2) hx hb (lv_at hl 0 rfl) (lv_at hl 4 rfl) hX hbl hbA hS hL (by omega) rfl rfl d_law_897 d_law_898 d_law_900 d_law_901 d_law_902 ?_
  refine st_arg 3 (k := 3) hx hb (lv_at hl 0 rfl) (lv_at hl 4 rfl) hX hbl hbA hS hL (by omega) rfl rfl d_law_903 d_law_904 d_law_906 d_law_907 d_law_908 ?_
  refine st_arg 4 (k := 4) hx hb (lv_at hl 0 rfl) (lv_at hl 4 rfl) hX hbl hbA hS hL (by omega) rfl rfl d_law_909 d_law_910 d_law_912 d_law_913 d_law_914 ?_
  refine st_arg 5 (k := 5) hx hb (lv_at hl 0 rfl) (lv_at hl 4 rfl) hX hbl hbA hS hL (by omega) rfl rfl d_law_915 d_law_916 d_law_918 d_law_919 d_law_920 ?_
  refine st_Vi (As := [.int (xs (i + 1)), .int (xs (i + 2)), .int (xs (i + 3)), .int (xs (i + 4)), .int (xs (i + 5))]) (rest := []) ⟨hx, hb, hml, hown, hg⟩ (c_PC_add l D aC A ad n _ (xs (i + 1)) (xs (i + 2)) (xs (i + 3)) (xs (i + 4)) (xs (i + 5)) _ f1) (cwG hg we_250 we_251 we_252 we_253 wd_4 yd_PC_add ⟨Nat.le_of_ble_eq_true rfl, Nat.le_of_ble_eq_true rfl⟩) hK hH hS hZ hd_0 rfl rfl rfl hl.1 rfl (Nat.le_of_ble_eq_true rfl) d_law_921 hf (fun H locs hH hS => ?_)
  refine lv_aload_n hx hb d_law_924 rfl (lv_at hl 2 rfl) ?_
  refine st_arg 1 (k := 1) hx hb (lv_at hl 0 rfl) (lv_at hl 4 rfl) hX hbl hbA hS hL (by omega) rfl rfl d_law_925 d_law_926 d_law_928 d_law_929 d_law_930 ?_
  refine st_arg 2 (k := 2) hx hb (lv_at hl 0 rfl) (lv_at hl 4 rfl) hX hbl hbA hS hL (by omega) rfl rfl d_law_931 d_law_932 d_law_934 d_law_935 d_law_936 ?_
  refine st_arg 3 (k := 3) hx hb (lv_at hl 0 rfl) (lv_at hl 4 rfl) hX hbl hbA hS hL (by omega) rfl rfl d_law_937 d_law_938 d_law_940 d_law_941 d_law_942 ?_
  refine st_arg 4 (k := 4) hx hb (lv_at hl 0 rfl) (lv_at hl 4 rfl) hX hbl hbA hS hL (by omega) rfl rfl d_law_943 d_law_944 d_law_946 d_law_947 d_law_948 ?_
  refine st_arg 5 (k := 5) hx hb (lv_at hl 0 rfl) (lv_at hl 4 rfl) hX hbl hbA hS hL (by omega) rfl rfl d_law_949 d_law_950 d_law_952 d_law_953 d_law_954 ?_
  refine st_Vi (As := [.int (xs (i + 1)), .int (xs (i + 2)), .int (xs (i + 3)), .int (xs (i + 4)), .int (xs (i + 5))]) (rest := [.int r1]) ⟨hx, hb, hml, hown, hg⟩ (c_Mo_add l D aC A ad n _ (xs (i + 1)) (xs (i + 2)) (xs (i + 3)) (xs (i + 4)) (xs (i + 5)) _ f2) (cwG hg we_254 we_255 we_256 we_257 wd_428 yd_Mo_add ⟨Nat.le_of_ble_eq_true rfl, Nat.le_of_ble_eq_true rfl⟩) hK hH hS hZ hd_48 rfl rfl rfl hl.1 rfl (Nat.le_of_ble_eq_true rfl) d_law_955 hf (fun H locs hH hS => ?_)
  refine lv_icmp_eq (tgt := 1192) hx hb d_law_958 (by decide) (fun _ => ?_) (fun z => absurd f3 z)
  exact W.widen (by omega) (by omega) (KK ad _ σ2 H locs ls rfl rfl rfl hH f4 hS hl)
set_option maxHeartbeats 4000000 in
set_option maxRecDepth 100000 in
theorem lc_20 (C : LC l p s m c args b L xs D aC A) (hL : L ≤ 3072) (hi : i + 6 ≤ L) (hc : cells + 42 ≤ 601024 ∧ slots + 1506 ≤ 7293033) (hH : Hold D aC A ad n σ H) (hI : II σ) (hS : va_S A s.heap H locs) (hl : lv_has ls 7 (lvL b ad i)) (KK : LK p l e s m args below meth c b i D aC A ad cells slots Q) : W p l e room_1 s m args below meth c H locs cells slots Q (F0 m 963 ls []) := by
  obtain ⟨hx, hb, hml, hown, hg, hK, hZ, hT, hX, hbl, hbA, hA, hlt⟩ := C
  have hf : cells ≤ room_1.cells ∧ slots ≤ room_1.slots := ⟨by show cells ≤ 601024; omega, by show slots ≤ 7293033; omega⟩
  obtain ⟨⟨σ1, r1⟩, f1, ⟨σ2, r2⟩, f2, f3, f4⟩ := j_forget hI 
  dsimp only at f2 f3 f4
  refine lv_aload_n hx hb d_law_963 rfl (lv_at hl 1 rfl) ?_
  refine st_Vi (As := []) (rest := []) ⟨hx, hb, hml, hown, hg⟩ (c_PC_forget l D aC A ad n _  _ f1) (cwG hg we_258 we_259 we_260 we_261 wd_4 yd_PC_forget ⟨Nat.le_of_ble_eq_true rfl, Nat.le_of_ble_eq_true rfl⟩) hK hH hS hZ hd_0 rfl rfl rfl hl.1 rfl (Nat.le_of_ble_eq_true rfl) d_law_964 hf (fun H locs hH hS => ?_)
  refine lv_aload_n hx hb d_law_967 rfl (lv_at hl 2 rfl) ?_
  refine st_Vi (As := []) (rest := [.int r1]) ⟨hx, hb, hml, hown, hg⟩ (c_Mo_forget l D aC A ad n _  _ f2) (cwG hg we_262 we_263 we_264 we_265 wd_428 yd_Mo_forget ⟨Nat.le_of_ble_eq_true rfl, Nat.le_of_ble_eq_true rfl⟩) hK hH hS hZ hd_48 rfl rfl rfl hl.1 rfl (Nat.le_of_ble_eq_true rfl) d_law_968 hf (fun H locs hH hS => ?_)
  refine lv_icmp_eq (tgt := 1192) hx hb d_law_971 (by decide) (fun _ => ?_) (fun z => absurd f3 z)
  exact W.widen (by omega) (by omega) (KK ad _ σ2 H locs ls rfl rfl rfl hH f4 hS hl)
end LCASE
