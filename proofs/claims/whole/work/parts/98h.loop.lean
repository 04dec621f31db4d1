def R_law : String := "PrefixCodesLaw"
def lw_P (b : Addr) (xs : List Int32) (args : Array Value) (s : State) : Prop := args = #[.ref b] ∧ s.IntsAt b xs ∧ xs.length ≤ 3072 ∧ (Jvm.Cond.and given_1 narrow_1).before args s = true
def lw_Q (_ : Array Value) (s : State) (o : Outcome) (t : State) : Prop := o = .returned (some (.int 1)) ∧ Framed s o t [] 601024 7293033
def lw_Z (below : List Frame) (a : Array Value) (s : State) : State → Prop := fun t => ∃ o, t.status = .running ∧ Ended t below o ∧ lw_Q a s o t
/-- the law's own end, with 1 on the stack, nothing written that was there before, its room as the claim has it -/
theorem lw_ret {p : Program} {l : Launch} {e : Env} {s : State} {m : MethodId} {below : List Frame} {meth : Method} {c : Code} {b : Nat} (hx : p.tables.exec = Jvm.exec) (hb : c.code = code) (hr : meth.sig.returnType = ret) (hlocks : meth.locks = false) {pc : Nat} {H : Heap} {ls : Array Slot} (hdg : decode code pc = .ok (.ireturn, 1)) : W p l e room_1 s m #[Value.ref b] below meth c H [] 601024 7293033 (lw_Z below #[Value.ref b] s) (F0 m pc ls [.int 1]) := by
  intro T hT X
  obtain ⟨fs, hret, hrun, hended, hW, hframe⟩ := X.leave (v := some (.int 1)) (hlocks := hlocks) (fun h => by rw [hr] at h; cases h)
  have hmeth' : T.vm.method? m = some meth := X.method'
  refine ⟨T.setFrames fs, ?_, .returned (some (.int 1)), hrun, hended, rfl, ⟨_, rfl⟩, hW, hframe⟩
  jvm_step X.here [X.here.top, hx, hb, hdg, hmeth', hr, ret, narrow_b1]
  (try refine ⟨rfl, ?_⟩); (try refine ⟨rfl, ?_⟩)
  first | (intro acts; rw [hret _ acts rfl rfl rfl]) | rw [hret _ _ rfl rfl rfl]
  exact Steps.refl _
/-- what holds at the law's entry: the machine, the code, the tables' words (any of lw_tbl by 'hts w (by decide +kernel)'), the script of L ints xs at the cell b, what the Statement gives of the start (any of its parts by flat_of_before) -/
def lw_At (p : Program) (s : State) (m : MethodId) (meth : Method) (c : Code) (b L : Nat) (xs : Nat → Int32) : Prop :=
  p.tables.exec = Jvm.exec ∧ c.code = code ∧ meth.sig.returnType = ret ∧ c.maxLocals = 7 ∧ s.vm.findClass R_law = some m.cls ∧ (∀ w ∈ lw_tbl, w.before #[Value.ref b] s = true) ∧ va_X b L xs s s.heap ∧ b < s.heap.size ∧ meth.locks = false ∧ (Jvm.Cond.and given_1 narrow_1).before #[Value.ref b] s = true
theorem d_law_23 : decode code 23 = .ok (.iload 4, 2) := by decide +kernel
theorem d_law_25 : decode code 25 = .ok (.aload_n 0, 1) := by decide +kernel
theorem d_law_26 : decode code 26 = .ok (.arraylength, 1) := by decide +kernel
theorem d_law_27 : decode code 27 = .ok (.bipush 6, 2) := by decide +kernel
theorem d_law_29 : decode code 29 = .ok (.isub, 1) := by decide +kernel
theorem d_law_30 : decode code 30 = .ok (.if_icmp .gt 1168, 3) := by decide +kernel
theorem d_law_33 : decode code 33 = .ok (.aload_n 0, 1) := by decide +kernel
theorem d_law_34 : decode code 34 = .ok (.iload 4, 2) := by decide +kernel
theorem d_law_36 : decode code 36 = .ok (.iaload, 1) := by decide +kernel
theorem d_law_37 : decode code 37 = .ok (.bipush 31, 2) := by decide +kernel
theorem d_law_39 : decode code 39 = .ok (.iand, 1) := by decide +kernel
theorem d_law_40 : decode code 40 = .ok (.tableswitch 1152 0 25 #[120, 145, 194, 231, 296, 333, 346, 383, 409, 422, 478, 491, 528, 553, 618, 671, 708, 745, 782, 850, 923, 936, 997, 1022, 1035, 1096], 120) := by decide +kernel
theorem d_law_1192 : decode code 1192 = .ok (.iinc 4 6, 3) := by decide +kernel
theorem d_law_1195 : decode code 1195 = .ok (.goto (-1172), 3) := by decide +kernel
theorem d_law_1198 : decode code 1198 = .ok (.iconst 1, 1) := by decide +kernel
theorem d_law_1199 : decode code 1199 = .ok (.ireturn, 1) := by decide +kernel
theorem lw_more {L j : Nat} (hL : L ≤ 3072) (hj : j ≤ 512) (h : ¬ Int32.ofNat L - 6 < Int32.ofNat (6 * j)) : 6 * j + 6 ≤ L := by
  apply Decidable.byContradiction
  intro hn
  apply h
  by_cases h6 : 6 ≤ L
  · have e1 : Int32.ofNat L - 6 = nI (L - 6) := pk_sub (b := 6) h6
    rw [e1]
    exact nI_lt (by omega) (by omega)
  · have e2 : ∀ k : Nat, k < 6 → Int32.ofNat k - 6 < 0 := by decide
    exact Int32.lt_of_lt_of_le (e2 L (by omega)) (Int32.not_lt.mp (nI_pos (by omega)))
section LLOOP
variable {p : Program} {l : Launch} {e : Env} {s : State} {m : MethodId} {args : Array Value} {below : List Frame} {meth : Method} {c : Code} {H : Heap} {locs : List Loc} {cells slots : Nat} {Q : State → Prop}
variable {b L i : Nat} {xs : Nat → Int32} {ls : Array Slot} {D : va_G} {aC : Nat → ClassId} {A : Nat → Prop} {ad : Nat → Nat → Nat} {n : Nat} {σ : St}
set_option maxHeartbeats 4000000 in
set_option maxRecDepth 100000 in
theorem lw_loop (C : LC l p s m c #[Value.ref b] b L xs D aC A) (hAf : ∀ q, A q → s.heap.size ≤ q) (hr : meth.sig.returnType = ret) (hlocks : meth.locks = false) (hL : L ≤ 3072) {C0 S0 : Nat} (hC0 : C0 + 21504 ≤ 601024) (hS0 : S0 + 771072 ≤ 7293033) :
    ∀ (k j : Nat), L ≤ 6 * (j + k) → j ≤ 512 → ∀ (ad : Nat → Nat → Nat) (n : Nat) (σ : St) (H : Heap) (locs : List Loc) (ls : Array Slot), Hold D aC A ad n σ H → II σ → va_S A s.heap H locs → lv_has ls 7 (lvL b ad (6 * j)) → W p l e room_1 s m #[Value.ref b] below meth c H locs (C0 + 42 * j) (S0 + 1506 * j) (lw_Z below #[Value.ref b] s) (F0 m 23 ls []) := by
  have CC := C
  obtain ⟨hx, hb, hml, hown, hg, hK, hZ, hT, hX, hbl, hbA, hA, hlt⟩ := C
  intro k
  induction k with
  | zero =>
    intro j hk hj ad n σ H locs ls hH hI hS hl
    refine lv_iload hx hb d_law_23 (lv_at hl 4 rfl) ?_
    refine lv_aload_n hx hb d_law_25 rfl (lv_at hl 0 rfl) ?_
    refine va_slen hx hb hX hbl hbA hS d_law_26 ?_
    refine lv_bipush (v := 6) hx hb d_law_27 (by decide) ?_
    refine lv_isub hx hb d_law_29 ?_
    refine lv_icmp_gt (tgt := 1198) hx hb d_law_30 (by decide) (fun c30 => ?_) (fun c30 => ?_)
    · refine lv_iconst (v := 1) hx hb d_law_1198 (by decide) ?_
      refine va_forget (fun q hq => hAf _ (hS.2.2 q hq)) ?_
      exact W.widen (by omega) (by omega) (lw_ret hx hb hr hlocks d_law_1199)
    · have := lw_more hL hj c30
      omega
  | succ k ih =>
    intro j hk hj ad n σ H locs ls hH hI hS hl
    refine lv_iload hx hb d_law_23 (lv_at hl 4 rfl) ?_
    refine lv_aload_n hx hb d_law_25 rfl (lv_at hl 0 rfl) ?_
    refine va_slen hx hb hX hbl hbA hS d_law_26 ?_
    refine lv_bipush (v := 6) hx hb d_law_27 (by decide) ?_
    refine lv_isub hx hb d_law_29 ?_
    refine lv_icmp_gt (tgt := 1198) hx hb d_law_30 (by decide) (fun c30 => ?_) (fun c30 => ?_)
    · refine lv_iconst (v := 1) hx hb d_law_1198 (by decide) ?_
      refine va_forget (fun q hq => hAf _ (hS.2.2 q hq)) ?_
      exact W.widen (by omega) (by omega) (lw_ret hx hb hr hlocks d_law_1199)
    · have hi : 6 * j + 6 ≤ L := lw_more hL hj c30
      have hc : C0 + 42 * j + 42 ≤ 601024 ∧ S0 + 1506 * j + 1506 ≤ 7293033 := ⟨by omega, by omega⟩
      have KK : LK p l e s m #[Value.ref b] below meth c b (6 * j) D aC A ad (C0 + 42 * j) (S0 + 1506 * j) (lw_Z below #[Value.ref b] s) := by
        intro ad1 n1 σ1 H1 locs1 ls1 e0 e1 e2 hH hI hS hl
        refine lv_iinc hx hb d_law_1192 hl (k := 4) rfl rfl (by decide) rfl (fun ls hl => ?_)
        refine lv_goto (tgt := 23) hx hb d_law_1195 (by decide) ?_
        have h := ih (j + 1) (by omega) (by omega) ad1 n1 σ1 H1 locs1 ls hH hI hS (by
          have hl := lv_sub hl [1, 2, 3, 4, 0] rfl
          have e : Int32.ofNat (6 * j) + Int32.ofInt 6 = Int32.ofNat (6 * (j + 1)) := nI_add (6 * j) 6
          rw [e] at hl
          exact hl)
        rw [show C0 + 42 * (j + 1) = C0 + 42 * j + 42 by omega, show S0 + 1506 * (j + 1) = S0 + 1506 * j + 1506 by omega] at h
        exact h
      refine lv_aload_n hx hb d_law_33 rfl (lv_at hl 0 rfl) ?_
      refine lv_iload hx hb d_law_34 (lv_at hl 4 rfl) ?_
      refine va_sld hx hb hX hbl hbA hS (i := Int32.ofNat (6 * j)) (nI_ib (N := L) (by omega) (by omega)) d_law_36 ?_
      refine lv_bipush (v := 31) hx hb d_law_37 (by decide) ?_
      refine lv_iand hx hb d_law_39 ?_
      generalize xs (Int32.ofNat (6 * j)).toNatClampNeg &&& 31 = x
      by_cases c0 : x = 0
      · refine lv_tableIn (tgt := 160) (off := 120) hx hb d_law_40 (by rw [c0]; decide) (by rw [c0]; decide) (by rw [c0]; decide +kernel) (by decide) ?_
        exact lc_0 CC hL hi hc hH hI hS hl KK
      by_cases c1 : x = 1
      · refine lv_tableIn (tgt := 185) (off := 145) hx hb d_law_40 (by rw [c1]; decide) (by rw [c1]; decide) (by rw [c1]; decide +kernel) (by decide) ?_
        exact lc_1 CC hL hi hc hH hI hS hl KK
      by_cases c2 : x = 2
      · refine lv_tableIn (tgt := 234) (off := 194) hx hb d_law_40 (by rw [c2]; decide) (by rw [c2]; decide) (by rw [c2]; decide +kernel) (by decide) ?_
        exact lc_2 CC hL hi hc hH hI hS hl KK
      by_cases c3 : x = 3
      · refine lv_tableIn (tgt := 271) (off := 231) hx hb d_law_40 (by rw [c3]; decide) (by rw [c3]; decide) (by rw [c3]; decide +kernel) (by decide) ?_
        exact lc_3 CC hL hi hc hH hI hS hl KK
      by_cases c4 : x = 4
      · refine lv_tableIn (tgt := 336) (off := 296) hx hb d_law_40 (by rw [c4]; decide) (by rw [c4]; decide) (by rw [c4]; decide +kernel) (by decide) ?_
        exact lc_4 CC hL hi hc hH hI hS hl KK
      by_cases c5 : x = 5
      · refine lv_tableIn (tgt := 373) (off := 333) hx hb d_law_40 (by rw [c5]; decide) (by rw [c5]; decide) (by rw [c5]; decide +kernel) (by decide) ?_
        exact lc_5 CC hL hi hc hH hI hS hl KK
      by_cases c6 : x = 6
      · refine lv_tableIn (tgt := 386) (off := 346) hx hb d_law_40 (by rw [c6]; decide) (by rw [c6]; decide) (by rw [c6]; decide +kernel) (by decide) ?_
        exact lc_6 CC hL hi hc hH hI hS hl KK
      by_cases c7 : x = 7
      · refine lv_tableIn (tgt := 423) (off := 383) hx hb d_law_40 (by rw [c7]; decide) (by rw [c7]; decide) (by rw [c7]; decide +kernel) (by decide) ?_
        exact lc_7 CC hL hi hc hH hI hS hl KK
      by_cases c8 : x = 8
      · refine lv_tableIn (tgt := 449) (off := 409) hx hb d_law_40 (by rw [c8]; decide) (by rw [c8]; decide) (by rw [c8]; decide +kernel) (by decide) ?_
        exact lc_8 CC hL hi hc hH hI hS hl KK
      by_cases c9 : x = 9
      · refine lv_tableIn (tgt := 462) (off := 422) hx hb d_law_40 (by rw [c9]; decide) (by rw [c9]; decide) (by rw [c9]; decide +kernel) (by decide) ?_
        exact lc_9 CC hL hi hc hH hI hS hl KK
      by_cases c10 : x = 10
      · refine lv_tableIn (tgt := 518) (off := 478) hx hb d_law_40 (by rw [c10]; decide) (by rw [c10]; decide) (by rw [c10]; decide +kernel) (by decide) ?_
        exact lc_10 CC hL hi hc hH hI hS hl KK
      by_cases c11 : x = 11
      · refine lv_tableIn (tgt := 531) (off := 491) hx hb d_law_40 (by rw [c11]; decide) (by rw [c11]; decide) (by rw [c11]; decide +kernel) (by decide) ?_
        exact lc_11 CC hL hi hc hH hI hS hl KK
      by_cases c12 : x = 12
      · refine lv_tableIn (tgt := 568) (off := 528) hx hb d_law_40 (by rw [c12]; decide) (by rw [c12]; decide) (by rw [c12]; decide +kernel) (by decide) ?_
        exact lc_12 CC hL hi hc hH hI hS hl KK
      by_cases c13 : x = 13
      · refine lv_tableIn (tgt := 593) (off := 553) hx hb d_law_40 (by rw [c13]; decide) (by rw [c13]; decide) (by rw [c13]; decide +kernel) (by decide) ?_
        exact lc_13 CC hL hi hc hH hI hS hl KK
      by_cases c14 : x = 14
      · refine lv_tableIn (tgt := 658) (off := 618) hx hb d_law_40 (by rw [c14]; decide) (by rw [c14]; decide) (by rw [c14]; decide +kernel) (by decide) ?_
        exact lc_14 CC hL hi hc hH hI hS hl KK
      by_cases c15 : x = 15
      · refine lv_tableIn (tgt := 711) (off := 671) hx hb d_law_40 (by rw [c15]; decide) (by rw [c15]; decide) (by rw [c15]; decide +kernel) (by decide) ?_
        exact lc_15 CC hL hi hc hH hI hS hl KK
      by_cases c16 : x = 16
      · refine lv_tableIn (tgt := 748) (off := 708) hx hb d_law_40 (by rw [c16]; decide) (by rw [c16]; decide) (by rw [c16]; decide +kernel) (by decide) ?_
        exact lc_16 CC hL hi hc hH hI hS hl KK
      by_cases c17 : x = 17
      · refine lv_tableIn (tgt := 785) (off := 745) hx hb d_law_40 (by rw [c17]; decide) (by rw [c17]; decide) (by rw [c17]; decide +kernel) (by decide) ?_
        exact lc_17 CC hL hi hc hH hI hS hl KK
      by_cases c18 : x = 18
      · refine lv_tableIn (tgt := 822) (off := 782) hx hb d_law_40 (by rw [c18]; decide) (by rw [c18]; decide) (by rw [c18]; decide +kernel) (by decide) ?_
        exact lc_18 CC hL hi hc hH hI hS hl KK
      by_cases c19 : x = 19
      · refine lv_tableIn (tgt := 890) (off := 850) hx hb d_law_40 (by rw [c19]; decide) (by rw [c19]; decide) (by rw [c19]; decide +kernel) (by decide) ?_
        exact lc_19 CC hL hi hc hH hI hS hl KK
      by_cases c20 : x = 20
      · refine lv_tableIn (tgt := 963) (off := 923) hx hb d_law_40 (by rw [c20]; decide) (by rw [c20]; decide) (by rw [c20]; decide +kernel) (by decide) ?_
        exact lc_20 CC hL hi hc hH hI hS hl KK
      by_cases c21 : x = 21
      · refine lv_tableIn (tgt := 976) (off := 936) hx hb d_law_40 (by rw [c21]; decide) (by rw [c21]; decide) (by rw [c21]; decide +kernel) (by decide) ?_
        exact lc_21 CC hL hi hc hH hI hS hl KK
      by_cases c22 : x = 22
      · refine lv_tableIn (tgt := 1037) (off := 997) hx hb d_law_40 (by rw [c22]; decide) (by rw [c22]; decide) (by rw [c22]; decide +kernel) (by decide) ?_
        exact lc_22 CC hL hi hc hH hI hS hl KK
      by_cases c23 : x = 23
      · refine lv_tableIn (tgt := 1062) (off := 1022) hx hb d_law_40 (by rw [c23]; decide) (by rw [c23]; decide) (by rw [c23]; decide +kernel) (by decide) ?_
        exact lc_23 CC hL hi hc hH hI hS hl KK
      by_cases c24 : x = 24
      · refine lv_tableIn (tgt := 1075) (off := 1035) hx hb d_law_40 (by rw [c24]; decide) (by rw [c24]; decide) (by rw [c24]; decide +kernel) (by decide) ?_
        exact lc_24 CC hL hi hc hH hI hS hl KK
      by_cases c25 : x = 25
      · refine lv_tableIn (tgt := 1136) (off := 1096) hx hb d_law_40 (by rw [c25]; decide) (by rw [c25]; decide) (by rw [c25]; decide +kernel) (by decide) ?_
        exact lc_25 CC hL hi hc hH hI hS hl KK
      have n0 := lv_neT c0 (show (0 : Int32).toInt = 0 from rfl)
      have n1 := lv_neT c1 (show (1 : Int32).toInt = 1 from rfl)
      have n2 := lv_neT c2 (show (2 : Int32).toInt = 2 from rfl)
      have n3 := lv_neT c3 (show (3 : Int32).toInt = 3 from rfl)
      have n4 := lv_neT c4 (show (4 : Int32).toInt = 4 from rfl)
      have n5 := lv_neT c5 (show (5 : Int32).toInt = 5 from rfl)
      have n6 := lv_neT c6 (show (6 : Int32).toInt = 6 from rfl)
      have n7 := lv_neT c7 (show (7 : Int32).toInt = 7 from rfl)
      have n8 := lv_neT c8 (show (8 : Int32).toInt = 8 from rfl)
      have n9 := lv_neT c9 (show (9 : Int32).toInt = 9 from rfl)
      have n10 := lv_neT c10 (show (10 : Int32).toInt = 10 from rfl)
      have n11 := lv_neT c11 (show (11 : Int32).toInt = 11 from rfl)
      have n12 := lv_neT c12 (show (12 : Int32).toInt = 12 from rfl)
      have n13 := lv_neT c13 (show (13 : Int32).toInt = 13 from rfl)
      have n14 := lv_neT c14 (show (14 : Int32).toInt = 14 from rfl)
      have n15 := lv_neT c15 (show (15 : Int32).toInt = 15 from rfl)
      have n16 := lv_neT c16 (show (16 : Int32).toInt = 16 from rfl)
      have n17 := lv_neT c17 (show (17 : Int32).toInt = 17 from rfl)
      have n18 := lv_neT c18 (show (18 : Int32).toInt = 18 from rfl)
      have n19 := lv_neT c19 (show (19 : Int32).toInt = 19 from rfl)
      have n20 := lv_neT c20 (show (20 : Int32).toInt = 20 from rfl)
      have n21 := lv_neT c21 (show (21 : Int32).toInt = 21 from rfl)
      have n22 := lv_neT c22 (show (22 : Int32).toInt = 22 from rfl)
      have n23 := lv_neT c23 (show (23 : Int32).toInt = 23 from rfl)
      have n24 := lv_neT c24 (show (24 : Int32).toInt = 24 from rfl)
      have n25 := lv_neT c25 (show (25 : Int32).toInt = 25 from rfl)
      refine lv_tableOut (tgt := 1192) hx hb d_law_40 (by omega) (by decide) ?_
      exact W.widen (by omega) (by omega) (KK ad n σ H locs ls rfl rfl rfl hH hI hS hl)
end LLOOP
