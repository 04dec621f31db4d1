/-! ===== the start: classes, arrays, tables ===== -/
theorem ao_arr {args : Array Value} {s : State} {t : FieldType} (h : (Cond.arrayOver (.array t)).before args s = true) :
    ∃ comp c k, s.vm.findClass (FieldType.array t).toString = some comp ∧ s.vm.classes[c]? = some k ∧ k.kind = .array comp (.array t) ∧ s.vm.findClass ("[" ++ (FieldType.array t).toString) = some c := by
  simp only [Cond.before, Cond.holds, Cond.value, beq_iff_eq] at h
  cases hc : s.vm.findClass (FieldType.array t).toString with
  | none => simp [hc] at h
  | some comp =>
    simp only [hc, Option.bind_some, Option.bind_eq_some_iff, Option.map_eq_some_iff] at h
    obtain ⟨c, hi, k, hk, hb⟩ := h
    obtain ⟨hlt, hp, -⟩ := Array.findIdx?_eq_some_iff_getElem.mp hi
    have hkk : s.vm.classes[c] = k := (Array.getElem?_eq_some_iff.mp hk).2
    rw [hkk] at hp
    cases hkind : k.kind with
    | array component ty =>
      rw [hkind] at hb hp
      simp at hb hp
      exact ⟨comp, c, k, rfl, hk, by rw [hkind, hp, hb.1], hb.2⟩
    | _ => rw [hkind] at hb; simp at hb
theorem ac_arr {args : Array Value} {s : State} {t : FieldType} (h : (Cond.arrayClass t).before args s = true) : ∃ c, ArrOfT s c t ∧ s.vm.findClass ("[" ++ t.toString) = some c := by
  obtain ⟨c, k, comp, h1, h2, h3⟩ := Cond.arrayClass_spec h
  exact ⟨c, fun N z => ⟨(fun k h => by cases h), k, h2, comp, h3⟩, h1⟩
theorem th_in : ∀ w ∈ thL, w ∈ lw_tbl ∨ w ∈ flatC (Jvm.Cond.and given_1 narrow_1) := by decide +kernel
theorem th_any {A : Array Value} {s : State} {w : Cond} (hm : w ∈ thL) (h : w.before A s = true) : w.before #[] s = true := by
  rcases th_cl w hm with z | ⟨x, -, rfl⟩ | rfl | ⟨x, hx, z⟩
  · rw [Bool.and_eq_true] at z
    exact va_any z.1 h
  · exact va_any rfl h
  · exact va_any rfl h
  · rcases z with rfl | rfl
    · exact h
    · exact h
theorem nw_in : ∀ x ∈ nwM, (Cond.methodLinkNest x.1 x.2.1 x.2.2.1 x.2.2.2 : Cond) ∈ lw_tbl := List.forall_mem_cons.mpr ⟨(gt1 _ (List.mem_of_getElem? (i := 32) rfl)), List.forall_mem_cons.mpr ⟨(gt1 _ (List.mem_of_getElem? (i := 56) rfl)), List.forall_mem_cons.mpr ⟨(gt1 _ (List.mem_of_getElem? (i := 191) rfl)), List.forall_mem_cons.mpr ⟨(gt1 _ (List.mem_of_getElem? (i := 229) rfl)), List.forall_mem_cons.mpr ⟨(gt2 _ (List.mem_of_getElem? (i := 13) rfl)), List.forall_mem_cons.mpr ⟨(gt2 _ (List.mem_of_getElem? (i := 20) rfl)), List.forall_mem_cons.mpr ⟨(gt2 _ (List.mem_of_getElem? (i := 70) rfl)), List.forall_mem_cons.mpr ⟨(gt3 _ (List.mem_of_getElem? (i := 149) rfl)), fun _ h => absurd h List.not_mem_nil⟩⟩⟩⟩⟩⟩⟩⟩
theorem stb_0 {args : Array Value} {s : State} (hts : ∀ w ∈ lw_tbl, w.before args s = true) (hs : ∀ w ∈ flatC (Jvm.Cond.and given_1 narrow_1), w.before args s = true) : ∃ t : Nat, Stb "PrefixCodes$Commands" "TELLING_ORDER" t 19 tb_0 (fun q => s.heap.size ≤ q) s s.heap := by
  have hA : ∀ a : Nat, a < s.heap.size → ¬ s.heap.size ≤ a := fun a h => Nat.not_le.mpr h
  obtain ⟨t, h1, h2⟩ := va_Tof (tm := (.static "PrefixCodes$Commands" "TELLING_ORDER" "[I")) (ty := .int) (N := 19) (f := fun k => .int (tb_0 k)) (A := fun q => s.heap.size ≤ q) (by decide) (hs (.arrayOf (.static "PrefixCodes$Commands" "TELLING_ORDER" "[I") .int) (by decide +kernel)) (va_eqt (z := 19) (hs (.eq (.length (.static "PrefixCodes$Commands" "TELLING_ORDER" "[I")) (.int 19)) (by decide +kernel)))
    (fun j hj => match j, hj with
      | 0, _ => va_eqt (t := .elem (.static "PrefixCodes$Commands" "TELLING_ORDER" "[I") (.int 0)) (z := 16) (hs _ (by decide +kernel))
      | 1, _ => va_eqt (t := .elem (.static "PrefixCodes$Commands" "TELLING_ORDER" "[I") (.int 1)) (z := 17) (hs _ (by decide +kernel))
      | 2, _ => va_eqt (t := .elem (.static "PrefixCodes$Commands" "TELLING_ORDER" "[I") (.int 2)) (z := 18) (hs _ (by decide +kernel))
      | 3, _ => va_eqt (t := .elem (.static "PrefixCodes$Commands" "TELLING_ORDER" "[I") (.int 3)) (z := 0) (hs _ (by decide +kernel))
      | 4, _ => va_eqt (t := .elem (.static "PrefixCodes$Commands" "TELLING_ORDER" "[I") (.int 4)) (z := 8) (hs _ (by decide +kernel))
      | 5, _ => va_eqt (t := .elem (.static "PrefixCodes$Commands" "TELLING_ORDER" "[I") (.int 5)) (z := 7) (hs _ (by decide +kernel))
      | 6, _ => va_eqt (t := .elem (.static "PrefixCodes$Commands" "TELLING_ORDER" "[I") (.int 6)) (z := 9) (hs _ (by decide +kernel))
      | 7, _ => va_eqt (t := .elem (.static "PrefixCodes$Commands" "TELLING_ORDER" "[I") (.int 7)) (z := 6) (hs _ (by decide +kernel))
      | 8, _ => va_eqt (t := .elem (.static "PrefixCodes$Commands" "TELLING_ORDER" "[I") (.int 8)) (z := 10) (hs _ (by decide +kernel))
      | 9, _ => va_eqt (t := .elem (.static "PrefixCodes$Commands" "TELLING_ORDER" "[I") (.int 9)) (z := 5) (hs _ (by decide +kernel))
      | 10, _ => va_eqt (t := .elem (.static "PrefixCodes$Commands" "TELLING_ORDER" "[I") (.int 10)) (z := 11) (hs _ (by decide +kernel))
      | 11, _ => va_eqt (t := .elem (.static "PrefixCodes$Commands" "TELLING_ORDER" "[I") (.int 11)) (z := 4) (hs _ (by decide +kernel))
      | 12, _ => va_eqt (t := .elem (.static "PrefixCodes$Commands" "TELLING_ORDER" "[I") (.int 12)) (z := 12) (hs _ (by decide +kernel))
      | 13, _ => va_eqt (t := .elem (.static "PrefixCodes$Commands" "TELLING_ORDER" "[I") (.int 13)) (z := 3) (hs _ (by decide +kernel))
      | 14, _ => va_eqt (t := .elem (.static "PrefixCodes$Commands" "TELLING_ORDER" "[I") (.int 14)) (z := 13) (hs _ (by decide +kernel))
      | 15, _ => va_eqt (t := .elem (.static "PrefixCodes$Commands" "TELLING_ORDER" "[I") (.int 15)) (z := 2) (hs _ (by decide +kernel))
      | 16, _ => va_eqt (t := .elem (.static "PrefixCodes$Commands" "TELLING_ORDER" "[I") (.int 16)) (z := 14) (hs _ (by decide +kernel))
      | 17, _ => va_eqt (t := .elem (.static "PrefixCodes$Commands" "TELLING_ORDER" "[I") (.int 17)) (z := 1) (hs _ (by decide +kernel))
      | 18, _ => va_eqt (t := .elem (.static "PrefixCodes$Commands" "TELLING_ORDER" "[I") (.int 18)) (z := 15) (hs _ (by decide +kernel))
      | j + 19, hj => absurd hj (by omega)) hA
  exact ⟨t, va_Zof (hts _ (gt3 _ (List.mem_of_getElem? (i := 119) rfl))) (hts _ (gt1 _ (List.mem_of_getElem? (i := 5) rfl))) h1 hA, h2⟩
theorem stb_1 {args : Array Value} {s : State} (hts : ∀ w ∈ lw_tbl, w.before args s = true) (hs : ∀ w ∈ flatC (Jvm.Cond.and given_1 narrow_1), w.before args s = true) : ∃ t : Nat, Stb "PrefixCodes$Commands" "SHORTEST_RUN" t 3 tb_1 (fun q => s.heap.size ≤ q) s s.heap := by
  have hA : ∀ a : Nat, a < s.heap.size → ¬ s.heap.size ≤ a := fun a h => Nat.not_le.mpr h
  obtain ⟨t, h1, h2⟩ := va_Tof (tm := (.static "PrefixCodes$Commands" "SHORTEST_RUN" "[I")) (ty := .int) (N := 3) (f := fun k => .int (tb_1 k)) (A := fun q => s.heap.size ≤ q) (by decide) (hs (.arrayOf (.static "PrefixCodes$Commands" "SHORTEST_RUN" "[I") .int) (by decide +kernel)) (va_eqt (z := 3) (hs (.eq (.length (.static "PrefixCodes$Commands" "SHORTEST_RUN" "[I")) (.int 3)) (by decide +kernel)))
    (fun j hj => match j, hj with
      | 0, _ => va_eqt (t := .elem (.static "PrefixCodes$Commands" "SHORTEST_RUN" "[I") (.int 0)) (z := 3) (hs _ (by decide +kernel))
      | 1, _ => va_eqt (t := .elem (.static "PrefixCodes$Commands" "SHORTEST_RUN" "[I") (.int 1)) (z := 3) (hs _ (by decide +kernel))
      | 2, _ => va_eqt (t := .elem (.static "PrefixCodes$Commands" "SHORTEST_RUN" "[I") (.int 2)) (z := 11) (hs _ (by decide +kernel))
      | j + 3, hj => absurd hj (by omega)) hA
  exact ⟨t, va_Zof (hts _ (gt3 _ (List.mem_of_getElem? (i := 104) rfl))) (hts _ (gt1 _ (List.mem_of_getElem? (i := 5) rfl))) h1 hA, h2⟩
theorem stb_2 {args : Array Value} {s : State} (hts : ∀ w ∈ lw_tbl, w.before args s = true) (hs : ∀ w ∈ flatC (Jvm.Cond.and given_1 narrow_1), w.before args s = true) : ∃ t : Nat, Stb "PrefixCodes$Commands" "LONGEST_RUN" t 3 tb_2 (fun q => s.heap.size ≤ q) s s.heap := by
  have hA : ∀ a : Nat, a < s.heap.size → ¬ s.heap.size ≤ a := fun a h => Nat.not_le.mpr h
  obtain ⟨t, h1, h2⟩ := va_Tof (tm := (.static "PrefixCodes$Commands" "LONGEST_RUN" "[I")) (ty := .int) (N := 3) (f := fun k => .int (tb_2 k)) (A := fun q => s.heap.size ≤ q) (by decide) (hs (.arrayOf (.static "PrefixCodes$Commands" "LONGEST_RUN" "[I") .int) (by decide +kernel)) (va_eqt (z := 3) (hs (.eq (.length (.static "PrefixCodes$Commands" "LONGEST_RUN" "[I")) (.int 3)) (by decide +kernel)))
    (fun j hj => match j, hj with
      | 0, _ => va_eqt (t := .elem (.static "PrefixCodes$Commands" "LONGEST_RUN" "[I") (.int 0)) (z := 6) (hs _ (by decide +kernel))
      | 1, _ => va_eqt (t := .elem (.static "PrefixCodes$Commands" "LONGEST_RUN" "[I") (.int 1)) (z := 10) (hs _ (by decide +kernel))
      | 2, _ => va_eqt (t := .elem (.static "PrefixCodes$Commands" "LONGEST_RUN" "[I") (.int 2)) (z := 138) (hs _ (by decide +kernel))
      | j + 3, hj => absurd hj (by omega)) hA
  exact ⟨t, va_Zof (hts _ (gt3 _ (List.mem_of_getElem? (i := 106) rfl))) (hts _ (gt1 _ (List.mem_of_getElem? (i := 5) rfl))) h1 hA, h2⟩
theorem stb_3 {args : Array Value} {s : State} (hts : ∀ w ∈ lw_tbl, w.before args s = true) (hs : ∀ w ∈ flatC (Jvm.Cond.and given_1 narrow_1), w.before args s = true) : ∃ t : Nat, Stb "PrefixCodes$Commands" "RUN_BITS" t 3 tb_3 (fun q => s.heap.size ≤ q) s s.heap := by
  have hA : ∀ a : Nat, a < s.heap.size → ¬ s.heap.size ≤ a := fun a h => Nat.not_le.mpr h
  obtain ⟨t, h1, h2⟩ := va_Tof (tm := (.static "PrefixCodes$Commands" "RUN_BITS" "[I")) (ty := .int) (N := 3) (f := fun k => .int (tb_3 k)) (A := fun q => s.heap.size ≤ q) (by decide) (hs (.arrayOf (.static "PrefixCodes$Commands" "RUN_BITS" "[I") .int) (by decide +kernel)) (va_eqt (z := 3) (hs (.eq (.length (.static "PrefixCodes$Commands" "RUN_BITS" "[I")) (.int 3)) (by decide +kernel)))
    (fun j hj => match j, hj with
      | 0, _ => va_eqt (t := .elem (.static "PrefixCodes$Commands" "RUN_BITS" "[I") (.int 0)) (z := 2) (hs _ (by decide +kernel))
      | 1, _ => va_eqt (t := .elem (.static "PrefixCodes$Commands" "RUN_BITS" "[I") (.int 1)) (z := 3) (hs _ (by decide +kernel))
      | 2, _ => va_eqt (t := .elem (.static "PrefixCodes$Commands" "RUN_BITS" "[I") (.int 2)) (z := 7) (hs _ (by decide +kernel))
      | j + 3, hj => absurd hj (by omega)) hA
  exact ⟨t, va_Zof (hts _ (gt3 _ (List.mem_of_getElem? (i := 122) rfl))) (hts _ (gt1 _ (List.mem_of_getElem? (i := 5) rfl))) h1 hA, h2⟩
set_option maxHeartbeats 1000000 in
theorem start_k {args : Array Value} {s : State} (hts : ∀ w ∈ lw_tbl, w.before args s = true) (hgv : (Jvm.Cond.and given_1 narrow_1).before args s = true) : ∃ (D : va_G) (aC : Nat → ClassId), Kn D aC s ∧ Ov aC s ∧ Stc aC (fun q => s.heap.size ≤ q) s s.heap ∧ Thr (fun q => s.heap.size ≤ q) s := by
  have hs := flat_of_before _ hgv
  have hg : ∀ w ∈ gW, w.before args s = true := fun w h => hts w (gW_tbl w h)
  obtain ⟨c0, i0, hk0⟩ := u_known (C := "PrefixCodes") (T := F_PC) (N := 10) (n := 10) hg u_PC (hts _ (gt1 _ (List.mem_of_getElem? (i := 21) rfl)))
  obtain ⟨c1, i1, hk1⟩ := u_known (C := "PrefixCodesModel") (T := F_Mo) (N := 33) (n := 33) hg u_Mo (hts _ (gt4 _ (List.mem_of_getElem? (i := 167) rfl)))
  obtain ⟨c2, i2, hk2⟩ := u_known (C := "PrefixCodes$Choice") (T := F_Choice) (N := 9) (n := 9) hg u_Choice (hts _ (gt2 _ (List.mem_of_getElem? (i := 12) rfl)))
  obtain ⟨c3, i3, hk3⟩ := u_known (C := "PrefixCodes$Code") (T := F_Code) (N := 11) (n := 11) hg u_Code (hts _ (gt1 _ (List.mem_of_getElem? (i := 97) rfl)))
  obtain ⟨c4, i4, hk4⟩ := u_known (C := "PrefixCodes$Commands") (T := F_Commands) (N := 7) (n := 7) hg u_Commands (hts _ (gt1 _ (List.mem_of_getElem? (i := 91) rfl)))
  obtain ⟨c5, i5, hk5⟩ := u_known (C := "PrefixCodes$Manners") (T := F_Manners) (N := 3) (n := 3) hg u_Manners (hts _ (gt1 _ (List.mem_of_getElem? (i := 85) rfl)))
  obtain ⟨c6, i6, hk6⟩ := u_known (C := "PrefixCodes$Packages") (T := F_Packages) (N := 6) (n := 6) hg u_Packages (hts _ (gt1 _ (List.mem_of_getElem? (i := 55) rfl)))
  obtain ⟨c7, i7, hk7⟩ := u_known (C := "PrefixCodes$Reader") (T := F_Reader) (N := 5) (n := 5) hg u_Reader (hts _ (gt2 _ (List.mem_of_getElem? (i := 63) rfl)))
  obtain ⟨c8, i8, hk8⟩ := u_known (C := "PrefixCodes$Selectors") (T := F_Selectors) (N := 2) (n := 2) hg u_Selectors (hts _ (gt2 _ (List.mem_of_getElem? (i := 19) rfl)))
  obtain ⟨c9, i9, hk9⟩ := u_known (C := "PrefixCodes$Stream") (T := F_Stream) (N := 5) (n := 5) hg u_Stream (hts _ (gt1 _ (List.mem_of_getElem? (i := 31) rfl)))
  obtain ⟨c10, i10, hk10⟩ := u_known (C := "PrefixCodes$Table") (T := F_Table) (N := 10) (n := 10) hg u_Table (hts _ (gt1 _ (List.mem_of_getElem? (i := 190) rfl)))
  obtain ⟨c11, i11, hk11⟩ := u_known (C := "PrefixCodes$Text") (T := F_Text) (N := 4) (n := 4) hg u_Text (hts _ (gt1 _ (List.mem_of_getElem? (i := 228) rfl)))
  obtain ⟨a0, ai, fi⟩ := ac_arr (t := .int) (hts _ (gt1 _ (List.mem_of_getElem? (i := 53) rfl)))
  obtain ⟨a1, aj, fj⟩ := ac_arr (t := .long) (hts _ (gt1 _ (List.mem_of_getElem? (i := 83) rfl)))
  obtain ⟨a2, ab, fb⟩ := ac_arr (t := .byte) (hts _ (gt4 _ (List.mem_of_getElem? (i := 125) rfl)))
  obtain ⟨cp3, a3, k3, p3, -, o3, r3, s3⟩ := Cond.arrayOver_spec (hts _ (gt1 _ (List.mem_of_getElem? (i := 29) rfl)))
  obtain ⟨cp4, a4, k4, p4, o4, r4, s4⟩ := ao_arr (t := .int) (hts _ (gt1 _ (List.mem_of_getElem? (i := 63) rfl)))
  obtain ⟨cp5, a5, k5, p5, o5, r5, s5⟩ := ao_arr (t := .long) (hts _ (gt1 _ (List.mem_of_getElem? (i := 61) rfl)))
  have e4 : cp4 = a0 := Option.some.inj (p4.symm.trans fi)
  have e5 : cp5 = a1 := Option.some.inj (p5.symm.trans fj)
  subst e4
  subst e5
  obtain ⟨t0, z0⟩ := stb_0 hts hs
  obtain ⟨t1, z1⟩ := stb_1 hts hs
  obtain ⟨t2, z2⟩ := stb_2 hts hs
  obtain ⟨t3, z3⟩ := stb_3 hts hs
  refine ⟨(fun k => [c0, c1, c2, c3, c4, c5, c6, c7, c8, c9, c10, c11].getD k 0, fun k => [i0, i1, i2, i3, i4, i5, i6, i7, i8, i9, i10, i11].getD k (fun _ => 0)), fun k => if k < 6 then [cp4, cp5, a2, a3, a4, a5].getD k 0 else [t0, t1, t2, t3].getD (k - 100) 0, ⟨⟨fun c q hq => ?_, fun k q hq => ?_⟩, fun q hq => va_Nw.of rfl (hts _ (nw_in q hq))⟩, ⟨va_AO.of (hts _ (gt1 _ (List.mem_of_getElem? (i := 29) rfl))), ⟨k5, o5, r5⟩, ⟨k4, o4, r4⟩⟩, ⟨z0, z1, z2, z3⟩, s, State.WarmedH.refl s, fun q hq => ⟨Nat.not_le.mpr hq, rfl⟩, fun w hw => ?_, fun q hq => ?_⟩
  · match c, hq with
    | 0, hq => cases hq; exact hk0
    | 1, hq => cases hq; exact hk1
    | 2, hq => cases hq; exact hk2
    | 3, hq => cases hq; exact hk3
    | 4, hq => cases hq; exact hk4
    | 5, hq => cases hq; exact hk5
    | 6, hq => cases hq; exact hk6
    | 7, hq => cases hq; exact hk7
    | 8, hq => cases hq; exact hk8
    | 9, hq => cases hq; exact hk9
    | 10, hq => cases hq; exact hk10
    | 11, hq => cases hq; exact hk11
    | c + 12, hq => cases hq
  · match k, hq with
    | 0, hq => cases hq; exact ⟨ai, fi⟩
    | 1, hq => cases hq; exact ⟨aj, fj⟩
    | 2, hq => cases hq; exact ⟨ab, fb⟩
    | 3, hq => cases hq; exact ⟨fun N z => ⟨(fun k h => by cases h), k3, o3, cp3, r3⟩, k3, cp3, o3, r3, p3, s3⟩
    | 4, hq => cases hq; exact ⟨fun N z => ⟨(fun k h => by cases h), k4, o4, cp4, r4⟩, s4⟩
    | 5, hq => cases hq; exact ⟨fun N z => ⟨(fun k h => by cases h), k5, o5, cp5, r5⟩, s5⟩
    | k + 6, hq => cases hq
  · exact th_any hw ((th_in w hw).elim (fun z => hts w z) (fun z => hs w z))
  · have hm : (Cond.stringRef "PrefixCodes" q.1 q.2 : Cond) ∈ lw_tbl := by
      revert q
      exact List.forall_mem_cons.mpr ⟨(gt4 _ (List.mem_of_getElem? (i := 99) rfl)), List.forall_mem_cons.mpr ⟨(gt4 _ (List.mem_of_getElem? (i := 134) rfl)), List.forall_mem_cons.mpr ⟨(gt4 _ (List.mem_of_getElem? (i := 165) rfl)), fun _ h => absurd h List.not_mem_nil⟩⟩⟩
    exact hts _ hm
