/-! words of calls out of gW -/
theorem gIn0 {c : Cond} (h : c ∈ gW) : GoodIn gW (c :: gW) := fun w hw => (List.mem_cons.mp hw).elim (fun e => e ▸ ⟨h, gW_good _ h⟩) (fun hw => ⟨hw, gW_good _ hw⟩)
section CW
variable {R : Room} {s : State} {args : Array Value} {own C host : String} {index maxL k : Nat} {y : MethodName} {bytes : ByteArray} {ret : Option FieldType} {rm : Room}
theorem cwG (hg : ∀ w ∈ gW, w.before args s = true) (hc : Cond.code y bytes maxL ret ∈ gW) (hl : Cond.methodLink own index y ∈ gW) (hi : Cond.instanceMethod y ∈ gW) (hse : Cond.selects C y y ∈ gW) (hini : Cond.initialized C ∈ gW)
    (hd : y.cls = C ∧ y.cls ≠ "java/lang/invoke/MethodHandle" ∧ y.cls ≠ "java/lang/invoke/VarHandle" ∧ (parseMethodDescriptor y.desc).map (fun d => d.parameters.length) = some k) (hR : rm.frames + 1 ≤ R.frames ∧ 8 + (maxL + 11) + rm.locals ≤ R.locals) :
    CallW R s args own C index y bytes maxL ret (Cond.code y bytes maxL ret :: gW) rm rm.cells rm.slots k :=
  ⟨callB_of k hg (gIn0 hc) rfl rfl rfl (by rw [hd.1]; exact hg _ hini) (hg _ hl) hd.2 hR, hg _ hi, hg _ hse⟩
theorem cwGS (hg : ∀ w ∈ gW, w.before args s = true) (hc : Cond.code y bytes maxL ret ∈ gW) (hl : Cond.methodLink own index y ∈ gW) (hst : Cond.static y ∈ gW) (hini : Cond.initialized C ∈ gW)
    (hd : y.cls = C ∧ y.cls ≠ "java/lang/invoke/MethodHandle" ∧ y.cls ≠ "java/lang/invoke/VarHandle" ∧ (parseMethodDescriptor y.desc).map (fun d => d.parameters.length) = some k) (hR : rm.frames + 1 ≤ R.frames ∧ 8 + (maxL + 11) + rm.locals ≤ R.locals) :
    CallB R s args own index y bytes maxL ret (Cond.code y bytes maxL ret :: gW) rm rm.cells rm.slots k ∧ (Cond.static y).before args s = true :=
  ⟨callB_of k hg (gIn0 hc) rfl rfl rfl (by rw [hd.1]; exact hg _ hini) (hg _ hl) hd.2 hR, hg _ hst⟩
theorem cwGSN (hg : ∀ w ∈ gW, w.before args s = true) (hc : Cond.code y bytes maxL ret ∈ gW) (hl : va_Nw (.methodLinkNest own index y host) s) (hst : Cond.static y ∈ gW) (hini : Cond.initialized C ∈ gW)
    (hd : y.cls = C ∧ y.cls ≠ "java/lang/invoke/MethodHandle" ∧ y.cls ≠ "java/lang/invoke/VarHandle" ∧ (parseMethodDescriptor y.desc).map (fun d => d.parameters.length) = some k) (hR : rm.frames + 1 ≤ R.frames ∧ 8 + (maxL + 11) + rm.locals ≤ R.locals) :
    va_CN R s args own index y host bytes maxL ret (Cond.code y bytes maxL ret :: gW) rm rm.cells rm.slots k ∧ (Cond.static y).before args s = true ∧ True :=
  ⟨va_cnB k hg (gIn0 hc) rfl rfl rfl hl (by rw [hd.1]; exact hg _ hini) hd.2 hR, hg _ hst, trivial⟩
end CW
section ROWS2
variable {p : Program} {l : Launch} {e : Env} {R : Room} {s : State} {m : MethodId} {args : Array Value} {below : List Frame} {meth : Method} {c : Code} {H : Heap} {locs : List Loc} {cells slots : Nat} {Q : State → Prop}
variable {cc : ByteArray} {pc : Nat} {ls : Array Slot} {rest : List Value} {D : va_G} {aC : Nat → ClassId} {A : Nat → Prop} {ad : Nat → Nat → Nat} {n : Nat} {σ : St} {Ts : List Cond} {own : String} {H0 : Heap}
theorem st_bald (hexec : p.tables.exec = Jvm.exec) (hb : c.code = cc) (hK : Kn D aC s) (hH : Hold D aC A ad n σ H) {f i : Nat} (hd : dm n f i) {N : Nat} (hk : kd f = .inr (2, N)) {x : Int32} (hin : ib x N) (hdg : decode cc pc = .ok (.baload, 1))
    (kk : W p l e R s m args below meth c H locs cells slots Q (F0 m (pc + 1) ls (.int (σ.1 f i x.toNatClampNeg) :: rest))) : W p l e R s m args below meth c H locs cells slots Q (F0 m pc ls (.int x :: .ref (ad f i) :: rest)) := by
  have hP := hH.one hd
  rw [cel_b hk] at hP
  exact va_bald hexec hb hK.1 hP 0 2 rfl rfl hin hdg kk
theorem st_bast (hexec : p.tables.exec = Jvm.exec) (hb : c.code = cc) (hK : Kn D aC s) (hH : Hold D aC A ad n σ H) (hS : va_S A H0 H locs) {f i : Nat} (hd : dm n f i) {N : Nat} (hk : kd f = .inr (2, N)) {x v : Int32} (hin : ib x N) (hdg : decode cc pc = .ok (.bastore, 1))
    (kk : ∀ (σ1 : St) (H1 : Heap) (locs1 : List Loc), σ1 = sI σ f i x.toNatClampNeg v.toInt8.toInt32 → Hold D aC A ad n σ1 H1 → va_S A H0 H1 locs1 → W p l e R s m args below meth c H1 locs1 cells slots Q (F0 m (pc + 1) ls rest)) : W p l e R s m args below meth c H locs cells slots Q (F0 m pc ls (.int v :: .int x :: .ref (ad f i) :: rest)) := by
  have hP := hH.one hd
  rw [cel_b hk] at hP
  refine W.bast hexec hb (hP 0 _ rfl) ((hK.1.2 2 _ rfl).1 N (fun j => .int (σ.1 f i j))) (fun q => by cases q) (by show ¬ (x < 0 ∨ (arrV _ _ _).slots.size ≤ _); rw [arrV_size]; exact hin) rfl rfl hdg fun H1 e z oq => ?_
  refine kk _ H1 _ rfl (hH.upd hd ?_ oq (fun f' i' h => cel_sI h) (fun f i k j hd h => hH.2.2.1 f i k j hd h) rfl) (hS.put z oq (hH.2.2.2.1 f i hd))
  rw [cel_b hk]
  show H1[ad f i]? = some (vp_cell _ _)
  rw [e]
  rw [vp_cell_i, vp_cell_i, arrV_store]
  congr 2
  funext q
  by_cases hq : q = x.toNatClampNeg
  · subst hq
    simp [updV, sI, narrow_byte]
  · simp [updV, sI, hq]
/-- a store of a reference to a code -/
theorem st_aast (hexec : p.tables.exec = Jvm.exec) (hb : c.code = cc) (hK : Kn D aC s) (hH : Hold D aC A ad n σ H) (hS : va_S A H0 H locs) {f i : Nat} (hd : dm n f i) {N : Nat} (hk : kd f = .inr (3, N)) (htg : tg f = 41) {j : Nat} (hj : dm n 41 j) {x : Int32} (hin : ib x N) (hdg : decode cc pc = .ok (.aastore, 1))
    (kk : ∀ (σ1 : St) (H1 : Heap) (locs1 : List Loc), σ1 = sR σ f i x.toNatClampNeg (some j) → Hold D aC A ad n σ1 H1 → va_S A H0 H1 locs1 → W p l e R s m args below meth c H1 locs1 cells slots Q (F0 m (pc + 1) ls rest)) : W p l e R s m args below meth c H locs cells slots Q (F0 m pc ls (.ref (ad 41 j) :: .int x :: .ref (ad f i) :: rest)) := by
  have hP := hH.one hd
  rw [cel_r hk] at hP
  have hPj := hH.one hj
  rw [cel_o (ci := 3) (N := 11) rfl] at hPj
  have hlt : x.toNatClampNeg < N := Nat.not_le.mp fun q => hin (Or.inr q)
  have h0 : ¬ x < 0 := fun q => hin (Or.inl q)
  obtain ⟨r', hr', cellV, g1, g2, g3, -⟩ := hPj 0 _ rfl
  have hc : vwCl[3]? = some ("PrefixCodes$Code", F_Code, 11) := rfl
  have hr : r' = ("PrefixCodes$Code", F_Code, 11) := Option.some.inj (hr'.symm.trans hc)
  subst hr
  have hcls := (hK.1.1 3 _ hc).2
  obtain ⟨kA, comp, k1, k2, k3, -⟩ := (hK.1.2 3 _ rfl).2
  have hcomp : comp = D.1 3 := Option.some.inj (k3.symm.trans hcls.1)
  subst hcomp
  obtain ⟨hfc, kC, hkC, hkind⟩ := id hcls
  refine W.aast hexec hb (hP 0 _ rfl) (fun q h => by cases h) (fun q => by cases q) k1 k2 rfl hkC ⟨h0, by show _ < (arrV _ _ _).slots.size; rw [arrV_size]; exact hlt⟩ g1 (fun q h => by rw [g3] at h; cases h) (by rw [g2]; exact hkC) (by rw [g2]; exact va_assign hcls) rfl rfl hdg fun H1 e z oq => ?_
  refine kk _ H1 _ rfl (hH.upd hd ?_ oq (fun f' i' h => cel_sR h) (fun f' i' k' j' hd' h => ?_) rfl) (hS.put z oq (hH.2.2.2.1 f i hd))
  · rw [cel_r hk]
    show H1[ad f i]? = some (vp_cell _ _)
    rw [e]
    rw [vp_cell_q, vp_cell_q, arrV_store]
    congr 2
    funext q
    by_cases hq : q = x.toNatClampNeg
    · subst hq
      simp [updV, sR, va_rf, htg]
    · simp [updV, sR, hq]
  · simp only [sR] at h
    by_cases hx : f' = f ∧ i' = i ∧ k' = x.toNatClampNeg
    · rw [if_pos hx] at h
      cases h
      rw [hx.1, htg]
      exact hj
    · rw [if_neg hx] at h
      exact hH.2.2.1 f' i' k' j' hd' h
theorem st_copy (hexec : p.tables.exec = Jvm.exec) (hb : c.code = cc) (hml : c.maxLocals = ls.size) {index : Nat} (hown : s.vm.findClass own = some m.cls) (hlink : (Cond.methodLink own index arraycopyName).before args s = true) (hnat : (Cond.native arraycopyName).before args s = true) (hstat : (Cond.static arraycopyName).before args s = true) (hini : (Cond.initialized "java/lang/System").before args s = true)
    (hK : Kn D aC s) (hH : Hold D aC A ad n σ H) (hS : va_S A s.heap H locs) {f0 i0 : Nat} (hd0 : dm n f0 i0) {n0 : Nat} (hk0 : kd f0 = .inr (0, n0)) {f i : Nat} (hd : dm n f i) {n1 : Nat} (hk : kd f = .inr (0, n1)) {sp dp k : Int32} (g : cpok sp n0 dp n1 k)
    (hframes : 1 ≤ R.frames) (hlocals : (rest.map fun v => v.category).sum + 18 ≤ R.locals) (hdg : decode cc pc = .ok (.invokestatic index, 3))
    (kk : ∀ (σ1 : St) (H1 : Heap) (locs1 : List Loc), σ1 = cpI σ f0 i0 sp.toNatClampNeg f i dp.toNatClampNeg k.toNatClampNeg → Hold D aC A ad n σ1 H1 → va_S A s.heap H1 locs1 → W p l e R s m args below meth c H1 locs1 cells slots Q (F0 m (pc + 3) ls rest)) : W p l e R s m args below meth c H locs cells slots Q (F0 m pc ls (.int k :: .int dp :: .ref (ad f i) :: .int sp :: .ref (ad f0 i0) :: rest)) := by
  have e0 : H[ad f0 i0]? = some (vp_cell (aC 0) (n0, .inl (σ.1 f0 i0))) := by
    have h := hH.1 f0 i0 hd0
    rw [cel_i hk0] at h
    exact h
  have e1 : H[ad f i]? = some (vp_cell (aC 0) (n1, .inl (σ.1 f i))) := by
    have h := hH.1 f i hd
    rw [cel_i hk] at h
    exact h
  obtain ⟨h1, h2, h3, h4, h5⟩ := g
  have nn : ∀ z : Int32, ¬ z < 0 → z.toInt = (z.toNatClampNeg : Int) := by
    intro z hz
    have hz0 : (0 : Int) ≤ z.toInt := by
      have := Int32.not_lt.mp hz
      simpa using Int32.le_iff_toInt_le.mp this
    show z.toInt = ((z.toInt.toNat : Nat) : Int)
    omega
  intro T hT X
  obtain ⟨-, k0, hkk0, cm0, hkd0⟩ := (hK.1.2 0 _ rfl).1 n0 (fun j => .int (σ.1 f0 i0 j))
  obtain ⟨-, k1, hkk1, cm1, hkd1⟩ := (hK.1.2 0 _ rfl).1 n1 (fun j => .int (σ.1 f i j))
  obtain ⟨vm', X', step⟩ := X.arraycopy hexec hown hlink hnat hstat hini (src := ad f0 i0) (dst := ad f i) (cs := vp_cell (aC 0) (n0, .inl (σ.1 f0 i0))) (cd := vp_cell (aC 0) (n1, .inl (σ.1 f i))) (srcPos := sp) (destPos := dp) (n := k) (by rw [hT]; exact e0) (by rw [hT]; exact e1)
    (fun _ h => by cases h) (fun _ h => by cases h) (fun h => by cases h) (fun h => by cases h) hkk0 hkk1 hkd0 hkd1 (by simp [refKind]) h1 h2 h3
    (by rw [nn sp h1, nn k h3]; show ¬ _ > ((arrV (aC 0) n0 (fun j => .int (σ.1 f0 i0 j))).slots.size : Int); rw [arrV_size]; omega)
    (by rw [nn dp h2, nn k h3]; show ¬ _ > ((arrV (aC 0) n1 (fun j => .int (σ.1 f i j))).slots.size : Int); rw [arrV_size]; omega)
    (fun vm₁ _ z hz => by
      have e : (vp_cell (aC 0) (n0, .inl (σ.1 f0 i0))).slots.getD (sp.toNatClampNeg + z) .null = .int (σ.1 f0 i0 (sp.toNatClampNeg + z)) := by
        show (arrV (aC 0) n0 (fun j => .int (σ.1 f0 i0 j))).slots.getD _ _ = _
        rw [Array.getD_eq_getD_getElem?, arrV_read _ _ (by omega)]
        rfl
      rw [e]
      exact ⟨rfl, trivial⟩)
    (g := F0 m pc ls (.int k :: .int dp :: .ref (ad f i) :: .int sp :: .ref (ad f0 i0) :: rest)) rfl (by rw [hml]) (rest := rest) rfl (by rw [hb]; exact hdg) hframes (by show 2 * 0 + _ + (7 + 11) ≤ _; omega)
  have e2 : copied (vp_cell (aC 0) (n0, .inl (σ.1 f0 i0))) (vp_cell (aC 0) (n1, .inl (σ.1 f i))) sp dp k = vp_cell (aC 0) (n1, .inl (va_cpy (σ.1 f0 i0) (σ.1 f i) sp.toNatClampNeg dp.toNatClampNeg k.toNatClampNeg)) := va_copied (fun z => .int z) (aC 0) (aC 0) (σ.1 f0 i0) (σ.1 f i) h4
  rw [e2] at X' step
  have hl : ad f i < H.size := (Array.getElem?_eq_some_iff.mp e1).1
  generalize hcl : vp_cell (aC 0) (n1, .inl (va_cpy (σ.1 f0 i0) (σ.1 f i) sp.toNatClampNeg dp.toNatClampNeg k.toNatClampNeg)) = cl at X' step
  have hheap : ((T.setVm vm').setCell (ad f i) cl).heap = H.setIfInBounds (ad f i) cl := by rw [← hT]; rfl
  have oq : ∀ q : Nat, q ≠ ad f i → (H.setIfInBounds (ad f i) cl)[q]? = H[q]? := fun q hq => by simp [Array.getElem?_setIfInBounds, Ne.symm hq]
  obtain ⟨t, a1, b1⟩ := kk _ _ _ rfl (hH.upd hd (by
      rw [cel_i hk]
      show (H.setIfInBounds (ad f i) cl)[ad f i]? = some (vp_cell _ _)
      rw [Array.getElem?_setIfInBounds, if_pos rfl, if_pos hl, ← hcl]
      refine congrArg (fun z => some (vp_cell (aC 0) (n1, Sum.inl z))) (funext fun z => ?_)
      simp [va_cpy, cpI]) oq (fun f' i' h => cel_cpI h) (fun f i k j hd h => hH.2.2.1 f i k j hd h) rfl) ⟨by simp; exact hS.1, fun q g1 g2 => by
      rw [oq q (fun e => g2 (by rw [e]; exact hH.2.2.2.1 f i hd))]
      exact hS.2.1 q g1 g2, fun q hq => by
      rcases List.mem_append.mp hq with h | h
      · exact hS.2.2 q h
      · obtain ⟨z, -, hz⟩ := List.mem_map.mp h
        rw [← hz]
        exact hH.2.2.2.1 f i hd⟩ _ hheap X'
  exact ⟨t, step t a1, b1⟩
theorem st_sw (hexec : p.tables.exec = Jvm.exec) (hb : c.code = cc) {dflt : Int} {ps : Array (Int × Int)} {len : Nat} {x : Int32} {off : Int} {tgt : Nat} (hdg : decode cc pc = .ok (.lookupswitch dflt ps, len)) (hp : (ps.toList.zip (ps.toList.drop 1)).all (fun (a, next) => a.1 < next.1) = true) (ho : Op.lookupswitch.offset ps.toList dflt x.toInt = off) (ht : (pc : Int) + off = (tgt : Int))
    (k : W p l e R s m args below meth c H locs cells slots Q (F0 m tgt ls rest)) : W p l e R s m args below meth c H locs cells slots Q (F0 m pc ls (.int x :: rest)) := lv_lookup hexec hb hdg hp ho ht k
theorem st_lcmp_gt (hexec : p.tables.exec = Jvm.exec) (hb : c.code = cc) {x y : Int64} {off : Int} {tgt : Nat} (hd1 : decode cc pc = .ok (.lcmp, 1)) (hd2 : decode cc (pc + 1) = .ok (.ifCond .gt off, 3)) (ht : ((pc + 1 : Nat) : Int) + off = (tgt : Int))
    (kt : y < x → W p l e R s m args below meth c H locs cells slots Q (F0 m tgt ls rest)) (kf : ¬ y < x → W p l e R s m args below meth c H locs cells slots Q (F0 m (pc + 1 + 3) ls rest)) : W p l e R s m args below meth c H locs cells slots Q (F0 m pc ls (.long y :: .long x :: rest)) := by
  refine W.lcmp hexec hb hd1 (lv_if_gt hexec hb hd2 ht (fun h => kt ?_) (fun h => kf ?_))
  · by_cases h1 : y < x
    · exact h1
    · exfalso
      by_cases h2 : x = y
      · rw [show lg_cmp x y = 0 by simp [lg_cmp, h2]] at h; exact absurd h (by decide)
      · rw [show lg_cmp x y = -1 by simp [lg_cmp, h1, h2]] at h; exact absurd h (by decide)
  · intro h1
    rw [show lg_cmp x y = 1 by simp [lg_cmp, h1]] at h
    exact h (by decide)
theorem st_lcmp_eq (hexec : p.tables.exec = Jvm.exec) (hb : c.code = cc) {x y : Int64} {off : Int} {tgt : Nat} (hd1 : decode cc pc = .ok (.lcmp, 1)) (hd2 : decode cc (pc + 1) = .ok (.ifCond .eq off, 3)) (ht : ((pc + 1 : Nat) : Int) + off = (tgt : Int))
    (kt : x = y → W p l e R s m args below meth c H locs cells slots Q (F0 m tgt ls rest)) (kf : ¬ x = y → W p l e R s m args below meth c H locs cells slots Q (F0 m (pc + 1 + 3) ls rest)) : W p l e R s m args below meth c H locs cells slots Q (F0 m pc ls (.long y :: .long x :: rest)) :=
  W.lcmp hexec hb hd1 (lv_if_eq hexec hb hd2 ht (fun h => kt ((lg_cmp_eq x y).mp h)) (fun h => kf (fun z => h ((lg_cmp_eq x y).mpr z))))
theorem st_tld (hexec : p.tables.exec = Jvm.exec) (hb : c.code = cc) {a N : Nat} {f : Nat → Int32} (hT : va_T .int a N (fun k => .int (f k)) A s s.heap) (hS : va_S A s.heap H locs) {x : Int32} (hin : ib x N) (hdg : decode cc pc = .ok (.iaload, 1))
    (kk : W p l e R s m args below meth c H locs cells slots Q (F0 m (pc + 1) ls (.int (f x.toNatClampNeg) :: rest))) : W p l e R s m args below meth c H locs cells slots Q (F0 m pc ls (.int x :: .ref a :: rest)) := by
  obtain ⟨cell, h1, h2, h3, h4, h5, h6, h7⟩ := hT
  have hlt : x.toNatClampNeg < N := Nat.not_le.mp fun q => hin (Or.inr q)
  exact W.iald (v := .int (f x.toNatClampNeg)) hexec hb (by rw [hS.2.1 a (Array.getElem?_eq_some_iff.mp h1).1 h7]; exact h1) h2 h3 (fun q => q.elim (fun z => hin (Or.inl z)) (fun z => by omega)) (h6 _ hlt) rfl rfl hdg kk
theorem st_max (hexec : p.tables.exec = Jvm.exec) (hb : c.code = cc) (hml : c.maxLocals = ls.size) {own : String} {index : Nat} (hown : s.vm.findClass own = some m.cls) (hlink : (Cond.methodLink own index Lib.Math.max.name).before args s = true) (hstat : (Cond.static Lib.Math.max.name).before args s = true) (hini : (Cond.initialized "java/lang/Math").before args s = true) (hcode : (Cond.code Lib.Math.max.name Lib.Math.max.code 2 (some .int)).before args s = true)
    (hframes : 1 ≤ R.frames) (hlocals : (rest.map fun v => v.category).sum + 13 ≤ R.locals) (hc : cells ≤ R.cells) (hs : slots ≤ R.slots) {x y : Int32} (hdg : decode cc pc = .ok (.invokestatic index, 3))
    (kk : W p l e R s m args below meth c H locs cells slots Q (F0 m (pc + 3) ls (.int (jmax x y) :: rest))) : W p l e R s m args below meth c H locs cells slots Q (F0 m pc ls (.int y :: .int x :: rest)) := va_mmax hexec hb hml hown hlink hstat hini hcode hframes hlocals hc hs hdg kk
theorem st_min (hexec : p.tables.exec = Jvm.exec) (hb : c.code = cc) (hml : c.maxLocals = ls.size) {own : String} {index : Nat} (hown : s.vm.findClass own = some m.cls) (hlink : (Cond.methodLink own index Lib.Math.min.name).before args s = true) (hstat : (Cond.static Lib.Math.min.name).before args s = true) (hini : (Cond.initialized "java/lang/Math").before args s = true) (hcode : (Cond.code Lib.Math.min.name Lib.Math.min.code 2 (some .int)).before args s = true)
    (hframes : 1 ≤ R.frames) (hlocals : (rest.map fun v => v.category).sum + 13 ≤ R.locals) (hc : cells ≤ R.cells) (hs : slots ≤ R.slots) {x y : Int32} (hdg : decode cc pc = .ok (.invokestatic index, 3))
    (kk : W p l e R s m args below meth c H locs cells slots Q (F0 m (pc + 3) ls (.int (jmin x y) :: rest))) : W p l e R s m args below meth c H locs cells slots Q (F0 m pc ls (.int y :: .int x :: rest)) := va_mmin hexec hb hml hown hlink hstat hini hcode hframes hlocals hc hs hdg kk
end ROWS2
