/-! ===== the row of multianewarray ===== -/
section MR
variable {p : Program} {l : Launch} {e : Env} {R : Room} {s : State} {m : MethodId} {args : Array Value} {below : List Frame} {meth : Method} {c : Code} {T : State} {H : Heap} {locs : List Loc} {cells slots : Nat} {Q : State → Prop}
theorem mr_stand (X : Stand p l e R s m args below meth c T locs cells slots) (cA k : ClassId) (N M : Nat) (v : Value) : ∀ i, ∃ L : List Loc, (∀ q ∈ L, q.base = T.heap.size) ∧ Stand p l e R s m args below meth c (mrw cA k N M v T i) (locs ++ L) (cells + 1 + i) (slots + N + i * M)
  | 0 => by
    have h := X.pushed (arrV cA N (mrf T.heap.size 0))
    rw [arrV_size] at h
    refine ⟨[], fun q hq => (by cases hq), ?_⟩
    rw [List.append_nil, Nat.zero_mul]
    exact h
  | i + 1 => by
    obtain ⟨L, hL, Xi⟩ := mr_stand X cA k N M v i
    obtain ⟨a1, a2, a3, a4, a5, a6⟩ := mrw_ok cA k N M v T i
    have q1 : T.heap.size < (mrw cA k N M v T i).heap.size := by rw [a1]; omega
    have hc : ((mrw cA k N M v T i).pushCell (arrV k M (fun _ => v))).heap[T.heap.size]? = some (arrV cA N (mrf T.heap.size i)) := by
      rw [State.heap_pushCell_of_lt _ _ q1]
      exact a2
    have h := (Xi.pushed (arrV k M (fun _ => v))).stored hc i (.ref (T.heap.size + 1 + i))
    rw [arrV_size, arrV_store, mrf_up] at h
    refine ⟨L ++ [⟨T.heap.size, i⟩], fun q hq => ?_, ?_⟩
    · rcases List.mem_append.mp hq with y | y
      · exact hL q y
      · rw [List.mem_singleton.mp y]
    · rw [← List.append_assoc, show slots + N + (i + 1) * M = slots + N + i * M + M by rw [Nat.succ_mul]; omega]
      exact h
theorem ct_multi {cc : ByteArray} {pc : Nat} {ls : Array Slot} {rest : List Value} (hexec : p.tables.exec = Jvm.exec) (hb : c.code = cc) {own nm : String} {index : Nat} (hown : s.vm.findClass own = some m.cls) (hclink : (Cond.classLink own index nm).before args s = true) {cA k cb : ClassId} (hcA : s.vm.findClass nm = some cA) {kA kc : Class} {t0 ty : FieldType} (g1 : s.vm.classes[cA]? = some kA) (g2 : kA.kind = .array k t0) (g3 : t0.isReference = true) (h1 : s.vm.classes[k]? = some kc) (h2 : kc.kind = .array cb ty)
    {n w : Int32} {N M : Nat} (hn : ¬ n < 0) (hw : ¬ w < 0) (hN : n.toNatClampNeg = N) (hM : w.toNatClampNeg = M) (o1 : N * componentBytes t0 ≤ 536870912) (o2 : M * componentBytes ty ≤ 536870912) (o3 : N ≤ 536870912) (o4 : M ≤ 536870912) (hf : fits ty (defaultValue ty) = true) (hcells : cells + (1 + N) ≤ R.cells) (hslots : slots + (N + N * M) ≤ R.slots) (hdg : decode cc pc = .ok (.multianewarray index 2, 4))
    (kk : ∀ (H1 : Heap) (L : List Loc), H1.size = H.size + 1 + N → H1[H.size]? = some (arrV cA N (mrf H.size N)) → (∀ a, a < H.size → H1[a]? = H[a]?) → (∀ j, j < N → H1[H.size + 1 + j]? = some (arrV k M (fun _ => defaultValue ty))) → (∀ q ∈ L, q.base = H.size) → W p l e R s m args below meth c H1 (locs ++ L) (cells + 1 + N) (slots + N + N * M) Q (F0 m (pc + 4) ls (.ref H.size :: rest))) : W p l e R s m args below meth c H locs cells slots Q (F0 m pc ls (.int w :: .int n :: rest)) := by
  intro T hT X
  subst hT
  subst hb
  have hpl : e.platform.magicAccessors = ({} : Platform).magicAccessors := by rw [X.admits.platform]
  obtain ⟨c0, hfc0, hcl⟩ := Cond.classLink_spec hown hclink e.platform hpl
  cases hcA.symm.trans hfc0
  obtain ⟨hg₁, hwarm₁, hready₁⟩ := State.classEntry (e := e) X.warmed hcl
  generalize T.vm.noted m.cls index (.cls cA) = vm₁ at hg₁ hwarm₁ hready₁
  have hal : s.vm.Alike vm₁ := hwarm₁.alike
  obtain ⟨kA₁, hkA₁, heA⟩ := hal.2.2 _ _ g1
  obtain ⟨kC₁, hkC₁, heC⟩ := hal.2.2 _ _ h1
  have hkindA₁ : kA₁.kind = .array k t0 := by rw [heA]; exact g2
  have hkindC₁ : kC₁.kind = .array cb ty := by rw [heC]; exact h2
  have X₁ := X.noted hwarm₁
  obtain ⟨hr1, hr2⟩ := X.roomAbove hcells hslots
  obtain ⟨L, hL, XF⟩ := mr_stand X₁ cA k N M (defaultValue ty) N
  obtain ⟨a1, a2, a3, a4, a5, a6⟩ := mrw_ok cA k N M (defaultValue ty) (T.setVm vm₁) N
  obtain ⟨t, b1, b2⟩ := kk (mrw cA k N M (defaultValue ty) (T.setVm vm₁) N).heap L a1 a2 a5 a6 hL _ rfl XF
  refine ⟨t, ?_, b2⟩
  have lim1 : ¬ n.toNatClampNeg > e.platform.arrayLengthLimit := by rw [Launch.admits_arrayLengthLimit X.admits]; omega
  have lim2 : ¬ n.toNatClampNeg * componentBytes t0 > e.platform.maxHeapBytes := by rw [Launch.admits_maxHeapBytes X.admits, hN]; omega
  have lim3 : ¬ w.toNatClampNeg > e.platform.arrayLengthLimit := by rw [Launch.admits_arrayLengthLimit X.admits]; omega
  have lim4 : ¬ w.toNatClampNeg * componentBytes ty > e.platform.maxHeapBytes := by rw [Launch.admits_maxHeapBytes X.admits, hM]; omega
  jvm_step X.here [hexec, hdg]
  simp only [multianewarray.sem, wp_bind', W.resolveClassAt_links (State.method?_setTop (F0 m pc ls (.int w :: .int n :: rest)) X.here.top) hg₁]
  rw [W.popN, if_neg (by decide)]
  refine ⟨F0 m pc ls (.int w :: .int n :: rest), State.topJava?_setTop' (s := T.setVm vm₁) _ X.here.top, [.int n, .int w], rest, rfl, rfl, ?_⟩
  simp only [List.mapM_cons, List.mapM_nil, wp_bind', wp_pure']
  refine mw_rows (ka := kA₁) (kc := kC₁) (k := k) (cc := cb) (t0 := t0) (ty := ty) hkA₁ hkindA₁ g3 hkC₁ hkindC₁ hn hw lim1 lim2 lim3 lim4 hf (by rw [hN]; show T.heap.size + 1 + _ ≤ _; omega) (by rw [hN, hM]; show T.slotsUsed + _ + _ ≤ _; omega) (fun d' acts' => ?_)
  rw [hN, hM]
  have eS : ((T.setTop (F0 m pc ls (.int w :: .int n :: rest))).setVm vm₁).setTop { F0 m pc ls (.int w :: .int n :: rest) with stack := rest } = (T.setVm vm₁).setTop { F0 m pc ls (.int w :: .int n :: rest) with stack := rest } := by
    show ((T.setVm vm₁).setTop _).setTop _ = _
    rw [State.setTop_setTop]
  rw [eS, mrw_top]
  simp only [wp_bind', W.mark, W.pushRef, State.topJava?_setTop' _ XF.here.top, Option.some.injEq, exists_eq_left', State.setTop_setTop, State.heap_setTop]
  intro acts
  simp [jvm, XF.here.top]
  exact b1
end MR
