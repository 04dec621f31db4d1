/-! the cells that the store stands for -/
def fv (ad : Nat → Nat → Nat) (σ : St) (f i k : Nat) : Value := match pt f k with
  | some (f', g) => .ref (ad f' (g i))
  | none => .int (σ.1 f i k)
def cel (aC : Nat → ClassId) (ad : Nat → Nat → Nat) (σ : St) (f i : Nat) : va_E := match kd f with
  | .inl (ci, N) => .inr (ci, (List.range N).map (fv ad σ f i))
  | .inr (0, n) => .inl (aC 0, n, .inl (σ.1 f i))
  | .inr (1, n) => .inl (aC 1, n, .inr (.inl (σ.2.1 f i)))
  | .inr (2, n) => .inl (aC 2, n, .inl (σ.1 f i))
  | .inr (t + 3, n) => .inl (aC (t + 3), n, .inr (.inr (.inr (.inr (fun k => (σ.2.2.1 f i k).map (ad (tg f)))))))
def Hold (D : va_G) (aC : Nat → ClassId) (A : Nat → Prop) (ad : Nat → Nat → Nat) (n : Nat) (σ : St) (H : Heap) : Prop :=
  (∀ f i, dm n f i → va_at D vwCl (ad f i, cel aC ad σ f i) H) ∧ (∀ f i f' i', dm n f i → dm n f' i' → ad f i = ad f' i' → f = f' ∧ i = i') ∧ (∀ f i k j, dm n f i → σ.2.2.1 f i k = some j → dm n (tg f) j) ∧ (∀ f i, dm n f i → A (ad f i)) ∧ σ.2.2.2 = n
/-- one cell has changed -/
theorem Hold.upd {D : va_G} {aC : Nat → ClassId} {A : Nat → Prop} {ad : Nat → Nat → Nat} {n : Nat} {σ σ1 : St} {H H1 : Heap} (h : Hold D aC A ad n σ H) {f i : Nat} (hd : dm n f i) (he : va_at D vwCl (ad f i, cel aC ad σ1 f i) H1)
    (ho : ∀ q : Nat, q ≠ ad f i → H1[q]? = H[q]?) (hs : ∀ f' i', ¬ (f' = f ∧ i' = i) → cel aC ad σ1 f' i' = cel aC ad σ f' i') (hr : ∀ f i k j, dm n f i → σ1.2.2.1 f i k = some j → dm n (tg f) j) (hn : σ1.2.2.2 = σ.2.2.2) : Hold D aC A ad n σ1 H1 := by
  obtain ⟨h1, h2, h3, h4, h5⟩ := h
  refine ⟨fun f' i' hd' => ?_, h2, hr, h4, hn.trans h5⟩
  by_cases hx : f' = f ∧ i' = i
  · obtain ⟨rfl, rfl⟩ := hx
    exact he
  · rw [hs f' i' hx]
    exact (h1 f' i' hd').kept (ho _ (fun q => hx (h2 f' i' f i hd' hd q)))
theorem cel_sI {aC : Nat → ClassId} {ad : Nat → Nat → Nat} {σ : St} {f i k : Nat} {x : Int32} {f' i' : Nat} (h : ¬ (f' = f ∧ i' = i)) : cel aC ad (sI σ f i k x) f' i' = cel aC ad σ f' i' := by
  have e : (sI σ f i k x).1 f' i' = σ.1 f' i' := by
    funext q
    simp only [sI]
    rw [if_neg (fun z => h ⟨z.1, z.2.1⟩)]
  have e2 : fv ad (sI σ f i k x) f' i' = fv ad σ f' i' := by
    funext q
    simp only [fv]
    rw [e]
  simp only [cel]
  rw [e, e2]
  rfl
theorem cel_sL {aC : Nat → ClassId} {ad : Nat → Nat → Nat} {σ : St} {f i k : Nat} {x : Int64} {f' i' : Nat} (h : ¬ (f' = f ∧ i' = i)) : cel aC ad (sL σ f i k x) f' i' = cel aC ad σ f' i' := by
  have e : (sL σ f i k x).2.1 f' i' = σ.2.1 f' i' := by
    funext q
    simp only [sL]
    rw [if_neg (fun z => h ⟨z.1, z.2.1⟩)]
  simp only [cel]
  rw [e]
  rfl
theorem cel_sR {aC : Nat → ClassId} {ad : Nat → Nat → Nat} {σ : St} {f i k : Nat} {x : Option Nat} {f' i' : Nat} (h : ¬ (f' = f ∧ i' = i)) : cel aC ad (sR σ f i k x) f' i' = cel aC ad σ f' i' := by
  have e : (sR σ f i k x).2.2.1 f' i' = σ.2.2.1 f' i' := by
    funext q
    simp only [sR]
    rw [if_neg (fun z => h ⟨z.1, z.2.1⟩)]
  simp only [cel]
  rw [e]
  rfl
theorem cel_cpI {aC : Nat → ClassId} {ad : Nat → Nat → Nat} {σ : St} {f0 i0 sp f i dp k : Nat} {f' i' : Nat} (h : ¬ (f' = f ∧ i' = i)) : cel aC ad (cpI σ f0 i0 sp f i dp k) f' i' = cel aC ad σ f' i' := by
  have e : (cpI σ f0 i0 sp f i dp k).1 f' i' = σ.1 f' i' := by
    funext q
    simp only [cpI]
    rw [if_neg (fun z => h ⟨z.1, z.2.1⟩)]
  have e2 : fv ad (cpI σ f0 i0 sp f i dp k) f' i' = fv ad σ f' i' := by
    funext q
    simp only [fv]
    rw [e]
  simp only [cel]
  rw [e, e2]
  rfl
/-- what the tables say: classes, array classes, links between nest mates -/
def Kn (D : va_G) (aC : Nat → ClassId) (U : State) : Prop := va_K D vwCl [(aC 0, .int), (aC 1, .long), (aC 2, .byte), (aC 3, .object "PrefixCodes$Code"), (aC 4, .array .int), (aC 5, .array .long)] U ∧ ∀ q ∈ nwM, va_Nw (.methodLinkNest q.1 q.2.1 q.2.2.1 q.2.2.2) U
theorem vp_fsV {N : Nat} {V : Nat → Value} {k : Nat} (hk : k < N) : vp_V ((List.range N).map V) k = V k := by
  simp [vp_V, List.getD, hk]
theorem fsV_at {N : Nat} {V : Nat → Value} {k : Nat} (hk : k < N) : ((List.range N).map V)[k]? = some (V k) := by
  simp [hk]
section ROWS
variable {p : Program} {l : Launch} {e : Env} {R : Room} {s : State} {m : MethodId} {args : Array Value} {below : List Frame} {meth : Method} {c : Code} {H : Heap} {locs : List Loc} {cells slots : Nat} {Q : State → Prop}
variable {cc : ByteArray} {pc : Nat} {ls : Array Slot} {rest : List Value} {D : va_G} {aC : Nat → ClassId} {A : Nat → Prop} {ad : Nat → Nat → Nat} {n : Nat} {σ : St} {Ts : List Cond} {own : String} {H0 : Heap}
theorem Hold.one (hH : Hold D aC A ad n σ H) {f i : Nat} (hd : dm n f i) : va_P D vwCl [(ad f i, cel aC ad σ f i)] H := by
  intro k q hk
  cases k with
  | zero => cases hk; exact hH.1 f i hd
  | succ k => cases hk
theorem cel_o {f i ci N : Nat} (hk : kd f = .inl (ci, N)) : cel aC ad σ f i = .inr (ci, (List.range N).map (fv ad σ f i)) := by simp only [cel, hk]
theorem cel_i {f i N : Nat} (hk : kd f = .inr (0, N)) : cel aC ad σ f i = .inl (aC 0, N, .inl (σ.1 f i)) := by simp only [cel, hk]
theorem cel_l {f i N : Nat} (hk : kd f = .inr (1, N)) : cel aC ad σ f i = .inl (aC 1, N, .inr (.inl (σ.2.1 f i))) := by simp only [cel, hk]
theorem cel_b {f i N : Nat} (hk : kd f = .inr (2, N)) : cel aC ad σ f i = .inl (aC 2, N, .inl (σ.1 f i)) := by simp only [cel, hk]
theorem cel_r {f i N t : Nat} (hk : kd f = .inr (t + 3, N)) : cel aC ad σ f i = .inl (aC (t + 3), N, .inr (.inr (.inr (.inr (fun k => (σ.2.2.1 f i k).map (ad (tg f))))))) := by simp only [cel, hk]
theorem st_get (hexec : p.tables.exec = Jvm.exec) (hb : c.code = cc) (hts : ∀ w ∈ Ts, w.before args s = true) (hown : s.vm.findClass own = some m.cls) (hK : Kn D aC s) (hH : Hold D aC A ad n σ H) {f i : Nat} (hd : dm n f i) {ci N : Nat} (hk : kd f = .inl (ci, N)) {C : String} {T : u_T} (hc : vwCl[ci]? = some (C, T, N)) (hin : ∀ w ∈ u_ws C T N, w ∈ Ts)
    (k : Nat) (hkN : k < N) {index : Nat} (hlink : (Cond.fieldLink own index (T k).1 (T k).2.1 (T k).2.2.1).before args s = true) {v : Value} (hv : fv ad σ f i k = v) (hdg : decode cc pc = .ok (.getfield index, 3))
    (kk : W p l e R s m args below meth c H locs cells slots Q (F0 m (pc + 3) ls (v :: rest))) : W p l e R s m args below meth c H locs cells slots Q (F0 m pc ls (.ref (ad f i) :: rest)) := by
  subst hv
  have hP := hH.one hd
  rw [cel_o hk] at hP
  exact va_get (D := D) (cl := vwCl) (C := C) (T := T) (N := N) hexec hb hts hin hown hK.1 hP 0 rfl hc k hkN hlink (fun _ h => h) (fsV_at hkN) hdg kk
theorem st_putV (hexec : p.tables.exec = Jvm.exec) (hb : c.code = cc) (hts : ∀ w ∈ Ts, w.before args s = true) (hown : s.vm.findClass own = some m.cls) (hK : Kn D aC s) (hH : Hold D aC A ad n σ H) (hS : va_S A H0 H locs) {f i : Nat} (hd : dm n f i) {ci N : Nat} (hk : kd f = .inl (ci, N)) {C : String} {T : u_T} (hc : vwCl[ci]? = some (C, T, N)) (hin : ∀ w ∈ u_ws C T N, w ∈ Ts)
    (ty0 : Nat → FieldType) (hty : ∀ k, k < N → parseFieldDescriptor (T k).2.2.1 = some (ty0 k)) (hnm : ∀ a, a < N → ∀ b, b < N → a ≠ b → (T a).2.1 ≠ (T b).2.1)
    (k : Nat) (hkN : k < N) {index : Nat} (hlink : (Cond.fieldLink own index (T k).1 (T k).2.1 (T k).2.2.1).before args s = true) (hp : pt f k = none) (hfin : (T k).2.2.2 = false) {ty : FieldType} (hpd : parseFieldDescriptor (T k).2.2.1 = some ty) {x : Int32} (hn : narrow ty (.int x) = .int x) (hfit : fits ty (.int x) = true) (hdg : decode cc pc = .ok (.putfield index, 3))
    (kk : ∀ (σ1 : St) (H1 : Heap) (locs1 : List Loc), σ1 = sI σ f i k x → Hold D aC A ad n σ1 H1 → va_S A H0 H1 locs1 → W p l e R s m args below meth c H1 locs1 cells slots Q (F0 m (pc + 3) ls rest)) : W p l e R s m args below meth c H locs cells slots Q (F0 m pc ls (.int x :: .ref (ad f i) :: rest)) := by
  have hap := va_apart (own := own) hts hin ty0 hty hnm hK.1 hc
  have hP := hH.one hd
  rw [cel_o hk] at hP
  obtain ⟨r, h1, cell, q1, q2, q3, q4⟩ := hP 0 _ rfl
  have hr : r = (C, T, N) := Option.some.inj (h1.symm.trans hc)
  subst hr
  obtain ⟨hSl, hfc, kC, hkC, hkind⟩ := hK.1.1 ci _ hc
  obtain ⟨cf, kf, fi, fd, hi, hsl⟩ := hSl k hkN
  have hlay := hts _ (hin _ (u_in_lay hkN))
  unfold u_lay at hlay
  rw [if_neg (by rw [hfin]; decide)] at hlay
  have hst := (u_facts hfc hkC (u_lays hts hin hkN) hi).1
  have h6 := u_store hfc hkC hkind hlay hi hpd hn hfit
  refine W.putK hexec hb (f := fd) ⟨hown, hlink, ⟨_, _, _, hi⟩, hst⟩ (by rw [q2]; exact h6) q1 q3 (by rw [hsl]; exact k2_hasslot (q4 k hkN)) rfl rfl hdg fun H' e1 e2 e3 => ?_
  rw [hsl] at e1 ⊢
  refine kk _ H' _ rfl (hH.upd hd ?_ e3 (fun f' i' h => cel_sI h) (fun f i k j hd h => hH.2.2.1 f i k j hd h) rfl) (hS.put e2 e3 (hH.2.2.2.1 f i hd))
  rw [cel_o hk]
  refine ⟨_, hc, t_OB.to (V := updV (vp_V ((List.range N).map (fv ad σ f i))) k (.int x)) ⟨_, e1, q2, q3, t_set q4 hap hkN _⟩ (fun j hj => ?_)⟩
  rw [vp_fsV hj]
  simp only [updV]
  by_cases hjk : j = k
  · subst hjk
    rw [if_pos rfl]
    simp only [fv, hp, sI]
    rw [if_pos ⟨trivial, trivial, trivial⟩]
  · rw [if_neg hjk, vp_fsV hj]
    simp only [fv, sI]
    rw [if_neg (fun z => hjk z.2.2)]
theorem st_put (hexec : p.tables.exec = Jvm.exec) (hb : c.code = cc) (hts : ∀ w ∈ Ts, w.before args s = true) (hown : s.vm.findClass own = some m.cls) (hK : Kn D aC s) (hH : Hold D aC A ad n σ H) (hS : va_S A H0 H locs) {f i : Nat} (hd : dm n f i) {ci N : Nat} (hk : kd f = .inl (ci, N)) {C : String} {T : u_T} (hc : vwCl[ci]? = some (C, T, N)) (hin : ∀ w ∈ u_ws C T N, w ∈ Ts)
    (ty0 : Nat → FieldType) (hty : ∀ k, k < N → parseFieldDescriptor (T k).2.2.1 = some (ty0 k)) (hnm : ∀ a, a < N → ∀ b, b < N → a ≠ b → (T a).2.1 ≠ (T b).2.1)
    (k : Nat) (hkN : k < N) {index : Nat} (hlink : (Cond.fieldLink own index (T k).1 (T k).2.1 (T k).2.2.1).before args s = true) (hp : pt f k = none) (hfin : (T k).2.2.2 = false) (hpd : ty0 k = .int) {x : Int32} (hdg : decode cc pc = .ok (.putfield index, 3))
    (kk : ∀ (σ1 : St) (H1 : Heap) (locs1 : List Loc), σ1 = sI σ f i k x → Hold D aC A ad n σ1 H1 → va_S A H0 H1 locs1 → W p l e R s m args below meth c H1 locs1 cells slots Q (F0 m (pc + 3) ls rest)) : W p l e R s m args below meth c H locs cells slots Q (F0 m pc ls (.int x :: .ref (ad f i) :: rest)) :=
  st_putV (ty := .int) hexec hb hts hown hK hH hS hd hk hc hin ty0 hty hnm k hkN hlink hp hfin (by rw [hty k hkN, hpd]) rfl rfl hdg kk
theorem st_iald (hexec : p.tables.exec = Jvm.exec) (hb : c.code = cc) (hK : Kn D aC s) (hH : Hold D aC A ad n σ H) {f i : Nat} (hd : dm n f i) {N : Nat} (hk : kd f = .inr (0, N)) {x : Int32} (hin : ib x N) (hdg : decode cc pc = .ok (.iaload, 1))
    (kk : W p l e R s m args below meth c H locs cells slots Q (F0 m (pc + 1) ls (.int (σ.1 f i x.toNatClampNeg) :: rest))) : W p l e R s m args below meth c H locs cells slots Q (F0 m pc ls (.int x :: .ref (ad f i) :: rest)) := by
  have hP := hH.one hd
  rw [cel_i hk] at hP
  exact va_iald hexec hb hK.1 hP 0 0 rfl rfl hin hdg kk
theorem st_lald (hexec : p.tables.exec = Jvm.exec) (hb : c.code = cc) (hK : Kn D aC s) (hH : Hold D aC A ad n σ H) {f i : Nat} (hd : dm n f i) {N : Nat} (hk : kd f = .inr (1, N)) {x : Int32} (hin : ib x N) (hdg : decode cc pc = .ok (.laload, 1))
    (kk : W p l e R s m args below meth c H locs cells slots Q (F0 m (pc + 1) ls (.long (σ.2.1 f i x.toNatClampNeg) :: rest))) : W p l e R s m args below meth c H locs cells slots Q (F0 m pc ls (.int x :: .ref (ad f i) :: rest)) := by
  have hP := hH.one hd
  rw [cel_l hk] at hP
  exact va_lald hexec hb hK.1 hP 0 1 rfl rfl hin hdg kk
theorem st_iast (hexec : p.tables.exec = Jvm.exec) (hb : c.code = cc) (hK : Kn D aC s) (hH : Hold D aC A ad n σ H) (hS : va_S A H0 H locs) {f i : Nat} (hd : dm n f i) {N : Nat} (hk : kd f = .inr (0, N)) {x v : Int32} (hin : ib x N) (hdg : decode cc pc = .ok (.iastore, 1))
    (kk : ∀ (σ1 : St) (H1 : Heap) (locs1 : List Loc), σ1 = sI σ f i x.toNatClampNeg v → Hold D aC A ad n σ1 H1 → va_S A H0 H1 locs1 → W p l e R s m args below meth c H1 locs1 cells slots Q (F0 m (pc + 1) ls rest)) : W p l e R s m args below meth c H locs cells slots Q (F0 m pc ls (.int v :: .int x :: .ref (ad f i) :: rest)) := by
  have hP := hH.one hd
  rw [cel_i hk] at hP
  refine W.iast hexec hb (hP 0 _ rfl) ((hK.1.2 0 _ rfl).1 N (fun j => .int (σ.1 f i j))) (fun q => by cases q) (by show ¬ (x < 0 ∨ (arrV _ _ _).slots.size ≤ _); rw [arrV_size]; exact hin) rfl rfl hdg fun H1 e z oq => ?_
  refine kk _ H1 _ rfl (hH.upd hd ?_ oq (fun f' i' h => cel_sI h) (fun f i k j hd h => hH.2.2.1 f i k j hd h) rfl) (hS.put z oq (hH.2.2.2.1 f i hd))
  rw [cel_i hk]
  show H1[ad f i]? = some (vp_cell _ _)
  rw [e]
  rw [vp_cell_i, vp_cell_i, arrV_store]
  congr 2
  funext q
  by_cases hq : q = x.toNatClampNeg
  · subst hq
    simp [updV, sI]
  · simp [updV, sI, hq]
theorem st_last (hexec : p.tables.exec = Jvm.exec) (hb : c.code = cc) (hK : Kn D aC s) (hH : Hold D aC A ad n σ H) (hS : va_S A H0 H locs) {f i : Nat} (hd : dm n f i) {N : Nat} (hk : kd f = .inr (1, N)) {x : Int32} {v : Int64} (hin : ib x N) (hdg : decode cc pc = .ok (.lastore, 1))
    (kk : ∀ (σ1 : St) (H1 : Heap) (locs1 : List Loc), σ1 = sL σ f i x.toNatClampNeg v → Hold D aC A ad n σ1 H1 → va_S A H0 H1 locs1 → W p l e R s m args below meth c H1 locs1 cells slots Q (F0 m (pc + 1) ls rest)) : W p l e R s m args below meth c H locs cells slots Q (F0 m pc ls (.long v :: .int x :: .ref (ad f i) :: rest)) := by
  have hP := hH.one hd
  rw [cel_l hk] at hP
  refine W.last hexec hb (hP 0 _ rfl) ((hK.1.2 1 _ rfl).1 N (fun j => .long (σ.2.1 f i j))) (fun q => by cases q) (by show ¬ (x < 0 ∨ (arrV _ _ _).slots.size ≤ _); rw [arrV_size]; exact hin) rfl rfl hdg fun H1 e z oq => ?_
  refine kk _ H1 _ rfl (hH.upd hd ?_ oq (fun f' i' h => cel_sL h) (fun f i k j hd h => hH.2.2.1 f i k j hd h) rfl) (hS.put z oq (hH.2.2.2.1 f i hd))
  rw [cel_l hk]
  show H1[ad f i]? = some (vp_cell _ _)
  rw [e]
  rw [vp_cell_l, vp_cell_l, arrV_store]
  congr 2
  funext q
  by_cases hq : q = x.toNatClampNeg
  · subst hq
    simp [updV, sL]
  · simp [updV, sL, hq]
theorem st_alen (hexec : p.tables.exec = Jvm.exec) (hb : c.code = cc) (hK : Kn D aC s) (hH : Hold D aC A ad n σ H) {f i : Nat} (hd : dm n f i) {N : Nat} (hk : kd f = .inr (0, N)) {v : Int32} (hv : Int32.ofNat N = v) (hdg : decode cc pc = .ok (.arraylength, 1))
    (kk : W p l e R s m args below meth c H locs cells slots Q (F0 m (pc + 1) ls (.int v :: rest))) : W p l e R s m args below meth c H locs cells slots Q (F0 m pc ls (.ref (ad f i) :: rest)) := by
  have hP := hH.one hd
  rw [cel_i hk] at hP
  exact va_alen hexec hb hK.1 hP 0 0 rfl rfl hv hdg kk
theorem st_aald (hexec : p.tables.exec = Jvm.exec) (hb : c.code = cc) (hK : Kn D aC s) (hH : Hold D aC A ad n σ H) {f i : Nat} (hd : dm n f i) {N t : Nat} (hk : kd f = .inr (t + 3, N)) (ht : t < 3) {x : Int32} (hin : ib x N) (hdg : decode cc pc = .ok (.aaload, 1)) {j : Nat} (hj : σ.2.2.1 f i x.toNatClampNeg = some j)
    (kk : dm n (tg f) j → W p l e R s m args below meth c H locs cells slots Q (F0 m (pc + 1) ls (.ref (ad (tg f) j) :: rest))) : W p l e R s m args below meth c H locs cells slots Q (F0 m pc ls (.int x :: .ref (ad f i) :: rest)) := by
  have hP := hH.one hd
  rw [cel_r hk] at hP
  have hlt : x.toNatClampNeg < N := Nat.not_le.mp fun q => hin (Or.inr q)
  have key : ∀ ty : FieldType, ty.isReference = true → ArrOfT s (aC (t + 3)) ty → W p l e R s m args below meth c H locs cells slots Q (F0 m pc ls (.int x :: .ref (ad f i) :: rest)) := by
    intro ty hty har
    refine W.aald (v := va_rf ((σ.2.2.1 f i x.toNatClampNeg).map (ad (tg f)))) (ty := ty) hexec hb (hP 0 _ rfl) (har N (fun k => va_rf ((σ.2.2.1 f i k).map (ad (tg f))))) hty (fun q => by cases q) (by show ¬ (x < 0 ∨ (arrV _ _ _).slots.size ≤ _); rw [arrV_size]; exact hin) (by show (arrV _ _ _).slots[_]? = _; rw [arrV_read _ _ hlt]) rfl rfl hdg ?_
    rw [hj]
    exact kk (hH.2.2.1 f i _ j hd hj)
  match t, ht with
  | 0, _ => exact key (.object "PrefixCodes$Code") rfl (hK.1.2 3 _ rfl).1
  | 1, _ => exact key (.array .int) rfl (hK.1.2 4 _ rfl).1
  | 2, _ => exact key (.array .long) rfl (hK.1.2 5 _ rfl).1
end ROWS
