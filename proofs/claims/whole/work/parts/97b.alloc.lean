/-! ===== a new code over the store ===== -/
theorem cel_ext {aC : Nat → ClassId} {ad ad1 : Nat → Nat → Nat} {n : Nat} {σ σ1 : St} {f i : Nat} (hd : dm n f i) (he : ∀ f i, dm n f i → ad1 f i = ad f i) (h1 : σ1.1 f i = σ.1 f i) (h2 : σ1.2.1 f i = σ.2.1 f i) (h3 : σ1.2.2.1 f i = σ.2.2.1 f i) (hr : ∀ k j, σ.2.2.1 f i k = some j → dm n (tg f) j) : cel aC ad1 σ1 f i = cel aC ad σ f i := by
  have e1 : fv ad1 σ1 f i = fv ad σ f i := by
    funext k
    unfold fv
    rw [h1]
    cases hp : pt f k with
    | none => rfl
    | some x =>
      obtain ⟨f', g⟩ := x
      dsimp only
      rw [he f' (g i) (pt_dm hd hp)]
  have e2 : (fun k => (σ1.2.2.1 f i k).map (ad1 (tg f))) = fun k => (σ.2.2.1 f i k).map (ad (tg f)) := by
    funext k
    rw [h3]
    cases hk : σ.2.2.1 f i k with
    | none => rfl
    | some j =>
      show some (ad1 (tg f) j) = some (ad (tg f) j)
      rw [he _ _ (hr k j hk)]
  unfold cel
  rw [e1, e2, h1, h2]
section NEWC
variable {p : Program} {l : Launch} {e : Env} {R : Room} {s : State} {m : MethodId} {args : Array Value} {below : List Frame} {meth : Method} {c : Code} {H : Heap} {locs : List Loc} {cells slots : Nat} {Q : State → Prop}
variable {cc : ByteArray} {pc nL : Nat} {ls : Array Slot} {rest : List Value} {D : va_G} {aC : Nat → ClassId} {A : Nat → Prop} {ad : Nat → Nat → Nat} {n : Nat} {σ : St} {own : String} {index : Nat}
abbrev dfC : va_E := .inr (3, [.int 0, .null, .null, .null, .null, .null, .null, .int 0, .int 0, .int 0, .int 0])
theorem st_new41 (hexec : p.tables.exec = Jvm.exec) (hb : c.code = cc) (hg : ∀ w ∈ gW, w.before args s = true) (hown : s.vm.findClass own = some m.cls) (hcl : (Cond.classLink own index "PrefixCodes$Code").before args s = true) (hinst : (Cond.instantiable "PrefixCodes$Code" 11).before args s = true) (hini : (Cond.initialized "PrefixCodes$Code").before args s = true) (hK : Kn D aC s) (hH : Hold D aC A ad n σ H) (hS : va_S A s.heap H locs) (hcells : cells + 1 ≤ R.cells) (hslots : slots + 11 ≤ R.slots) (hdg : decode cc pc = .ok (.new index, 3))
    (kk : ∀ (q : Nat) (H1 : Heap), s.heap.size ≤ q → (∀ f i, dm n f i → ad f i < q) → va_at D vwCl (q, dfC) H1 → Hold D aC A ad n σ H1 → va_S A s.heap H1 locs → W p l e R s m args below meth c H1 locs (cells + 1) (slots + 11) Q (F0 m (pc + 3) ls (.ref q :: rest))) : W p l e R s m args below meth c H locs cells slots Q (F0 m pc ls rest) := by
  have hKn := hK.1.1 3 _ rfl
  refine W.newcK hexec hb hown hcl hinst hini rfl hdg hcells hslots hKn.2.1 rfl fun H1 kC hkC e1 z1 o1 => ?_
  refine kk H.size H1 hS.1 (fun f i hd => (hH.1 f i hd).lt) ⟨_, rfl, (u_born t_Code hg u_Code hKn hkC e1 t_Code_ok).to ?_⟩ ⟨fun f i hd => (hH.1 f i hd).kept (o1 _ ((hH.1 f i hd).lt)), hH.2⟩ ⟨Nat.le_trans hS.1 (by omega), fun x h1 h2 => (o1 x (Nat.lt_of_lt_of_le h1 hS.1)).trans (hS.2.1 x h1 h2), hS.2.2⟩
  intro j hj
  rcases (show j = 0 ∨ j = 1 ∨ j = 2 ∨ j = 3 ∨ j = 4 ∨ j = 5 ∨ j = 6 ∨ j = 7 ∨ j = 8 ∨ j = 9 ∨ j = 10 by omega) with rfl | rfl | rfl | rfl | rfl | rfl | rfl | rfl | rfl | rfl | rfl <;> rfl
abbrev adN (ad : Nat → Nat → Nat) (n q q1 q2 q3 q4 q5 q6 : Nat) : Nat → Nat → Nat := fun f i => if i = n then (if f = 41 then q else if f = 42 then q1 else if f = 43 then q2 else if f = 44 then q3 else if f = 45 then q4 else if f = 46 then q5 else if f = 47 then q6 else ad f i) else ad f i
theorem adN_old {ad : Nat → Nat → Nat} {n q q1 q2 q3 q4 q5 q6 : Nat} (hn : n < 12) {f i : Nat} (hd : dm n f i) : adN ad n q q1 q2 q3 q4 q5 q6 f i = ad f i := by
  have := dm_not hn hd
  unfold adN
  by_cases y : i = n
  · rw [if_pos y, if_neg (by omega), if_neg (by omega), if_neg (by omega), if_neg (by omega), if_neg (by omega), if_neg (by omega), if_neg (by omega)]
  · rw [if_neg y]
theorem hold_new {q q1 q2 q3 q4 q5 q6 : Nat} {a : Int32} {sz : Nat} {H1 : Heap} (hn : n < 12) (hH : Hold D aC A ad n σ H) (hlt : ∀ f i, dm n f i → ad f i < q) (hqz : q < sz) (hkeep : ∀ x : Nat, x < q → H1[x]? = H[x]?) (hP : va_P D vwCl (ws_Code aC q a q1 q2 q3 q4 q5 q6) H1) (hD : va_D (va_A [(q, dfC)] sz) (ws_Code aC q a q1 q2 q3 q4 q5 q6)) (hA : ∀ x, q ≤ x → A x) : Hold D aC A (adN ad n q q1 q2 q3 q4 q5 q6) (n + 1) (nC σ a) H1 := by
  obtain ⟨h1, h2, h3, h4, h5⟩ := hH
  have hold : ∀ f i, dm n f i → adN ad n q q1 q2 q3 q4 q5 q6 f i = ad f i := fun f i hd => adN_old hn hd
  -- the seven new addresses, by their number
  have hnew : ∀ f, 41 ≤ f → f ≤ 47 → ∃ ee, (ws_Code aC q a q1 q2 q3 q4 q5 q6)[f - 41]? = some (adN ad n q q1 q2 q3 q4 q5 q6 f n, ee) := by
    intro f f1 f2
    have hm : ((ws_Code aC q a q1 q2 q3 q4 q5 q6)[f - 41]?).map Prod.fst = some (adN ad n q q1 q2 q3 q4 q5 q6 f n) := by
      rcases (show f = 41 ∨ f = 42 ∨ f = 43 ∨ f = 44 ∨ f = 45 ∨ f = 46 ∨ f = 47 by omega) with rfl | rfl | rfl | rfl | rfl | rfl | rfl <;> (unfold adN; rw [if_pos rfl]; rfl)
    obtain ⟨x, hx, hx2⟩ := Option.map_eq_some_iff.mp hm
    exact ⟨x.2, by rw [hx, ← hx2]⟩
  have hge : ∀ f, 41 ≤ f → f ≤ 47 → q ≤ adN ad n q q1 q2 q3 q4 q5 q6 f n := by
    intro f f1 f2
    obtain ⟨ee, he⟩ := hnew f f1 f2
    rcases hD.2 _ _ he with ⟨k, e2, hk⟩ | hk
    · have : k = 0 := by
        have := (List.getElem?_eq_some_iff.mp hk).1
        simp at this
        exact this
      subst this
      have hq : q = adN ad n q q1 q2 q3 q4 q5 q6 f n := congrArg Prod.fst (Option.some.inj hk)
      exact Nat.le_of_eq hq
    · exact Nat.le_trans (Nat.le_of_lt hqz) hk
  refine ⟨fun f i hd => ?_, fun f i f' i' hd hd' he => ?_, fun f i k j hd hk => ?_, fun f i hd => ?_, ?_⟩
  · rcases dm_s hd with hd | ⟨f1, f2, rfl⟩
    · have hno := dm_not hn hd
      have e1 : (nC σ a).1 f i = σ.1 f i := funext fun k => by
        show (if 41 ≤ f ∧ f ≤ 47 ∧ i = σ.2.2.2 then _ else _) = _
        rw [if_neg (by rw [h5]; exact hno)]
      have e3 : (nC σ a).2.2.1 f i = σ.2.2.1 f i := funext fun k => by
        show (if 41 ≤ f ∧ f ≤ 47 ∧ i = σ.2.2.2 then none else _) = _
        rw [if_neg (by rw [h5]; exact hno)]
      rw [hold f i hd, cel_ext hd hold e1 rfl e3 (fun k j hk => h3 f i k j hd hk)]
      exact (h1 f i hd).kept (hkeep _ (hlt f i hd))
    · have c0 : ∀ f k, 41 ≤ f → f ≤ 47 → (nC σ a).1 f i k = if f = 41 ∧ k = 0 then a else 0 := fun f k g1 g2 => by
        have := nC_in (σ := σ) (s := a) (k := k) g1 g2
        rw [h5] at this
        exact this
      have z0 : ∀ f, 42 ≤ f → f ≤ 47 → (nC σ a).1 f i = fun _ => 0 := fun f g1 g2 => funext fun k => by
        rw [c0 f k (by omega) g2, if_neg (by omega)]
      rcases (show f = 41 ∨ f = 42 ∨ f = 43 ∨ f = 44 ∨ f = 45 ∨ f = 46 ∨ f = 47 by omega) with rfl | rfl | rfl | rfl | rfl | rfl | rfl
      · have hc : cel aC (adN ad i q q1 q2 q3 q4 q5 q6) (nC σ a) 41 i = .inr (3, [.int a, .ref q1, .ref q2, .ref q3, .ref q4, .ref q5, .ref q6, .int 0, .int 0, .int 0, .int 0]) := by
          show (Sum.inr (3, [Value.int ((nC σ a).1 41 i 0), .ref (adN ad i q q1 q2 q3 q4 q5 q6 42 i), .ref (adN ad i q q1 q2 q3 q4 q5 q6 43 i), .ref (adN ad i q q1 q2 q3 q4 q5 q6 44 i), .ref (adN ad i q q1 q2 q3 q4 q5 q6 45 i), .ref (adN ad i q q1 q2 q3 q4 q5 q6 46 i), .ref (adN ad i q q1 q2 q3 q4 q5 q6 47 i), .int ((nC σ a).1 41 i 7), .int ((nC σ a).1 41 i 8), .int ((nC σ a).1 41 i 9), .int ((nC σ a).1 41 i 10)]) : va_E) = _
          rw [c0 41 0 (by omega) (by omega), c0 41 7 (by omega) (by omega), c0 41 8 (by omega) (by omega), c0 41 9 (by omega) (by omega), c0 41 10 (by omega) (by omega)]
          unfold adN
          simp
        rw [hc]
        unfold adN
        rw [if_pos rfl, if_pos rfl]
        exact hP 0 _ rfl
      · have hc : cel aC (adN ad i q q1 q2 q3 q4 q5 q6) (nC σ a) 42 i = .inl (aC 0, 64, .inl ((nC σ a).1 42 i)) := rfl
        rw [hc, z0 42 (by omega) (by omega)]
        exact hP 1 (_, _) (by unfold adN; rw [if_pos rfl]; rfl)
      · have hc : cel aC (adN ad i q q1 q2 q3 q4 q5 q6) (nC σ a) 43 i = .inl (aC 0, 64, .inl ((nC σ a).1 43 i)) := rfl
        rw [hc, z0 43 (by omega) (by omega)]
        exact hP 2 (_, _) (by unfold adN; rw [if_pos rfl]; rfl)
      · have hc : cel aC (adN ad i q q1 q2 q3 q4 q5 q6) (nC σ a) 44 i = .inl (aC 0, 64, .inl ((nC σ a).1 44 i)) := rfl
        rw [hc, z0 44 (by omega) (by omega)]
        exact hP 3 (_, _) (by unfold adN; rw [if_pos rfl]; rfl)
      · have hc : cel aC (adN ad i q q1 q2 q3 q4 q5 q6) (nC σ a) 45 i = .inl (aC 0, 16, .inl ((nC σ a).1 45 i)) := rfl
        rw [hc, z0 45 (by omega) (by omega)]
        exact hP 4 (_, _) (by unfold adN; rw [if_pos rfl]; rfl)
      · have hc : cel aC (adN ad i q q1 q2 q3 q4 q5 q6) (nC σ a) 46 i = .inl (aC 0, 16, .inl ((nC σ a).1 46 i)) := rfl
        rw [hc, z0 46 (by omega) (by omega)]
        exact hP 5 (_, _) (by unfold adN; rw [if_pos rfl]; rfl)
      · have hc : cel aC (adN ad i q q1 q2 q3 q4 q5 q6) (nC σ a) 47 i = .inl (aC 0, 16, .inl ((nC σ a).1 47 i)) := rfl
        rw [hc, z0 47 (by omega) (by omega)]
        exact hP 6 (_, _) (by unfold adN; rw [if_pos rfl]; rfl)
  · rcases dm_s hd with hd | ⟨f1, f2, rfl⟩
    · rcases dm_s hd' with hd' | ⟨g1, g2, rfl⟩
      · rw [hold f i hd, hold f' i' hd'] at he
        exact h2 f i f' i' hd hd' he
      · rw [hold f i hd] at he
        have := hlt f i hd
        have := hge f' g1 g2
        omega
    · rcases dm_s hd' with hd' | ⟨g1, g2, rfl⟩
      · rw [hold f' i' hd'] at he
        have := hlt f' i' hd'
        have := hge f f1 f2
        omega
      · obtain ⟨e1, he1⟩ := hnew f f1 f2
        obtain ⟨e2, he2⟩ := hnew f' g1 g2
        have := hD.1 _ _ _ _ he1 he2 he
        exact ⟨by omega, rfl⟩
  · rcases dm_s hd with hd | ⟨f1, f2, rfl⟩
    · have hno := dm_not hn hd
      have e3 : (nC σ a).2.2.1 f i k = σ.2.2.1 f i k := by
        show (if 41 ≤ f ∧ f ≤ 47 ∧ i = σ.2.2.2 then none else _) = _
        rw [if_neg (by rw [h5]; exact hno)]
      rw [e3] at hk
      exact dm_m (h3 f i k j hd hk)
    · have e3 : (nC σ a).2.2.1 f i k = none := by
        show (if 41 ≤ f ∧ f ≤ 47 ∧ i = σ.2.2.2 then none else _) = _
        rw [if_pos ⟨f1, f2, h5.symm⟩]
      rw [e3] at hk
      cases hk
  · rcases dm_s hd with hd | ⟨f1, f2, rfl⟩
    · rw [hold f i hd]
      exact h4 f i hd
    · exact hA _ (hge f f1 f2)
  · show σ.2.2.2 + 1 = n + 1
    rw [h5]
end NEWC
