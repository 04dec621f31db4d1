/-! ===== rows for the law's own loop ===== -/
section LROWS
variable {p : Program} {l : Launch} {e : Env} {R : Room} {s : State} {m : MethodId} {args : Array Value} {below : List Frame} {meth : Method} {c : Code} {H : Heap} {locs : List Loc} {cells slots : Nat} {Q : State → Prop}
variable {cc bytes : ByteArray} {pc nL maxL index k : Nat} {ls : Array Slot} {rest As st0 : List Value} {D : va_G} {aC : Nat → ClassId} {A : Nat → Prop} {ad : Nat → Nat → Nat} {n : Nat} {σ σ1 : St} {Ts ws : List Cond} {own C : String} {y : MethodName} {ret : Option FieldType} {rm : Room}
theorem st_bool (hexec : p.tables.exec = Jvm.exec) (hb : c.code = cc) {x : Int32} {t1 t2 : Nat} (d0 : decode cc pc = .ok (.ifCond .eq 7, 3)) (d3 : decode cc (pc + 3) = .ok (.iconst 1, 1)) (d4 : decode cc (pc + 4) = .ok (.goto 4, 3)) (d7 : decode cc (pc + 7) = .ok (.iconst 0, 1)) (h1 : t1 = pc + 7) (h2 : t2 = pc + 8)
    (kk : W p l e R s m args below meth c H locs cells slots Q (F0 m t2 ls (.int (if x = 0 then 0 else 1) :: rest))) : W p l e R s m args below meth c H locs cells slots Q (F0 m pc ls (.int x :: rest)) := by
  subst h1; subst h2
  refine lv_if_eq (tgt := pc + 7) hexec hb d0 (by omega) (fun h => ?_) (fun h => ?_)
  · rw [if_pos h] at kk
    exact lv_iconst (v := 0) hexec hb d7 (by decide) kk
  · rw [if_neg h] at kk
    exact lv_iconst (v := 1) hexec hb d3 (by decide) (lv_goto (tgt := pc + 8) hexec hb d4 (by omega) kk)
theorem scr_ix {i k L : Nat} (hL : L ≤ 3072) (h : i + k < L) : (Int32.ofNat i + Int32.ofNat k).toNatClampNeg = i + k ∧ vp_in (Int32.ofNat i + Int32.ofNat k) L := by
  have e1 : Int32.ofNat i + Int32.ofNat k = nI (i + k) := nI_add i k
  rw [e1]
  have e2 : (nI (i + k)).toNatClampNeg = i + k := nI_cl (by omega)
  exact ⟨e2, nI_ib h (by omega)⟩
/-- an int of the script: aload_0, iload 4, iconst_k, iadd, iaload -/
theorem st_arg {b L i : Nat} {xs : Nat → Int32} (kf : Int) {k : Nat} {r : Int32} (hexec : p.tables.exec = Jvm.exec) (hb : c.code = cc) (h0 : ls[0]? = some (.val (.ref b))) (h4 : ls[4]? = some (.val (.int (Int32.ofNat i)))) (hX : va_X b L xs s s.heap) (hbl : b < s.heap.size) (hbA : ¬ A b) (hS : va_S A s.heap H locs) (hL : L ≤ 3072) (hk : i + k < L) (hkk : Int32.ofInt kf = Int32.ofNat k) (hr : r = xs (i + k))
    (d0 : decode cc pc = .ok (.aload_n 0, 1)) (d1 : decode cc (pc + 1) = .ok (.iload 4, 2)) (d3 : decode cc (pc + 3) = .ok (.iconst kf, 1)) (d4 : decode cc (pc + 4) = .ok (.iadd, 1)) (d5 : decode cc (pc + 5) = .ok (.iaload, 1))
    (kk : W p l e R s m args below meth c H locs cells slots Q (F0 m (pc + 6) ls (.int r :: rest))) : W p l e R s m args below meth c H locs cells slots Q (F0 m pc ls rest) := by
  obtain ⟨e1, e2⟩ := scr_ix hL hk
  refine lv_aload_n hexec hb d0 rfl h0 (lv_iload hexec hb d1 h4 (lv_iconst (v := Int32.ofNat k) hexec hb d3 hkk (lv_iadd hexec hb d4 (va_sld hexec hb hX hbl hbA hS e2 d5 ?_))))
  rw [e1, ← hr]
  exact kk
/-- a call that may make codes -/
theorem st_ViA {v : Int32} {mc ms : Nat} (S : CallFix p m c cc nL s args Ts own) {f i : Nat} (hM : Met l y ws rm (va_Pc (.ref (ad f i) :: As) (PreA D aC A ad n σ)) (va_Qi (fun r (_ : Nat → Nat → Nat) => r = v) (fun u t => HoldA D aC A ad n u σ1 t.heap) A) mc ms A) (cw : CallW R s args own C index y bytes maxL ret ws rm mc ms k) (hK : Kn D aC s) (hH : Hold D aC A ad n σ H) (hS : va_S A s.heap H locs) (hZ : Stc aC A s s.heap) (hA : ∀ q, s.heap.size ≤ q → A q) (hd : dm n f i) {ci N : Nat} (hk : kd f = .inl (ci, N)) {T : u_T} (hc : vwCl[ci]? = some (C, T, N)) (hn : As.length = k) (hsize : ls.size = nL) (hstk : st0 = As.reverse ++ .ref (ad f i) :: rest) (hW : (rest.map fun v => v.category).sum ≤ 8) (hdg : decode cc pc = .ok (.invokevirtual index, 3)) (hf : cells + mc ≤ R.cells ∧ slots + ms ≤ R.slots)
    (kk : ∀ (ad1 : Nat → Nat → Nat) (H1 : Heap) (locs1 : List Loc), (∀ f i, dm n f i → ad1 f i = ad f i) → Hold D aC A ad1 σ1.2.2.2 σ1 H1 → va_S A s.heap H1 locs1 → W p l e R s m args below meth c H1 locs1 (cells + mc) (slots + ms) Q (F0 m (pc + 3) ls (.int v :: rest))) : W p l e R s m args below meth c H locs cells slots Q (F0 m pc ls st0) := by
  refine va_calli (A1 := A) (va_runV (As := As) (rest := rest) S hM cw ⟨PreA.blind, st_recv hK hH hd hk hc, fun U hU hW => ⟨rfl, ⟨by rw [hU]; exact hH, hK.warm hW, by rw [hU]; exact hZ.go hW.alike hS.2.1⟩, fun q hq => hA q (Nat.le_trans hS.1 (by rw [hU] at hq; exact hq))⟩⟩ rfl hn hsize hstk (lv_room hW) hdg hf) hS (fun q _ h => h) (fun q h => h) (fun r u t H1 locs1 ht hvm hw hB hz hk1 hS1 => ?_)
  subst hw
  rw [ht] at hB
  exact kk u H1 locs1 hB.2 hB.1 hS1
end LROWS
/-! ===== the reference's bit, entry and symbol, and the law's cell ===== -/
theorem mo_bit_sL {σ σ' : St} {a r : Int32} {v : Int64} (h : f_Mo_bit σ a = some (σ', r)) : f_Mo_bit (sL σ 70 0 0 v) a = some (sL σ' 70 0 0 v, r) := by
  unfold f_Mo_bit at h ⊢
  by_cases c1 : a < 0
  · have h := it h c1
    cases h
    exact (if_pos c1).trans rfl
  · have h := ie h c1
    refine (if_neg c1).trans ?_
    by_cases c2 : a < (sI σ 48 0 0 0).1 48 0 12 - (sI σ 48 0 0 0).1 48 0 11
    · have h := it h c2
      refine (if_pos c2).trans ?_
      obtain ⟨g, h⟩ := gd_some h
      cases h
      exact (gd_t g).trans rfl
    · have h := ie h c2
      refine (if_neg c2).trans ?_
      cases h
      rfl
theorem mo_symbol_sL {σ σ' : St} {a r : Int32} {v : Int64} (h : f_Mo_symbol σ a = some (σ', r)) : f_Mo_symbol (sL σ 70 0 0 v) a = some (sL σ' 70 0 0 v, r) := by
  unfold f_Mo_symbol at h ⊢
  by_cases c1 : a < 0
  · have h := it h c1
    cases h
    exact (if_pos c1).trans rfl
  · have h := ie h c1
    refine (if_neg c1).trans ?_
    by_cases c2 : a < (sI σ 48 0 0 0).1 48 0 22
    · have h := it h c2
      refine (if_pos c2).trans ?_
      obtain ⟨g, h⟩ := gd_some h
      cases h
      exact (gd_t g).trans rfl
    · have h := ie h c2
      refine (if_neg c2).trans ?_
      cases h
      rfl
theorem mo_entry_sL {σ σ' : St} {a1 a2 r : Int32} {v : Int64} (h : f_Mo_entry σ a1 a2 = some (σ', r)) : f_Mo_entry (sL σ 70 0 0 v) a1 a2 = some (sL σ' 70 0 0 v, r) := by
  unfold f_Mo_entry at h ⊢
  by_cases c1 : a1 < 0
  · have h := it h c1
    cases h
    exact (if_pos c1).trans rfl
  have h := ie h c1
  refine (if_neg c1).trans ?_
  by_cases c2 : (sI σ 48 0 0 0).1 48 0 20 ≤ a1
  · have h := it h c2
    cases h
    exact (if_pos c2).trans rfl
  have h := ie h c2
  refine (if_neg c2).trans ?_
  by_cases c3 : a2 < 0
  · have h := it h c3
    cases h
    exact (if_pos c3).trans rfl
  have h := ie h c3
  refine (if_neg c3).trans ?_
  by_cases c4 : a2 ≤ 2
  · have h := it h c4
    refine (if_pos c4).trans ?_
    by_cases c5 : a2 = 0
    · have h := it h c5
      refine (if_pos c5).trans ?_
      obtain ⟨g, h⟩ := gd_some h
      cases h
      exact (gd_t g).trans rfl
    have h := ie h c5
    refine (if_neg c5).trans ?_
    by_cases c6 : a2 = 1
    · have h := it h c6
      refine (if_pos c6).trans ?_
      obtain ⟨g, h⟩ := gd_some h
      cases h
      exact (gd_t g).trans rfl
    have h := ie h c6
    refine (if_neg c6).trans ?_
    obtain ⟨g, h⟩ := gd_some h
    cases h
    exact (gd_t g).trans rfl
  · have h := ie h c4
    refine (if_neg c4).trans ?_
    cases h
    rfl
theorem II.sL70 {σ : St} {v : Int64} (h : II σ) : II (sL σ 70 0 0 v) := by
  obtain ⟨n, S, LL, B, m, T, h⟩ := h
  exact (h.sc (fr_sL (S := fun f _ _ => f = 70) rfl) (fun f i k z y => by omega)).ii
/-- what the law finds for bit, entry and symbol -/
theorem l_bit {σ : St} (h : II σ) (a1 : Int32) : ∃ o σ2 r, ((∃ r, f_PC_bit σ a1 = some (σ, r) ∧ o = (sL σ 70 0 0 r.toInt64, 0)) ∨ (f_PC_isOutside σ a1 0 (σ.1 3 0 2 - 1) = some (σ, 1) ∧ o = (σ, 1))) ∧ f_Mo_bit o.1 a1 = some (σ2, r) ∧ II σ2 ∧ σ2.1 48 0 0 = o.2 ∧ (o.2 = 0 → σ2.2.1 70 0 0 = r.toInt64) := by
  obtain ⟨x, r, σ', h1, h2, h3, ⟨rfl, h5, h6⟩ | ⟨rfl, h5⟩⟩ := j_bit h a1
  · refine ⟨(sL σ 70 0 0 r.toInt64, 0), sL σ' 70 0 0 r.toInt64, r, Or.inl ⟨r, ?_, rfl⟩, mo_bit_sL h2, h3.sL70, h5, fun _ => sL_at⟩
    unfold f_PC_bit
    rw [h1]
    show (if (0 : Int32) = 0 then b2 (f_Stream_at σ a1) fun σ3 x4 => some (σ3, x4) else none) = _
    rw [if_pos rfl, h6]
    rfl
  · exact ⟨(σ, 1), σ', r, Or.inr ⟨h1, rfl⟩, h2, h3, h5, fun z => absurd (show (1 : Int32) = 0 from z) (by decide)⟩
theorem l_symbol {σ : St} (h : II σ) (a1 : Int32) : ∃ o σ2 r, ((∃ r, f_PC_symbol σ a1 = some (σ, r) ∧ o = (sL σ 70 0 0 r.toInt64, 0)) ∨ (f_PC_isOutside σ a1 0 (σ.1 26 0 1 - 1) = some (σ, 1) ∧ o = (σ, 1))) ∧ f_Mo_symbol o.1 a1 = some (σ2, r) ∧ II σ2 ∧ σ2.1 48 0 0 = o.2 ∧ (o.2 = 0 → σ2.2.1 70 0 0 = r.toInt64) := by
  obtain ⟨x, r, σ', h1, h2, h3, ⟨rfl, h5, h6, h7⟩ | ⟨rfl, h5⟩⟩ := j_symbol h a1
  · refine ⟨(sL σ 70 0 0 r.toInt64, 0), sL σ' 70 0 0 r.toInt64, r, Or.inl ⟨r, ?_, rfl⟩, mo_symbol_sL h2, h3.sL70, h5, fun _ => sL_at⟩
    unfold f_PC_symbol
    rw [h1]
    show (if (0 : Int32) = 0 then gd (ib a1 1000) (some (σ, σ.1 27 0 a1.toNatClampNeg)) else none) = _
    rw [if_pos rfl, gd_t h6, h7]
  · exact ⟨(σ, 1), σ', r, Or.inr ⟨h1, rfl⟩, h2, h3, h5, fun z => absurd (show (1 : Int32) = 0 from z) (by decide)⟩
theorem l_entry {σ : St} (h : II σ) (a1 a2 : Int32) : ∃ o σ2 r, ((∃ r, f_PC_entry σ a1 a2 = some (σ, r) ∧ o = (sL σ 70 0 0 r.toInt64, 0)) ∨ ((f_PC_isOutside σ a1 0 (σ.1 19 0 1 - 1) = some (σ, 1) ∨ (f_PC_isOutside σ a1 0 (σ.1 19 0 1 - 1) = some (σ, 0) ∧ f_PC_isOutside σ a2 0 2 = some (σ, 1))) ∧ o = (σ, 1))) ∧ f_Mo_entry o.1 a1 a2 = some (σ2, r) ∧ II σ2 ∧ σ2.1 48 0 0 = o.2 ∧ (o.2 = 0 → σ2.2.1 70 0 0 = r.toInt64) := by
  obtain ⟨r, σ', h2, h3, x, h1, ⟨rfl, y, h4, ⟨rfl, h5, h6⟩ | ⟨rfl, h5⟩⟩ | ⟨rfl, h5⟩⟩ := j_entry h a1 a2
  · refine ⟨(sL σ 70 0 0 r.toInt64, 0), sL σ' 70 0 0 r.toInt64, r, Or.inl ⟨r, ?_, rfl⟩, mo_entry_sL h2, h3.sL70, h5, fun _ => sL_at⟩
    unfold f_PC_entry
    rw [h1]
    show (if (0 : Int32) = 0 then b2 (f_PC_isOutside σ a2 0 2) fun σ3 x4 => if x4 = 0 then b2 (f_Table_tell σ3 a1 a2) fun σ5 x6 => some (σ5, x6) else none else none) = _
    rw [if_pos rfl, h4]
    show (if (0 : Int32) = 0 then b2 (f_Table_tell σ a1 a2) fun σ5 x6 => some (σ5, x6) else none) = _
    rw [if_pos rfl, h6]
    rfl
  · exact ⟨(σ, 1), σ', r, Or.inr ⟨Or.inr ⟨h1, h4⟩, rfl⟩, h2, h3, h5, fun z => absurd (show (1 : Int32) = 0 from z) (by decide)⟩
  · exact ⟨(σ, 1), σ', r, Or.inr ⟨Or.inl h1, rfl⟩, h2, h3, h5, fun z => absurd (show (1 : Int32) = 0 from z) (by decide)⟩
