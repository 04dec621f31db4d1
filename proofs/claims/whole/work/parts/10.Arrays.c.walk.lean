set_option maxHeartbeats 4000000 in
set_option maxRecDepth 100000 in
theorem c_Arrays_fill (l : Launch) (D : va_G) (aC : Nat → ClassId) (A : Nat → Prop) (ad : Nat → Nat → Nat) (n : Nat) (σ : St) (fa1 ia1 na1 : Nat) (a2 : Int32) (hka1 : kd fa1 = .inr (0, na1)) (hda1 : dm n fa1 ia1) (o : St) (h : f_Arrays_fill σ fa1 ia1 na1 a2 = some o) : Met l y_Arrays_fill w_Arrays_fill rm_Arrays_fill (va_Pc [.ref (ad fa1 ia1), .int a2] (Pre D aC A ad n σ)) (va_Qv (fun (_ : Unit) => True) (fun _ t => Hold D aC A ad n o t.heap) A) 0 0 A := by
  refine Met.ofW (cc := prog_21_method_103_code) (maxL := 4) (ret := none) (by decide) rfl ?_
  intro p e s m args below meth c s₁ B hml hv
  obtain ⟨hargs, hH, hK, hZ⟩ := hv
  have hx := B.exec
  have hb := B.bytes
  have hr := B.returns
  have hts := atoms_spec (ws := w_Arrays_fill) B.pre
  have hg : ∀ w ∈ gW, w.before args s = true := fun w h => hts w (List.mem_cons_of_mem _ h)
  have hown : s.vm.findClass "java/util/Arrays" = some m.cls := findClass_of_methodNamed B.named
  have hlocks := B.notSynchronized
  have hS : va_S A s.heap s.heap [] := va_S.rf
  have hl := lv_entry ([.ref (ad fa1 ia1), .int a2]) (n := 4) (Nat.le_of_ble_eq_true rfl)
  rw [show entryFrame m args 4 = entryFrame m (([.ref (ad fa1 ia1), .int a2] : List Value).toArray) 4 by rw [hargs], lg_entry_eq]
  generalize (lg_sl ([.ref (ad fa1 ia1), .int a2]) ++ List.replicate (4 - (lg_sl ([.ref (ad fa1 ia1), .int a2])).length) Slot.unset).toArray = ls at hl ⊢
  have hl : lv_has ls 4 [(0, .ref (ad fa1 ia1)), (1, .int a2)] := hl
  generalize hQ0 : MQ below (va_Qv (fun (_ : Unit) => True) (fun _ t => Hold D aC A ad n o t.heap) A) args s 0 0 A = Q0
  unfold f_Arrays_fill at h
  refine lv_iconst (v := 0) hx hb d_Arrays_fill_0 (by decide) ?_
  refine lv_istore_n (lv' := [(2, .int 0), (0, .ref (ad fa1 ia1)), (1, .int a2)]) hx hb d_Arrays_fill_1 rfl hl (by decide) rfl (fun ls hl => ?_)
  refine lv_aload_n hx hb d_Arrays_fill_2 rfl (lv_at hl 1 rfl) ?_
  refine st_alen hx hb hK hH (f := fa1) (i := ia1) hda1 hka1 (v := (nI na1)) rfl d_Arrays_fill_3 ?_
  refine lv_topi (fun x1 ex1 => ?_)
  have h := nm_at ex1 h
  refine lv_istore_n (lv' := [(3, .int x1), (2, .int 0), (0, .ref (ad fa1 ia1)), (1, .int a2)]) hx hb d_Arrays_fill_4 rfl hl (by decide) rfl (fun ls hl => ?_)
  obtain ⟨q1, hq1, h⟩ := b2_some h
  have K1 : ∀ (σ4 : St) (x5 : Int32) (H : Heap) (locs : List Loc) (ls : Array Slot), q1 = (σ4, x5) → Hold D aC A ad n σ4 H → va_S A s.heap H locs → lv_has ls 4 [(0, .ref (ad fa1 ia1)), (1, .int a2), (2, .int x5), (3, .int x1)] → W p l e (headSpec w_Arrays_fill rm_Arrays_fill).room s m args below meth c H locs 0 0 Q0 (F0 m 20 ls []) := by
    intro σ4 x5 H locs ls eq1 hH hS hl
    subst eq1
    have h := b2_at h
    cases h
    rw [← hQ0]
    exact W.vret hx hb hr (fun t ht hW => ⟨⟨(), rfl, trivial, by dsimp only; rw [ht]; exact hH⟩, hS.F ht⟩) hS.2.2 d_Arrays_fill_20
  have loop1 : ∀ (k : Nat) (σ : St) (v2 : Int32) (H : Heap) (locs : List Loc) (ls : Array Slot), Hold D aC A ad n σ H → va_S A s.heap H locs → lv_has ls 4 [(0, .ref (ad fa1 ia1)), (1, .int a2), (2, .int v2), (3, .int x1)] → lp (fun q => lb_Arrays_fill_5 fa1 ia1 na1 a2 x1 q.1 q.2) k (σ, v2) = some q1 → W p l e (headSpec w_Arrays_fill rm_Arrays_fill).room s m args below meth c H locs 0 0 Q0 (F0 m 5 ls []) := by
    intro k
    induction k with
    | zero => intro σ v2 H locs ls hH hS hl h; exact absurd h (lp_zero _ _ _)
    | succ k ih1 =>
      intro σ v2 H locs ls hH hS hl h
      obtain ⟨z1, h1, hk1⟩ := lp_succ h
      have h1 : lb_Arrays_fill_5 fa1 ia1 na1 a2 x1 σ v2 = some z1 := h1
      unfold lb_Arrays_fill_5 at h1
      refine lv_iload_n hx hb d_Arrays_fill_5 rfl (lv_at hl 2 rfl) ?_
      refine lv_iload_n hx hb d_Arrays_fill_6 rfl (lv_at hl 3 rfl) ?_
      refine lv_icmp_ge (tgt := 20) hx hb d_Arrays_fill_7 (by decide) (fun c7 => ?_) (fun c7 => ?_)
      · have h1 := it h1 c7
        cases h1
        exact K1 σ v2 _ _ ls (Option.some.inj hk1).symm hH hS (lv_sub hl [0, 1, 2, 3] rfl)
      · have h1 := ie h1 c7
        refine lv_aload_n hx hb d_Arrays_fill_10 rfl (lv_at hl 0 rfl) ?_
        refine lv_iload_n hx hb d_Arrays_fill_11 rfl (lv_at hl 2 rfl) ?_
        refine lv_iload_n hx hb d_Arrays_fill_12 rfl (lv_at hl 1 rfl) ?_
        obtain ⟨g13, h1⟩ := gd_some h1
        refine st_iast hx hb hK hH hS (f := fa1) (i := ia1) hda1 hka1 g13 d_Arrays_fill_13 (fun σ2 H locs eσ2 hH hS => ?_)
        have h1 := nm_at eσ2 h1
        obtain ⟨x3, ex3⟩ : ∃ y : Int32, y = v2 + 1 := ⟨_, rfl⟩
        have h1 := nm_at ex3 h1
        refine lv_iinc (v := x3) (lv' := [(2, .int x3), (0, .ref (ad fa1 ia1)), (1, .int a2), (3, .int x1)]) hx hb d_Arrays_fill_14 hl (k := 2) rfl (by rw [ex3]; rfl) (by decide) rfl (fun ls hl => ?_)
        refine lv_goto (tgt := 5) hx hb d_Arrays_fill_17 (by decide) ?_
        cases h1
        exact ih1 σ2 x3 _ _ ls hH hS (lv_sub hl [1, 2, 0, 3] rfl) hk1
  obtain ⟨k1, hq1⟩ := lpE_some hq1
  exact loop1 k1 σ 0 _ _ ls hH hS (lv_sub hl [2, 3, 1, 0] rfl) hq1
