/-! ===== lengths packed: RUNS, the class puts them ===== -/
def ordr (i : Nat) : Nat := ([16, 17, 18, 0, 8, 7, 9, 6, 10, 5, 11, 4, 12, 3, 13, 2, 14, 1, 15] : List Nat).getD i 0
theorem ordr_ok : ∀ i, i < 19 → tb_0 i = nI (ordr i) ∧ ordr i < 19 := by decide +kernel
def tol (Lc : Nat → Nat) : Nat → Nat
  | 0 => 0
  | n + 1 => if n + 1 ≤ 4 then n + 1 else if Lc (ordr n) = 0 then tol Lc n else n + 1
theorem tol_le (Lc : Nat → Nat) : ∀ n, tol Lc n ≤ n
  | 0 => Nat.le_refl _
  | n + 1 => by
    have := tol_le Lc n
    simp only [tol]
    split
    · omega
    · split <;> omega
theorem tol_ge (Lc : Nat → Nat) : ∀ n, 4 ≤ n → 4 ≤ tol Lc n
  | 0, h => absurd h (by omega)
  | n + 1, h => by
    simp only [tol]
    split
    · omega
    · split
      · exact tol_ge Lc n (by omega)
      · omega
def toB (Lc : Nat → Nat) : Nat → List Bool
  | 0 => []
  | n + 1 => toB Lc n ++ bitsOf (nI (Lc (ordr n))) 3
theorem toB_len (Lc : Nat → Nat) : ∀ k, (toB Lc k).length = 3 * k
  | 0 => rfl
  | k + 1 => by
    simp only [toB, List.length_append, bitsOf_len, toB_len Lc k]
    omega
def cm1 (Lc : Nat → Nat) (z : Nat × Nat) : List Bool := bitsOf (nI (wrd Lc 19 z.1)) (Lc z.1) ++ (if z.1 < 16 then [] else bitsOf (nI (z.2 - shr z.1)) (ebt z.1))
def cmI (Lc : Nat → Nat) (C : List (Nat × Nat)) : Nat → List Bool
  | 0 => []
  | t + 1 => cmI Lc C t ++ cm1 Lc (C.getD t (0, 0))
def ruB (Lc : Nat → Nat) (C : List (Nat × Nat)) : List Bool := bitsOf (nI (tol Lc 19 - 4)) 4 ++ toB Lc (tol Lc 19) ++ cmI Lc C C.length
theorem AP.re {h z0 : Nat} {σ0 σ σ1 : St} {B : List Bool} (hA : AP h z0 σ0 B σ) (h3 : σ1.1 3 0 = σ.1 3 0) (h4 : σ1.1 4 0 = σ.1 4 0) : AP h z0 σ1 B σ1 := by
  obtain ⟨a1, a2, a3, a4⟩ := hA
  refine ⟨by rw [h3]; exact a1, a2, fr.rf, ?_⟩
  rcases a4 with ⟨b1, b2, b3⟩ | ⟨b1, b2, b3, B', b4, b5, b6⟩
  · exact Or.inl ⟨b1, b2.go h3 h4, by rw [h3]; exact b3⟩
  · exact Or.inr ⟨b1, b2, by rw [h3]; exact b3, B', b4, b5.go h3 h4, b6⟩
theorem getD_mem {C : List (Nat × Nat)} {t : Nat} (h : t < C.length) : C.getD t (0, 0) ∈ C := by
  rw [List.getD_eq_getElem?_getD, List.getElem?_eq_getElem h]
  exact List.getElem_mem h
theorem tb1c {c : Nat} (h : 16 ≤ c) (h2 : c < 19) : tb_1 (nI c - 16).toNatClampNeg = nI (shr c) ∧ tb_3 (nI c - 16).toNatClampNeg = nI (ebt c) := by
  have : c = 16 ∨ c = 17 ∨ c = 18 := by omega
  rcases this with rfl | rfl | rfl <;> exact ⟨rfl, rfl⟩
theorem s_appendCode {σ0 σ : St} {h z0 : Nat} {Lc : Nat → Nat} {B : List Bool} (hC : LN σ0 12 19 Lc) (hA : AP h z0 σ0 B σ) : ok (f_Commands_appendCode σ) (AP h z0 σ0 (B ++ (bitsOf (nI (tol Lc 19 - 4)) 4 ++ toB Lc (tol Lc 19)))) := by
  have hLn : ∀ σ1 : St, fr Fs σ0 σ1 → LN σ1 12 19 Lc := fun σ1 f1 => hC.go (f1.i (by omega)) (f1.fi (fun _ => by omega))
  have h1 := tol_le Lc 19
  have h2 := tol_ge Lc 19 (by omega)
  unfold f_Commands_appendCode
  refine ok_b2 (Q := fun q => q = (σ, nI (tol Lc 19))) (ok_lp (fun n q => n ≤ 19 ∧ q = (σ, nI n) ∧ tol Lc n = tol Lc 19) ?_ 19 _ ⟨Nat.le_refl _, rfl, rfl⟩) ?_
  · rintro n _ ⟨hn, rfl, ht⟩
    dsimp only
    generalize tol Lc 19 = T at ht ⊢
    unfold lb_Commands_appendCode_3
    refine ok_if (fun c => ok_some ?_) (fun c => ?_)
    · have c' := (nI_leI (b := 4) (by omega) (by omega)).mp c
      rw [← ht]
      rcases n with _ | n
      · rfl
      · simp only [tol]
        rw [if_pos c']
    · have c' : ¬ n ≤ 4 := fun z => c (nI_le (b := 4) z (by omega))
      obtain ⟨n, rfl⟩ : ∃ n', n = n' + 1 := ⟨n - 1, by omega⟩
      obtain ⟨o1, o2⟩ := ordr_ok n (by omega)
      obtain ⟨g1, g2⟩ := (hLn σ hA.go).2.2 (ordr n) o2
      rw [nI_pred, nI_cl (show n < 2 ^ 31 by omega), o1, nI_cl (show ordr n < 2 ^ 31 by omega), g1]
      simp only [tol] at ht
      rw [if_neg c'] at ht
      refine ok_gd (nI_ib (by omega) (by omega)) (ok_gd (nI_ib (by omega) (by omega)) (ok_if (fun d => ok_nm (fun x1 e1 => ok_some ⟨n, by omega, by omega, ?_, ?_⟩)) (fun d => ok_some ?_)))
      · rw [e1, pk_m1]
      · have d' := (nI_eq (b := 0) (by omega) (by omega)).mp d
        rw [if_pos d'] at ht
        exact ht
      · have d' : ¬ Lc (ordr n) = 0 := fun z => d (by rw [z]; rfl)
        rw [if_neg d'] at ht
        rw [← ht]
  · rintro σ2 x3 hq
    cases hq
    rw [show nI (tol Lc 19) - 4 = nI (tol Lc 19 - 4) from pk_sub (b := 4) (by omega)]
    refine ok_b1 (hA.number (nI (tol Lc 19 - 4)) (n := 4) (by omega)) (fun σ4 h4 => ?_)
    refine ok_b2 (Q := fun q => AP h z0 σ0 (B ++ bitsOf (nI (tol Lc 19 - 4)) 4 ++ toB Lc (tol Lc 19)) q.1) (ok_up (tol Lc 19) (fun k q => q.2 = nI k ∧ AP h z0 σ0 (B ++ bitsOf (nI (tol Lc 19 - 4)) 4 ++ toB Lc k) q.1) ?_ ?_ 0 _ (Nat.zero_le _) ⟨rfl, by simp only [toB, List.append_nil]; exact h4⟩) (fun σ7 x8 hq => ok_some (by dsimp only at hq; rw [← List.append_assoc]; exact hq))
    · rintro k ⟨σ5, x⟩ hk ⟨rfl, q⟩
      dsimp only at q ⊢
      obtain ⟨o1, o2⟩ := ordr_ok k (by omega)
      obtain ⟨g1, g2⟩ := (hLn σ5 q.go).2.2 (ordr k) o2
      unfold lb_Commands_appendCode_45
      rw [nI_cl (show k < 2 ^ 31 by omega), o1, nI_cl (show ordr k < 2 ^ 31 by omega), g1]
      refine ok_f (nI_ge hk (by omega)) (ok_gd (nI_ib (by omega) (by omega)) (ok_gd (nI_ib (by omega) (by omega)) (ok_b1 (q.number (nI (Lc (ordr k))) (n := 3) (by omega)) (fun σ6 h6 => ok_nm (fun x6 e6 => ok_some ⟨?_, ?_⟩)))))
      · dsimp only
        rw [e6, nI_1]
      · simp only [toB]
        rw [← List.append_assoc]
        exact h6
    · rintro ⟨σ5, x⟩ ⟨rfl, q⟩
      unfold lb_Commands_appendCode_45
      exact ok_t (nI_le (Nat.le_refl _) (by omega)) (ok_some q)
theorem bitsOf_0 (v w : Int32) : bitsOf v 0 = bitsOf w 0 := rfl
abbrev Fru : Nat → Nat → Nat → Prop := fun f i k => Fgc f i k ∨ Fpk 12 f i k ∨ f = 3 ∨ f = 4
theorem s_cAppend {σ0 σ : St} {h z0 j s : Nat} {L : Nat → Nat} {B : List Bool} (hj : j ≠ 12) (hP : PKs σ) (h12 : σ.1 41 12 0 = nI 19) (hL : LN σ j s L) (hA : AP h z0 σ0 B σ) : ok (f_Commands_append σ 42 j 64 (nI s)) (fun σ1 => AP h z0 σ1 (B ++ ruB (pkL (Cn (cml L s s 0)) 19 7) (cml L s s 0)) σ1 ∧ fr Fru σ σ1) := by
  have hs := hL.2.1
  unfold f_Commands_append
  refine ok_b1 (s_gather hL) (fun σ1 h1 => ?_)
  obtain ⟨g1, g2, g3, f1⟩ := h1
  generalize cml L s s 0 = C at *
  have hm : ordm (Cn C) 19 ≤ 2 ^ 7 := Nat.le_trans (ordm_le _ _) (by decide)
  refine ok_b1 (s_fit (g := Cn C) (s := 19) (l := 7) (hP.go (f1.ri (fun _ => by omega)) (f1.ri (fun _ => by omega))) (by rw [f1.i (by omega)]; exact h12) (by omega) (by omega) (by omega) g1.2.2 (by omega) (by omega) hm) (fun σ2 h2 => ?_)
  obtain ⟨c2, f2⟩ := h2
  have hA2 : AP h z0 σ2 B σ2 := hA.re (by rw [f2.fi (fun _ => by omega), f1.fi (fun _ => by omega)]) (by rw [f2.fi (fun _ => by omega), f1.fi (fun _ => by omega)])
  have hG2 : GC σ2 C := ⟨by rw [f2.i (by omega)]; exact g1.1, fun t ht => by rw [f2.i (by omega), f2.i (by omega)]; exact g1.2.1 t ht, fun c hc => by rw [f2.i (by omega)]; exact g1.2.2 c hc⟩
  generalize pkL (Cn C) 19 7 = Lc at *
  refine ok_b1 (s_appendCode c2.1 hA2) (fun σ3 h3 => ?_)
  refine ok_b2 (Q := fun q => AP h z0 σ2 (B ++ ruB Lc C) q.1) (ok_up C.length (fun t q => q.2 = nI t ∧ AP h z0 σ2 (B ++ (bitsOf (nI (tol Lc 19 - 4)) 4 ++ toB Lc (tol Lc 19)) ++ cmI Lc C t) q.1) ?_ ?_ 0 _ (Nat.zero_le _) ⟨rfl, by simp only [cmI, List.append_nil]; exact h3⟩) ?_
  · rintro t ⟨σ4, x⟩ ht ⟨rfl, q⟩
    dsimp only at q ⊢
    have f4 := q.go
    obtain ⟨z1, z2, z3⟩ := g3 _ (getD_mem ht)
    have a15 : σ4.1 15 0 6 = nI C.length := by rw [f4.i (by omega)]; exact hG2.1
    have a17 : σ4.1 17 0 t = nI (C.getD t (0, 0)).1 := by rw [f4.i (by omega)]; exact (hG2.2.1 t ht).1
    have a18 : ∀ σ5 : St, fr Fs σ2 σ5 → σ5.1 18 0 t = nI (C.getD t (0, 0)).2 := fun σ5 f5 => by rw [f5.i (by omega)]; exact (hG2.2.1 t ht).2
    have hck : CK σ4 12 19 Lc := c2.go (fun f _ _ => f4.fi (fun _ => by omega))
    generalize hz : C.getD t (0, 0) = z at *
    obtain ⟨a42, a42l⟩ := hck.1.2.2 z.1 z1
    unfold lb_Commands_append_29
    rw [a15, nI_cl (show t < 2 ^ 31 by omega), a17]
    refine ok_f (nI_ge ht (by omega)) (ok_gd (nI_ib (by omega) (by omega)) (ok_nm (fun x4 e4 => ?_)))
    rw [e4, nI_cl (show z.1 < 2 ^ 31 by omega), a42]
    refine ok_gd (nI_ib (by omega) (by omega)) (ok_gd (nI_ib (by omega) (by omega)) (ok_b1 (q.number (σ4.1 43 12 z.1) (by omega)) (fun σ5 h5 => ?_)))
    have hw : bitsOf (σ4.1 43 12 z.1) (Lc z.1) = bitsOf (nI (wrd Lc 19 z.1)) (Lc z.1) := by
      rcases Nat.eq_zero_or_pos (Lc z.1) with hz0 | hz0
      · rw [hz0]; rfl
      · rw [(hck.2.2.1 z.1 z1 hz0).1]
    rw [hw] at h5
    refine ok_if (fun c => ok_nm (fun x6 e6 => ok_some ⟨?_, ?_⟩)) (fun c => ?_)
    · dsimp only
      rw [e6, nI_1]
    · have c' : z.1 < 16 := (nI_ltI (b := 16) (by omega) (by omega)).mp c
      simp only [cmI]
      rw [hz]
      unfold cm1
      rw [if_pos c', List.append_nil, ← List.append_assoc]
      exact h5
    · have c' : ¬ z.1 < 16 := fun y => c (nI_lt (b := 16) y (by omega))
      have z3' := z3 (by omega)
      obtain ⟨t1, t3⟩ := tb1c (show 16 ≤ z.1 by omega) z1
      have hib : ib (nI z.1 - 16) 3 := by
        rw [show nI z.1 - 16 = nI (z.1 - 16) from pk_sub (b := 16) (by omega)]
        exact nI_ib (by omega) (by omega)
      refine ok_nm (fun x7 e7 => ?_)
      rw [e7, t1, t3, a18 σ5 h5.go, pk_sub z3']
      refine ok_gd (nI_ib (by omega) (by omega)) (ok_gd hib (ok_gd hib (ok_b1 (h5.number (nI (z.2 - shr z.1)) (n := ebt z.1) (by unfold ebt; split; omega; split <;> omega)) (fun σ8 h8 => ok_nm (fun x9 e9 => ok_some ⟨?_, ?_⟩)))))
      · dsimp only
        rw [e9, nI_1]
      · simp only [cmI]
        rw [hz]
        unfold cm1
        rw [if_neg c', ← List.append_assoc, ← List.append_assoc]
        exact h8
  · rintro ⟨σ4, x⟩ ⟨rfl, q⟩
    dsimp only at q ⊢
    unfold lb_Commands_append_29
    rw [show σ4.1 15 0 6 = nI C.length by rw [q.go.i (by omega)]; exact hG2.1]
    refine ok_t (nI_le (Nat.le_refl _) (by omega)) (ok_some ?_)
    unfold ruB
    rw [← List.append_assoc]
    exact q
  · rintro σ10 x11 q
    dsimp only at q
    exact ok_some ⟨q.re rfl rfl, (f1.mono (fun f i k z => Or.inl z)).tr ((f2.mono (fun f i k z => Or.inr (Or.inl z))).tr (q.go.mono (fun f i k z => by omega)))⟩
