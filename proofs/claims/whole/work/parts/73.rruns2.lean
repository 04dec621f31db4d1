/-! ===== lengths packed: RUNS, the reference puts them ===== -/
theorem ok_b2e {A β : Type} {x : Option (St × A)} {σ : St} {a : A} {k : St → A → Option β} {P : β → Prop} (hx : x = some (σ, a)) (h : ok (k σ a) P) : ok (b2 x k) P := by
  subst hx; exact h
abbrev Frr : Nat → Nat → Nat → Prop := fun f i k => Fgr f i k ∨ f = 56 ∨ (f = 49 ∧ k = 12) ∨ (52 ≤ f ∧ f ≤ 55) ∨ (f = 50 ∧ 768 ≤ k) ∨ Fm f i k
theorem cm1_len {Lc : Nat → Nat} (z : Nat × Nat) : (cm1 Lc z).length = Lc z.1 + (if z.1 < 16 then 0 else ebt z.1) := by
  unfold cm1
  rw [List.length_append, bitsOf_len]
  split
  · rfl
  · rw [bitsOf_len]
theorem cmI_pre (Lc : Nat → Nat) (C : List (Nat × Nat)) {t : Nat} : ∀ {n : Nat}, t ≤ n → ∃ Z, cmI Lc C n = cmI Lc C t ++ Z := by
  intro n hn
  obtain ⟨d, rfl⟩ : ∃ d, n = t + d := ⟨n - t, by omega⟩
  clear hn
  induction d with
  | zero => exact ⟨[], by simp⟩
  | succ d ih =>
    obtain ⟨Z, hZ⟩ := ih
    refine ⟨Z ++ cm1 Lc (C.getD (t + d) (0, 0)), ?_⟩
    show cmI Lc C (t + d) ++ cm1 Lc (C.getD (t + d) (0, 0)) = _
    rw [hZ, List.append_assoc]
theorem cmI_len {Lc : Nat → Nat} {C : List (Nat × Nat)} (hL : ∀ k, k < 19 → Lc k ≤ 15) (hC : ∀ z, z ∈ C → z.1 < 19) : ∀ t, t ≤ C.length → (cmI Lc C t).length ≤ 22 * t
  | 0, _ => Nat.le_refl _
  | t + 1, h => by
    have h1 := cmI_len hL hC t (by omega)
    have h2 := hL _ (hC _ (getD_mem (show t < C.length by omega)))
    have h3 : ebt (C.getD t (0, 0)).1 ≤ 7 := by unfold ebt; split; omega; split <;> omega
    simp only [cmI, List.length_append, cm1_len]
    split <;> omega
theorem toB_pre (Lc : Nat → Nat) {t n : Nat} (h : t ≤ n) : ∃ Z, toB Lc n = toB Lc t ++ Z := by
  obtain ⟨d, rfl⟩ : ∃ d, n = t + d := ⟨n - t, by omega⟩
  clear h
  induction d with
  | zero => exact ⟨[], by simp⟩
  | succ d ih =>
    obtain ⟨Z, hZ⟩ := ih
    refine ⟨Z ++ bitsOf (nI (Lc (ordr (t + d)))) 3, ?_⟩
    show toB Lc (t + d) ++ bitsOf (nI (Lc (ordr (t + d)))) 3 = _
    rw [hZ, List.append_assoc]
theorem i768 {x : Nat} : (768 : Int32) + nI x = nI (64 * 12 + x) := nI_add 768 x
/-- one command put, or counted -/
theorem s_r164 {σ : St} {C : List (Nat × Nat)} {Lc : Nat → Nat} {B Y : List Bool} {a : Int32} {t : Nat} (hG : GR σ C) (hCl : C.length ≤ 64) (hC : ∀ z, z ∈ C → z.1 < 19 ∧ z.2 ≤ 64 ∧ (16 ≤ z.1 → shr z.1 ≤ z.2)) (hL : LR σ 12 19 Lc) (ht : t < C.length) (hS : SW σ a B Y) (hz : a ≠ 0 → B.length + Y.length + (cm1 Lc (C.getD t (0, 0))).length ≤ 20000) :
    ok (lb_Mo_runs_164_2 a σ (nI Y.length) (nI t)) (fun q => ∃ σ1, q = .inl (σ1, nI (Y ++ cm1 Lc (C.getD t (0, 0))).length, nI (t + 1)) ∧ SW σ1 a B (Y ++ cm1 Lc (C.getD t (0, 0))) ∧ fr Fm σ σ1) := by
  obtain ⟨z1, z2, z3⟩ := hC _ (getD_mem ht)
  obtain ⟨a58, a59⟩ := hG.2 t ht
  generalize C.getD t (0, 0) = z at *
  obtain ⟨a50, a50l⟩ := hL.2.2.2 z.1 z1
  have hlen : (Y ++ cm1 Lc z).length = Y.length + (Lc z.1 + (if z.1 < 16 then 0 else ebt z.1)) := by rw [List.length_append, cm1_len]
  unfold lb_Mo_runs_164_2
  rw [hG.1, nI_cl (show t < 2 ^ 31 by omega), a58]
  refine ok_f (nI_ge ht (by omega)) (ok_gd (nI_ib (by omega) (by omega)) (ok_nm (fun x44 e44 => ?_)))
  rw [e44, i768, nI_cl (show 64 * 12 + z.1 < 2 ^ 31 by omega), a50]
  refine ok_gd (nI_ib (by omega) (by omega)) (ok_nm (fun x45 e45 => ok_b2e (e_extra z1) ?_))
  rw [e45, nI_add, nI_add]
  refine ok_nm (fun x48 e48 => ok_if (fun ha => ok_nm (fun x49 e49 => ok_some ?_)) (fun ha => ?_))
  · refine ⟨σ, by rw [e48, e49, nI_1, hlen], ?_, fr.rf⟩
    unfold SW at hS ⊢
    rw [if_pos ha] at hS ⊢
    exact hS
  · unfold SW at hS
    rw [if_neg ha] at hS
    have hz := hz ha
    rw [cm1_len] at hz
    have hword : ok (f_Mo_wordOf σ 12 (nI z.1)) (fun o => o.1 = σ ∧ bitsOf o.2 (Lc z.1) = bitsOf (nI (wrd Lc 19 z.1)) (Lc z.1)) := by
      rcases Nat.eq_zero_or_pos (Lc z.1) with h0 | h0
      · refine (e_wordOf0 hL z1).mono (fun o ho => ⟨ho, ?_⟩)
        rw [h0]
        rfl
      · refine (e_wordOf hL z1 h0).mono (fun o ho => ?_)
        rw [ho]
        exact ⟨rfl, rfl⟩
    refine ok_b2 hword (fun σ50 x51 hq => ?_)
    obtain ⟨hq1, hq2⟩ := hq
    dsimp only at hq1 hq2
    subst hq1
    refine ok_b1 (s_moPutBits hS x51 (n := Lc z.1) (by omega) (by rw [List.length_append]; omega)) (fun σ52 h52 => ?_)
    obtain ⟨h52, f52⟩ := h52
    rw [hq2] at h52
    refine ok_b2e (e_extra z1) ?_
    by_cases c16 : z.1 < 16
    · rw [if_pos c16] at *
      refine ok_t (by decide) (ok_nm (fun x55 e55 => ok_some ⟨σ52, by rw [e55, e48, nI_1, hlen], ?_, f52⟩))
      unfold SW cm1
      rw [if_neg ha, if_pos c16, List.append_nil, ← List.append_assoc]
      exact h52
    · rw [if_neg c16] at *
      have he1 : 1 ≤ ebt z.1 := by unfold ebt; split; omega; split <;> omega
      have he2 : ebt z.1 ≤ 7 := by unfold ebt; split; omega; split <;> omega
      rw [show σ52.1 59 0 t = nI (z.2 - shr z.1) by rw [f52.i (by omega)]; exact a59]
      refine ok_f (nI_nle (by omega) (by omega)) (ok_gd (nI_ib (by omega) (by omega)) ?_)
      refine ok_b2e (e_extra z1) ?_
      rw [if_neg c16]
      refine ok_b1 (s_moPutBits h52 (nI (z.2 - shr z.1)) (n := ebt z.1) (by omega) (by rw [List.length_append, List.length_append, bitsOf_len]; omega)) (fun σ58 h58 => ok_nm (fun x59 e59 => ok_some ⟨σ58, by rw [e59, e48, nI_1, hlen], ?_, f52.tr h58.2⟩))
      unfold SW cm1
      rw [if_neg ha, if_neg c16, ← List.append_assoc, ← List.append_assoc]
      exact h58.1
theorem lb164 : lb_Mo_runs_164 = lb_Mo_runs_164_2 := rfl
theorem s_rRuns {σ : St} {c s : Nat} {L : Nat → Nat} {B : List Bool} (hL : LR σ c s L) (hc : c < 12) (hS : SR σ B) {a : Int32} (hz : a ≠ 0 → B.length + (ruB (pkL (Cn (cml L s s 0)) 19 7) (cml L s s 0)).length ≤ 20000) : ok (f_Mo_runs σ (nI c) a) (fun o => o.2 = nI (ruB (pkL (Cn (cml L s s 0)) 19 7) (cml L s s 0)).length ∧ SW o.1 a B (ruB (pkL (Cn (cml L s s 0)) 19 7) (cml L s s 0)) ∧ (ruB (pkL (Cn (cml L s s 0)) 19 7) (cml L s s 0)).length ≤ 2000 ∧ fr Frr σ o.1) := by
  have hs := hL.2.1
  unfold f_Mo_runs
  refine ok_b1 (s_fillCommands hL) (fun σ1 h1 => ?_)
  obtain ⟨g1, g2, g3, f1⟩ := h1
  generalize cml L s s 0 = C at *
  refine ok_b2 (Q := fun q => (∀ k, k < 64 → q.1.1 56 0 k = 0) ∧ fr (fun f _ _ => f = 56) σ1 q.1) (ok_up 64 (fun n q => q.2 = nI n ∧ (∀ k, k < n → q.1.1 56 0 k = 0) ∧ fr (fun f _ _ => f = 56) σ1 q.1) ?_ ?_ 0 _ (Nat.zero_le _) ⟨rfl, fun k hk => absurd hk (by omega), fr.rf⟩) ?_
  · rintro n ⟨σ2, x⟩ hn ⟨rfl, q1, q2⟩
    dsimp only at q1 q2 ⊢
    unfold lb_Mo_runs_7
    rw [nI_cl (by omega)]
    refine ok_f (nI_ge (b := 64) hn (by omega)) (ok_gd (nI_ib (by omega) (by omega)) (ok_nm (fun σ3 e3 => ok_nm (fun x4 e4 => ok_some ⟨by dsimp only; rw [e4, nI_1], fun k hk => ?_, ?_⟩))))
    · dsimp only
      rw [e3]
      by_cases hkn : k = n
      · subst hkn
        rw [sI_at]
      · rw [sI_k hkn]
        exact q1 k (by omega)
    · rw [e3]
      exact q2.tr (fr_sI rfl)
  · rintro ⟨σ2, x⟩ ⟨rfl, q1, q2⟩
    unfold lb_Mo_runs_7
    exact ok_t (nI_le (a := 64) (Nat.le_refl _) (by omega)) (ok_some ⟨q1, q2⟩)
  rintro σ4 x5 ⟨q1, q2⟩
  dsimp only at q1 q2
  have hGg : ∀ σ5 : St, fr (fun f _ _ => f = 56) σ1 σ5 → GR σ5 C := fun σ5 f5 => ⟨by rw [f5.i (by omega)]; exact g1.1, fun t ht => by rw [f5.i (by omega), f5.i (by omega)]; exact g1.2 t ht⟩
  refine ok_b2 (Q := fun q => (∀ k, k < 64 → q.1.1 56 0 k = nI (cc k C)) ∧ fr (fun f _ _ => f = 56) σ1 q.1) (ok_up C.length (fun n q => q.2 = nI n ∧ (∀ k, k < 64 → q.1.1 56 0 k = nI (cc k (C.take n))) ∧ fr (fun f _ _ => f = 56) σ1 q.1) ?_ ?_ 0 _ (Nat.zero_le _) ⟨rfl, fun k hk => q1 k hk, q2⟩) ?_
  · rintro n ⟨σ5, x⟩ hn ⟨rfl, p1, p2⟩
    dsimp only at p1 p2 ⊢
    have hG := hGg σ5 p2
    obtain ⟨z1, z2, z3⟩ := g3 _ (getD_mem hn)
    have a58 := (hG.2 n hn).1
    have htk : C.take (n + 1) = C.take n ++ [C.getD n (0, 0)] := by
      rw [List.take_add_one, List.getElem?_eq_getElem hn, List.getD_eq_getElem?_getD, List.getElem?_eq_getElem hn]
      rfl
    unfold lb_Mo_runs_28
    rw [hG.1, nI_cl (show n < 2 ^ 31 by omega), a58]
    rw [htk]
    generalize C.getD n (0, 0) = z at *
    rw [nI_cl (show z.1 < 2 ^ 31 by omega), p1 z.1 (by omega), nI_1]
    refine ok_f (nI_ge hn (by omega)) (ok_gd (nI_ib (by omega) (by omega)) (ok_gd (nI_ib (by omega) (by omega)) (ok_gd (nI_ib (by omega) (by omega)) (ok_nm (fun σ6 e6 => ok_nm (fun x7 e7 => ok_some ⟨by dsimp only; rw [e7, nI_1], fun k hk => ?_, ?_⟩))))))
    · dsimp only
      rw [e6, cc_app, cc_one]
      by_cases hkz : k = z.1
      · subst hkz
        rw [sI_at, if_pos rfl]
      · rw [sI_k hkz, if_neg (fun y => hkz y.symm), Nat.add_zero]
        exact p1 k hk
    · rw [e6]
      exact p2.tr (fr_sI rfl)
  · rintro ⟨σ5, x⟩ ⟨rfl, p1, p2⟩
    dsimp only at p1 p2 ⊢
    rw [List.take_length] at p1
    unfold lb_Mo_runs_28
    rw [(hGg σ5 p2).1]
    exact ok_t (nI_le (Nat.le_refl _) (by omega)) (ok_some ⟨p1, p2⟩)
  rintro σ8 x9 ⟨p1, p2⟩
  dsimp only at p1 p2
  refine ok_gd (by decide) (ok_nm (fun σ10 e10 => ?_))
  have hm : ordm (Cn C) 19 ≤ 2 ^ 7 := Nat.le_trans (ordm_le _ _) (by decide)
  refine ok_b1 (s_moPackages (g := Cn C) (c := 12) (s := 19) (l := 7) (by omega) (fun k hk => by rw [e10, sI_f (by omega)]; exact p1 k (by omega)) (by omega) (by omega) (by omega) hm) (fun σ11 h11 => ?_)
  obtain ⟨l11, f11⟩ := h11
  have hL11 : LR σ11 12 19 (pkL (Cn C) 19 7) := ⟨by rw [f11.i (by omega), e10]; exact sI_at, by omega, by omega, l11⟩
  have fa : fr Frr σ σ11 := by
    refine (f1.mono (fun f i k z => Or.inl z)).tr ((p2.mono (fun f i k z => Or.inr (Or.inl z))).tr ?_)
    rw [e10] at f11
    exact (fr_sI (show Frr 49 0 (12 : Int32).toNatClampNeg from Or.inr (Or.inr (Or.inl ⟨rfl, rfl⟩)))).tr (f11.mono (fun f i k z => by omega))
  have hS11 : SR σ11 B := hS.go (by rw [f11.i (by omega), e10, sI_f (by omega), p2.i (by omega), f1.i (by omega)]) (by rw [f11.i (by omega), e10, sI_f (by omega), p2.i (by omega), f1.i (by omega)]) (by rw [f11.fi (fun _ => by omega), e10, sI_fi (by omega), p2.fi (fun _ => by omega), f1.fi (fun _ => by omega)])
  have hG11 : GR σ11 C := by
    have := hGg σ8 p2
    exact ⟨by rw [f11.i (by omega), e10, sI_f (by omega)]; exact this.1, fun t ht => by rw [f11.i (by omega), f11.i (by omega), e10, sI_f (by omega), sI_f (by omega)]; exact this.2 t ht⟩
  have hLc : ∀ k, k < 19 → pkL (Cn C) 19 7 k ≤ 15 := fun k hk => (l11 k hk).2
  generalize pkL (Cn C) 19 7 = Lc at *
  have h1 := tol_le Lc 19
  have h2 := tol_ge Lc 19 (by omega)
  have hcl := cmI_len hLc (fun z hz => (g3 z hz).1) C.length (Nat.le_refl _)
  have hrl : (ruB Lc C).length = 4 + 3 * tol Lc 19 + (cmI Lc C C.length).length := by
    unfold ruB
    rw [List.length_append, List.length_append, bitsOf_len, toB_len]
  rw [hrl] at hz
  refine ok_b2 (Q := fun q => q = (σ11, nI (tol Lc 19))) (ok_lp (fun n q => n ≤ 19 ∧ q = (σ11, nI n) ∧ tol Lc n = tol Lc 19) ?_ 19 _ ⟨Nat.le_refl _, rfl, rfl⟩) ?_
  · rintro n _ ⟨hn, rfl, ht⟩
    dsimp only
    generalize tol Lc 19 = T at ht ⊢
    unfold lb_Mo_runs_79
    refine ok_if (fun c => ok_some ?_) (fun c => ?_)
    · have c' := (nI_leI (b := 4) (by omega) (by omega)).mp c
      rw [← ht]
      rcases n with _ | n
      · rfl
      · simp only [tol]
        rw [if_pos c']
    · have c' : ¬ n ≤ 4 := fun z => c (nI_le (b := 4) z (by omega))
      obtain ⟨n, rfl⟩ : ∃ n', n = n' + 1 := ⟨n - 1, by omega⟩
      obtain ⟨o1, o2⟩ := ordr_ok n (by omega)
      obtain ⟨k1, k2⟩ := hL11.2.2.2 (ordr n) o2
      rw [nI_pred, e_orderOf (show n < 19 by omega)]
      dsimp only [b2]
      rw [i768, nI_cl (show 64 * 12 + ordr n < 2 ^ 31 by omega), k1]
      simp only [tol] at ht
      rw [if_neg c'] at ht
      refine ok_gd (nI_ib (by omega) (by omega)) (ok_if (fun d => ok_nm (fun x1 e1 => ok_some ⟨n, by omega, by omega, ?_, ?_⟩)) (fun d => ok_some ?_))
      · rw [e1, pk_m1]
      · have d' := (nI_eq (b := 0) (by omega) (by omega)).mp d
        rw [if_pos d'] at ht
        exact ht
      · have d' : ¬ Lc (ordr n) = 0 := fun z => d (by rw [z]; rfl)
        rw [if_neg d'] at ht
        rw [← ht]
  rintro σ15 x16 hq
  cases hq
  have hx17 : (4 : Int32) + 3 * nI (tol Lc 19) = nI (4 + 3 * tol Lc 19) := by
    show nI 4 + nI 3 * nI (tol Lc 19) = _
    rw [pk_mul, nI_add]
  have hYl : (bitsOf (nI (tol Lc 19 - 4)) 4 ++ toB Lc (tol Lc 19)).length = 4 + 3 * tol Lc 19 := by rw [List.length_append, bitsOf_len, toB_len]
  rw [hx17, ← hYl]
  refine ok_nm (fun x17 e17 => ?_)
  rw [e17]
  have h164 : ∀ σ2 : St, SW σ2 a B (bitsOf (nI (tol Lc 19 - 4)) 4 ++ toB Lc (tol Lc 19)) → fr Fm σ11 σ2 → ok (lpE (fun q => lb_Mo_runs_164_2 a q.1 q.2.1 q.2.2) (σ2, nI (bitsOf (nI (tol Lc 19 - 4)) 4 ++ toB Lc (tol Lc 19)).length, 0)) (fun q => q.2.1 = nI (ruB Lc C).length ∧ SW q.1 a B (ruB Lc C) ∧ fr Fm σ11 q.1) := by
    intro σ2 s2 f2
    refine ok_up C.length (fun t q => q.2.1 = nI (bitsOf (nI (tol Lc 19 - 4)) 4 ++ toB Lc (tol Lc 19) ++ cmI Lc C t).length ∧ q.2.2 = nI t ∧ SW q.1 a B (bitsOf (nI (tol Lc 19 - 4)) 4 ++ toB Lc (tol Lc 19) ++ cmI Lc C t) ∧ fr Fm σ11 q.1) ?_ ?_ 0 _ (Nat.zero_le _) ⟨by simp only [cmI, List.append_nil], rfl, by simp only [cmI, List.append_nil]; exact s2, f2⟩
    · rintro t ⟨σ3, x, y⟩ ht ⟨rfl, rfl, r1, r2⟩
      dsimp only at r1 r2 ⊢
      obtain ⟨Z, hZ⟩ := cmI_pre Lc C (show t + 1 ≤ C.length by omega)
      have hZl := congrArg List.length hZ
      simp only [cmI, List.length_append] at hZl
      refine (s_r164 (B := B) (Lc := Lc) ⟨by rw [r2.i (by omega)]; exact hG11.1, fun t ht => by rw [r2.i (by omega), r2.i (by omega)]; exact hG11.2 t ht⟩ (by omega) g3 (hL11.go (r2.fi (fun _ => by omega)) (r2.fi (fun _ => by omega))) ht r1 (fun ha => ?_)).mono (fun q hq => ?_)
      · have := hz ha
        rw [List.length_append, hYl]
        omega
      · obtain ⟨σ4, rfl, r3, r4⟩ := hq
        dsimp only
        simp only [cmI]
        rw [← List.append_assoc]
        exact ⟨by first | rfl | trivial, by first | rfl | trivial, r3, r2.tr r4⟩
    · rintro ⟨σ3, x, y⟩ ⟨rfl, rfl, r1, r2⟩
      dsimp only at r1 r2 ⊢
      unfold lb_Mo_runs_164_2
      rw [show σ3.1 48 0 15 = nI C.length by rw [r2.i (by omega)]; exact hG11.1]
      exact ok_t (nI_le (Nat.le_refl _) (by omega)) (ok_some ⟨rfl, r1, r2⟩)
  refine ok_if (fun ha => ?_) (fun ha => ?_)
  · rw [lb164]
    refine ok_b3 (h164 σ11 ?_ fr.rf) (fun σ34 x35 x36 hq => ok_some ⟨hq.1, hq.2.1, by omega, fa.tr (hq.2.2.mono (fun f i k z => by omega))⟩)
    unfold SW
    rw [if_pos ha]
    exact hS11
  · have hz := hz ha
    rw [show nI (tol Lc 19) - 4 = nI (tol Lc 19 - 4) from pk_sub (b := 4) (by omega)]
    refine ok_b1 (s_moPutBits hS11 (nI (tol Lc 19 - 4)) (n := 4) (by omega) (by omega)) (fun σ37 h37 => ?_)
    refine ok_b2 (Q := fun q => SR q.1 (B ++ bitsOf (nI (tol Lc 19 - 4)) 4 ++ toB Lc (tol Lc 19)) ∧ fr Fm σ11 q.1) (ok_up (tol Lc 19) (fun k q => q.2 = nI k ∧ SR q.1 (B ++ bitsOf (nI (tol Lc 19 - 4)) 4 ++ toB Lc k) ∧ fr Fm σ11 q.1) ?_ ?_ 0 _ (Nat.zero_le _) ⟨rfl, by simp only [toB, List.append_nil]; exact h37.1, h37.2⟩) ?_
    · rintro k ⟨σ5, x⟩ hk ⟨rfl, r1, r2⟩
      dsimp only at r1 r2 ⊢
      obtain ⟨o1, o2⟩ := ordr_ok k (by omega)
      obtain ⟨k1, k2⟩ := (hL11.go (r2.fi (fun _ => by omega)) (r2.fi (fun _ => by omega))).2.2.2 (ordr k) o2
      unfold lb_Mo_runs_130
      rw [e_orderOf (show k < 19 by omega)]
      dsimp only [b2]
      rw [i768, nI_cl (show 64 * 12 + ordr k < 2 ^ 31 by omega), k1]
      refine ok_f (nI_ge hk (by omega)) (ok_gd (nI_ib (by omega) (by omega)) (ok_b1 (s_moPutBits r1 (nI (Lc (ordr k))) (n := 3) (by omega) (by rw [List.length_append, List.length_append, bitsOf_len, toB_len]; omega)) (fun σ6 h6 => ok_nm (fun x6 e6 => ok_some ⟨?_, ?_, ?_⟩))))
      · dsimp only
        rw [e6, nI_1]
      · simp only [toB]
        rw [← List.append_assoc]
        exact h6.1
      · exact r2.tr h6.2
    · rintro ⟨σ5, x⟩ ⟨rfl, r1, r2⟩
      unfold lb_Mo_runs_130
      exact ok_t (nI_le (Nat.le_refl _) (by omega)) (ok_some ⟨r1, r2⟩)
    · rintro σ42 x43 ⟨r1, r2⟩
      refine ok_b3 (h164 σ42 ?_ r2) (fun σ60 x61 x62 hq => ok_some ⟨hq.1, hq.2.1, by omega, fa.tr (hq.2.2.mono (fun f i k z => by omega))⟩)
      unfold SW
      rw [if_neg ha, ← List.append_assoc]
      exact r1
