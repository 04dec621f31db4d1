/-! ===== packages, the class: the way back, the whole ===== -/
abbrev F42 (j : Nat) : Nat → Nat → Nat → Prop := fun f i _ => f = 42 ∧ i = j
theorem s_goBack {σ : St} {m l j s : Nat} {w : Nat → Int64} {o : Nat → Nat} (hP : PKs σ) (hm : m ≤ 64) (hm1 : 2 ≤ m) (hl1 : 1 ≤ l) (hl : l ≤ 15) (hw : m ≤ 2 ^ l) (h : RS σ m w (l - 1)) (ho : ∀ i, i < m → σ.1 6 0 i = nI (o i) ∧ o i < s) (hs : s ≤ 64) (h0 : ∀ k, k < 64 → σ.1 42 j k = 0) : ok (f_Packages_goBack σ (nI l) 42 j 64) (fun σ1 => (∀ k, k < 64 → σ1.1 42 j k = nI (gb (rN m w) o l (2 * m - 2) (fun _ => 0) k)) ∧ fr (F42 j) σ σ1) := by
  obtain ⟨h5, h7, h9, h10, h12⟩ := h
  unfold f_Packages_goBack
  obtain ⟨l, rfl⟩ : ∃ r, l = r + 1 := ⟨l - 1, by omega⟩
  rw [Nat.add_sub_cancel] at *
  have hwant := sz_want (show 1 ≤ l + 1 by omega) hw
  rw [Nat.add_sub_cancel] at hwant
  have hsz : ∀ r, sz m r < 128 := fun r => by have := sz_lt (show 1 ≤ m by omega) r; omega
  rw [h5, nI_2x, nI_pred, show nI (2 * m) - 2 = nI (2 * m - 2) from pk_sub (b := 2) (by omega)]
  refine ok_nm (fun x1 e1 => ok_nm (fun x2 e2 => ?_))
  rw [e1, e2]
  refine ok_b3 (Q := fun q => (∀ k, k < 64 → q.1.1 42 j k = nI (gb (rN m w) o (l + 1) (2 * m - 2) (fun _ => 0) k)) ∧ fr (F42 j) σ q.1) (ok_lp (fun r q => r ≤ l + 1 ∧ q.2.2 = nI r - 1 ∧ ∃ v L, q.2.1 = nI v ∧ (1 ≤ r → v ≤ sz m (r - 1)) ∧ (∀ k, k < 64 → q.1.1 42 j k = nI (L k)) ∧ gb (rN m w) o r v L = gb (rN m w) o (l + 1) (2 * m - 2) (fun _ => 0) ∧ fr (F42 j) σ q.1) ?_ (l + 1) _ ⟨Nat.le_refl _, (nI_pred l).symm, 2 * m - 2, fun _ => 0, rfl, fun _ => hwant, fun k hk => h0 k hk, rfl, fr.rf⟩) (fun σ15 x16 x17 q => ok_some q)
  rintro r ⟨σ2, x, y⟩ ⟨hr, rfl, v, L, rfl, hv, q1, q2, q3⟩
  dsimp only at q1 q3 ⊢
  unfold lb_Packages_goBack_14
  rcases r with _ | r
  · refine ok_t (by decide) (ok_some ⟨?_, q3⟩)
    rw [← q2]
    exact q1
  · have hv' : v ≤ sz m r := hv (by omega)
    have hszr := hsz r
    rw [nI_pred]
    refine ok_f (nI_pos (by omega)) (ok_b3 (Q := fun q => q.1 = σ2 ∧ q.2.1 = nI (rN m w r v)) (ok_up v (fun n q => q.1 = σ2 ∧ q.2.1 = nI (rN m w r n) ∧ q.2.2 = nI n) ?_ ?_ 0 _ (Nat.zero_le _) ⟨rfl, by rw [rN_0]; rfl, rfl⟩) ?_)
    · rintro n ⟨σ3, x, y⟩ hn ⟨rfl, rfl, rfl⟩
      dsimp only
      have g10 : σ3.1 10 0 r = nI (sz m r) := by rw [q3.i (by omega)]; exact h10 r (by omega)
      have g12 : σ3.1 12 r n = nI (rN m w r (n + 1) - rN m w r n) := by rw [q3.i (by omega)]; exact h12 r (by omega) n (by omega)
      have gP := hP.go (q3.ri (fun _ => by omega)) (q3.ri (fun _ => by omega))
      have hir : ib (nI r) 15 := nI_ib (by omega) (by omega)
      unfold lb_Packages_goBack_25
      rw [nI_cl (show r < 2 ^ 31 by omega), g10, nI_cl (show n < 2 ^ 31 by omega)]
      refine ok_f (nI_ge hn (by omega)) (ok_gd hir (ok_f (nI_ge (by omega) (by omega)) (ok_gd hir (ok_on (gP.2 r (by omega)) (ok_gd (nI_ib (by omega) (by omega)) (ok_nm (fun x4 e4 => ok_nm (fun x5 e5 => ok_some ⟨rfl, ?_, ?_⟩))))))))
      · dsimp only
        have := rN_mono m w r (show n ≤ n + 1 by omega)
        rw [e4, g12, nI_add]
        congr 1
        omega
      · dsimp only
        rw [e5, nI_1]
    · rintro ⟨σ3, x, y⟩ ⟨rfl, rfl, rfl⟩
      unfold lb_Packages_goBack_25
      exact ok_t (nI_le (Nat.le_refl _) (by omega)) (ok_some ⟨rfl, rfl⟩)
    · rintro σ6 x7 x8 ⟨rfl, rfl⟩
      obtain ⟨hN1, hN2⟩ := rN_le (w := w) hv'
      refine ok_b2 (Q := fun q => (∀ k, k < 64 → q.1.1 42 j k = nI (upL L o (rN m w r v) k)) ∧ fr (F42 j) σ q.1) (ok_up (rN m w r v) (fun n q => q.2 = nI n ∧ (∀ k, k < 64 → q.1.1 42 j k = nI (upL L o n k)) ∧ fr (F42 j) σ q.1) ?_ ?_ 0 _ (Nat.zero_le _) ⟨rfl, q1, q3⟩) ?_
      · rintro n ⟨σ3, x⟩ hn ⟨rfl, p1, p2⟩
        dsimp only at p1 p2 ⊢
        obtain ⟨o1, o2⟩ := ho n (by omega)
        have g6 : σ3.1 6 0 n = nI (o n) := by rw [p2.i (by omega)]; exact o1
        have hio : ib (nI (o n)) 64 := nI_ib (by omega) (by omega)
        unfold lb_Packages_goBack_67
        rw [nI_cl (show n < 2 ^ 31 by omega), g6, nI_cl (show o n < 2 ^ 31 by omega), p1 (o n) (by omega), nI_1]
        refine ok_f (nI_ge hn (by omega)) (ok_gd (nI_ib (by omega) (by omega)) (ok_gd hio (ok_gd hio (ok_nm (fun σ9 e9 => ok_nm (fun x10 e10 => ok_some ⟨?_, fun k hk => ?_, ?_⟩))))))
        · dsimp only
          rw [e10, nI_1]
        · dsimp only
          rw [e9]
          simp only [upL]
          by_cases hko : k = o n
          · subst hko
            rw [sI_at, if_pos rfl]
          · rw [sI_k hko, if_neg (fun z => hko z.symm), Nat.add_zero]
            exact p1 k hk
        · rw [e9]
          exact p2.tr (fr_sI ⟨rfl, rfl⟩)
      · rintro ⟨σ3, x⟩ ⟨rfl, p1, p2⟩
        unfold lb_Packages_goBack_67
        exact ok_t (nI_le (Nat.le_refl _) (by omega)) (ok_some ⟨p1, p2⟩)
      · rintro σ11 x12 ⟨p1, p2⟩
        dsimp only at p1 p2
        rw [pk_sub hN1, nI_2x]
        refine ok_nm (fun x13 e13 => ok_nm (fun x14 e14 => ok_some ?_))
        refine ⟨r, by omega, by omega, ?_, 2 * (v - rN m w r v), upL L o (rN m w r v), e13, fun h1 => ?_, p1, ?_, p2⟩
        · dsimp only
          rw [e14]
          exact (Int32.sub_eq_add_neg (nI r) 1).symm
        · obtain ⟨r', rfl⟩ : ∃ r', r = r' + 1 := ⟨r - 1, by omega⟩
          exact rN_pair hv'
        · rw [← q2]
          rfl
abbrev Fpk (j : Nat) : Nat → Nat → Nat → Prop := fun f i k => (f = 5 ∧ k = 2) ∨ f = 6 ∨ f = 7 ∨ f = 9 ∨ f = 10 ∨ f = 12 ∨ (i = j ∧ ((42 ≤ f ∧ f ≤ 47) ∨ (f = 41 ∧ 7 ≤ k ∧ k ≤ 10)))
theorem s_fit {σ : St} {g : Nat → Int32} {f i na l j s : Nat} (hP : PKs σ) (hj : σ.1 41 j 0 = nI s) (hs : s ≤ na) (hna : na ≤ 64) (hf : (13 ≤ f ∧ f ≤ 40) ∨ f = 2) (hg : ∀ k, k < s → σ.1 f i k = g k) (hl1 : 1 ≤ l) (hl : l ≤ 15) (hw : ordm g s ≤ 2 ^ l) : ok (f_Packages_fit σ f i na (nI l) j) (fun σ1 => CK σ1 j s (pkL g s l) ∧ fr (Fpk j) σ σ1) := by
  have hms := ordm_le g s
  unfold f_Packages_fit
  refine ok_b1 (s_fill (by omega) 0) (fun σ1 e1 => ?_)
  have f1 : fr (Fpk j) σ σ1 := by rw [e1]; exact fr_flI (fun _ => by omega)
  have a41 : σ1.1 41 j 0 = nI s := by rw [f1.i (by omega)]; exact hj
  have ag : ∀ k, k < s → σ1.1 f i k = g k := fun k hk => by rw [f1.i (by omega)]; exact hg k hk
  have a42 : ∀ k, k < 64 → σ1.1 42 j k = 0 := fun k hk => by rw [e1]; exact flI_at hk
  rw [a41]
  refine ok_b1 (s_order ag hs hna (by omega)) (fun σ2 h2 => ?_)
  obtain ⟨⟨b5, b6⟩, f2⟩ := h2
  have fa : fr (Fpk j) σ σ2 := f1.tr (f2.mono (fun f i k z => by omega))
  have b41 : σ2.1 41 j 0 = nI s := by rw [f2.i (by omega)]; exact a41
  have b42 : ∀ k, k < 64 → σ2.1 42 j k = 0 := fun k hk => by rw [f2.i (by omega)]; exact a42 k hk
  have hren : ∀ (σ3 : St), fr (Fpk j) σ σ3 → (∀ k, k < 64 → σ3.1 42 j k = nI (pkL g s l k)) → ok (f_Code_renumber σ3 j) (fun σ1 => CK σ1 j s (pkL g s l) ∧ fr (Fpk j) σ σ1) := by
    intro σ3 f3 h3
    refine (s_renumber (σ := σ3) (j := j) (s := s) (L := pkL g s l) ⟨by rw [f3.i (by omega)]; exact hj, by omega, fun k hk => ⟨h3 k (by omega), Nat.le_trans (pkL_le hl1 hw k) hl⟩⟩).mono (fun σ4 h4 => ⟨h4.1, f3.tr (h4.2.mono (fun f i k z => by omega))⟩)
  rw [b5]
  refine ok_if (fun c1 => ?_) (fun c1 => ok_if (fun c2 => ?_) (fun c2 => ?_))
  · have c1' : ordm g s = 1 := (nI_eq (b := 1) (by omega) (by omega)).mp c1
    obtain ⟨d1, -⟩ := b6 0 (by omega)
    have d2 := ordo_lt g s 0 (by omega)
    have d1' : σ2.1 6 0 (0 : Int32).toNatClampNeg = nI (ordo g s 0) := d1
    rw [d1', nI_cl (by omega)]
    refine ok_gd (by decide) (ok_gd (nI_ib (by omega) (by omega)) (ok_nm (fun σ11 e11 => ok_b1 (hren σ11 ?_ ?_) (fun σ12 h => ok_some h))))
    · rw [e11]
      exact fa.tr (fr_sI (by omega))
    · intro k hk
      rw [e11]
      unfold pkL
      rw [if_pos (by omega), c1']
      simp only [upL]
      by_cases hko : k = ordo g s 0
      · rw [hko, sI_at, if_pos rfl]; rfl
      · rw [sI_k hko, if_neg (fun z => hko z.symm)]
        exact b42 k hk
  · have c2' : ordm g s ≤ 1 := (nI_leI (b := 1) (by omega) (by omega)).mp c2
    have c0 : ordm g s = 0 := by
      rcases Nat.lt_or_ge (ordm g s) 1 with z | z
      · omega
      · exact absurd (by rw [show ordm g s = 1 by omega]; rfl) c1
    refine ok_b1 (hren σ2 fa ?_) (fun σ12 h => ok_some h)
    intro k hk
    unfold pkL
    rw [if_pos (by omega), c0]
    exact b42 k hk
  · have c2' : 2 ≤ ordm g s := by
      have : ¬ ordm g s ≤ 1 := fun z => c2 (nI_le (b := 1) z (by omega))
      omega
    have gP := hP.go (fa.ri (fun _ => by omega)) (fa.ri (fun _ => by omega))
    refine ok_b1 (s_makeFirstRow (w := wof g (ordo g s)) gP b5 (by omega) (fun i hi => by rw [(b6 i hi).2])) (fun σ4 h4 => ?_)
    refine ok_b2 (Q := fun q => RS q.1 (ordm g s) (wof g (ordo g s)) (l - 1) ∧ fr Frw σ2 q.1) (ok_up l (fun n q => q.2 = nI n ∧ 1 ≤ n ∧ RS q.1 (ordm g s) (wof g (ordo g s)) (n - 1) ∧ fr Frw σ2 q.1) ?_ ?_ 1 _ hl1 ⟨rfl, Nat.le_refl _, h4.1, h4.2⟩) ?_
    · rintro n ⟨σ5, x⟩ hn ⟨rfl, h1, q1, q2⟩
      dsimp only at q1 q2 ⊢
      obtain ⟨n, rfl⟩ : ∃ r, n = r + 1 := ⟨n - 1, by omega⟩
      have gP2 := gP.go (q2.ri (fun _ => by omega)) (q2.ri (fun _ => by omega))
      unfold lb_Packages_fit_55
      refine ok_f (nI_ge hn (by omega)) (ok_b1 (s_makeRow gP2 (by omega) (by omega) (by omega) q1) (fun σ6 h6 => ok_nm (fun x6 e6 => ok_some ⟨?_, ?_, ?_, ?_⟩)))
      · dsimp only
        rw [e6, nI_1]
      · omega
      · exact h6.1
      · exact q2.tr h6.2
    · rintro ⟨σ5, x⟩ ⟨rfl, h1, q1, q2⟩
      unfold lb_Packages_fit_55
      exact ok_t (nI_le (Nat.le_refl _) (by omega)) (ok_some ⟨q1, q2⟩)
    · rintro σ7 x8 ⟨q1, q2⟩
      dsimp only at q1 q2
      have gP2 := gP.go (q2.ri (fun _ => by omega)) (q2.ri (fun _ => by omega))
      refine ok_b1 (s_goBack gP2 (by omega) c2' hl1 hl hw q1 (o := ordo g s) (s := s) (j := j) (fun i hi => ⟨by rw [q2.i (by omega)]; exact (b6 i hi).1, ordo_lt g s i hi⟩) (by omega) (fun k hk => by rw [q2.i (by omega)]; exact b42 k hk)) (fun σ9 h9 => ok_b1 (hren σ9 ?_ ?_) (fun σ12 h => ok_some h))
      · exact fa.tr ((q2.mono (fun f i k z => by omega)).tr (h9.2.mono (fun f i k z => by omega)))
      · intro k hk
        rw [h9.1 k hk]
        unfold pkL
        rw [if_neg (by omega)]
