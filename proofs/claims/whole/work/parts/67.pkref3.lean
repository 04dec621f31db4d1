/-! ===== packages, the reference: the whole ===== -/
theorem s_mo282 {σ : St} {m c s l : Nat} {w : Nat → Int64} {o : Nat → Nat} (hc : c ≤ 12) (hs : s ≤ 64) (hm : m ≤ 64) (hm1 : 1 ≤ m) (hl1 : 1 ≤ l) (hl : l ≤ 15) (hQ : RQ σ m w o (l - 1)) (ho : ∀ i, i < m → o i < s) (hw : 2 * m - 2 ≤ sz m (l - 1)) (h54 : ∀ q p, q < l → p < 128 → σ.1 54 0 (128 * q + p) = if q + 1 = l ∧ p < 2 * m - 2 then 1 else 0) (h50 : ∀ y, y < s → σ.1 50 0 (64 * c + y) = 0) : ok (lpE (fun q => lb_Mo_packages_282 (nI (64 * c)) q.1 q.2) (σ, nI (l - 1))) (fun q => (∀ y, y < s → q.1.1 50 0 (64 * c + y) = nI (gb (rN m w) o l (2 * m - 2) (fun _ => 0) y)) ∧ fr (fun f _ k => f = 54 ∨ (f = 50 ∧ 64 * c ≤ k ∧ k < 64 * c + s)) σ q.1) := by
  have hsz : ∀ r, sz m r < 128 := fun r => by have := sz_lt hm1 r; omega
  refine ok_lp (fun r q => r ≤ l ∧ q.2 = nI r - 1 ∧ ∃ v L, (1 ≤ r → v ≤ sz m (r - 1)) ∧ (∀ y, y < s → q.1.1 50 0 (64 * c + y) = nI (L y)) ∧ (∀ q' p, q' < r → p < 128 → q.1.1 54 0 (128 * q' + p) = if q' + 1 = r ∧ p < v then 1 else 0) ∧ gb (rN m w) o r v L = gb (rN m w) o l (2 * m - 2) (fun _ => 0) ∧ fr (fun f _ k => f = 54 ∨ (f = 50 ∧ 64 * c ≤ k ∧ k < 64 * c + s)) σ q.1) ?_ l _ ⟨Nat.le_refl _, by obtain ⟨l', rfl⟩ : ∃ r, l = r + 1 := ⟨l - 1, by omega⟩; exact (nI_pred l').symm, 2 * m - 2, fun _ => 0, fun _ => hw, h50, h54, rfl, fr.rf⟩
  rintro r ⟨σ2, x⟩ ⟨hr, rfl, v, L, hv, q1, q2, q3, q4⟩
  dsimp only at q1 q2 q4 ⊢
  unfold lb_Mo_packages_282
  rcases r with _ | r
  · refine ok_t (by decide) (ok_some ⟨?_, q4⟩)
    rw [← q3]
    exact q1
  · have hv' : v ≤ sz m r := hv (by omega)
    have hszr := hsz r
    rw [nI_pred]
    have hQ' : ∀ σ3 : St, fr (fun f _ k => f = 54 ∨ (f = 50 ∧ 64 * c ≤ k ∧ k < 64 * c + s)) σ σ3 → RQ σ3 m w o r := by
      intro σ3 f3
      refine ⟨fun q hq k hk => ?_, fun q hq => ?_, fun q hq k hk => ?_⟩
      · rw [(f3.1 52 0 (128 * q + k) (by omega)).2.1]; exact hQ.1 q (by omega) k hk
      · rw [f3.i (by omega)]; exact hQ.2.1 q (by omega)
      · rw [f3.i (by omega)]; exact hQ.2.2 q (by omega) k hk
    refine ok_f (nI_pos (by omega)) (ok_b2 (Q := fun q => BK σ q.1 m c s w o L r v (sz m r)) (ok_up (sz m r) (fun n q => q.2 = nI n ∧ BK σ q.1 m c s w o L r v n) ?_ ?_ 0 _ (Nat.zero_le _) ⟨rfl, fun y hy => ?_, fun p _ hp => ?_, fun q p hq hp => ?_, q4⟩) ?_)
    · rintro n ⟨σ3, x⟩ hn ⟨rfl, h3⟩
      exact (s_mo290 hc hs hm hm1 (by omega) (hQ' σ3 h3.2.2.2) ho hv' h3 hn).mono (fun z hz => by
        rcases z with z | z
        · exact hz
        · exact hz.elim)
    · rintro ⟨σ3, x⟩ ⟨rfl, h3⟩
      dsimp only at h3 ⊢
      unfold lb_Mo_packages_290
      rw [nI_cl (show r < 2 ^ 31 by omega), (hQ' σ3 h3.2.2.2).2.1 r (Nat.le_refl _)]
      exact ok_gd (nI_ib (by omega) (by omega)) (ok_t (nI_le (Nat.le_refl _) (by omega)) (ok_some h3))
    · dsimp only
      rw [Nat.zero_min, rN_0]
      exact q1 y hy
    · dsimp only
      rw [q2 r p (by omega) hp]
      by_cases z : p < v
      · rw [if_pos ⟨rfl, z⟩, if_pos z]
      · rw [if_neg (fun y => z y.2), if_neg z]
    · dsimp only
      rw [q2 q p (by omega) hp, if_neg (by omega), if_neg (by rw [Nat.zero_min]; omega)]
    · rintro σ40 x41 ⟨p1, p2, p3, p4⟩
      dsimp only at p1 p2 p3 p4
      rw [Nat.min_eq_right hv'] at p1 p3
      refine ok_nm (fun x42 e42 => ok_some ⟨r, by omega, by omega, ?_, 2 * (v - rN m w r v), upL L o (rN m w r v), fun h1 => ?_, p1, p3, ?_, p4⟩)
      · dsimp only
        rw [e42]
        exact (Int32.sub_eq_add_neg (nI r) 1).symm
      · obtain ⟨r', rfl⟩ : ∃ r', r = r' + 1 := ⟨r - 1, by omega⟩
        exact rN_pair hv'
      · rw [← q3]
        rfl
abbrev Fmp (c s : Nat) : Nat → Nat → Nat → Prop := fun f _ k => (52 ≤ f ∧ f ≤ 55) ∨ (f = 50 ∧ 64 * c ≤ k ∧ k < 64 * c + s)
theorem s_moPackages {σ : St} {g : Nat → Int32} {c s l : Nat} (hc : c ≤ 12) (hg : ∀ k, k < s → σ.1 56 0 k = g k) (hs : s ≤ 64) (hl1 : 1 ≤ l) (hl : l ≤ 15) (hw : ordm g s ≤ 2 ^ l) : ok (f_Mo_packages σ (nI c) (nI s) (nI l)) (fun σ1 => (∀ y, y < s → σ1.1 50 0 (64 * c + y) = nI (pkL g s l y) ∧ pkL g s l y ≤ 15) ∧ fr (Fmp c s) σ σ1) := by
  have hms := ordm_le g s
  have hol := ordo_lt g s
  unfold f_Mo_packages
  rw [show (64 : Int32) * nI c = nI (64 * c) from by show nI 64 * nI c = _; rw [pk_mul]]
  refine ok_nm (fun x1 e1 => ?_)
  rw [e1]
  refine ok_b3 (s_mo12 hc hg hs _) (fun σ11 x12 x13 h11 => ?_)
  obtain ⟨r1, r2, r3, r4⟩ := h11
  dsimp only at r1 r2 r3 r4
  rw [r1]
  have hfin : ∀ (P : Nat → Nat → Prop) (σ2 : St), (∀ y, y < s → σ2.1 50 0 (64 * c + y) = nI (pkL g s l y)) → fr (Fmp c s) σ σ2 → (∀ y, y < s → σ2.1 50 0 (64 * c + y) = nI (pkL g s l y) ∧ pkL g s l y ≤ 15) ∧ fr (Fmp c s) σ σ2 :=
    fun _ σ2 h1 h2 => ⟨fun y hy => ⟨h1 y hy, Nat.le_trans (pkL_le hl1 hw y) hl⟩, h2⟩
  refine ok_if (fun c1 => ?_) (fun c1 => ?_)
  · have c1' : 2 ≤ ordm g s := (nI_leI (a := 2) (by omega) (by omega)).mp c1
    have hszl := fun r => sz_lt (show 1 ≤ ordm g s by omega) r
    refine ok_gd (by decide) (ok_nm (fun σ14 e14 => ?_))
    have f14 : fr (Fmp c s) σ σ14 := by
      rw [e14]
      exact (r4.mono (fun f i k z => by omega)).tr (fr_sI (by omega))
    refine ok_b2 (Q := fun q => (∀ k, k < ordm g s → q.1.2.1 52 0 k = wof g (ordo g s) k) ∧ fr (fun f _ _ => f = 52) σ14 q.1) (ok_up (ordm g s) (fun n q => q.2 = nI n ∧ (∀ k, k < n → q.1.2.1 52 0 k = wof g (ordo g s) k) ∧ fr (fun f _ _ => f = 52) σ14 q.1) ?_ ?_ 0 _ (Nat.zero_le _) ⟨rfl, fun k hk => absurd hk (by omega), fr.rf⟩) ?_
    · rintro n ⟨σ15, x⟩ hn ⟨rfl, q1, q2⟩
      dsimp only at q1 q2 ⊢
      have g53 : σ15.1 53 0 n = nI (ordo g s n) := by rw [q2.i (by omega), e14, sI_f (by omega)]; exact r2 n hn
      have hlt := hol n hn
      have g56 : σ15.1 56 0 (ordo g s n) = g (ordo g s n) := by rw [q2.i (by omega), f14.i (by omega)]; exact hg _ (by omega)
      unfold lb_Mo_packages_162
      rw [nI_cl (show n < 2 ^ 31 by omega), g53, nI_cl (show ordo g s n < 2 ^ 31 by omega), g56]
      refine ok_f (nI_ge hn (by omega)) (ok_gd (nI_ib (by omega) (by omega)) (ok_gd (nI_ib (by omega) (by omega)) (ok_gd (nI_ib (by omega) (by omega)) (ok_nm (fun σ16 e16 => ok_nm (fun x17 e17 => ok_some ⟨?_, fun k hk => ?_, ?_⟩))))))
      · dsimp only
        rw [e17, nI_1]
      · dsimp only
        rw [e16]
        by_cases hkn : k = n
        · subst hkn
          rw [sL_at]
        · rw [sL_k hkn]
          exact q1 k (by omega)
      · rw [e16]
        exact q2.tr (fr_sL rfl)
    · rintro ⟨σ15, x⟩ ⟨rfl, q1, q2⟩
      unfold lb_Mo_packages_162
      exact ok_t (nI_le (Nat.le_refl _) (by omega)) (ok_some ⟨q1, q2⟩)
    · rintro σ17 x18 ⟨q1, q2⟩
      dsimp only at q1 q2
      have f17 : fr (Fmp c s) σ σ17 := f14.tr (q2.mono (fun f i k z => by omega))
      have hQ0 : RQ σ17 (ordm g s) (wof g (ordo g s)) (ordo g s) 0 := by
        refine ⟨fun q hq k hk => ?_, fun q hq => ?_, fun q hq k hk => ?_⟩
        · rw [Nat.le_zero.mp hq, Nat.mul_zero, Nat.zero_add] at *
          exact q1 k hk
        · rw [Nat.le_zero.mp hq, q2.i (by omega), e14]
          exact sI_at
        · rw [Nat.le_zero.mp hq] at *
          rw [Nat.mul_zero, Nat.zero_add, q2.i (by omega), e14, sI_f (by omega), r2 k hk]
          show _ = if k + 1 = k then _ else nI (ordo g s k)
          rw [if_neg (by omega)]
      have b50 : ∀ y, y < s → σ17.1 50 0 (64 * c + y) = 0 := fun y hy => by rw [q2.i (by omega), e14, sI_f (by omega)]; exact r3 y hy
      refine ok_b2 (Q := fun q => RQ q.1 (ordm g s) (wof g (ordo g s)) (ordo g s) (l - 1) ∧ fr (fun f _ _ => f = 52 ∨ f = 53 ∨ f = 55) σ17 q.1) (ok_up l (fun n q => q.2 = nI n ∧ 1 ≤ n ∧ RQ q.1 (ordm g s) (wof g (ordo g s)) (ordo g s) (n - 1) ∧ fr (fun f _ _ => f = 52 ∨ f = 53 ∨ f = 55) σ17 q.1) ?_ ?_ 1 _ hl1 ⟨rfl, Nat.le_refl _, hQ0, fr.rf⟩) ?_
      · rintro n ⟨σ18, x⟩ hn ⟨rfl, h1, p1, p2⟩
        dsimp only at p1 p2 ⊢
        obtain ⟨n, rfl⟩ : ∃ r, n = r + 1 := ⟨n - 1, by omega⟩
        unfold lb_Mo_packages_198
        refine ok_f (nI_ge hn (by omega)) (ok_b1 (s_join (by omega) (by omega) (by omega) p1) (fun σ19 h19 => ok_nm (fun x20 e20 => ok_some ⟨?_, ?_, ?_, ?_⟩)))
        · dsimp only
          rw [e20, nI_1]
        · omega
        · exact h19.1
        · exact p2.tr h19.2
      · rintro ⟨σ18, x⟩ ⟨rfl, h1, p1, p2⟩
        unfold lb_Mo_packages_198
        exact ok_t (nI_le (Nat.le_refl _) (by omega)) (ok_some ⟨p1, p2⟩)
      · rintro σ21 x22 ⟨p1, p2⟩
        dsimp only at p1 p2
        obtain ⟨l, rfl⟩ : ∃ r, l = r + 1 := ⟨l - 1, by omega⟩
        rw [Nat.add_sub_cancel] at p1
        have hwant := sz_want (show 1 ≤ l + 1 by omega) hw
        rw [Nat.add_sub_cancel] at hwant
        have hsl := hszl l
        rw [nI_pred, nI_128']
        refine ok_nm (fun x23 e23 => ?_)
        rw [e23]
        refine ok_b2 (Q := fun q => (∀ k, k < 1920 → q.1.1 54 0 k = if 128 * l ≤ k ∧ k < 128 * l + (2 * ordm g s - 2) then 1 else 0) ∧ fr (fun f _ _ => f = 54) σ21 q.1) (ok_up 1920 (fun n q => q.2 = nI n ∧ (∀ k, k < n → q.1.1 54 0 k = if 128 * l ≤ k ∧ k < 128 * l + (2 * ordm g s - 2) then 1 else 0) ∧ fr (fun f _ _ => f = 54) σ21 q.1) ?_ ?_ 0 _ (Nat.zero_le _) ⟨rfl, fun k hk => absurd hk (by omega), fr.rf⟩) ?_
        · rintro n ⟨σ24, x⟩ hn ⟨rfl, t1, t2⟩
          dsimp only at t1 t2 ⊢
          have hib : ib (nI n) 1920 := nI_ib hn (by omega)
          have hput : ∀ (b : Int32), b = (if 128 * l ≤ n ∧ n < 128 * l + (2 * ordm g s - 2) then 1 else 0) → ok (gd (ib (nI n) 1920) <| nm (sI σ24 54 0 n b) fun σ24 => nm (nI n + 1) fun x25 => (some (.inl (σ24, x25)) : Option ((St × Int32) ⊕ (St × Int32)))) (fun z => match z with | .inl q => q.2 = nI (n + 1) ∧ (∀ k, k < n + 1 → q.1.1 54 0 k = if 128 * l ≤ k ∧ k < 128 * l + (2 * ordm g s - 2) then 1 else 0) ∧ fr (fun f _ _ => f = 54) σ21 q.1 | .inr _ => False) := by
            intro b hb
            refine ok_gd hib (ok_nm (fun σ25 e25 => ok_nm (fun x26 e26 => ok_some ⟨?_, fun k hk => ?_, ?_⟩)))
            · dsimp only
              rw [e26, nI_1]
            · dsimp only
              rw [e25]
              by_cases hkn : k = n
              · subst hkn
                rw [sI_at, hb]
              · rw [sI_k hkn]
                exact t1 k (by omega)
            · rw [e25]
              exact t2.tr (fr_sI rfl)
          unfold lb_Mo_packages_230
          rw [nI_cl (show n < 2 ^ 31 by omega), nI_2x, nI_add, show nI (128 * l + 2 * ordm g s) - 2 = nI (128 * l + 2 * ordm g s - 2) from pk_sub (b := 2) (by omega)]
          refine ok_f (nI_ge (b := 1920) hn (by omega)) (ok_if (fun d1 => ?_) (fun d1 => ok_if (fun d2 => ?_) (fun d2 => ?_)))
          · have d1' := (nI_ltI (by omega) (by omega)).mp d1
            exact (hput 0 (by rw [if_neg (by omega)])).mono (fun z hz => by
              rcases z with z | z
              · exact hz
              · exact hz.elim)
          · have d2' := (nI_leI (by omega) (by omega)).mp d2
            exact (hput 0 (by rw [if_neg (by omega)])).mono (fun z hz => by
              rcases z with z | z
              · exact hz
              · exact hz.elim)
          · have d1' : ¬ n < 128 * l := fun z => d1 (nI_lt z (by omega))
            have d2' : ¬ 128 * l + 2 * ordm g s - 2 ≤ n := fun z => d2 (nI_le z (by omega))
            exact (hput 1 (by rw [if_pos ⟨by omega, by omega⟩])).mono (fun z hz => by
              rcases z with z | z
              · exact hz
              · exact hz.elim)
        · rintro ⟨σ24, x⟩ ⟨rfl, t1, t2⟩
          unfold lb_Mo_packages_230
          exact ok_t (nI_le (a := 1920) (Nat.le_refl _) (by omega)) (ok_some ⟨t1, t2⟩)
        · rintro σ30 x31 ⟨t1, t2⟩
          dsimp only at t1 t2
          refine ok_nm (fun x32 e32 => ?_)
          rw [e32]
          have hQ30 : RQ σ30 (ordm g s) (wof g (ordo g s)) (ordo g s) l := by
            refine ⟨fun q hq k hk => ?_, fun q hq => ?_, fun q hq k hk => ?_⟩
            · rw [(t2.1 52 0 (128 * q + k) (by omega)).2.1]; exact p1.1 q hq k hk
            · rw [t2.i (by omega)]; exact p1.2.1 q hq
            · rw [t2.i (by omega)]; exact p1.2.2 q hq k hk
          refine ok_b2 (s_mo282 (l := l + 1) hc hs (by omega) (by omega) hl1 hl (by rw [Nat.add_sub_cancel]; exact hQ30) (fun i hi => hol i hi) (by rw [Nat.add_sub_cancel]; exact hwant) (fun q p hq hp => ?_) (fun y hy => ?_)) (fun σ43 x44 h43 => ok_some (hfin (fun _ _ => True) σ43 (fun y hy => ?_) ?_))
          · rw [t1 _ (by omega)]
            by_cases z : q + 1 = l + 1 ∧ p < 2 * ordm g s - 2
            · rw [if_pos z, if_pos (by omega)]
            · rw [if_neg z, if_neg (by omega)]
          · rw [t2.i (by omega), p2.i (by omega)]
            exact b50 y hy
          · rw [h43.1 y hy]
            unfold pkL
            rw [if_neg (by omega)]
          · exact f17.tr ((p2.mono (fun f i k z => by omega)).tr ((t2.mono (fun f i k z => by omega)).tr (h43.2.mono (fun f i k z => by omega))))
  · have c1' : ordm g s < 2 := by
      have : ¬ 2 ≤ ordm g s := fun z => c1 (nI_le (a := 2) z (by omega))
      omega
    refine ok_b2 (Q := fun q => (∀ y, y < s → q.1.1 50 0 (64 * c + y) = nI (upL (fun _ => 0) (ordo g s) (ordm g s) y)) ∧ fr (Fmp c s) σ q.1) (ok_up (ordm g s) (fun n q => q.2 = nI n ∧ (∀ y, y < s → q.1.1 50 0 (64 * c + y) = nI (upL (fun _ => 0) (ordo g s) n y)) ∧ (∀ i, i < ordm g s → q.1.1 53 0 i = nI (ordo g s i)) ∧ fr (Fmp c s) σ q.1) ?_ ?_ 0 _ (Nat.zero_le _) ⟨rfl, r3, r2, r4.mono (fun f i k z => by omega)⟩) (fun σ47 x48 h47 => ok_some (hfin (fun _ _ => True) σ47 (fun y hy => ?_) h47.2))
    · rintro n ⟨σ44, x⟩ hn ⟨rfl, q1, q2, q3⟩
      dsimp only at q1 q2 q3 ⊢
      have hlt := hol n hn
      unfold lb_Mo_packages_121
      rw [nI_cl (show n < 2 ^ 31 by omega), q2 n hn, nI_add, nI_cl (show 64 * c + ordo g s n < 2 ^ 31 by omega)]
      refine ok_f (nI_ge hn (by omega)) (ok_gd (nI_ib (by omega) (by omega)) (ok_gd (nI_ib (by omega) (by omega)) (ok_nm (fun σ45 e45 => ok_nm (fun x46 e46 => ok_some ⟨?_, fun y hy => ?_, fun i hi => ?_, ?_⟩)))))
      · dsimp only
        rw [e46, nI_1]
      · dsimp only
        have n0 : n = 0 := by omega
        subst n0
        rw [e45]
        simp only [upL]
        by_cases hyo : y = ordo g s 0
        · subst hyo
          rw [sI_at, if_pos rfl]
          rfl
        · rw [sI_k (by omega), if_neg (fun z => hyo z.symm)]
          exact q1 y hy
      · dsimp only
        rw [e45, sI_f (by omega)]
        exact q2 i hi
      · rw [e45]
        exact q3.tr (fr_sI (by omega))
    · rintro ⟨σ44, x⟩ ⟨rfl, q1, q2, q3⟩
      unfold lb_Mo_packages_121
      exact ok_t (nI_le (Nat.le_refl _) (by omega)) (ok_some ⟨q1, q3⟩)
    · rw [h47.1 y hy]
      unfold pkL
      rw [if_pos c1']
