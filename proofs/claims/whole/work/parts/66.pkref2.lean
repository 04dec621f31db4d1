/-! ===== packages, the reference: order, the way back, the whole ===== -/
abbrev F5053 : Nat → Nat → Nat → Prop := fun f _ _ => f = 50 ∨ f = 53
/-- the reference's ordering: symbols, lengths 0 -/
theorem s_mo12 {σ : St} {g : Nat → Int32} {c s : Nat} (hc : c ≤ 12) (hg : ∀ k, k < s → σ.1 56 0 k = g k) (hs : s ≤ 64) (a3 : Int32) : ok (lpE (fun q => lb_Mo_packages_12 (nI s) a3 (nI (64 * c)) q.1 q.2.1 q.2.2) (σ, 0, 0)) (fun q => q.2.1 = nI (ordm g s) ∧ (∀ i, i < ordm g s → q.1.1 53 0 i = nI (ordo g s i)) ∧ (∀ k, k < s → q.1.1 50 0 (64 * c + k) = 0) ∧ fr (fun f _ k => f = 53 ∨ (f = 50 ∧ 64 * c ≤ k ∧ k < 64 * c + s)) σ q.1) := by
  refine ok_up s (fun n q => q.2.2 = nI n ∧ q.2.1 = nI (ordm g n) ∧ (∀ i, i < ordm g n → q.1.1 53 0 i = nI (ordo g n i)) ∧ (∀ k, k < n → q.1.1 50 0 (64 * c + k) = 0) ∧ fr (fun f _ k => f = 53 ∨ (f = 50 ∧ 64 * c ≤ k ∧ k < 64 * c + s)) σ q.1) ?_ ?_ 0 _ (Nat.zero_le _) ⟨rfl, rfl, fun i hi => absurd hi (by simp [ordm]), fun k hk => absurd hk (by omega), fr.rf⟩
  · rintro n ⟨σ1, x, y⟩ hn ⟨rfl, rfl, q1, q2, q3⟩
    dsimp only at q1 q2 q3 ⊢
    have hmn := ordm_le g n
    unfold lb_Mo_packages_12
    rw [nI_add, nI_cl (show 64 * c + n < 2 ^ 31 by omega), nI_cl (show n < 2 ^ 31 by omega)]
    refine ok_f (nI_ge hn (by omega)) (ok_gd (nI_ib (by omega) (by omega)) (ok_nm (fun σ2 e2 => ok_gd (nI_ib (by omega) (by omega)) ?_)))
    have f2 : fr (fun f _ k => f = 53 ∨ (f = 50 ∧ 64 * c ≤ k ∧ k < 64 * c + s)) σ σ2 := by
      rw [e2]
      exact q3.tr (fr_sI (by omega))
    have gg : ∀ k, k < s → σ2.1 56 0 k = g k := fun k hk => by rw [f2.i (by omega)]; exact hg k hk
    have p50 : ∀ k, k < n + 1 → σ2.1 50 0 (64 * c + k) = 0 := fun k hk => by
      rw [e2]
      by_cases hkn : k = n
      · rw [hkn, sI_at]
      · rw [sI_k (by omega)]
        exact q2 k (by omega)
    have p53 : ∀ i, i < ordm g n → σ2.1 53 0 i = nI (ordo g n i) := fun i hi => by rw [e2, sI_f (by omega)]; exact q1 i hi
    rw [gg n hn]
    refine ok_if (fun hc => ok_nm (fun x3 e3 => ok_some ⟨?_, ?_, ?_, p50, f2⟩)) (fun hc => ?_)
    · dsimp only
      rw [e3, nI_1]
    · simp only [ordm]
      rw [if_pos hc]
    · simp only [ordm, ordo]
      rw [if_pos hc, if_pos hc]
      exact p53
    · refine ok_b2 (Q := fun q => q.2 = nI (pls g (ordo g n) (g n) (ordm g n)) ∧ (∀ i, i < pls g (ordo g n) (g n) (ordm g n) → q.1.1 53 0 i = nI (ordo g n i)) ∧ (∀ i, pls g (ordo g n) (g n) (ordm g n) < i → i ≤ ordm g n → q.1.1 53 0 i = nI (ordo g n (i - 1))) ∧ fr F53 σ2 q.1) (ok_lp (fun d q => d ≤ ordm g n ∧ q.2 = nI d ∧ pls g (ordo g n) (g n) (ordm g n) = pls g (ordo g n) (g n) d ∧ (∀ i, i < d → q.1.1 53 0 i = nI (ordo g n i)) ∧ (∀ i, d < i → i ≤ ordm g n → q.1.1 53 0 i = nI (ordo g n (i - 1))) ∧ fr F53 σ2 q.1) ?_ (ordm g n) _ ⟨Nat.le_refl _, rfl, rfl, p53, fun i h1 h2 => absurd h1 (by omega), fr.rf⟩) ?_
      · rintro d ⟨σ3, x⟩ ⟨hd, rfl, r0, r1, r2, r3⟩
        dsimp only at r1 r2 r3 ⊢
        unfold lb_Mo_packages_43
        rcases d with _ | d
        · refine ok_t (by decide) (ok_some ?_)
          rw [r0]
          exact ⟨rfl, r1, r2, r3⟩
        · have a1 := r1 d (by omega)
          have hlt := ordo_lt g n d (by omega)
          have hib : ib (nI d) 1920 := nI_ib (by omega) (by omega)
          have g1 : σ3.1 56 0 (ordo g n d) = g (ordo g n d) := by rw [r3.i (by omega)]; exact gg _ (by omega)
          have g2 : σ3.1 56 0 n = g n := by rw [r3.i (by omega)]; exact gg _ hn
          rw [nI_pred, nI_cl (show d < 2 ^ 31 by omega), a1, nI_cl (show d + 1 < 2 ^ 31 by omega), nI_cl (show ordo g n d < 2 ^ 31 by omega), nI_cl (show n < 2 ^ 31 by omega), g1, g2]
          refine ok_f (nI_nle (by omega) (by omega)) (ok_gd hib (ok_gd (nI_ib (by omega) (by omega)) (ok_gd (nI_ib (by omega) (by omega)) (ok_if (fun hc => ok_some ?_) (fun hc => ok_gd hib (ok_gd (nI_ib (by omega) (by omega)) (ok_nm (fun σ4 e4 => ok_nm (fun x5 e5 => ok_some ?_))))))))) 
          · have : pls g (ordo g n) (g n) (d + 1) = d + 1 := by simp only [pls]; rw [if_pos hc]
            rw [r0, this]
            exact ⟨rfl, r1, r2, r3⟩
          · have hp : pls g (ordo g n) (g n) (d + 1) = pls g (ordo g n) (g n) d := by simp only [pls]; rw [if_neg hc]
            refine ⟨d, by omega, by omega, ?_, by rw [r0, hp], fun i hi => ?_, fun i h1 h2 => ?_, ?_⟩
            · rw [e5]; exact pk_m1 d
            · dsimp only
              rw [e4, sI_k (show i ≠ d + 1 by omega)]
              exact r1 i (by omega)
            · dsimp only
              rw [e4]
              by_cases hi : i = d + 1
              · subst hi
                rw [sI_at]
                rfl
              · rw [sI_k hi]
                exact r2 i (by omega) h2
            · rw [e4]
              exact r3.tr (fr_sI rfl)
      · rintro σ6 x7 ⟨rfl, r1, r2, r3⟩
        dsimp only at r1 r2 r3 ⊢
        have hp := pls_le g (ordo g n) (g n) (ordm g n)
        generalize hpp : pls g (ordo g n) (g n) (ordm g n) = p at *
        rw [nI_cl (by omega)]
        refine ok_gd (nI_ib (by omega) (by omega)) (ok_nm (fun σ8 e8 => ok_nm (fun x9 e9 => ok_nm (fun x10 e10 => ok_some ⟨?_, ?_, fun i hi => ?_, fun k hk => ?_, ?_⟩))))
        · dsimp only
          rw [e10, nI_1]
        · dsimp only
          simp only [ordm]
          rw [if_neg hc, e9, nI_1]
        · simp only [ordm] at hi
          rw [if_neg hc] at hi
          simp only [ordo]
          rw [if_neg hc, e8, hpp]
          simp only [ins]
          by_cases c1 : i < p
          · rw [if_pos c1, sI_k (show i ≠ p by omega)]
            exact r1 i c1
          · rw [if_neg c1]
            by_cases c2 : i = p
            · subst c2
              rw [if_pos rfl, sI_at]
            · rw [if_neg c2, sI_k c2]
              exact r2 i (by omega) (by omega)
        · dsimp only
          rw [e8, sI_f (by omega), r3.i (by omega)]
          exact p50 k hk
        · rw [e8]
          exact f2.tr ((r3.mono (fun f i k z => Or.inl z)).tr (fr_sI (Or.inl rfl)))
  · rintro ⟨σ1, x, y⟩ ⟨rfl, rfl, q1, q2, q3⟩
    unfold lb_Mo_packages_12
    exact ok_t (nI_le (Nat.le_refl _) (by omega)) (ok_some ⟨rfl, q1, q2, q3⟩)
/-- one row on the way back: k of row r are done -/
def BK (σ0 σ : St) (m c s : Nat) (w : Nat → Int64) (o L : Nat → Nat) (r v k : Nat) : Prop := (∀ y, y < s → σ.1 50 0 (64 * c + y) = nI (upL L o (rN m w r (min k v)) y)) ∧ (∀ p, k ≤ p → p < 128 → σ.1 54 0 (128 * r + p) = if p < v then 1 else 0) ∧ (∀ q p, q < r → p < 128 → σ.1 54 0 (128 * q + p) = if q + 1 = r ∧ p < 2 * (min k v - rN m w r (min k v)) then 1 else 0) ∧ fr (fun f _ k => f = 54 ∨ (f = 50 ∧ 64 * c ≤ k ∧ k < 64 * c + s)) σ0 σ
theorem min_s {k v : Nat} : min (k + 1) v = if k < v then k + 1 else v := by
  split <;> omega
theorem s_mo290 {σ0 σ : St} {m c s r v k : Nat} {w : Nat → Int64} {o L : Nat → Nat} (hc : c ≤ 12) (hs : s ≤ 64) (hm : m ≤ 64) (hm1 : 1 ≤ m) (hr : r < 15) (hQ : RQ σ m w o r) (ho : ∀ i, i < m → o i < s) (hv : v ≤ sz m r) (h : BK σ0 σ m c s w o L r v k) (hk : k < sz m r) : ok (lb_Mo_packages_290 (nI (64 * c)) (nI r) σ (nI k)) (fun z => match z with | .inl q => q.2 = nI (k + 1) ∧ BK σ0 q.1 m c s w o L r v (k + 1) | .inr _ => False) := by
  obtain ⟨h50, h54, h54b, hf⟩ := h
  have hz := sz_lt hm1 r
  have h53 := hQ.2.2 r (Nat.le_refl _) k hk
  have a54 := h54 k (Nat.le_refl _) (by omega)
  have hib : ib (nI (128 * r + k)) 1920 := nI_ib (by omega) (by omega)
  have hst := rN_step m w r k
  obtain ⟨hl1, hl2⟩ := rN_le (w := w) (show k + 1 ≤ sz m r by omega)
  obtain ⟨hk1, hk2⟩ := rN_le (w := w) (show k ≤ sz m r by omega)
  unfold lb_Mo_packages_290
  rw [nI_cl (show r < 2 ^ 31 by omega), hQ.2.1 r (Nat.le_refl _)]
  refine ok_gd (nI_ib hr (by omega)) (ok_f (nI_ge hk (by omega)) (ok_nm (fun x33 e33 => ?_)))
  rw [nI_128] at e33
  rw [e33, nI_cl (show 128 * r + k < 2 ^ 31 by omega), h53, a54]
  by_cases hsy : rN m w r (k + 1) = rN m w r k
  · rw [if_pos hsy]
    rcases r with _ | r
    · exact absurd hsy (by show ¬ k + 1 = k; omega)
    · have hpair := rN_pair (w := w) (show k + 1 ≤ sz m (r + 1) by omega)
      rw [hsy] at hpair
      have hzr := sz_lt hm1 r
      have hx : (128 : Int32) * (nI (r + 1) - 1) + nI (1000 + 2 * (k - rN m w (r + 1) k)) - 1000 = nI (128 * r + 2 * (k - rN m w (r + 1) k)) := by
        rw [nI_pred, nI_128, show (1000 : Int32) = nI 1000 from rfl, pk_sub (by omega)]
        exact congrArg nI (by omega)
      refine ok_gd hib (ok_t (nI_le (a := 1000) (by omega) (by omega)) (ok_gd hib (ok_nm (fun x34 e34 => ?_))))
      rw [hx] at e34
      have hp2 : 2 * (k - rN m w (r + 1) k) + 1 < 128 := by omega
      have hib2 : ib (nI (128 * r + 2 * (k - rN m w (r + 1) k))) 1920 := nI_ib (by omega) (by omega)
      have hib3 : ib (nI (128 * r + 2 * (k - rN m w (r + 1) k) + 1)) 1920 := nI_ib (by omega) (by omega)
      rw [e34, nI_1, nI_cl (show 128 * r + 2 * (k - rN m w (r + 1) k) < 2 ^ 31 by omega), nI_cl (show 128 * r + 2 * (k - rN m w (r + 1) k) + 1 < 2 ^ 31 by omega)]
      refine ok_gd hib2 (ok_gd hib (ok_gd hib2 (ok_nm (fun σ35 e35 => ok_gd hib3 (ok_gd hib (ok_gd hib3 (ok_nm (fun σ36 e36 => ok_nm (fun x37 e37 => ok_some ⟨?_, ?_⟩)))))))))
      · dsimp only
        rw [e37, nI_1]
      · dsimp only
        generalize hj : k - rN m w (r + 1) k = j at *
        have b0 := h54b r (2 * j) (by omega) (by omega)
        have b1 := h54b r (2 * j + 1) (by omega) (by omega)
        have b2 : σ35.1 54 0 (128 * r + 2 * j + 1) = σ.1 54 0 (128 * r + (2 * j + 1)) := by rw [e35, sI_k (by omega)]; rfl
        have b3 : σ35.1 54 0 (128 * (r + 1) + k) = σ.1 54 0 (128 * (r + 1) + k) := by rw [e35, sI_k (by omega)]
        rw [b2, b3, a54, b1] at e36
        rw [b0] at e35
        refine ⟨fun y hy => ?_, fun p hp hp2 => ?_, fun q p hq hp => ?_, ?_⟩
        · rw [e36, sI_f (by omega), e35, sI_f (by omega), h50 y hy, min_s]
          rcases Nat.lt_or_ge k v with z | z
          · rw [if_pos z, hsy, Nat.min_eq_left (by omega)]
          · rw [if_neg (by omega), Nat.min_eq_right (by omega)]
        · rw [e36, sI_k (by omega), e35, sI_k (by omega)]
          exact h54 p (by omega) hp2
        · rw [e36]
          have hmin : min (k + 1) v - rN m w (r + 1) (min (k + 1) v) = min k v - rN m w (r + 1) (min k v) + (if k < v then 1 else 0) := by
            rw [min_s]
            rcases Nat.lt_or_ge k v with z | z
            · rw [if_pos z, if_pos z, hsy, Nat.min_eq_left (by omega)]
              omega
            · rw [if_neg (by omega), if_neg (by omega), Nat.min_eq_right (by omega)]; rfl
          rw [hmin]
          have hold := h54b q p hq hp
          by_cases hq1 : q = r
          · subst hq1
            have hja : k < v → min k v - rN m w (q + 1) (min k v) = j := fun z => by rw [Nat.min_eq_left (by omega)]; exact hj
            generalize min k v - rN m w (q + 1) (min k v) = a at *
            by_cases hp1 : p = 2 * j + 1
            · subst hp1
              rw [show 128 * q + (2 * j + 1) = 128 * q + 2 * j + 1 by omega, sI_at]
              by_cases z : k < v
              · rw [if_pos z, if_pos z, hja z, if_neg (by omega), if_pos ⟨rfl, by omega⟩]; decide
              · simp only [if_neg z, Nat.add_zero]
                split <;> decide
            · rw [sI_k (by omega), e35]
              by_cases hp0 : p = 2 * j
              · subst hp0
                rw [sI_at]
                by_cases z : k < v
                · rw [if_pos z, if_pos z, hja z, if_neg (by omega), if_pos ⟨rfl, by omega⟩]; decide
                · simp only [if_neg z, Nat.add_zero]
                  split <;> decide
              · rw [sI_k (by omega), hold]
                by_cases z : k < v
                · rw [if_pos z, hja z]
                  by_cases zz : p < 2 * j
                  · rw [if_pos ⟨rfl, zz⟩, if_pos ⟨rfl, by omega⟩]
                  · rw [if_neg (by omega), if_neg (by omega)]
                · simp only [if_neg z, Nat.add_zero]
          · rw [sI_k (by omega), e35, sI_k (by omega), hold, if_neg (by omega), if_neg (by omega)]
        · rw [e36, e35]
          exact hf.tr ((fr_sI (by omega)).tr (fr_sI (by omega)))
  · rw [if_neg hsy]
    have hst' : rN m w r (k + 1) = rN m w r k + 1 := by omega
    have hos := ho (rN m w r k) (by omega)
    have hib2 : ib (nI (64 * c + o (rN m w r k))) 832 := nI_ib (by omega) (by omega)
    rw [nI_add, nI_cl (show 64 * c + o (rN m w r k) < 2 ^ 31 by omega), h50 _ hos]
    refine ok_gd hib (ok_f (nI_ge (b := 1000) (by omega) (by omega)) (ok_gd hib (ok_gd hib2 (ok_gd hib (ok_gd hib2 (ok_nm (fun σ38 e38 => ok_nm (fun x39 e39 => ok_some ⟨?_, ?_⟩))))))))
    · dsimp only
      rw [e39, nI_1]
    · dsimp only
      refine ⟨fun y hy => ?_, fun p hp hp2 => ?_, fun q p hq hp => ?_, ?_⟩
      · rw [e38, min_s]
        rcases Nat.lt_or_ge k v with z | z
        · rw [if_pos z, if_pos z, hst', Nat.min_eq_left (by omega)]
          simp only [upL]
          by_cases hyo : y = o (rN m w r k)
          · subst hyo
            rw [sI_at, if_pos rfl, nI_1]
          · rw [sI_k (by omega), if_neg (fun z => hyo z.symm), Nat.add_zero, h50 y hy, Nat.min_eq_left (by omega)]
        · rw [if_neg (show ¬ k < v by omega), if_neg (show ¬ k < v by omega), Nat.min_eq_right (by omega)]
          by_cases hyo : y = o (rN m w r k)
          · subst hyo
            rw [sI_at]
            exact nI_add _ 0
          · rw [sI_k (by omega), h50 y hy, Nat.min_eq_right (by omega)]
      · rw [e38, sI_f (by omega)]
        exact h54 p (by omega) hp2
      · rw [e38, sI_f (by omega), h54b q p hq hp]
        have hmin : min (k + 1) v - rN m w r (min (k + 1) v) = min k v - rN m w r (min k v) := by
          rw [min_s]
          rcases Nat.lt_or_ge k v with z | z
          · rw [if_pos z, hst', Nat.min_eq_left (by omega)]
            omega
          · rw [if_neg (by omega), Nat.min_eq_right (by omega)]
        rw [hmin]
      · rw [e38]
        exact hf.tr (fr_sI (by omega))
