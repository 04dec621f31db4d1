/-! ===== the choice, reference ===== -/
theorem LR.go1 {σ σ1 : St} {c s : Nat} {L : Nat → Nat} (h : LR σ c s L) (h1 : σ1.1 49 0 c = σ.1 49 0 c) (h2 : ∀ k, k < s → σ1.1 50 0 (64 * c + k) = σ.1 50 0 (64 * c + k)) : LR σ1 c s L := ⟨h1.trans h.1, h.2.1, h.2.2.1, fun k hk => ⟨(h2 k hk).trans (h.2.2.2 k hk).1, (h.2.2.2 k hk).2⟩⟩
def chR (σ : St) (n U t G q : Nat) (T : Nat → Nat) : Prop := σ.1 48 0 29 = nI n ∧ σ.1 48 0 25 = nI U ∧ σ.1 48 0 26 = nI G ∧ σ.1 48 0 24 = nI t ∧ σ.1 48 0 23 = nI q ∧ ∀ k, k < n → σ.1 66 0 k = nI (T k)
theorem chR.go {σ σ1 : St} {n U t G q : Nat} {T : Nat → Nat} (h : chR σ n U t G q T) (h1 : ∀ k, 23 ≤ k → k ≤ 29 → σ1.1 48 0 k = σ.1 48 0 k) (h2 : σ1.1 66 0 = σ.1 66 0) : chR σ1 n U t G q T := by
  unfold chR at *
  rw [h1 29 (by omega) (by omega), h1 25 (by omega) (by omega), h1 26 (by omega) (by omega), h1 24 (by omega) (by omega), h1 23 (by omega) (by omega), h2]
  exact h
abbrev gcR (σ : St) (G : Nat) (gc : Nat → Nat) : Prop := ∀ g, g < G → σ.1 65 0 g = nI (gc g)
theorem s_mk12 {σ : St} {a1 v2 : Int32} : ok (lpE (fun q => lb_Mo_make_12 a1 v2 q.1 q.2) (σ, 0)) (fun q => (∀ x, x < 64 → q.1.1 56 0 x = 0) ∧ fr (Ffi 56 0) σ q.1) := by
  refine ok_up 64 (fun k q => q.2 = nI k ∧ (∀ x, x < k → q.1.1 56 0 x = 0) ∧ fr (Ffi 56 0) σ q.1) ?_ ?_ 0 _ (Nat.zero_le _) ⟨rfl, fun x hx => absurd hx (by omega), fr.rf⟩
  · rintro k ⟨σ2, x⟩ hk ⟨rfl, q1, q2⟩
    dsimp only at q1 q2 ⊢
    unfold lb_Mo_make_12
    rw [nI_cl (by omega)]
    refine ok_f (nI_ge (b := 64) hk (by omega)) (ok_gd (nI_ib (by omega) (by omega)) (ok_nm (fun σ3 e3 => ok_nm (fun x4 e4 => ok_some ⟨by dsimp only; rw [e4, nI_1], fun x hx => ?_, ?_⟩))))
    · dsimp only
      rw [e3]
      by_cases hxk : x = k
      · subst hxk
        rw [sI_at]
      · rw [sI_k hxk]
        exact q1 x (by omega)
    · rw [e3]
      exact q2.tr (fr_sI ⟨rfl, rfl⟩)
  · rintro ⟨σ2, x⟩ ⟨rfl, q1, q2⟩
    unfold lb_Mo_make_12
    exact ok_t (nI_le (a := 64) (Nat.le_refl _) (by omega)) (ok_some ⟨q1, q2⟩)
theorem s_mk80 {σ : St} {n U t G q k c v : Nat} {T gc : Nat → Nat} {a1 : Int32} (hN : chN n U t G T) (h : chR σ n U t G q T) (hgc : gcR σ G gc) (hlt : ∀ g, g < G → gc g < t) (hc : c < t) (hk : k < n) : ok (jn_Mo_make_80 a1 (nI c) σ (nI k) (nI (T k)) (nI v)) (fun z => ∃ σ1, z = .inl (σ1, nI (k + 1)) ∧ (∀ x, σ1.1 56 0 x = if x = T k then nI (v + (if gc (k / U) = c then 1 else 0)) else σ.1 56 0 x) ∧ fr (Ffi 56 0) σ σ1) := by
  obtain ⟨n1, n2, n3, n4, n5, n6, n7, n8, n9⟩ := hN
  have hT := n9 k hk
  have hkU : k / U < G := by
    rw [Nat.div_lt_iff_lt_mul (by omega)]
    omega
  have hgl := hlt _ hkU
  unfold jn_Mo_make_80
  rw [nI_cl (show T k < 2 ^ 31 by omega)]
  refine ok_gd (nI_ib hT (by omega)) (ok_nm (fun σ5 e5 => ?_))
  have f5 : fr (Ffi 56 0) σ σ5 := by rw [e5]; exact fr_sI ⟨rfl, rfl⟩
  rw [nI_cl (show k < 2 ^ 31 by omega), show σ5.1 66 0 k = nI (T k) by rw [f5.i (by omega)]; exact h.2.2.2.2.2 k hk, nI_cl (show T k < 2 ^ 31 by omega), show σ5.1 48 0 25 = nI U by rw [f5.i (by omega)]; exact h.2.1, nI_div (by omega) (by omega) (by omega), nI_cl (show k / U < 2 ^ 31 by omega), show σ5.1 65 0 (k / U) = nI (gc (k / U)) by rw [f5.i (by omega)]; exact hgc _ hkU, show σ5.1 56 0 (T k) = nI v by rw [e5, sI_at]]
  refine ok_gd (nI_ib (by omega) (by omega)) (ok_gd (nI_ib hT (by omega)) (ok_gd (nI_ne0 (by omega) (by omega)) (ok_gd (nI_ib (by omega) (by omega)) (ok_if (fun d => ok_gd (nI_ib hT (by omega)) (ok_nm (fun σ8 e8 => ok_nm (fun x9 e9 => ok_some ⟨σ8, by rw [e9, nI_1], fun x => ?_, ?_⟩)))) (fun d => ok_gd (nI_ib hT (by omega)) (ok_nm (fun σ8 e8 => ok_nm (fun x9 e9 => ok_some ⟨σ8, by rw [e9, nI_1], fun x => ?_, ?_⟩))))))))
  · have d' := (nI_eq (by omega) (by omega)).mp d
    rw [e8, if_pos d']
    by_cases hx : x = T k
    · subst hx
      rw [sI_at, if_pos rfl, nI_1]
    · rw [sI_k hx, if_neg hx, e5, sI_k hx]
  · rw [e8]
    exact f5.tr (fr_sI ⟨rfl, rfl⟩)
  · rw [e8, if_neg (show ¬ gc (k / U) = c from fun z => d (by rw [z]))]
    by_cases hx : x = T k
    · subst hx
      rw [sI_at, if_pos rfl]
      exact nI_add v 0
    · rw [sI_k hx, if_neg hx, e5, sI_k hx]
  · rw [e8]
    exact f5.tr (fr_sI ⟨rfl, rfl⟩)
theorem s_mk33 {σ : St} {n U t G q c : Nat} {T gc : Nat → Nat} {a1 : Int32} (hN : chN n U t G T) (h : chR σ n U t G q T) (hgc : gcR σ G gc) (hlt : ∀ g, g < G → gc g < t) (hc : c < t) (h56 : ∀ x, x < 64 → σ.1 56 0 x = 0) : ok (lpE (fun q => lb_Mo_make_33 a1 (nI c) q.1 q.2) (σ, 0)) (fun p => (∀ x, x < 64 → p.1.1 56 0 x = ofI T gc n U c x) ∧ fr (Ffi 56 0) σ p.1) := by
  have hN0 := hN
  obtain ⟨n1, n2, n3, n4, n5, n6, n7, n8, n9⟩ := hN
  refine ok_up n (fun k p => p.2 = nI k ∧ (∀ x, x < 64 → p.1.1 56 0 x = nI (prs T x k + oc T gc U c x k)) ∧ fr (Ffi 56 0) σ p.1) ?_ ?_ 0 _ (Nat.zero_le _) ⟨rfl, fun x hx => h56 x hx, fr.rf⟩
  · rintro k ⟨σ2, x⟩ hk ⟨rfl, q1, q2⟩
    dsimp only at q1 q2 ⊢
    have h' : chR σ2 n U t G q T := h.go (fun _ _ _ => q2.i (by omega)) (q2.fi (fun _ => by omega))
    have hgc' : gcR σ2 G gc := fun g hg => by rw [q2.i (by omega)]; exact hgc g hg
    have hT := n9 k hk
    have u1 := prs_le T (T k) k
    have u2 := prs_cnt T (T k) k
    have u3 := oc_le T gc U c (T k) k
    have u4 := cnt_le T (T k) k
    have fin : ∀ {v : Nat}, v = (if prs T (T k) k = 0 then 1 else prs T (T k) k + oc T gc U c (T k) k) → ∀ {z : (St × Int32) ⊕ (St × Int32)}, (∃ σ1, z = .inl (σ1, nI (k + 1)) ∧ (∀ x, σ1.1 56 0 x = if x = T k then nI (v + (if gc (k / U) = c then 1 else 0)) else σ2.1 56 0 x) ∧ fr (Ffi 56 0) σ2 σ1) → (match z with | .inl p => p.2 = nI (k + 1) ∧ (∀ x, x < 64 → p.1.1 56 0 x = nI (prs T x (k + 1) + oc T gc U c x (k + 1))) ∧ fr (Ffi 56 0) σ p.1 | .inr o => (∀ x, x < 64 → o.1.1 56 0 x = ofI T gc n U c x) ∧ fr (Ffi 56 0) σ o.1) := by
      rintro v hv z ⟨σ1, rfl, w1, w2⟩
      refine ⟨rfl, fun x hx => ?_, q2.tr w2⟩
      dsimp only
      rw [w1 x]
      simp only [prs, oc]
      by_cases hxt : x = T k
      · subst hxt
        rw [if_pos rfl, if_pos rfl, hv]
        refine congrArg nI ?_
        have e : (if T k = T k ∧ gc (k / U) = c then 1 else 0) = (if gc (k / U) = c then 1 else 0) := by
          by_cases y : gc (k / U) = c
          · rw [if_pos y, if_pos ⟨rfl, y⟩]
          · rw [if_neg y, if_neg (fun z => y z.2)]
        rw [e]
        split <;> omega
      · rw [if_neg hxt, if_neg (fun z => hxt z.symm), if_neg (fun z => hxt z.1.symm), q1 x hx, Nat.add_zero]
    unfold lb_Mo_make_33
    rw [h'.1, nI_cl (show k < 2 ^ 31 by omega), h'.2.2.2.2.2 k hk, nI_cl (show T k < 2 ^ 31 by omega), q1 (T k) hT]
    refine ok_f (nI_ge hk (by omega)) (ok_gd (nI_ib (by omega) (by omega)) (ok_gd (nI_ib (by omega) (by omega)) (ok_gd (nI_ib hT (by omega)) (ok_if (fun d => ?_) (fun d => ok_gd (nI_ib (by omega) (by omega)) (ok_gd (nI_ib hT (by omega)) ?_))))))
    · have d' := (nI_eq (b := 0) (by omega) (by omega)).mp d
      exact (s_mk80 (v := 1) hN0 h' hgc' hlt hc hk).mono (fun z hz => by have w := fin (v := 1) (by rw [if_pos (by omega)]) hz; rcases z with z | z <;> exact w)
    · have d' : ¬ prs T (T k) k + oc T gc U c (T k) k = 0 := fun z => d (by rw [z]; rfl)
      exact (s_mk80 hN0 h' hgc' hlt hc hk).mono (fun z hz => by have w := fin (v := prs T (T k) k + oc T gc U c (T k) k) (by rw [if_neg (by omega)]) hz; rcases z with z | z <;> exact w)
  · rintro ⟨σ2, x⟩ ⟨rfl, q1, q2⟩
    dsimp only at q1 q2 ⊢
    unfold lb_Mo_make_33
    rw [show σ2.1 48 0 29 = nI n by rw [q2.i (by omega)]; exact h.1]
    exact ok_t (nI_le (Nat.le_refl _) (by omega)) (ok_some ⟨q1, q2⟩)
abbrev Fm1 (q t : Nat) : Nat → Nat → Nat → Prop := fun f _ k => f = 56 ∨ (52 ≤ f ∧ f ≤ 55) ∨ (f = 50 ∧ 64 * q ≤ k ∧ k < 64 * (q + t))
abbrev Fm2 (q t : Nat) : Nat → Nat → Nat → Prop := fun f _ k => f = 56 ∨ f = 65 ∨ (52 ≤ f ∧ f ≤ 55) ∨ (f = 50 ∧ 64 * q ≤ k ∧ k < 64 * (q + t))
theorem s_moMake {σ : St} {n U t G l q : Nat} {T gc : Nat → Nat} (hN : chN n U t G T) (h : chR σ n U t G q T) (hgc : gcR σ G gc) (hlt : ∀ g, g < G → gc g < t) (hq : q + t ≤ 12) (h49 : ∀ c, c < t → σ.1 49 0 (q + c) = nI 64) (hl1 : 1 ≤ l) (hl : l ≤ 15) (hw : ordm (fun x => nI (cnt T x n)) 64 ≤ 2 ^ l) : ok (f_Mo_make σ (nI l)) (fun σ1 => (∀ c, c < t → LR σ1 (q + c) 64 (fLL T gc n U l c)) ∧ fr (Fm1 q t) σ σ1) := by
  have hN0 := hN
  obtain ⟨n1, n2, n3, n4, n5, n6, n7, n8, n9⟩ := hN
  unfold f_Mo_make
  refine ok_b2 (Q := fun p => (∀ c, c < t → LR p.1 (q + c) 64 (fLL T gc n U l c)) ∧ fr (Fm1 q t) σ p.1) (ok_up t (fun c p => p.2 = nI c ∧ (∀ c', c' < c → LR p.1 (q + c') 64 (fLL T gc n U l c')) ∧ fr (Fm1 q t) σ p.1) ?_ ?_ 0 _ (Nat.zero_le _) ⟨rfl, fun g hg => absurd hg (by omega), fr.rf⟩) (fun σ13 x14 hq => ok_some hq)
  · rintro c ⟨σ2, x⟩ hc ⟨rfl, q1, q2⟩
    dsimp only at q1 q2 ⊢
    unfold lb_Mo_make_2
    rw [show σ2.1 48 0 24 = nI t by rw [q2.i (by omega)]; exact h.2.2.2.1]
    refine ok_f (nI_ge hc (by omega)) (ok_b2 s_mk12 (fun σ3 x4 h3 => ?_))
    obtain ⟨p1, p2⟩ := h3
    dsimp only at p1 p2
    have f3 : fr (Fm1 q t) σ σ3 := q2.tr (p2.mono (fun f i k z => by omega))
    have h3 : chR σ3 n U t G q T := h.go (fun _ _ _ => f3.i (by omega)) (f3.fi (fun _ => by omega))
    have hgc3 : gcR σ3 G gc := fun g hg => by rw [f3.i (by omega)]; exact hgc g hg
    refine ok_b2 (s_mk33 hN0 h3 hgc3 hlt hc p1) (fun σ10 x11 h10 => ?_)
    obtain ⟨r1, r2⟩ := h10
    dsimp only at r1 r2
    have f10 : fr (Fm1 q t) σ σ10 := f3.tr (r2.mono (fun f i k z => by omega))
    rw [show σ10.1 48 0 23 = nI q by rw [f10.i (by omega)]; exact h.2.2.2.2.1, nI_add]
    refine ok_b1 (s_moPackages (g := ofI T gc n U c) (s := 64) (c := q + c) (by omega) r1 (Nat.le_refl _) hl1 hl (by rw [ordm_ofI n1]; exact hw)) (fun σ12 h12 => ok_nm (fun x13 e13 => ok_some ⟨by dsimp only; rw [e13, nI_1], fun c' hc' => ?_, ?_⟩))
    · dsimp only
      by_cases hcc : c' = c
      · subst hcc
        refine ⟨?_, by omega, by omega, h12.1⟩
        rw [h12.2.i (by omega), f10.i (by omega)]
        exact h49 c' hc
      · refine (((q1 c' (by omega)).go1 (p2.i (by omega)) (fun k hk => p2.i (by omega))).go1 (r2.i (by omega)) (fun k hk => r2.i (by omega))).go1 (h12.2.i (by omega)) (fun k hk => h12.2.i (by omega))
    · exact f10.tr (h12.2.mono (fun f i k z => by omega))
  · rintro ⟨σ2, x⟩ ⟨rfl, q1, q2⟩
    dsimp only at q1 q2 ⊢
    unfold lb_Mo_make_2
    rw [show σ2.1 48 0 24 = nI t by rw [q2.i (by omega)]; exact h.2.2.2.1]
    exact ok_t (nI_le (Nat.le_refl _) (by omega)) (ok_some ⟨q1, q2⟩)
theorem s_moBest {σ : St} {n U t G q g : Nat} {T : Nat → Nat} {LL : Nat → Nat → Nat} (hN : chN n U t G T) (h : chR σ n U t G q T) (hk : ∀ c, c < t → LR σ (q + c) 64 (LL c)) (hg : g < G) : ok (f_Mo_best σ (nI g)) (fun o => o = (σ, nI (rgc LL T n U t g))) := by
  have hN0 := hN
  obtain ⟨n1, n2, n3, n4, n5, n6, n7, n8, n9⟩ := hN
  obtain ⟨g1, g2⟩ := grpB hg n6 n3
  have g3 := n8 g hg
  have hgl : gln n U g = min ((g + 1) * U) n - g * U := rfl
  have hB : ∀ c, c < t → bcg LL T n U g c ≤ 15000 := fun c hc => by
    have := bts_le (L := LL c) (T := T) (a := g * U) (d := gln n U g) (fun i hi => ((hk c hc).2.2.2 _ (n9 _ (by omega))).2)
    show bts (LL c) T (g * U) (gln n U g) ≤ 15000
    omega
  unfold f_Mo_best
  show ok _ (fun o => o = (σ, nI (bs (bcg LL T n U g) (t - 1))))
  generalize hbb : bcg LL T n U g = b at hB ⊢
  refine ok_b4 (Q := fun p => p.1 = σ ∧ p.2.2.1 = nI (bs b (t - 1))) (ok_up t (fun c p => p.1 = σ ∧ p.2.2.2 = nI c ∧ (1 ≤ c → p.2.1 = nI (b (bs b (c - 1))) ∧ p.2.2.1 = nI (bs b (c - 1)))) ?_ ?_ 0 _ (Nat.zero_le _) ⟨rfl, rfl, fun z => absurd z (by omega)⟩) (fun σ12 x13 x14 x15 hq => ok_some ?_)
  · rintro c ⟨σ2, x2, x3, x4⟩ hc ⟨q1, q2, q3⟩
    dsimp only at q1 q2 q3 ⊢
    subst q1
    subst q2
    unfold lb_Mo_best_7
    rw [h.2.2.2.1, h.2.1, pk_mul]
    refine ok_f (nI_ge hc (by omega)) (ok_nm (fun x1 e1 => ?_))
    subst e1
    refine ok_b3 (Q := fun p => p.1 = σ2 ∧ p.2.1 = nI (b c)) (ok_up (gln n U g) (fun d p => p = (σ2, nI (bts (LL c) T (g * U) d), nI (g * U + d))) ?_ ?_ 0 _ (Nat.zero_le _) rfl) (fun σ6 x7 x8 h6 => ?_)
    · rintro d _ hd rfl
      dsimp only
      have hT := n9 (g * U + d) (by omega)
      unfold lb_Mo_best_27
      rw [h.1, nI_1, h.2.1, pk_mul, nI_cl (show g * U + d < 2 ^ 31 by omega), h.2.2.2.2.2 _ (show g * U + d < n by omega), h.2.2.2.2.1, nI_add]
      refine ok_f (nI_ge (by omega) (by omega)) (ok_f (nI_ge (by omega) (by omega)) (ok_gd (nI_ib (by omega) (by omega)) (ok_b2e (e_lengthOf (hk c hc) hT) ?_)))
      rw [nI_add, nI_1]
      exact ok_nm (fun x5 e5 => ok_nm (fun x6 e6 => ok_some (by rw [e5, e6]; rfl)))
    · rintro _ rfl
      dsimp only
      unfold lb_Mo_best_27
      rw [h.1, nI_1, h.2.1, pk_mul]
      have hfin : nI (bts (LL c) T (g * U) (gln n U g)) = nI (b c) := by rw [← hbb]
      rcases Nat.lt_or_ge (g * U + gln n U g) n with y | y
      · exact ok_f (nI_ge y (by omega)) (ok_t (nI_le (by omega) (by omega)) (ok_some ⟨rfl, hfin⟩))
      · exact ok_t (nI_le y (by omega)) (ok_some ⟨rfl, hfin⟩)
    · obtain ⟨h6, h7⟩ := h6
      dsimp only at h6 h7
      subst h6
      subst h7
      have hbc := hB c hc
      refine ok_if (fun d => ok_nm (fun x9 e9 => ok_some ⟨rfl, by dsimp only; rw [e9, nI_1], fun _ => ?_⟩)) (fun d => ?_)
      · have d' := (nI_eq (b := 0) (by omega) (by omega)).mp d
        subst d'
        exact ⟨rfl, rfl⟩
      · have d' : ¬ c = 0 := fun z => d (by rw [z]; rfl)
        obtain ⟨y1, y2⟩ := q3 (by omega)
        have hst : bs b (c + 1 - 1) = if b (bs b (c - 1)) ≤ b c then bs b (c - 1) else c := by
          rw [show c + 1 - 1 = (c - 1) + 1 by omega]
          simp only [bs]
          rw [show c - 1 + 1 = c by omega]
        have hbp := hB (bs b (c - 1)) (by have := bs_le b (c - 1); omega)
        rw [y1, y2]
        refine ok_if (fun d2 => ok_nm (fun x9 e9 => ok_some ⟨rfl, by dsimp only; rw [e9, nI_1], fun _ => ?_⟩)) (fun d2 => ok_nm (fun x9 e9 => ok_some ⟨rfl, by dsimp only; rw [e9, nI_1], fun _ => ?_⟩))
        · dsimp only
          rw [hst, if_pos ((nI_leI (by omega) (by omega)).mp d2)]
          exact ⟨rfl, rfl⟩
        · dsimp only
          rw [hst, if_neg (fun z => d2 (nI_le z (by omega)))]
          exact ⟨rfl, rfl⟩
  · rintro ⟨σ2, x2, x3, x4⟩ ⟨q1, q2, q3⟩
    dsimp only at q1 q2 q3 ⊢
    subst q1
    subst q2
    unfold lb_Mo_best_7
    rw [h.2.2.2.1]
    exact ok_t (nI_le (Nat.le_refl _) (by omega)) (ok_some ⟨rfl, (q3 n4).2⟩)
  · obtain ⟨q1, q2⟩ := hq
    dsimp only at q1 q2
    rw [q1, q2]
/-! the rounds -/
theorem s_mo289 {σ : St} {n U t G q : Nat} {T : Nat → Nat} {LL : Nat → Nat → Nat} {a3 a4 v5 : Int32} (hN : chN n U t G T) (h : chR σ n U t G q T) (hk : ∀ c, c < t → LR σ (q + c) 64 (LL c)) : ok (lpE (fun q => lb_Mo_choose_289 a3 a4 v5 q.1 q.2) (σ, 0)) (fun p => gcR p.1 G (rgc LL T n U t) ∧ fr (Ffi 65 0) σ p.1) := by
  have hN0 := hN
  obtain ⟨n1, n2, n3, n4, n5, n6, n7, n8, n9⟩ := hN
  refine ok_up G (fun g p => p.2 = nI g ∧ gcR p.1 g (rgc LL T n U t) ∧ fr (Ffi 65 0) σ p.1) ?_ ?_ 0 _ (Nat.zero_le _) ⟨rfl, fun g hg => absurd hg (by omega), fr.rf⟩
  · rintro g ⟨σ2, x⟩ hg ⟨rfl, q1, q2⟩
    dsimp only at q1 q2 ⊢
    have h' : chR σ2 n U t G q T := h.go (fun _ _ _ => q2.i (by omega)) (q2.fi (fun _ => by omega))
    unfold lb_Mo_choose_289
    rw [h'.2.2.1]
    refine ok_f (nI_ge hg (by omega)) (ok_b2 (s_moBest hN0 h' (fun c hc => (hk c hc).go (q2.fi (fun _ => by omega)) (q2.fi (fun _ => by omega))) hg) (fun σ1 x2 h1 => ?_))
    cases h1
    rw [nI_cl (show g < 2 ^ 31 by omega)]
    refine ok_gd (nI_ib (by omega) (by omega)) (ok_nm (fun σ11 e11 => ok_nm (fun x12 e12 => ok_some ⟨by dsimp only; rw [e12, nI_1], fun g' hg' => ?_, ?_⟩)))
    · dsimp only
      rw [e11]
      by_cases hgg : g' = g
      · subst hgg
        rw [sI_at]
      · rw [sI_k hgg]
        exact q1 g' (by omega)
    · rw [e11]
      exact q2.tr (fr_sI ⟨rfl, rfl⟩)
  · rintro ⟨σ2, x⟩ ⟨rfl, q1, q2⟩
    dsimp only at q1 q2 ⊢
    unfold lb_Mo_choose_289
    rw [show σ2.1 48 0 26 = nI G by rw [q2.i (by omega)]; exact h.2.2.1]
    exact ok_t (nI_le (Nat.le_refl _) (by omega)) (ok_some ⟨q1, q2⟩)
theorem s_moRounds {σ : St} {n U t G l q a : Nat} {T gc : Nat → Nat} (hN : chN n U t G T) (h : chR σ n U t G q T) (hgc : gcR σ G gc) (hlt : ∀ g, g < G → gc g < t) (hq : q + t ≤ 12) (h49 : ∀ c, c < t → σ.1 49 0 (q + c) = nI 64) (hl1 : 1 ≤ l) (hl : l ≤ 15) (hw : ordm (fun x => nI (cnt T x n)) 64 ≤ 2 ^ l) (ha : a ≤ 8) : ok (b2 (lpE (fun q => lb_Mo_choose_274 (nI l) (nI a) q.1 q.2) (σ, 0)) fun σ39 x40 => b1 (f_Mo_make σ39 (nI l)) fun σ41 => some (σ41, σ41.1 48 0 23)) (fun o => o.2 = nI q ∧ gcR o.1 G (itr T n U t l gc a) ∧ (∀ c, c < t → LR o.1 (q + c) 64 (fLL T (itr T n U t l gc a) n U l c)) ∧ fr (Fm2 q t) σ o.1) := by
  have hN0 := hN
  obtain ⟨n1, n2, n3, n4, n5, n6, n7, n8, n9⟩ := hN
  have hLt := itr_lt (T := T) (n := n) (U := U) (l := l) n4 hlt
  refine ok_b2 (Q := fun p => gcR p.1 G (itr T n U t l gc a) ∧ fr (Fm2 q t) σ p.1) (ok_up a (fun r p => p.2 = nI r ∧ gcR p.1 G (itr T n U t l gc r) ∧ fr (Fm2 q t) σ p.1) ?_ ?_ 0 _ (Nat.zero_le _) ⟨rfl, hgc, fr.rf⟩) ?_
  · rintro r ⟨σ2, x⟩ hra ⟨rfl, q1, q2⟩
    dsimp only at q1 q2 ⊢
    have h' : chR σ2 n U t G q T := h.go (fun _ _ _ => q2.i (by omega)) (q2.fi (fun _ => by omega))
    unfold lb_Mo_choose_274
    refine ok_f (nI_ge hra (by omega)) (ok_b1 (s_moMake hN0 h' q1 (hLt r) hq (fun c hc => by rw [q2.i (by omega)]; exact h49 c hc) hl1 hl hw) (fun σ1 h1 => ?_))
    obtain ⟨p1, p2⟩ := h1
    have f1 : fr (Fm2 q t) σ σ1 := q2.tr (p2.mono (fun f i k z => by omega))
    refine ok_b2 (s_mo289 (LL := fLL T (itr T n U t l gc r) n U l) hN0 (h'.go (fun _ _ _ => p2.i (by omega)) (p2.fi (fun _ => by omega))) p1) (fun σ4 x4 h4 => ok_nm (fun x3 e3 => ok_some ⟨by dsimp only; rw [e3, nI_1], h4.1, f1.tr (h4.2.mono (fun f i k z => by omega))⟩))
  · rintro ⟨σ2, x⟩ ⟨rfl, q1, q2⟩
    unfold lb_Mo_choose_274
    exact ok_t (nI_le (Nat.le_refl _) (by omega)) (ok_some ⟨q1, q2⟩)
  · rintro σ4 x5 ⟨q1, q2⟩
    dsimp only at q1 q2
    have h' : chR σ4 n U t G q T := h.go (fun _ _ _ => q2.i (by omega)) (q2.fi (fun _ => by omega))
    refine ok_b1 (s_moMake hN0 h' q1 (hLt a) hq (fun c hc => by rw [q2.i (by omega)]; exact h49 c hc) hl1 hl hw) (fun σ6 h6 => ok_some ⟨?_, fun g hg => ?_, h6.1, q2.tr (h6.2.mono (fun f i k z => by omega))⟩)
    · dsimp only
      rw [h6.2.i (by omega)]
      exact h'.2.2.2.2.1
    · dsimp only
      rw [h6.2.i (by omega)]
      exact q1 g hg
/-! the checks and the beginning -/
theorem s_ch51 {σ : St} {a1 a2 a3 a4 : Int32} : ok (lpE (fun q => lb_Mo_choose_51 a1 a2 a3 a4 q.1 q.2) (σ, 0)) (fun q => (∀ x, x < 64 → q.1.1 56 0 x = nI 0) ∧ fr (Ffi 56 0) σ q.1) := by
  refine ok_up 64 (fun k q => q.2 = nI k ∧ (∀ x, x < k → q.1.1 56 0 x = nI 0) ∧ fr (Ffi 56 0) σ q.1) ?_ ?_ 0 _ (Nat.zero_le _) ⟨rfl, fun x hx => absurd hx (by omega), fr.rf⟩
  · rintro k ⟨σ2, x⟩ hk ⟨rfl, q1, q2⟩
    dsimp only at q1 q2 ⊢
    unfold lb_Mo_choose_51
    rw [nI_cl (by omega)]
    refine ok_f (nI_ge (b := 64) hk (by omega)) (ok_gd (nI_ib (by omega) (by omega)) (ok_nm (fun σ3 e3 => ok_nm (fun x4 e4 => ok_some ⟨by dsimp only; rw [e4, nI_1], fun x hx => ?_, ?_⟩))))
    · dsimp only
      rw [e3]
      by_cases hxk : x = k
      · subst hxk
        rw [sI_at]
        rfl
      · rw [sI_k hxk]
        exact q1 x (by omega)
    · rw [e3]
      exact q2.tr (fr_sI ⟨rfl, rfl⟩)
  · rintro ⟨σ2, x⟩ ⟨rfl, q1, q2⟩
    unfold lb_Mo_choose_51
    exact ok_t (nI_le (a := 64) (Nat.le_refl _) (by omega)) (ok_some ⟨q1, q2⟩)
theorem s_ch75 {σ : St} {n : Nat} {T : Nat → Nat} {a1 a2 a3 a4 : Int32} (hT : TXr σ n T) (h56 : ∀ x, x < 64 → σ.1 56 0 x = nI 0) : ok (lpE (fun q => lb_Mo_choose_75 a1 a2 a3 a4 q.1 q.2) (σ, 0)) (fun q => (∀ x, x < 64 → q.1.1 56 0 x = nI (cnt T x n)) ∧ fr (Ffi 56 0) σ q.1) := by
  obtain ⟨t1, t2, t3⟩ := hT
  refine ok_up n (fun k q => q.2 = nI k ∧ (∀ x, x < 64 → q.1.1 56 0 x = nI (cnt T x k)) ∧ fr (Ffi 56 0) σ q.1) ?_ ?_ 0 _ (Nat.zero_le _) ⟨rfl, fun x hx => h56 x hx, fr.rf⟩
  · rintro k ⟨σ2, x⟩ hk ⟨rfl, q1, q2⟩
    dsimp only at q1 q2 ⊢
    obtain ⟨a1, a2⟩ := t3 k hk
    unfold lb_Mo_choose_75
    rw [show σ2.1 48 0 22 = nI n by rw [q2.i (by omega)]; exact t1, nI_cl (show k < 2 ^ 31 by omega), show σ2.1 64 0 k = nI (T k) by rw [q2.i (by omega)]; exact a1, nI_cl (show T k < 2 ^ 31 by omega), q1 (T k) a2, nI_1]
    refine ok_f (nI_ge hk (by omega)) (ok_gd (nI_ib (by omega) (by omega)) (ok_gd (nI_ib (by omega) (by omega)) (ok_gd (nI_ib (by omega) (by omega)) (ok_nm (fun σ3 e3 => ok_nm (fun x3 ex => ok_some ⟨by dsimp only; rw [ex, nI_1], fun x hx => ?_, ?_⟩))))))
    · dsimp only
      rw [e3]
      by_cases hxt : x = T k
      · subst hxt
        rw [sI_at]
        simp only [cnt, if_true]
      · rw [sI_k hxt, q1 x hx]
        simp only [cnt]
        rw [if_neg (fun z => hxt z.symm), Nat.add_zero]
    · rw [e3]
      exact q2.tr (fr_sI ⟨rfl, rfl⟩)
  · rintro ⟨σ2, x⟩ ⟨rfl, q1, q2⟩
    dsimp only at q1 q2 ⊢
    unfold lb_Mo_choose_75
    rw [show σ2.1 48 0 22 = nI n by rw [q2.i (by omega)]; exact t1]
    exact ok_t (nI_le (Nat.le_refl _) (by omega)) (ok_some ⟨q1, q2⟩)
theorem s_ch174 {σ : St} {n : Nat} {T : Nat → Nat} {a1 a2 a3 a4 : Int32} (hT : TXr σ n T) : ok (lpE (fun q => lb_Mo_choose_174 a1 a2 a3 a4 q.1 q.2) (σ, 0)) (fun q => (∀ k, k < n → q.1.1 66 0 k = nI (T k)) ∧ fr (Ffi 66 0) σ q.1) := by
  obtain ⟨t1, t2, t3⟩ := hT
  refine ok_up n (fun k q => q.2 = nI k ∧ (∀ i, i < k → q.1.1 66 0 i = nI (T i)) ∧ fr (Ffi 66 0) σ q.1) ?_ ?_ 0 _ (Nat.zero_le _) ⟨rfl, fun x hx => absurd hx (by omega), fr.rf⟩
  · rintro k ⟨σ2, x⟩ hk ⟨rfl, q1, q2⟩
    dsimp only at q1 q2 ⊢
    unfold lb_Mo_choose_174
    rw [show σ2.1 48 0 22 = nI n by rw [q2.i (by omega)]; exact t1, nI_cl (show k < 2 ^ 31 by omega), show σ2.1 64 0 k = nI (T k) by rw [q2.i (by omega)]; exact (t3 k hk).1]
    refine ok_f (nI_ge hk (by omega)) (ok_gd (nI_ib (by omega) (by omega)) (ok_gd (nI_ib (by omega) (by omega)) (ok_nm (fun σ3 e3 => ok_nm (fun x3 ex => ok_some ⟨by dsimp only; rw [ex, nI_1], fun x hx => ?_, ?_⟩)))))
    · dsimp only
      rw [e3]
      by_cases hxt : x = k
      · subst hxt
        rw [sI_at]
      · rw [sI_k hxt]
        exact q1 x (by omega)
    · rw [e3]
      exact q2.tr (fr_sI ⟨rfl, rfl⟩)
  · rintro ⟨σ2, x⟩ ⟨rfl, q1, q2⟩
    dsimp only at q1 q2 ⊢
    unfold lb_Mo_choose_174
    rw [show σ2.1 48 0 22 = nI n by rw [q2.i (by omega)]; exact t1]
    exact ok_t (nI_le (Nat.le_refl _) (by omega)) (ok_some ⟨q1, q2⟩)
theorem s_ch220 {σ : St} {t G : Nat} {a3 a4 : Int32} (ht : t ≤ 6) (hG : G ≤ 1000) (h26 : σ.1 48 0 26 = nI G) : ok (lpE (fun q => lb_Mo_choose_220 (nI t) a3 a4 q.1 q.2) (σ, 0)) (fun p => gcR p.1 G (gc0 t G) ∧ fr (Ffi 65 0) σ p.1) := by
  refine ok_up G (fun g p => p.2 = nI g ∧ gcR p.1 g (gc0 t G) ∧ fr (Ffi 65 0) σ p.1) ?_ ?_ 0 _ (Nat.zero_le _) ⟨rfl, fun g hg => absurd hg (by omega), fr.rf⟩
  · rintro g ⟨σ6, x⟩ hg ⟨rfl, q1, q2⟩
    dsimp only at q1 q2 ⊢
    have hm : g * t ≤ 1000 * 6 := Nat.mul_le_mul (by omega) ht
    have h6 : σ6.1 48 0 26 = nI G := by rw [q2.i (by omega)]; exact h26
    unfold lb_Mo_choose_220
    rw [h6]
    refine ok_f (nI_ge hg (by omega)) (ok_b2e (σ := σ6) (a := nI (g * t / G)) ?_ ?_)
    · unfold f_Mo_groupOf
      rw [h6, gd_t (nI_ne0 (by omega) (by omega)), pk_mul, nI_div (by omega) (by omega) (by omega)]
    · rw [nI_cl (show g < 2 ^ 31 by omega)]
      refine ok_gd (nI_ib (by omega) (by omega)) (ok_nm (fun σ7 e7 => ok_nm (fun x8 e8 => ok_some ⟨by dsimp only; rw [e8, nI_1], fun g' hg' => ?_, ?_⟩)))
      · dsimp only
        rw [e7]
        by_cases hgg : g' = g
        · subst hgg
          rw [sI_at]
        · rw [sI_k hgg]
          exact q1 g' (by omega)
      · rw [e7]
        exact q2.tr (fr_sI ⟨rfl, rfl⟩)
  · rintro ⟨σ6, x⟩ ⟨rfl, q1, q2⟩
    dsimp only at q1 q2 ⊢
    unfold lb_Mo_choose_220
    rw [show σ6.1 48 0 26 = nI G by rw [q2.i (by omega)]; exact h26]
    exact ok_t (nI_le (Nat.le_refl _) (by omega)) (ok_some ⟨q1, q2⟩)
abbrev Fmd (q s : Nat) : Nat → Nat → Nat → Prop := fun f _ k => (f = 49 ∧ k = q) ∨ (f = 50 ∧ 64 * q ≤ k ∧ k < 64 * q + 64) ∨ (f = 48 ∧ k = 1 ∧ s = s)
theorem s_moMade {σ : St} {q s : Nat} (hq : q < 12) (hs6 : s ≤ 64) (h1 : σ.1 48 0 1 = nI q) : ok (f_Mo_made σ (nI s)) (fun o => o.2 = nI q ∧ o.1.1 48 0 1 = nI (q + 1) ∧ LR o.1 q s (fun _ => 0) ∧ fr (Fmd q s) σ o.1) := by
  unfold f_Mo_made
  rw [h1]
  refine ok_nm (fun x1 e1 => ?_)
  subst e1
  rw [nI_cl (show q < 2 ^ 31 by omega)]
  refine ok_gd (nI_ib (by omega) (by omega)) (ok_nm (fun σ2 e2 => ?_))
  have f2 : fr (Fmd q s) σ σ2 := by rw [e2]; exact fr_sI (by omega)
  refine ok_b2 (Q := fun p => (∀ k, k < 64 → p.1.1 50 0 (64 * q + k) = 0) ∧ fr (fun f _ k => f = 50 ∧ 64 * q ≤ k ∧ k < 64 * q + 64) σ2 p.1) (ok_up 64 (fun k p => p.2 = nI k ∧ (∀ i, i < k → p.1.1 50 0 (64 * q + i) = 0) ∧ fr (fun f _ k => f = 50 ∧ 64 * q ≤ k ∧ k < 64 * q + 64) σ2 p.1) ?_ ?_ 0 _ (Nat.zero_le _) ⟨rfl, fun x hx => absurd hx (by omega), fr.rf⟩) (fun σ5 x6 h5 => ?_)
  · rintro k ⟨σ3, x⟩ hk ⟨rfl, q1, q2⟩
    dsimp only at q1 q2 ⊢
    unfold lb_Mo_made_14
    rw [i64, nI_cl (show 64 * q + k < 2 ^ 31 by omega)]
    refine ok_f (nI_ge (b := 64) hk (by omega)) (ok_gd (nI_ib (by omega) (by omega)) (ok_nm (fun σ4 e4 => ok_nm (fun x4 e5 => ok_some ⟨by dsimp only; rw [e5, nI_1], fun x hx => ?_, ?_⟩))))
    · dsimp only
      rw [e4]
      by_cases hxk : x = k
      · subst hxk
        rw [sI_at]
      · rw [sI_k (by omega)]
        exact q1 x (by omega)
    · rw [e4]
      exact q2.tr (fr_sI (by omega))
  · rintro ⟨σ3, x⟩ ⟨rfl, q1, q2⟩
    unfold lb_Mo_made_14
    exact ok_t (nI_le (a := 64) (Nat.le_refl _) (by omega)) (ok_some ⟨q1, q2⟩)
  · obtain ⟨q1, q2⟩ := h5
    dsimp only at q1 q2
    rw [show σ5.1 48 0 1 = nI q by rw [q2.i (by omega), e2, sI_f (by omega)]; exact h1, nI_1]
    refine ok_nm (fun σ7 e7 => ok_some ⟨rfl, by rw [e7, sI_at], ⟨?_, hs6, by omega, fun k hk => ⟨?_, Nat.zero_le _⟩⟩, ?_⟩)
    · dsimp only
      rw [e7, sI_f (by omega), q2.i (by omega), e2, sI_at]
    · dsimp only
      rw [e7, sI_f (by omega)]
      exact q1 k (by omega)
    · rw [e7]
      exact (f2.tr (q2.mono (fun f i k z => by omega))).tr (fr_sI (by omega))
abbrev Fmt (q t : Nat) : Nat → Nat → Nat → Prop := fun f _ k => (f = 49 ∧ q ≤ k ∧ k < q + t) ∨ (f = 50 ∧ 64 * q ≤ k ∧ k < 64 * (q + t)) ∨ (f = 48 ∧ k = 1)
theorem s_ch252 {σ : St} {q t : Nat} {a3 a4 : Int32} (hq : q + t ≤ 12) (h1 : σ.1 48 0 1 = nI q) : ok (lpE (fun q => lb_Mo_choose_252 (nI t) a3 a4 q.1 q.2) (σ, 0)) (fun p => p.1.1 48 0 1 = nI (q + t) ∧ (∀ c, c < t → p.1.1 49 0 (q + c) = nI 64) ∧ fr (Fmt q t) σ p.1) := by
  refine ok_up t (fun c p => p.2 = nI c ∧ p.1.1 48 0 1 = nI (q + c) ∧ (∀ c', c' < c → p.1.1 49 0 (q + c') = nI 64) ∧ fr (Fmt q t) σ p.1) ?_ ?_ 0 _ (Nat.zero_le _) ⟨rfl, h1, fun g hg => absurd hg (by omega), fr.rf⟩
  · rintro c ⟨σ2, x⟩ hc ⟨rfl, q1, q2, q3⟩
    dsimp only at q1 q2 q3 ⊢
    unfold lb_Mo_choose_252
    refine ok_f (nI_ge hc (by omega)) (ok_b2 (s_moMade (q := q + c) (s := 64) (by omega) (by omega) q1) (fun σ3 x3 h3 => ok_nm (fun x4 e4 => ok_some ⟨by dsimp only; rw [e4, nI_1], h3.2.1, fun c' hc' => ?_, q3.tr (h3.2.2.2.mono (fun f i k z => by omega))⟩)))
    by_cases hcc : c' = c
    · subst hcc
      exact h3.2.2.1.1
    · exact (h3.2.2.2.i (by omega)).trans (q2 c' (by omega))
  · rintro ⟨σ2, x⟩ ⟨rfl, q1, q2, q3⟩
    unfold lb_Mo_choose_252
    exact ok_t (nI_le (Nat.le_refl _) (by omega)) (ok_some ⟨q1, q2, q3⟩)
