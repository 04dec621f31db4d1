/-! ===== RUNS read again, the reference ===== -/
theorem s_mr111 {σ : St} {n : Nat} {Lc : Nat → Nat} {B1 : List Bool} (hn : n ≤ 64) (hS : SR σ B1) (hL : LR σ 12 19 Lc) : ok (jn_Mo_readRuns_111 σ (nI n)) (UR n σ (rdR Lc n n 0 B1 F00)) := by
  unfold jn_Mo_readRuns_111
  have hLr : ∀ σ1 : St, fr (fun f _ k => (f = 48 ∧ k = 11) ∨ f = 60) σ σ1 → LR σ1 12 19 Lc := fun σ1 f1 => hL.go (f1.fi (fun _ => by omega)) (f1.fi (fun _ => by omega))
  refine ok_bs2 (Q := fun z => match z with | .inl q => UR n σ (rdR Lc n n 0 B1 F00) (q.1, 0) | .inr o => UR n σ (rdR Lc n n 0 B1 F00) o) (ok_lp (fun m q => ∃ i f B F, m = n - i ∧ i ≤ n ∧ n - i ≤ f ∧ q.2 = nI i ∧ SR q.1 B ∧ (∀ k, k < i → q.1.1 60 0 k = nI (F k) ∧ F k ≤ 15) ∧ rdR Lc n f i B F = rdR Lc n n 0 B1 F00 ∧ fr (fun f _ k => (f = 48 ∧ k = 11) ∨ f = 60) σ q.1) ?_ n _ ⟨0, n, B1, F00, rfl, Nat.zero_le _, Nat.le_refl _, rfl, hS, fun k hk => absurd hk (by omega), rfl, fr.rf⟩) (fun σ6 x7 hq => ok_some hq) (fun r hq => ok_some hq)
  rintro m ⟨σ2, x⟩ ⟨i, f, B, F, rfl, hi, hf, rfl, q1, q2, q3, q5⟩
  dsimp only at q1 q2 q5 ⊢
  generalize rdR Lc n n 0 B1 F00 = Z0 at q3 ⊢
  unfold lb_Mo_readRuns_114
  have hmo : ∀ σ3 : St, fr (fun f _ k => (f = 48 ∧ k = 11) ∨ f = 60) σ σ3 → fr Fur σ σ3 := fun σ3 f3 => f3.mono (fun f i k z => by omega)
  rcases Nat.lt_or_ge i n with hin | hin
  · obtain ⟨f, rfl⟩ : ∃ f', f = f' + 1 := ⟨f - 1, by omega⟩
    simp only [rdR] at q3
    rw [if_neg (by omega)] at q3
    have hdc := dec_cases (L := Lc) (s := 19) B 0 0 (Nat.le_refl _)
    refine ok_f (nI_ge hin (by omega)) (ok_b2 (s_taken (hLr σ2 q5) q1) (fun σ3 x4 h3 => ?_))
    obtain ⟨s1, s2, f3⟩ := h3
    dsimp only at s1 s2 f3
    have f3' : fr (fun f _ k => (f = 48 ∧ k = 11) ∨ f = 60) σ σ3 := q5.tr (f3.mono (fun f i k z => by omega))
    have hF3 : ∀ k, k < i → σ3.1 60 0 k = nI (F k) := fun k hk => by rw [f3.i (by omega)]; exact (q2 k hk).1
    generalize dec Lc 19 B 0 0 = D at *
    obtain ⟨D1, B2⟩ := D
    dsimp only at s1 s2 hdc q3 ⊢
    rw [s1]
    have err : ∀ (e : Int32) (σ4 : St) (B' : List Bool), e < 0 → SR σ4 B' → fr (fun f _ k => (f = 48 ∧ k = 11) ∨ f = 60) σ σ4 → (some e, B', F) = Z0 → UR n σ Z0 (σ4, e) := by
      intro e σ4 B' he p1 p2 p3
      rw [← p3]
      exact ⟨p1, fun e' he' => by cases he'; exact ⟨rfl, he⟩, fun z => absurd z (by simp), hmo σ4 p2⟩
    rcases hdc with rfl | rfl | ⟨c, hc, rfl⟩
    · rw [if_pos n104] at q3
      exact ok_f nn104 (ok_some (err (-104) σ3 B2 n104 s2 f3' q3))
    · rw [if_pos n105] at q3
      exact ok_f nn105 (ok_some (err (-105) σ3 B2 n105 s2 f3' q3))
    · rw [if_neg (nI_pos (by omega)), nI_cl (show c < 2 ^ 31 by omega)] at q3
      refine ok_t (nI_pos' (by omega)) ?_
      by_cases h16 : c < 16
      · rw [if_pos h16] at q3
        rw [nI_cl (show i < 2 ^ 31 by omega)]
        refine ok_f (nI_ge (b := 16) (by omega) (by omega)) (ok_gd (nI_ib (by omega) (by omega)) (ok_nm (fun σ10 e10 => ok_nm (fun x11 e11 => ok_some ⟨n - (i + 1), by omega, i + 1, f, B2, setF F i c, rfl, by omega, by omega, by dsimp only; rw [e11, nI_1], ?_, fun k hk => ?_, q3, ?_⟩))))
        · exact s2.go (by dsimp only; rw [e10, sI_f (by omega)]) (by dsimp only; rw [e10, sI_f (by omega)]) (by dsimp only; rw [e10, sI_fi (by omega)])
        · dsimp only
          rw [e10]
          unfold setF
          by_cases hki : k = i
          · subst hki
            rw [sI_at, if_pos rfl]
            exact ⟨rfl, by omega⟩
          · rw [sI_k hki, if_neg hki]
            exact ⟨hF3 k (by omega), (q2 k (by omega)).2⟩
        · rw [e10]
          exact f3'.tr (fr_sI (by omega))
      · rw [if_neg h16] at q3
        have he1 : 1 ≤ ebt c := by unfold ebt; split; omega; split <;> omega
        have he2 : ebt c ≤ 7 := by unfold ebt; split; omega; split <;> omega
        have hsh1 : 1 ≤ shr c := by unfold shr; split <;> omega
        have hsh2 : shr c ≤ 11 := by unfold shr; split <;> omega
        have h186 : ¬ (c = 16 ∧ (i = 0 ∨ F (i - 1) = 0)) → ok (jn_Mo_readRuns_186_2 (nI n) σ3 (nI i) (nI c)) (fun z => match (z : (St × Int32) ⊕ ((St × Int32) ⊕ (St × Int32))) with | .inl a' => ∃ n', n' < n - i ∧ ∃ i f B F, n' = n - i ∧ i ≤ n ∧ n - i ≤ f ∧ a'.2 = nI i ∧ SR a'.1 B ∧ (∀ k, k < i → a'.1.1 60 0 k = nI (F k) ∧ F k ≤ 15) ∧ rdR Lc n f i B F = Z0 ∧ fr (fun f _ k => (f = 48 ∧ k = 11) ∨ f = 60) σ a'.1 | .inr z => match z with | .inl q => UR n σ Z0 (q.1, 0) | .inr o => UR n σ Z0 o) := by
          intro hnb
          rw [if_neg hnb] at q3
          unfold jn_Mo_readRuns_186_2
          refine ok_b2e (e_extra hc) ?_
          rw [if_neg h16]
          refine ok_b2 (sr_num (n := ebt c) s2 he1 (by omega)) (fun σ22 x23 h22 => ?_)
          obtain ⟨h22a, h22b, f22⟩ := h22
          dsimp only at f22
          by_cases hl2 : B2.length < ebt c
          · rw [if_pos hl2] at q3
            cases h22a hl2
            exact ok_f nn104 (ok_some (err (-104) σ3 B2 n104 s2 f3' q3))
          rw [if_neg hl2] at q3
          obtain ⟨d1, d2, d3⟩ := h22b (by omega)
          dsimp only at d1 d2
          have hp : 2 ^ ebt c ≤ 2 ^ 7 := Nat.pow_le_pow_right (by omega) he2
          have f22' : fr (fun f _ k => (f = 48 ∧ k = 11) ∨ f = 60) σ σ22 := f3'.tr (f22.mono (fun f i k z => by omega))
          have hF22 : ∀ k, k < i → σ22.1 60 0 k = nI (F k) := fun k hk => by rw [f22.i (by omega)]; exact hF3 k hk
          rw [d2]
          generalize numL 0 (B2.take (ebt c)) = more at *
          generalize B2.drop (ebt c) = B3 at *
          have h220 : ok (jn_Mo_readRuns_220_3 (nI n) σ22 (nI i) (nI c) (nI more) (nI (shr c))) (fun z => match (z : (St × Int32) ⊕ ((St × Int32) ⊕ (St × Int32))) with | .inl a' => ∃ n', n' < n - i ∧ ∃ i f B F, n' = n - i ∧ i ≤ n ∧ n - i ≤ f ∧ a'.2 = nI i ∧ SR a'.1 B ∧ (∀ k, k < i → a'.1.1 60 0 k = nI (F k) ∧ F k ≤ 15) ∧ rdR Lc n f i B F = Z0 ∧ fr (fun f _ k => (f = 48 ∧ k = 11) ∨ f = 60) σ a'.1 | .inr z => match z with | .inl q => UR n σ Z0 (q.1, 0) | .inr o => UR n σ Z0 o) := by
            unfold jn_Mo_readRuns_220_3
            rw [nI_add, Nat.add_comm more]
            refine ok_nm (fun x24 e24 => ?_)
            rw [e24, nI_add]
            refine ok_if (fun d => ?_) (fun d => ok_some ?_)
            · have d' := (nI_leI (by omega) (by omega)).mp d
              rw [if_neg (by omega)] at q3
              have h255 : ∀ v, v = (if c = 16 then F (i - 1) else 0) → v ≤ 15 → ok (jn_Mo_readRuns_255_4 (nI n) σ22 (nI i) (nI (shr c + more)) (nI v)) (fun z => match (z : (St × Int32) ⊕ ((St × Int32) ⊕ (St × Int32))) with | .inl a' => ∃ n', n' < n - i ∧ ∃ i f B F, n' = n - i ∧ i ≤ n ∧ n - i ≤ f ∧ a'.2 = nI i ∧ SR a'.1 B ∧ (∀ k, k < i → a'.1.1 60 0 k = nI (F k) ∧ F k ≤ 15) ∧ rdR Lc n f i B F = Z0 ∧ fr (fun f _ k => (f = 48 ∧ k = 11) ∨ f = 60) σ a'.1 | .inr z => match z with | .inl q => UR n σ Z0 (q.1, 0) | .inr o => UR n σ Z0 o) := by
                intro v hv hv15
                unfold jn_Mo_readRuns_255_4
                rw [← hv] at q3
                refine ok_b3 (s_mr260 (F := F) (n := n) d' hn hF22) (fun σ28 x29 x30 h28 => ok_some ?_)
                obtain ⟨p1, p2, p3⟩ := h28
                dsimp only at p1 p2 p3
                refine ⟨n - (i + (shr c + more)), by omega, i + (shr c + more), f, B3, _, rfl, d', by omega, p1, d1.go (by dsimp only; rw [p3.i (by omega)]) (by dsimp only; rw [p3.i (by omega)]) (p3.fi (fun _ => by omega)), fun k hk => ⟨p2 k hk, filF_le (fun j hj => (q2 j hj).2) hv15 hk⟩, q3, f22'.tr (p3.mono (fun f i k z => Or.inr z))⟩
              refine ok_if (fun d2 => ?_) (fun d2 => (h255 0 ?_ (by omega)))
              · have d2' : c = 16 := (nI_eq (b := 16) (by omega) (by omega)).mp d2
                have hi0 : 0 < i := by omega
                have hFi := (q2 (i - 1) (by omega)).2
                rw [show nI i - 1 = nI (i - 1) from pk_sub (b := 1) (by omega), nI_cl (show i - 1 < 2 ^ 31 by omega), hF22 (i - 1) (by omega)]
                exact ok_gd (nI_ib (by omega) (by omega)) (h255 _ (by rw [if_pos d2']) hFi)
              · have d2' : ¬ c = 16 := fun z => d2 (by rw [z]; rfl)
                rw [if_neg d2']
            · have d' : ¬ i + (shr c + more) ≤ n := fun z => d (nI_le z (by omega))
              rw [if_pos (by omega)] at q3
              exact err (-105) σ22 B3 n105 d1 f22' q3
          refine ok_t (nI_pos' (by omega)) (ok_if (fun d => ?_) (fun d => ?_))
          · have d' : c = 18 := (nI_eq (b := 18) (by omega) (by omega)).mp d
            have : shr c = 11 := by unfold shr; rw [if_pos d']
            rw [this] at h220
            exact h220
          · have d' : ¬ c = 18 := fun z => d (by rw [z]; rfl)
            have : shr c = 3 := by unfold shr; rw [if_neg d']
            rw [this] at h220
            exact h220
        refine ok_t (nI_le (a := 16) (by omega) (by omega)) (ok_if (fun d => ok_if (fun d2 => ok_some ?_) (fun d2 => ?_)) (fun d => (h186 ?_).mono (fun z hz => by rcases z with z | z | z <;> exact hz)))
        · have d' : c = 16 := (nI_eq (b := 16) (by omega) (by omega)).mp d
          have d2' : i = 0 := (nI_eq (b := 0) (by omega) (by omega)).mp d2
          rw [if_pos ⟨d', Or.inl d2'⟩] at q3
          exact err (-105) σ3 B2 n105 s2 f3' q3
        · have d' : c = 16 := (nI_eq (b := 16) (by omega) (by omega)).mp d
          have d2' : ¬ i = 0 := fun z => d2 (by rw [z]; rfl)
          have hFi := (q2 (i - 1) (by omega)).2
          rw [show nI i - 1 = nI (i - 1) from pk_sub (b := 1) (by omega), nI_cl (show i - 1 < 2 ^ 31 by omega), hF3 (i - 1) (by omega)]
          refine ok_gd (nI_ib (by omega) (by omega)) (ok_if (fun d3 => ok_some ?_) (fun d3 => (h186 ?_).mono (fun z hz => by rcases z with z | z | z <;> exact hz)))
          · have d3' := (nI_eq (b := 0) (by omega) (by omega)).mp d3
            rw [if_pos ⟨d', Or.inr d3'⟩] at q3
            exact err (-105) σ3 B2 n105 s2 f3' q3
          · have d3' : ¬ F (i - 1) = 0 := fun z => d3 (by rw [z]; rfl)
            omega
        · have d' : ¬ c = 16 := fun z => d (by rw [z]; rfl)
          omega
  · have : i = n := by omega
    subst this
    have hz : rdR Lc i f i B F = (none, B, F) := by
      rcases f with _ | f
      · rfl
      · simp only [rdR]
        rw [if_pos (Nat.le_refl _)]
    rw [hz] at q3
    refine ok_t (nI_le (Nat.le_refl _) (by omega)) (ok_some ?_)
    dsimp only
    rw [← q3]
    exact ⟨q1, fun e he => absurd he (by simp), fun _ => ⟨rfl, fun i hi => (q2 i hi).1⟩, hmo σ2 q5⟩
theorem s_moReadRuns {σ : St} {n : Nat} {B0 : List Bool} (hn : n ≤ 64) (hS : SR σ B0) : ok (f_Mo_readRuns σ (nI n)) (UR n σ (rdA n 2 B0)) := by
  unfold f_Mo_readRuns rdA
  rw [if_neg (by decide)]
  refine ok_b2 (sr_num (n := 4) hS (by omega) (by omega)) (fun σ1 x2 h2 => ?_)
  obtain ⟨h2a, h2b, f2⟩ := h2
  dsimp only at f2
  by_cases hl : B0.length < 4
  · rw [if_pos hl]
    cases h2a hl
    exact ok_f nn104 (ok_some ⟨hS, fun e he => by cases he; exact ⟨rfl, n104⟩, fun z => absurd z (by simp), fr.rf⟩)
  rw [if_neg hl, if_neg (show ¬ (2 : Nat) = 1 by decide)]
  obtain ⟨c1, c2, c3⟩ := h2b (by omega)
  dsimp only at c1 c2
  rw [c2]
  generalize B0.drop 4 = B1 at *
  generalize numL 0 (B0.take 4) = u1 at *
  have h7 : ∀ m, (rdC (u1 + 4) 0 B1 F00).2.2 m ≤ 7 := fun m => rdC_le _ _ _ _ _ (fun _ => Nat.zero_le _)
  have f1 : fr Fur σ σ1 := f2.mono (fun f i k z => by omega)
  refine ok_t (nI_pos' (by omega)) (ok_b2 (Q := fun q => (∀ k, k < 64 → q.1.1 50 0 (64 * 12 + k) = 0) ∧ fr (fun f _ k => f = 50 ∧ 768 ≤ k) σ1 q.1) (ok_up 64 (fun e q => q.2 = nI e ∧ (∀ k, k < e → q.1.1 50 0 (64 * 12 + k) = 0) ∧ fr (fun f _ k => f = 50 ∧ 768 ≤ k) σ1 q.1) ?_ ?_ 0 _ (Nat.zero_le _) ⟨rfl, fun k hk => absurd hk (by omega), fr.rf⟩) ?_)
  · rintro e ⟨σ3, x⟩ he ⟨rfl, q1, q2⟩
    dsimp only at q1 q2 ⊢
    unfold lb_Mo_readRuns_14
    rw [i768, nI_cl (show 64 * 12 + e < 2 ^ 31 by omega)]
    refine ok_f (nI_ge (b := 64) he (by omega)) (ok_gd (nI_ib (by omega) (by omega)) (ok_nm (fun σ4 e4 => ok_nm (fun x5 e5 => ok_some ⟨by dsimp only; rw [e5, nI_1], fun k hk => ?_, ?_⟩))))
    · dsimp only
      rw [e4]
      by_cases hke : k = e
      · subst hke
        rw [sI_at]
      · rw [sI_k (by omega)]
        exact q1 k (by omega)
    · rw [e4]
      exact q2.tr (fr_sI (by omega))
  · rintro ⟨σ3, x⟩ ⟨rfl, q1, q2⟩
    unfold lb_Mo_readRuns_14
    exact ok_t (nI_le (a := 64) (Nat.le_refl _) (by omega)) (ok_some ⟨q1, q2⟩)
  rintro σ5 x6 ⟨q1, q2⟩
  dsimp only at q1 q2
  refine ok_gd (by decide) (ok_nm (fun σ7 e7 => ?_))
  have e7' : σ7 = sI σ5 49 0 12 19 := e7
  have f7 : fr Fur σ σ7 := by
    rw [e7']
    exact f1.tr ((q2.mono (fun f i k z => by omega)).tr (fr_sI (by omega)))
  have hS7 : SR σ7 B1 := c1.go (by rw [e7', sI_f (by omega), q2.i (by omega)]) (by rw [e7', sI_f (by omega), q2.i (by omega)]) (by rw [e7', sI_fi (by omega), q2.fi (fun _ => by omega)])
  refine ok_bs2 (s_moRuns48 (a1 := nI n) (u1 := u1) (by omega) hS7 (fun k hk => by rw [e7', sI_f (by omega)]; exact q1 k (by omega))) (fun σ14 x15 h14 => ?_) (fun r hr => ok_some ?_)
  · obtain ⟨p1, p2, p3, p4⟩ := h14
    dsimp only at p1 p2 p3 p4
    generalize rdC (u1 + 4) 0 B1 F00 = Z at *
    obtain ⟨Z1, B2, Lc⟩ := Z
    dsimp only at p1 p2 p3 h7 ⊢
    subst p1
    dsimp only
    have hL : LR σ14 12 19 Lc := by
      refine ⟨?_, by omega, by omega, fun k hk => ⟨p3 k hk, Nat.le_trans (h7 k) (by omega)⟩⟩
      rw [p4.i (by omega), e7', sI_at]
      rfl
    refine ok_b2 (e_moKind hL) (fun σ16 x17 hq => ?_)
    cases hq
    have fall : fr Fur σ σ14 := f7.tr (p4.mono (fun f i k z => by omega))
    have hkn : knd Lc 19 ≤ 4 := by
      unfold knd
      repeat' split
      all_goals omega
    have h111 := (s_mr111 hn p2 hL).mono (Q := UR n σ (rdR Lc n n 0 B2 F00)) (fun o ho => ⟨ho.1, ho.2.1, ho.2.2.1, fall.tr ho.2.2.2⟩)
    refine ok_if (fun d => ?_) (fun d => ok_if (fun d2 => ?_) (fun d2 => ok_some ?_))
    · have d' := (nI_eq (b := 1) (by omega) (by omega)).mp d
      rw [if_pos (Or.inl d')]
      exact h111
    · have d' := (nI_eq (b := 2) (by omega) (by omega)).mp d2
      rw [if_pos (Or.inr d')]
      exact h111
    · have d' : ¬ knd Lc 19 = 1 := fun z => d (by rw [z]; rfl)
      have d2' : ¬ knd Lc 19 = 2 := fun z => d2 (by rw [z]; rfl)
      rw [if_neg (by omega)]
      exact ⟨p2, fun e he => by cases he; exact ⟨rfl, n105⟩, fun z => absurd z (by simp), fall⟩
  · obtain ⟨e, p1, p2, p3, p4, p5⟩ := hr
    generalize rdC (u1 + 4) 0 B1 F00 = Z at *
    obtain ⟨Z1, B2, Lc⟩ := Z
    dsimp only at p1 p2 ⊢
    subst p1
    dsimp only
    exact ⟨p2, fun e' he => by cases he; exact ⟨p3, p4⟩, fun z => absurd z (by simp), f7.tr (p5.mono (fun f i k z => by omega))⟩
