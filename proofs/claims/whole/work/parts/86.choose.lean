/-! ===== choose, reference, as a whole ===== -/
abbrev Fmc (q t : Nat) : Nat → Nat → Nat → Prop := fun f _ k => f = 56 ∨ f = 65 ∨ f = 66 ∨ (52 ≤ f ∧ f ≤ 55) ∨ (f = 50 ∧ 64 * q ≤ k ∧ k < 64 * (q + t)) ∨ (f = 49 ∧ q ≤ k ∧ k < q + t) ∨ (f = 48 ∧ (k = 1 ∨ k = 23 ∨ k = 24 ∨ k = 25 ∨ k = 26 ∨ k = 29))
theorem chN_of {n U t : Nat} {T : Nat → Nat} (hn : n ≤ 1000) (hn1 : 1 ≤ n) (hU : 1 ≤ U) (hU2 : U ≤ 100) (ht : 1 ≤ t) (ht2 : t ≤ 6) (hT : ∀ k, k < n → T k < 64) : chN n U t ((n + U - 1) / U) T := by
  obtain ⟨g1, g2, g3, g4⟩ := grpN hU hn1 rfl
  exact ⟨hn, hU, hU2, ht, ht2, by omega, g1, g2, hT⟩
theorem s_moChoose {σ : St} {n q U t l a : Nat} {T : Nat → Nat} (hT : TXr σ n T) (h1 : σ.1 48 0 1 = nI q) (hq : q ≤ 12) (hU : 1 ≤ U) (hU2 : U ≤ 100) (ht : 1 ≤ t) (ht2 : t ≤ 6) (hl1 : 1 ≤ l) (hl : l ≤ 15) (ha : a ≤ 8) : ok (f_Mo_choose σ (nI t) (nI U) (nI l) (nI a)) (fun o =>
    (n = 0 ∨ 2 ^ l < ordm (fun x => nI (cnt T x n)) 64 → o.2 = -103 ∧ fr (Ffi 56 0) σ o.1) ∧
    (1 ≤ n → ordm (fun x => nI (cnt T x n)) 64 ≤ 2 ^ l → 12 < q + t → o.2 = -106 ∧ fr (Ffi 56 0) σ o.1) ∧
    (1 ≤ n → ordm (fun x => nI (cnt T x n)) 64 ≤ 2 ^ l → q + t ≤ 12 → o.2 = nI q ∧ o.1.1 48 0 1 = nI (q + t) ∧ chR o.1 n U t ((n + U - 1) / U) q T ∧ gcR o.1 ((n + U - 1) / U) (itr T n U t l (gc0 t ((n + U - 1) / U)) a) ∧ (∀ c, c < t → LR o.1 (q + c) 64 (fLL T (itr T n U t l (gc0 t ((n + U - 1) / U)) a) n U l c)) ∧ fr (Fmc q t) σ o.1)) := by
  have hT0 := hT
  obtain ⟨t1, t2, t3⟩ := hT
  have h64 := ordm_le (fun x => nI (cnt T x n)) 64
  unfold f_Mo_choose
  refine ok_f (nI_nlt (b := 1) (by omega) (by omega)) (ok_f (nI_nlt (a := 6) (by omega) (by omega)) (ok_f (nI_nlt (b := 1) (by omega) (by omega)) (ok_f (nI_nlt (a := 100) (by omega) (by omega)) (ok_f (nI_nlt (b := 1) (by omega) (by omega)) (ok_f (nI_nlt (a := 15) (by omega) (by omega)) (ok_f (nI_pos (by omega)) (ok_t (nI_le (b := 8) (by omega) (by omega)) ?_)))))))
  refine ok_b2 s_ch51 (fun σ3 x4 h3 => ?_)
  obtain ⟨p1, p2⟩ := h3
  dsimp only at p1 p2
  have hT3 : TXr σ3 n T := hT0.go (p2.i (by omega)) (p2.fi (fun _ => by omega))
  refine ok_b2 (s_ch75 hT3 p1) (fun σ7 x8 h7 => ?_)
  obtain ⟨r1, r2⟩ := h7
  dsimp only at r1 r2
  have f7 : fr (Ffi 56 0) σ σ7 := p2.tr r2
  have hT7 : TXr σ7 n T := hT0.go (f7.i (by omega)) (f7.fi (fun _ => by omega))
  rw [hT7.1]
  refine ok_if (fun d => ?_) (fun d => ?_)
  · have d' := (nI_eq (b := 0) (by omega) (by omega)).mp d
    exact ok_some ⟨fun _ => ⟨rfl, f7⟩, fun z => absurd z (by omega), fun z => absurd z (by omega)⟩
  have hn1 : 1 ≤ n := by
    rcases Nat.eq_zero_or_pos n with z | z
    · exact absurd (by rw [z]; rfl) d
    · exact z
  refine ok_b2 (e_moDifferent (g := fun x => nI (cnt T x n)) (Nat.le_refl _) (by omega) (n := 64) r1) (fun σ9 x10 h9 => ?_)
  cases h9
  have hp2 := Nat.two_pow_pos l
  have hpl : 2 ^ l ≤ 2 ^ 15 := Nat.pow_le_pow_right (by omega) hl
  rw [shl_1 (show l < 31 by omega)]
  refine ok_if (fun dw => ?_) (fun dw => ?_)
  rotate_left
  · have dw' : ¬ ordm (fun x => nI (cnt T x n)) 64 ≤ 2 ^ l := fun z => dw (nI_le z (by omega))
    exact ok_some ⟨fun _ => ⟨rfl, f7⟩, fun _ z => absurd z dw', fun _ z => absurd z dw'⟩
  have hw := (nI_leI (by omega) (by omega)).mp dw
  rw [show σ7.1 48 0 1 = nI q by rw [f7.i (by omega)]; exact h1, nI_add]
  refine ok_if (fun dr => ?_) (fun dr => ?_)
  rotate_left
  · have dr' : ¬ q + t ≤ 12 := fun z => dr (nI_le (b := 12) z (by omega))
    exact ok_some ⟨fun z => absurd hw (by omega), fun _ _ _ => ⟨rfl, f7⟩, fun _ _ z => absurd z dr'⟩
  have hqt := (nI_leI (b := 12) (by omega) (by omega)).mp dr
  refine ok_nm (fun σ11 e11 => ok_nm (fun σ12 e12 => ok_nm (fun σ13 e13 => ?_)))
  rw [show σ13.1 48 0 22 = nI n by rw [e13, sI_k (by omega), e12, sI_k (by omega), e11, sI_k (by omega)]; exact hT7.1]
  refine ok_nm (fun σ14 e14 => ?_)
  have f14 : fr (fun f _ k => f = 56 ∨ (f = 48 ∧ (k = 23 ∨ k = 24 ∨ k = 25 ∨ k = 29))) σ σ14 := by
    rw [e14, e13, e12, e11]
    exact ((((f7.mono (fun f i k z => by omega)).tr (fr_sI (by omega))).tr (fr_sI (by omega))).tr (fr_sI (by omega))).tr (fr_sI (by omega))
  have hT14 : TXr σ14 n T := hT0.go (f14.i (by omega)) (f14.fi (fun _ => by omega))
  refine ok_b2 (s_ch174 hT14) (fun σ17 x18 h17 => ?_)
  obtain ⟨u1, u2⟩ := h17
  dsimp only at u1 u2
  rw [show σ17.1 48 0 22 = nI n by rw [u2.i (by omega)]; exact hT14.1, nI_add, show nI (n + U) - 1 = nI (n + U - 1) from pk_sub (b := 1) (by omega), nI_div (by omega) (by omega) (by omega)]
  refine ok_gd (nI_ne0 (by omega) (by omega)) (ok_nm (fun σ19 e19 => ?_))
  have hN := chN_of t2 hn1 hU hU2 ht ht2 (fun k hk => (t3 k hk).2)
  have hR19 : chR σ19 n U t ((n + U - 1) / U) q T := by
    have w : ∀ k, k ≠ 26 → σ19.1 48 0 k = σ14.1 48 0 k := fun k hk => by rw [e19, sI_k hk, u2.i (by omega)]
    refine ⟨?_, ?_, ?_, ?_, ?_, fun k hk => ?_⟩
    · rw [w 29 (by omega), e14, sI_at]
    · rw [w 25 (by omega), e14, sI_k (by omega), e13, sI_at]
    · rw [e19, sI_at]
    · rw [w 24 (by omega), e14, sI_k (by omega), e13, sI_k (by omega), e12, sI_at]
    · rw [w 23 (by omega), e14, sI_k (by omega), e13, sI_k (by omega), e12, sI_k (by omega), e11, sI_at]
    · rw [e19, sI_f (by omega)]
      exact u1 k hk
  have f19 : fr (Fmc q t) σ σ19 := by
    rw [e19]
    exact ((f14.mono (fun f i k z => by omega)).tr (u2.mono (fun f i k z => by omega))).tr (fr_sI (by omega))
  have g19 : σ19.1 48 0 1 = nI q := by
    rw [e19, sI_k (by omega), u2.i (by omega), f14.i (by omega)]
    exact h1
  obtain ⟨b1', b2', b3', b4'⟩ := grpN hU hn1 rfl
  generalize (n + U - 1) / U = G at *
  refine ok_b2 (s_ch220 ht2 (by omega) hR19.2.2.1) (fun σ24 x25 h24 => ?_)
  obtain ⟨v1, v2⟩ := h24
  dsimp only at v1 v2
  have g24 : σ24.1 48 0 1 = nI q := by rw [v2.i (by omega)]; exact g19
  refine ok_b2 (s_ch252 hqt g24) (fun σ29 x30 h29 => ?_)
  obtain ⟨w1, w2, w3⟩ := h29
  dsimp only at w1 w2 w3
  have hR29 : chR σ29 n U t G q T := (hR19.go (fun _ _ _ => v2.i (by omega)) (v2.fi (fun _ => by omega))).go (fun _ _ _ => w3.i (by omega)) (w3.fi (fun _ => by omega))
  have hgc29 : gcR σ29 G (gc0 t G) := fun g hg => by rw [w3.i (by omega)]; exact v1 g hg
  refine (s_moRounds (a := a) hN hR29 hgc29 (fun g hg => gc0_lt ht hg) hqt w2 hl1 hl hw ha).mono (fun o ho => ?_)
  obtain ⟨o1, o2, o3, o4⟩ := ho
  refine ⟨fun z => absurd hw (by omega), fun _ _ z => absurd z (by omega), fun _ _ _ => ⟨o1, ?_, hR29.go (fun _ _ _ => o4.i (by omega)) (o4.fi (fun _ => by omega)), o2, o3, ?_⟩⟩
  · rw [o4.i (by omega)]
    exact w1
  · exact ((f19.tr (v2.mono (fun f i k z => by omega))).tr (w3.mono (fun f i k z => by omega))).tr (o4.mono (fun f i k z => by omega))
