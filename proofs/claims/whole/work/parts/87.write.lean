/-! ===== selectors ===== -/
def mv (R : Nat → Nat) (p : Nat) : Nat → Nat := fun i => if i = 0 then R p else if i ≤ p then R (i - 1) else R i
def PM (t : Nat) (R : Nat → Nat) : Prop := (∀ p, p < t → R p < t) ∧ ∀ c, c < t → ∃ p, p < t ∧ R p = c
theorem PM_id (t : Nat) : PM t (fun p => p) := ⟨fun p h => h, fun c h => ⟨c, h, rfl⟩⟩
theorem PM_mv {t p : Nat} {R : Nat → Nat} (h : PM t R) (hp : p < t) : PM t (mv R p) := by
  refine ⟨fun i hi => ?_, fun c hc => ?_⟩
  · simp only [mv]
    split
    · exact h.1 p hp
    · split
      · exact h.1 (i - 1) (by omega)
      · exact h.1 i hi
  · obtain ⟨i, hi, rfl⟩ := h.2 c hc
    rcases Nat.lt_trichotomy i p with y | y | y
    · refine ⟨i + 1, by omega, ?_⟩
      simp only [mv]
      rw [if_neg (by omega), if_pos (by omega), Nat.add_sub_cancel]
    · subst y
      exact ⟨0, by omega, by simp only [mv, if_true]⟩
    · refine ⟨i, hi, ?_⟩
      simp only [mv]
      rw [if_neg (by omega), if_neg (by omega)]
def fp (R : Nat → Nat) (c : Nat) : Nat → Nat → Nat
  | 0, k => k
  | f + 1, k => if R k = c then k else fp R c f (k + 1)
theorem fp_spec {R : Nat → Nat} {c : Nat} : ∀ {f k : Nat}, (∃ p, k ≤ p ∧ p < k + f ∧ R p = c) → k ≤ fp R c f k ∧ fp R c f k < k + f ∧ R (fp R c f k) = c ∧ ∀ i, k ≤ i → i < fp R c f k → ¬ R i = c
  | 0, k, h => by
    obtain ⟨p, h1, h2, _⟩ := h
    omega
  | f + 1, k, h => by
    simp only [fp]
    by_cases hk : R k = c
    · rw [if_pos hk]
      exact ⟨Nat.le_refl _, by omega, hk, fun i h1 h2 => absurd h2 (by omega)⟩
    · rw [if_neg hk]
      obtain ⟨p, h1, h2, h3⟩ := h
      have hpk : p ≠ k := fun z => hk (by rw [← z]; exact h3)
      obtain ⟨a1, a2, a3, a4⟩ := fp_spec (f := f) (k := k + 1) ⟨p, by omega, by omega, h3⟩
      refine ⟨by omega, by omega, a3, fun i i1 i2 => ?_⟩
      rcases Nat.eq_or_lt_of_le i1 with z | z
      · rw [← z]
        exact hk
      · exact a4 i z i2
theorem fp_ok {R : Nat → Nat} {c t : Nat} (h : PM t R) (hc : c < t) : fp R c t 0 < t ∧ R (fp R c t 0) = c ∧ ∀ i, i < fp R c t 0 → ¬ R i = c := by
  obtain ⟨p, h1, h2⟩ := h.2 c hc
  obtain ⟨a1, a2, a3, a4⟩ := fp_spec (R := R) (c := c) (f := t) (k := 0) ⟨p, by omega, by omega, h2⟩
  exact ⟨by omega, a3, fun i hi => a4 i (by omega) hi⟩
abbrev SEc (σ : St) (i t : Nat) (R : Nat → Nat) : Prop := σ.1 39 i 1 = nI t ∧ ∀ p, p < t → σ.1 40 i p = nI (R p)
abbrev SEr (σ : St) (t : Nat) (R : Nat → Nat) : Prop := ∀ p, p < t → σ.1 67 0 p = nI (R p)
theorem s_selBegin {σ : St} {i t : Nat} (ht : t ≤ 6) : ok (f_Selectors_begin σ i (nI t)) (fun σ1 => SEc σ1 i t (fun p => p) ∧ fr (fun f j k => j = i ∧ ((f = 39 ∧ k = 1) ∨ f = 40)) σ σ1) := by
  unfold f_Selectors_begin
  refine ok_nm (fun σ1 e1 => ?_)
  have v1 : σ1.1 39 i 1 = nI t := by rw [e1, sI_at]
  refine ok_b2 (Q := fun p => (∀ k, k < t → p.1.1 40 i k = nI k) ∧ fr (Ffi 40 i) σ1 p.1) (ok_up t (fun c p => p.2 = nI c ∧ (∀ k, k < c → p.1.1 40 i k = nI k) ∧ fr (Ffi 40 i) σ1 p.1) ?_ ?_ 0 _ (Nat.zero_le _) ⟨rfl, fun g hg => absurd hg (by omega), fr.rf⟩) (fun σ4 x5 h4 => ok_some ⟨⟨?_, h4.1⟩, ?_⟩)
  · rintro c ⟨σ2, x⟩ hc ⟨rfl, q1, q2⟩
    dsimp only at q1 q2 ⊢
    unfold lb_Selectors_begin_7
    rw [show σ2.1 39 i 1 = nI t by rw [q2.i (by omega)]; exact v1, nI_cl (show c < 2 ^ 31 by omega)]
    refine ok_f (nI_ge hc (by omega)) (ok_gd (nI_ib (by omega) (by omega)) (ok_nm (fun σ3 e3 => ok_nm (fun x4 e4 => ok_some ⟨by dsimp only; rw [e4, nI_1], fun k hk => ?_, ?_⟩))))
    · dsimp only
      rw [e3]
      by_cases hkc : k = c
      · subst hkc
        rw [sI_at]
      · rw [sI_k hkc]
        exact q1 k (by omega)
    · rw [e3]
      exact q2.tr (fr_sI ⟨rfl, rfl⟩)
  · rintro ⟨σ2, x⟩ ⟨rfl, q1, q2⟩
    dsimp only at q1 q2 ⊢
    unfold lb_Selectors_begin_7
    rw [show σ2.1 39 i 1 = nI t by rw [q2.i (by omega)]; exact v1]
    exact ok_t (nI_le (Nat.le_refl _) (by omega)) (ok_some ⟨q1, q2⟩)
  · rw [h4.2.i (by omega)]
    exact v1
  · have f1 : fr (fun f j k => j = i ∧ ((f = 39 ∧ k = 1) ∨ f = 40)) σ σ1 := by rw [e1]; exact fr_sI (by omega)
    exact f1.tr (h4.2.mono (fun f j k z => by omega))
theorem s_moBegin {σ : St} {t : Nat} (ht : t ≤ 6) : ok (f_Mo_begin σ (nI t)) (fun σ1 => SEr σ1 t (fun p => p) ∧ fr (Ffi 67 0) σ σ1) := by
  unfold f_Mo_begin
  refine ok_b2 (Q := fun p => (∀ k, k < t → p.1.1 67 0 k = nI k) ∧ fr (Ffi 67 0) σ p.1) (ok_up t (fun c p => p.2 = nI c ∧ (∀ k, k < c → p.1.1 67 0 k = nI k) ∧ fr (Ffi 67 0) σ p.1) ?_ ?_ 0 _ (Nat.zero_le _) ⟨rfl, fun g hg => absurd hg (by omega), fr.rf⟩) (fun σ4 x5 h4 => ok_some h4)
  · rintro c ⟨σ2, x⟩ hc ⟨rfl, q1, q2⟩
    dsimp only at q1 q2 ⊢
    unfold lb_Mo_begin_2
    rw [nI_cl (show c < 2 ^ 31 by omega)]
    refine ok_f (nI_ge hc (by omega)) (ok_gd (nI_ib (by omega) (by omega)) (ok_nm (fun σ3 e3 => ok_nm (fun x4 e4 => ok_some ⟨by dsimp only; rw [e4, nI_1], fun k hk => ?_, ?_⟩))))
    · dsimp only
      rw [e3]
      by_cases hkc : k = c
      · subst hkc
        rw [sI_at]
      · rw [sI_k hkc]
        exact q1 k (by omega)
    · rw [e3]
      exact q2.tr (fr_sI ⟨rfl, rfl⟩)
  · rintro ⟨σ2, x⟩ ⟨rfl, q1, q2⟩
    unfold lb_Mo_begin_2
    exact ok_t (nI_le (Nat.le_refl _) (by omega)) (ok_some ⟨q1, q2⟩)
theorem s_moveAhead {σ : St} {i t p : Nat} {R : Nat → Nat} (ht : t ≤ 6) (hp : p < t) (h : ∀ k, k < t → σ.1 40 i k = nI (R k)) : ok (f_Selectors_moveAhead σ i (nI p)) (fun σ1 => (∀ k, k < t → σ1.1 40 i k = nI (mv R p k)) ∧ fr (Ffi 40 i) σ σ1) := by
  unfold f_Selectors_moveAhead
  rw [nI_cl (show p < 2 ^ 31 by omega), h p hp]
  refine ok_gd (nI_ib (by omega) (by omega)) (ok_nm (fun x1 e1 => ?_))
  refine ok_b2 (Q := fun q => (∀ k, k < t → q.1.1 40 i k = nI (if 0 < k ∧ k ≤ p then R (k - 1) else R k)) ∧ fr (Ffi 40 i) σ q.1) (ok_up p (fun d q => q.2 = nI (p - d) ∧ (∀ k, k < t → q.1.1 40 i k = nI (if p - d < k ∧ k ≤ p then R (k - 1) else R k)) ∧ fr (Ffi 40 i) σ q.1) ?_ ?_ 0 _ (Nat.zero_le _) ⟨rfl, fun k hk => ?_, fr.rf⟩) (fun σ4 x5 h4 => ?_)
  · rintro d ⟨σ2, x⟩ hd ⟨rfl, q1, q2⟩
    dsimp only at q1 q2 ⊢
    obtain ⟨w, hw⟩ : ∃ w, p - d = w + 1 := ⟨p - d - 1, by omega⟩
    rw [hw] at q1 ⊢
    unfold lb_Selectors_moveAhead_9
    rw [nI_pred, nI_cl (show w < 2 ^ 31 by omega), nI_cl (show w + 1 < 2 ^ 31 by omega), q1 w (by omega), if_neg (show ¬ (w + 1 < w ∧ w ≤ p) by omega), pk_m1]
    refine ok_f (nI_nle (by omega) (by omega)) (ok_gd (nI_ib (by omega) (by omega)) (ok_gd (nI_ib (by omega) (by omega)) (ok_nm (fun σ3 e3 => ok_nm (fun x4 e4 => ok_some ⟨?_, fun k hk => ?_, ?_⟩)))))
    · dsimp only
      rw [e4]
      exact congrArg nI (by omega)
    · dsimp only
      rw [e3]
      by_cases hkc : k = w + 1
      · subst hkc
        rw [sI_at, if_pos (by omega), Nat.add_sub_cancel]
      · rw [sI_k hkc, q1 k hk]
        by_cases y : w + 1 < k ∧ k ≤ p
        · rw [if_pos y, if_pos (by omega)]
        · rw [if_neg y, if_neg (by omega)]
    · rw [e3]
      exact q2.tr (fr_sI ⟨rfl, rfl⟩)
  · rintro ⟨σ2, x⟩ ⟨rfl, q1, q2⟩
    dsimp only at q1 q2 ⊢
    rw [Nat.sub_self] at q1 ⊢
    unfold lb_Selectors_moveAhead_9
    exact ok_t (by decide) (ok_some ⟨q1, q2⟩)
  · dsimp only
    rw [if_neg (by omega)]
    exact h k hk
  · obtain ⟨q1, q2⟩ := h4
    dsimp only at q1 q2
    refine ok_gd (by decide) (ok_nm (fun σ6 e6 => ok_some ⟨fun k hk => ?_, ?_⟩))
    · rw [e6]
      simp only [mv]
      by_cases y : k = 0
      · subst y
        rw [if_pos rfl]
        exact (sI_at (k := 0)).trans e1
      · rw [if_neg y, show (0 : Int32).toNatClampNeg = 0 from rfl, sI_k y, q1 k hk]
        by_cases y2 : k ≤ p
        · rw [if_pos (by omega), if_pos y2]
        · rw [if_neg (by omega), if_neg y2]
    · rw [e6]
      exact q2.tr (fr_sI ⟨rfl, rfl⟩)
theorem s_moFront {σ : St} {t p : Nat} {R : Nat → Nat} (ht : t ≤ 6) (hp : p < t) (h : SEr σ t R) : ok (f_Mo_front σ (nI p)) (fun o => o.2 = nI (R p) ∧ SEr o.1 t (mv R p) ∧ fr (Ffi 67 0) σ o.1) := by
  unfold f_Mo_front
  rw [nI_cl (show p < 2 ^ 31 by omega), h p hp]
  refine ok_gd (nI_ib (by omega) (by omega)) (ok_nm (fun x1 e1 => ?_))
  refine ok_b2 (Q := fun q => (∀ k, k < t → q.1.1 67 0 k = nI (if 0 < k ∧ k ≤ p then R (k - 1) else R k)) ∧ fr (Ffi 67 0) σ q.1) (ok_up p (fun d q => q.2 = nI (p - d) ∧ (∀ k, k < t → q.1.1 67 0 k = nI (if p - d < k ∧ k ≤ p then R (k - 1) else R k)) ∧ fr (Ffi 67 0) σ q.1) ?_ ?_ 0 _ (Nat.zero_le _) ⟨rfl, fun k hk => ?_, fr.rf⟩) (fun σ4 x5 h4 => ?_)
  · rintro d ⟨σ2, x⟩ hd ⟨rfl, q1, q2⟩
    dsimp only at q1 q2 ⊢
    obtain ⟨w, hw⟩ : ∃ w, p - d = w + 1 := ⟨p - d - 1, by omega⟩
    rw [hw] at q1 ⊢
    unfold lb_Mo_front_9
    rw [nI_pred, nI_cl (show w < 2 ^ 31 by omega), nI_cl (show w + 1 < 2 ^ 31 by omega), q1 w (by omega), if_neg (show ¬ (w + 1 < w ∧ w ≤ p) by omega), pk_m1]
    refine ok_f (nI_nle (by omega) (by omega)) (ok_gd (nI_ib (by omega) (by omega)) (ok_gd (nI_ib (by omega) (by omega)) (ok_nm (fun σ3 e3 => ok_nm (fun x4 e4 => ok_some ⟨?_, fun k hk => ?_, ?_⟩)))))
    · dsimp only
      rw [e4]
      exact congrArg nI (by omega)
    · dsimp only
      rw [e3]
      by_cases hkc : k = w + 1
      · subst hkc
        rw [sI_at, if_pos (by omega), Nat.add_sub_cancel]
      · rw [sI_k hkc, q1 k hk]
        by_cases y : w + 1 < k ∧ k ≤ p
        · rw [if_pos y, if_pos (by omega)]
        · rw [if_neg y, if_neg (by omega)]
    · rw [e3]
      exact q2.tr (fr_sI ⟨rfl, rfl⟩)
  · rintro ⟨σ2, x⟩ ⟨rfl, q1, q2⟩
    dsimp only at q1 q2 ⊢
    rw [Nat.sub_self] at q1 ⊢
    unfold lb_Mo_front_9
    exact ok_t (by decide) (ok_some ⟨q1, q2⟩)
  · dsimp only
    rw [if_neg (by omega)]
    exact h k hk
  · obtain ⟨q1, q2⟩ := h4
    dsimp only at q1 q2
    refine ok_gd (by decide) (ok_nm (fun σ6 e6 => ok_some ⟨e1, fun k hk => ?_, ?_⟩))
    · dsimp only
      rw [e6]
      simp only [mv]
      by_cases y : k = 0
      · subst y
        rw [if_pos rfl]
        exact (sI_at (k := 0)).trans e1
      · rw [if_neg y, show (0 : Int32).toNatClampNeg = 0 from rfl, sI_k y, q1 k hk]
        by_cases y2 : k ≤ p
        · rw [if_pos (by omega), if_pos y2]
        · rw [if_neg (by omega), if_neg y2]
    · rw [e6]
      exact q2.tr (fr_sI ⟨rfl, rfl⟩)
/-! the bits of selectors and words -/
def ones : Nat → List Bool
  | 0 => []
  | n + 1 => ones n ++ [true]
theorem ones_len : ∀ n, (ones n).length = n
  | 0 => rfl
  | n + 1 => by simp only [ones, List.length_append, List.length_singleton, ones_len n]
def slR (t : Nat) (gc : Nat → Nat) : Nat → Nat → Nat
  | 0 => fun p => p
  | g + 1 => mv (slR t gc g) (fp (slR t gc g) (gc g) t 0)
abbrev slp (t : Nat) (gc : Nat → Nat) (g : Nat) : Nat := fp (slR t gc g) (gc g) t 0
def slB (t : Nat) (gc : Nat → Nat) : Nat → List Bool
  | 0 => []
  | g + 1 => slB t gc g ++ (ones (slp t gc g) ++ [false])
theorem slR_ok {t G : Nat} {gc : Nat → Nat} (h : ∀ g, g < G → gc g < t) : ∀ g, g ≤ G → PM t (slR t gc g)
  | 0, _ => PM_id t
  | g + 1, hg => PM_mv (slR_ok h g (by omega)) (fp_ok (slR_ok h g (by omega)) (h g (by omega))).1
theorem slp_ok {t G g : Nat} {gc : Nat → Nat} (h : ∀ g, g < G → gc g < t) (hg : g < G) : slp t gc g < t ∧ slR t gc g (slp t gc g) = gc g ∧ ∀ i, i < slp t gc g → ¬ slR t gc g i = gc g := fp_ok (slR_ok h g (by omega)) (h g hg)
theorem slB_len {t G : Nat} {gc : Nat → Nat} (h : ∀ g, g < G → gc g < t) : ∀ g, g ≤ G → (slB t gc g).length ≤ t * g
  | 0, _ => Nat.zero_le _
  | g + 1, hg => by
    have ih := slB_len h g (by omega)
    have := (slp_ok h (show g < G by omega)).1
    have hm : t * (g + 1) = t * g + t := Nat.mul_succ t g
    simp only [slB, List.length_append, List.length_singleton, ones_len]
    omega
theorem slB_pre (t : Nat) (gc : Nat → Nat) {a : Nat} : ∀ {b : Nat}, a ≤ b → (slB t gc a).length ≤ (slB t gc b).length := by
  intro b h
  induction h with
  | refl => exact Nat.le_refl _
  | step h ih =>
    simp only [slB, List.length_append]
    omega
abbrev cwd (LL : Nat → Nat → Nat) (T gc : Nat → Nat) (U : Nat) (i : Nat) : Prop := knd (LL (gc (i / U))) 64 ≠ 4 ∧ 1 ≤ LL (gc (i / U)) (T i)
def twB (LL : Nat → Nat → Nat) (T gc : Nat → Nat) (U : Nat) : Nat → List Bool
  | 0 => []
  | i + 1 => twB LL T gc U i ++ bitsOf (nI (wrd (LL (gc (i / U))) 64 (T i))) (LL (gc (i / U)) (T i))
theorem twB_len {LL : Nat → Nat → Nat} {T gc : Nat → Nat} {U n : Nat} (h : ∀ i, i < n → LL (gc (i / U)) (T i) ≤ 15) : ∀ i, i ≤ n → (twB LL T gc U i).length ≤ 15 * i
  | 0, _ => Nat.le_refl _
  | i + 1, hi => by
    have ih := twB_len h i (by omega)
    have := h i (by omega)
    simp only [twB, List.length_append, bitsOf_len]
    omega
theorem twB_pre (LL : Nat → Nat → Nat) (T gc : Nat → Nat) (U : Nat) {a : Nat} : ∀ {b : Nat}, a ≤ b → (twB LL T gc U a).length ≤ (twB LL T gc U b).length := by
  intro b h
  induction h with
  | refl => exact Nat.le_refl _
  | step h ih =>
    simp only [twB, List.length_append]
    omega
/-! class: canBeWritten -/
def kK (σ : St) (q t : Nat) (LL : Nat → Nat → Nat) : Prop := ∀ c, c < t → σ.2.2.1 33 0 c = some (q + c) ∧ CK σ (q + c) 64 (LL c)
theorem kK.go {σ σ1 : St} {q t : Nat} {LL : Nat → Nat → Nat} (h : kK σ q t LL) (h1 : σ1.2.2.1 33 0 = σ.2.2.1 33 0) (h2 : ∀ f i, 41 ≤ f → f ≤ 47 → q ≤ i → i < q + t → σ1.1 f i = σ.1 f i) : kK σ1 q t LL := fun c hc => ⟨by rw [h1]; exact (h c hc).1, (h c hc).2.go (fun f u v => h2 f (q + c) u v (by omega) (by omega))⟩
theorem knd_lt (L : Nat → Nat) (s : Nat) : knd L s ≤ 4 := by
  unfold knd
  split
  · omega
  · split
    · omega
    · split
      · omega
      · split <;> omega
theorem e_hasWord {σ : St} {j s y : Nat} {L : Nat → Nat} (h : CK σ j s L) (hs6 : s ≤ 64) (hy : y < s) : f_Code_hasWord σ j (nI y) = some (σ, if knd L s ≠ 4 ∧ 1 ≤ L y then 1 else 0) := by
  obtain ⟨h1, h2, h3, h4, h5, h6, h7⟩ := h
  obtain ⟨l1, l2⟩ := h1.2.2 y hy
  have hk := knd_lt L s
  unfold f_Code_hasWord
  rw [h7, nI_cl (show y < 2 ^ 31 by omega), l1]
  by_cases c1 : knd L s = 4
  · rw [if_pos (by rw [c1]; rfl), if_neg (fun z => z.1 c1)]
  · rw [if_neg (show ¬ nI (knd L s) = 4 from fun z => c1 ((nI_eq (b := 4) (by omega) (by omega)).mp z)), gd_t (nI_ib (by omega) (by omega))]
    by_cases c2 : 1 ≤ L y
    · rw [if_neg (nI_nle c2 (by omega)), if_pos ⟨c1, c2⟩]
    · rw [if_pos (by rw [show L y = 0 by omega]; decide), if_neg (fun z => c2 z.2)]
theorem e_canBeWritten {σ : St} {n U t G q : Nat} {T gc : Nat → Nat} {LL : Nat → Nat → Nat} (hN : chN n U t G T) (h : chC σ n U t G T) (hgc : gcC σ G gc) (hlt : ∀ g, g < G → gc g < t) (hk : kK σ q t LL) : ok (f_Choice_canBeWritten σ) (fun o => o.1 = σ ∧ ((o.2 = 1 ∧ ∀ i, i < n → cwd LL T gc U i) ∨ (o.2 = 0 ∧ ¬ ∀ i, i < n → cwd LL T gc U i))) := by
  have hN0 := hN
  obtain ⟨n1, n2, n3, n4, n5, n6, n7, n8, n9⟩ := hN
  unfold f_Choice_canBeWritten
  refine ok_bs2 (Q := fun (z : (St × Int32) ⊕ (St × Int32)) => match z with | .inl q => q.1 = σ ∧ ∀ i, i < n → cwd LL T gc U i | .inr o => o = (σ, 0) ∧ ¬ ∀ i, i < n → cwd LL T gc U i) (ok_up G (fun g p => p = (σ, nI g) ∧ ∀ i, i < n → i < g * U → cwd LL T gc U i) ?_ ?_ 0 (σ, 0) (Nat.zero_le _) ⟨rfl, fun i _ hi => absurd hi (by omega)⟩) (fun σ11 x12 h11 => ok_some ⟨h11.1, Or.inl ⟨rfl, h11.2⟩⟩) (fun r hr => ok_some ⟨by rw [hr.1], Or.inr ⟨by rw [hr.1], hr.2⟩⟩)
  · rintro g _ hg ⟨rfl, q1⟩
    obtain ⟨b1', b2'⟩ := grpB hg n6 n3
    have b3' := n8 g hg
    have hgl := hlt g hg
    obtain ⟨k1, k2⟩ := hk (gc g) hgl
    dsimp only
    unfold lb_Choice_canBeWritten_2
    rw [h.2.2.1, nI_cl (show g < 2 ^ 31 by omega), hgc g hg, nI_cl (show gc g < 2 ^ 31 by omega), h.2.1, pk_mul]
    refine ok_f (nI_ge hg (by omega)) (ok_gd (nI_ib (by omega) (by omega)) (ok_gd (nI_ib (by omega) (by omega)) (ok_on k1 (ok_nm (fun x2 e2 => ?_)))))
    subst e2
    refine ok_bs2 (Q := fun (z : (St × Int32) ⊕ (St × Int32)) => match z with | .inl q => q.1 = σ ∧ ∀ i, i < n → i < (g + 1) * U → cwd LL T gc U i | .inr o => o = (σ, 0) ∧ ¬ ∀ i, i < n → cwd LL T gc U i) (ok_up (min ((g + 1) * U) n) (fun i p => p = (σ, nI i) ∧ g * U ≤ i ∧ ∀ i', i' < i → cwd LL T gc U i') ?_ ?_ (g * U) (σ, nI (g * U)) (by omega) ⟨rfl, Nat.le_refl _, fun i hi => q1 i (by omega) hi⟩) (fun σ8 x9 h8 => ok_nm (fun x10 e10 => ok_some ⟨?_, h8.2⟩)) (fun r hr => ok_some hr)
    · rintro i _ hi ⟨rfl, r1, r2⟩
      dsimp only
      have hT := n9 i (by omega)
      have hd : i / U = g := dvg r1 (by omega)
      unfold lb_Choice_canBeWritten_29
      refine ok_b2e (e_endOf h hN0 hg) ?_
      rw [nI_cl (show i < 2 ^ 31 by omega), h.2.2.2.2 i (by omega)]
      refine ok_f (nI_ge hi (by omega)) (ok_gd (nI_ib (by omega) (by omega)) (ok_b2e (e_hasWord k2 (by omega) hT) ?_))
      by_cases cw : knd (LL (gc g)) 64 ≠ 4 ∧ 1 ≤ LL (gc g) (T i)
      · rw [if_pos cw]
        refine ok_f (by decide) (ok_nm (fun x7 e7 => ok_some ⟨by rw [e7, nI_1], by omega, fun i' hi' => ?_⟩))
        rcases Nat.lt_or_ge i' i with y | y
        · exact r2 i' y
        · rw [show i' = i by omega]
          show knd (LL (gc (i / U))) 64 ≠ 4 ∧ 1 ≤ LL (gc (i / U)) (T i)
          rw [hd]
          exact cw
      · rw [if_neg cw]
        refine ok_t rfl (ok_some ⟨rfl, fun z => cw ?_⟩)
        have y := z i (by omega)
        have y' : knd (LL (gc (i / U))) 64 ≠ 4 ∧ 1 ≤ LL (gc (i / U)) (T i) := y
        rw [hd] at y'
        exact y'
    · rintro _ ⟨rfl, r1, r2⟩
      dsimp only
      unfold lb_Choice_canBeWritten_29
      refine ok_b2e (e_endOf h hN0 hg) (ok_t (nI_le (Nat.le_refl _) (by omega)) (ok_some ⟨rfl, fun i h1 h2 => r2 i (by omega)⟩))
    · have h81 := h8.1
      dsimp only at h81 ⊢
      rw [h81, e10, nI_1]
  · rintro _ ⟨rfl, q1⟩
    dsimp only
    unfold lb_Choice_canBeWritten_2
    rw [h.2.2.1]
    exact ok_t (nI_le (Nat.le_refl _) (by omega)) (ok_some ⟨rfl, fun i hi => q1 i hi (by omega)⟩)
