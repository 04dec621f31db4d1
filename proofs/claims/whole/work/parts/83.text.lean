/-! ===== counts and the text ===== -/
theorem e_countedBelow {σ : St} {g : Nat → Int32} {n : Nat} (hn : n ≤ 64) (hg : ∀ k, k < n → σ.1 2 0 k = g k) : ok (f_PC_countedBelow σ (nI n)) (fun o => o = (σ, nI (ordm g n))) := by
  unfold f_PC_countedBelow
  refine ok_b3 (Q := fun q => q.1 = σ ∧ q.2.1 = nI (ordm g n)) (ok_up n (fun k q => q = (σ, nI (ordm g k), nI k)) ?_ ?_ 0 _ (Nat.zero_le _) rfl) (fun σ4 x5 x6 hq => ok_some ?_)
  · rintro k _ hk rfl
    dsimp only
    unfold lb_PC_countedBelow_4
    rw [nI_cl (by omega), hg k hk]
    have hst : ordm g (k + 1) = if g k ≤ 0 then ordm g k else ordm g k + 1 := rfl
    refine ok_f (nI_ge hk (by omega)) (ok_gd (nI_ib (by omega) (by omega)) (ok_if (fun d => ok_nm (fun x1 e1 => ok_some ?_)) (fun d => ok_nm (fun x2 e2 => ok_nm (fun x3 e3 => ok_some ?_)))))
    · dsimp only
      rw [e1, nI_1, hst, if_pos d]
    · dsimp only
      rw [e2, e3, nI_1, nI_1, hst, if_neg d]
  · rintro _ rfl
    unfold lb_PC_countedBelow_4
    exact ok_t (nI_le (Nat.le_refl _) (by omega)) (ok_some ⟨rfl, rfl⟩)
  · obtain ⟨q1, q2⟩ := hq
    dsimp only at q1 q2
    rw [q1, q2]
theorem e_moDifferent {σ : St} {g : Nat → Int32} {f i na n : Nat} (hn : n ≤ na) (hna : na ≤ 64) (hg : ∀ k, k < n → σ.1 f i k = g k) : ok (f_Mo_different σ f i na (nI n)) (fun o => o = (σ, nI (ordm g n))) := by
  unfold f_Mo_different
  refine ok_b3 (Q := fun q => q.1 = σ ∧ q.2.1 = nI (ordm g n)) (ok_up n (fun k q => q = (σ, nI (ordm g k), nI k)) ?_ ?_ 0 _ (Nat.zero_le _) rfl) (fun σ4 x5 x6 hq => ok_some ?_)
  · rintro k _ hk rfl
    dsimp only
    unfold lb_Mo_different_4
    rw [nI_cl (by omega), hg k hk]
    have hst : ordm g (k + 1) = if g k ≤ 0 then ordm g k else ordm g k + 1 := rfl
    refine ok_f (nI_ge hk (by omega)) (ok_gd (nI_ib (by omega) (by omega)) (ok_if (fun d => ok_nm (fun x1 e1 => ok_nm (fun x2 e2 => ok_some ?_))) (fun d => ok_nm (fun x2 e2 => ok_nm (fun x3 e3 => ok_some ?_)))))
    · dsimp only
      rw [e1, e2, nI_1, hst, if_pos d, show nI (ordm g k) + 0 = nI (ordm g k) from nI_add _ 0]
    · dsimp only
      rw [e2, e3, nI_1, nI_1, hst, if_neg d]
  · rintro _ rfl
    unfold lb_Mo_different_4
    exact ok_t (nI_le (Nat.le_refl _) (by omega)) (ok_some ⟨rfl, rfl⟩)
  · obtain ⟨q1, q2⟩ := hq
    dsimp only at q1 q2
    rw [q1, q2]
def TXc (σ : St) (n : Nat) (T : Nat → Nat) : Prop := σ.1 26 0 1 = nI n ∧ n ≤ 1000 ∧ ∀ k, k < n → σ.1 27 0 k = nI (T k) ∧ T k < 64
def TXr (σ : St) (n : Nat) (T : Nat → Nat) : Prop := σ.1 48 0 22 = nI n ∧ n ≤ 1000 ∧ ∀ k, k < n → σ.1 64 0 k = nI (T k) ∧ T k < 64
theorem TXc.go {σ σ1 : St} {n : Nat} {T : Nat → Nat} (h : TXc σ n T) (h1 : σ1.1 26 0 1 = σ.1 26 0 1) (h2 : σ1.1 27 0 = σ.1 27 0) : TXc σ1 n T := by
  unfold TXc at *
  rw [h1, h2]
  exact h
theorem TXr.go {σ σ1 : St} {n : Nat} {T : Nat → Nat} (h : TXr σ n T) (h1 : σ1.1 48 0 22 = σ.1 48 0 22) (h2 : σ1.1 64 0 = σ.1 64 0) : TXr σ1 n T := by
  unfold TXr at *
  rw [h1, h2]
  exact h
abbrev Ffi (f0 i0 : Nat) : Nat → Nat → Nat → Prop := fun f i _ => f = f0 ∧ i = i0
theorem s_tally {σ : St} {n f i : Nat} {T : Nat → Nat} (hT : TXc σ n T) (hf : f ≠ 26 ∧ f ≠ 27) : ok (f_Text_tally σ f i 64) (fun σ1 => (∀ x, x < 64 → σ1.1 f i x = nI (cnt T x n)) ∧ fr (Ffi f i) σ σ1) := by
  obtain ⟨t1, t2, t3⟩ := hT
  unfold f_Text_tally
  refine ok_b1 (s_fill (by omega) 0) (fun σ1 e1 => ok_b2 (Q := fun q => (∀ x, x < 64 → q.1.1 f i x = nI (cnt T x n)) ∧ fr (Ffi f i) σ q.1) (ok_up n (fun k q => q.2 = nI k ∧ (∀ x, x < 64 → q.1.1 f i x = nI (cnt T x k)) ∧ fr (Ffi f i) σ q.1) ?_ ?_ 0 _ (Nat.zero_le _) ⟨rfl, fun x hx => ?_, ?_⟩) (fun σ4 x5 h => ok_some h))
  · rintro k ⟨σ2, x⟩ hk ⟨rfl, q1, q2⟩
    dsimp only at q1 q2 ⊢
    obtain ⟨a1, a2⟩ := t3 k hk
    unfold lb_Text_tally_7
    rw [show σ2.1 26 0 1 = nI n by rw [q2.i (by omega)]; exact t1, nI_cl (show k < 2 ^ 31 by omega), show σ2.1 27 0 k = nI (T k) by rw [q2.i (by omega)]; exact a1, nI_cl (show T k < 2 ^ 31 by omega), q1 (T k) a2, nI_1]
    refine ok_f (nI_ge hk (by omega)) (ok_gd (nI_ib (by omega) (by omega)) (ok_gd (nI_ib (by omega) (by omega)) (ok_gd (nI_ib (by omega) (by omega)) (ok_nm (fun σ3 e3 => ok_nm (fun x3 ex => ok_some ⟨by dsimp only; rw [ex, nI_1], fun x hx => ?_, ?_⟩))))))
    · dsimp only
      rw [e3]
      by_cases hxt : x = T k
      · subst hxt
        rw [sI_at]
        simp only [cnt, if_true]
      · rw [sI_k hxt, q1 x hx]
        simp only [cnt]
        rw [if_neg (fun z => hxt z.symm), Nat.add_zero]
    · rw [e3]
      exact q2.tr (fr_sI ⟨rfl, rfl⟩)
  · rintro ⟨σ2, x⟩ ⟨rfl, q1, q2⟩
    dsimp only at q1 q2 ⊢
    unfold lb_Text_tally_7
    rw [show σ2.1 26 0 1 = nI n by rw [q2.i (by omega)]; exact t1]
    exact ok_t (nI_le (Nat.le_refl _) (by omega)) (ok_some ⟨q1, q2⟩)
  · dsimp only
    rw [e1, flI_at hx]
    rfl
  · rw [e1]
    exact fr_flI (fun _ => ⟨rfl, rfl⟩)
theorem e_textDifferent {σ : St} {n : Nat} {T : Nat → Nat} (hT : TXc σ n T) : ok (f_Text_different σ) (fun o => o.2 = nI (ordm (fun x => nI (cnt T x n)) 64) ∧ fr (Ffi 29 0) σ o.1) := by
  unfold f_Text_different
  refine ok_b1 (s_tally (f := 29) (i := 0) hT (by omega)) (fun σ1 h1 => ?_)
  obtain ⟨h1, f1⟩ := h1
  replace h1 : ∀ x, x < 64 → σ1.1 29 0 x = (fun x => nI (cnt T x n)) x := h1
  generalize (fun x => nI (cnt T x n)) = g at h1 ⊢
  refine ok_b3 (Q := fun q => q.1 = σ1 ∧ q.2.1 = nI (ordm g 64)) (ok_up 64 (fun k q => q = (σ1, nI (ordm g k), nI k)) ?_ ?_ 0 _ (Nat.zero_le _) rfl) (fun σ4 x5 x6 hq => ok_some ?_)
  · rintro k _ hk rfl
    dsimp only
    unfold lb_Text_different_12
    rw [nI_cl (by omega), h1 k hk]
    have hst : ordm g (k + 1) = if g k ≤ 0 then ordm g k else ordm g k + 1 := rfl
    refine ok_f (nI_ge (b := 64) hk (by omega)) (ok_gd (nI_ib (by omega) (by omega)) (ok_if (fun d => ok_nm (fun x1 e1 => ok_some ?_)) (fun d => ok_nm (fun x2 e2 => ok_nm (fun x3 e3 => ok_some ?_)))))
    · dsimp only
      rw [e1, nI_1, hst, if_pos d]
    · dsimp only
      rw [e2, e3, nI_1, nI_1, hst, if_neg d]
  · rintro _ rfl
    unfold lb_Text_different_12
    exact ok_t (nI_le (a := 64) (Nat.le_refl _) (by omega)) (ok_some ⟨rfl, rfl⟩)
  · obtain ⟨q1, q2⟩ := hq
    dsimp only at q1 q2
    rw [q1, q2]
    exact ⟨rfl, f1⟩
/-! the reference counts -/
theorem s_mCount51a {σ : St} : ok (lpE (fun q => lb_Mo_countText_2 q.1 q.2) (σ, 0)) (fun q => (∀ x, x < 64 → q.1.1 51 0 x = nI 0) ∧ fr (Ffi 51 0) σ q.1) := by
  refine ok_up 64 (fun k q => q.2 = nI k ∧ (∀ x, x < k → q.1.1 51 0 x = nI 0) ∧ fr (Ffi 51 0) σ q.1) ?_ ?_ 0 _ (Nat.zero_le _) ⟨rfl, fun x hx => absurd hx (by omega), fr.rf⟩
  · rintro k ⟨σ2, x⟩ hk ⟨rfl, q1, q2⟩
    dsimp only at q1 q2 ⊢
    unfold lb_Mo_countText_2
    rw [nI_cl (by omega)]
    refine ok_f (nI_ge (b := 64) hk (by omega)) (ok_gd (nI_ib (by omega) (by omega)) (ok_nm (fun σ3 e3 => ok_nm (fun x4 e4 => ok_some ⟨by dsimp only; rw [e4, nI_1], fun x hx => ?_, ?_⟩))))
    · dsimp only
      rw [e3]
      by_cases hxk : x = k
      · subst hxk
        rw [sI_at]
        rfl
      · rw [sI_k hxk]
        exact q1 x (by omega)
    · rw [e3]
      exact q2.tr (fr_sI ⟨rfl, rfl⟩)
  · rintro ⟨σ2, x⟩ ⟨rfl, q1, q2⟩
    unfold lb_Mo_countText_2
    exact ok_t (nI_le (a := 64) (Nat.le_refl _) (by omega)) (ok_some ⟨q1, q2⟩)
theorem s_moCountText {σ : St} {n : Nat} {T : Nat → Nat} (hT : TXr σ n T) : ok (f_Mo_countText σ) (fun o => o.2 = nI (ordm (fun x => nI (cnt T x n)) 64) ∧ (∀ x, x < 64 → o.1.1 51 0 x = nI (cnt T x n)) ∧ fr (Ffi 51 0) σ o.1) := by
  obtain ⟨t1, t2, t3⟩ := hT
  unfold f_Mo_countText
  refine ok_b2 s_mCount51a (fun σ3 x4 h3 => ?_)
  obtain ⟨h3, f3⟩ := h3
  dsimp only at h3 f3
  refine ok_b2 (Q := fun q => (∀ x, x < 64 → q.1.1 51 0 x = nI (cnt T x n)) ∧ fr (Ffi 51 0) σ q.1) (ok_up n (fun k q => q.2 = nI k ∧ (∀ x, x < 64 → q.1.1 51 0 x = nI (cnt T x k)) ∧ fr (Ffi 51 0) σ q.1) ?_ ?_ 0 _ (Nat.zero_le _) ⟨rfl, fun x hx => h3 x hx, f3⟩) ?_
  · rintro k ⟨σ2, x⟩ hk ⟨rfl, q1, q2⟩
    dsimp only at q1 q2 ⊢
    obtain ⟨a1, a2⟩ := t3 k hk
    unfold lb_Mo_countText_23
    rw [show σ2.1 48 0 22 = nI n by rw [q2.i (by omega)]; exact t1, nI_cl (show k < 2 ^ 31 by omega), show σ2.1 64 0 k = nI (T k) by rw [q2.i (by omega)]; exact a1, nI_cl (show T k < 2 ^ 31 by omega), q1 (T k) a2, nI_1]
    refine ok_f (nI_ge hk (by omega)) (ok_gd (nI_ib (by omega) (by omega)) (ok_gd (nI_ib (by omega) (by omega)) (ok_gd (nI_ib (by omega) (by omega)) (ok_nm (fun σ3 e3 => ok_nm (fun x3 ex => ok_some ⟨by dsimp only; rw [ex, nI_1], fun x hx => ?_, ?_⟩))))))
    · dsimp only
      rw [e3]
      by_cases hxt : x = T k
      · subst hxt
        rw [sI_at]
        simp only [cnt, if_true]
      · rw [sI_k hxt, q1 x hx]
        simp only [cnt]
        rw [if_neg (fun z => hxt z.symm), Nat.add_zero]
    · rw [e3]
      exact q2.tr (fr_sI ⟨rfl, rfl⟩)
  · rintro ⟨σ2, x⟩ ⟨rfl, q1, q2⟩
    dsimp only at q1 q2 ⊢
    unfold lb_Mo_countText_23
    rw [show σ2.1 48 0 22 = nI n by rw [q2.i (by omega)]; exact t1]
    exact ok_t (nI_le (Nat.le_refl _) (by omega)) (ok_some ⟨q1, q2⟩)
  · rintro σ7 x8 ⟨q1, q2⟩
    dsimp only at q1 q2
    refine ok_b2 (e_moDifferent (f := 51) (i := 0) (n := 64) (g := fun x => nI (cnt T x n)) (Nat.le_refl _) (by omega) q1) (fun σ9 x10 h9 => ?_)
    cases h9
    exact ok_some ⟨rfl, q1, q2⟩
/-! add -/
def sc (v : Nat → Int32) : Nat → Nat → Option Nat
  | 0, k => some k
  | f + 1, k => if v k < 0 then some k else if v k < 64 then sc v f (k + 1) else none
theorem sc_ok {v : Nat → Int32} : ∀ {f k m : Nat}, sc v f k = some m → k ≤ m ∧ m ≤ k + f ∧ ∀ j, k ≤ j → j < m → ¬ v j < 0 ∧ v j < 64
  | 0, k, m, h => by
    cases h
    exact ⟨Nat.le_refl _, Nat.le_refl _, fun j h1 h2 => absurd h2 (by omega)⟩
  | f + 1, k, m, h => by
    simp only [sc] at h
    by_cases h1 : v k < 0
    · rw [if_pos h1] at h
      cases h
      exact ⟨Nat.le_refl _, by omega, fun j h1 h2 => absurd h2 (by omega)⟩
    · rw [if_neg h1] at h
      by_cases h2 : v k < 64
      · rw [if_pos h2] at h
        obtain ⟨a, b, c⟩ := sc_ok h
        refine ⟨by omega, by omega, fun j j1 j2 => ?_⟩
        rcases Nat.lt_or_ge k j with z | z
        · exact c j (by omega) j2
        · rw [show j = k by omega]
          exact ⟨h1, h2⟩
      · rw [if_neg h2] at h
        cases h
theorem small {x : Int32} (h0 : ¬ x < 0) (h1 : x < 64) : ∃ m, m < 64 ∧ x = nI m := by
  obtain ⟨j, hj, rfl⟩ := nI_of h0
  exact ⟨j, (nI_ltI (b := 64) hj (by omega)).mp h1, rfl⟩
def apT (T : Nat → Nat) (n : Nat) (v : Nat → Int32) : Nat → Nat := fun k => if k < n then T k else (v (k - n)).toNatClampNeg
theorem cpI_1 {σ : St} {f i sp f2 i2 dp n f' i' k' : Nat} : (cpI σ f i sp f2 i2 dp n).1 f' i' k' = if f' = f2 ∧ i' = i2 ∧ dp ≤ k' ∧ k' < dp + n then σ.1 f i (sp + (k' - dp)) else σ.1 f' i' k' := rfl
theorem s_extend {σ : St} {v : Nat → Int32} {n : Nat} {T : Nat → Nat} (hv : ∀ k, k < 5 → σ.1 28 0 k = v k) (hT : TXc σ n T) : ok (f_Text_extend σ) (fun o => (sc v 5 0 = none → o = (σ, -102)) ∧ ∀ m, sc v 5 0 = some m → (1000 < n + m → o = (σ, -106)) ∧ (n + m ≤ 1000 → o.2 = nI (n + m) ∧ TXc o.1 (n + m) (apT T n v) ∧ fr (fun f _ k => f = 27 ∨ (f = 26 ∧ k = 1)) σ o.1)) := by
  obtain ⟨t1, t2, t3⟩ := hT
  unfold f_Text_extend
  refine ok_bs2 (Q := fun (z : (St × Int32) ⊕ (St × Int32)) => match z with | .inl q => ∃ m, q = (σ, nI m) ∧ sc v 5 0 = some m | .inr o => o = (σ, -102) ∧ sc v 5 0 = none) (ok_up 5 (fun k q => q = (σ, nI k) ∧ sc v (5 - k) k = sc v 5 0) ?_ ?_ 0 (σ, 0) (Nat.zero_le _) ⟨rfl, rfl⟩) ?_ ?_
  · rintro k _ hk ⟨rfl, q⟩
    dsimp only
    generalize sc v 5 0 = Z at q ⊢
    rw [show 5 - k = 5 - (k + 1) + 1 by omega] at q
    simp only [sc] at q
    unfold lb_Text_extend_2
    rw [nI_cl (by omega), hv k hk]
    refine ok_f (nI_ge (b := 5) hk (by omega)) (ok_gd (nI_ib (by omega) (by omega)) (ok_if (fun d => ok_some ?_) (fun d => ok_gd (nI_ib (by omega) (by omega)) (ok_if (fun d2 => ok_nm (fun x1 e1 => ok_some ?_)) (fun d2 => ok_some ?_)))))
    · rw [if_pos d] at q
      exact ⟨k, rfl, q.symm⟩
    · rw [if_neg d, if_pos d2] at q
      dsimp only
      rw [e1, nI_1]
      exact ⟨rfl, q⟩
    · rw [if_neg d, if_neg d2] at q
      exact ⟨rfl, q.symm⟩
  · rintro _ ⟨rfl, q⟩
    dsimp only
    generalize sc v 5 0 = Z at q ⊢
    simp only [Nat.sub_self, sc] at q
    unfold lb_Text_extend_2
    exact ok_t (nI_le (a := 5) (Nat.le_refl _) (by omega)) (ok_some ⟨5, rfl, q.symm⟩)
  · rintro σ2 x3 ⟨m, hq, hm⟩
    cases hq
    obtain ⟨s1, s2, s3⟩ := sc_ok hm
    rw [t1, show (1000 : Int32) - nI n = nI (1000 - n) from pk_sub (a := 1000) t2]
    refine ok_if (fun d => ?_) (fun d => ok_some ⟨fun z => (by rw [hm] at z; cases z), fun m' hm' => ⟨fun _ => rfl, fun z => ?_⟩⟩)
    · have d' := (nI_leI (by omega) (by omega)).mp d
      rw [nI_cl (show n < 2 ^ 31 by omega), nI_cl (show m < 2 ^ 31 by omega)]
      refine ok_gd ⟨by decide, nI_pos (by omega), nI_pos (by omega), by rw [nI_cl (by omega)]; show 0 + m ≤ 5; omega, by rw [nI_cl (by omega), nI_cl (by omega)]; omega⟩ (ok_nm (fun σ4 e4 => ?_))
      rw [show σ4.1 26 0 1 = nI n by rw [e4, cpI_1, if_neg (by omega)]; exact t1, nI_add]
      refine ok_nm (fun σ5 e5 => ok_some ⟨fun z => (by rw [hm] at z; cases z), fun m' hm' => ⟨fun z => ?_, fun z => ⟨?_, ⟨?_, ?_, fun k hk => ?_⟩, ?_⟩⟩⟩)
      · rw [hm] at hm'
        cases hm'
        omega
      · rw [hm] at hm'
        cases hm'
        dsimp only
        rw [e5, sI_at]
      · rw [hm] at hm'
        cases hm'
        dsimp only
        rw [e5, sI_at]
      · omega
      · rw [hm] at hm'
        cases hm'
        dsimp only
        unfold apT
        rw [e5, sI_f (by omega), e4, cpI_1]
        by_cases hkn : k < n
        · rw [if_neg (by omega), if_pos hkn]
          exact t3 k hkn
        · obtain ⟨y1, y2⟩ := s3 (k - n) (by omega) (by omega)
          obtain ⟨w, w1, w2⟩ := small y1 y2
          rw [if_pos ⟨rfl, rfl, by omega, by omega⟩, if_neg hkn, show (0 : Int32).toNatClampNeg + (k - n) = k - n from Nat.zero_add _, hv (k - n) (by omega), w2, nI_cl (by omega)]
          exact ⟨rfl, w1⟩
      · rw [e5, e4]
        exact (fr_cpI (fun _ => Or.inl rfl)).tr (fr_sI (by omega))
    · rw [hm] at hm'
      cases hm'
      have d' : ¬ m ≤ 1000 - n := fun y => d (nI_le y (by omega))
      omega
  · rintro r ⟨rfl, hq⟩
    exact ok_some ⟨fun _ => rfl, fun m hm => (by rw [hq] at hm; cases hm)⟩
theorem e_at6 {σ : St} {a b c d e : Int32} {v : Nat → Int32} (h0 : v 0 = a) (h1 : v 1 = b) (h2 : v 2 = c) (h3 : v 3 = d) (h4 : v 4 = e) {k : Nat} (hk : k < 5) : f_Mo_at σ (nI k) a b c d e = some (σ, v k) := by
  unfold f_Mo_at
  rcases (show k = 0 ∨ k = 1 ∨ k = 2 ∨ k = 3 ∨ k = 4 by omega) with rfl | rfl | rfl | rfl | rfl
  · rw [h0]; rfl
  · rw [h1]; rfl
  · rw [h2]; rfl
  · rw [h3]; rfl
  · rw [h4]; rfl
theorem s_moAdd {σ : St} {a b c d e : Int32} {v : Nat → Int32} (h0 : v 0 = a) (h1 : v 1 = b) (h2 : v 2 = c) (h3 : v 3 = d) (h4 : v 4 = e) {n : Nat} {T : Nat → Nat} (hT : TXr σ n T) : ok (f_Mo_add σ a b c d e) (fun o => (sc v 5 0 = none → o = (σ, -102)) ∧ ∀ m, sc v 5 0 = some m → (1000 < n + m → o = (σ, -106)) ∧ (n + m ≤ 1000 → o.2 = nI (n + m) ∧ TXr o.1 (n + m) (apT T n v) ∧ fr (fun f _ k => f = 64 ∨ (f = 48 ∧ k = 22)) σ o.1)) := by
  obtain ⟨t1, t2, t3⟩ := hT
  unfold f_Mo_add
  refine ok_bs2 (Q := fun (z : (St × Int32) ⊕ (St × Int32)) => match z with | .inl q => ∃ m, q = (σ, nI m) ∧ sc v 5 0 = some m | .inr o => o = (σ, -102) ∧ sc v 5 0 = none) (ok_up 5 (fun k q => q = (σ, nI k) ∧ sc v (5 - k) k = sc v 5 0) ?_ ?_ 0 (σ, 0) (Nat.zero_le _) ⟨rfl, rfl⟩) ?_ ?_
  · rintro k _ hk ⟨rfl, q⟩
    dsimp only
    generalize sc v 5 0 = Z at q ⊢
    rw [show 5 - k = 5 - (k + 1) + 1 by omega] at q
    simp only [sc] at q
    unfold lb_Mo_add_3
    refine ok_f (nI_ge (b := 5) hk (by omega)) (ok_b2e (e_at6 h0 h1 h2 h3 h4 hk) (ok_if (fun d => ok_some ?_) (fun d => ok_b2e (e_at6 h0 h1 h2 h3 h4 hk) (ok_if (fun d2 => ok_nm (fun x1 e1 => ok_some ?_)) (fun d2 => ok_some ?_)))))
    · rw [if_pos d] at q
      exact ⟨k, rfl, q.symm⟩
    · rw [if_neg d, if_pos d2] at q
      dsimp only
      rw [e1, nI_1]
      exact ⟨rfl, q⟩
    · rw [if_neg d, if_neg d2] at q
      exact ⟨rfl, q.symm⟩
  · rintro _ ⟨rfl, q⟩
    dsimp only
    generalize sc v 5 0 = Z at q ⊢
    simp only [Nat.sub_self, sc] at q
    unfold lb_Mo_add_3
    exact ok_t (nI_le (a := 5) (Nat.le_refl _) (by omega)) (ok_some ⟨5, rfl, q.symm⟩)
  · rintro σ2 x3 ⟨m, hq, hm⟩
    cases hq
    obtain ⟨s1, s2, s3⟩ := sc_ok hm
    rw [t1, nI_add]
    refine ok_if (fun dd => ?_) (fun dd => ok_some ⟨fun z => (by rw [hm] at z; cases z), fun m' hm' => ⟨fun _ => rfl, fun z => ?_⟩⟩)
    · have d' := (nI_leI (b := 1000) (by omega) (by omega)).mp dd
      refine ok_b2 (Q := fun q => q.1.1 48 0 22 = nI (n + m) ∧ (∀ k, k < n + m → q.1.1 64 0 k = nI (apT T n v k) ∧ apT T n v k < 64) ∧ fr (fun f _ k => f = 64 ∨ (f = 48 ∧ k = 22)) σ q.1) (ok_up m (fun i q => q.2 = nI i ∧ q.1.1 48 0 22 = nI (n + i) ∧ (∀ k, k < n + i → q.1.1 64 0 k = nI (apT T n v k) ∧ apT T n v k < 64) ∧ fr (fun f _ k => f = 64 ∨ (f = 48 ∧ k = 22)) σ q.1) ?_ ?_ 0 _ (Nat.zero_le _) ⟨rfl, t1, fun k hk => ?_, fr.rf⟩) ?_
      · rintro i ⟨σ3, x⟩ hi ⟨rfl, q1, q2, q3⟩
        dsimp only at q1 q2 q3 ⊢
        obtain ⟨y1, y2⟩ := s3 i (by omega) hi
        obtain ⟨w, w1, w2⟩ := small y1 y2
        unfold lb_Mo_add_69
        refine ok_f (nI_ge hi (by omega)) (ok_b2e (e_at6 h0 h1 h2 h3 h4 (show i < 5 by omega)) ?_)
        rw [q1, nI_cl (show n + i < 2 ^ 31 by omega)]
        refine ok_gd (nI_ib (by omega) (by omega)) (ok_nm (fun σ10 e10 => ?_))
        rw [show σ10.1 48 0 22 = nI (n + i) by rw [e10, sI_f (by omega)]; exact q1, nI_1]
        refine ok_nm (fun σ11 e11 => ok_nm (fun x12 e12 => ok_some ⟨by dsimp only; rw [e12, nI_1], ?_, fun k hk => ?_, ?_⟩))
        · dsimp only
          rw [e11, sI_at]
          rfl
        · dsimp only
          rw [e11, sI_f (by omega), e10]
          by_cases hkn : k = n + i
          · subst hkn
            unfold apT
            rw [sI_at, if_neg (by omega), Nat.add_sub_cancel_left, w2, nI_cl (by omega)]
            exact ⟨rfl, w1⟩
          · rw [sI_k hkn]
            exact q2 k (by omega)
        · rw [e11, e10]
          exact q3.tr ((fr_sI (by omega)).tr (fr_sI (by omega)))
      · rintro ⟨σ3, x⟩ ⟨rfl, q1, q2, q3⟩
        unfold lb_Mo_add_69
        exact ok_t (nI_le (Nat.le_refl _) (by omega)) (ok_some ⟨q1, q2, q3⟩)
      · dsimp only
        unfold apT
        rw [if_pos (by omega)]
        exact t3 k (by omega)
      · rintro σ13 x14 ⟨q1, q2, q3⟩
        dsimp only at q1 q2 q3
        refine ok_some ⟨fun z => (by rw [hm] at z; cases z), fun m' hm' => ?_⟩
        rw [hm] at hm'
        cases hm'
        exact ⟨fun z => absurd z (by omega), fun _ => ⟨q1, ⟨q1, by omega, q2⟩, q3⟩⟩
    · rw [hm] at hm'
      cases hm'
      have d' : ¬ n + m ≤ 1000 := fun y => dd (nI_le (b := 1000) y (by omega))
      omega
  · rintro r ⟨rfl, hq⟩
    exact ok_some ⟨fun _ => rfl, fun m hm => (by rw [hq] at hm; cases hm)⟩
