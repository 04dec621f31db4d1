/-! ===== packages, the class ===== -/
abbrev F67 : Nat → Nat → Nat → Prop := fun f _ _ => f = 6 ∨ f = 7
abbrev F567 : Nat → Nat → Nat → Prop := fun f _ k => f = 6 ∨ f = 7 ∨ (f = 5 ∧ k = 2)
def OD (σ : St) (g : Nat → Int32) (m : Nat) (o : Nat → Nat) : Prop := σ.1 5 0 2 = nI m ∧ ∀ k, k < m → σ.1 6 0 k = nI (o k) ∧ σ.1 7 0 k = g (o k)
theorem s_insert {σ : St} {g : Nat → Int32} {m s : Nat} {o : Nat → Nat} (h : OD σ g m o) (hm : m < 64) : ok (f_Packages_insert σ (nI s) (g s)) (fun σ1 => OD σ1 g (m + 1) (ins o (pls g o (g s) m) s) ∧ fr F567 σ σ1) := by
  unfold f_Packages_insert
  refine ok_nm (fun x1 e1 => ok_b2 (Q := fun q => q.2 = nI (pls g o (g s) m) ∧ (∀ i, i < pls g o (g s) m → q.1.1 6 0 i = nI (o i) ∧ q.1.1 7 0 i = g (o i)) ∧ (∀ i, pls g o (g s) m < i → i ≤ m → q.1.1 6 0 i = nI (o (i - 1)) ∧ q.1.1 7 0 i = g (o (i - 1))) ∧ fr F67 σ q.1) (ok_lp (fun n q => n ≤ m ∧ q.2 = nI n ∧ pls g o (g s) m = pls g o (g s) n ∧ (∀ i, i < n → q.1.1 6 0 i = nI (o i) ∧ q.1.1 7 0 i = g (o i)) ∧ (∀ i, n < i → i ≤ m → q.1.1 6 0 i = nI (o (i - 1)) ∧ q.1.1 7 0 i = g (o (i - 1))) ∧ fr F67 σ q.1) ?_ m _ ⟨Nat.le_refl _, e1.trans h.1, rfl, h.2, fun i h1 h2 => absurd h1 (by omega), fr.rf⟩) ?_)
  · rintro n ⟨σ2, x⟩ ⟨hn, rfl, q0, q1, q2, q3⟩
    dsimp only at q1 q2 q3 ⊢
    unfold lb_Packages_insert_5
    rcases n with _ | n
    · refine ok_t (by decide) (ok_some ?_)
      rw [q0]
      exact ⟨rfl, q1, q2, q3⟩
    · have hib : ib (nI n) 64 := nI_ib (by omega) (by omega)
      have hib1 : ib (nI (n + 1)) 64 := nI_ib (by omega) (by omega)
      obtain ⟨a1, a2⟩ := q1 n (by omega)
      rw [nI_pred, nI_cl (show n < 2 ^ 31 by omega), a1, a2, nI_cl (show n + 1 < 2 ^ 31 by omega)]
      refine ok_f (nI_nle (by omega) (by omega)) (ok_gd hib (ok_if (fun hc => ok_some ?_) (fun hc => ok_gd hib (ok_gd hib1 (ok_nm (fun σ3 e3 => ok_gd hib (ok_gd hib1 (ok_nm (fun σ4 e4 => ok_nm (fun x5 e5 => ok_some ?_)))))))))) 
      · have : pls g o (g s) (n + 1) = n + 1 := by simp only [pls]; rw [if_pos hc]
        rw [q0, this]
        exact ⟨rfl, q1, q2, q3⟩
      · have hp : pls g o (g s) (n + 1) = pls g o (g s) n := by simp only [pls]; rw [if_neg hc]
        have b7 : σ3.1 7 0 n = g (o n) := by rw [e3, sI_f (by omega)]; exact a2
        rw [b7] at e4
        refine ⟨n, by omega, by omega, ?_, by rw [q0, hp], fun i hi => ?_, fun i h1 h2 => ?_, ?_⟩
        · rw [e5]; exact pk_m1 n
        · dsimp only
          rw [e4, sI_k (show i ≠ n + 1 by omega), sI_f (by omega), e3, sI_k (show i ≠ n + 1 by omega), sI_f (by omega)]
          exact q1 i (by omega)
        · dsimp only
          rw [e4, e3]
          by_cases hi : i = n + 1
          · subst hi
            rw [sI_at, sI_f (by omega), sI_at]
            exact ⟨rfl, rfl⟩
          · rw [sI_k hi, sI_f (by omega), sI_k hi, sI_f (by omega)]
            exact q2 i (by omega) h2
        · rw [e4, e3]
          exact q3.tr ((fr_sI (Or.inl rfl)).tr (fr_sI (Or.inr rfl)))
  · rintro σ5 x6 ⟨rfl, q1, q2, q3⟩
    dsimp only at q1 q2 q3 ⊢
    have hp := pls_le g o (g s) m
    generalize hpp : pls g o (g s) m = p at *
    have hib : ib (nI p) 64 := nI_ib (by omega) (by omega)
    rw [nI_cl (by omega)]
    refine ok_gd hib (ok_nm (fun σ7 e7 => ok_gd hib (ok_nm (fun σ8 e8 => ok_nm (fun σ9 e9 => ok_some ?_)))))
    have a5 : σ8.1 5 0 2 = nI m := by rw [e8, sI_f (by omega), e7, sI_f (by omega), q3.i (by omega)]; exact h.1
    rw [a5, nI_1] at e9
    refine ⟨⟨by rw [e9, sI_at], fun k hk => ?_⟩, ?_⟩
    · rw [e9, sI_f (by omega), sI_f (by omega), e8, sI_f (by omega), e7]
      simp only [ins]
      by_cases c1 : k < p
      · rw [if_pos c1, sI_k (show k ≠ p by omega), sI_k (show k ≠ p by omega), sI_f (by omega)]
        exact q1 k c1
      · rw [if_neg c1]
        by_cases c2 : k = p
        · subst c2
          rw [if_pos rfl, sI_at, sI_at]
          exact ⟨rfl, rfl⟩
        · rw [if_neg c2, sI_k c2, sI_k c2, sI_f (by omega)]
          exact q2 k (by omega) (by omega)
    · rw [e9, e8, e7]
      exact (q3.mono (fun f i k z => by omega)).tr ((fr_sI (Or.inl rfl)).tr ((fr_sI (Or.inr (Or.inl rfl))).tr (fr_sI (Or.inr (Or.inr ⟨rfl, rfl⟩)))))
theorem s_order {σ : St} {g : Nat → Int32} {f i na s : Nat} (hg : ∀ k, k < s → σ.1 f i k = g k) (hs : s ≤ na) (hna : na ≤ 64) (hf : 8 ≤ f ∨ f = 2) : ok (f_Packages_order σ f i na (nI s)) (fun σ1 => OD σ1 g (ordm g s) (ordo g s) ∧ fr F567 σ σ1) := by
  unfold f_Packages_order
  refine ok_nm (fun σ1 e1 => ok_b2 (Q := fun q => OD q.1 g (ordm g s) (ordo g s) ∧ fr F567 σ q.1) (ok_up s (fun n q => q.2 = nI n ∧ OD q.1 g (ordm g n) (ordo g n) ∧ fr F567 σ q.1) ?_ ?_ 0 _ (Nat.zero_le _) ⟨rfl, ⟨?_, fun k hk => absurd hk (by simp [ordm])⟩, ?_⟩) (fun σ5 x6 h => ok_some h))
  · rintro n ⟨σ2, x⟩ hn ⟨rfl, q1, q2⟩
    dsimp only at q1 q2 ⊢
    have hib : ib (nI n) na := nI_ib (by omega) (by omega)
    have hgn : σ2.1 f i n = g n := by rw [q2.i (by omega)]; exact hg n hn
    have hm := ordm_le g n
    unfold lb_Packages_order_7
    rw [nI_cl (by omega), hgn]
    refine ok_f (nI_ge hn (by omega)) (ok_gd hib (ok_if (fun hc => ok_nm (fun x2 e2 => ok_some ?_)) (fun hc => ok_gd hib (ok_b1 (s_insert q1 (by omega)) (fun σ3 h3 => ok_nm (fun x4 e4 => ok_some ?_))))))
    · refine ⟨by rw [e2, nI_1], ?_, q2⟩
      simp only [ordm, ordo]
      rw [if_pos hc, if_pos hc]
      exact q1
    · refine ⟨by rw [e4, nI_1], ?_, q2.tr h3.2⟩
      simp only [ordm, ordo]
      rw [if_neg hc, if_neg hc]
      exact h3.1
  · rintro ⟨σ2, x⟩ ⟨rfl, q1, q2⟩
    unfold lb_Packages_order_7
    exact ok_t (nI_le (Nat.le_refl _) (by omega)) (ok_some ⟨q1, q2⟩)
  · rw [e1, sI_at]
    rfl
  · rw [e1]
    exact fr_sI (Or.inr (Or.inr ⟨rfl, rfl⟩))
