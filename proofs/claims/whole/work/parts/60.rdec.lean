/-! ===== reading a word, the reference ===== -/
theorem LR.go {σ σ1 : St} {c s : Nat} {L : Nat → Nat} (h : LR σ c s L) (h1 : σ1.1 49 0 = σ.1 49 0) (h2 : σ1.1 50 0 = σ.1 50 0) : LR σ1 c s L := by
  unfold LR at *
  rw [h1, h2]
  exact h
theorem s_taken87 {σ : St} {c s n v : Nat} {L : Nat → Nat} (h : LR σ c s L) (a : Int32) (hn : n ≤ 14) (hv : 2 * wa (fun m => cnt L m s) n ≤ v) (hv2 : v < 2 ^ 15) : ok (lpE (fun q => lb_Mo_taken_87 (nI c) a (nI v) (nI (n + 1)) q.1 q.2.1 q.2.2) (σ, 0, 0)) (fun z => match z with | .inl q => q.1 = σ ∧ ¬ v < wa (fun m => cnt L m s) (n + 1) ∧ ((q.2.1 = 0 ∧ fil (fun m => cnt L m s) 15 ≤ v * 2 ^ (15 - (n + 1))) ∨ (q.2.1 = 1 ∧ ¬ fil (fun m => cnt L m s) 15 ≤ v * 2 ^ (15 - (n + 1)))) | .inr o => o.1 = σ ∧ v < wa (fun m => cnt L m s) (n + 1) ∧ o.2 = nI (sy L s (hvn (fun m => cnt L m s) n + (v - 2 * wa (fun m => cnt L m s) n)))) := by
  have hs := h.2.1
  have hc := h.2.2.1
  refine ok_up s (fun k q => q.1 = σ ∧ q.2.2 = nI k ∧ (∀ m, m < k → ¬ (L m = n + 1 ∧ wrd L s m = v)) ∧ ((q.2.1 = 0 ∧ ∀ m, m < k → ¬ (n + 1 < L m ∧ wrd L s m / 2 ^ (L m - (n + 1)) = v)) ∨ (q.2.1 = 1 ∧ ∃ m, m < k ∧ n + 1 < L m ∧ wrd L s m / 2 ^ (L m - (n + 1)) = v))) ?_ ?_ 0 _ (Nat.zero_le _) ⟨rfl, rfl, fun m hm => absurd hm (by omega), Or.inl ⟨rfl, fun m hm => absurd hm (by omega)⟩⟩
  · rintro k ⟨σ1, fl, x⟩ hk ⟨rfl, rfl, q1, q2⟩
    dsimp only at q2 ⊢
    have hl := (h.2.2.2 k hk).2
    unfold lb_Mo_taken_87
    rw [nI_cl (by omega), h.1]
    refine ok_gd (nI_ib (by omega) (by omega)) (ok_f (nI_ge hk (by omega)) ?_)
    rw [e_lengthOf h hk]
    dsimp only [b2]
    refine ok_if (fun k1 => ok_nm (fun x5 e5 => ok_some ?_)) (fun k1 => ?_)
    · have k1' := (nI_ltI (by omega) (by omega)).mp k1
      dsimp only
      refine ⟨rfl, by rw [e5, nI_1], fun m hm => ?_, ?_⟩
      · rcases Nat.lt_or_ge m k with z | z
        · exact q1 m z
        · have : m = k := by omega
          subst this
          omega
      · rcases q2 with ⟨r1, r2⟩ | ⟨r1, m, r2, r3, r4⟩
        · refine Or.inl ⟨r1, fun m hm => ?_⟩
          rcases Nat.lt_or_ge m k with z | z
          · exact r2 m z
          · have : m = k := by omega
            subst this
            omega
        · exact Or.inr ⟨r1, m, by omega, r3, r4⟩
    · have k1' : ¬ L k < n + 1 := fun z => k1 (nI_lt z (by omega))
      have hw := wrd_lt hk hs (show 1 ≤ L k by omega) hl
      have hwd : wrd L s k / 2 ^ (L k - (n + 1)) ≤ wrd L s k := Nat.div_le_self _ _
      obtain ⟨⟨σ2, x7⟩, w1, w2⟩ := e_wordOf h hk (show 1 ≤ L k by omega)
      cases w2
      rw [w1]
      dsimp only
      rw [pk_sub (by omega), pk_shrN (by omega) _ (L k - (n + 1)) (s_l _ (by omega))]
      refine ok_if (fun k2 => ok_if (fun k3 => ok_some ?_) (fun k3 => ok_nm (fun x9 e9 => ok_some ?_))) (fun k2 => ok_nm (fun x8 e8 => ok_some ?_))
      · have k2' := (nI_eq (by omega) (by omega)).mp k2
        have k3' := (nI_eq (by omega) (by omega)).mp k3
        rw [k3', Nat.sub_self, Nat.pow_zero, Nat.div_one] at k2'
        have hhi := wrd_hi hk (show 1 ≤ L k by omega)
        rw [k3', k2'] at hhi
        refine ⟨rfl, hhi, ?_⟩
        dsimp only
        rw [sy_eq hk (by omega) ?_]
        unfold plc
        unfold wrd at k2'
        rw [k3', Nat.add_sub_cancel] at k2' ⊢
        omega
      · have k2' := (nI_eq (by omega) (by omega)).mp k2
        have k3' : ¬ L k = n + 1 := fun z => k3 (by rw [z])
        dsimp only
        refine ⟨rfl, by rw [e9, nI_1], fun m hm => ?_, Or.inr ⟨rfl, k, by omega, by omega, k2'⟩⟩
        rcases Nat.lt_or_ge m k with z | z
        · exact q1 m z
        · have : m = k := by omega
          subst this
          exact fun z => k3' z.1
      · have k2' : ¬ wrd L s k / 2 ^ (L k - (n + 1)) = v := fun z => k2 (by rw [z])
        dsimp only
        refine ⟨rfl, by rw [e8, nI_1], fun m hm => ?_, ?_⟩
        · rcases Nat.lt_or_ge m k with z | z
          · exact q1 m z
          · have : m = k := by omega
            subst this
            rintro ⟨z1, z2⟩
            rw [z1, Nat.sub_self, Nat.pow_zero, Nat.div_one] at k2'
            exact k2' z2
        · rcases q2 with ⟨r1, r2⟩ | ⟨r1, m, r2, r3, r4⟩
          · refine Or.inl ⟨r1, fun m hm => ?_⟩
            rcases Nat.lt_or_ge m k with z | z
            · exact r2 m z
            · have : m = k := by omega
              subst this
              exact fun z => k2' z.2
          · exact Or.inr ⟨r1, m, by omega, r3, r4⟩
  · rintro ⟨σ1, fl, x⟩ ⟨rfl, rfl, q1, q2⟩
    dsimp only at q2 ⊢
    unfold lb_Mo_taken_87
    rw [nI_cl (by omega), h.1]
    refine ok_gd (nI_ib (by omega) (by omega)) (ok_t (nI_le (Nat.le_refl _) (by omega)) (ok_some ?_))
    dsimp only
    have hnw : ¬ v < wa (fun m => cnt L m s) (n + 1) := by
      intro z
      obtain ⟨k, r1, r2, r3, -, -⟩ := sym_at (L := L) (s := s) hv z
      exact q1 k r1 ⟨r2, r3⟩
    have hb := begins (L := L) (s := s) (n := n + 1) (v := v) (fun k hk => (h.2.2.2 k hk).2) (by omega) (by omega)
    refine ⟨rfl, hnw, ?_⟩
    rcases q2 with ⟨r1, r2⟩ | ⟨r1, m, r2, r3, r4⟩
    · refine Or.inl ⟨r1, Nat.not_lt.mp (fun z => ?_)⟩
      obtain ⟨k, z1, z2, z3⟩ := hb.mpr z
      exact r2 k z1 ⟨z2, z3⟩
    · exact Or.inr ⟨r1, Nat.not_le.mpr (hb.mp ⟨m, r2, r3, r4⟩)⟩
theorem s_taken81 {σ : St} {c s n v : Nat} {L : Nat → Nat} (h : LR σ c s L) (a : Int32) (hn : n ≤ 14) (hv : 2 * wa (fun m => cnt L m s) n ≤ v) (hv2 : v < 2 ^ 15) : ok (jn_Mo_taken_81 (nI c) a σ (nI v) (nI (n + 1))) (fun z => z = if v < wa (fun m => cnt L m s) (n + 1) then .inr (.inr (σ, nI (sy L s (hvn (fun m => cnt L m s) n + (v - 2 * wa (fun m => cnt L m s) n))))) else if fil (fun m => cnt L m s) 15 ≤ v * 2 ^ (15 - (n + 1)) then .inr (.inr (σ, -105)) else .inl (σ, nI v, nI (n + 2))) := by
  unfold jn_Mo_taken_81
  refine ok_bs3 (s_taken87 h a hn hv hv2) (fun σ1 x y hq => ?_) (fun r hq => ok_some ?_)
  · obtain ⟨q1, q2, q3⟩ := hq
    dsimp only at q1 q3
    subst q1
    rcases q3 with ⟨r1, r2⟩ | ⟨r1, r2⟩
    · refine ok_t r1 (ok_some ?_)
      rw [if_neg q2, if_pos r2]
    · refine ok_f (by rw [r1]; decide) (ok_nm (fun x13 e13 => ok_some ?_))
      rw [if_neg q2, if_neg r2, e13, nI_1]
  · obtain ⟨q1, q2, q3⟩ := hq
    obtain ⟨r1, r2⟩ := r
    dsimp only at q1 q3
    rw [if_pos q2, q1, q3]
theorem SR_nil {σ : St} (h : SR σ []) : σ.1 48 0 12 = σ.1 48 0 11 := by
  obtain ⟨f, a1, a2, -⟩ := h
  rw [a1, a2]
  rfl
theorem SR_first {σ : St} {b : Bool} {B : List Bool} (h : SR σ (b :: B)) : ¬ σ.1 48 0 12 = σ.1 48 0 11 ∧ ib (σ.1 48 0 11) 60000 ∧ σ.1 57 0 (σ.1 48 0 11).toNatClampNeg = b2i b ∧ SR (sI σ 48 0 11 (σ.1 48 0 11 + 1)) B := by
  obtain ⟨f, a1, a2, a3, a4, a5⟩ := h
  have hl : (b :: B).length = B.length + 1 := rfl
  rw [hl] at a2 a3 a4 a5
  rw [a1, a2, nI_cl (by omega), nI_1]
  refine ⟨fun z => by have := (nI_eq (by omega) (by omega)).mp z; omega, nI_ib (by omega) (by omega), ?_, f + 1, by rw [sI_at], by rw [sI_k (by omega), a2]; congr 1; omega, by omega, by omega, fun i hi => ?_⟩
  · have := a5 0 (by omega)
    simpa [List.getD] using this
  · rw [sI_f (by omega), show f + 1 + i = f + (i + 1) by omega, a5 (i + 1) (by omega)]
    simp [List.getD]
theorem SR_last {σ : St} {b : Bool} {B : List Bool} (h : SR σ (B ++ [b])) : ¬ σ.1 48 0 12 = σ.1 48 0 11 ∧ ib ((sI σ 48 0 12 (σ.1 48 0 12 - 1)).1 48 0 12) 60000 ∧ (sI σ 48 0 12 (σ.1 48 0 12 - 1)).1 57 0 ((sI σ 48 0 12 (σ.1 48 0 12 - 1)).1 48 0 12).toNatClampNeg = b2i b ∧ SR (sI σ 48 0 12 (σ.1 48 0 12 - 1)) B := by
  obtain ⟨f, a1, a2, a3, a4, a5⟩ := h
  have hl : (B ++ [b]).length = B.length + 1 := by simp
  rw [hl] at a2 a3 a4 a5
  rw [a1, a2, show f + (B.length + 1) = f + B.length + 1 by omega, nI_pred, sI_at, nI_cl (by omega), sI_f (by omega)]
  refine ⟨fun z => by have := (nI_eq (by omega) (by omega)).mp z; omega, nI_ib (by omega) (by omega), ?_, f, by rw [sI_k (by omega)]; exact a1, by rw [sI_at], by omega, by omega, fun i hi => ?_⟩
  · rw [a5 B.length (by omega)]
    simp [List.getD]
  · rw [sI_f (by omega), a5 i (by omega)]
    simp [List.getD, List.getElem?_append_left hi]
theorem v2_b {v : Nat} (b : Bool) : (2 : Int32) * nI v + b2i b = nI (2 * v + b.toNat) := by
  show nI 2 * nI v + b2i b = _
  rw [b2i_nI, pk_mul, nI_add]
/-- taken, from the beginning -/
theorem s_taken {σ : St} {c s : Nat} {L : Nat → Nat} {B : List Bool} (hC : LR σ c s L) (hS : SR σ B) : ok (f_Mo_taken σ (nI c) 0) (fun o => o.2 = (dec L s B 0 0).1 ∧ SR o.1 (dec L s B 0 0).2 ∧ fr Ft σ o.1) := by
  unfold f_Mo_taken
  refine ok_bs3 (Q := fun z => match z with | .inl _ => False | .inr o => o.2 = (dec L s B 0 0).1 ∧ SR o.1 (dec L s B 0 0).2 ∧ fr Ft σ o.1) (ok_lp (fun t q => ∃ (n v : Nat) (B' : List Bool), t = 15 - n ∧ n ≤ 14 ∧ q.2.1 = nI v ∧ q.2.2 = nI (n + 1) ∧ wa (fun m => cnt L m s) n ≤ v ∧ v < 2 ^ n ∧ SR q.1 B' ∧ dec L s B' n v = dec L s B 0 0 ∧ fr Ft σ q.1) ?_ 15 _ ⟨0, 0, B, rfl, by omega, rfl, rfl, Nat.le_refl _, by decide, hS, rfl, fr.rf⟩) (fun σ1 x y hq => hq.elim) (fun r hq => ok_some hq)
  rintro t ⟨σ1, x, y⟩ ⟨n, v, B', rfl, hn, rfl, rfl, q1, q2, q4, q5, q6⟩
  dsimp only at q4 q6 ⊢
  have b0 : 2 ^ n ≤ 2 ^ 14 := Nat.pow_le_pow_right (by omega) hn
  unfold lb_Mo_taken_5
  refine ok_f (nI_nlt (a := 15) (b := n + 1) (by omega) (by omega)) ?_
  cases B' with
  | nil =>
    refine ok_t (SR_nil q4) (ok_some ?_)
    dsimp only
    rw [← q5]
    exact ⟨rfl, q4, q6⟩
  | cons b B' =>
    obtain ⟨s1, s2, s3, s4⟩ := SR_first q4
    have hb := bool_le b
    refine ok_f s1 (ok_t rfl (ok_gd s2 ?_))
    rw [s3, v2_b]
    refine ok_nm (fun x1 e1 => ok_nm (fun σ2 e2 => ?_))
    have f2 : fr Ft σ σ2 := by rw [e2]; exact q6.tr (fr_sI ⟨rfl, rfl⟩)
    rw [← e2] at s4
    rw [e1]
    refine (s_taken81 (hC.go (f2.fi (fun _ => by omega)) (f2.fi (fun _ => by omega))) 0 hn (show 2 * wa (fun m => cnt L m s) n ≤ 2 * v + b.toNat by omega) (by omega)).mono (fun z hz => ?_)
    subst hz
    simp only [dec] at q5
    by_cases k1 : 2 * v + b.toNat < wa (fun m => cnt L m s) (n + 1)
    · rw [if_pos k1] at q5 ⊢
      dsimp only
      rw [← q5]
      exact ⟨rfl, s4, f2⟩
    · rw [if_neg k1] at q5 ⊢
      by_cases k2 : fil (fun m => cnt L m s) 15 ≤ (2 * v + b.toNat) * 2 ^ (15 - (n + 1))
      · rw [if_pos k2] at q5 ⊢
        dsimp only
        rw [← q5]
        exact ⟨rfl, s4, f2⟩
      · rw [if_neg k2] at q5 ⊢
        have hn2 : n + 1 ≤ 14 := by
          rcases Nat.lt_or_ge n 14 with z | z
          · omega
          · have : n = 14 := by omega
            subst this
            exact absurd (wa15 k1) k2
        exact ⟨15 - (n + 1), by omega, n + 1, 2 * v + b.toNat, B', rfl, hn2, rfl, rfl, by omega, by rw [Nat.pow_succ]; omega, s4, q5, f2⟩
/-- taken, from the end -/
theorem s_takenB {σ : St} {c s : Nat} {L : Nat → Nat} {B : List Bool} (hC : LR σ c s L) (hS : SR σ B.reverse) {a : Int32} (ha : a ≠ 0) : ok (f_Mo_taken σ (nI c) a) (fun o => o.2 = (dec L s B 0 0).1 ∧ SR o.1 (dec L s B 0 0).2.reverse ∧ fr Fm σ o.1) := by
  unfold f_Mo_taken
  refine ok_bs3 (Q := fun z => match z with | .inl _ => False | .inr o => o.2 = (dec L s B 0 0).1 ∧ SR o.1 (dec L s B 0 0).2.reverse ∧ fr Fm σ o.1) (ok_lp (fun t q => ∃ (n v : Nat) (B' : List Bool), t = 15 - n ∧ n ≤ 14 ∧ q.2.1 = nI v ∧ q.2.2 = nI (n + 1) ∧ wa (fun m => cnt L m s) n ≤ v ∧ v < 2 ^ n ∧ SR q.1 B'.reverse ∧ dec L s B' n v = dec L s B 0 0 ∧ fr Fm σ q.1) ?_ 15 _ ⟨0, 0, B, rfl, by omega, rfl, rfl, Nat.le_refl _, by decide, hS, rfl, fr.rf⟩) (fun σ1 x y hq => hq.elim) (fun r hq => ok_some hq)
  rintro t ⟨σ1, x, y⟩ ⟨n, v, B', rfl, hn, rfl, rfl, q1, q2, q4, q5, q6⟩
  dsimp only at q4 q6 ⊢
  have b0 : 2 ^ n ≤ 2 ^ 14 := Nat.pow_le_pow_right (by omega) hn
  unfold lb_Mo_taken_5
  refine ok_f (nI_nlt (a := 15) (b := n + 1) (by omega) (by omega)) ?_
  cases B' with
  | nil =>
    refine ok_t (SR_nil q4) (ok_some ?_)
    dsimp only
    rw [← q5]
    exact ⟨rfl, q4, q6⟩
  | cons b B' =>
    rw [List.reverse_cons] at q4
    obtain ⟨s1, s2, s3, s4⟩ := SR_last q4
    have hb := bool_le b
    refine ok_f s1 (ok_f ha (ok_nm (fun σ2 e2 => ?_)))
    rw [← e2] at s2 s3 s4
    refine ok_gd s2 ?_
    rw [s3, v2_b]
    refine ok_nm (fun x1 e1 => ?_)
    have f2 : fr Fm σ σ2 := by rw [e2]; exact q6.tr (fr_sI (Or.inr ⟨rfl, Or.inr rfl⟩))
    rw [e1]
    refine (s_taken81 (hC.go (f2.fi (fun _ => by omega)) (f2.fi (fun _ => by omega))) a hn (show 2 * wa (fun m => cnt L m s) n ≤ 2 * v + b.toNat by omega) (by omega)).mono (fun z hz => ?_)
    subst hz
    simp only [dec] at q5
    by_cases k1 : 2 * v + b.toNat < wa (fun m => cnt L m s) (n + 1)
    · rw [if_pos k1] at q5 ⊢
      dsimp only
      rw [← q5]
      exact ⟨rfl, s4, f2⟩
    · rw [if_neg k1] at q5 ⊢
      by_cases k2 : fil (fun m => cnt L m s) 15 ≤ (2 * v + b.toNat) * 2 ^ (15 - (n + 1))
      · rw [if_pos k2] at q5 ⊢
        dsimp only
        rw [← q5]
        exact ⟨rfl, s4, f2⟩
      · rw [if_neg k2] at q5 ⊢
        have hn2 : n + 1 ≤ 14 := by
          rcases Nat.lt_or_ge n 14 with z | z
          · omega
          · have : n = 14 := by omega
            subst this
            exact absurd (wa15 k1) k2
        exact ⟨15 - (n + 1), by omega, n + 1, 2 * v + b.toNat, B', rfl, hn2, rfl, rfl, by omega, by rw [Nat.pow_succ]; omega, s4, q5, f2⟩
