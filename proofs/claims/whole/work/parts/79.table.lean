/-! ===== the class's table ===== -/
/-- the parts, after the first p words -/
def PT (L : Nat → Nat) (s r p N : Nat) (Pf Pb : Nat → Nat) : Prop := (∀ t, t < N → ∃ q, q < p ∧ r < L (sy L s q) ∧ prf L s r (sy L s q) = Pf t ∧ L (sy L s q) - r = Pb t) ∧ (∀ t, t + 1 < N → Pf t < Pf (t + 1)) ∧ (∀ q, q < p → r < L (sy L s q) → ∃ t, t < N ∧ Pf t = prf L s r (sy L s q) ∧ L (sy L s q) - r ≤ Pb t) ∧ N ≤ p
theorem PT_lt {L : Nat → Nat} {s r p N : Nat} {Pf Pb : Nat → Nat} (h : PT L s r p N Pf Pb) : ∀ {a b : Nat}, a < b → b < N → Pf a < Pf b := by
  intro a b hab hb
  induction b with
  | zero => omega
  | succ b ih =>
    have h1 := h.2.1 b hb
    rcases Nat.lt_or_ge a b with q | q
    · have := ih q (by omega)
      omega
    · rw [show a = b by omega]; exact h1
theorem PT_skip {L : Nat → Nat} {s r p N : Nat} {Pf Pb : Nat → Nat} (h : PT L s r p N Pf Pb) (hl : L (sy L s p) ≤ r) : PT L s r (p + 1) N Pf Pb := by
  obtain ⟨h1, h2, h3, h4⟩ := h
  refine ⟨fun t ht => ?_, h2, fun q hq hr => ?_, by omega⟩
  · obtain ⟨q, a, b⟩ := h1 t ht
    exact ⟨q, by omega, b⟩
  · rcases Nat.lt_or_ge q p with z | z
    · exact h3 q z hr
    · rw [show q = p by omega] at hr
      omega
theorem PT_new {L : Nat → Nat} {s r p N : Nat} {Pf Pb : Nat → Nat} (hp : p < hvn (fun m => cnt L m s) 15) (h : PT L s r p N Pf Pb) (hl : r < L (sy L s p)) (hN : N = 0 ∨ ¬ Pf (N - 1) = prf L s r (sy L s p)) : PT L s r (p + 1) (N + 1) (setF Pf N (prf L s r (sy L s p))) (setF Pb N (L (sy L s p) - r)) := by
  obtain ⟨h1, h2, h3, h4⟩ := h
  obtain ⟨p1, p2, p3, p4⟩ := sy_ok hp
  refine ⟨fun t ht => ?_, fun t ht => ?_, fun q hq hr => ?_, by omega⟩
  · unfold setF
    rcases Nat.lt_or_ge t N with z | z
    · rw [if_neg (by omega), if_neg (by omega)]
      obtain ⟨q, a, b⟩ := h1 t z
      exact ⟨q, by omega, b⟩
    · rw [if_pos (by omega), if_pos (by omega)]
      exact ⟨p, by omega, hl, rfl, rfl⟩
  · unfold setF
    rw [if_neg (by omega)]
    rcases Nat.lt_or_ge (t + 1) N with z | z
    · rw [if_neg (by omega)]
      exact h2 t z
    · rw [if_pos (by omega)]
      have htN : t = N - 1 := by omega
      obtain ⟨q, a, b, c, d⟩ := h1 t (by omega)
      obtain ⟨q1, q2, q3, q4⟩ := sy_ok (L := L) (s := s) (show q < hvn (fun m => cnt L m s) 15 by omega)
      have hm := prf_mono (r := r) q1 p1 b hl q3 p3 (by omega)
      rcases hN with hN | hN
      · omega
      · rw [← htN] at hN
        omega
  · unfold setF
    rcases Nat.lt_or_ge q p with z | z
    · obtain ⟨t, a, b, c⟩ := h3 q z hr
      refine ⟨t, by omega, ?_⟩
      rw [if_neg (by omega), if_neg (by omega)]
      exact ⟨b, c⟩
    · have : q = p := by omega
      subst this
      refine ⟨N, by omega, ?_⟩
      rw [if_pos rfl, if_pos rfl]
      exact ⟨rfl, Nat.le_refl _⟩
theorem PT_ext {L : Nat → Nat} {s r p N : Nat} {Pf Pb : Nat → Nat} (hp : p < hvn (fun m => cnt L m s) 15) (h : PT L s r p N Pf Pb) (hl : r < L (sy L s p)) (hN : 1 ≤ N) (he : Pf (N - 1) = prf L s r (sy L s p)) : PT L s r (p + 1) N Pf (setF Pb (N - 1) (L (sy L s p) - r)) := by
  obtain ⟨h1, h2, h3, h4⟩ := h
  obtain ⟨p1, p2, p3, p4⟩ := sy_ok hp
  refine ⟨fun t ht => ?_, h2, fun q hq hr => ?_, by omega⟩
  · unfold setF
    rcases Nat.lt_or_ge t (N - 1) with z | z
    · rw [if_neg (by omega)]
      obtain ⟨q, a, b⟩ := h1 t ht
      exact ⟨q, by omega, b⟩
    · have : t = N - 1 := by omega
      subst this
      rw [if_pos rfl]
      exact ⟨p, by omega, hl, he.symm, rfl⟩
  · unfold setF
    rcases Nat.lt_or_ge q p with z | z
    · obtain ⟨t, a, b, c⟩ := h3 q z hr
      obtain ⟨q1, q2, q3, q4⟩ := sy_ok (L := L) (s := s) (show q < hvn (fun m => cnt L m s) 15 by omega)
      have hlen := plc_len (a := sy L s q) p1 p2 (by omega)
      refine ⟨t, a, b, ?_⟩
      split
      · omega
      · exact c
    · have : q = p := by omega
      subst this
      refine ⟨N - 1, by omega, he, ?_⟩
      rw [if_pos rfl]
      exact Nat.le_refl _
/-- what the parts are, at the end -/
theorem PT_ms {L : Nat → Nat} {s r N : Nat} {Pf Pb : Nat → Nat} (hL : ∀ k, k < s → L k ≤ 15) (h : PT L s r (hvn (fun m => cnt L m s) 15) N Pf Pb) : (∀ t, t < N → ms L s r (Pf t) s = Pb t ∧ Pb t ≠ 0) ∧ ∀ j, ms L s r j s ≠ 0 → ∃ t, t < N ∧ Pf t = j := by
  have hsur : ∀ k, k < s → r < L k → ∃ t, t < N ∧ Pf t = prf L s r k ∧ L k - r ≤ Pb t := by
    intro k hk hr
    have h1 := plc_ub hk (show 1 ≤ L k by omega)
    have h2 := hvn_mono (fun m => cnt L m s) (hL k hk)
    have h3 := h.2.2.1 (plc L s k) (by omega)
    rw [sy_eq hk (by omega) rfl] at h3
    exact h3 hr
  refine ⟨fun t ht => ?_, fun j hj => ?_⟩
  · obtain ⟨q, a, b, c, d⟩ := h.1 t ht
    obtain ⟨q1, q2, q3, q4⟩ := sy_ok a
    have e1 := (ms_spec L s r (Pf t) s).1 _ q1 b c
    refine ⟨?_, by omega⟩
    rcases (ms_spec L s r (Pf t) s).2 with z | ⟨k, k1, k2, k3, k4⟩
    · omega
    · obtain ⟨t', a', b', c'⟩ := hsur k k1 k2
      have : t' = t := by
        rcases Nat.lt_trichotomy t' t with y | y | y
        · have := PT_lt h y ht
          omega
        · exact y
        · have := PT_lt h y a'
          omega
      subst this
      omega
  · rcases (ms_spec L s r j s).2 with z | ⟨k, k1, k2, k3, k4⟩
    · exact absurd z hj
    · obtain ⟨t', a', b', c'⟩ := hsur k k1 k2
      exact ⟨t', a', by omega⟩
def Xs (L : Nat → Nat) (s r N : Nat) (Pf : Nat → Nat) (t : Nat) : Nat := if t < N then Gs L s r (Pf t) else Gs L s r (2 ^ r)
theorem Xs_0 {L : Nat → Nat} {s r N : Nat} {Pf Pb : Nat → Nat} (hL : ∀ k, k < s → L k ≤ 15) (h : PT L s r (hvn (fun m => cnt L m s) 15) N Pf Pb) : Xs L s r N Pf 0 = 0 := by
  obtain ⟨m1, m2⟩ := PT_ms hL h
  unfold Xs
  split
  · rw [Gs_gap (a := 0) (Nat.zero_le _)]
    · rfl
    · intro j _ hj
      rcases Nat.eq_zero_or_pos (ms L s r j s) with z | z
      · exact z
      · obtain ⟨t, t1, t2⟩ := m2 j (by omega)
        rcases Nat.eq_zero_or_pos t with y | y
        · subst y
          omega
        · have := PT_lt h y t1
          omega
  · rw [Gs_gap (a := 0) (Nat.zero_le _)]
    · rfl
    · intro j _ hj
      rcases Nat.eq_zero_or_pos (ms L s r j s) with z | z
      · exact z
      · obtain ⟨t, t1, t2⟩ := m2 j (by omega)
        omega
theorem PT_pf {L : Nat → Nat} {s r N : Nat} {Pf Pb : Nat → Nat} (hf : fil (fun m => cnt L m s) 15 ≤ 32768) (h : PT L s r (hvn (fun m => cnt L m s) 15) N Pf Pb) {t : Nat} (ht : t < N) : Pf t < 2 ^ r := by
  obtain ⟨q, a, b, c, d⟩ := h.1 t ht
  obtain ⟨q1, q2, q3, q4⟩ := sy_ok a
  rw [← c]
  exact prf_lt q1 b q3 hf
theorem Xs_s {L : Nat → Nat} {s r N : Nat} {Pf Pb : Nat → Nat} (hL : ∀ k, k < s → L k ≤ 15) (hf : fil (fun m => cnt L m s) 15 ≤ 32768) (h : PT L s r (hvn (fun m => cnt L m s) 15) N Pf Pb) {t : Nat} (ht : t < N) : Xs L s r N Pf (t + 1) = Xs L s r N Pf t + 2 ^ Pb t := by
  obtain ⟨m1, m2⟩ := PT_ms hL h
  have hpt := PT_pf hf h ht
  have e1 : Xs L s r N Pf t + 2 ^ Pb t = Gs L s r (Pf t + 1) := by
    unfold Xs
    rw [if_pos ht]
    simp only [Gs]
    unfold gg
    rw [(m1 t ht).1, if_neg (m1 t ht).2]
  rw [e1]
  unfold Xs
  split
  · refine Gs_gap (PT_lt h (Nat.lt_succ_self t) (by omega)) (fun j h1 h2 => ?_)
    rcases Nat.eq_zero_or_pos (ms L s r j s) with z | z
    · exact z
    · obtain ⟨t', t1, t2⟩ := m2 j (by omega)
      rcases Nat.lt_or_ge t t' with y | y
      · rcases Nat.lt_or_ge (t + 1) t' with x | x
        · have := PT_lt h x t1
          omega
        · rw [show t' = t + 1 by omega] at t2
          omega
      · rcases Nat.lt_or_ge t' t with x | x
        · have := PT_lt h x ht
          omega
        · rw [show t' = t by omega] at t2
          omega
  · refine Gs_gap hpt (fun j h1 h2 => ?_)
    rcases Nat.eq_zero_or_pos (ms L s r j s) with z | z
    · exact z
    · obtain ⟨t', t1, t2⟩ := m2 j (by omega)
      rcases Nat.lt_or_ge t' t with x | x
      · have := PT_lt h x ht
        omega
      · rw [show t' = t by omega] at t2
        omega
/-- the class's table -/
def TC (σ : St) (L : Nat → Nat) (s r : Nat) : Prop := ∃ N Pf Pb, σ.1 19 0 0 = nI r ∧ σ.1 19 0 1 = nI (2 ^ r + Gs L s r (2 ^ r)) ∧ σ.1 19 0 2 = nI (hvn (fun m => cnt L m s) 15) ∧ σ.1 19 0 6 = nI N ∧ PT L s r (hvn (fun m => cnt L m s) 15) N Pf Pb ∧ (∀ p, p < hvn (fun m => cnt L m s) 15 → σ.1 20 0 p = nI (sy L s p) ∧ σ.1 21 0 p = nI (L (sy L s p)) ∧ σ.1 22 0 p = nI (wrd L s (sy L s p))) ∧ ∀ t, t < N → σ.1 23 0 t = nI (Pf t) ∧ σ.1 24 0 t = nI (Pb t) ∧ σ.1 25 0 t = nI (2 ^ r + Gs L s r (Pf t))
theorem TC.go {σ σ1 : St} {L : Nat → Nat} {s r : Nat} (h : TC σ L s r) (hf : ∀ f, 19 ≤ f → f ≤ 25 → σ1.1 f 0 = σ.1 f 0) : TC σ1 L s r := by
  unfold TC at *
  rw [hf 19 (by omega) (by omega), hf 20 (by omega) (by omega), hf 21 (by omega) (by omega), hf 22 (by omega) (by omega), hf 23 (by omega) (by omega), hf 24 (by omega) (by omega), hf 25 (by omega) (by omega)]
  exact h
abbrev Ftb : Nat → Nat → Nat → Prop := fun f _ _ => 19 ≤ f ∧ f ≤ 25
/-- what the loop over the words has made -/
def TB1 (σ0 σ : St) (L : Nat → Nat) (s r p N : Nat) (Pf Pb : Nat → Nat) : Prop := σ.1 19 0 0 = nI r ∧ σ.1 19 0 2 = nI (hvn (fun m => cnt L m s) 15) ∧ σ.1 19 0 6 = nI N ∧ PT L s r p N Pf Pb ∧ (∀ q, q < p → σ.1 20 0 q = nI (sy L s q) ∧ σ.1 21 0 q = nI (L (sy L s q)) ∧ σ.1 22 0 q = nI (wrd L s (sy L s q))) ∧ (∀ t, t < N → σ.1 23 0 t = nI (Pf t) ∧ σ.1 24 0 t = nI (Pb t)) ∧ fr Ftb σ0 σ
theorem shl_1 {n : Nat} (h : n < 31) : (1 : Int32) <<< (nI n &&& 31) = nI (2 ^ n) := by
  have : 2 ^ n < 2 ^ 32 := Nat.pow_lt_pow_right (by omega) (by omega)
  have e := shlk (n := 1) (k := n) (by omega) (by rw [Nat.one_mul]; exact this)
  rw [Nat.one_mul] at e
  exact e
theorem s_extendParts {σ : St} {N a b : Nat} {Pf Pb : Nat → Nat} (hN : N < 64) (h6 : σ.1 19 0 6 = nI N) (h23 : ∀ t, t < N → σ.1 23 0 t = nI (Pf t) ∧ σ.1 24 0 t = nI (Pb t)) (ha : a < 2 ^ 31) (hpf : ∀ t, t < N → Pf t < 2 ^ 31) : ok (f_Table_extendParts σ (nI a) (nI b)) (fun σ1 => ((1 ≤ N ∧ Pf (N - 1) = a ∧ σ1.1 19 0 6 = nI N ∧ ∀ t, t < N → σ1.1 23 0 t = nI (Pf t) ∧ σ1.1 24 0 t = nI (setF Pb (N - 1) b t)) ∨ ((N = 0 ∨ ¬ Pf (N - 1) = a) ∧ σ1.1 19 0 6 = nI (N + 1) ∧ ∀ t, t < N + 1 → σ1.1 23 0 t = nI (setF Pf N a t) ∧ σ1.1 24 0 t = nI (setF Pb N b t))) ∧ fr (fun f _ k => (f = 19 ∧ k = 6) ∨ f = 23 ∨ f = 24) σ σ1) := by
  have hnew : (N = 0 ∨ ¬ Pf (N - 1) = a) → ok (jn_Table_extendParts_22 σ (nI a) (nI b)) (fun σ1 => ((1 ≤ N ∧ Pf (N - 1) = a ∧ σ1.1 19 0 6 = nI N ∧ ∀ t, t < N → σ1.1 23 0 t = nI (Pf t) ∧ σ1.1 24 0 t = nI (setF Pb (N - 1) b t)) ∨ ((N = 0 ∨ ¬ Pf (N - 1) = a) ∧ σ1.1 19 0 6 = nI (N + 1) ∧ ∀ t, t < N + 1 → σ1.1 23 0 t = nI (setF Pf N a t) ∧ σ1.1 24 0 t = nI (setF Pb N b t))) ∧ fr (fun f _ k => (f = 19 ∧ k = 6) ∨ f = 23 ∨ f = 24) σ σ1) := by
    intro hc
    unfold jn_Table_extendParts_22
    rw [h6, nI_cl (show N < 2 ^ 31 by omega)]
    refine ok_gd (nI_ib (by omega) (by omega)) (ok_nm (fun σ1 e1 => ?_))
    rw [show σ1.1 19 0 6 = nI N by rw [e1, sI_f (by omega)]; exact h6, nI_1]
    refine ok_nm (fun σ2 e2 => ?_)
    rw [show σ2.1 19 0 6 - 1 = nI N by rw [e2, sI_at, nI_pred], nI_cl (show N < 2 ^ 31 by omega)]
    refine ok_gd (nI_ib (by omega) (by omega)) (ok_nm (fun σ3 e3 => ok_some ⟨Or.inr ⟨hc, ?_, fun t ht => ?_⟩, ?_⟩))
    · rw [e3, sI_f (by omega), e2, sI_at]
    · unfold setF
      rw [e3, sI_f (by omega), e2, sI_f (by omega), e1]
      by_cases htN : t = N
      · subst htN
        rw [sI_at, sI_at, if_pos rfl, if_pos rfl]
        exact ⟨rfl, rfl⟩
      · rw [sI_k htN, sI_k htN, sI_f (by omega), sI_f (by omega), if_neg htN, if_neg htN]
        exact h23 t (by omega)
    · rw [e3, e2, e1]
      exact (fr_sI (by omega)).tr ((fr_sI (by omega)).tr (fr_sI (by omega)))
  unfold f_Table_extendParts
  rw [h6]
  refine ok_if (fun c => hnew (Or.inl ((nI_eq (b := 0) (by omega) (by omega)).mp c))) (fun c => ?_)
  have c' : ¬ N = 0 := fun z => c (by rw [z]; rfl)
  rw [show nI N - 1 = nI (N - 1) from pk_sub (b := 1) (by omega), nI_cl (show N - 1 < 2 ^ 31 by omega), (h23 (N - 1) (by omega)).1]
  refine ok_gd (nI_ib (by omega) (by omega)) (ok_if (fun d => ok_gd (nI_ib (by omega) (by omega)) (ok_nm (fun σ4 e4 => ok_some ⟨Or.inl ⟨by omega, ?_, ?_, fun t ht => ?_⟩, ?_⟩))) (fun d => hnew (Or.inr (fun z => d (by rw [z])))))
  · exact (nI_eq (hpf _ (by omega)) ha).mp d
  · rw [e4, sI_f (by omega)]
    exact h6
  · unfold setF
    rw [e4, sI_f (by omega)]
    by_cases htN : t = N - 1
    · subst htN
      rw [sI_at, if_pos rfl]
      exact ⟨(h23 _ (by omega)).1, rfl⟩
    · rw [sI_k htN, if_neg htN]
      exact h23 t ht
  · rw [e4]
    exact fr_sI (by omega)
theorem s_build {σ : St} {j s r : Nat} {L : Nat → Nat} (hK : CK σ j s L) (hr1 : 1 ≤ r) (hr : r ≤ 9) (hf : fil (fun m => cnt L m s) 15 ≤ 32768) : ok (f_Table_build σ j (nI r)) (fun σ1 => TC σ1 L s r ∧ fr Ftb σ σ1) := by
  have hs := hK.1.2.1
  have hL : ∀ k, k < s → L k ≤ 15 := fun k hk => (hK.1.2.2 k hk).2
  have hH := hvn_le L 15 s
  unfold f_Table_build
  refine ok_nm (fun σ1 e1 => ?_)
  rw [show σ1.1 41 j 8 = nI (hvn (fun m => cnt L m s) 15) by rw [e1, sI_f (by omega)]; exact hK.2.2.2.2.1]
  refine ok_nm (fun σ2 e2 => ok_nm (fun σ3 e3 => ?_))
  have f3 : fr Ftb σ σ3 := by
    rw [e3, e2, e1]
    exact (fr_sI (by omega)).tr ((fr_sI (by omega)).tr (fr_sI (by omega)))
  refine ok_b2 (Q := fun q => ∃ N Pf Pb, TB1 σ q.1 L s r (hvn (fun m => cnt L m s) 15) N Pf Pb) (ok_up (hvn (fun m => cnt L m s) 15) (fun p q => q.2 = nI p ∧ ∃ N Pf Pb, TB1 σ q.1 L s r p N Pf Pb) ?_ ?_ 0 _ (Nat.zero_le _) ⟨rfl, 0, F00, F00, ?_, ?_, ?_, ⟨fun t ht => absurd ht (by omega), fun t ht => absurd ht (by omega), fun q hq => absurd hq (by omega), Nat.le_refl _⟩, fun q hq => absurd hq (by omega), fun t ht => absurd ht (by omega), f3⟩) ?_
  · rintro p ⟨σ4, x⟩ hp ⟨rfl, N, Pf, Pb, q0, q1, q2, q3, q4, q5, q6⟩
    dsimp only at q0 q1 q2 q4 q5 q6 ⊢
    obtain ⟨y1, y2, y3, y4⟩ := sy_ok hp
    have hK4 : CK σ4 j s L := hK.go (fun f _ _ => q6.fi (fun _ => by omega))
    obtain ⟨k43, k44⟩ := hK4.2.2.1 (sy L s p) y1 y2
    rw [y4] at k44
    have k42 := (hK4.1.2.2 (sy L s p) y1).1
    have hw := stt_top y1 y2 y3 hf
    have hw2 : 2 ^ L (sy L s p) ≤ 2 ^ 15 := Nat.pow_le_pow_right (by omega) y3
    have hib : ib (nI p) 64 := nI_ib (by omega) (by omega)
    have hiy : ib (nI (sy L s p)) 64 := nI_ib (by omega) (by omega)
    have hNp := q3.2.2.2
    unfold lb_Table_build_20
    rw [q1, nI_cl (show p < 2 ^ 31 by omega), k44]
    refine ok_f (nI_ge hp (by omega)) (ok_gd hib (ok_nm (fun x4 e4 => ok_gd hib ?_)))
    rw [e4, nI_cl (show sy L s p < 2 ^ 31 by omega)]
    refine ok_nm (fun σ5 e5 => ok_gd hiy (ok_gd hib ?_))
    rw [show σ5.1 42 j (sy L s p) = nI (L (sy L s p)) by rw [e5, sI_f (by omega)]; exact k42]
    refine ok_nm (fun σ6 e6 => ok_gd hiy (ok_gd hib ?_))
    rw [show σ6.1 43 j (sy L s p) = nI (wrd L s (sy L s p)) by rw [e6, sI_f (by omega), e5, sI_f (by omega)]; exact k43]
    refine ok_nm (fun σ7 e7 => ok_gd hib ?_)
    have a21 : σ7.1 21 0 p = nI (L (sy L s p)) := by rw [e7, sI_f (by omega), e6, sI_at]
    have a22 : σ7.1 22 0 p = nI (wrd L s (sy L s p)) := by rw [e7, sI_at]
    have a0 : σ7.1 19 0 0 = nI r := by rw [e7, sI_f (by omega), e6, sI_f (by omega), e5, sI_f (by omega)]; exact q0
    have a2 : σ7.1 19 0 2 = nI (hvn (fun m => cnt L m s) 15) := by rw [e7, sI_f (by omega), e6, sI_f (by omega), e5, sI_f (by omega)]; exact q1
    have a6 : σ7.1 19 0 6 = nI N := by rw [e7, sI_f (by omega), e6, sI_f (by omega), e5, sI_f (by omega)]; exact q2
    have a23 : ∀ t, t < N → σ7.1 23 0 t = nI (Pf t) ∧ σ7.1 24 0 t = nI (Pb t) := fun t ht => by
      rw [e7, sI_f (by omega), sI_f (by omega), e6, sI_f (by omega), sI_f (by omega), e5, sI_f (by omega), sI_f (by omega)]
      exact q5 t ht
    have a20 : ∀ q, q < p + 1 → σ7.1 20 0 q = nI (sy L s q) ∧ σ7.1 21 0 q = nI (L (sy L s q)) ∧ σ7.1 22 0 q = nI (wrd L s (sy L s q)) := by
      intro q hq
      by_cases hqp : q = p
      · subst hqp
        refine ⟨?_, a21, a22⟩
        rw [e7, sI_f (by omega), e6, sI_f (by omega), e5, sI_at]
      · rw [e7, sI_f (by omega), sI_f (by omega), sI_k hqp, e6, sI_f (by omega), sI_k hqp, sI_f (by omega), e5, sI_k hqp, sI_f (by omega), sI_f (by omega)]
        exact q4 q (by omega)
    have f7 : fr Ftb σ σ7 := by
      rw [e7, e6, e5]
      exact q6.tr ((fr_sI (by omega)).tr ((fr_sI (by omega)).tr (fr_sI (by omega))))
    rw [a21, a22, a0]
    refine ok_if (fun c => ok_nm (fun x8 e8 => ok_some ⟨by dsimp only; rw [e8, nI_1], N, Pf, Pb, a0, a2, a6, PT_skip q3 ((nI_leI (by omega) (by omega)).mp c), a20, a23, f7⟩)) (fun c => ?_)
    have c' : r < L (sy L s p) := Nat.lt_of_not_le (fun z => c (nI_le z (by omega)))
    have hprf := prf_lt y1 c' y3 hf
    have hp9 : 2 ^ r ≤ 2 ^ 9 := Nat.pow_le_pow_right (by omega) hr
    rw [pk_sub (show r ≤ L (sy L s p) by omega), pk_ushrN (by omega) _ (L (sy L s p) - r) (s_u _ (by omega))]
    refine ok_gd hib (ok_gd hib (ok_gd hib (ok_b1 (s_extendParts (Pf := Pf) (Pb := Pb) (a := prf L s r (sy L s p)) (by omega) a6 a23 (by omega) (fun t ht => ?_)) (fun σ9 h9 => ok_nm (fun x10 e10 => ok_some ?_)))))
    · obtain ⟨q, z1, z2, z3, z4⟩ := q3.1 t ht
      obtain ⟨w1, w2, w3, w4⟩ := sy_ok (L := L) (s := s) (show q < hvn (fun m => cnt L m s) 15 by omega)
      have := prf_lt w1 z2 w3 hf
      omega
    · obtain ⟨h9, f9⟩ := h9
      have b0 : σ9.1 19 0 0 = nI r := by rw [f9.i (by omega)]; exact a0
      have b2 : σ9.1 19 0 2 = nI (hvn (fun m => cnt L m s) 15) := by rw [f9.i (by omega)]; exact a2
      have b20 : ∀ q, q < p + 1 → σ9.1 20 0 q = nI (sy L s q) ∧ σ9.1 21 0 q = nI (L (sy L s q)) ∧ σ9.1 22 0 q = nI (wrd L s (sy L s q)) := fun q hq => by
        rw [f9.i (by omega), f9.i (by omega), f9.i (by omega)]
        exact a20 q hq
      have f9' : fr Ftb σ σ9 := f7.tr (f9.mono (fun f i k z => by omega))
      refine ⟨by dsimp only; rw [e10, nI_1], ?_⟩
      rcases h9 with ⟨u1, u2, u3, u4⟩ | ⟨u1, u3, u4⟩
      · exact ⟨N, Pf, _, b0, b2, u3, PT_ext hp q3 c' u1 u2, b20, u4, f9'⟩
      · exact ⟨N + 1, _, _, b0, b2, u3, PT_new hp q3 c' u1, b20, u4, f9'⟩
  · rintro ⟨σ4, x⟩ ⟨rfl, N, Pf, Pb, q⟩
    dsimp only at q ⊢
    unfold lb_Table_build_20
    rw [q.2.1]
    exact ok_t (nI_le (Nat.le_refl _) (by omega)) (ok_some ⟨N, Pf, Pb, q⟩)
  · dsimp only
    rw [e3, sI_k (by omega), e2, sI_k (by omega), e1, sI_at]
  · dsimp only
    rw [e3, sI_k (by omega), e2, sI_at]
  · dsimp only
    rw [e3, sI_at]
    rfl
  rintro σ11 x12 ⟨N, Pf, Pb, q0, q1, q2, q3, q4, q5, q6⟩
  dsimp only at q0 q1 q2 q4 q5 q6
  have hNp := q3.2.2.2
  obtain ⟨m1, m2⟩ := PT_ms hL q3
  have hp9 : 2 ^ r ≤ 2 ^ 9 := Nat.pow_le_pow_right (by omega) hr
  have hGs : ∀ i, i ≤ 2 ^ r → Gs L s r i ≤ 32768 := by
    intro i hi
    have h1 := Gs_le (r := r) hL i
    have h2 : i * 2 ^ (15 - r) ≤ 2 ^ r * 2 ^ (15 - r) := Nat.mul_le_mul_right _ hi
    rw [← Nat.pow_add, show r + (15 - r) = 15 by omega] at h2
    omega
  have hX : ∀ t, t ≤ N → Xs L s r N Pf t ≤ 32768 := by
    intro t ht
    unfold Xs
    split
    · exact hGs _ (Nat.le_of_lt (PT_pf hf q3 (by omega)))
    · exact hGs _ (Nat.le_refl _)
  rw [q0, shl_1 (show r < 31 by omega)]
  refine ok_nm (fun σ13 e13 => ?_)
  refine ok_b2 (Q := fun q => q.1.1 19 0 1 = nI (2 ^ r + Gs L s r (2 ^ r)) ∧ (∀ t, t < N → q.1.1 25 0 t = nI (2 ^ r + Gs L s r (Pf t))) ∧ fr (fun f _ k => (f = 19 ∧ k = 1) ∨ f = 25) σ11 q.1) (ok_up N (fun t q => q.2 = nI t ∧ q.1.1 19 0 1 = nI (2 ^ r + Xs L s r N Pf t) ∧ (∀ u, u < t → q.1.1 25 0 u = nI (2 ^ r + Gs L s r (Pf u))) ∧ fr (fun f _ k => (f = 19 ∧ k = 1) ∨ f = 25) σ11 q.1) ?_ ?_ 0 _ (Nat.zero_le _) ⟨rfl, ?_, fun u hu => absurd hu (by omega), ?_⟩) ?_
  · rintro t ⟨σ14, x⟩ ht ⟨rfl, p1, p2, p3⟩
    dsimp only at p1 p2 p3 ⊢
    have hXs := Xs_s hL hf q3 ht
    have hXt := hX t (by omega)
    have hXt1 := hX (t + 1) (by omega)
    have hPb : Pb t ≤ 15 := by
      rw [← (m1 t ht).1]
      have := ms_le (r := r) (j := Pf t) hL
      omega
    unfold lb_Table_build_134
    rw [show σ14.1 19 0 6 = nI N by rw [p3.i (by omega)]; exact q2, nI_cl (show t < 2 ^ 31 by omega), p1]
    refine ok_f (nI_ge ht (by omega)) (ok_gd (nI_ib (by omega) (by omega)) (ok_nm (fun σ15 e15 => ok_gd (nI_ib (by omega) (by omega)) ?_)))
    rw [show σ15.1 19 0 1 = nI (2 ^ r + Xs L s r N Pf t) by rw [e15, sI_f (by omega)]; exact p1, show σ15.1 24 0 t = nI (Pb t) by rw [e15, sI_f (by omega), p3.i (by omega)]; exact (q5 t ht).2, shl_1 (show Pb t < 31 by omega), nI_add]
    refine ok_nm (fun σ16 e16 => ok_nm (fun x17 e17 => ok_some ⟨by dsimp only; rw [e17, nI_1], ?_, fun u hu => ?_, ?_⟩))
    · dsimp only
      rw [e16, sI_at, hXs, Nat.add_assoc]
    · dsimp only
      rw [e16, sI_f (by omega), e15]
      by_cases hut : u = t
      · subst hut
        rw [sI_at]
        unfold Xs
        rw [if_pos ht]
      · rw [sI_k hut]
        exact p2 u (by omega)
    · rw [e16, e15]
      exact p3.tr ((fr_sI (by omega)).tr (fr_sI (by omega)))
  · rintro ⟨σ14, x⟩ ⟨rfl, p1, p2, p3⟩
    dsimp only at p1 p2 p3 ⊢
    unfold lb_Table_build_134
    rw [show σ14.1 19 0 6 = nI N by rw [p3.i (by omega)]; exact q2]
    refine ok_t (nI_le (Nat.le_refl _) (by omega)) (ok_some ⟨?_, p2, p3⟩)
    rw [p1]
    unfold Xs
    rw [if_neg (Nat.lt_irrefl _)]
  · dsimp only
    rw [e13, sI_at, Xs_0 hL q3]
    rfl
  · rw [e13]
    exact fr_sI (by omega)
  · rintro σ17 x18 ⟨p1, p2, p3⟩
    dsimp only at p1 p2 p3
    refine ok_some ⟨⟨N, Pf, Pb, ?_, p1, ?_, ?_, q3, fun p hp => ?_, fun t ht => ⟨?_, ?_, p2 t ht⟩⟩, q6.tr (p3.mono (fun f i k z => by omega))⟩
    · rw [p3.i (by omega)]; exact q0
    · rw [p3.i (by omega)]; exact q1
    · rw [p3.i (by omega)]; exact q2
    · rw [p3.i (by omega), p3.i (by omega), p3.i (by omega)]; exact q4 p hp
    · rw [p3.i (by omega)]; exact (q5 t ht).1
    · rw [p3.i (by omega)]; exact (q5 t ht).2
