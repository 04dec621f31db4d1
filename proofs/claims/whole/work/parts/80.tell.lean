/-! ===== what the class tells of an entry ===== -/
def ev (L : Nat → Nat) (x : Option Nat) (w : Nat) : Int32 := match x with
  | none => if w = 0 then 0 else if w = 1 then -1 else 0
  | some k => if w = 0 then 1 else if w = 1 then nI k else nI (L k)
def lk (a b w : Nat) : Int32 := if w = 0 then 2 else if w = 1 then nI a else nI b
theorem e_pick {σ : St} {w : Nat} {a b c : Int32} (hw : w ≤ 2) : f_Table_pick σ (nI w) a b c = some (σ, if w = 0 then a else if w = 1 then b else c) := by
  unfold f_Table_pick
  rcases (show w = 0 ∨ w = 1 ∨ w = 2 by omega) with rfl | rfl | rfl <;> rfl
theorem e_wordFor {σ : St} {L : Nat → Nat} {s n bits : Nat} (hL : ∀ k, k < s → L k ≤ 15) (hs6 : s ≤ 64) (hn : n ≤ 15) (hb : bits < 2 ^ 31) (h2 : σ.1 19 0 2 = nI (hvn (fun m => cnt L m s) 15)) (h20 : ∀ p, p < hvn (fun m => cnt L m s) 15 → σ.1 20 0 p = nI (sy L s p) ∧ σ.1 21 0 p = nI (L (sy L s p)) ∧ σ.1 22 0 p = nI (wrd L s (sy L s p))) (hw : ∀ p, p < hvn (fun m => cnt L m s) 15 → wrd L s (sy L s p) < 2 ^ 31) : ok (f_Table_wordFor σ (nI bits) (nI n)) (fun o => o.1 = σ ∧ (hs L s 1 bits n s = none → o.2 = -1) ∧ ∀ k, hs L s 1 bits n s = some k → ∃ p, p < hvn (fun m => cnt L m s) 15 ∧ sy L s p = k ∧ o.2 = nI p) := by
  have hH := hvn_le L 15 s
  unfold f_Table_wordFor
  refine ok_bs2 (Q := fun z => match z with | .inl q => q.1 = σ ∧ ∀ p, p < hvn (fun m => cnt L m s) 15 → ¬ hit L s 1 bits n (sy L s p) | .inr o => o.1 = σ ∧ ∃ p, p < hvn (fun m => cnt L m s) 15 ∧ hit L s 1 bits n (sy L s p) ∧ o.2 = nI p) (ok_up (hvn (fun m => cnt L m s) 15) (fun p q => q.1 = σ ∧ q.2 = nI p ∧ ∀ q, q < p → ¬ hit L s 1 bits n (sy L s q)) ?_ ?_ 0 _ (Nat.zero_le _) ⟨rfl, rfl, fun q hq => absurd hq (by omega)⟩) ?_ ?_
  · rintro p ⟨σ1, x⟩ hp ⟨rfl, rfl, q⟩
    dsimp only
    obtain ⟨y1, y2, y3, y4⟩ := sy_ok hp
    obtain ⟨a20, a21, a22⟩ := h20 p hp
    have hw' := hw p hp
    have hib : ib (nI p) 64 := nI_ib (by omega) (by omega)
    unfold lb_Table_wordFor_2
    rw [h2, nI_cl (show p < 2 ^ 31 by omega), a21, a22]
    have nxt : ¬ hit L s 1 bits n (sy L s p) → ∀ q, q < p + 1 → ¬ hit L s 1 bits n (sy L s q) := by
      intro hno q' hq'
      rcases Nat.lt_or_ge q' p with z | z
      · exact q q' z
      · rw [show q' = p by omega]; exact hno
    refine ok_f (nI_ge hp (by omega)) (ok_gd hib (ok_if (fun c => ok_nm (fun x1 e1 => ok_some ⟨rfl, by dsimp only; rw [e1, nI_1], nxt ?_⟩)) (fun c => ok_gd hib (ok_gd hib ?_))))
    · have c' := (nI_ltI (by omega) (by omega)).mp c
      exact fun z => by have := z.2.1; omega
    · have c' : L (sy L s p) ≤ n := Nat.le_of_not_lt (fun z => c (nI_lt z (by omega)))
      have hdl : bits / 2 ^ (n - L (sy L s p)) ≤ bits := Nat.div_le_self _ _
      rw [pk_sub c', pk_ushrN (by omega) _ (n - L (sy L s p)) (s_u _ (by omega))]
      refine ok_if (fun d => ok_some ⟨rfl, p, hp, ⟨y2, c', (nI_eq hw' (by omega)).mp d⟩, rfl⟩) (fun d => ok_nm (fun x2 e2 => ok_some ⟨rfl, by dsimp only; rw [e2, nI_1], nxt (fun z => d (by rw [z.2.2]))⟩))
  · rintro ⟨σ1, x⟩ ⟨rfl, rfl, q⟩
    dsimp only
    unfold lb_Table_wordFor_2
    rw [h2]
    exact ok_t (nI_le (Nat.le_refl _) (by omega)) (ok_some ⟨rfl, q⟩)
  · rintro σ3 x4 ⟨rfl, q⟩
    refine ok_some ⟨rfl, fun _ => rfl, fun k hk => ?_⟩
    obtain ⟨k1, k2⟩ := hs_some hk
    exfalso
    have h1 := plc_ub k1 k2.1
    have h2 := hvn_mono (fun m => cnt L m s) (hL k k1)
    refine q (plc L s k) (by omega) ?_
    rw [sy_eq k1 k2.1 rfl]
    exact k2
  · rintro ⟨r1, r2⟩ ⟨rfl, p, hp, ht, rfl⟩
    obtain ⟨y1, y2, y3, y4⟩ := sy_ok hp
    have he := hs_eq hn (Nat.le_refl _) y1 ht
    refine ok_some ⟨rfl, fun z => ?_, fun k hk => ?_⟩
    · rw [he] at z
      cases z
    · rw [he] at hk
      cases hk
      exact ⟨p, hp, rfl, rfl⟩
theorem e_tellWord {σ : St} {L : Nat → Nat} {s n bits w : Nat} {x : Int32} (hw : w ≤ 2) (hs64 : s ≤ 64) (h20 : ∀ p, p < hvn (fun m => cnt L m s) 15 → σ.1 20 0 p = nI (sy L s p) ∧ σ.1 21 0 p = nI (L (sy L s p)) ∧ σ.1 22 0 p = nI (wrd L s (sy L s p))) (hx : (hs L s 1 bits n s = none → x = -1) ∧ ∀ k, hs L s 1 bits n s = some k → ∃ p, p < hvn (fun m => cnt L m s) 15 ∧ sy L s p = k ∧ x = nI p) : ok (f_Table_tellWord σ x (nI w)) (fun o => o = (σ, ev L (hs L s 1 bits n s) w)) := by
  have hH := hvn_le L 15 s
  unfold f_Table_tellWord
  cases hh : hs L s 1 bits n s with
  | none =>
    rw [hx.1 hh]
    refine ok_f (by decide) (ok_b2e (e_pick hw) (ok_some ?_))
    rfl
  | some k =>
    obtain ⟨p, hp, hk, rfl⟩ := hx.2 k hh
    obtain ⟨a20, a21, a22⟩ := h20 p hp
    rw [nI_cl (show p < 2 ^ 31 by omega), a20, a21, hk]
    refine ok_t (nI_pos' (by omega)) (ok_gd (nI_ib (by omega) (by omega)) (ok_gd (nI_ib (by omega) (by omega)) (ok_b2e (e_pick hw) (ok_some ?_))))
    rfl
theorem or_add {a b x : Nat} (hx : x < 2 ^ b) : a * 2 ^ b ||| x = a * 2 ^ b + x := by
  rw [Nat.mul_comm]
  exact (Nat.two_pow_add_eq_or_of_lt hx a).symm
/-- what the class tells -/
theorem e_tell {σ : St} {L : Nat → Nat} {s r i w : Nat} (hT : TC σ L s r) (hL : ∀ k, k < s → L k ≤ 15) (hs64 : s ≤ 64) (hr1 : 1 ≤ r) (hr : r ≤ 9) (hf : fil (fun m => cnt L m s) 15 ≤ 32768) (hw : w ≤ 2) (hi : i < 2 ^ r + Gs L s r (2 ^ r)) : ok (f_Table_tell σ (nI i) (nI w)) (fun o => o.1 = σ ∧ ((i < 2 ^ r ∧ ms L s r i s ≠ 0 ∧ o.2 = lk (2 ^ r + Gs L s r i) (ms L s r i s) w) ∨ (i < 2 ^ r ∧ ms L s r i s = 0 ∧ o.2 = ev L (hs L s 1 i r s) w) ∨ ∃ j x, j < 2 ^ r ∧ ms L s r j s ≠ 0 ∧ x < 2 ^ ms L s r j s ∧ i = 2 ^ r + Gs L s r j + x ∧ o.2 = ev L (hs L s 1 (j * 2 ^ ms L s r j s + x) (r + ms L s r j s) s) w)) := by
  obtain ⟨N, Pf, Pb, t0, t1, t2, t6, tP, t20, t23⟩ := hT
  have hH := hvn_le L 15 s
  have hNp := tP.2.2.2
  obtain ⟨m1, m2⟩ := PT_ms hL tP
  have hp9 : 2 ^ r ≤ 2 ^ 9 := Nat.pow_le_pow_right (by omega) hr
  have hGs : ∀ i, i ≤ 2 ^ r → Gs L s r i ≤ 32768 := by
    intro i hi
    have h1 := Gs_le (r := r) hL i
    have h2 : i * 2 ^ (15 - r) ≤ 2 ^ r * 2 ^ (15 - r) := Nat.mul_le_mul_right _ hi
    rw [← Nat.pow_add, show r + (15 - r) = 15 by omega] at h2
    omega
  have hGe := hGs (2 ^ r) (Nat.le_refl _)
  have hwd : ∀ p, p < hvn (fun m => cnt L m s) 15 → wrd L s (sy L s p) < 2 ^ 31 := by
    intro p hp
    obtain ⟨y1, y2, y3, y4⟩ := sy_ok hp
    have h1 := stt_top y1 y2 y3 hf
    have h2 : 2 ^ L (sy L s p) ≤ 2 ^ 15 := Nat.pow_le_pow_right (by omega) y3
    omega
  unfold f_Table_tell
  rw [t0, shl_1 (show r < 31 by omega)]
  refine ok_if (fun c => ?_) (fun c => ?_)
  · have c' := (nI_leI (by omega) (by omega)).mp c
    -- the part around i
    have hpa : ok (f_Table_partAround σ (nI i)) (fun o => o.1 = σ ∧ ∃ t, t < N ∧ o.2 = nI t ∧ 2 ^ r + Gs L s r (Pf t) ≤ i ∧ i < 2 ^ r + Gs L s r (Pf t) + 2 ^ Pb t) := by
      unfold f_Table_partAround
      refine ok_bs2 (Q := fun z => match z with | .inl q => False | .inr o => o.1 = σ ∧ ∃ t, t < N ∧ o.2 = nI t ∧ 2 ^ r + Gs L s r (Pf t) ≤ i ∧ i < 2 ^ r + Gs L s r (Pf t) + 2 ^ Pb t) (ok_up N (fun t q => q.1 = σ ∧ q.2 = nI t ∧ 2 ^ r + Xs L s r N Pf t ≤ i) ?_ ?_ 0 _ (Nat.zero_le _) ⟨rfl, rfl, by rw [Xs_0 hL tP]; omega⟩) (fun _ _ hq => hq.elim) (fun o hq => ok_some hq)
      · rintro t ⟨σ1, x⟩ ht ⟨rfl, rfl, q⟩
        dsimp only
        obtain ⟨u23, u24, u25⟩ := t23 t ht
        have hX := Xs_s hL hf tP ht
        have hXt : Xs L s r N Pf t = Gs L s r (Pf t) := by unfold Xs; rw [if_pos ht]
        have hPf := PT_pf hf tP ht
        have hG := hGs (Pf t) (by omega)
        have hPb : Pb t ≤ 15 := by
          rw [← (m1 t ht).1]
          have := ms_le (r := r) (j := Pf t) hL
          omega
        have hPb2 : 2 ^ Pb t ≤ 2 ^ 15 := Nat.pow_le_pow_right (by omega) hPb
        have hib : ib (nI t) 64 := nI_ib (by omega) (by omega)
        unfold lb_Table_partAround_2
        rw [t6, nI_cl (show t < 2 ^ 31 by omega), u25, u24, shl_1 (show Pb t < 31 by omega), nI_add]
        refine ok_f (nI_ge ht (by omega)) (ok_gd hib (ok_f (nI_nlt (by omega) (by omega)) (ok_gd hib (ok_gd hib (ok_if (fun d => ok_nm (fun x2 e2 => ok_some ⟨rfl, by dsimp only; rw [e2, nI_1], ?_⟩)) (fun d => ok_some ⟨rfl, t, ht, rfl, by omega, ?_⟩))))))
        · have d' := (nI_leI (by omega) (by omega)).mp d
          omega
        · exact Nat.lt_of_not_le (fun z => d (nI_le z (by omega)))
      · rintro ⟨σ1, x⟩ ⟨rfl, rfl, q⟩
        exfalso
        unfold Xs at q
        rw [if_neg (Nat.lt_irrefl _)] at q
        omega
    refine ok_b2 hpa (fun σ1 x2 h => ?_)
    obtain ⟨rfl, t, ht, rfl, b1, b2⟩ := h
    obtain ⟨u23, u24, u25⟩ := t23 t ht
    obtain ⟨mm, mz⟩ := m1 t ht
    have hPf := PT_pf hf tP ht
    have hPb : Pb t ≤ 15 - r := by
      rw [← mm]
      exact ms_le hL
    have hib : ib (nI t) 64 := nI_ib (by omega) (by omega)
    have hpw : Pf t * 2 ^ Pb t + 2 ^ Pb t ≤ 2 ^ 15 := by
      have h1 : (Pf t + 1) * 2 ^ Pb t ≤ 2 ^ r * 2 ^ (15 - r) := Nat.mul_le_mul (by omega) (Nat.pow_le_pow_right (by omega) hPb)
      rw [← Nat.pow_add, show r + (15 - r) = 15 by omega, Nat.add_mul, Nat.one_mul] at h1
      exact h1
    have hG := hGs (Pf t) (by omega)
    have hx : i - (2 ^ r + Gs L s r (Pf t)) < 2 ^ Pb t := by omega
    rw [nI_cl (show t < 2 ^ 31 by omega), u23, u24, u25, t0, pk_sub b1, shlk (by omega) (by omega), nx_or, or_add hx, nI_add]
    generalize hxx : i - (2 ^ r + Gs L s r (Pf t)) = x at *
    refine ok_t (nI_pos' (by omega)) (ok_gd hib (ok_gd hib (ok_gd hib (ok_nm (fun x3 e3 => ok_gd hib ?_)))))
    rw [e3]
    refine ok_b2 (e_wordFor hL hs64 (show r + Pb t ≤ 15 by omega) (by omega) t2 t20 hwd) (fun σ4 x5 h4 => ?_)
    obtain ⟨rfl, h4⟩ := h4
    refine ok_b2 (e_tellWord hw hs64 t20 h4) (fun σ6 x7 h6 => ?_)
    cases h6
    refine ok_some ⟨rfl, Or.inr (Or.inr ⟨Pf t, x, hPf, by omega, by rw [mm]; exact hx, by omega, ?_⟩)⟩
    rw [mm]
  · have c' : i < 2 ^ r := Nat.lt_of_not_le (fun z => c (nI_le z (by omega)))
    have hpp : ok (f_Table_partWithPrefix σ (nI i)) (fun o => o.1 = σ ∧ ((∃ t, t < N ∧ Pf t = i ∧ o.2 = nI t) ∨ (o.2 = -1 ∧ ∀ t, t < N → ¬ Pf t = i))) := by
      unfold f_Table_partWithPrefix
      refine ok_bs2 (Q := fun z => match z with | .inl q => q.1 = σ ∧ ∀ t, t < N → ¬ Pf t = i | .inr o => o.1 = σ ∧ ∃ t, t < N ∧ Pf t = i ∧ o.2 = nI t) (ok_up N (fun t q => q.1 = σ ∧ q.2 = nI t ∧ ∀ u, u < t → ¬ Pf u = i) ?_ ?_ 0 _ (Nat.zero_le _) ⟨rfl, rfl, fun u hu => absurd hu (by omega)⟩) (fun _ _ hq => ok_some ⟨hq.1, Or.inr ⟨rfl, hq.2⟩⟩) (fun o hq => ok_some ⟨hq.1, Or.inl hq.2⟩)
      · rintro t ⟨σ1, x⟩ ht ⟨rfl, rfl, q⟩
        dsimp only
        obtain ⟨u23, u24, u25⟩ := t23 t ht
        have hPf := PT_pf hf tP ht
        unfold lb_Table_partWithPrefix_2
        rw [t6, nI_cl (show t < 2 ^ 31 by omega), u23]
        refine ok_f (nI_ge ht (by omega)) (ok_gd (nI_ib (by omega) (by omega)) (ok_if (fun d => ok_some ⟨rfl, t, ht, (nI_eq (by omega) (by omega)).mp d, rfl⟩) (fun d => ok_nm (fun x1 e1 => ok_some ⟨rfl, by dsimp only; rw [e1, nI_1], fun u hu => ?_⟩))))
        rcases Nat.lt_or_ge u t with z | z
        · exact q u z
        · rw [show u = t by omega]
          exact fun y => d (by rw [y])
      · rintro ⟨σ1, x⟩ ⟨rfl, rfl, q⟩
        dsimp only
        unfold lb_Table_partWithPrefix_2
        rw [t6]
        exact ok_t (nI_le (Nat.le_refl _) (by omega)) (ok_some ⟨rfl, q⟩)
    refine ok_b2 hpp (fun σ10 x11 h => ?_)
    obtain ⟨h1, h2⟩ := h
    dsimp only at h1 h2
    subst h1
    rcases h2 with ⟨t, ht, hpf, rfl⟩ | ⟨rfl, hno⟩
    · obtain ⟨u23, u24, u25⟩ := t23 t ht
      obtain ⟨mm, mz⟩ := m1 t ht
      rw [nI_cl (show t < 2 ^ 31 by omega), u24, u25]
      refine ok_f (nI_pos (by omega)) (ok_gd (nI_ib (by omega) (by omega)) (ok_gd (nI_ib (by omega) (by omega)) (ok_b2e (e_pick hw) (ok_some ⟨rfl, Or.inl ⟨c', ?_, ?_⟩⟩))))
      · rw [← hpf]
        omega
      · rw [← hpf, mm]
        rfl
    · have hm0 : ms L s r i s = 0 := by
        rcases Nat.eq_zero_or_pos (ms L s r i s) with z | z
        · exact z
        · obtain ⟨t, a, b⟩ := m2 i (by omega)
          exact absurd b (hno t a)
      rw [t0]
      refine ok_t (by decide) (ok_b2 (e_wordFor hL hs64 (show r ≤ 15 by omega) (by omega) t2 t20 hwd) (fun σ4 x5 h4 => ?_))
      obtain ⟨rfl, h4⟩ := h4
      refine ok_b2 (e_tellWord hw hs64 t20 h4) (fun σ6 x7 h6 => ?_)
      cases h6
      exact ok_some ⟨rfl, Or.inr (Or.inl ⟨c', hm0, rfl⟩)⟩
