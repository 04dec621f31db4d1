/-! ===== RUNS read again, the class ===== -/
theorem rdC_le : ∀ (f i : Nat) (B : List Bool) (L : Nat → Nat) (m : Nat), (∀ k, L k ≤ 7) → (rdC f i B L).2.2 m ≤ 7
  | 0, _, _, _, m, h => h m
  | f + 1, i, B, L, m, h => by
    simp only [rdC]
    split
    · exact h m
    · refine rdC_le f (i + 1) _ _ m (fun k => ?_)
      unfold setF
      split
      · have := numL_take (B := B) (n := 3) (by omega)
        omega
      · exact h k
theorem nneg {x : Int32} (h : x < 0) : ¬ (0 : Int32) ≤ x := fun z => absurd h (Int32.not_lt.mpr z)
theorem s_removeCode {σ : St} {h : Nat} {B0 : List Bool} (h12 : σ.1 41 12 0 = nI 19) (hC : CU h B0 B0 σ) : ok (f_Commands_removeCode σ) (fun o =>
    (B0.length < 4 → CU h B0 B0 o.1 ∧ o.2 = -104) ∧
    (4 ≤ B0.length → CU h B0 (rdC (numL 0 (B0.take 4) + 4) 0 (B0.drop 4) F00).2.1 o.1 ∧ (∀ e, (rdC (numL 0 (B0.take 4) + 4) 0 (B0.drop 4) F00).1 = some e → o.2 = e ∧ e < 0) ∧
      ((rdC (numL 0 (B0.take 4) + 4) 0 (B0.drop 4) F00).1 = none → CK o.1 12 19 (rdC (numL 0 (B0.take 4) + 4) 0 (B0.drop 4) F00).2.2 ∧ o.2 = if knd (rdC (numL 0 (B0.take 4) + 4) 0 (B0.drop 4) F00).2.2 19 = 1 ∨ knd (rdC (numL 0 (B0.take 4) + 4) 0 (B0.drop 4) F00).2.2 19 = 2 then 19 else -105)) ∧ fr Fu σ o.1) := by
  unfold f_Commands_removeCode
  refine ok_b2 (cu_num (n := 4) hC (by omega)) (fun σ1 x2 h2 => ?_)
  obtain ⟨h2a, h2b, f2⟩ := h2
  dsimp only at f2
  by_cases hl : B0.length < 4
  · cases h2a hl
    exact ok_f nn104 (ok_some ⟨fun _ => ⟨hC, rfl⟩, fun z => absurd z (by omega), fr.rf⟩)
  obtain ⟨c1, c2, c3⟩ := h2b (by omega)
  dsimp only at c1 c2
  rw [c2]
  generalize B0.drop 4 = B1 at *
  generalize numL 0 (B0.take 4) = u1 at *
  have h7 : ∀ m, (rdC (u1 + 4) 0 B1 F00).2.2 m ≤ 7 := fun m => rdC_le _ _ _ _ _ (fun _ => Nat.zero_le _)
  have f21 : fr Fu σ σ1 := f2.mono (fun f i k z => by omega)
  refine ok_t (nI_pos' (by omega)) (ok_b1 (s_fill (by omega) 0) (fun σ3 e3 => ?_))
  have f3 : fr Fu σ σ3 := by
    rw [e3]
    exact f21.tr (fr_flI (fun _ => by omega))
  refine ok_bs2 (Q := fun z => match z with
    | .inl q => (rdC (u1 + 4) 0 B1 F00).1 = none ∧ CU h B0 (rdC (u1 + 4) 0 B1 F00).2.1 q.1 ∧ (∀ k, k < 19 → q.1.1 42 12 k = nI ((rdC (u1 + 4) 0 B1 F00).2.2 k)) ∧ fr Fu σ q.1
    | .inr o => ∃ e, (rdC (u1 + 4) 0 B1 F00).1 = some e ∧ CU h B0 (rdC (u1 + 4) 0 B1 F00).2.1 o.1 ∧ o.2 = e ∧ e < 0 ∧ fr Fu σ o.1) (ok_up (u1 + 4) (fun i q => q.2 = nI i ∧ ∃ B L, CU h B0 B q.1 ∧ (∀ k, k < 19 → q.1.1 42 12 k = nI (L k)) ∧ rdC (u1 + 4 - i) i B L = rdC (u1 + 4) 0 B1 F00 ∧ fr Fu σ q.1) ?_ ?_ 0 _ (Nat.zero_le _) ⟨rfl, B1, F00, ?_, fun k hk => ?_, rfl, f3⟩) ?_ ?_
  · rintro i ⟨σ4, x⟩ hi ⟨rfl, B, L, q1, q2, q3, q4⟩
    dsimp only at q1 q2 q4 ⊢
    unfold lb_Commands_removeCode_28
    generalize rdC (u1 + 4) 0 B1 F00 = Z0 at q3 ⊢
    rw [show u1 + 4 - i = u1 + 4 - (i + 1) + 1 by omega] at q3
    simp only [rdC] at q3
    rw [show nI u1 + 4 = nI (u1 + 4) from nI_add u1 4]
    refine ok_f (nI_ge hi (by omega)) (ok_f (nI_ge (b := 19) (by omega) (by omega)) (ok_b2 (cu_num (n := 3) q1 (by omega)) (fun σ5 x5 h5 => ?_)))
    obtain ⟨h5a, h5b, f5⟩ := h5
    dsimp only at f5
    by_cases hl3 : B.length < 3
    · rw [if_pos hl3] at q3
      cases h5a hl3
      refine ok_f nn104 (ok_some ?_)
      dsimp only
      rw [← q3]
      exact ⟨-104, rfl, q1, rfl, n104, q4⟩
    · rw [if_neg hl3] at q3
      obtain ⟨d1, d2, d3⟩ := h5b (by omega)
      dsimp only at d1 d2
      obtain ⟨o1, o2⟩ := ordr_ok i (by omega)
      rw [d2, nI_cl (show i < 2 ^ 31 by omega), o1, nI_cl (show ordr i < 2 ^ 31 by omega)]
      refine ok_t (nI_pos' (by omega)) (ok_gd (nI_ib (by omega) (by omega)) (ok_gd (nI_ib (by omega) (by omega)) (ok_nm (fun σ6 e6 => ok_nm (fun x7 e7 => ok_some ⟨by dsimp only; rw [e7, nI_1], B.drop 3, setF L (ordr i) (numL 0 (B.take 3)), ?_, fun k hk => ?_, q3, ?_⟩)))))
      · exact d1.go (by dsimp only; rw [e6, sI_fi (by omega)]) (by dsimp only; rw [e6, sI_fi (by omega)])
      · dsimp only
        rw [e6]
        unfold setF
        by_cases hko : k = ordr i
        · subst hko
          rw [sI_at, if_pos rfl]
        · rw [sI_k hko, if_neg hko, f5.i (by omega)]
          exact q2 k hk
      · rw [e6]
        exact q4.tr ((f5.mono (fun f i k z => by omega)).tr (fr_sI (by omega)))
  · rintro ⟨σ4, x⟩ ⟨rfl, B, L, q1, q2, q3, q4⟩
    dsimp only at q1 q2 q4 ⊢
    unfold lb_Commands_removeCode_28
    generalize rdC (u1 + 4) 0 B1 F00 = Z0 at q3 ⊢
    rw [Nat.sub_self] at q3
    simp only [rdC] at q3
    rw [show nI u1 + 4 = nI (u1 + 4) from nI_add u1 4]
    refine ok_t (nI_le (Nat.le_refl _) (by omega)) (ok_some ?_)
    dsimp only
    rw [← q3]
    exact ⟨rfl, q1, q2, q4⟩
  · exact c1.go (by dsimp only; rw [e3]; funext k; rw [flI_1, if_neg (by omega)]) (by dsimp only; rw [e3]; funext k; rw [flI_1, if_neg (by omega)])
  · dsimp only
    rw [e3, flI_at (by omega)]
    rfl
  · rintro σ8 x9 ⟨q1, q2, q3, q4⟩
    dsimp only at q1 q2 q3 q4
    generalize rdC (u1 + 4) 0 B1 F00 = Z at *
    refine ok_b1 (s_renumber (σ := σ8) (j := 12) (s := 19) (L := Z.2.2) ⟨by rw [q4.i (by omega)]; exact h12, by omega, fun k hk => ⟨q3 k hk, Nat.le_trans (h7 k) (by omega)⟩⟩) (fun σ10 h10 => ?_)
    obtain ⟨k10, f10⟩ := h10
    have fall : fr Fu σ σ10 := q4.tr (f10.mono (fun f i k z => by omega))
    have hcu : CU h B0 Z.2.1 σ10 := q2.go (f10.fi (fun _ => by omega)) (f10.fi (fun _ => by omega))
    have hkn : knd Z.2.2 19 ≤ 4 := by
      unfold knd
      repeat' split
      all_goals omega
    have fin : ∀ x : Int32, (x = if knd Z.2.2 19 = 1 ∨ knd Z.2.2 19 = 2 then 19 else -105) → (B0.length < 4 → CU h B0 B0 σ10 ∧ x = -104) ∧ (4 ≤ B0.length → CU h B0 Z.2.1 σ10 ∧ (∀ e, Z.1 = some e → x = e ∧ e < 0) ∧ (Z.1 = none → CK σ10 12 19 Z.2.2 ∧ x = if knd Z.2.2 19 = 1 ∨ knd Z.2.2 19 = 2 then 19 else -105)) ∧ fr Fu σ σ10 :=
      fun x hx => ⟨fun z => absurd z hl, fun _ => ⟨hcu, fun e he => (by rw [q1] at he; cases he), fun _ => ⟨k10, hx⟩⟩, fall⟩
    rw [k10.2.2.2.2.2.2]
    refine ok_if (fun d => ok_some (fin 19 ?_)) (fun d => ok_if (fun d2 => ok_some (fin 19 ?_)) (fun d2 => ok_some (fin (-105) ?_)))
    · have d' := (nI_eq (b := 2) (by omega) (by omega)).mp d
      rw [if_pos (Or.inr d')]
    · have d' := (nI_eq (b := 1) (by omega) (by omega)).mp d2
      rw [if_pos (Or.inl d')]
    · have d' : ¬ knd Z.2.2 19 = 2 := fun z => d (by rw [z]; rfl)
      have d2' : ¬ knd Z.2.2 19 = 1 := fun z => d2 (by rw [z]; rfl)
      rw [if_neg (by omega)]
  · rintro ⟨r1, r2⟩ ⟨e, q1, q2, q3, q4, q5⟩
    exact ok_some ⟨fun z => absurd z hl, fun _ => ⟨q2, fun e' he => (by rw [q1] at he; cases he; exact ⟨q3, q4⟩), fun z => (by rw [q1] at z; cases z)⟩, q5⟩
/-- fill from i on -/
theorem s_rc134 {σ : St} {i r v : Nat} {F : Nat → Nat} {n : Nat} (hi : i + r ≤ n) (hn : n ≤ 64) (hF : ∀ k, k < i → σ.1 14 0 k = nI (F k)) : ok (lpE (fun q => lb_Commands_removeCommand_134 14 0 64 (nI i) (nI v) (nI r) q.1 q.2) (σ, nI i)) (fun q => (∀ k, k < i + r → q.1.1 14 0 k = nI (filF F i r v k)) ∧ fr (fun f _ _ => f = 14) σ q.1) := by
  refine ok_up (i + r) (fun e q => q.2 = nI e ∧ i ≤ e ∧ (∀ k, k < e → q.1.1 14 0 k = nI (filF F i r v k)) ∧ fr (fun f _ _ => f = 14) σ q.1) ?_ ?_ i _ (by omega) ⟨rfl, Nat.le_refl _, fun k hk => ?_, fr.rf⟩
  · rintro e ⟨σ1, x⟩ he ⟨rfl, h1, q1, q2⟩
    dsimp only at q1 q2 ⊢
    unfold lb_Commands_removeCommand_134
    rw [nI_add, nI_cl (show e < 2 ^ 31 by omega)]
    refine ok_f (nI_ge he (by omega)) (ok_gd (nI_ib (by omega) (by omega)) (ok_nm (fun σ6 e6 => ok_nm (fun x7 e7 => ok_some ⟨by dsimp only; rw [e7, nI_1], by omega, fun k hk => ?_, ?_⟩))))
    · dsimp only
      rw [e6]
      by_cases hke : k = e
      · subst hke
        rw [sI_at]
        unfold filF
        rw [if_pos ⟨h1, he⟩]
      · rw [sI_k hke]
        exact q1 k (by omega)
    · rw [e6]
      exact q2.tr (fr_sI rfl)
  · rintro ⟨σ1, x⟩ ⟨rfl, h1, q1, q2⟩
    unfold lb_Commands_removeCommand_134
    rw [nI_add]
    exact ok_t (nI_le (Nat.le_refl _) (by omega)) (ok_some ⟨q1, q2⟩)
  · dsimp only
    rw [hF k hk]
    unfold filF
    rw [if_neg (by omega)]
theorem s_rc80 {σ : St} {h n i c v : Nat} {B0 B : List Bool} {F : Nat → Nat} (hn : n ≤ 64) (hi : i < n) (hc : 16 ≤ c) (hc2 : c < 19) (hC : CU h B0 B σ) (hF : ∀ k, k < i → σ.1 14 0 k = nI (F k)) : ok (jn_Commands_removeCommand_80_3 14 0 64 σ (nI n) (nI i) (nI c) (nI v)) (fun o =>
    (B.length < ebt c → o = (σ, -104)) ∧
    (ebt c ≤ B.length → CU h B0 (B.drop (ebt c)) o.1 ∧ (n < i + (shr c + numL 0 (B.take (ebt c))) → o.2 = -105) ∧ (¬ n < i + (shr c + numL 0 (B.take (ebt c))) → o.2 = nI (shr c + numL 0 (B.take (ebt c))) ∧ ∀ k, k < i + (shr c + numL 0 (B.take (ebt c))) → o.1.1 14 0 k = nI (filF F i (shr c + numL 0 (B.take (ebt c))) v k))) ∧ fr (fun f _ _ => f = 3 ∨ f = 14) σ o.1) := by
  obtain ⟨t1, t3⟩ := tb1c hc hc2
  have he1 : 1 ≤ ebt c := by unfold ebt; split; omega; split <;> omega
  have he2 : ebt c ≤ 7 := by unfold ebt; split; omega; split <;> omega
  have hsh : shr c ≤ 11 := by unfold shr; split <;> omega
  have hsh1 : 1 ≤ shr c := by unfold shr; split <;> omega
  have hib : ib (nI c - 16) 3 := by
    rw [show nI c - 16 = nI (c - 16) from pk_sub (b := 16) (by omega)]
    exact nI_ib (by omega) (by omega)
  unfold jn_Commands_removeCommand_80_3
  rw [t1, t3]
  generalize ebt c = eb at *
  generalize shr c = sh at *
  refine ok_gd hib (ok_b2 (cu_num (n := eb) hC (by omega)) (fun σ3 x4 h4 => ?_))
  obtain ⟨h4a, h4b, f4⟩ := h4
  dsimp only at f4
  by_cases hl : B.length < eb
  · cases h4a hl
    exact ok_f nn104 (ok_some ⟨fun _ => rfl, fun z => absurd z (by omega), fr.rf⟩)
  obtain ⟨d1, d2, d3⟩ := h4b (by omega)
  dsimp only at d1 d2
  have hp : 2 ^ eb ≤ 2 ^ 7 := Nat.pow_le_pow_right (by omega) he2
  rw [d2, nI_add]
  generalize numL 0 (B.take eb) = more at *
  refine ok_t (nI_pos' (by omega)) (ok_gd hib (ok_nm (fun x5 e5 => ?_)))
  rw [e5, pk_sub (show i ≤ n by omega)]
  refine ok_if (fun d => ?_) (fun d => ok_some ?_)
  · have d' := (nI_leI (by omega) (by omega)).mp d
    refine ok_b2 (s_rc134 (F := F) (v := v) (n := n) (by omega) hn (fun k hk => by rw [f4.i (by omega)]; exact hF k hk)) (fun σ8 x9 h8 => ok_some ?_)
    obtain ⟨h8, f8⟩ := h8
    refine ⟨fun z => absurd z hl, fun _ => ⟨d1.go (f8.fi (fun _ => by omega)) (f8.fi (fun _ => by omega)), fun z => absurd z (by omega), fun _ => ⟨rfl, h8⟩⟩, (f4.mono (fun f i k z => Or.inl z)).tr (f8.mono (fun f i k z => Or.inr z))⟩
  · have d' : ¬ sh + more ≤ n - i := fun z => d (nI_le z (by omega))
    exact ⟨fun z => absurd z hl, fun _ => ⟨d1, fun _ => rfl, fun z => absurd z (by omega)⟩, f4.mono (fun f i k z => Or.inl z)⟩
theorem filF_le {F : Nat → Nat} {i r v k : Nat} (hF : ∀ j, j < i → F j ≤ 15) (hv : v ≤ 15) (hk : k < i + r) : filF F i r v k ≤ 15 := by
  unfold filF
  split
  · exact hv
  · exact hF k (by omega)
theorem s_cRemove {σ : St} {h n : Nat} {B0 : List Bool} (hn : n ≤ 64) (h12 : σ.1 41 12 0 = nI 19) (hC : CU h B0 B0 σ) : ok (f_Commands_remove σ 14 0 64 (nI n)) (UC h n B0 σ (rdA n 2 B0)) := by
  unfold f_Commands_remove rdA
  rw [if_neg (by decide)]
  refine ok_b2 (s_removeCode h12 hC) (fun σ1 x2 h2 => ?_)
  obtain ⟨h2a, h2b, f1⟩ := h2
  dsimp only at h2a h2b f1
  by_cases hl : B0.length < 4
  · obtain ⟨c1, c2⟩ := h2a hl
    rw [if_pos hl, c2]
    exact ok_f nn104 (ok_some ⟨c1, fun e he => by cases he; exact ⟨rfl, n104⟩, fun z => absurd z (by simp), f1⟩)
  rw [if_neg hl, if_neg (show ¬ (2 : Nat) = 1 by decide)]
  obtain ⟨c1, c2, c3⟩ := h2b (by omega)
  generalize rdC (numL 0 (B0.take 4) + 4) 0 (B0.drop 4) F00 = Z at *
  obtain ⟨Z1, B1, Lc⟩ := Z
  dsimp only at c1 c2 c3 ⊢
  cases Z1 with
  | some e =>
    obtain ⟨r1, r2⟩ := c2 e rfl
    rw [r1]
    dsimp only
    exact ok_f (nneg r2) (ok_some ⟨c1, fun e' he => by cases he; exact ⟨rfl, r2⟩, fun z => absurd z (by simp), f1⟩)
  | none =>
    obtain ⟨k1, k2⟩ := c3 rfl
    dsimp only
    by_cases hk : knd Lc 19 = 1 ∨ knd Lc 19 = 2
    · rw [if_pos hk] at k2 ⊢
      rw [k2]
      refine ok_t (by decide) (ok_bs2 (Q := fun z => match z with | .inl q => UC h n B0 σ (rdR Lc n n 0 B1 F00) (q.1, nI n) | .inr o => UC h n B0 σ (rdR Lc n n 0 B1 F00) o) (ok_lp (fun m q => ∃ i f B F, m = n - i ∧ i ≤ n ∧ n - i ≤ f ∧ q.2 = nI i ∧ CU h B0 B q.1 ∧ (∀ k, k < i → q.1.1 14 0 k = nI (F k) ∧ F k ≤ 15) ∧ rdR Lc n f i B F = rdR Lc n n 0 B1 F00 ∧ CK q.1 12 19 Lc ∧ fr Fu σ q.1) ?_ n _ ⟨0, n, B1, F00, rfl, Nat.zero_le _, Nat.le_refl _, rfl, c1, fun k hk => absurd hk (by omega), rfl, k1, f1⟩) (fun σ6 x7 hq => ok_some hq) (fun r hq => ok_some hq))
      rintro m ⟨σ2, x⟩ ⟨i, f, B, F, rfl, hi, hf, rfl, q1, q2, q3, q4, q5⟩
      dsimp only at q1 q2 q4 q5 ⊢
      unfold lb_Commands_remove_14
      rcases Nat.lt_or_ge i n with hin | hin
      · obtain ⟨f, rfl⟩ : ∃ f', f = f' + 1 := ⟨f - 1, by omega⟩
        simp only [rdR] at q3
        rw [if_neg (by omega)] at q3
        refine ok_f (nI_ge hin (by omega)) ?_
        unfold f_Commands_removeCommand
        have hdc := dec_cases (L := Lc) (s := 19) B 0 0 (Nat.le_refl _)
        -- the answer of removeCommand, and what follows
        have fin : ∀ (o : St × Int32) , (∃ e, e < 0 ∧ o.2 = e ∧ ∃ B', CU h B0 B' o.1 ∧ fr Fu σ o.1 ∧ rdR Lc n n 0 B1 F00 = (some e, B', F)) ∨ (∃ r B' F', 1 ≤ r ∧ i + r ≤ n ∧ o.2 = nI r ∧ CU h B0 B' o.1 ∧ (∀ k, k < i + r → o.1.1 14 0 k = nI (F' k) ∧ F' k ≤ 15) ∧ rdR Lc n f (i + r) B' F' = rdR Lc n n 0 B1 F00 ∧ CK o.1 12 19 Lc ∧ fr Fu σ o.1) → ok (if (0 : Int32) ≤ o.2 then nm (nI i + jmax o.2 1) fun x5 => some (.inl (o.1, x5)) else some (.inr (.inr (o.1, o.2)))) (fun z => match (z : (St × Int32) ⊕ ((St × Int32) ⊕ (St × Int32))) with | .inl a' => ∃ n', n' < n - i ∧ ∃ i f B F, n' = n - i ∧ i ≤ n ∧ n - i ≤ f ∧ a'.2 = nI i ∧ CU h B0 B a'.1 ∧ (∀ k, k < i → a'.1.1 14 0 k = nI (F k) ∧ F k ≤ 15) ∧ rdR Lc n f i B F = rdR Lc n n 0 B1 F00 ∧ CK a'.1 12 19 Lc ∧ fr Fu σ a'.1 | .inr z => match z with | .inl q => UC h n B0 σ (rdR Lc n n 0 B1 F00) (q.1, nI n) | .inr o => UC h n B0 σ (rdR Lc n n 0 B1 F00) o) := by
          rintro ⟨σ3, x4⟩ hq
          dsimp only at hq ⊢
          rcases hq with ⟨e, he, rfl, B', p1, p2, p3⟩ | ⟨r, B', F', hr, hr2, rfl, p1, p2, p3, p4, p5⟩
          · refine ok_f (nneg he) (ok_some ?_)
            dsimp only
            rw [p3]
            exact ⟨p1, fun e' he' => by cases he'; exact ⟨rfl, he⟩, fun z => absurd z (by simp), p2⟩
          · rw [jmax1 hr (by omega), nI_add]
            exact ok_t (nI_pos' (by omega)) (ok_nm (fun x5 e5 => ok_some ⟨n - (i + r), by omega, i + r, f, B', F', rfl, hr2, by omega, e5, p1, p2, p3, p4, p5⟩))
        refine ok_b2 (Q := fun o => (∃ e, e < 0 ∧ o.2 = e ∧ ∃ B', CU h B0 B' o.1 ∧ fr Fu σ o.1 ∧ rdR Lc n n 0 B1 F00 = (some e, B', F)) ∨ (∃ r B' F', 1 ≤ r ∧ i + r ≤ n ∧ o.2 = nI r ∧ CU h B0 B' o.1 ∧ (∀ k, k < i + r → o.1.1 14 0 k = nI (F' k) ∧ F' k ≤ 15) ∧ rdR Lc n f (i + r) B' F' = rdR Lc n n 0 B1 F00 ∧ CK o.1 12 19 Lc ∧ fr Fu σ o.1)) ?_ (fun σ3 x4 hq => (fin (σ3, x4) hq).mono (fun z hz => by rcases z with z | z | z <;> exact hz))
        refine ok_b2 (cu_sym q4 q1) (fun σ3 x4 h3 => ?_)
        obtain ⟨s1, s2, f3⟩ := h3
        dsimp only at s1 s2 f3
        have f3' : fr Fu σ σ3 := q5.tr (f3.mono (fun f i k z => by omega))
        have ck3 : CK σ3 12 19 Lc := q4.go (fun f _ _ => f3.fi (fun _ => by omega))
        have hF3 : ∀ k, k < i → σ3.1 14 0 k = nI (F k) := fun k hk => by rw [f3.i (by omega)]; exact (q2 k hk).1
        generalize dec Lc 19 B 0 0 = D at *
        obtain ⟨D1, B2⟩ := D
        dsimp only at s1 s2 hdc q3 ⊢
        rw [s1]
        rcases hdc with rfl | rfl | ⟨c, hc, rfl⟩
        · rw [if_pos n104] at q3
          exact ok_f (by decide) (ok_t n104 (ok_f nn104 (ok_some (Or.inl ⟨-104, n104, rfl, B2, s2, f3', q3.symm⟩))))
        · rw [if_pos n105] at q3
          exact ok_f (by decide) (ok_t n105 (ok_f nn105 (ok_some (Or.inl ⟨-105, n105, rfl, B2, s2, f3', q3.symm⟩))))
        · rw [if_neg (nI_pos (by omega)), nI_cl (show c < 2 ^ 31 by omega)] at q3
          have h80 : ∀ v, v = (if c = 16 then F (i - 1) else 0) → v ≤ 15 → 16 ≤ c → ¬ (c = 16 ∧ (i = 0 ∨ F (i - 1) = 0)) → ok (jn_Commands_removeCommand_80_3 14 0 64 σ3 (nI n) (nI i) (nI c) (nI v)) (fun o => (∃ e, e < 0 ∧ o.2 = e ∧ ∃ B', CU h B0 B' o.1 ∧ fr Fu σ o.1 ∧ rdR Lc n n 0 B1 F00 = (some e, B', F)) ∨ (∃ r B' F', 1 ≤ r ∧ i + r ≤ n ∧ o.2 = nI r ∧ CU h B0 B' o.1 ∧ (∀ k, k < i + r → o.1.1 14 0 k = nI (F' k) ∧ F' k ≤ 15) ∧ rdR Lc n f (i + r) B' F' = rdR Lc n n 0 B1 F00 ∧ CK o.1 12 19 Lc ∧ fr Fu σ o.1)) := by
            intro v hv hv15 hc16 hnb
            rw [if_neg (show ¬ c < 16 by omega), if_neg hnb] at q3
            have hsh1 : 1 ≤ shr c := by unfold shr; split <;> omega
            refine (s_rc80 (v := v) hn hin hc16 hc s2 hF3).mono (fun o ho => ?_)
            obtain ⟨o1, o2, o3⟩ := ho
            have fo : fr Fu σ o.1 := f3'.tr (o3.mono (fun f i k z => by omega))
            by_cases hl2 : B2.length < ebt c
            · rw [if_pos hl2] at q3
              cases o1 hl2
              exact Or.inl ⟨-104, n104, rfl, B2, s2, f3', q3.symm⟩
            · rw [if_neg hl2] at q3
              obtain ⟨p1, p2, p3⟩ := o2 (by omega)
              by_cases hl3 : n < i + (shr c + numL 0 (B2.take (ebt c)))
              · rw [if_pos hl3] at q3
                exact Or.inl ⟨-105, n105, p2 hl3, _, p1, fo, q3.symm⟩
              · rw [if_neg hl3, ← hv] at q3
                obtain ⟨p4, p5⟩ := p3 hl3
                exact Or.inr ⟨_, _, _, by omega, by omega, p4, p1, fun k hk => ⟨p5 k hk, filF_le (fun j hj => (q2 j hj).2) hv15 hk⟩, q3, ck3.go (fun f _ _ => o3.fi (fun _ => by omega)), fo⟩
          by_cases h16 : c < 16
          · rw [if_pos h16] at q3
            rw [nI_cl (show i < 2 ^ 31 by omega)]
            refine ok_f (nI_ge (b := 16) (by omega) (by omega)) (ok_f (nI_pos (by omega)) (ok_gd (nI_ib (by omega) (by omega)) (ok_nm (fun σ10 e10 => ok_t (nI_pos' (by omega)) (ok_some (Or.inr ⟨1, B2, setF F i c, Nat.le_refl _, by omega, rfl, ?_, fun k hk => ?_, q3, ?_, ?_⟩))))))
            · exact s2.go (by dsimp only; rw [e10, sI_fi (by omega)]) (by dsimp only; rw [e10, sI_fi (by omega)])
            · dsimp only
              rw [e10]
              unfold setF
              by_cases hki : k = i
              · subst hki
                rw [sI_at, if_pos rfl]
                exact ⟨rfl, by omega⟩
              · rw [sI_k hki, if_neg hki]
                exact ⟨hF3 k (by omega), (q2 k (by omega)).2⟩
            · exact ck3.go (fun f h1 h2 => by dsimp only; rw [e10, sI_fi (by omega)])
            · rw [e10]
              exact f3'.tr (fr_sI (by omega))
          · refine ok_t (nI_le (a := 16) (by omega) (by omega)) ?_
            unfold jn_Commands_removeCommand_62 jn_Commands_removeCommand_63_2
            refine ok_if (fun d => ok_if (fun d2 => ok_t d (ok_t rfl (ok_some ?_))) (fun d2 => ?_)) (fun d => ok_f d ?_)
            · have d' : c = 16 := (nI_eq (b := 16) (by omega) (by omega)).mp d
              have d2' := (nI_leI (b := 0) (by omega) (by omega)).mp d2
              rw [if_neg h16, if_pos ⟨d', Or.inl (by omega)⟩] at q3
              exact Or.inl ⟨-105, n105, rfl, B2, s2, f3', q3.symm⟩
            · have d' : c = 16 := (nI_eq (b := 16) (by omega) (by omega)).mp d
              have d2' : ¬ i ≤ 0 := fun z => d2 (nI_le (b := 0) z (by omega))
              have hFi := (q2 (i - 1) (by omega)).2
              rw [show nI i - 1 = nI (i - 1) from pk_sub (b := 1) (by omega), nI_cl (show i - 1 < 2 ^ 31 by omega), hF3 (i - 1) (by omega)]
              refine ok_gd (nI_ib (by omega) (by omega)) (ok_t d (ok_if (fun d3 => ok_some ?_) (fun d3 => h80 _ (by rw [if_pos d']) hFi (by omega) ?_)))
              · have d3' := (nI_eq (b := 0) (by omega) (by omega)).mp d3
                rw [if_neg h16, if_pos ⟨d', Or.inr d3'⟩] at q3
                exact Or.inl ⟨-105, n105, rfl, B2, s2, f3', q3.symm⟩
              · have d3' : ¬ F (i - 1) = 0 := fun z => d3 (by rw [z]; rfl)
                omega
            · have d' : ¬ c = 16 := fun z => d (by rw [z]; rfl)
              exact h80 0 (by rw [if_neg d']) (by omega) (by omega) (by omega)
      · have : i = n := by omega
        subst this
        have hz : rdR Lc i f i B F = (none, B, F) := by
          rcases f with _ | f
          · rfl
          · simp only [rdR]
            rw [if_pos (Nat.le_refl _)]
        rw [hz] at q3
        refine ok_t (nI_le (Nat.le_refl _) (by omega)) (ok_some ?_)
        dsimp only
        rw [← q3]
        exact ⟨q1, fun e he => absurd he (by simp), fun _ => ⟨rfl, q2⟩, q5⟩
    · rw [if_neg hk] at k2 ⊢
      rw [k2]
      exact ok_f nn105 (ok_some ⟨c1, fun e' he => by cases he; exact ⟨rfl, n105⟩, fun z => absurd z (by simp), f1⟩)
theorem s_manRemove {σ : St} {h n m : Nat} {B0 : List Bool} (hn : n ≤ 64) (hm : m ≤ 2) (h12 : σ.1 41 12 0 = nI 19) (hC : CU h B0 B0 σ) : ok (f_Manners_remove σ (nI n) (nI m)) (UC h n B0 σ (rdA n m B0)) := by
  unfold f_Manners_remove
  refine ok_if (fun d => ok_b2 (s_removePlain hn hC) (fun σ1 x2 hq => ok_some ?_)) (fun d => ok_if (fun d2 => ?_) (fun d2 => ?_))
  · have d' := (nI_eq (b := 0) (by omega) (by omega)).mp d
    unfold rdA
    rw [if_pos d']
    exact hq
  · have d' : m = 1 := (nI_eq (b := 1) (by omega) (by omega)).mp d2
    subst d'
    exact ok_b2 (s_removeSteps hn hC) (fun σ1 x2 hq => ok_some hq)
  · have d' : ¬ m = 0 := fun z => d (by rw [z]; rfl)
    have d2' : ¬ m = 1 := fun z => d2 (by rw [z]; rfl)
    have : m = 2 := by omega
    subst this
    exact ok_b2 (s_cRemove hn h12 hC) (fun σ1 x2 hq => ok_some hq)
