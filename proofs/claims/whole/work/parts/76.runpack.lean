/-! ===== lengths read again, the reference ===== -/
theorem sr_num {n : Nat} {B : List Bool} {σ : St} (hS : SR σ B) (h1 : 1 ≤ n) (hn : n ≤ 30) : ok (f_Mo_takeNumber σ (nI n)) (fun o => (B.length < n → o = (σ, -104)) ∧ (n ≤ B.length → SR o.1 (B.drop n) ∧ o.2 = nI (numL 0 (B.take n)) ∧ numL 0 (B.take n) < 2 ^ n) ∧ fr Ft σ o.1) := by
  rcases Nat.lt_or_ge B.length n with hl | hl
  · rw [e_moTake0 hS h1 hn hl]
    exact ok_some ⟨fun _ => rfl, fun z => absurd z (by omega), fr.rf⟩
  · have hB : B = B.take n ++ B.drop n := (List.take_append_drop n B).symm
    rw [hB] at hS
    exact (s_moTake hS (n := n) (by rw [List.length_take, Nat.min_eq_left hl]) h1 hn).mono (fun o ho => ⟨fun z => absurd z (by omega), fun _ => ⟨ho.1, ho.2.1, numL_take hl⟩, ho.2.2⟩)
theorem sr_one {b : Bool} {B : List Bool} {σ : St} (hS : SR σ (b :: B)) : ok (f_Mo_takeNumber σ 1) (fun o => SR o.1 B ∧ o.2 = b2i b ∧ fr Ft σ o.1) := by
  refine (sr_num (n := 1) hS (by omega) (by omega)).mono (fun o ho => ?_)
  obtain ⟨o1, o2, o3⟩ := ho.2.1 (by simp)
  refine ⟨o1, ?_, ho.2.2⟩
  rw [o2]
  cases b <;> rfl
theorem sr_one0 {σ : St} (hS : SR σ []) : f_Mo_takeNumber σ 1 = some (σ, -104) := e_moTake0 (n := 1) hS (by omega) (by omega) (by simp)
abbrev Fur : Nat → Nat → Nat → Prop := fun f _ k => (f = 48 ∧ k = 11) ∨ f = 60 ∨ (f = 50 ∧ 768 ≤ k) ∨ (f = 49 ∧ k = 12)
def UR (n : Nat) (σ : St) (z : Option Int32 × List Bool × (Nat → Nat)) (o : St × Int32) : Prop := SR o.1 z.2.1 ∧ (∀ e, z.1 = some e → o.2 = e ∧ e < 0) ∧ (z.1 = none → o.2 = 0 ∧ ∀ i, i < n → o.1.1 60 0 i = nI (z.2.2 i)) ∧ fr Fur σ o.1
theorem s_moPlain {σ : St} {n : Nat} {B0 : List Bool} (hn : n ≤ 64) (hS : SR σ B0) : ok (f_Mo_plain σ (nI n)) (UR n σ (rdP n 0 B0 F00)) := by
  unfold f_Mo_plain
  refine ok_bs2 (Q := fun z => match z with | .inl q => UR n σ (rdP n 0 B0 F00) (q.1, 0) | .inr o => UR n σ (rdP n 0 B0 F00) o) (ok_up n (fun k q => q.2 = nI k ∧ ∃ B F, SR q.1 B ∧ (∀ i, i < k → q.1.1 60 0 i = nI (F i)) ∧ rdP (n - k) k B F = rdP n 0 B0 F00 ∧ fr Fur σ q.1) ?_ ?_ 0 _ (Nat.zero_le _) ⟨rfl, B0, F00, hS, fun i hi => absurd hi (by omega), rfl, fr.rf⟩) (fun σ5 x6 hq => ok_some hq) (fun r hq => ok_some hq)
  · rintro k ⟨σ1, x⟩ hk ⟨rfl, B, F, q1, q2, q3, q4⟩
    dsimp only at q1 q2 q4 ⊢
    generalize rdP n 0 B0 F00 = Z0 at q3 ⊢
    unfold lb_Mo_plain_2
    rw [show n - k = n - (k + 1) + 1 by omega] at q3
    simp only [rdP] at q3
    refine ok_f (nI_ge hk (by omega)) (ok_b2 (sr_num (n := 4) q1 (by omega) (by omega)) (fun σ2 x2 h2 => ?_))
    obtain ⟨h2a, h2b, f2⟩ := h2
    dsimp only at f2
    by_cases hl : B.length < 4
    · rw [if_pos hl] at q3
      cases h2a hl
      refine ok_f nn104 (ok_some ?_)
      dsimp only
      rw [← q3]
      exact ⟨q1, fun e he => by cases he; exact ⟨rfl, n104⟩, fun z => absurd z (by simp), q4⟩
    · rw [if_neg hl] at q3
      obtain ⟨c1, c2, c3⟩ := h2b (by omega)
      dsimp only at c1 c2
      rw [c2, nI_cl (show k < 2 ^ 31 by omega)]
      refine ok_t (nI_pos' (by omega)) (ok_gd (nI_ib (by omega) (by omega)) (ok_nm (fun σ3 e3 => ok_nm (fun x4 e4 => ok_some ⟨by dsimp only; rw [e4, nI_1], B.drop 4, setF F k (numL 0 (B.take 4)), ?_, fun i hi => ?_, q3, ?_⟩))))
      · exact c1.go (by dsimp only; rw [e3, sI_f (by omega)]) (by dsimp only; rw [e3, sI_f (by omega)]) (by dsimp only; rw [e3, sI_fi (by omega)])
      · dsimp only
        rw [e3]
        unfold setF
        by_cases hik : i = k
        · subst hik
          rw [sI_at, if_pos rfl]
        · rw [sI_k hik, if_neg hik, f2.i (by omega)]
          exact q2 i (by omega)
      · rw [e3]
        exact q4.tr ((f2.mono (fun f i k z => by omega)).tr (fr_sI (by omega)))
  · rintro ⟨σ1, x⟩ ⟨rfl, B, F, q1, q2, q3, q4⟩
    dsimp only at q1 q2 q4 ⊢
    unfold lb_Mo_plain_2
    rw [Nat.sub_self] at q3
    simp only [rdP] at q3
    refine ok_t (nI_le (Nat.le_refl _) (by omega)) (ok_some ?_)
    dsimp only
    rw [← q3]
    exact ⟨q1, fun e he => absurd he (by simp), fun _ => ⟨rfl, q2⟩, q4⟩
/-- a bit that has been taken ahead -/
def PB (σ : St) (x : Int32) (Q : List Bool) : Prop := (Q = [] ∧ x = -104 ∧ SR σ []) ∨ ∃ b B, Q = b :: B ∧ x = b2i b ∧ SR σ B
theorem s_pb {σ : St} {B : List Bool} (hS : SR σ B) : ok (f_Mo_takeNumber σ 1) (fun o => PB o.1 o.2 B ∧ fr Ft σ o.1) := by
  cases B with
  | nil =>
    rw [sr_one0 hS]
    exact ok_some ⟨Or.inl ⟨rfl, rfl, hS⟩, fr.rf⟩
  | cons b B => exact (sr_one hS).mono (fun o ho => ⟨Or.inr ⟨b, B, rfl, ho.2.1, ho.1⟩, ho.2.2⟩)
theorem s_steps26 {σ : St} {u : Nat} {x a1 v3 : Int32} {B : List Bool} (hu : u ≤ 15) (hP : PB σ x B) : ok (lpE (fun q => lb_Mo_steps_26 a1 v3 q.1 q.2.1 q.2.2) (σ, nI u, x)) (fun z => match z with
    | .inl q => SR q.1 (stp B u).2.1 ∧ fr Ft σ q.1 ∧ ((∃ e, (stp B u).1 = some e ∧ q.2.2 = e ∧ e < 0) ∨ ((stp B u).1 = none ∧ q.2.2 = 0 ∧ q.2.1 = nI (stp B u).2.2 ∧ (stp B u).2.2 ≤ 15))
    | .inr o => SR o.1 (stp B u).2.1 ∧ fr Ft σ o.1 ∧ ∃ e, (stp B u).1 = some e ∧ o.2 = e ∧ e < 0) := by
  refine ok_lp (fun m q => ∃ Q u', m = Q.length ∧ q.2.1 = nI u' ∧ u' ≤ 15 ∧ PB q.1 q.2.2 Q ∧ stp Q u' = stp B u ∧ fr Ft σ q.1) ?_ B.length _ ⟨B, u, rfl, rfl, hu, hP, rfl, fr.rf⟩
  rintro m ⟨σ1, x, y⟩ ⟨Q, u', rfl, rfl, hu', q1, q2, q3⟩
  dsimp only at q1 q3 ⊢
  generalize stp B u = Z at q2 ⊢
  unfold lb_Mo_steps_26
  rcases q1 with ⟨rfl, rfl, q1⟩ | ⟨b, B', rfl, rfl, q1⟩
  · simp only [stp] at q2
    refine ok_f (by decide) (ok_some ?_)
    dsimp only
    rw [← q2]
    exact ⟨q1, q3, Or.inl ⟨-104, rfl, rfl, n104⟩⟩
  · cases b with
    | false =>
      simp only [stp] at q2
      refine ok_f (by decide) (ok_some ?_)
      dsimp only
      rw [← q2]
      exact ⟨q1, q3, Or.inr ⟨rfl, rfl, rfl, hu'⟩⟩
    | true =>
      refine ok_t rfl ?_
      cases B' with
      | nil =>
        simp only [stp] at q2
        refine ok_b2e (sr_one0 q1) (ok_f nn104 (ok_some ?_))
        dsimp only
        rw [← q2]
        exact ⟨q1, q3, -104, rfl, rfl, n104⟩
      | cons b B' =>
        refine ok_b2 (sr_one q1) (fun σ5 x6 h5 => ?_)
        obtain ⟨h5a, h5b, f5⟩ := h5
        dsimp only at h5a h5b f5
        rw [h5b]
        cases b with
        | false =>
          simp only [stp] at q2
          refine ok_t (by decide) (ok_t rfl (ok_nm (fun x10 e10 => ?_)))
          rw [nI_1] at e10
          rw [e10]
          by_cases hc : u' < 15
          · rw [if_pos hc] at q2
            refine ok_f (nI_pos (by omega)) (ok_t (nI_le (b := 15) (by omega) (by omega)) (ok_b2 (s_pb h5a) (fun σ11 x12 h11 => ok_some ⟨B'.length, by simp only [List.length_cons]; omega, B', u' + 1, rfl, rfl, by omega, h11.1, q2, q3.tr (f5.tr h11.2)⟩)))
          · rw [if_neg hc] at q2
            refine ok_f (nI_pos (by omega)) (ok_f (nI_ge (b := u' + 1) (a := 15) (by omega) (by omega)) (ok_some ?_))
            dsimp only
            rw [← q2]
            exact ⟨h5a, q3.tr f5, -105, rfl, rfl, n105⟩
        | true =>
          simp only [stp] at q2
          refine ok_t (by decide) (ok_f (by decide) (ok_nm (fun x7 e7 => ?_)))
          by_cases hc : 0 < u'
          · rw [if_pos hc] at q2
            obtain ⟨u', rfl⟩ : ∃ u, u' = u + 1 := ⟨u' - 1, by omega⟩
            rw [pk_m1] at e7
            rw [e7]
            refine ok_f (nI_pos (by omega)) (ok_t (nI_le (b := 15) (by omega) (by omega)) (ok_b2 (s_pb h5a) (fun σ11 x12 h11 => ok_some ⟨B'.length, by simp only [List.length_cons]; omega, B', u', rfl, rfl, by omega, h11.1, q2, q3.tr (f5.tr h11.2)⟩)))
          · rw [if_neg hc] at q2
            have : u' = 0 := by omega
            subst this
            rw [e7]
            refine ok_t (by decide) (ok_some ?_)
            dsimp only
            rw [← q2]
            exact ⟨h5a, q3.tr f5, -105, rfl, rfl, n105⟩
theorem s_moSteps {σ : St} {n : Nat} {B0 : List Bool} (hn : n ≤ 64) (hS : SR σ B0) : ok (f_Mo_steps σ (nI n)) (UR n σ (rdA n 1 B0)) := by
  unfold f_Mo_steps rdA
  rw [if_neg (by decide)]
  refine ok_b2 (sr_num (n := 4) hS (by omega) (by omega)) (fun σ1 x2 h2 => ?_)
  obtain ⟨h2a, h2b, f2⟩ := h2
  dsimp only at f2
  by_cases hl : B0.length < 4
  · rw [if_pos hl]
    cases h2a hl
    exact ok_f nn104 (ok_some ⟨hS, fun e he => by cases he; exact ⟨rfl, n104⟩, fun z => absurd z (by simp), fr.rf⟩)
  rw [if_neg hl, if_pos rfl]
  obtain ⟨c1, c2, c3⟩ := h2b (by omega)
  dsimp only at c1 c2
  rw [c2]
  generalize B0.drop 4 = B1 at *
  generalize numL 0 (B0.take 4) = u1 at *
  refine ok_t (nI_pos' (by omega)) (ok_bs3 (Q := fun z => match z with | .inl q => UR n σ (rdS n 0 B1 u1 F00) (q.1, 0) | .inr o => UR n σ (rdS n 0 B1 u1 F00) o) (ok_up n (fun k q => ∃ B u F, q.2.1 = nI u ∧ u ≤ 15 ∧ q.2.2 = nI k ∧ SR q.1 B ∧ (∀ i, i < k → q.1.1 60 0 i = nI (F i)) ∧ rdS (n - k) k B u F = rdS n 0 B1 u1 F00 ∧ fr Fur σ q.1) ?_ ?_ 0 _ (Nat.zero_le _) ⟨B1, u1, F00, rfl, by omega, rfl, c1, fun i hi => absurd hi (by omega), rfl, f2.mono (fun f i k z => by omega)⟩) (fun σ7 x8 x9 hq => ok_some hq) (fun r hq => ok_some hq))
  · rintro k ⟨σ2, x, y⟩ hk ⟨B, u, F, rfl, hu, rfl, q1, q2, q3, q4⟩
    dsimp only at q1 q2 q4 ⊢
    generalize rdS n 0 B1 u1 F00 = Z0 at q3 ⊢
    unfold lb_Mo_steps_14
    rw [show n - k = n - (k + 1) + 1 by omega] at q3
    simp only [rdS] at q3
    refine ok_f (nI_ge hk (by omega)) (ok_b2 (s_pb q1) (fun σ3 x4 h3 => ok_bs3 (s_steps26 hu h3.1) (fun σ13 x14 x15 h13 => ?_) (fun r hr => ok_some ?_)))
    · obtain ⟨s1, s2, s3⟩ := h13
      have f3 := h3.2
      dsimp only at s1 s2 s3 f3
      generalize stp B u = z at *
      obtain ⟨z1, z2, z3⟩ := z
      dsimp only at s1 s3 q3
      rcases s3 with ⟨e, rfl, rfl, r2⟩ | ⟨rfl, rfl, rfl, r2⟩
      · dsimp only at q3
        refine ok_f (nneg r2) (ok_some ?_)
        dsimp only
        rw [← q3]
        exact ⟨s1, fun e' he => by cases he; exact ⟨rfl, r2⟩, fun z => absurd z (by simp), q4.tr ((f3.tr s2).mono (fun f i k z => by omega))⟩
      · dsimp only at q3
        rw [nI_cl (show k < 2 ^ 31 by omega)]
        refine ok_t (by decide) (ok_gd (nI_ib (by omega) (by omega)) (ok_nm (fun σ5 e5 => ok_nm (fun x6 e6 => ok_some ⟨z2, z3, setF F k z3, rfl, r2, by dsimp only; rw [e6, nI_1], ?_, fun i hi => ?_, q3, ?_⟩))))
        · exact s1.go (by dsimp only; rw [e5, sI_f (by omega)]) (by dsimp only; rw [e5, sI_f (by omega)]) (by dsimp only; rw [e5, sI_fi (by omega)])
        · dsimp only
          rw [e5]
          unfold setF
          by_cases hik : i = k
          · subst hik
            rw [sI_at, if_pos rfl]
          · rw [sI_k hik, if_neg hik, s2.i (by omega), f3.i (by omega)]
            exact q2 i (by omega)
        · rw [e5]
          exact q4.tr (((f3.tr s2).mono (fun f i k z => by omega)).tr (fr_sI (by omega)))
    · obtain ⟨s1, s2, e, s3, s4, s5⟩ := hr
      have f3 := h3.2
      dsimp only at f3
      generalize stp B u = z at *
      obtain ⟨z1, z2, z3⟩ := z
      dsimp only at s1 s3 q3 ⊢
      subst s3
      dsimp only at q3
      rw [← q3]
      exact ⟨s1, fun e' he => by cases he; exact ⟨s4, s5⟩, fun z => absurd z (by simp), q4.tr ((f3.tr s2).mono (fun f i k z => by omega))⟩
  · rintro ⟨σ2, x, y⟩ ⟨B, u, F, rfl, hu, rfl, q1, q2, q3, q4⟩
    dsimp only at q1 q2 q4 ⊢
    unfold lb_Mo_steps_14
    rw [Nat.sub_self] at q3
    simp only [rdS] at q3
    refine ok_t (nI_le (Nat.le_refl _) (by omega)) (ok_some ?_)
    dsimp only
    rw [← q3]
    exact ⟨q1, fun e he => absurd he (by simp), fun _ => ⟨rfl, q2⟩, q4⟩
abbrev Fux : Nat → Nat → Nat → Prop := fun f _ k => (f = 48 ∧ k = 11) ∨ (f = 50 ∧ 768 ≤ k)
/-- the code of the commands, read -/
theorem s_moRuns48 {σ : St} {u1 : Nat} {a1 : Int32} {B1 : List Bool} (hu : u1 < 16) (hS : SR σ B1) (h50 : ∀ k, k < 19 → σ.1 50 0 (64 * 12 + k) = 0) : ok (lpE (fun q => lb_Mo_readRuns_48 a1 (nI u1) q.1 q.2) (σ, 0)) (fun z => match z with
    | .inl q => (rdC (u1 + 4) 0 B1 F00).1 = none ∧ SR q.1 (rdC (u1 + 4) 0 B1 F00).2.1 ∧ (∀ k, k < 19 → q.1.1 50 0 (64 * 12 + k) = nI ((rdC (u1 + 4) 0 B1 F00).2.2 k)) ∧ fr Fux σ q.1
    | .inr o => ∃ e, (rdC (u1 + 4) 0 B1 F00).1 = some e ∧ SR o.1 (rdC (u1 + 4) 0 B1 F00).2.1 ∧ o.2 = e ∧ e < 0 ∧ fr Fux σ o.1) := by
  refine ok_up (u1 + 4) (fun i q => q.2 = nI i ∧ ∃ B L, SR q.1 B ∧ (∀ k, k < 19 → q.1.1 50 0 (64 * 12 + k) = nI (L k)) ∧ rdC (u1 + 4 - i) i B L = rdC (u1 + 4) 0 B1 F00 ∧ fr Fux σ q.1) ?_ ?_ 0 _ (Nat.zero_le _) ⟨rfl, B1, F00, hS, fun k hk => h50 k hk, rfl, fr.rf⟩
  · rintro i ⟨σ4, x⟩ hi ⟨rfl, B, L, q1, q2, q3, q4⟩
    dsimp only at q1 q2 q4 ⊢
    unfold lb_Mo_readRuns_48
    generalize rdC (u1 + 4) 0 B1 F00 = Z0 at q3 ⊢
    rw [show u1 + 4 - i = u1 + 4 - (i + 1) + 1 by omega] at q3
    simp only [rdC] at q3
    rw [show nI u1 + 4 = nI (u1 + 4) from nI_add u1 4]
    refine ok_f (nI_ge hi (by omega)) (ok_b2 (sr_num (n := 3) q1 (by omega) (by omega)) (fun σ5 x5 h5 => ?_))
    obtain ⟨h5a, h5b, f5⟩ := h5
    dsimp only at f5
    by_cases hl3 : B.length < 3
    · rw [if_pos hl3] at q3
      cases h5a hl3
      refine ok_f nn104 (ok_some ?_)
      dsimp only
      rw [← q3]
      exact ⟨-104, rfl, q1, rfl, n104, q4⟩
    · rw [if_neg hl3] at q3
      obtain ⟨d1, d2, d3⟩ := h5b (by omega)
      dsimp only at d1 d2
      obtain ⟨o1, o2⟩ := ordr_ok i (by omega)
      rw [d2]
      refine ok_t (nI_pos' (by omega)) (ok_b2e (e_orderOf (show i < 19 by omega)) ?_)
      rw [i768, nI_cl (show 64 * 12 + ordr i < 2 ^ 31 by omega)]
      refine ok_gd (nI_ib (by omega) (by omega)) (ok_nm (fun σ6 e6 => ok_nm (fun x7 e7 => ok_some ⟨by dsimp only; rw [e7, nI_1], B.drop 3, setF L (ordr i) (numL 0 (B.take 3)), ?_, fun k hk => ?_, q3, ?_⟩)))
      · exact d1.go (by dsimp only; rw [e6, sI_f (by omega)]) (by dsimp only; rw [e6, sI_f (by omega)]) (by dsimp only; rw [e6, sI_fi (by omega)])
      · dsimp only
        rw [e6]
        unfold setF
        by_cases hko : k = ordr i
        · subst hko
          rw [sI_at, if_pos rfl]
        · rw [sI_k (by omega), if_neg hko, f5.i (by omega)]
          exact q2 k hk
      · rw [e6]
        exact q4.tr ((f5.mono (fun f i k z => by omega)).tr (fr_sI (by omega)))
  · rintro ⟨σ4, x⟩ ⟨rfl, B, L, q1, q2, q3, q4⟩
    dsimp only at q1 q2 q4 ⊢
    unfold lb_Mo_readRuns_48
    generalize rdC (u1 + 4) 0 B1 F00 = Z0 at q3 ⊢
    rw [Nat.sub_self] at q3
    simp only [rdC] at q3
    rw [show nI u1 + 4 = nI (u1 + 4) from nI_add u1 4]
    refine ok_t (nI_le (Nat.le_refl _) (by omega)) (ok_some ?_)
    dsimp only
    rw [← q3]
    exact ⟨rfl, q1, q2, q4⟩
theorem s_mr260 {σ : St} {i r v n : Nat} {F : Nat → Nat} {p1 : Int32} (hi : i + r ≤ n) (hn : n ≤ 64) (hF : ∀ k, k < i → σ.1 60 0 k = nI (F k)) : ok (lpE (fun q => lb_Mo_readRuns_260 p1 (nI r) (nI v) q.1 q.2.1 q.2.2) (σ, nI i, 0)) (fun q => q.2.1 = nI (i + r) ∧ (∀ k, k < i + r → q.1.1 60 0 k = nI (filF F i r v k)) ∧ fr (fun f _ _ => f = 60) σ q.1) := by
  refine ok_up r (fun e q => q.2.1 = nI (i + e) ∧ q.2.2 = nI e ∧ (∀ k, k < i + e → q.1.1 60 0 k = nI (filF F i r v k)) ∧ fr (fun f _ _ => f = 60) σ q.1) ?_ ?_ 0 _ (by omega) ⟨rfl, rfl, fun k hk => ?_, fr.rf⟩
  · rintro e ⟨σ1, x, y⟩ he ⟨rfl, rfl, q1, q2⟩
    dsimp only at q1 q2 ⊢
    unfold lb_Mo_readRuns_260
    rw [nI_cl (show i + e < 2 ^ 31 by omega)]
    refine ok_f (nI_ge he (by omega)) (ok_gd (nI_ib (by omega) (by omega)) (ok_nm (fun σ6 e6 => ok_nm (fun x7 e7 => ok_nm (fun x8 e8 => ok_some ⟨by dsimp only; rw [e7, nI_1]; rfl, by dsimp only; rw [e8, nI_1], fun k hk => ?_, ?_⟩)))))
    · dsimp only
      rw [e6]
      by_cases hke : k = i + e
      · subst hke
        rw [sI_at]
        unfold filF
        rw [if_pos ⟨by omega, by omega⟩]
      · rw [sI_k hke]
        exact q1 k (by omega)
    · rw [e6]
      exact q2.tr (fr_sI rfl)
  · rintro ⟨σ1, x, y⟩ ⟨rfl, rfl, q1, q2⟩
    unfold lb_Mo_readRuns_260
    exact ok_t (nI_le (Nat.le_refl _) (by omega)) (ok_some ⟨rfl, q1, q2⟩)
  · dsimp only
    rw [hF k (by omega)]
    unfold filF
    rw [if_neg (by omega)]
