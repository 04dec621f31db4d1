/-! ===== lengths packed: RUNS, the reference ===== -/
theorem e_wordOf0 {σ : St} {c s y : Nat} {L : Nat → Nat} (h : LR σ c s L) (hy : y < s) : ok (f_Mo_wordOf σ (nI c) (nI y)) (fun o => o.1 = σ) := by
  have hs := h.2.1
  have hc := h.2.2.1
  unfold f_Mo_wordOf
  rw [e_lengthOf h hy]
  dsimp only [b2]
  refine ok_b3 (Q := fun q => q.1 = σ) (ok_up s (fun k q => q.1 = σ ∧ q.2.2 = nI k) ?_ ?_ 0 _ (Nat.zero_le _) ⟨rfl, rfl⟩) (fun σ1 x z hq => ok_some hq)
  · rintro k ⟨σ1, x, z⟩ hk ⟨rfl, rfl⟩
    dsimp only
    unfold lb_Mo_wordOf_13
    rw [nI_cl (by omega), h.1]
    refine ok_gd (nI_ib (by omega) (by omega)) (ok_f (nI_ge hk (by omega)) ?_)
    rw [e_lengthOf h hk]
    dsimp only [b2]
    exact ok_if (fun _ => ok_nm (fun x5 e5 => ok_some ⟨rfl, by dsimp only; rw [e5, nI_1]⟩)) (fun _ => ok_if (fun _ => ok_nm (fun x6 e6 => ok_nm (fun x7 e7 => ok_some ⟨rfl, by dsimp only; rw [e7, nI_1]⟩))) (fun _ => ok_if (fun _ => ok_if (fun _ => ok_nm (fun x9 e9 => ok_some ⟨rfl, by dsimp only; rw [e9, nI_1]⟩)) (fun _ => ok_nm (fun x10 e10 => ok_nm (fun x11 e11 => ok_some ⟨rfl, by dsimp only; rw [e11, nI_1]⟩)))) (fun _ => ok_nm (fun x8 e8 => ok_some ⟨rfl, by dsimp only; rw [e8, nI_1]⟩))))
  · rintro ⟨σ1, x, z⟩ ⟨rfl, rfl⟩
    dsimp only
    unfold lb_Mo_wordOf_13
    rw [nI_cl (by omega), h.1]
    exact ok_gd (nI_ib (by omega) (by omega)) (ok_t (nI_le (Nat.le_refl _) (by omega)) (ok_some rfl))
theorem ordr_ref : ∀ i, i < 19 → (if (3 : Int32) ≤ nI i then if nI i = 3 then (0 : Int32) else if (nI i &&& 1) = 0 then 8 + ((nI i - 4) / 2) else 7 - ((nI i - 5) / 2) else 16 + nI i) = nI (ordr i) := by decide +kernel
theorem e_orderOf {σ : St} {i : Nat} (h : i < 19) : f_Mo_orderOf σ (nI i) = some (σ, nI (ordr i)) := by
  rw [← ordr_ref i h]
  unfold f_Mo_orderOf
  repeat' split
  all_goals rfl
theorem ext_ref : ∀ c, c < 19 → (if nI c = 16 then (2 : Int32) else if nI c = 17 then 3 else if nI c = 18 then 7 else 0) = nI (if c < 16 then 0 else ebt c) := by decide +kernel
theorem e_extra {σ : St} {c : Nat} (h : c < 19) : f_Mo_extra σ (nI c) = some (σ, nI (if c < 16 then 0 else ebt c)) := by
  rw [← ext_ref c h]
  unfold f_Mo_extra
  repeat' split
  all_goals rfl
/-- the commands of the reference so far -/
def GR (σ : St) (C : List (Nat × Nat)) : Prop := σ.1 48 0 15 = nI C.length ∧ ∀ t, t < C.length → σ.1 58 0 t = nI (C.getD t (0, 0)).1 ∧ σ.1 59 0 t = nI (if (C.getD t (0, 0)).1 < 16 then 0 else (C.getD t (0, 0)).2 - shr (C.getD t (0, 0)).1)
abbrev Fgr : Nat → Nat → Nat → Prop := fun f _ k => (f = 48 ∧ k = 15) ∨ f = 58 ∨ f = 59
theorem s_tell {σ : St} {C : List (Nat × Nat)} (z : Nat × Nat) (h : GR σ C) (hC : C.length < 64) {v : Int32} (hv : v = nI (if z.1 < 16 then 0 else z.2 - shr z.1)) : ok (f_Mo_tell σ (nI z.1) v) (fun σ1 => GR σ1 (C ++ [z]) ∧ fr Fgr σ σ1) := by
  obtain ⟨h15, h58⟩ := h
  have hib : ib (nI C.length) 64 := nI_ib (by omega) (by omega)
  unfold f_Mo_tell
  rw [h15, nI_cl (show C.length < 2 ^ 31 by omega)]
  refine ok_gd hib (ok_nm (fun σ1 e1 => ?_))
  have a15 : σ1.1 48 0 15 = nI C.length := by rw [e1, sI_f (by omega)]; exact h15
  rw [a15, nI_cl (show C.length < 2 ^ 31 by omega)]
  refine ok_gd hib (ok_nm (fun σ2 e2 => ?_))
  have b15 : σ2.1 48 0 15 = nI C.length := by rw [e2, sI_f (by omega)]; exact a15
  rw [b15, nI_1]
  refine ok_nm (fun σ3 e3 => ok_some ⟨⟨?_, fun t ht => ?_⟩, ?_⟩)
  · rw [e3, sI_at, List.length_append]
    rfl
  · rw [List.length_append, List.length_singleton] at ht
    rw [e3, sI_f (by omega), sI_f (by omega), e2, sI_f (by omega), e1]
    by_cases htc : t = C.length
    · subst htc
      rw [sI_at, sI_at, getD_m]
      exact ⟨rfl, hv⟩
    · rw [sI_k htc, sI_k htc, sI_f (by omega), getD_l (by omega)]
      exact h58 t (by omega)
  · rw [e3, e2, e1]
    exact (fr_sI (by omega)).tr ((fr_sI (by omega)).tr (fr_sI (by omega)))
theorem s_fillCommands {σ : St} {c s : Nat} {L : Nat → Nat} (h : LR σ c s L) : ok (f_Mo_fillCommands σ (nI c)) (fun σ1 => GR σ1 (cml L s s 0) ∧ (cml L s s 0).length ≤ s ∧ (∀ z, z ∈ cml L s s 0 → z.1 < 19 ∧ z.2 ≤ 64 ∧ (16 ≤ z.1 → shr z.1 ≤ z.2)) ∧ fr Fgr σ σ1) := by
  have hs := h.2.1
  have hc := h.2.2.1
  unfold f_Mo_fillCommands
  refine ok_nm (fun σ1 e1 => ok_gd (nI_ib (by omega) (by omega)) ?_)
  have f1 : fr Fgr σ σ1 := by rw [e1]; exact fr_sI (by omega)
  have a49 : σ1.1 49 0 c = nI s := by rw [f1.i (by omega)]; exact h.1
  rw [nI_cl (by omega), a49]
  refine ok_nm (fun x2 e2 => ?_)
  rw [e2]
  refine ok_b2 (Q := fun q => GR q.1 (cml L s s 0) ∧ (cml L s s 0).length ≤ s ∧ (∀ z, z ∈ cml L s s 0 → z.1 < 19 ∧ z.2 ≤ 64 ∧ (16 ≤ z.1 → shr z.1 ≤ z.2)) ∧ fr Fgr σ q.1) (ok_lp (fun n q => ∃ i C f, n = s - i ∧ i ≤ s ∧ q.2 = nI i ∧ s - i ≤ f ∧ C ++ cml L s f i = cml L s s 0 ∧ C.length ≤ i ∧ GR q.1 C ∧ (∀ z, z ∈ C → z.1 < 19 ∧ z.2 ≤ 64 ∧ (16 ≤ z.1 → shr z.1 ≤ z.2)) ∧ fr Fgr σ q.1) ?_ s _ ⟨0, [], s, rfl, Nat.zero_le _, rfl, Nat.le_refl _, rfl, Nat.le_refl _, ⟨by rw [e1, sI_at]; rfl, fun t ht => absurd ht (by simp)⟩, fun z hz => (by cases hz), f1⟩) (fun σ13 x14 hq => ok_some hq)
  rintro n ⟨σ3, x⟩ ⟨i, C, f, rfl, hi, rfl, hf, hC, hCl, q1, q3, q2⟩
  dsimp only at q1 q2 ⊢
  have g : LR σ3 c s L := h.go (q2.fi (fun _ => by omega)) (q2.fi (fun _ => by omega))
  unfold lb_Mo_fillCommands_14
  rcases Nat.lt_or_ge i s with his | his
  · obtain ⟨f, rfl⟩ : ∃ f', f = f' + 1 := ⟨f - 1, by omega⟩
    have hLi := (h.2.2.2 i his).2
    obtain ⟨o1, o2, o3, o4⟩ := com_ok his hs hLi
    simp only [cml] at hC
    rw [if_neg (by omega)] at hC
    have hrl := rn_le L (L i) (s - i) i
    rw [e_lengthOf g his]
    refine ok_f (nI_ge his (by omega)) ?_
    have fin : ∀ (x : Int32) (v : Int32) (r : Nat), x = nI (com L s i).1 → v = nI (if (com L s i).1 < 16 then 0 else (com L s i).2 - shr (com L s i).1) → r = (com L s i).2 → ok (b1 (f_Mo_tell σ3 x v) fun σ10 => nm (nI i + nI r) fun x11 => (some (.inl (σ10, x11)) : Option ((St × Int32) ⊕ (St × Int32)))) (fun q => match q with | .inl a' => ∃ n', n' < s - i ∧ ∃ i C f, n' = s - i ∧ i ≤ s ∧ a'.2 = nI i ∧ s - i ≤ f ∧ C ++ cml L s f i = cml L s s 0 ∧ C.length ≤ i ∧ GR a'.1 C ∧ (∀ z, z ∈ C → z.1 < 19 ∧ z.2 ≤ 64 ∧ (16 ≤ z.1 → shr z.1 ≤ z.2)) ∧ fr Fgr σ a'.1 | .inr (o : St × Int32) => GR o.1 (cml L s s 0) ∧ (cml L s s 0).length ≤ s ∧ (∀ z, z ∈ cml L s s 0 → z.1 < 19 ∧ z.2 ≤ 64 ∧ (16 ≤ z.1 → shr z.1 ≤ z.2)) ∧ fr Fgr σ o.1) := by
      rintro x v r hx hv rfl
      rw [hx]
      refine ok_b1 (s_tell (com L s i) q1 (by omega) hv) (fun σ10 h10 => ok_nm (fun x11 e11 => ok_some ?_))
      refine ⟨_, ?_, i + (com L s i).2, C ++ [com L s i], f, rfl, o3, by dsimp only; rw [e11, nI_add], by omega, ?_, ?_, h10.1, ?_, q2.tr h10.2⟩
      · omega
      · rw [List.append_assoc]
        exact hC
      · rw [List.length_append, List.length_singleton]
        omega
      · intro z hz
        rcases List.mem_append.mp hz with hz | hz
        · exact q3 z hz
        · rw [List.mem_singleton.mp hz]
          exact ⟨o1, by omega, o4⟩
    -- the run: r of the length like, when like is the length at i; else none
    have h57 : ∀ (k0 : Int32) (r : Nat), (k0 = nI (L i) ∧ r = rn L (L i) (s - i) i) ∨ (¬ k0 = nI (L i) ∧ r = 0) → ok (lpE (fun q => lb_Mo_fillCommands_57 (nI c) (nI s) (nI i) (nI (L i)) k0 q.1 q.2) (σ3, 0)) (fun q => q = (σ3, nI r)) := by
      intro k0 r hk
      rcases hk with ⟨hk, hr⟩ | ⟨hk, hr⟩
      · refine ok_lp (fun n q => ∃ e, n = s - (i + e) ∧ q = (σ3, nI e) ∧ i + e ≤ s ∧ e + rn L (L i) (s - (i + e)) (i + e) = r) ?_ (s - i) _ ⟨0, rfl, rfl, by omega, by rw [hr, Nat.zero_add]; rfl⟩
        rintro n _ ⟨e, rfl, rfl, h2, h3⟩
        dsimp only
        unfold lb_Mo_fillCommands_57
        rw [nI_add]
        rcases Nat.lt_or_ge (i + e) s with he | he
        · rw [show s - (i + e) = s - (i + e + 1) + 1 by omega] at h3
          simp only [rn] at h3
          rw [e_lengthOf g he, hk]
          dsimp only [b2]
          have hLe := (h.2.2.2 (i + e) he).2
          refine ok_f (nI_ge he (by omega)) (ok_if (fun c => ok_nm (fun x7 e7 => ok_some ?_)) (fun c => ok_some ?_))
          · have c' := (nI_eq (by omega) (by omega)).mp c
            rw [if_pos c'] at h3
            refine ⟨s - (i + (e + 1)), by omega, e + 1, rfl, by rw [e7, nI_1], by omega, ?_⟩
            rw [show i + (e + 1) = i + e + 1 by omega]
            omega
          · have c' : ¬ L (i + e) = L i := fun z => c (by rw [z])
            rw [if_neg c'] at h3
            rw [← h3]
            rfl
        · rw [show s - (i + e) = 0 by omega] at h3
          simp only [rn] at h3
          refine ok_t (nI_le (by omega) (by omega)) (ok_some ?_)
          rw [← h3]
          rfl
      · refine ok_lp (fun _ q => q = (σ3, 0)) ?_ 0 _ rfl
        rintro n _ rfl
        dsimp only
        unfold lb_Mo_fillCommands_57
        rw [show nI i + 0 = nI i from nI_add i 0, e_lengthOf g his]
        dsimp only [b2]
        refine ok_f (nI_ge his (by omega)) (ok_f (fun z => hk z.symm) (ok_some ?_))
        rw [hr]
        rfl
    have h55 : ∀ (k0 : Int32) (r : Nat), (k0 = nI (L i) ∧ r = rn L (L i) (s - i) i) ∨ (¬ k0 = nI (L i) ∧ r = 0) → (L i = 0 → k0 = nI (L i)) → (0 < L i → (0 < i ∧ L (i - 1) = L i ↔ k0 = nI (L i))) → ok (jn_Mo_fillCommands_55 (nI c) (nI s) σ3 (nI i) (nI (L i)) 0 k0) (fun q => match q with | .inl a' => ∃ n', n' < s - i ∧ ∃ i C f, n' = s - i ∧ i ≤ s ∧ a'.2 = nI i ∧ s - i ≤ f ∧ C ++ cml L s f i = cml L s s 0 ∧ C.length ≤ i ∧ GR a'.1 C ∧ (∀ z, z ∈ C → z.1 < 19 ∧ z.2 ≤ 64 ∧ (16 ≤ z.1 → shr z.1 ≤ z.2)) ∧ fr Fgr σ a'.1 | .inr (o : St × Int32) => GR o.1 (cml L s s 0) ∧ (cml L s s 0).length ≤ s ∧ (∀ z, z ∈ cml L s s 0 → z.1 < 19 ∧ z.2 ≤ 64 ∧ (16 ≤ z.1 → shr z.1 ≤ z.2)) ∧ fr Fgr σ o.1) := by
      intro k0 r hk hz0 hz1
      have hr64 : r ≤ s - i := by rcases hk with ⟨-, hr⟩ | ⟨-, hr⟩ <;> omega
      -- what the command is, by r
      have com0a : L i = 0 → 11 ≤ r → com L s i = (18, r) := by
        intro a b
        have hr : r = rn L (L i) (s - i) i := by
          rcases hk with ⟨-, hr⟩ | ⟨hn, -⟩
          · exact hr
          · exact absurd (hz0 a) hn
        unfold com
        rw [← hr, if_pos ⟨a, b⟩]
      have com0b : L i = 0 → ¬ 11 ≤ r → 3 ≤ r → com L s i = (17, r) := by
        intro a b d
        have hr : r = rn L (L i) (s - i) i := by
          rcases hk with ⟨-, hr⟩ | ⟨hn, -⟩
          · exact hr
          · exact absurd (hz0 a) hn
        unfold com
        rw [← hr, if_neg (fun z => b z.2), if_pos ⟨a, d⟩]
      have com0c : L i = 0 → ¬ 3 ≤ r → com L s i = (L i, 1) := by
        intro a d
        have hr : r = rn L (L i) (s - i) i := by
          rcases hk with ⟨-, hr⟩ | ⟨hn, -⟩
          · exact hr
          · exact absurd (hz0 a) hn
        unfold com
        rw [← hr, if_neg (by omega), if_neg (by omega), if_neg (by omega)]
      have com1a : 0 < L i → 3 ≤ r → com L s i = (16, min r 6) := by
        intro a d
        have hr : r = rn L (L i) (s - i) i ∧ (0 < i ∧ L (i - 1) = L i) := by
          rcases hk with ⟨hk0, hr⟩ | ⟨-, hr⟩
          · exact ⟨hr, (hz1 a).mpr hk0⟩
          · omega
        unfold com
        rw [← hr.1, if_neg (by omega), if_neg (by omega), if_pos ⟨a, hr.2.1, hr.2.2, d⟩]
      have com1b : 0 < L i → ¬ 3 ≤ r → com L s i = (L i, 1) := by
        intro a d
        unfold com
        rw [if_neg (by omega), if_neg (by omega), if_neg]
        rintro ⟨-, b1, b2, b3⟩
        rcases hk with ⟨hk0, hr⟩ | ⟨hn, -⟩
        · omega
        · exact hn ((hz1 a).mp ⟨b1, b2⟩)
      unfold jn_Mo_fillCommands_55
      refine ok_b2 (h57 k0 r hk) (fun σ8 x9 hq => ?_)
      cases hq
      have h163 : ¬ (L i = 0 ∧ 3 ≤ r) → ok (jn_Mo_fillCommands_163_3 (nI c) (nI s) σ3 (nI i) (nI (L i)) (nI r)) (fun q => match q with | .inl a' => ∃ n', n' < s - i ∧ ∃ i C f, n' = s - i ∧ i ≤ s ∧ a'.2 = nI i ∧ s - i ≤ f ∧ C ++ cml L s f i = cml L s s 0 ∧ C.length ≤ i ∧ GR a'.1 C ∧ (∀ z, z ∈ C → z.1 < 19 ∧ z.2 ≤ 64 ∧ (16 ≤ z.1 → shr z.1 ≤ z.2)) ∧ fr Fgr σ a'.1 | .inr (o : St × Int32) => GR o.1 (cml L s s 0) ∧ (cml L s s 0).length ≤ s ∧ (∀ z, z ∈ cml L s s 0 → z.1 < 19 ∧ z.2 ≤ 64 ∧ (16 ≤ z.1 → shr z.1 ≤ z.2)) ∧ fr Fgr σ o.1) := by
        intro hn
        unfold jn_Mo_fillCommands_163_3
        have one : ∀ (hcm : com L s i = (L i, 1)), nI (L i) = nI (com L s i).1 ∧ (0 : Int32) = nI (if (com L s i).1 < 16 then 0 else (com L s i).2 - shr (com L s i).1) ∧ 1 = (com L s i).2 := by
          intro hcm
          rw [hcm]
          refine ⟨rfl, ?_, rfl⟩
          dsimp only
          rw [if_pos (by omega)]
          rfl
        refine ok_if (fun c1 => ?_) (fun c1 => ok_if (fun c2 => ?_) (fun c2 => ok_if (fun c3 => ?_) (fun c3 => ?_)))
        · have c1' := (nI_leI (b := 0) (by omega) (by omega)).mp c1
          obtain ⟨p1, p2, p3⟩ := one (com0c (by omega) (by omega))
          exact fin _ _ 1 p1 p2 p3
        · have c1' : ¬ L i ≤ 0 := fun z => c1 (nI_le (b := 0) z (by omega))
          have c2' : r < 3 := (nI_ltI (b := 3) (by omega) (by omega)).mp c2
          obtain ⟨p1, p2, p3⟩ := one (com1b (by omega) (by omega))
          exact fin _ _ 1 p1 p2 p3
        · have c1' : ¬ L i ≤ 0 := fun z => c1 (nI_le (b := 0) z (by omega))
          have c2' : ¬ r < 3 := fun z => c2 (nI_lt (b := 3) z (by omega))
          have c3' : r ≤ 6 := (nI_leI (b := 6) (by omega) (by omega)).mp c3
          have hcm := com1a (by omega) (by omega)
          rw [show nI r - 3 = nI (r - 3) from pk_sub (b := 3) (by omega)]
          refine fin _ _ r (by rw [hcm]; rfl) ?_ (by rw [hcm]; dsimp only; omega)
          rw [hcm]
          dsimp only [shr]
          rw [if_neg (by decide), if_neg (by decide), Nat.min_eq_left c3']
        · have c1' : ¬ L i ≤ 0 := fun z => c1 (nI_le (b := 0) z (by omega))
          have c2' : ¬ r < 3 := fun z => c2 (nI_lt (b := 3) z (by omega))
          have c3' : ¬ r ≤ 6 := fun z => c3 (nI_le (b := 6) z (by omega))
          have hcm := com1a (by omega) (by omega)
          refine fin _ _ 6 (by rw [hcm]; rfl) ?_ (by rw [hcm]; dsimp only; omega)
          rw [hcm]
          dsimp only [shr]
          rw [if_neg (by decide), if_neg (by decide), Nat.min_eq_right (by omega)]
          rfl
      have h134 : ¬ (L i = 0 ∧ 11 ≤ r) → ok (jn_Mo_fillCommands_134_2 (nI c) (nI s) σ3 (nI i) (nI (L i)) (nI r)) (fun q => match q with | .inl a' => ∃ n', n' < s - i ∧ ∃ i C f, n' = s - i ∧ i ≤ s ∧ a'.2 = nI i ∧ s - i ≤ f ∧ C ++ cml L s f i = cml L s s 0 ∧ C.length ≤ i ∧ GR a'.1 C ∧ (∀ z, z ∈ C → z.1 < 19 ∧ z.2 ≤ 64 ∧ (16 ≤ z.1 → shr z.1 ≤ z.2)) ∧ fr Fgr σ a'.1 | .inr (o : St × Int32) => GR o.1 (cml L s s 0) ∧ (cml L s s 0).length ≤ s ∧ (∀ z, z ∈ cml L s s 0 → z.1 < 19 ∧ z.2 ≤ 64 ∧ (16 ≤ z.1 → shr z.1 ≤ z.2)) ∧ fr Fgr σ o.1) := by
        intro hn
        unfold jn_Mo_fillCommands_134_2
        refine ok_if (fun c1 => ok_if (fun c2 => (h163 ?_).mono (fun q hq => hq)) (fun c2 => ?_)) (fun c1 => (h163 ?_).mono (fun q hq => hq))
        · have c2' : r < 3 := (nI_ltI (b := 3) (by omega) (by omega)).mp c2
          omega
        · have c1' : L i = 0 := (nI_eq (b := 0) (by omega) (by omega)).mp c1
          have c2' : ¬ r < 3 := fun z => c2 (nI_lt (b := 3) z (by omega))
          have hcm := com0b c1' (by omega) (by omega)
          rw [show nI r - 3 = nI (r - 3) from pk_sub (b := 3) (by omega)]
          refine fin _ _ r (by rw [hcm]; rfl) ?_ (by rw [hcm])
          rw [hcm]
          dsimp only [shr]
          rw [if_neg (by decide), if_neg (by decide)]
        · have c1' : ¬ L i = 0 := fun z => c1 (by rw [z]; rfl)
          omega
      refine ok_if (fun c1 => ok_if (fun c2 => (h134 ?_).mono (fun q hq => hq)) (fun c2 => ok_t (nI_le (b := 138) (by omega) (by omega)) ?_)) (fun c1 => (h134 ?_).mono (fun q hq => hq))
      · have c2' : r < 11 := (nI_ltI (b := 11) (by omega) (by omega)).mp c2
        omega
      · have c1' : L i = 0 := (nI_eq (b := 0) (by omega) (by omega)).mp c1
        have c2' : ¬ r < 11 := fun z => c2 (nI_lt (b := 11) z (by omega))
        have hcm := com0a c1' (by omega)
        rw [show nI r - 11 = nI (r - 11) from pk_sub (b := 11) (by omega)]
        refine fin _ _ r (by rw [hcm]; rfl) ?_ (by rw [hcm])
        rw [hcm]
        dsimp only [shr]
        rw [if_neg (by decide), if_pos rfl]
      · have c1' : ¬ L i = 0 := fun z => c1 (by rw [z]; rfl)
        omega
    dsimp only [b2]
    refine ok_if (fun c1 => (h55 0 _ (Or.inl ⟨?_, rfl⟩) (fun _ => ?_) (fun z => ?_)).mono (fun q hq => by rcases q with q | q <;> exact hq)) (fun c1 => ok_if (fun c2 => (h55 (-1) 0 (Or.inr ⟨?_, rfl⟩) (fun z => ?_) (fun z => ?_)).mono (fun q hq => by rcases q with q | q <;> exact hq)) (fun c2 => ?_))
    · exact c1.symm
    · exact c1.symm
    · have c1' : L i = 0 := (nI_eq (b := 0) (by omega) (by omega)).mp c1
      omega
    · intro z
      have := nI_pos (n := L i) (by omega)
      rw [← z] at this
      exact this (by decide)
    · exact absurd (by rw [z]; rfl) c1
    · have c2' := (nI_leI (b := 0) (by omega) (by omega)).mp c2
      constructor
      · intro y
        omega
      · intro y
        have := nI_pos (n := L i) (by omega)
        rw [← y] at this
        exact absurd (by decide) this
    · have c2' : ¬ i ≤ 0 := fun z => c2 (nI_le (b := 0) z (by omega))
      have hLp := (h.2.2.2 (i - 1) (by omega)).2
      rw [show nI i - 1 = nI (i - 1) from pk_sub (b := 1) (by omega), e_lengthOf g (show i - 1 < s by omega)]
      dsimp only
      have c1' : ¬ L i = 0 := fun z => c1 (by rw [z]; rfl)
      by_cases hlk : L (i - 1) = L i
      · exact (h55 (nI (L (i - 1))) _ (Or.inl ⟨by rw [hlk], rfl⟩) (fun z => absurd z c1') (fun _ => ⟨fun _ => by rw [hlk], fun _ => ⟨by omega, hlk⟩⟩)).mono (fun q hq => by rcases q with q | q <;> exact hq)
      · have hne : ¬ nI (L (i - 1)) = nI (L i) := fun z => hlk ((nI_eq (by omega) (by omega)).mp z)
        exact (h55 (nI (L (i - 1))) 0 (Or.inr ⟨hne, rfl⟩) (fun z => absurd z c1') (fun _ => ⟨fun z => absurd z.2 hlk, fun z => absurd z hne⟩)).mono (fun q hq => by rcases q with q | q <;> exact hq)
  · have : i = s := by omega
    subst this
    rw [cml_end (Nat.le_refl _), List.append_nil] at hC
    refine ok_t (nI_le (Nat.le_refl _) (by omega)) (ok_some ?_)
    rw [← hC]
    exact ⟨q1, hCl, q3, q2⟩
