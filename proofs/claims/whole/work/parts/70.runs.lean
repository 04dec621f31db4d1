/-! ===== lengths packed: RUNS, the class ===== -/
/-- how many of n symbols from i on have the length v, one behind the other -/
def rn (L : Nat → Nat) (v : Nat) : Nat → Nat → Nat
  | 0, _ => 0
  | n + 1, i => if L i = v then rn L v n (i + 1) + 1 else 0
theorem rn_le (L : Nat → Nat) (v : Nat) : ∀ n i, rn L v n i ≤ n
  | 0, _ => Nat.le_refl _
  | n + 1, i => by
    have := rn_le L v n (i + 1)
    simp only [rn]
    split <;> omega
theorem rn_pos {L : Nat → Nat} {s i : Nat} (h : i < s) : 1 ≤ rn L (L i) (s - i) i := by
  rw [show s - i = s - (i + 1) + 1 by omega]
  simp only [rn, if_true]
  omega
/-- the command at i, and how many lengths it tells -/
def com (L : Nat → Nat) (s i : Nat) : Nat × Nat :=
  if L i = 0 ∧ 11 ≤ rn L (L i) (s - i) i then (18, rn L (L i) (s - i) i)
  else if L i = 0 ∧ 3 ≤ rn L (L i) (s - i) i then (17, rn L (L i) (s - i) i)
  else if 0 < L i ∧ 0 < i ∧ L (i - 1) = L i ∧ 3 ≤ rn L (L i) (s - i) i then (16, min (rn L (L i) (s - i) i) 6)
  else (L i, 1)
abbrev shr (c : Nat) : Nat := if c = 18 then 11 else 3
abbrev ebt (c : Nat) : Nat := if c = 18 then 7 else if c = 17 then 3 else 2
theorem com_ok {L : Nat → Nat} {s i : Nat} (hi : i < s) (hs : s ≤ 64) (hL : L i ≤ 15) : (com L s i).1 < 19 ∧ 1 ≤ (com L s i).2 ∧ i + (com L s i).2 ≤ s ∧ (16 ≤ (com L s i).1 → shr (com L s i).1 ≤ (com L s i).2) := by
  have h1 := rn_le L (L i) (s - i) i
  have h2 := rn_pos (L := L) hi
  unfold com
  generalize rn L (L i) (s - i) i = r at *
  split
  · exact ⟨by dsimp only; omega, h2, by dsimp only; omega, fun _ => by dsimp only [shr]; rw [if_pos rfl]; omega⟩
  · split
    · exact ⟨by dsimp only; omega, h2, by dsimp only; omega, fun _ => by dsimp only [shr]; rw [if_neg (by decide)]; omega⟩
    · split
      · exact ⟨by dsimp only; omega, by dsimp only; omega, by dsimp only; omega, fun _ => by dsimp only [shr]; rw [if_neg (by decide)]; omega⟩
      · exact ⟨by dsimp only; omega, Nat.le_refl _, by dsimp only; omega, fun z => by dsimp only at z; omega⟩
def cml (L : Nat → Nat) (s : Nat) : Nat → Nat → List (Nat × Nat)
  | 0, _ => []
  | f + 1, i => if s ≤ i then [] else com L s i :: cml L s f (i + (com L s i).2)
theorem cml_end {L : Nat → Nat} {s i : Nat} (h : s ≤ i) : ∀ f, cml L s f i = []
  | 0 => rfl
  | f + 1 => by simp only [cml]; rw [if_pos h]
def cc (c : Nat) : List (Nat × Nat) → Nat
  | [] => 0
  | z :: C => (if z.1 = c then 1 else 0) + cc c C
theorem cc_app (c : Nat) : ∀ C D, cc c (C ++ D) = cc c C + cc c D
  | [], D => by simp [cc]
  | z :: C, D => by
    simp only [List.cons_append, cc, cc_app c C D]
    omega
theorem cc_one (c : Nat) (z : Nat × Nat) : cc c [z] = if z.1 = c then 1 else 0 := by
  simp only [cc, Nat.add_zero]
theorem cc_le (c : Nat) : ∀ C, cc c C ≤ C.length
  | [] => Nat.le_refl _
  | z :: C => by
    have := cc_le c C
    simp only [cc, List.length_cons]
    split <;> omega
abbrev Cn (C : List (Nat × Nat)) : Nat → Int32 := fun c => nI (cc c C)
theorem getD_l {α : Type} {C D : List α} {t : Nat} {d : α} (h : t < C.length) : (C ++ D).getD t d = C.getD t d := by
  simp [List.getD, List.getElem?_append_left h]
theorem getD_m {α : Type} {C : List α} {z d : α} : (C ++ [z]).getD C.length d = z := by
  simp [List.getD]
theorem e_runFrom {σ : St} {j s i : Nat} {L : Nat → Nat} (h : LN σ j s L) (hi : i < s) : ok (f_Commands_runFrom σ 42 j 64 (nI s) (nI i)) (fun o => o = (σ, nI (rn L (L i) (s - i) i))) := by
  have hs := h.2.1
  unfold f_Commands_runFrom
  have hr0 := rn_le L (L i) (s - i) i
  refine ok_b2 (Q := fun q => q.1 = σ ∧ q.2 = nI (i + rn L (L i) (s - i) i)) (ok_lp (fun n q => ∃ e, n = s - e ∧ q = (σ, nI e) ∧ i ≤ e ∧ e ≤ s ∧ e + rn L (L i) (s - e) e = i + rn L (L i) (s - i) i) ?_ (s - i) _ ⟨i, rfl, rfl, Nat.le_refl _, by omega, rfl⟩) (fun σ2 x3 hq => ok_some ?_)
  · rintro n _ ⟨e, rfl, rfl, h1, h2, h3⟩
    dsimp only
    unfold lb_Commands_runFrom_2
    rcases Nat.lt_or_ge e s with he | he
    · obtain ⟨a1, a2⟩ := h.2.2 e he
      obtain ⟨b1, b2⟩ := h.2.2 i hi
      rw [show s - e = s - (e + 1) + 1 by omega] at h3
      simp only [rn] at h3
      rw [nI_cl (by omega), nI_cl (by omega), a1, b1]
      refine ok_f (nI_ge he (by omega)) (ok_gd (nI_ib (by omega) (by omega)) (ok_gd (nI_ib (by omega) (by omega)) (ok_if (fun c => ok_nm (fun x1 e1 => ok_some ?_)) (fun c => ok_some ?_))))
      · have c' := (nI_eq (by omega) (by omega)).mp c
        rw [if_pos c'] at h3
        refine ⟨s - (e + 1), by omega, e + 1, rfl, by rw [e1, nI_1], by omega, by omega, by omega⟩
      · have c' : ¬ L e = L i := fun z => c (by rw [z])
        rw [if_neg c'] at h3
        exact ⟨rfl, by rw [← h3]; rfl⟩
    · have : e = s := by omega
      subst this
      refine ok_t (nI_le (Nat.le_refl _) (by omega)) (ok_some ⟨rfl, ?_⟩)
      rw [Nat.sub_self] at h3
      simp only [rn, Nat.add_zero] at h3
      rw [← h3]
  · obtain ⟨q1, q2⟩ := hq
    dsimp only at q1 q2
    rw [q1, q2, pk_sub (by omega), Nat.add_sub_cancel_left]
theorem tb10 : tb_1 (0 : Int32).toNatClampNeg = nI 3 := rfl
theorem tb11 : tb_1 (1 : Int32).toNatClampNeg = nI 3 := rfl
theorem tb12 : tb_1 (2 : Int32).toNatClampNeg = nI 11 := rfl
theorem e_commandAt {σ : St} {j s i : Nat} {L : Nat → Nat} (h : LN σ j s L) (hi : i < s) : ok (f_Commands_commandAt σ 42 j 64 (nI s) (nI i)) (fun o => o = (σ, nI (com L s i).1)) := by
  have hs := h.2.1
  have hr0 := rn_le L (L i) (s - i) i
  obtain ⟨b1, b2⟩ := h.2.2 i hi
  unfold f_Commands_commandAt
  refine ok_b2 (e_runFrom h hi) (fun σ1 x2 hq => ?_)
  cases hq
  unfold com
  generalize hr : rn L (L i) (s - i) i = r at *
  rw [nI_cl (by omega), b1, tb12]
  have h64 : 0 < L i → jn_Commands_commandAt_64_3 σ (nI r) (nI (L i)) = some (σ, nI (L i)) := by
    intro _
    unfold jn_Commands_commandAt_64_3
    split <;> rfl
  have h64z : jn_Commands_commandAt_64_3 σ (nI r) (nI (L i)) = some (σ, nI (L i)) := by
    unfold jn_Commands_commandAt_64_3
    split <;> rfl
  have h46 : ok (jn_Commands_commandAt_46_2 42 j 64 σ (nI i) (nI r) (nI (L i))) (fun o => o = (σ, nI (if 0 < L i ∧ 0 < i ∧ L (i - 1) = L i ∧ 3 ≤ r then 16 else L i))) := by
    unfold jn_Commands_commandAt_46_2
    rw [h64z]
    refine ok_if (fun c1 => ok_some ?_) (fun c1 => ?_)
    · have c1' := (nI_leI (b := 0) (by omega) (by omega)).mp c1
      rw [if_neg (by omega)]
    · have c1' : ¬ i ≤ 0 := fun z => c1 (nI_le (b := 0) z (by omega))
      obtain ⟨d1, d2⟩ := h.2.2 (i - 1) (by omega)
      rw [show nI i - 1 = nI (i - 1) from pk_sub (b := 1) (by omega), nI_cl (by omega), d1]
      refine ok_gd (nI_ib (by omega) (by omega)) (ok_if (fun c2 => ok_if (fun c3 => ok_some ?_) (fun c3 => ok_gd (by decide) ?_)) (fun c2 => ok_some ?_))
      · have c3' := (nI_leI (b := 0) (by omega) (by omega)).mp c3
        rw [if_neg (by omega)]
      · have c2' := (nI_eq (by omega) (by omega)).mp c2
        have c3' : ¬ L i ≤ 0 := fun z => c3 (nI_le (b := 0) z (by omega))
        rw [tb10]
        refine ok_if (fun c4 => ok_some ?_) (fun c4 => ok_some ?_)
        · have c4' := (nI_ltI (by omega) (by omega)).mp c4
          rw [if_neg (by omega)]
        · have c4' : ¬ r < 3 := fun z => c4 (nI_lt z (by omega))
          rw [if_pos ⟨by omega, by omega, c2', by omega⟩]
          rfl
      · have c2' : ¬ L (i - 1) = L i := fun z => c2 (by rw [z])
        rw [if_neg (fun z => c2' z.2.2.1)]
  have h46' : ∀ (hn : ¬ (L i = 0 ∧ 3 ≤ r)), ok (jn_Commands_commandAt_46_2 42 j 64 σ (nI i) (nI r) (nI (L i))) (fun o => o = (σ, nI (if L i = 0 ∧ 11 ≤ r then (18, r) else if L i = 0 ∧ 3 ≤ r then (17, r) else if 0 < L i ∧ 0 < i ∧ L (i - 1) = L i ∧ 3 ≤ r then (16, min r 6) else (L i, 1)).1)) := by
    intro hn
    refine h46.mono (fun o ho => ?_)
    rw [ho, if_neg (show ¬ (L i = 0 ∧ 11 ≤ r) by omega), if_neg hn]
    split <;> rfl
  have h29 : ∀ (hn : ¬ (L i = 0 ∧ 11 ≤ r)), ok (jn_Commands_commandAt_29 42 j 64 σ (nI i) (nI r) (nI (L i))) (fun o => o = (σ, nI (if L i = 0 ∧ 11 ≤ r then (18, r) else if L i = 0 ∧ 3 ≤ r then (17, r) else if 0 < L i ∧ 0 < i ∧ L (i - 1) = L i ∧ 3 ≤ r then (16, min r 6) else (L i, 1)).1)) := by
    intro hn
    unfold jn_Commands_commandAt_29
    rw [tb11]
    refine ok_if (fun c1 => ok_gd (by decide) (ok_if (fun c2 => h46' ?_) (fun c2 => ok_some ?_))) (fun c1 => h46' ?_)
    · have c2' := (nI_ltI (by omega) (by omega)).mp c2
      omega
    · have c1' := (nI_eq (b := 0) (by omega) (by omega)).mp c1
      have c2' : ¬ r < 3 := fun z => c2 (nI_lt z (by omega))
      rw [if_neg hn, if_pos ⟨c1', by omega⟩]
      rfl
    · have c1' : ¬ L i = 0 := fun z => c1 (by rw [z]; rfl)
      omega
  refine ok_gd (nI_ib (by omega) (by omega)) (ok_nm (fun x3 e3 => ?_))
  rw [e3]
  refine ok_if (fun c1 => ok_gd (by decide) (ok_if (fun c2 => h29 ?_) (fun c2 => ok_some ?_))) (fun c1 => h29 ?_)
  · have c2' := (nI_ltI (by omega) (by omega)).mp c2
    omega
  · have c1' := (nI_eq (b := 0) (by omega) (by omega)).mp c1
    have c2' : ¬ r < 11 := fun z => c2 (nI_lt z (by omega))
    rw [if_pos ⟨c1', by omega⟩]
    rfl
  · have c1' : ¬ L i = 0 := fun z => c1 (by rw [z]; rfl)
    omega
/-- the commands so far -/
def GC (σ : St) (C : List (Nat × Nat)) : Prop := σ.1 15 0 6 = nI C.length ∧ (∀ t, t < C.length → σ.1 17 0 t = nI (C.getD t (0, 0)).1 ∧ σ.1 18 0 t = nI (C.getD t (0, 0)).2) ∧ ∀ c, c < 19 → σ.1 16 0 c = nI (cc c C)
abbrev Fgc : Nat → Nat → Nat → Prop := fun f _ k => (f = 15 ∧ k = 6) ∨ f = 16 ∨ f = 17 ∨ f = 18
theorem jmax1 {r : Nat} (h : 1 ≤ r) (h2 : r < 2 ^ 31) : jmax (nI r) 1 = nI r := by
  unfold jmax
  rw [if_neg (show ¬ nI r < 1 from nI_nlt (b := 1) h h2)]
theorem jminN {r b : Nat} (h : r < 2 ^ 31) (h2 : b < 2 ^ 31) : jmin (nI r) (nI b) = nI (min r b) := by
  unfold jmin
  by_cases c : b < r
  · rw [if_pos (nI_lt c h), Nat.min_eq_right (by omega)]
  · rw [if_neg (nI_nlt (by omega) (by omega)), Nat.min_eq_left (by omega)]
theorem s_gather58 {σ : St} {C : List (Nat × Nat)} {i : Nat} {z : Nat × Nat} {s : Int32} {j : Nat} (h : GC σ C) (hC : C.length < 64) (hz : z.1 < 19) (hz1 : 1 ≤ z.2) (hz2 : z.2 < 2 ^ 31) : ok (jn_Commands_gather_58 42 j 64 s σ (nI i) (nI z.1) (nI z.2)) (fun q => ∃ σ1, q = .inl (σ1, nI (i + z.2)) ∧ GC σ1 (C ++ [z]) ∧ fr Fgc σ σ1) := by
  obtain ⟨h6, h17, h16⟩ := h
  have hib : ib (nI C.length) 64 := nI_ib (by omega) (by omega)
  have hib2 : ib (nI z.1) 19 := nI_ib (by omega) (by omega)
  unfold jn_Commands_gather_58
  rw [h6, nI_cl (show C.length < 2 ^ 31 by omega), nI_cl (show z.1 < 2 ^ 31 by omega), jmax1 hz1 hz2, nI_add]
  refine ok_gd hib (ok_nm (fun σ5 e5 => ?_))
  have a6 : σ5.1 15 0 6 = nI C.length := by rw [e5, sI_f (by omega)]; exact h6
  rw [a6, nI_cl (show C.length < 2 ^ 31 by omega)]
  refine ok_gd hib (ok_nm (fun σ6 e6 => ?_))
  have b6 : σ6.1 15 0 6 = nI C.length := by rw [e6, sI_f (by omega)]; exact a6
  rw [b6, nI_1]
  refine ok_nm (fun σ7 e7 => ok_gd hib2 (ok_gd hib2 (ok_nm (fun σ8 e8 => ok_nm (fun x9 e9 => ok_some ⟨σ8, by rw [e9], ⟨?_, fun t ht => ?_, fun c hc => ?_⟩, ?_⟩)))))
  · rw [e8, sI_f (by omega), e7, sI_at, List.length_append]
    rfl
  · rw [List.length_append, List.length_singleton] at ht
    rw [e8, sI_f (by omega), sI_f (by omega), e7, sI_f (by omega), sI_f (by omega), e6, sI_f (by omega), e5]
    by_cases htc : t = C.length
    · subst htc
      rw [sI_at, sI_at, getD_m]
      exact ⟨rfl, rfl⟩
    · rw [sI_k htc, sI_k htc, sI_f (by omega), getD_l (by omega)]
      exact h17 t (by omega)
  · have c16 : ∀ c, c < 19 → σ7.1 16 0 c = nI (cc c C) := fun c hc => by
      rw [e7, sI_f (by omega), e6, sI_f (by omega), e5, sI_f (by omega)]
      exact h16 c hc
    rw [e8, cc_app, cc_one]
    by_cases hcz : c = z.1
    · subst hcz
      rw [sI_at, if_pos rfl, c16 z.1 hz, nI_1]
    · rw [sI_k hcz, if_neg (fun q => hcz q.symm), Nat.add_zero]
      exact c16 c hc
  · rw [e8, e7, e6, e5]
    exact (fr_sI (by omega)).tr ((fr_sI (by omega)).tr ((fr_sI (by omega)).tr (fr_sI (by omega))))
theorem tb2c {c : Nat} (h : 16 ≤ c) (h2 : c < 19) : tb_2 (nI c - 16).toNatClampNeg = nI (if c = 18 then 138 else if c = 17 then 10 else 6) := by
  have : c = 16 ∨ c = 17 ∨ c = 18 := by omega
  rcases this with rfl | rfl | rfl <;> rfl
theorem s_gather {σ : St} {j s : Nat} {L : Nat → Nat} (h : LN σ j s L) : ok (f_Commands_gather σ 42 j 64 (nI s)) (fun σ1 => GC σ1 (cml L s s 0) ∧ (cml L s s 0).length ≤ s ∧ (∀ z, z ∈ cml L s s 0 → z.1 < 19 ∧ z.2 ≤ 64 ∧ (16 ≤ z.1 → shr z.1 ≤ z.2)) ∧ fr Fgc σ σ1) := by
  have hs := h.2.1
  unfold f_Commands_gather
  refine ok_nm (fun σ1 e1 => ok_b1 (s_fill (by omega) 0) (fun σ2 e2 => ?_))
  have f2 : fr Fgc σ σ2 := by
    rw [e2, e1]
    exact (fr_sI (by omega)).tr (fr_flI (fun _ => by omega))
  refine ok_b2 (Q := fun q => GC q.1 (cml L s s 0) ∧ (cml L s s 0).length ≤ s ∧ (∀ z, z ∈ cml L s s 0 → z.1 < 19 ∧ z.2 ≤ 64 ∧ (16 ≤ z.1 → shr z.1 ≤ z.2)) ∧ fr Fgc σ q.1) (ok_lp (fun n q => ∃ i C f, n = s - i ∧ i ≤ s ∧ q.2 = nI i ∧ s - i ≤ f ∧ C ++ cml L s f i = cml L s s 0 ∧ C.length ≤ i ∧ GC q.1 C ∧ (∀ z, z ∈ C → z.1 < 19 ∧ z.2 ≤ 64 ∧ (16 ≤ z.1 → shr z.1 ≤ z.2)) ∧ fr Fgc σ q.1) ?_ s _ ⟨0, [], s, rfl, Nat.zero_le _, rfl, Nat.le_refl _, rfl, Nat.le_refl _, ⟨?_, fun t ht => absurd ht (by simp), fun c hc => ?_⟩, fun z hz => (by cases hz), f2⟩) (fun σ13 x14 hq => ok_some hq)
  · rintro n ⟨σ3, x⟩ ⟨i, C, f, rfl, hi, rfl, hf, hC, hCl, q1, q3, q2⟩
    dsimp only at q1 q2 ⊢
    have g := h.go (q2.i (by omega)) (q2.fi (fun _ => by omega))
    unfold lb_Commands_gather_15
    rcases Nat.lt_or_ge i s with his | his
    · obtain ⟨f, rfl⟩ : ∃ f', f = f' + 1 := ⟨f - 1, by omega⟩
      obtain ⟨o1, o2, o3, o4⟩ := com_ok his hs (h.2.2 i his).2
      refine ok_f (nI_ge his (by omega)) (ok_b2 (e_commandAt g his) (fun σ4 x5 hq => ?_))
      cases hq
      simp only [cml] at hC
      rw [if_neg (by omega)] at hC
      have fin : ∀ q, (∃ σ1, q = Sum.inl (σ1, nI (i + (com L s i).2)) ∧ GC σ1 (C ++ [com L s i]) ∧ fr Fgc σ3 σ1) → (match (q : (St × Int32) ⊕ (St × Int32)) with | .inl a' => ∃ n', n' < s - i ∧ ∃ i C f, n' = s - i ∧ i ≤ s ∧ a'.2 = nI i ∧ s - i ≤ f ∧ C ++ cml L s f i = cml L s s 0 ∧ C.length ≤ i ∧ GC a'.1 C ∧ (∀ z, z ∈ C → z.1 < 19 ∧ z.2 ≤ 64 ∧ (16 ≤ z.1 → shr z.1 ≤ z.2)) ∧ fr Fgc σ a'.1 | .inr _ => False) := by
        rintro q ⟨σ5, rfl, r1, r2⟩
        refine ⟨_, ?_, i + (com L s i).2, C ++ [com L s i], f, rfl, o3, rfl, by omega, ?_, ?_, r1, ?_, q2.tr r2⟩
        · omega
        · rw [List.append_assoc]
          exact hC
        · rw [List.length_append, List.length_singleton]
          omega
        · intro z hz
          rcases List.mem_append.mp hz with hz | hz
          · exact q3 z hz
          · rw [List.mem_singleton.mp hz]
            exact ⟨o1, by omega, o4⟩
      refine ok_if (fun c => ?_) (fun c => ?_)
      · have c' : (com L s i).1 < 16 := (nI_ltI (b := 16) (by omega) (by omega)).mp c
        have hone : (com L s i).2 = 1 := by
          unfold com at c' ⊢
          generalize rn L (L i) (s - i) i = r at *
          by_cases d1 : L i = 0 ∧ 11 ≤ r
          · rw [if_pos d1] at c'; dsimp only at c'; omega
          · rw [if_neg d1] at c' ⊢
            by_cases d2 : L i = 0 ∧ 3 ≤ r
            · rw [if_pos d2] at c'; dsimp only at c'; omega
            · rw [if_neg d2] at c' ⊢
              by_cases d3 : 0 < L i ∧ 0 < i ∧ L (i - 1) = L i ∧ 3 ≤ r
              · rw [if_pos d3] at c'; dsimp only at c'; omega
              · rw [if_neg d3]
        have := s_gather58 (j := j) (s := nI s) (i := i) (z := com L s i) q1 (by omega) o1 o2 (by omega)
        rw [hone] at this
        refine this.mono (fun q hq => ?_)
        rw [← hone] at hq
        have := fin q hq
        rcases q with q | q
        · exact this
        · exact this.elim
      · have c' : ¬ (com L s i).1 < 16 := fun z => c (nI_lt (b := 16) z (by omega))
        have hrl := rn_le L (L i) (s - i) i
        refine ok_b2 (e_runFrom g his) (fun σ10 x11 hq => ?_)
        cases hq
        rw [tb2c (by omega) o1]
        have hmin : min (rn L (L i) (s - i) i) (if (com L s i).1 = 18 then 138 else if (com L s i).1 = 17 then 10 else 6) = (com L s i).2 := by
          unfold com at c' ⊢
          generalize rn L (L i) (s - i) i = r at *
          by_cases d1 : L i = 0 ∧ 11 ≤ r
          · simp only [if_pos d1, if_true]; omega
          · by_cases d2 : L i = 0 ∧ 3 ≤ r
            · simp only [if_neg d1, if_pos d2]
              rw [if_neg (by decide), if_pos trivial]
              omega
            · by_cases d3 : 0 < L i ∧ 0 < i ∧ L (i - 1) = L i ∧ 3 ≤ r
              · simp only [if_neg d1, if_neg d2, if_pos d3]
                rw [if_neg (by decide), if_neg (by decide)]
              · simp only [if_neg d1, if_neg d2, if_neg d3] at c'
                have := (h.2.2 i his).2
                omega
        rw [jminN (by omega) (by split; omega; split <;> omega), hmin]
        refine ok_gd ?_ (ok_nm (fun x12 e12 => ?_))
        · rw [show nI (com L s i).1 - 16 = nI ((com L s i).1 - 16) from pk_sub (b := 16) (by omega)]
          exact nI_ib (by omega) (by omega)
        · rw [e12]
          refine (s_gather58 (j := j) (s := nI s) (i := i) (z := com L s i) q1 (by omega) o1 o2 (by omega)).mono (fun q hq => ?_)
          have := fin q hq
          rcases q with q | q
          · exact this
          · exact this.elim
    · have : i = s := by omega
      subst this
      rw [cml_end (Nat.le_refl _), List.append_nil] at hC
      refine ok_t (nI_le (Nat.le_refl _) (by omega)) (ok_some ?_)
      rw [← hC]
      exact ⟨q1, hCl, q3, q2⟩
  · dsimp only
    rw [e2, flI_1, if_neg (by omega), e1, sI_at]
    rfl
  · dsimp only
    rw [e2, flI_at hc]
    rfl
