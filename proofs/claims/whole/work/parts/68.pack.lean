/-! ===== lengths packed: PLAIN and STEPS ===== -/
theorem SR.back {σ σ1 : St} {B : List Bool} (h : SR σ B) (h1 : σ1.1 48 0 12 = σ.1 48 0 12) (h2 : σ1.1 57 0 = σ.1 57 0) : SR (sI σ1 48 0 11 (σ.1 48 0 11)) B :=
  h.go sI_at (by rw [sI_k (by omega)]; exact h1) (by rw [← h2]; exact sI_fi (by omega))
def plB (L : Nat → Nat) : Nat → List Bool
  | 0 => []
  | k + 1 => plB L k ++ bitsOf (nI (L k)) 4
theorem plB_len (L : Nat → Nat) : ∀ k, (plB L k).length = 4 * k
  | 0 => rfl
  | k + 1 => by
    simp only [plB, List.length_append, bitsOf_len, plB_len L k]
    omega
def rep (x : List Bool) : Nat → List Bool
  | 0 => []
  | n + 1 => x ++ rep x n
theorem rep_len (x : List Bool) : ∀ n, (rep x n).length = n * x.length
  | 0 => by simp [rep]
  | n + 1 => by
    simp only [rep, List.length_append, rep_len x n, Nat.succ_mul]
    omega
def pth (u v : Nat) : List Bool := rep (bitsOf 2 2) (v - u) ++ rep (bitsOf 3 2) (u - v)
theorem pth_len (u v : Nat) : (pth u v).length = 2 * ((v - u) + (u - v)) := by
  simp only [pth, List.length_append, rep_len, bitsOf_len]
  omega
def prv (L : Nat → Nat) : Nat → Nat
  | 0 => L 0
  | k + 1 => L k
def stB (L : Nat → Nat) : Nat → List Bool
  | 0 => bitsOf (nI (L 0)) 4
  | k + 1 => stB L k ++ pth (prv L k) (L k) ++ [false]
theorem prv_le {L : Nat → Nat} {s : Nat} (h : ∀ k, k < s → L k ≤ 15) : ∀ k, k < s → prv L k ≤ 15
  | 0, hk => h 0 hk
  | k + 1, hk => h k (by omega)
theorem stB_len {L : Nat → Nat} {s : Nat} (h : ∀ k, k < s → L k ≤ 15) : ∀ k, k ≤ s → (stB L k).length ≤ 4 + 31 * k
  | 0, _ => by simp only [stB, bitsOf_len]; omega
  | k + 1, hk => by
    have h1 := stB_len h k (by omega)
    have h2 := prv_le h k (by omega)
    have h3 := h k (by omega)
    simp only [stB, List.length_append, pth_len, List.length_singleton]
    omega
theorem nat4 : (4 : Int32) = nI 4 := rfl
theorem AP.go {h z0 : Nat} {σ0 σ : St} {B : List Bool} (hA : AP h z0 σ0 B σ) : fr Fs σ0 σ := hA.2.2.1
theorem s_appendPlain {σ0 σ : St} {h z0 j s : Nat} {L : Nat → Nat} {B : List Bool} (hL : LN σ0 j s L) (hA : AP h z0 σ0 B σ) : ok (f_Manners_appendPlain σ j) (AP h z0 σ0 (B ++ plB L s)) := by
  unfold f_Manners_appendPlain
  refine ok_b2 (Q := fun q => AP h z0 σ0 (B ++ plB L s) q.1) (ok_up s (fun k q => q.2 = nI k ∧ AP h z0 σ0 (B ++ plB L k) q.1) ?_ ?_ 0 _ (Nat.zero_le _) ⟨rfl, by simp only [plB, List.append_nil]; exact hA⟩) (fun σ3 x4 hq => ok_some hq)
  · rintro k ⟨σ1, x⟩ hk ⟨rfl, q⟩
    dsimp only at q ⊢
    have f1 := q.go
    have g := hL.go (f1.i (by omega)) (f1.fi (fun _ => by omega))
    have hs := g.2.1
    unfold lb_Manners_appendPlain_2
    rw [g.1, nI_cl (by omega), (g.2.2 k hk).1]
    refine ok_f (nI_ge hk (by omega)) (ok_gd (nI_ib (by omega) (by omega)) (ok_b1 (q.number (nI (L k)) (n := 4) (by omega)) (fun σ2 h2 => ok_nm (fun x2 e2 => ok_some ⟨?_, ?_⟩))))
    · dsimp only
      rw [e2, nI_1]
    · simp only [plB]
      rw [← List.append_assoc]
      exact h2
  · rintro ⟨σ1, x⟩ ⟨rfl, q⟩
    dsimp only at q ⊢
    have f1 := q.go
    have g := hL.go (f1.i (by omega)) (f1.fi (fun _ => by omega))
    have hs := g.2.1
    unfold lb_Manners_appendPlain_2
    rw [g.1]
    exact ok_t (nI_le (Nat.le_refl _) (by omega)) (ok_some q)
theorem s_appendSteps {σ0 σ : St} {h z0 j s : Nat} {L : Nat → Nat} {B : List Bool} (hL : LN σ0 j s L) (h1 : 1 ≤ s) (hA : AP h z0 σ0 B σ) : ok (f_Manners_appendSteps σ j) (AP h z0 σ0 (B ++ stB L s)) := by
  have hs := hL.2.1
  have hLn : ∀ σ1 : St, fr Fs σ0 σ1 → LN σ1 j s L := fun σ1 f1 => hL.go (f1.i (by omega)) (f1.fi (fun _ => by omega))
  have g0 := hLn σ hA.go
  unfold f_Manners_appendSteps
  have e0 : σ.1 42 j (0 : Int32).toNatClampNeg = nI (L 0) := (g0.2.2 0 (by omega)).1
  rw [e0]
  refine ok_gd (by decide) (ok_nm (fun x1 e1 => ?_))
  rw [e1]
  refine ok_b1 (hA.number (nI (L 0)) (n := 4) (by omega)) (fun σ2 h2 => ?_)
  refine ok_b3 (Q := fun q => AP h z0 σ0 (B ++ stB L s) q.1) (ok_up s (fun k q => q.2.1 = nI (prv L k) ∧ q.2.2 = nI k ∧ AP h z0 σ0 (B ++ stB L k) q.1) ?_ ?_ 0 _ (Nat.zero_le _) ⟨rfl, rfl, by exact h2⟩) (fun σ14 x15 x16 hq => ok_some hq)
  · rintro k ⟨σ3, x, y⟩ hk ⟨rfl, rfl, q⟩
    dsimp only at q ⊢
    have g := hLn σ3 q.go
    obtain ⟨gk, gl⟩ := g.2.2 k hk
    have hp := prv_le (fun k hk => (hL.2.2 k hk).2) k hk
    unfold lb_Manners_appendSteps_18
    rw [g.1, nI_cl (by omega), gk]
    refine ok_f (nI_ge hk (by omega)) (ok_gd (nI_ib (by omega) (by omega)) (ok_nm (fun x3 e3 => ?_)))
    rw [e3]
    refine ok_b2 (Q := fun z => AP h z0 σ0 (B ++ stB L k ++ rep (bitsOf 2 2) (L k - prv L k)) z.1) (ok_lp (fun n z => ∃ u Y, z.2 = nI u ∧ u ≤ 15 ∧ n = L k - u ∧ AP h z0 σ0 Y z.1 ∧ Y ++ rep (bitsOf 2 2) (L k - u) = B ++ stB L k ++ rep (bitsOf 2 2) (L k - prv L k)) ?_ (L k - prv L k) _ ⟨prv L k, _, rfl, hp, rfl, q, rfl⟩) ?_
    · rintro n ⟨σ4, x⟩ ⟨u, Y, rfl, hu, rfl, t1, t2⟩
      dsimp only at t1 ⊢
      unfold lb_Manners_appendSteps_37
      refine ok_if (fun c => ok_some ?_) (fun c => ok_b1 (t1.number 2 (n := 2) (by omega)) (fun σ5 h5 => ok_nm (fun x5 e5 => ok_some ?_)))
      · have c' := (nI_leI (by omega) (by omega)).mp c
        rw [show L k - u = 0 by omega] at t2
        simp only [rep, List.append_nil] at t2
        rw [← t2]
        exact t1
      · have c' : ¬ L k ≤ u := fun z => c (nI_le z (by omega))
        refine ⟨L k - (u + 1), by omega, u + 1, _, by dsimp only; rw [e5, nI_1], by omega, rfl, h5, ?_⟩
        rw [← t2, show L k - u = L k - (u + 1) + 1 by omega, List.append_assoc]
        rfl
    · rintro σ6 x7 t0
      dsimp only at t0
      refine ok_b2 (Q := fun z => AP h z0 σ0 (B ++ stB L k ++ pth (prv L k) (L k)) z.1) (ok_lp (fun n z => ∃ u Y, z.2 = nI u ∧ u ≤ 15 ∧ n = u - L k ∧ AP h z0 σ0 Y z.1 ∧ Y ++ rep (bitsOf 3 2) (u - L k) = B ++ stB L k ++ pth (prv L k) (L k)) ?_ (prv L k - L k) _ ⟨prv L k, _, rfl, hp, rfl, t0, by simp only [pth, List.append_assoc]⟩) ?_
      · rintro n ⟨σ4, x⟩ ⟨u, Y, rfl, hu, rfl, t1, t2⟩
        dsimp only at t1 ⊢
        unfold lb_Manners_appendSteps_62
        refine ok_if (fun c => ok_some ?_) (fun c => ok_b1 (t1.number 3 (n := 2) (by omega)) (fun σ5 h5 => ok_nm (fun x5 e5 => ok_some ?_)))
        · have c' := (nI_leI (by omega) (by omega)).mp c
          rw [show u - L k = 0 by omega] at t2
          simp only [rep, List.append_nil] at t2
          rw [← t2]
          exact t1
        · have c' : ¬ u ≤ L k := fun z => c (nI_le z (by omega))
          obtain ⟨u, rfl⟩ : ∃ u', u = u' + 1 := ⟨u - 1, by omega⟩
          refine ⟨u - L k, by omega, u, _, by dsimp only; rw [e5, pk_m1], by omega, rfl, h5, ?_⟩
          rw [← t2, show u + 1 - L k = u - L k + 1 by omega, List.append_assoc]
          rfl
      · rintro σ10 x11 t3
        dsimp only at t3
        refine ok_b1 (t3.append false) (fun σ12 h12 => ok_nm (fun x13 e13 => ok_some ⟨rfl, by dsimp only; rw [e13, nI_1], ?_⟩))
        simp only [stB]
        rw [← List.append_assoc, ← List.append_assoc]
        exact h12
  · rintro ⟨σ3, x, y⟩ ⟨rfl, rfl, q⟩
    dsimp only at q ⊢
    unfold lb_Manners_appendSteps_18
    rw [(hLn σ3 q.go).1]
    exact ok_t (nI_le (Nat.le_refl _) (by omega)) (ok_some q)
