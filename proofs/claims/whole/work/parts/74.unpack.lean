/-! ===== lengths read again, as lists of bits ===== -/
def setF (F : Nat → Nat) (k v : Nat) : Nat → Nat := fun i => if i = k then v else F i
def filF (F : Nat → Nat) (i r v : Nat) : Nat → Nat := fun k => if i ≤ k ∧ k < i + r then v else F k
def rdP : Nat → Nat → List Bool → (Nat → Nat) → Option Int32 × List Bool × (Nat → Nat)
  | 0, _, B, F => (none, B, F)
  | f + 1, k, B, F => if B.length < 4 then (some (-104), B, F) else rdP f (k + 1) (B.drop 4) (setF F k (numL 0 (B.take 4)))
def stp : List Bool → Nat → Option Int32 × List Bool × Nat
  | [], u => (some (-104), [], u)
  | false :: B, u => (none, B, u)
  | [true], u => (some (-104), [], u)
  | true :: false :: B, u => if u < 15 then stp B (u + 1) else (some (-105), B, u)
  | true :: true :: B, u => if 0 < u then stp B (u - 1) else (some (-105), B, u)
def rdS : Nat → Nat → List Bool → Nat → (Nat → Nat) → Option Int32 × List Bool × (Nat → Nat)
  | 0, _, B, _, F => (none, B, F)
  | f + 1, k, B, u, F => match (stp B u).1 with
    | some e => (some e, (stp B u).2.1, F)
    | none => rdS f (k + 1) (stp B u).2.1 (stp B u).2.2 (setF F k (stp B u).2.2)
def rdC : Nat → Nat → List Bool → (Nat → Nat) → Option Int32 × List Bool × (Nat → Nat)
  | 0, _, B, L => (none, B, L)
  | f + 1, i, B, L => if B.length < 3 then (some (-104), B, L) else rdC f (i + 1) (B.drop 3) (setF L (ordr i) (numL 0 (B.take 3)))
def rdR (Lc : Nat → Nat) (n : Nat) : Nat → Nat → List Bool → (Nat → Nat) → Option Int32 × List Bool × (Nat → Nat)
  | 0, _, B, F => (none, B, F)
  | f + 1, i, B, F => if n ≤ i then (none, B, F) else
    if (dec Lc 19 B 0 0).1 < 0 then (some (dec Lc 19 B 0 0).1, (dec Lc 19 B 0 0).2, F) else
    if (dec Lc 19 B 0 0).1.toNatClampNeg < 16 then rdR Lc n f (i + 1) (dec Lc 19 B 0 0).2 (setF F i (dec Lc 19 B 0 0).1.toNatClampNeg) else
    if (dec Lc 19 B 0 0).1.toNatClampNeg = 16 ∧ (i = 0 ∨ F (i - 1) = 0) then (some (-105), (dec Lc 19 B 0 0).2, F) else
    if (dec Lc 19 B 0 0).2.length < ebt (dec Lc 19 B 0 0).1.toNatClampNeg then (some (-104), (dec Lc 19 B 0 0).2, F) else
    if n < i + (shr (dec Lc 19 B 0 0).1.toNatClampNeg + numL 0 ((dec Lc 19 B 0 0).2.take (ebt (dec Lc 19 B 0 0).1.toNatClampNeg))) then (some (-105), (dec Lc 19 B 0 0).2.drop (ebt (dec Lc 19 B 0 0).1.toNatClampNeg), F) else
    rdR Lc n f (i + (shr (dec Lc 19 B 0 0).1.toNatClampNeg + numL 0 ((dec Lc 19 B 0 0).2.take (ebt (dec Lc 19 B 0 0).1.toNatClampNeg)))) ((dec Lc 19 B 0 0).2.drop (ebt (dec Lc 19 B 0 0).1.toNatClampNeg)) (filF F i (shr (dec Lc 19 B 0 0).1.toNatClampNeg + numL 0 ((dec Lc 19 B 0 0).2.take (ebt (dec Lc 19 B 0 0).1.toNatClampNeg))) (if (dec Lc 19 B 0 0).1.toNatClampNeg = 16 then F (i - 1) else 0))
abbrev F00 : Nat → Nat := fun _ => 0
def rdA (n : Nat) (m : Nat) (B : List Bool) : Option Int32 × List Bool × (Nat → Nat) :=
  if m = 0 then rdP n 0 B F00 else
  if B.length < 4 then (some (-104), B, F00) else
  if m = 1 then rdS n 0 (B.drop 4) (numL 0 (B.take 4)) F00 else
  match (rdC (numL 0 (B.take 4) + 4) 0 (B.drop 4) F00).1 with
  | some e => (some e, (rdC (numL 0 (B.take 4) + 4) 0 (B.drop 4) F00).2.1, F00)
  | none => if knd (rdC (numL 0 (B.take 4) + 4) 0 (B.drop 4) F00).2.2 19 = 1 ∨ knd (rdC (numL 0 (B.take 4) + 4) 0 (B.drop 4) F00).2.2 19 = 2 then rdR (rdC (numL 0 (B.take 4) + 4) 0 (B.drop 4) F00).2.2 n n 0 (rdC (numL 0 (B.take 4) + 4) 0 (B.drop 4) F00).2.1 F00 else (some (-105), (rdC (numL 0 (B.take 4) + 4) 0 (B.drop 4) F00).2.1, F00)
theorem numL_take {B : List Bool} {n : Nat} (h : n ≤ B.length) : numL 0 (B.take n) < 2 ^ n := by
  have := numL_lt (B.take n) 0 0 (by decide)
  rw [List.length_take, Nat.min_eq_left h, Nat.zero_add] at this
  exact this
theorem dec_cases {L : Nat → Nat} {s : Nat} : ∀ (B : List Bool) (n v : Nat), wa (fun m => cnt L m s) n ≤ v → (dec L s B n v).1 = -104 ∨ (dec L s B n v).1 = -105 ∨ ∃ k, k < s ∧ (dec L s B n v).1 = nI k
  | [], _, _, _ => Or.inl rfl
  | b :: B, n, v, h => by
    simp only [dec]
    by_cases h1 : 2 * v + b.toNat < wa (fun m => cnt L m s) (n + 1)
    · rw [if_pos h1]
      obtain ⟨k, k1, -, -, -, k2⟩ := sym_at (L := L) (s := s) (n := n) (v := 2 * v + b.toNat) (by omega) h1
      exact Or.inr (Or.inr ⟨k, k1, by dsimp only; rw [k2]⟩)
    · rw [if_neg h1]
      by_cases h2 : fil (fun m => cnt L m s) 15 ≤ (2 * v + b.toNat) * 2 ^ (15 - (n + 1))
      · rw [if_pos h2]
        exact Or.inr (Or.inl rfl)
      · rw [if_neg h2]
        exact dec_cases B (n + 1) (2 * v + b.toNat) (by omega)
/-! the class's stream while it is read -/
def CU (h : Nat) (B0 B : List Bool) (σ : St) : Prop := ∃ X, B0 = X ++ B ∧ SB σ ((h + X.length) % 20000) B
theorem CU.go {h : Nat} {B0 B : List Bool} {σ σ1 : St} (hC : CU h B0 B σ) (h3 : σ1.1 3 0 = σ.1 3 0) (h4 : σ1.1 4 0 = σ.1 4 0) : CU h B0 B σ1 := by
  obtain ⟨X, h1, h2⟩ := hC
  exact ⟨X, h1, h2.go h3 h4⟩
theorem CU.le {h : Nat} {B0 B : List Bool} {σ : St} (hC : CU h B0 B σ) : B.length ≤ 20000 := by
  obtain ⟨X, h1, h2⟩ := hC
  exact h2.2.2.2.1
theorem CU_rf {h : Nat} {B : List Bool} {σ : St} (hS : SB σ h B) : CU h B B σ := ⟨[], rfl, by
  rw [List.length_nil, Nat.add_zero, Nat.mod_eq_of_lt hS.2.1]
  exact hS⟩
theorem cu_num {h n : Nat} {B0 B : List Bool} {σ : St} (hC : CU h B0 B σ) (hn : n ≤ 30) : ok (f_Stream_removeNumber σ (nI n)) (fun o => (B.length < n → o = (σ, -104)) ∧ (n ≤ B.length → CU h B0 (B.drop n) o.1 ∧ o.2 = nI (numL 0 (B.take n)) ∧ numL 0 (B.take n) < 2 ^ n) ∧ fr F3 σ o.1) := by
  obtain ⟨X, h1, h2⟩ := hC
  rcases Nat.lt_or_ge B.length n with hl | hl
  · rw [s_removeNumber0 h2 hn hl]
    exact ok_some ⟨fun _ => rfl, fun z => absurd z (by omega), fr.rf⟩
  · have hB : B = B.take n ++ B.drop n := (List.take_append_drop n B).symm
    rw [hB] at h2
    refine (s_removeNumber h2 (n := n) (by rw [List.length_take, Nat.min_eq_left hl]) hn).mono (fun o ho => ⟨fun z => absurd z (by omega), fun _ => ⟨⟨X ++ B.take n, ?_, ?_⟩, ho.2.1, numL_take hl⟩, ho.2.2⟩)
    · rw [List.append_assoc, List.take_append_drop]
      exact h1
    · have := ho.1
      rw [Nat.mod_add_mod] at this
      rw [List.length_append, List.length_take, Nat.min_eq_left hl, ← Nat.add_assoc]
      exact this
theorem cu_first {h : Nat} {B0 B : List Bool} {σ : St} {b : Bool} (hC : CU h B0 (b :: B) σ) : ok (f_Stream_removeFirst σ) (fun o => CU h B0 B o.1 ∧ o.2 = b2i b ∧ fr F3 σ o.1) := by
  obtain ⟨X, h1, h2⟩ := hC
  refine (s_removeFirst h2).mono (fun o ho => ⟨⟨X ++ [b], ?_, ?_⟩, ho.2.1, ho.2.2.1⟩)
  · rw [List.append_assoc]
    exact h1
  · have := ho.1
    rw [Nat.mod_add_mod] at this
    rw [List.length_append, List.length_singleton, ← Nat.add_assoc]
    exact this
theorem cu_first0 {h : Nat} {B0 : List Bool} {σ : St} (hC : CU h B0 [] σ) : f_Stream_removeFirst σ = some (σ, -104) := by
  obtain ⟨X, h1, h2⟩ := hC
  exact s_removeFirst0 h2
theorem cu_sym {h j s : Nat} {L : Nat → Nat} {B0 B : List Bool} {σ : St} (hK : CK σ j s L) (hC : CU h B0 B σ) : ok (f_Code_removeSymbol σ j 0) (fun o => o.2 = (dec L s B 0 0).1 ∧ CU h B0 (dec L s B 0 0).2 o.1 ∧ fr F3 σ o.1) := by
  obtain ⟨X, h1, h2⟩ := hC
  refine (s_removeSymbol hK h2).mono (fun o ho => ?_)
  obtain ⟨o1, ⟨Y, o2, o3⟩, o4⟩ := ho
  refine ⟨o1, ⟨X ++ Y, ?_, ?_⟩, o4⟩
  · rw [List.append_assoc, ← o2]
    exact h1
  · rw [Nat.mod_add_mod] at o3
    rw [List.length_append, ← Nat.add_assoc]
    exact o3
abbrev Fu : Nat → Nat → Nat → Prop := fun f i k => f = 3 ∨ f = 14 ∨ (i = 12 ∧ ((42 ≤ f ∧ f ≤ 47) ∨ (f = 41 ∧ 7 ≤ k ∧ k ≤ 10)))
/-- what the class answers, when z is read -/
def UC (h n : Nat) (B0 : List Bool) (σ : St) (z : Option Int32 × List Bool × (Nat → Nat)) (o : St × Int32) : Prop := CU h B0 z.2.1 o.1 ∧ (∀ e, z.1 = some e → o.2 = e ∧ e < 0) ∧ (z.1 = none → o.2 = nI n ∧ ∀ i, i < n → o.1.1 14 0 i = nI (z.2.2 i) ∧ z.2.2 i ≤ 15) ∧ fr Fu σ o.1
theorem n104 : (-104 : Int32) < 0 := by decide
theorem n105 : (-105 : Int32) < 0 := by decide
theorem nn104 : ¬ (0 : Int32) ≤ -104 := by decide
theorem nn105 : ¬ (0 : Int32) ≤ -105 := by decide
theorem setF_le {F : Nat → Nat} {k v b : Nat} {m : Nat} (hF : ∀ i, i < k → F i ≤ b) (hv : v ≤ b) : m < k + 1 → setF F k v m ≤ b := by
  intro h
  unfold setF
  split
  · exact hv
  · exact hF m (by omega)
theorem s_removePlain {σ : St} {h n : Nat} {B0 : List Bool} (hn : n ≤ 64) (hC : CU h B0 B0 σ) : ok (f_Manners_removePlain σ (nI n)) (UC h n B0 σ (rdP n 0 B0 F00)) := by
  unfold f_Manners_removePlain
  refine ok_bs2 (Q := fun z => match z with | .inl q => UC h n B0 σ (rdP n 0 B0 F00) (q.1, nI n) | .inr o => UC h n B0 σ (rdP n 0 B0 F00) o) (ok_up n (fun k q => q.2 = nI k ∧ ∃ B F, CU h B0 B q.1 ∧ (∀ i, i < k → q.1.1 14 0 i = nI (F i) ∧ F i ≤ 15) ∧ rdP (n - k) k B F = rdP n 0 B0 F00 ∧ fr Fu σ q.1) ?_ ?_ 0 _ (Nat.zero_le _) ⟨rfl, B0, F00, hC, fun i hi => absurd hi (by omega), rfl, fr.rf⟩) (fun σ5 x6 hq => ok_some hq) (fun r hq => ok_some hq)
  · rintro k ⟨σ1, x⟩ hk ⟨rfl, B, F, q1, q2, q3, q4⟩
    dsimp only at q1 q2 q4 ⊢
    unfold lb_Manners_removePlain_2
    rw [show n - k = n - (k + 1) + 1 by omega] at q3
    simp only [rdP] at q3
    refine ok_f (nI_ge hk (by omega)) (ok_b2 (cu_num (n := 4) q1 (by omega)) (fun σ2 x2 h2 => ?_))
    obtain ⟨h2a, h2b, f2⟩ := h2
    dsimp only at f2
    by_cases hl : B.length < 4
    · rw [if_pos hl] at q3
      cases h2a hl
      refine ok_f nn104 (ok_some ?_)
      dsimp only
      rw [← q3]
      exact ⟨q1, fun e he => by cases he; exact ⟨rfl, n104⟩, fun z => absurd z (by simp), q4⟩
    · rw [if_neg hl] at q3
      obtain ⟨c1, c2, c3⟩ := h2b (by omega)
      dsimp only at c1 c2
      rw [c2, nI_cl (show k < 2 ^ 31 by omega)]
      refine ok_t (nI_pos' (by omega)) (ok_gd (nI_ib (by omega) (by omega)) (ok_nm (fun σ3 e3 => ok_nm (fun x4 e4 => ok_some ⟨by dsimp only; rw [e4, nI_1], B.drop 4, setF F k (numL 0 (B.take 4)), ?_, fun i hi => ?_, q3, ?_⟩))))
      · exact c1.go (by dsimp only; rw [e3, sI_fi (by omega)]) (by dsimp only; rw [e3, sI_fi (by omega)])
      · dsimp only
        rw [e3]
        unfold setF
        by_cases hik : i = k
        · subst hik
          rw [sI_at, if_pos rfl]
          exact ⟨rfl, by omega⟩
        · rw [sI_k hik, if_neg hik, f2.i (by omega)]
          exact q2 i (by omega)
      · rw [e3]
        exact q4.tr ((f2.mono (fun f i k z => by omega)).tr (fr_sI (by omega)))
  · rintro ⟨σ1, x⟩ ⟨rfl, B, F, q1, q2, q3, q4⟩
    dsimp only at q1 q2 q4 ⊢
    unfold lb_Manners_removePlain_2
    rw [Nat.sub_self] at q3
    simp only [rdP] at q3
    refine ok_t (nI_le (Nat.le_refl _) (by omega)) (ok_some ?_)
    dsimp only
    rw [← q3]
    exact ⟨q1, fun e he => absurd he (by simp), fun _ => ⟨rfl, q2⟩, q4⟩
theorem isIn {σ : St} {x a b : Int32} (h1 : ¬ x < a) (h2 : x ≤ b) : f_PC_isOutside σ x a b = some (σ, 0) := by
  unfold f_PC_isOutside
  rw [if_neg h1, if_pos h2]
theorem isOut {σ : St} {x a b : Int32} (h : x < a ∨ ¬ x ≤ b) : f_PC_isOutside σ x a b = some (σ, 1) := by
  unfold f_PC_isOutside
  by_cases h1 : x < a
  · rw [if_pos h1]
  · rw [if_neg h1]
    rcases h with h | h
    · exact absurd h h1
    · rw [if_neg h]
theorem s_stepsFrom {σ : St} {h u : Nat} {B0 B : List Bool} (hu : u ≤ 15) (hC : CU h B0 B σ) : ok (f_Manners_stepsFrom σ (nI u)) (fun o => CU h B0 (stp B u).2.1 o.1 ∧ (∀ e, (stp B u).1 = some e → o.2 = e ∧ e < 0) ∧ ((stp B u).1 = none → o.2 = nI (stp B u).2.2 ∧ (stp B u).2.2 ≤ 15) ∧ fr F3 σ o.1) := by
  have hle := hC.le
  unfold f_Manners_stepsFrom
  refine ok_bs3 (Q := fun z => match z with | .inl q => False | .inr o => CU h B0 (stp B u).2.1 o.1 ∧ (∀ e, (stp B u).1 = some e → o.2 = e ∧ e < 0) ∧ ((stp B u).1 = none → o.2 = nI (stp B u).2.2 ∧ (stp B u).2.2 ≤ 15) ∧ fr F3 σ o.1) (ok_lp (fun m q => ∃ B' u' t, m = B'.length ∧ q.2.1 = nI u' ∧ u' ≤ 15 ∧ q.2.2 = nI t ∧ 2 * t + B'.length ≤ B.length ∧ CU h B0 B' q.1 ∧ stp B' u' = stp B u ∧ fr F3 σ q.1) ?_ B.length _ ⟨B, u, 0, rfl, rfl, hu, rfl, by omega, hC, rfl, fr.rf⟩) (fun _ _ _ hq => hq.elim) (fun r hq => ok_some hq)
  rintro m ⟨σ1, x, y⟩ ⟨B', u', t, rfl, rfl, hu', rfl, ht, q1, q2, q3⟩
  dsimp only at q1 q3 ⊢
  unfold lb_Manners_stepsFrom_4
  refine ok_f (nI_nlt (a := 20000) (by omega) (by omega)) ?_
  match B', q1, q2, ht with
  | [], q1, q2, ht =>
    simp only [stp] at q2
    refine ok_b2e (cu_first0 q1) (ok_f (by decide) (ok_f nn104 (ok_some ?_)))
    dsimp only
    rw [← q2]
    exact ⟨q1, fun e he => by cases he; exact ⟨rfl, n104⟩, fun z => absurd z (by simp), q3⟩
  | false :: B', q1, q2, ht =>
    simp only [stp] at q2
    refine ok_b2 (cu_first q1) (fun σ2 x2 h2 => ?_)
    obtain ⟨h2a, h2b, f2⟩ := h2
    dsimp only at h2a h2b f2
    rw [h2b]
    refine ok_f (by decide) (ok_t (by decide) (ok_some ?_))
    dsimp only
    rw [← q2]
    exact ⟨h2a, fun e he => absurd he (by simp), fun _ => ⟨rfl, hu'⟩, q3.tr f2⟩
  | [true], q1, q2, ht =>
    simp only [stp] at q2
    refine ok_b2 (cu_first q1) (fun σ2 x2 h2 => ?_)
    obtain ⟨h2a, h2b, f2⟩ := h2
    dsimp only at h2a h2b f2
    rw [h2b]
    refine ok_t (by decide) (ok_b2e (cu_first0 h2a) (ok_f nn104 (ok_some ?_)))
    dsimp only
    rw [← q2]
    exact ⟨h2a, fun e he => by cases he; exact ⟨rfl, n104⟩, fun z => absurd z (by simp), q3.tr f2⟩
  | true :: false :: B', q1, q2, ht =>
    simp only [stp] at q2
    refine ok_b2 (cu_first q1) (fun σ2 x2 h2 => ?_)
    obtain ⟨h2a, h2b, f2⟩ := h2
    dsimp only at h2a h2b f2
    rw [h2b]
    refine ok_t (by decide) (ok_b2 (cu_first h2a) (fun σ3 x3 h3 => ?_))
    obtain ⟨h3a, h3b, f3⟩ := h3
    dsimp only at h3a h3b f3
    rw [h3b]
    refine ok_t (by decide) (ok_t rfl (ok_nm (fun x9 e9 => ?_)))
    rw [nI_1] at e9
    rw [e9]
    by_cases hc : u' < 15
    · rw [if_pos hc] at q2
      refine ok_b2e (isIn (nI_pos (by omega)) (nI_le (b := 15) (by omega) (by omega))) (ok_t rfl (ok_nm (fun x12 e12 => ok_some ⟨B'.length, by simp only [List.length_cons]; omega, B', u' + 1, t + 1, rfl, rfl, by omega, by dsimp only; rw [e12, nI_1], ?_, h3a, q2, q3.tr (f2.tr f3)⟩)))
      simp only [List.length_cons] at ht
      omega
    · rw [if_neg hc] at q2
      refine ok_b2e (isOut (Or.inr (nI_ge (b := u' + 1) (a := 15) (by omega) (by omega)))) (ok_f (by decide) (ok_some ?_))
      dsimp only
      rw [← q2]
      exact ⟨h3a, fun e he => by cases he; exact ⟨rfl, n105⟩, fun z => absurd z (by simp), q3.tr (f2.tr f3)⟩
  | true :: true :: B', q1, q2, ht =>
    simp only [stp] at q2
    refine ok_b2 (cu_first q1) (fun σ2 x2 h2 => ?_)
    obtain ⟨h2a, h2b, f2⟩ := h2
    dsimp only at h2a h2b f2
    rw [h2b]
    refine ok_t (by decide) (ok_b2 (cu_first h2a) (fun σ3 x3 h3 => ?_))
    obtain ⟨h3a, h3b, f3⟩ := h3
    dsimp only at h3a h3b f3
    rw [h3b]
    refine ok_t (by decide) (ok_f (by decide) (ok_nm (fun x5 e5 => ?_)))
    by_cases hc : 0 < u'
    · rw [if_pos hc] at q2
      obtain ⟨u', rfl⟩ : ∃ u, u' = u + 1 := ⟨u' - 1, by omega⟩
      rw [pk_m1] at e5
      rw [e5]
      refine ok_b2e (isIn (nI_pos (by omega)) (nI_le (b := 15) (by omega) (by omega))) (ok_t rfl (ok_nm (fun x12 e12 => ok_some ⟨B'.length, by simp only [List.length_cons]; omega, B', u', t + 1, rfl, rfl, by omega, by dsimp only; rw [e12, nI_1], ?_, h3a, q2, q3.tr (f2.tr f3)⟩)))
      simp only [List.length_cons] at ht
      omega
    · rw [if_neg hc] at q2
      have : u' = 0 := by omega
      subst this
      rw [e5]
      refine ok_b2e (isOut (Or.inl (by decide))) (ok_f (by decide) (ok_some ?_))
      dsimp only
      rw [← q2]
      exact ⟨h3a, fun e he => by cases he; exact ⟨rfl, n105⟩, fun z => absurd z (by simp), q3.tr (f2.tr f3)⟩
theorem s_removeSteps {σ : St} {h n : Nat} {B0 : List Bool} (hn : n ≤ 64) (hC : CU h B0 B0 σ) : ok (f_Manners_removeSteps σ (nI n)) (UC h n B0 σ (rdA n 1 B0)) := by
  unfold f_Manners_removeSteps rdA
  rw [if_neg (by decide)]
  refine ok_b2 (cu_num (n := 4) hC (by omega)) (fun σ1 x2 h2 => ?_)
  obtain ⟨h2a, h2b, f2⟩ := h2
  dsimp only at f2
  by_cases hl : B0.length < 4
  · rw [if_pos hl]
    cases h2a hl
    exact ok_f nn104 (ok_some ⟨hC, fun e he => by cases he; exact ⟨rfl, n104⟩, fun z => absurd z (by simp), fr.rf⟩)
  rw [if_neg hl, if_pos rfl]
  obtain ⟨c1, c2, c3⟩ := h2b (by omega)
  dsimp only at c1 c2
  rw [c2]
  generalize B0.drop 4 = B1 at *
  generalize numL 0 (B0.take 4) = u1 at *
  refine ok_t (nI_pos' (by omega)) (ok_bs3 (Q := fun z => match z with | .inl q => UC h n B0 σ (rdS n 0 B1 u1 F00) (q.1, nI n) | .inr o => UC h n B0 σ (rdS n 0 B1 u1 F00) o) (ok_up n (fun k q => ∃ B u F, q.2.1 = nI u ∧ u ≤ 15 ∧ q.2.2 = nI k ∧ CU h B0 B q.1 ∧ (∀ i, i < k → q.1.1 14 0 i = nI (F i) ∧ F i ≤ 15) ∧ rdS (n - k) k B u F = rdS n 0 B1 u1 F00 ∧ fr Fu σ q.1) ?_ ?_ 0 _ (Nat.zero_le _) ⟨B1, u1, F00, rfl, by omega, rfl, c1, fun i hi => absurd hi (by omega), rfl, f2.mono (fun f i k z => by omega)⟩) (fun σ7 x8 x9 hq => ok_some hq) (fun r hq => ok_some hq))
  · rintro k ⟨σ2, x, y⟩ hk ⟨B, u, F, rfl, hu, rfl, q1, q2, q3, q4⟩
    dsimp only at q1 q2 q4 ⊢
    unfold lb_Manners_removeSteps_17
    rw [show n - k = n - (k + 1) + 1 by omega] at q3
    simp only [rdS] at q3
    refine ok_f (nI_ge hk (by omega)) (ok_b2 (s_stepsFrom hu q1) (fun σ3 x4 h3 => ?_))
    obtain ⟨s1, s2, s3, f3⟩ := h3
    dsimp only at s1 s2 s3 f3
    generalize stp B u = z at *
    obtain ⟨z1, z2, z3⟩ := z
    dsimp only at s1 s2 s3 q3
    cases z1 with
    | some e =>
      obtain ⟨r1, r2⟩ := s2 e rfl
      rw [r1]
      refine ok_f (fun y => ?_) (ok_some ?_)
      · exact absurd r2 (by have := Int32.not_lt.mpr y; exact this)
      · dsimp only at q3 ⊢
        rw [← q3]
        exact ⟨s1, fun e' he => by cases he; exact ⟨rfl, r2⟩, fun z => absurd z (by simp), q4.tr (f3.mono (fun f i k z => by omega))⟩
    | none =>
      obtain ⟨r1, r2⟩ := s3 rfl
      rw [r1, nI_cl (show k < 2 ^ 31 by omega)]
      dsimp only at q3
      refine ok_t (nI_pos' (by omega)) (ok_gd (nI_ib (by omega) (by omega)) (ok_nm (fun σ5 e5 => ok_nm (fun x6 e6 => ok_some ⟨z2, z3, setF F k z3, rfl, r2, by dsimp only; rw [e6, nI_1], ?_, fun i hi => ?_, q3, ?_⟩))))
      · exact s1.go (by dsimp only; rw [e5, sI_fi (by omega)]) (by dsimp only; rw [e5, sI_fi (by omega)])
      · dsimp only
        rw [e5]
        unfold setF
        by_cases hik : i = k
        · subst hik
          rw [sI_at, if_pos rfl]
          exact ⟨rfl, r2⟩
        · rw [sI_k hik, if_neg hik, f3.i (by omega)]
          exact q2 i (by omega)
      · rw [e5]
        exact q4.tr ((f3.mono (fun f i k z => by omega)).tr (fr_sI (by omega)))
  · rintro ⟨σ2, x, y⟩ ⟨B, u, F, rfl, hu, rfl, q1, q2, q3, q4⟩
    dsimp only at q1 q2 q4 ⊢
    unfold lb_Manners_removeSteps_17
    rw [Nat.sub_self] at q3
    simp only [rdS] at q3
    refine ok_t (nI_le (Nat.le_refl _) (by omega)) (ok_some ?_)
    dsimp only
    rw [← q3]
    exact ⟨q1, fun e he => absurd he (by simp), fun _ => ⟨rfl, q2⟩, q4⟩
