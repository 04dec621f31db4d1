/-! ===== read ===== -/
def arb (LL : Nat → Nat → Nat) (S : Nat → Nat) (c : Nat) : Nat → Bool
  | 0 => true
  | v + 1 => arb LL S c v && decide (¬ (knd (LL (c + v)) (S (c + v)) = 4 ∨ knd (LL (c + v)) (S (c + v)) = 0))
theorem arb_f {LL : Nat → Nat → Nat} {S : Nat → Nat} {c v : Nat} : ∀ {t : Nat}, v ≤ t → arb LL S c v = false → arb LL S c t = false := by
  intro t h
  induction h with
  | refl => exact id
  | step h ih =>
    intro hv
    simp only [arb, ih hv, Bool.false_and]
def rdv (ar : Bool) (B : List Bool) (N : Nat) (z1 z2 : Option Int32 × List Bool × (Nat → Nat)) : Int32 × List Bool × Option (Nat → Nat) := if ar = false then (-103, B, none) else match z1.1 with
  | some e => (e, z1.2.1, none)
  | none => match z2.1 with
    | some e => (e, z2.2.1, none)
    | none => (nI N, z2.2.1, some z2.2.2)
theorem rdv_f {B : List Bool} {N : Nat} {z1 z2 : Option Int32 × List Bool × (Nat → Nat)} : rdv false B N z1 z2 = (-103, B, none) := rfl
theorem rdv_1 {B : List Bool} {N : Nat} {z1 z2 : Option Int32 × List Bool × (Nat → Nat)} {e : Int32} (h : z1.1 = some e) : rdv true B N z1 z2 = (e, z1.2.1, none) := by
  unfold rdv
  rw [if_neg (by decide), h]
theorem rdv_2 {B : List Bool} {N : Nat} {z1 z2 : Option Int32 × List Bool × (Nat → Nat)} {e : Int32} (h : z1.1 = none) (h2 : z2.1 = some e) : rdv true B N z1 z2 = (e, z2.2.1, none) := by
  unfold rdv
  rw [if_neg (by decide), h, h2]
theorem rdv_3 {B : List Bool} {N : Nat} {z1 z2 : Option Int32 × List Bool × (Nat → Nat)} (h : z1.1 = none) (h2 : z2.1 = none) : rdv true B N z1 z2 = (nI N, z2.2.1, some z2.2.2) := by
  unfold rdv
  rw [if_neg (by decide), h, h2]
abbrev Fr1 : FF := fun f i _ => f = 3 ∨ (i = 1 ∧ (f = 39 ∨ f = 40)) ∨ f = 36 ∨ f = 37 ∨ f = 38
abbrev Fr2 : FF := fun f i k => Fr1 f i k ∨ f = 27 ∨ (f = 26 ∧ k = 1)
abbrev gN (N U : Nat) : Nat := (N + U - 1) / U
abbrev zz1 (t U N : Nat) (B : List Bool) := rgs t (gN N U) 0 (fun p => p) F00 B
abbrev zz2 (LL : Nat → Nat → Nat) (S : Nat → Nat) (c t U N : Nat) (B : List Bool) := rsy (fun v => LL (c + v)) (fun v => S (c + v)) (zz1 t U N B).2.2 U N 0 F00 (zz1 t U N B).2.1
abbrev RDc (σ : St) (N : Nat) (z : Int32 × List Bool × Option (Nat → Nat)) (o : St × Int32) : Prop := o.2 = z.1 ∧ (∃ h, SB o.1 h z.2.1) ∧ (z.2.2 = none → fr Fr1 σ o.1) ∧ ∀ X, z.2.2 = some X → TXc o.1 N X ∧ fr Fr2 σ o.1
theorem sR_R {σ : St} {f i k f' i' k' : Nat} {v : Option Nat} : (sR σ f i k v).2.2.1 f' i' k' = if f' = f ∧ i' = i ∧ k' = k then v else σ.2.2.1 f' i' k' := rfl
theorem s_pcRead67 {σ : St} {n c t : Nat} {S : Nat → Nat} {LL : Nat → Nat → Nat} {a3 a4 : Int32} (hI : IC σ n S LL) (hct : c + t ≤ n) (ht : t ≤ 6) : ok (lpE (fun q => lb_PC_read_67 (nI c) (nI t) a3 a4 q.1 q.2) (σ, 0)) (fun z => match z with | .inl q => arb LL S c t = true ∧ (∀ v, v < t → q.1.2.2.1 36 0 v = some (c + v)) ∧ fr (fun f _ _ => f = 36) σ q.1 | .inr o => arb LL S c t = false ∧ o.2 = -103 ∧ fr (fun f _ _ => f = 36) σ o.1) := by
  have hn := hI.1
  refine ok_up t (fun v q => q.2 = nI v ∧ arb LL S c v = true ∧ (∀ v', v' < v → q.1.2.2.1 36 0 v' = some (c + v')) ∧ fr (fun f _ _ => f = 36) σ q.1) ?_ ?_ 0 _ (Nat.zero_le _) ⟨rfl, rfl, fun v hv => absurd hv (by omega), fr.rf⟩
  · rintro v ⟨σ2, x⟩ hv ⟨rfl, q1, q2, q3⟩
    dsimp only at q1 q2 q3 ⊢
    have hI2 : IC σ2 n S LL := hI.fr q3 (fun f i k z => by omega)
    unfold lb_PC_read_67
    rw [nI_add]
    refine ok_f (nI_ge hv (by omega)) (ok_b2e (codeAt_in hI2 (show c + v < n by omega)) (ok_on rfl (ok_b2e (e_canBeRead (hI2.ck (c + v) (by omega))) ?_)))
    by_cases d : knd (LL (c + v)) (S (c + v)) = 4 ∨ knd (LL (c + v)) (S (c + v)) = 0
    · rw [if_pos d]
      refine ok_t rfl (ok_some ⟨arb_f (show v + 1 ≤ t by omega) ?_, rfl, q3⟩)
      simp only [arb, d, not_true_eq_false, decide_false, Bool.and_false]
    · rw [if_neg d, nI_cl (show v < 2 ^ 31 by omega)]
      refine ok_f (by decide) (ok_gd (nI_ib (by omega) (by omega)) (ok_nm (fun σ16 e16 => ok_nm (fun x17 e17 => ok_some ⟨by dsimp only; rw [e17, nI_1], ?_, fun v' hv' => ?_, ?_⟩))))
      · simp only [arb, q1, d, not_false_eq_true, decide_true, Bool.and_true]
      · dsimp only
        rw [e16, sR_R]
        by_cases y : v' = v
        · rw [if_pos ⟨rfl, rfl, y⟩, y]
        · rw [if_neg (fun z => y z.2.2)]
          exact q2 v' (by omega)
      · rw [e16]
        exact q3.tr (fr_sR rfl)
  · rintro ⟨σ2, x⟩ ⟨rfl, q1, q2, q3⟩
    unfold lb_PC_read_67
    exact ok_t (nI_le (Nat.le_refl _) (by omega)) (ok_some ⟨q1, q2, q3⟩)
theorem s_pcRead {σ : St} {n c t U N h : Nat} {S : Nat → Nat} {LL : Nat → Nat → Nat} {B : List Bool} (hI : IC σ n S LL) (hB : SB σ h B) (hct : c + t ≤ n) (ht1 : 1 ≤ t) (ht : t ≤ 6) (hU1 : 1 ≤ U) (hU : U ≤ 100) (hN1 : 1 ≤ N) (hN : N ≤ 1000) : ok (f_PC_read σ (nI c) (nI t) (nI U) (nI N)) (RDc σ N (rdv (arb LL S c t) B N (zz1 t U N B) (zz2 LL S c t U N B))) := by
  have hn := hI.1
  obtain ⟨g1, g2, g3, g4⟩ := grpN hU1 hN1 rfl
  unfold f_PC_read
  refine ok_b2e (codeAt_in hI (show c < n by omega)) (ok_on rfl ?_)
  rw [hI.2.2.1, pk_sub (show c ≤ n by omega)]
  refine ok_t (nI_le (by omega) (by omega)) (ok_b2e (isIn (nI_nlt (b := 1) (by omega) (by omega)) (nI_le (b := 6) (by omega) (by omega))) (ok_t rfl (ok_b2e (isIn (nI_nlt (b := 1) (by omega) (by omega)) (nI_le (b := 100) (by omega) (by omega))) (ok_t rfl (ok_b2e (isIn (nI_nlt (b := 1) (by omega) (by omega)) (nI_le (b := 1000) (by omega) (by omega))) (ok_t rfl ?_))))))
  unfold f_Reader_begin
  refine ok_b1 (ok_b1 (s_selBegin ht) (fun σ1 h1 => ok_some h1)) (fun σ10 h10 => ?_)
  obtain ⟨s1, f10⟩ := h10
  have hI10 : IC σ10 n S LL := hI.fr f10 (fun f i k z => by omega)
  refine ok_bs2 (Q := fun (z : (St × Int32) ⊕ (St × Int32)) => match z with | .inl q => arb LL S c t = true ∧ (∀ v, v < t → q.1.2.2.1 36 0 v = some (c + v)) ∧ fr (fun f _ _ => f = 36) σ10 q.1 | .inr o => arb LL S c t = false ∧ o.2 = -103 ∧ fr (fun f _ _ => f = 36) σ10 o.1) ((s_pcRead67 hI10 hct ht).mono (fun z hz => by rcases z with z | z <;> exact hz)) ?_ ?_
  · rintro σ18 x19 ⟨ha, r36, f18⟩
    dsimp only at r36 f18
    rw [ha]
    have ff := f10.un f18
    have hB18 : SB σ18 h B := hB.fr ff (fun f i k z => by omega)
    have s18 : SEc σ18 1 t (fun p => p) := ⟨by rw [f18.i (by omega)]; exact s1.1, fun p hp => by rw [f18.i (by omega)]; exact s1.2 p hp⟩
    have hI18 : IC σ18 n S LL := hI.fr ff (fun f i k z => by omega)
    unfold f_Reader_remove
    rw [nI_add, show nI (N + U) - 1 = nI (N + U - 1) from pk_sub (b := 1) (by omega), nI_div (by omega) (by omega) (by omega)]
    refine ok_b2 (Q := fun o => (∃ e, (rdv true B N (zz1 t U N B) (zz2 LL S c t U N B)) = (e, (rdv true B N (zz1 t U N B) (zz2 LL S c t U N B)).2.1, none) ∧ o.2 = e ∧ e < 0 ∧ (∃ h, SB o.1 h (rdv true B N (zz1 t U N B) (zz2 LL S c t U N B)).2.1) ∧ fr (fun f i _ => f = 3 ∨ (f = 40 ∧ i = 1) ∨ f = 37 ∨ f = 38) σ18 o.1) ∨ (∃ X, (rdv true B N (zz1 t U N B) (zz2 LL S c t U N B)) = (nI N, (rdv true B N (zz1 t U N B) (zz2 LL S c t U N B)).2.1, some X) ∧ o.2 = nI N ∧ (∃ h, SB o.1 h (rdv true B N (zz1 t U N B) (zz2 LL S c t U N B)).2.1) ∧ (∀ i, i < N → o.1.1 38 0 i = nI (X i) ∧ X i < 64) ∧ fr (fun f i _ => f = 3 ∨ (f = 40 ∧ i = 1) ∨ f = 37 ∨ f = 38) σ18 o.1)) (ok_gd (nI_ne0 (by omega) (by omega)) (ok_nm (fun x1 e1 => ?_))) ?_
    · subst e1
      refine ok_bs2 (Q := fun (z : (St × Int32) ⊕ (St × Int32)) => match z with | .inl q => (zz1 t U N B).1 = none ∧ CU h B (zz1 t U N B).2.1 q.1 ∧ (∀ g, g < gN N U → q.1.1 37 0 g = nI ((zz1 t U N B).2.2 g) ∧ (zz1 t U N B).2.2 g < t) ∧ fr Frg σ18 q.1 | .inr o => (zz1 t U N B).1 = some o.2 ∧ o.2 < 0 ∧ CU h B (zz1 t U N B).2.1 o.1 ∧ fr Frg σ18 o.1) ((s_rd11 ht (show gN N U ≤ 1000 from Nat.le_trans g4 hN) s18 (CU_rf hB18)).mono (fun z hz => by rcases z with z | z <;> exact hz)) ?_ ?_
      · rintro σ6 x7 ⟨w1, w2, w3, w4⟩
        dsimp only at w2 w3 w4
        refine ok_bs2 (Q := fun (z : (St × Int32) ⊕ (St × Int32)) => match z with | .inl p => (zz2 LL S c t U N B).1 = none ∧ CU h B (zz2 LL S c t U N B).2.1 p.1 ∧ (∀ i, i < N → p.1.1 38 0 i = nI ((zz2 LL S c t U N B).2.2 i) ∧ (zz2 LL S c t U N B).2.2 i < 64) ∧ fr (fun f _ _ => f = 3 ∨ f = 38) σ6 p.1 | .inr o => (zz2 LL S c t U N B).1 = some o.2 ∧ o.2 < 0 ∧ CU h B (zz2 LL S c t U N B).2.1 o.1 ∧ fr (fun f _ _ => f = 3 ∨ f = 38) σ6 o.1) ((s_rd56 (q := c) (t := t) (G := gN N U) (S := fun v => S (c + v)) (LL := fun v => LL (c + v)) (gc := (zz1 t U N B).2.2) hU1 hU hN (show gN N U ≤ 1000 from Nat.le_trans g4 hN) g1 ht w3 (fun v hv => ⟨by rw [w4.ri (fun _ => by omega)]; exact r36 v hv, hI.S64 (c + v) (by omega), (hI18.ck (c + v) (by omega)).go (fun f u v => w4.fi (fun _ => by omega))⟩) w2).mono (fun z hz => by rcases z with z | z <;> exact hz)) ?_ ?_
        · rintro σ13 x14 ⟨y1, ⟨X, _, y2⟩, y3, y4⟩
          dsimp only at y2 y3 y4
          refine ok_some (Or.inr ⟨(zz2 LL S c t U N B).2.2, by rw [rdv_3 w1 y1], rfl, ⟨_, by rw [rdv_3 w1 y1]; exact y2⟩, y3, (w4.mono (fun f i k z => by omega)).tr (y4.mono (fun f i k z => by omega))⟩)
        · rintro r ⟨y1, y2, ⟨X, _, y3⟩, y4⟩
          refine ok_some (Or.inl ⟨r.2, by rw [rdv_2 w1 y1], rfl, y2, ⟨_, by rw [rdv_2 w1 y1]; exact y3⟩, (w4.mono (fun f i k z => by omega)).tr (y4.mono (fun f i k z => by omega))⟩)
      · rintro r ⟨y1, y2, ⟨X, _, y3⟩, y4⟩
        refine ok_some (Or.inl ⟨r.2, by rw [rdv_1 y1], rfl, y2, ⟨_, by rw [rdv_1 y1]; exact y3⟩, y4.mono (fun f i k z => by omega)⟩)
    · rintro σ20 x21 hq
      generalize rdv true B N (zz1 t U N B) (zz2 LL S c t U N B) = Z at hq ⊢
      rcases hq with ⟨e, e1, rfl, e3, e4, e5⟩ | ⟨X, e1, rfl, e3, e4, e5⟩
      · dsimp only at e3 e4 e5
        refine ok_f (nneg e3) (ok_some ⟨by rw [e1], e4, fun _ => ?_, fun X hX => ?_⟩)
        · exact (ff.un e5).mono (fun f i k z => by omega)
        · rw [e1] at hX
          cases hX
      · dsimp only at e3 e4 e5
        obtain ⟨h', e3⟩ := e3
        refine ok_t (nI_pos' (by omega)) ?_
        unfold f_Text_become
        rw [nI_cl (show N < 2 ^ 31 by omega)]
        refine ok_b1 (Q := fun σ1 => TXc σ1 N X ∧ fr (fun f _ k => f = 27 ∨ (f = 26 ∧ k = 1)) σ20 σ1) (ok_gd ⟨by decide, by decide, nI_pos (by omega), by rw [nI_cl (by omega)]; show 0 + N ≤ 1000; omega, by rw [nI_cl (by omega)]; show 0 + N ≤ 1000; omega⟩ (ok_nm (fun σ1 e1' => ok_nm (fun σ2 e2' => ok_some ⟨⟨?_, hN, fun k hk => ?_⟩, ?_⟩)))) (fun σ22 h22 => ok_some ⟨by rw [e1], ?_, fun hX => ?_, fun X' hX => ?_⟩)
        · rw [e2', sI_at]
        · rw [e2', sI_f (by omega), e1', cpI_1, if_pos ⟨rfl, rfl, Nat.zero_le _, by show k < 0 + N; omega⟩, show (0 : Int32).toNatClampNeg + (k - (0 : Int32).toNatClampNeg) = k from Nat.zero_add _]
          exact e4 k hk
        · rw [e2', e1']
          exact (fr_cpI (fun _ => Or.inl rfl)).tr (fr_sI (by omega))
        · exact ⟨h', e3.fr h22.2 (fun f i k z => by omega)⟩
        · rw [e1] at hX
          cases hX
        · rw [e1] at hX
          cases hX
          exact ⟨h22.1, ((ff.un e5).un h22.2).mono (fun f i k z => by omega)⟩
  · rintro r ⟨ha, r2, f18⟩
    rw [ha, rdv_f]
    have ff := f10.un f18
    refine ok_some ⟨r2, ⟨h, hB.fr ff (fun f i k z => by omega)⟩, fun _ => ff.mono (fun f i k z => by omega), fun X hX => ?_⟩
    cases hX
abbrev Fq1 : FF := fun f _ k => (f = 48 ∧ k = 11) ∨ (67 ≤ f ∧ f ≤ 69)
abbrev Fq2 : FF := fun f i k => Fq1 f i k ∨ f = 64 ∨ (f = 48 ∧ k = 22)
abbrev RDr (σ : St) (N : Nat) (z : Int32 × List Bool × Option (Nat → Nat)) (o : St × Int32) : Prop := o.2 = z.1 ∧ SR o.1 z.2.1 ∧ (z.2.2 = none → fr Fq1 σ o.1) ∧ ∀ X, z.2.2 = some X → TXr o.1 N X ∧ fr Fq2 σ o.1
theorem s_moRead67 {σ : St} {c t : Nat} {S : Nat → Nat} {LL : Nat → Nat → Nat} {p3 p4 : Int32} (hk : ∀ v, v < t → LR σ (c + v) (S (c + v)) (LL (c + v))) (hct : c + t ≤ 12) : ok (lpE (fun q => lb_Mo_read_67 (nI c) (nI t) p3 p4 q.1 q.2) (σ, nI c)) (fun z => match z with | .inl q => arb LL S c t = true ∧ q.1 = σ | .inr o => arb LL S c t = false ∧ o = (σ, -103)) := by
  refine ok_up t (fun v q => q = (σ, nI (c + v)) ∧ arb LL S c v = true) ?_ ?_ 0 _ (Nat.zero_le _) ⟨rfl, rfl⟩
  · rintro v _ hv ⟨rfl, q1⟩
    dsimp only
    have hkl := knd_lt (LL (c + v)) (S (c + v))
    unfold lb_Mo_read_67
    rw [nI_add]
    refine ok_f (nI_ge (by omega) (by omega)) (ok_b2 (e_moKind (hk v hv)) (fun σ3 x4 h3 => ?_))
    cases h3
    refine ok_if (fun d => ok_some ⟨arb_f (show v + 1 ≤ t by omega) ?_, rfl⟩) (fun d => ok_b2 (e_moKind (hk v hv)) (fun σ5 x6 h5 => ?_))
    · have d' := (nI_eq (b := 0) (by omega) (by omega)).mp d
      simp only [arb, d', or_true, not_true_eq_false, decide_false, Bool.and_false]
    · cases h5
      refine ok_if (fun e => ok_some ⟨arb_f (show v + 1 ≤ t by omega) ?_, rfl⟩) (fun e => ok_nm (fun x7 e7 => ok_some ⟨by rw [e7, nI_1]; rfl, ?_⟩))
      · have e' := (nI_eq (b := 4) (by omega) (by omega)).mp e
        simp only [arb, e', true_or, not_true_eq_false, decide_false, Bool.and_false]
      · have hno : ¬ (knd (LL (c + v)) (S (c + v)) = 4 ∨ knd (LL (c + v)) (S (c + v)) = 0) := fun z => by
          rcases z with z | z
          · exact e (by rw [z]; rfl)
          · exact d (by rw [z]; rfl)
        simp only [arb, q1, hno, not_false_eq_true, decide_true, Bool.and_true]
  · rintro _ ⟨rfl, q1⟩
    dsimp only
    unfold lb_Mo_read_67
    rw [nI_add]
    exact ok_t (nI_le (Nat.le_refl _) (by omega)) (ok_some ⟨q1, rfl⟩)
theorem s_mo247 {σ : St} {N : Nat} {X : Nat → Nat} (hN : N ≤ 1000) (hX : ∀ i, i < N → σ.1 69 0 i = nI (X i) ∧ X i < 64) : ok (lpE (fun q => lb_Mo_read_247 (nI N) q.1 q.2) (σ, 0)) (fun q => (∀ i, i < N → q.1.1 64 0 i = nI (X i) ∧ X i < 64) ∧ fr (fun f _ _ => f = 64) σ q.1) := by
  refine ok_up N (fun k q => q.2 = nI k ∧ (∀ i, i < k → q.1.1 64 0 i = nI (X i) ∧ X i < 64) ∧ fr (fun f _ _ => f = 64) σ q.1) ?_ ?_ 0 _ (Nat.zero_le _) ⟨rfl, fun i hi => absurd hi (by omega), fr.rf⟩
  · rintro k ⟨σ2, x⟩ hk ⟨rfl, q1, q2⟩
    dsimp only at q1 q2 ⊢
    unfold lb_Mo_read_247
    rw [nI_cl (show k < 2 ^ 31 by omega), show σ2.1 69 0 k = nI (X k) by rw [q2.i (by omega)]; exact (hX k hk).1]
    refine ok_f (nI_ge hk (by omega)) (ok_gd (nI_ib (by omega) (by omega)) (ok_gd (nI_ib (by omega) (by omega)) (ok_nm (fun σ3 e3 => ok_nm (fun x4 e4 => ok_some ⟨by dsimp only; rw [e4, nI_1], fun i hi => ?_, ?_⟩)))))
    · dsimp only
      rw [e3]
      by_cases y : i = k
      · subst y
        rw [sI_at]
        exact ⟨rfl, (hX i hk).2⟩
      · rw [sI_k y]
        exact q1 i (by omega)
    · rw [e3]
      exact q2.tr (fr_sI rfl)
  · rintro ⟨σ2, x⟩ ⟨rfl, q1, q2⟩
    unfold lb_Mo_read_247
    exact ok_t (nI_le (Nat.le_refl _) (by omega)) (ok_some ⟨q1, q2⟩)
theorem s_moRead25 {σ : St} {c t U N : Nat} {S : Nat → Nat} {LL : Nat → Nat → Nat} {B : List Bool} (hk : ∀ v, v < t → LR σ (c + v) (S (c + v)) (LL (c + v))) (hB : SR σ B) (hct : c + t ≤ 12) (ht1 : 1 ≤ t) (ht : t ≤ 6) (hU1 : 1 ≤ U) (hU : U ≤ 100) (hN1 : 1 ≤ N) (hN : N ≤ 1000) : ok (jn_Mo_read_25 σ (nI c) (nI t) (nI U) (nI N)) (RDr σ N (rdv (arb LL S c t) B N (zz1 t U N B) (zz2 LL S c t U N B))) := by
  obtain ⟨g1, g2, g3, g4⟩ := grpN hU1 hN1 rfl
  unfold jn_Mo_read_25
  refine ok_f (nI_nlt (b := 1) (by omega) (by omega)) (ok_f (nI_nlt (a := 6) (by omega) (by omega)) (ok_f (nI_nlt (b := 1) (by omega) (by omega)) (ok_f (nI_nlt (a := 100) (by omega) (by omega)) (ok_f (nI_nlt (b := 1) (by omega) (by omega)) (ok_t (nI_le (b := 1000) (by omega) (by omega)) ?_)))))
  refine ok_bs2 (Q := fun (z : (St × Int32) ⊕ (St × Int32)) => match z with | .inl q => arb LL S c t = true ∧ q.1 = σ | .inr o => arb LL S c t = false ∧ o = (σ, -103)) ((s_moRead67 hk hct).mono (fun z hz => by rcases z with z | z <;> exact hz)) ?_ ?_
  · rintro σ8 x9 ⟨ha, e8⟩
    dsimp only at e8
    subst e8
    rw [ha]
    refine ok_b1 (s_moBegin ht) (fun σ10 h10 => ?_)
    obtain ⟨s1, f10⟩ := h10
    rw [nI_add, show nI (N + U) - 1 = nI (N + U - 1) from pk_sub (b := 1) (by omega), nI_div (by omega) (by omega) (by omega)]
    refine ok_gd (nI_ne0 (by omega) (by omega)) (ok_nm (fun x11 e11 => ?_))
    subst e11
    refine ok_bs2 (Q := fun (z : (St × Int32) ⊕ (St × Int32)) => match z with | .inl q => (zz1 t U N B).1 = none ∧ SR q.1 (zz1 t U N B).2.1 ∧ (∀ g, g < gN N U → q.1.1 68 0 g = nI ((zz1 t U N B).2.2 g) ∧ (zz1 t U N B).2.2 g < t) ∧ fr Frq σ10 q.1 | .inr o => (zz1 t U N B).1 = some o.2 ∧ o.2 < 0 ∧ SR o.1 (zz1 t U N B).2.1 ∧ fr Frq σ10 o.1) ((s_rd121 ht1 ht (show gN N U ≤ 1000 from Nat.le_trans g4 hN) s1 (hB.fr f10 (fun f i k z => by omega))).mono (fun z hz => by rcases z with z | z <;> exact hz)) ?_ ?_
    · rintro σ24 x25 ⟨w1, w2, w3, w4⟩
      dsimp only at w2 w3 w4
      have f24 := f10.un w4
      refine ok_bs2 (Q := fun (z : (St × Int32) ⊕ (St × Int32)) => match z with | .inl p => (zz2 LL S c t U N B).1 = none ∧ SR p.1 (zz2 LL S c t U N B).2.1 ∧ (∀ i, i < N → p.1.1 69 0 i = nI ((zz2 LL S c t U N B).2.2 i) ∧ (zz2 LL S c t U N B).2.2 i < 64) ∧ fr (fun f _ k => (f = 48 ∧ k = 11) ∨ f = 69) σ24 p.1 | .inr o => (zz2 LL S c t U N B).1 = some o.2 ∧ o.2 < 0 ∧ SR o.1 (zz2 LL S c t U N B).2.1 ∧ fr (fun f _ k => (f = 48 ∧ k = 11) ∨ f = 69) σ24 o.1) ((s_rd196 (q := c) (t := t) (G := gN N U) (S := fun v => S (c + v)) (LL := fun v => LL (c + v)) (gc := (zz1 t U N B).2.2) hU1 hU hN (show gN N U ≤ 1000 from Nat.le_trans g4 hN) g1 ht w3 (fun v hv => ⟨(hk v hv).2.1, (hk v hv).go (f24.fi (fun _ => by omega)) (f24.fi (fun _ => by omega))⟩) w2).mono (fun z hz => by rcases z with z | z <;> exact hz)) ?_ ?_
      · rintro σ30 x31 ⟨y1, y2, y3, y4⟩
        dsimp only at y2 y3 y4
        rw [rdv_3 w1 y1]
        refine ok_b2 (s_mo247 hN y3) (fun σ34 x35 h34 => ok_nm (fun σ36 e36 => ok_some ⟨rfl, ?_, fun hX => ?_, fun X hX => ?_⟩))
        · have f36 : fr (fun f _ k => f = 64 ∨ (f = 48 ∧ k = 22)) σ30 σ36 := by
            rw [e36]
            exact (h34.2.mono (fun f i k z => by omega)).tr (fr_sI (by omega))
          exact y2.fr f36 (fun f i k z => by omega)
        · cases hX
        · cases hX
          refine ⟨⟨?_, hN, fun k hk => ?_⟩, ?_⟩
          · show σ36.1 48 0 22 = nI N
            rw [e36, sI_at]
          · show σ36.1 64 0 k = _ ∧ _
            rw [e36, sI_f (by omega)]
            exact h34.1 k hk
          · have f36 : fr (fun f _ k => f = 64 ∨ (f = 48 ∧ k = 22)) σ30 σ36 := by
              rw [e36]
              exact (h34.2.mono (fun f i k z => by omega)).tr (fr_sI (by omega))
            exact ((f24.un y4).un f36).mono (fun f i k z => by omega)
      · rintro r ⟨y1, y2, y3, y4⟩
        rw [rdv_2 w1 y1]
        refine ok_some ⟨rfl, y3, fun _ => (f24.un y4).mono (fun f i k z => by omega), fun X hX => ?_⟩
        cases hX
    · rintro r ⟨y1, y2, y3, y4⟩
      rw [rdv_1 y1]
      refine ok_some ⟨rfl, y3, fun _ => (f10.un y4).mono (fun f i k z => by omega), fun X hX => ?_⟩
      cases hX
  · rintro r ⟨ha, e8⟩
    rw [ha, rdv_f, e8]
    refine ok_some ⟨rfl, hB, fun _ => fr.rf, fun X hX => ?_⟩
    cases hX
theorem ge1 {x : Int32} (z : ¬ x < 1) : ∃ l, l < 2 ^ 31 ∧ 1 ≤ l ∧ x = nI l := by
  obtain ⟨l, hl, rfl⟩ := nI_of (x := x) (fun y => z (Int32.lt_trans y (by decide)))
  refine ⟨l, hl, ?_, rfl⟩
  rcases Nat.eq_zero_or_pos l with y | y
  · subst y
    exact absurd (by decide) z
  · exact y
theorem j_read {σ : St} (h : II σ) (a1 a2 a3 a4 : Int32) : JJ (f_PC_read σ a1 a2 a3 a4) (fun σ1 => f_Mo_read σ1 a1 a2 a3 a4) := by
  have h0 := h
  obtain ⟨n, S, LL, B, m, T, h⟩ := h
  have hI := h.1
  have hn := hI.1
  have h4 := hI.2.2.2.1
  obtain ⟨⟨hh, hB⟩, hR⟩ := h.2.2.2.1
  rcases ixC a1 (show n < 2 ^ 31 by omega) with hx | ⟨c, hc, rfl⟩
  · refine J_eq (r := -101) h0 ?_ ?_
    · unfold f_PC_read
      exact ok_b2e (codeAt_out hI hx) (ok_onN rfl (ok_some rfl))
    · show ok (f_Mo_read σ a1 a2 a3 a4) _
      unfold f_Mo_read
      exact ok_b2e (has_out h4 hx) (ok_t rfl (ok_some rfl))
  have hsub : nI n - nI c = nI (n - c) := pk_sub (by omega)
  by_cases d : a2 ≤ nI (n - c)
  rotate_left
  · refine J_eq (r := -101) h0 ?_ ?_
    · unfold f_PC_read
      refine ok_b2e (codeAt_in hI hc) (ok_on rfl ?_)
      rw [hI.2.2.1, hsub]
      exact ok_f d (ok_some rfl)
    · show ok (f_Mo_read σ (nI c) a2 a3 a4) _
      unfold f_Mo_read
      refine ok_b2e (has_in h4 hn hc) (ok_f (by decide) ?_)
      rw [h4, hsub]
      exact ok_f (fun z => d (Int32.le_trans z (nI_pos' (by omega)))) (ok_f d (ok_some rfl))
  have hmo : ∀ σ1 : St, σ1.1 48 0 1 = nI n → f_Mo_read σ1 (nI c) a2 a3 a4 = jn_Mo_read_25 σ1 (nI c) a2 a3 a4 := fun σ1 e1 => by
    unfold f_Mo_read
    rw [b2_e (has_in e1 hn hc), if_neg (by decide), e1, hsub, if_pos d]
    split <;> rfl
  have hout : (a2 < 1 ∨ ¬ a2 ≤ 6 ∨ a3 < 1 ∨ ¬ a3 ≤ 100 ∨ a4 < 1 ∨ ¬ a4 ≤ 1000) → JJ (f_PC_read σ (nI c) a2 a3 a4) (fun σ1 => f_Mo_read σ1 (nI c) a2 a3 a4) := fun hz => J_eq (r := -102) h0 (by
    unfold f_PC_read
    refine ok_b2e (codeAt_in hI hc) (ok_on rfl ?_)
    rw [hI.2.2.1, hsub]
    refine ok_t d ?_
    by_cases z1 : a2 < 1 ∨ ¬ a2 ≤ 6
    · exact ok_b2e (isOut z1) (ok_f (by decide) (ok_some rfl))
    refine ok_b2e (isIn (fun y => z1 (Or.inl y)) (Decidable.of_not_not (fun y => z1 (Or.inr y)))) (ok_t rfl ?_)
    by_cases z2 : a3 < 1 ∨ ¬ a3 ≤ 100
    · exact ok_b2e (isOut z2) (ok_f (by decide) (ok_some rfl))
    refine ok_b2e (isIn (fun y => z2 (Or.inl y)) (Decidable.of_not_not (fun y => z2 (Or.inr y)))) (ok_t rfl ?_)
    have z3 : a4 < 1 ∨ ¬ a4 ≤ 1000 := by
      rcases hz with y | y | y | y | y
      · exact absurd (Or.inl y) z1
      · exact absurd (Or.inr y) z1
      · exact absurd (Or.inl y) z2
      · exact absurd (Or.inr y) z2
      · exact y
    exact ok_b2e (isOut z3) (ok_f (by decide) (ok_some rfl))) (by
    show ok (f_Mo_read σ (nI c) a2 a3 a4) _
    rw [hmo σ h4]
    unfold jn_Mo_read_25
    refine ok_if (fun _ => ok_some rfl) (fun z1 => ok_if (fun _ => ok_some rfl) (fun z2 => ok_if (fun _ => ok_some rfl) (fun z3 => ok_if (fun _ => ok_some rfl) (fun z4 => ok_if (fun _ => ok_some rfl) (fun z5 => ok_f ?_ (ok_some rfl))))))
    rcases hz with y | y | y | y | y | y
    · exact absurd y z1
    · exact absurd (Int32.not_le.mp y) z2
    · exact absurd y z3
    · exact absurd (Int32.not_le.mp y) z4
    · exact absurd y z5
    · exact y)
  by_cases z1 : a2 < 1
  · exact hout (Or.inl z1)
  by_cases z2 : a2 ≤ 6
  rotate_left
  · exact hout (Or.inr (Or.inl z2))
  by_cases z3 : a3 < 1
  · exact hout (Or.inr (Or.inr (Or.inl z3)))
  by_cases z4 : a3 ≤ 100
  rotate_left
  · exact hout (Or.inr (Or.inr (Or.inr (Or.inl z4))))
  by_cases z5 : a4 < 1
  · exact hout (Or.inr (Or.inr (Or.inr (Or.inr (Or.inl z5)))))
  by_cases z6 : a4 ≤ 1000
  rotate_left
  · exact hout (Or.inr (Or.inr (Or.inr (Or.inr (Or.inr z6)))))
  obtain ⟨t, t0, t1, rfl⟩ := ge1 z1
  obtain ⟨U, U0, U1, rfl⟩ := ge1 z3
  obtain ⟨N, N0, N1, rfl⟩ := ge1 z5
  have t6 := (nI_leI (b := 6) t0 (by omega)).mp z2
  have U6 := (nI_leI (b := 100) U0 (by omega)).mp z4
  have N6 := (nI_leI (b := 1000) N0 (by omega)).mp z6
  have tn := (nI_leI t0 (by omega)).mp d
  refine (s_pcRead hI hB (by omega) t1 t6 U1 U6 N1 N6).mono (fun o ho => ?_)
  obtain ⟨u1, ⟨h', u2⟩, u3, u4⟩ := ho
  show ok (f_Mo_read o.1 (nI c) (nI t) (nI U) (nI N)) _
  have ff : fr Fr2 σ o.1 := by
    cases hz : (rdv (arb LL S c t) B N (zz1 t U N B) (zz2 LL S c t U N B)).2.2 with
    | none => exact (u3 hz).mono (fun f i k z => Or.inl z)
    | some X => exact (u4 X hz).2
  rw [hmo o.1 (by rw [ff.i (by omega)]; exact h4)]
  refine (s_moRead25 (fun v hv => (hI.lr (c + v) (by omega)).go (ff.fi (fun _ => by omega)) (ff.fi (fun _ => by omega))) (hR.fr ff (fun f i k z => by omega)) (by omega) t1 t6 U1 U6 N1 N6).mono (fun o2 ho2 => ?_)
  obtain ⟨w1, w2, w3, w4⟩ := ho2
  generalize rdv (arb LL S c t) B N (zz1 t U N B) (zz2 LL S c t U N B) = Z at *
  obtain ⟨Z1, Z2, Z3⟩ := Z
  dsimp only at u1 u2 u3 u4 w1 w2 w3 w4
  refine ⟨by rw [u1, w1], ?_⟩
  cases Z3 with
  | none =>
    have fa := u3 rfl
    have fb := w3 rfl
    exact (h.ss (B' := Z2) (fa.un fb) (fun f i k z => by omega) ⟨⟨h', u2.fr fb (fun f i k z => by omega)⟩, w2⟩).ii
  | some X =>
    obtain ⟨x1, fa⟩ := u4 X rfl
    obtain ⟨x2, fb⟩ := w4 X rfl
    have fu := fa.un fb
    obtain ⟨h1, h2, h3, h4', h5, h6, h7⟩ := h
    exact ⟨n, S, LL, Z2, N, X, h1.fr fu (fun f i k z => by omega), h2.fr fu (fun f i k z => by omega), h3.fr fu (fun f i k z => by omega), ⟨⟨h', u2.fr fb (fun f i k z => by omega)⟩, w2⟩, h5.fr fu (fun f i k z => by omega), ⟨x1.go (fb.i (by omega)) (fb.fi (fun _ => by omega)), x2⟩, h7.fr fu (fun f i k z => by omega) (Nat.le_refl _) (fun _ _ => rfl)⟩
