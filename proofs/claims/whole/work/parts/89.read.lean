/-! ===== read: selectors ===== -/
def rsl : Nat → Nat → List Bool → (Int32 ⊕ Nat) × List Bool
  | 0, _, B => (.inl (-105), B)
  | _ + 1, _, [] => (.inl (-104), [])
  | _ + 1, p, false :: B => (.inr p, B)
  | f + 1, p, true :: B => rsl f (p + 1) B
def RSc (h t : Nat) (B0 : List Bool) (R : Nat → Nat) (σ : St) (z : (Int32 ⊕ Nat) × List Bool) (o : St × Int32) : Prop := CU h B0 z.2 o.1 ∧ o.1.1 39 1 1 = nI t ∧ (∀ e, z.1 = .inl e → o.2 = e ∧ e < 0) ∧ (∀ p, z.1 = .inr p → p < t ∧ o.2 = nI (R p) ∧ ∀ k, k < t → o.1.1 40 1 k = nI (mv R p k)) ∧ fr (fun f i _ => f = 3 ∨ (f = 40 ∧ i = 1)) σ o.1
theorem s_selRemove {σ : St} {h t : Nat} {R : Nat → Nat} {B0 B : List Bool} (ht : t ≤ 6) (hS : SEc σ 1 t R) (hC : CU h B0 B σ) : ok (f_Selectors_remove σ 1) (RSc h t B0 R σ (rsl t 0 B)) := by
  unfold f_Selectors_remove
  refine ok_bs2 (Q := fun (z : (St × Int32) ⊕ (St × Int32)) => match z with | .inl p => RSc h t B0 R σ (rsl t 0 B) (p.1, -105) | .inr o => RSc h t B0 R σ (rsl t 0 B) o) (ok_up t (fun k p => p.2 = nI k ∧ fr F3 σ p.1 ∧ ∃ B', CU h B0 B' p.1 ∧ rsl (t - k) k B' = rsl t 0 B) ?_ ?_ 0 (σ, 0) (Nat.zero_le _) ⟨rfl, fr.rf, B, hC, rfl⟩) (fun σ5 x6 h5 => ok_some h5) (fun r hr => ok_some hr)
  · rintro k ⟨σ2, x⟩ hk ⟨rfl, f2, B', hC', hz⟩
    dsimp only at f2 hC' ⊢
    generalize rsl t 0 B = Z at hz ⊢
    rw [show t - k = t - (k + 1) + 1 by omega] at hz
    unfold lb_Selectors_remove_2
    rw [show σ2.1 39 1 1 = nI t by rw [f2.i (by omega)]; exact hS.1]
    refine ok_f (nI_ge hk (by omega)) ?_
    cases B' with
    | nil =>
      refine ok_b2e (cu_first0 hC') (ok_f (by decide) (ok_some ?_))
      simp only [rsl] at hz
      subst hz
      refine ⟨hC', ?_, ?_, ?_, f2.mono (fun f i k z => by omega)⟩
      · rw [f2.i (by omega)]
        exact hS.1
      · intro e he
        cases he
        exact ⟨rfl, by decide⟩
      · intro p hp
        cases hp
    | cons b B' =>
      refine ok_b2 (cu_first hC') (fun σ1 x2 h1 => ?_)
      obtain ⟨c1, c2, c3⟩ := h1
      dsimp only at c1 c2 c3
      subst c2
      have f1 : fr F3 σ σ1 := f2.tr c3
      cases b with
      | false =>
        simp only [rsl] at hz
        subst hz
        refine ok_t (by decide) (ok_t rfl (ok_b1 (s_moveAhead ht hk (fun k hk => by rw [f1.i (by omega)]; exact hS.2 k hk)) (fun σ4 h4 => ok_gd (by decide) (ok_some ?_))))
        refine ⟨c1.go (h4.2.fi (fun _ => by omega)) (h4.2.fi (fun _ => by omega)), ?_, ?_, ?_, (f1.mono (fun f i k z => by omega)).tr (h4.2.mono (fun f i k z => by omega))⟩
        · dsimp only
          rw [h4.2.i (by omega), f1.i (by omega)]
          exact hS.1
        · intro e he
          cases he
        · intro p hp
          cases hp
          refine ⟨hk, ?_, h4.1⟩
          have := h4.1 0 (by omega)
          simp only [mv, if_true] at this
          exact this
      | true =>
        simp only [rsl] at hz
        exact ok_t (by decide) (ok_f (by decide) (ok_nm (fun x3 e3 => ok_some ⟨by dsimp only; rw [e3, nI_1], f1, B', c1, hz⟩)))
  · rintro ⟨σ2, x⟩ ⟨rfl, f2, B', hC', hz⟩
    dsimp only at f2 hC' ⊢
    generalize rsl t 0 B = Z at hz ⊢
    rw [Nat.sub_self] at hz
    simp only [rsl] at hz
    subst hz
    have h39 : σ2.1 39 1 1 = nI t := by rw [f2.i (by omega)]; exact hS.1
    unfold lb_Selectors_remove_2
    rw [h39]
    refine ok_t (nI_le (Nat.le_refl _) (by omega)) (ok_some ⟨hC', h39, ?_, ?_, f2.mono (fun f i k z => by omega)⟩)
    · intro e he
      cases he
      exact ⟨rfl, by decide⟩
    · intro p hp
      cases hp
/-- the reference reads one selector: v8 is the first bit -/
theorem s_mo138 {σ : St} {t : Nat} {B : List Bool} {x p1 p3 p4 x11 v6 : Int32} (ht1 : 1 ≤ t) (ht : t ≤ 6) (hP : PB σ x B) : ok (lpE (fun q => lb_Mo_read_138 p1 (nI t) p3 p4 x11 v6 q.1 q.2.1 q.2.2) (σ, 0, x)) (fun z => match z with | .inl q => SR q.1 (rsl t 0 B).2 ∧ fr Ft σ q.1 ∧ ((∃ p, (rsl t 0 B).1 = .inr p ∧ p < t ∧ q.2.1 = nI p ∧ q.2.2 = 0) ∨ ((rsl t 0 B).1 = .inl (-104) ∧ q.2.2 = -104)) | .inr o => SR o.1 (rsl t 0 B).2 ∧ fr Ft σ o.1 ∧ o.2 = -105 ∧ (rsl t 0 B).1 = .inl (-105)) := by
  refine ok_up t (fun k q => k < t ∧ q.2.1 = nI k ∧ fr Ft σ q.1 ∧ ∃ B', PB q.1 q.2.2 B' ∧ rsl (t - k) k B' = rsl t 0 B) ?_ ?_ 0 _ (Nat.zero_le _) ⟨ht1, rfl, fr.rf, B, hP, rfl⟩
  · rintro k ⟨σ2, y1, y2⟩ hk ⟨_, q1, f2, B', hP', hz⟩
    dsimp only at q1 f2 hP' ⊢
    subst q1
    generalize rsl t 0 B = Z at hz ⊢
    rw [show t - k = t - (k + 1) + 1 by omega] at hz
    unfold lb_Mo_read_138
    rcases hP' with ⟨rfl, rfl, hS⟩ | ⟨b, B', rfl, rfl, hS⟩
    · simp only [rsl] at hz
      subst hz
      exact ok_f (by decide) (ok_some ⟨hS, f2, Or.inr ⟨rfl, rfl⟩⟩)
    · cases b with
      | false =>
        simp only [rsl] at hz
        subst hz
        exact ok_f (by decide) (ok_some ⟨hS, f2, Or.inl ⟨k, rfl, hk, rfl, rfl⟩⟩)
      | true =>
        simp only [rsl] at hz
        rw [nI_1]
        refine ok_t (by decide) (ok_nm (fun x14 e14 => ?_))
        subst e14
        refine ok_if (fun d => ?_) (fun d => ?_)
        · have d' := (nI_eq (by omega) (by omega)).mp d
          rw [d', Nat.sub_self] at hz
          simp only [rsl] at hz
          subst hz
          exact ok_some ⟨hS, f2, rfl, rfl⟩
        · have d' : ¬ k + 1 = t := fun z => d (by rw [z])
          refine ok_b2 (s_pb hS) (fun σ15 x16 h15 => ok_some ⟨by omega, rfl, f2.tr h15.2, B', h15.1, hz⟩)
  · rintro ⟨σ2, y1, y2⟩ ⟨h0, _⟩
    omega
/-! groups -/
def rgs (t : Nat) : Nat → Nat → (Nat → Nat) → (Nat → Nat) → List Bool → Option Int32 × List Bool × (Nat → Nat)
  | 0, _, _, gc, B => (none, B, gc)
  | f + 1, g, R, gc, B => match rsl t 0 B with
    | (.inl e, B') => (some e, B', gc)
    | (.inr p, B') => rgs t f (g + 1) (mv R p) (setF gc g (R p)) B'
theorem rgs_l {t f g : Nat} {R gc : Nat → Nat} {B : List Bool} {e : Int32} (h : (rsl t 0 B).1 = .inl e) : rgs t (f + 1) g R gc B = (some e, (rsl t 0 B).2, gc) := by
  simp only [rgs]
  generalize rsl t 0 B = Z at h ⊢
  obtain ⟨Z1, Z2⟩ := Z
  dsimp only at h
  subst h
  rfl
theorem rgs_r {t f g p : Nat} {R gc : Nat → Nat} {B : List Bool} (h : (rsl t 0 B).1 = .inr p) : rgs t (f + 1) g R gc B = rgs t f (g + 1) (mv R p) (setF gc g (R p)) (rsl t 0 B).2 := by
  conv => lhs; simp only [rgs]
  generalize rsl t 0 B = Z at h ⊢
  obtain ⟨Z1, Z2⟩ := Z
  dsimp only at h
  subst h
  rfl
theorem rsl_cases (t : Nat) : ∀ (f p : Nat) (B : List Bool), p + f = t → (rsl f p B).1 = .inl (-105) ∨ (rsl f p B).1 = .inl (-104) ∨ ∃ k, k < t ∧ (rsl f p B).1 = .inr k
  | 0, p, B, _ => by
    simp only [rsl]
    exact Or.inl trivial
  | f + 1, p, [], _ => by
    simp only [rsl]
    exact Or.inr (Or.inl trivial)
  | f + 1, p, false :: B, h => by
    simp only [rsl]
    exact Or.inr (Or.inr ⟨p, by omega, rfl⟩)
  | f + 1, p, true :: B, h => by
    simp only [rsl]
    exact rsl_cases t f (p + 1) B (by omega)
abbrev Frg : Nat → Nat → Nat → Prop := fun f i _ => f = 3 ∨ (f = 40 ∧ i = 1) ∨ f = 37
theorem s_rd11 {σ : St} {h t G : Nat} {B0 : List Bool} {a1 a2 : Int32} (ht : t ≤ 6) (hG : G ≤ 1000) (hS : SEc σ 1 t (fun p => p)) (hC : CU h B0 B0 σ) : ok (lpE (fun q => lb_Reader_remove_11 a1 a2 (nI G) q.1 q.2) (σ, 0)) (fun z => match z with | .inl q => (rgs t G 0 (fun p => p) F00 B0).1 = none ∧ CU h B0 (rgs t G 0 (fun p => p) F00 B0).2.1 q.1 ∧ (∀ g, g < G → q.1.1 37 0 g = nI ((rgs t G 0 (fun p => p) F00 B0).2.2 g) ∧ (rgs t G 0 (fun p => p) F00 B0).2.2 g < t) ∧ fr Frg σ q.1 | .inr o => (rgs t G 0 (fun p => p) F00 B0).1 = some o.2 ∧ o.2 < 0 ∧ CU h B0 (rgs t G 0 (fun p => p) F00 B0).2.1 o.1 ∧ fr Frg σ o.1) := by
  refine ok_up G (fun g q => q.2 = nI g ∧ fr Frg σ q.1 ∧ ∃ R gc B', PM t R ∧ SEc q.1 1 t R ∧ CU h B0 B' q.1 ∧ (∀ k, k < g → q.1.1 37 0 k = nI (gc k) ∧ gc k < t) ∧ rgs t (G - g) g R gc B' = rgs t G 0 (fun p => p) F00 B0) ?_ ?_ 0 _ (Nat.zero_le _) ⟨rfl, fr.rf, fun p => p, F00, B0, PM_id t, hS, hC, fun k hk => absurd hk (by omega), rfl⟩
  · rintro g ⟨σ2, x⟩ hg ⟨rfl, f2, R, gc, B', hP, hS', hC', hgc, hz⟩
    dsimp only at f2 hS' hC' hgc ⊢
    generalize rgs t G 0 (fun p => p) F00 B0 = Z at hz ⊢
    rw [show G - g = G - (g + 1) + 1 by omega] at hz
    unfold lb_Reader_remove_11
    refine ok_f (nI_ge hg (by omega)) (ok_b2 (s_selRemove ht hS' hC') (fun σ3 x3 h3 => ?_))
    obtain ⟨c1, c2, c3, c4, c5⟩ := h3
    dsimp only at c1 c2 c3 c4 c5
    have hcs := rsl_cases t t 0 B' (by omega)
    have f3 : fr Frg σ σ3 := f2.tr (c5.mono (fun f i k z => by omega))
    cases hr : (rsl t 0 B').1 with
    | inl e =>
      obtain ⟨rfl, e2⟩ := c3 e hr
      rw [rgs_l hr] at hz
      subst hz
      exact ok_f (nneg e2) (ok_some ⟨rfl, e2, c1, f3⟩)
    | inr p =>
      obtain ⟨p1, rfl, p3⟩ := c4 p hr
      have hRp := hP.1 p p1
      rw [rgs_r hr] at hz
      rw [nI_cl (show g < 2 ^ 31 by omega)]
      refine ok_t (nI_le (a := 0) (by omega) (by omega)) (ok_gd (nI_ib (by omega) (by omega)) (ok_nm (fun σ4 e4 => ok_nm (fun x5 e5 => ok_some ⟨by dsimp only; rw [e5, nI_1], ?_, mv R p, setF gc g (R p), (rsl t 0 B').2, PM_mv hP p1, ⟨?_, fun k hk => ?_⟩, ?_, fun k hk => ?_, hz⟩))))
      · rw [e4]
        exact f3.tr (fr_sI (by omega))
      · dsimp only
        rw [e4, sI_f (by omega)]
        exact c2
      · dsimp only
        rw [e4, sI_f (by omega)]
        exact p3 k hk
      · rw [e4]
        exact c1.go (sI_fi (by omega)) (sI_fi (by omega))
      · dsimp only
        rw [e4]
        simp only [setF]
        by_cases y : k = g
        · subst y
          rw [sI_at, if_pos rfl]
          exact ⟨rfl, hRp⟩
        · rw [sI_k y, if_neg y, c5.i (by omega)]
          exact hgc k (by omega)
  · rintro ⟨σ2, x⟩ ⟨rfl, f2, R, gc, B', hP, hS', hC', hgc, hz⟩
    dsimp only at f2 hS' hC' hgc ⊢
    generalize rgs t G 0 (fun p => p) F00 B0 = Z at hz ⊢
    rw [Nat.sub_self] at hz
    simp only [rgs] at hz
    subst hz
    unfold lb_Reader_remove_11
    exact ok_t (nI_le (Nat.le_refl _) (by omega)) (ok_some ⟨rfl, hC', hgc, f2⟩)
abbrev Frq : Nat → Nat → Nat → Prop := fun f _ k => (f = 48 ∧ k = 11) ∨ f = 67 ∨ f = 68
theorem s_rd121 {σ : St} {t G : Nat} {B0 : List Bool} {p1 p3 p4 : Int32} (ht1 : 1 ≤ t) (ht : t ≤ 6) (hG : G ≤ 1000) (hS : SEr σ t (fun p => p)) (hB : SR σ B0) : ok (lpE (fun q => lb_Mo_read_121 p1 (nI t) p3 p4 (nI G) q.1 q.2) (σ, 0)) (fun z => match z with | .inl q => (rgs t G 0 (fun p => p) F00 B0).1 = none ∧ SR q.1 (rgs t G 0 (fun p => p) F00 B0).2.1 ∧ (∀ g, g < G → q.1.1 68 0 g = nI ((rgs t G 0 (fun p => p) F00 B0).2.2 g) ∧ (rgs t G 0 (fun p => p) F00 B0).2.2 g < t) ∧ fr Frq σ q.1 | .inr o => (rgs t G 0 (fun p => p) F00 B0).1 = some o.2 ∧ o.2 < 0 ∧ SR o.1 (rgs t G 0 (fun p => p) F00 B0).2.1 ∧ fr Frq σ o.1) := by
  refine ok_up G (fun g q => q.2 = nI g ∧ fr Frq σ q.1 ∧ ∃ R gc B', PM t R ∧ SEr q.1 t R ∧ SR q.1 B' ∧ (∀ k, k < g → q.1.1 68 0 k = nI (gc k) ∧ gc k < t) ∧ rgs t (G - g) g R gc B' = rgs t G 0 (fun p => p) F00 B0) ?_ ?_ 0 _ (Nat.zero_le _) ⟨rfl, fr.rf, fun p => p, F00, B0, PM_id t, hS, hB, fun k hk => absurd hk (by omega), rfl⟩
  · rintro g ⟨σ2, x⟩ hg ⟨rfl, f2, R, gc, B', hP, hS', hB', hgc, hz⟩
    dsimp only at f2 hS' hB' hgc ⊢
    generalize rgs t G 0 (fun p => p) F00 B0 = Z at hz ⊢
    rw [show G - g = G - (g + 1) + 1 by omega] at hz
    unfold lb_Mo_read_121
    refine ok_f (nI_ge hg (by omega)) (ok_b2 (s_pb hB') (fun σ12 x13 h12 => ?_))
    obtain ⟨a1, a2⟩ := h12
    dsimp only at a1 a2
    refine ok_bs3 (Q := fun (z : (St × Int32 × Int32) ⊕ (St × Int32)) => match z with | .inl q => SR q.1 (rsl t 0 B').2 ∧ fr Ft σ12 q.1 ∧ ((∃ p, (rsl t 0 B').1 = .inr p ∧ p < t ∧ q.2.1 = nI p ∧ q.2.2 = 0) ∨ ((rsl t 0 B').1 = .inl (-104) ∧ q.2.2 = -104)) | .inr o => SR o.1 (rsl t 0 B').2 ∧ fr Ft σ12 o.1 ∧ o.2 = -105 ∧ (rsl t 0 B').1 = .inl (-105)) ((s_mo138 ht1 ht a1).mono (fun z hz => by rcases z with z | z <;> exact hz)) ?_ ?_
    · rintro σ17 x18 x19 ⟨b1', b2', b3'⟩
      dsimp only at b1' b2' b3'
      have f17 : fr Frq σ σ17 := f2.tr ((a2.tr b2').mono (fun f i k z => by omega))
      have fa := a2.tr b2'
      rcases b3' with ⟨p, hr, p1, rfl, rfl⟩ | ⟨hr, rfl⟩
      · have hRp := hP.1 p p1
        rw [rgs_r hr] at hz
        refine ok_t (by decide) (ok_b2 (s_moFront ht p1 (fun k hk => by rw [fa.i (by omega)]; exact hS' k hk)) (fun σ20 x21 h20 => ?_))
        obtain ⟨u1, u2, u3⟩ := h20
        dsimp only at u1 u2 u3
        subst u1
        rw [nI_cl (show g < 2 ^ 31 by omega)]
        refine ok_gd (nI_ib (by omega) (by omega)) (ok_nm (fun σ4 e4 => ok_nm (fun x5 e5 => ok_some ⟨by dsimp only; rw [e5, nI_1], ?_, mv R p, setF gc g (R p), (rsl t 0 B').2, PM_mv hP p1, fun k hk => ?_, ?_, fun k hk => ?_, hz⟩)))
        · rw [e4]
          exact (f17.tr (u3.mono (fun f i k z => by omega))).tr (fr_sI (by omega))
        · dsimp only
          rw [e4, sI_f (by omega)]
          exact u2 k hk
        · rw [e4]
          exact (b1'.go (u3.i (by omega)) (u3.i (by omega)) (u3.fi (fun _ => by omega))).go (sI_f (by omega)) (sI_f (by omega)) (sI_fi (by omega))
        · dsimp only
          rw [e4]
          simp only [setF]
          by_cases y : k = g
          · subst y
            rw [sI_at, if_pos rfl]
            exact ⟨rfl, hRp⟩
          · rw [sI_k y, if_neg y, u3.i (by omega), fa.i (by omega)]
            exact hgc k (by omega)
      · rw [rgs_l hr] at hz
        subst hz
        exact ok_f (by decide) (ok_some ⟨rfl, n104, b1', f17⟩)
    · rintro r ⟨b1', b2', b3', hr⟩
      rw [rgs_l hr] at hz
      subst hz
      refine ok_some ⟨by rw [b3'], by rw [b3']; decide, b1', f2.tr ((a2.tr b2').mono (fun f i k z => by omega))⟩
  · rintro ⟨σ2, x⟩ ⟨rfl, f2, R, gc, B', hP, hS', hB', hgc, hz⟩
    dsimp only at f2 hS' hB' hgc ⊢
    generalize rgs t G 0 (fun p => p) F00 B0 = Z at hz ⊢
    rw [Nat.sub_self] at hz
    simp only [rgs] at hz
    subst hz
    unfold lb_Mo_read_121
    exact ok_t (nI_le (Nat.le_refl _) (by omega)) (ok_some ⟨rfl, hB', hgc, f2⟩)
/-! symbols -/
def rsy (LL : Nat → Nat → Nat) (S : Nat → Nat) (gc : Nat → Nat) (U : Nat) : Nat → Nat → (Nat → Nat) → List Bool → Option Int32 × List Bool × (Nat → Nat)
  | 0, _, X, B => (none, B, X)
  | f + 1, i, X, B => if (dec (LL (gc (i / U))) (S (gc (i / U))) B 0 0).1 < 0 then (some (dec (LL (gc (i / U))) (S (gc (i / U))) B 0 0).1, (dec (LL (gc (i / U))) (S (gc (i / U))) B 0 0).2, X) else rsy LL S gc U f (i + 1) (setF X i (dec (LL (gc (i / U))) (S (gc (i / U))) B 0 0).1.toNatClampNeg) (dec (LL (gc (i / U))) (S (gc (i / U))) B 0 0).2
theorem wa0 (L : Nat → Nat) (s : Nat) : wa (fun m => cnt L m s) 0 ≤ 0 := Nat.le_refl _
theorem s_rd56 {σ : St} {h t G U n q : Nat} {S gc : Nat → Nat} {LL : Nat → Nat → Nat} {B0 B : List Bool} (hU : 1 ≤ U) (hU2 : U ≤ 100) (hn : n ≤ 1000) (hG : G ≤ 1000) (hnG : n ≤ G * U) (ht : t ≤ 6) (hgc : ∀ g, g < G → σ.1 37 0 g = nI (gc g) ∧ gc g < t) (hk : ∀ c, c < t → σ.2.2.1 36 0 c = some (q + c) ∧ S c ≤ 64 ∧ CK σ (q + c) (S c) (LL c)) (hC : CU h B0 B σ) : ok (lpE (fun p => lb_Reader_remove_56 (nI U) (nI n) p.1 p.2) (σ, 0)) (fun z => match z with | .inl p => (rsy LL S gc U n 0 F00 B).1 = none ∧ CU h B0 (rsy LL S gc U n 0 F00 B).2.1 p.1 ∧ (∀ i, i < n → p.1.1 38 0 i = nI ((rsy LL S gc U n 0 F00 B).2.2 i) ∧ (rsy LL S gc U n 0 F00 B).2.2 i < 64) ∧ fr (fun f _ _ => f = 3 ∨ f = 38) σ p.1 | .inr o => (rsy LL S gc U n 0 F00 B).1 = some o.2 ∧ o.2 < 0 ∧ CU h B0 (rsy LL S gc U n 0 F00 B).2.1 o.1 ∧ fr (fun f _ _ => f = 3 ∨ f = 38) σ o.1) := by
  refine ok_up n (fun i p => p.2 = nI i ∧ fr (fun f _ _ => f = 3 ∨ f = 38) σ p.1 ∧ ∃ X B', CU h B0 B' p.1 ∧ (∀ k, k < i → p.1.1 38 0 k = nI (X k) ∧ X k < 64) ∧ rsy LL S gc U (n - i) i X B' = rsy LL S gc U n 0 F00 B) ?_ ?_ 0 _ (Nat.zero_le _) ⟨rfl, fr.rf, F00, B, hC, fun k hk => absurd hk (by omega), rfl⟩
  · rintro i ⟨σ2, x⟩ hi ⟨rfl, f2, X, B', hC', hX, hz⟩
    dsimp only at f2 hC' hX ⊢
    generalize rsy LL S gc U n 0 F00 B = Z at hz ⊢
    rw [show n - i = n - (i + 1) + 1 by omega] at hz
    simp only [rsy] at hz
    have hiU : i / U < G := by
      rw [Nat.div_lt_iff_lt_mul (by omega)]
      omega
    obtain ⟨g1, g2⟩ := hgc _ hiU
    obtain ⟨k1, k2, k3⟩ := hk _ g2
    generalize gc (i / U) = c at *
    unfold lb_Reader_remove_56
    rw [nI_div (by omega) (by omega) (by omega), nI_cl (show i / U < 2 ^ 31 by omega), show σ2.1 37 0 (i / U) = nI c by rw [f2.i (by omega)]; exact g1, nI_cl (show c < 2 ^ 31 by omega)]
    refine ok_f (nI_ge hi (by omega)) (ok_gd (nI_ne0 (by omega) (by omega)) (ok_gd (nI_ib (by omega) (by omega)) (ok_gd (nI_ib (by omega) (by omega)) (ok_on (j := q + c) (by rw [f2.ri (fun _ => by omega)]; exact k1) (ok_b2 (cu_sym (k3.go (fun f u v => f2.fi (fun _ => by omega))) hC') (fun σ9 x10 h9 => ?_))))))
    obtain ⟨u1, u2, u3⟩ := h9
    dsimp only at u1 u2 u3
    have hdc := dec_cases (L := LL c) (s := S c) B' 0 0 (wa0 _ _)
    generalize dec (LL c) (S c) B' 0 0 = D at hdc hz u1 u2 ⊢
    subst u1
    have f9 := f2.tr (u3.mono (T := fun f _ _ => f = 3 ∨ f = 38) (fun f i k z => Or.inl z))
    rcases hdc with d | d | ⟨k, d1, d2⟩
    · rw [if_pos (by rw [d]; decide)] at hz
      subst hz
      exact ok_f (by rw [d]; decide) (ok_some ⟨rfl, by dsimp only; rw [d]; decide, u2, f9⟩)
    · rw [if_pos (by rw [d]; decide)] at hz
      subst hz
      exact ok_f (by rw [d]; decide) (ok_some ⟨rfl, by dsimp only; rw [d]; decide, u2, f9⟩)
    · rw [if_neg (by rw [d2]; exact nI_pos (by omega)), d2, nI_cl (show k < 2 ^ 31 by omega)] at hz
      rw [d2, nI_cl (show i < 2 ^ 31 by omega)]
      refine ok_t (nI_pos' (by omega)) (ok_gd (nI_ib (by omega) (by omega)) (ok_nm (fun σ11 e11 => ok_nm (fun x12 e12 => ok_some ⟨by dsimp only; rw [e12, nI_1], ?_, setF X i k, D.2, ?_, fun k' hk' => ?_, hz⟩))))
      · rw [e11]
        exact f9.tr (fr_sI (by omega))
      · rw [e11]
        exact u2.go (sI_fi (by omega)) (sI_fi (by omega))
      · dsimp only
        rw [e11]
        simp only [setF]
        by_cases y : k' = i
        · subst y
          rw [sI_at, if_pos rfl]
          exact ⟨rfl, by omega⟩
        · rw [sI_k y, if_neg y, u3.i (by omega)]
          exact hX k' (by omega)
  · rintro ⟨σ2, x⟩ ⟨rfl, f2, X, B', hC', hX, hz⟩
    dsimp only at f2 hC' hX ⊢
    generalize rsy LL S gc U n 0 F00 B = Z at hz ⊢
    rw [Nat.sub_self] at hz
    simp only [rsy] at hz
    subst hz
    unfold lb_Reader_remove_56
    exact ok_t (nI_le (Nat.le_refl _) (by omega)) (ok_some ⟨rfl, hC', hX, f2⟩)
theorem s_rd196 {σ : St} {t G U n q : Nat} {S gc : Nat → Nat} {LL : Nat → Nat → Nat} {B : List Bool} (hU : 1 ≤ U) (hU2 : U ≤ 100) (hn : n ≤ 1000) (hG : G ≤ 1000) (hnG : n ≤ G * U) (ht : t ≤ 6) (hgc : ∀ g, g < G → σ.1 68 0 g = nI (gc g) ∧ gc g < t) (hk : ∀ c, c < t → S c ≤ 64 ∧ LR σ (q + c) (S c) (LL c)) (hB : SR σ B) : ok (lpE (fun p => lb_Mo_read_196 (nI q) (nI U) (nI n) p.1 p.2) (σ, 0)) (fun z => match z with | .inl p => (rsy LL S gc U n 0 F00 B).1 = none ∧ SR p.1 (rsy LL S gc U n 0 F00 B).2.1 ∧ (∀ i, i < n → p.1.1 69 0 i = nI ((rsy LL S gc U n 0 F00 B).2.2 i) ∧ (rsy LL S gc U n 0 F00 B).2.2 i < 64) ∧ fr (fun f _ k => (f = 48 ∧ k = 11) ∨ f = 69) σ p.1 | .inr o => (rsy LL S gc U n 0 F00 B).1 = some o.2 ∧ o.2 < 0 ∧ SR o.1 (rsy LL S gc U n 0 F00 B).2.1 ∧ fr (fun f _ k => (f = 48 ∧ k = 11) ∨ f = 69) σ o.1) := by
  refine ok_up n (fun i p => p.2 = nI i ∧ fr (fun f _ k => (f = 48 ∧ k = 11) ∨ f = 69) σ p.1 ∧ ∃ X B', SR p.1 B' ∧ (∀ k, k < i → p.1.1 69 0 k = nI (X k) ∧ X k < 64) ∧ rsy LL S gc U (n - i) i X B' = rsy LL S gc U n 0 F00 B) ?_ ?_ 0 _ (Nat.zero_le _) ⟨rfl, fr.rf, F00, B, hB, fun k hk => absurd hk (by omega), rfl⟩
  · rintro i ⟨σ2, x⟩ hi ⟨rfl, f2, X, B', hB', hX, hz⟩
    dsimp only at f2 hB' hX ⊢
    generalize rsy LL S gc U n 0 F00 B = Z at hz ⊢
    rw [show n - i = n - (i + 1) + 1 by omega] at hz
    simp only [rsy] at hz
    have hiU : i / U < G := by
      rw [Nat.div_lt_iff_lt_mul (by omega)]
      omega
    obtain ⟨g1, g2⟩ := hgc _ hiU
    obtain ⟨k2, k3⟩ := hk _ g2
    generalize gc (i / U) = c at *
    unfold lb_Mo_read_196
    rw [nI_div (by omega) (by omega) (by omega), nI_cl (show i / U < 2 ^ 31 by omega), show σ2.1 68 0 (i / U) = nI c by rw [f2.i (by omega)]; exact g1, nI_add]
    refine ok_f (nI_ge hi (by omega)) (ok_gd (nI_ne0 (by omega) (by omega)) (ok_gd (nI_ib (by omega) (by omega)) (ok_b2 (s_taken (k3.go (f2.fi (fun _ => by omega)) (f2.fi (fun _ => by omega))) hB') (fun σ9 x10 h9 => ?_))))
    obtain ⟨u1, u2, u3⟩ := h9
    dsimp only at u1 u2 u3
    have hdc := dec_cases (L := LL c) (s := S c) B' 0 0 (wa0 _ _)
    generalize dec (LL c) (S c) B' 0 0 = D at hdc hz u1 u2 ⊢
    subst u1
    have f9 := f2.tr (u3.mono (T := fun f _ k => (f = 48 ∧ k = 11) ∨ f = 69) (fun f i k z => Or.inl z))
    rcases hdc with d | d | ⟨k, d1, d2⟩
    · rw [if_pos (by rw [d]; decide)] at hz
      subst hz
      exact ok_f (by rw [d]; decide) (ok_some ⟨rfl, by dsimp only; rw [d]; decide, u2, f9⟩)
    · rw [if_pos (by rw [d]; decide)] at hz
      subst hz
      exact ok_f (by rw [d]; decide) (ok_some ⟨rfl, by dsimp only; rw [d]; decide, u2, f9⟩)
    · rw [if_neg (by rw [d2]; exact nI_pos (by omega)), d2, nI_cl (show k < 2 ^ 31 by omega)] at hz
      rw [d2, nI_cl (show i < 2 ^ 31 by omega)]
      refine ok_t (nI_pos' (by omega)) (ok_gd (nI_ib (by omega) (by omega)) (ok_nm (fun σ11 e11 => ok_nm (fun x12 e12 => ok_some ⟨by dsimp only; rw [e12, nI_1], ?_, setF X i k, D.2, ?_, fun k' hk' => ?_, hz⟩))))
      · rw [e11]
        exact f9.tr (fr_sI (by omega))
      · rw [e11]
        exact u2.go (sI_f (by omega)) (sI_f (by omega)) (sI_fi (by omega))
      · dsimp only
        rw [e11]
        simp only [setF]
        by_cases y : k' = i
        · subst y
          rw [sI_at, if_pos rfl]
          exact ⟨rfl, by omega⟩
        · rw [sI_k y, if_neg y, u3.i (by omega)]
          exact hX k' (by omega)
  · rintro ⟨σ2, x⟩ ⟨rfl, f2, X, B', hB', hX, hz⟩
    dsimp only at f2 hB' hX ⊢
    generalize rsy LL S gc U n 0 F00 B = Z at hz ⊢
    rw [Nat.sub_self] at hz
    simp only [rsy] at hz
    subst hz
    unfold lb_Mo_read_196
    exact ok_t (nI_le (Nat.le_refl _) (by omega)) (ok_some ⟨rfl, hB', hX, f2⟩)
