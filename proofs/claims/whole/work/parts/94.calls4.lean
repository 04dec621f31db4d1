/-! ===== a new code ===== -/
def nC (σ : St) (s : Int32) : St := (fun f i k => if 41 ≤ f ∧ f ≤ 47 ∧ i = σ.2.2.2 then (if f = 41 ∧ k = 0 then s else 0) else σ.1 f i k, σ.2.1, fun f i k => if 41 ≤ f ∧ f ≤ 47 ∧ i = σ.2.2.2 then none else σ.2.2.1 f i k, σ.2.2.2 + 1)
abbrev up1 (σ : St) : St := (σ.1, σ.2.1, σ.2.2.1, σ.2.2.2 + 1)
abbrev Fnc (n : Nat) : FF := fun f i _ => 41 ≤ f ∧ f ≤ 47 ∧ i = n
theorem nC_fr {σ : St} {s : Int32} {n : Nat} (h : σ.2.2.2 = n) : fr (Fnc n) (up1 σ) (nC σ s) := ⟨fun f i k hn => ⟨by
  subst h
  show (if 41 ≤ f ∧ f ≤ 47 ∧ i = σ.2.2.2 then _ else _) = _
  rw [if_neg hn], rfl, by
  subst h
  show (if 41 ≤ f ∧ f ≤ 47 ∧ i = σ.2.2.2 then none else _) = _
  rw [if_neg hn]⟩, rfl⟩
theorem nC_in {σ : St} {s : Int32} {f k : Nat} (h : 41 ≤ f) (h2 : f ≤ 47) : (nC σ s).1 f σ.2.2.2 k = if f = 41 ∧ k = 0 then s else 0 := by
  show (if 41 ≤ f ∧ f ≤ 47 ∧ σ.2.2.2 = σ.2.2.2 then _ else _) = _
  rw [if_pos ⟨h, h2, rfl⟩]
theorem cnt0 {l : Nat} (h : 1 ≤ l) : ∀ s, cnt (fun _ => 0) l s = 0
  | 0 => rfl
  | s + 1 => by
    simp only [cnt]
    rw [cnt0 h s, if_neg (by omega)]
theorem wa0' {c : Nat → Nat} (h : ∀ l, 1 ≤ l → c l = 0) : ∀ l, wa c l = 0
  | 0 => rfl
  | l + 1 => by
    simp only [wa]
    rw [wa0' h l, h (l + 1) (by omega)]
theorem hvn0 {c : Nat → Nat} (h : ∀ l, 1 ≤ l → c l = 0) : ∀ l, hvn c l = 0
  | 0 => rfl
  | l + 1 => by
    simp only [hvn]
    rw [hvn0 h l, h (l + 1) (by omega)]
theorem gre0 {c : Nat → Nat} (h : ∀ l, 1 ≤ l → c l = 0) : ∀ l, gre c l = 0
  | 0 => rfl
  | l + 1 => by
    simp only [gre]
    rw [gre0 h l, h (l + 1) (by omega), if_neg (by omega)]
theorem sumL0 {g c : Nat → Nat} (h : ∀ l, 1 ≤ l → c l = 0) : ∀ l, sumL g c l = 0
  | 0 => rfl
  | l + 1 => by
    simp only [sumL]
    rw [sumL0 h l, h (l + 1) (by omega), Nat.zero_mul]
theorem CK_new {σ : St} {s : Nat} (hs6 : s ≤ 64) : CK (nC σ (nI s)) σ.2.2.2 s (fun _ => 0) := by
  have hc : ∀ l, 1 ≤ l → (fun m => cnt (fun _ => 0) m s) l = 0 := fun l hl => cnt0 hl s
  refine ⟨⟨?_, hs6, fun k hk => ⟨?_, Nat.zero_le _⟩⟩, fun l hl h15 => ⟨?_, ?_, ?_⟩, fun k hk h1 => absurd h1 (Nat.not_succ_le_zero 0), ?_, ?_, ?_, ?_⟩
  · rw [nC_in (by omega) (by omega), if_pos ⟨rfl, rfl⟩]
  · rw [nC_in (by omega) (by omega), if_neg (by omega)]
    rfl
  · rw [nC_in (by omega) (by omega), if_neg (by omega), cnt0 hl s]
    rfl
  · rw [nC_in (by omega) (by omega), if_neg (by omega), wa0' hc]
    rfl
  · rw [nC_in (by omega) (by omega), if_neg (by omega), hvn0 hc]
    rfl
  · rw [nC_in (by omega) (by omega), if_neg (by omega)]
    unfold fil
    rw [sumL0 hc]
    rfl
  · rw [nC_in (by omega) (by omega), if_neg (by omega), hvn0 hc]
    rfl
  · rw [nC_in (by omega) (by omega), if_neg (by omega), gre0 hc]
    rfl
  · rw [nC_in (by omega) (by omega), if_neg (by omega)]
    unfold knd
    rw [if_pos (hvn0 hc 15)]
    rfl
theorem s_keep {σ : St} {n j : Nat} (h : σ.1 0 0 1 = nI n) (hn : n < 12) : ok (f_PC_keep σ j) (fun o => o.2 = nI n ∧ o.1.1 0 0 1 = nI (n + 1) ∧ o.1.2.2.1 1 0 n = some j ∧ fr (fun f _ k => (f = 1 ∧ k = n) ∨ (f = 0 ∧ k = 1)) σ o.1) := by
  unfold f_PC_keep
  rw [h, nI_cl (show n < 2 ^ 31 by omega)]
  refine ok_t (nI_lt (b := 12) hn (by omega)) (ok_gd (nI_ib (by omega) (by omega)) (ok_nm (fun σ1 e1 => ?_)))
  have h1 : σ1.1 0 0 1 = nI n := by rw [e1]; exact h
  rw [h1, nI_1]
  refine ok_nm (fun σ2 e2 => ok_some ⟨?_, ?_, ?_, ?_⟩)
  · show σ2.1 0 0 1 - 1 = nI n
    rw [e2, sI_at, nI_pred]
  · show σ2.1 0 0 1 = _
    rw [e2, sI_at]
  · show σ2.2.2.1 1 0 n = _
    rw [e2, sI_R, e1, sR_R, if_pos ⟨rfl, rfl, rfl⟩]
  · show fr _ σ σ2
    rw [e2, e1]
    exact (fr_sR (by omega)).tr (fr_sI (by omega))
theorem IC_more {σ ρ σ' : St} {n n' : Nat} {S S' : Nat → Nat} {LL LL' : Nat → Nat → Nat} {F : FF} (h : IC σ n S LL) (hr : ρ.1 = σ.1 ∧ ρ.2.1 = σ.2.1 ∧ ρ.2.2.1 = σ.2.2.1) (hf : fr F ρ σ') (hd : ∀ f i k, F f i k → ¬ ((f = 1 ∧ k < n) ∨ (41 ≤ f ∧ f ≤ 47 ∧ i < n) ∨ (f = 49 ∧ k < n) ∨ (f = 50 ∧ k < 64 * n))) (h12 : n' ≤ 12) (e1 : σ'.2.2.2 = n') (e2 : σ'.1 0 0 1 = nI n') (e3 : σ'.1 48 0 1 = nI n') (hS : ∀ j, j < n → S' j = S j ∧ LL' j = LL j) (hnew : ∀ j, n ≤ j → j < n' → σ'.2.2.1 1 0 j = some j ∧ 1 ≤ S' j ∧ CK σ' j (S' j) (LL' j) ∧ LR σ' j (S' j) (LL' j)) : IC σ' n' S' LL' := by
  refine ⟨h12, e1, e2, e3, fun j hj => ?_⟩
  rcases Nat.lt_or_ge j n with y | y
  · obtain ⟨a1, a2, a3, a4⟩ := h.2.2.2.2 j y
    obtain ⟨s1, s2⟩ := hS j y
    have h64 := a4.2.1
    rw [s1, s2]
    refine ⟨?_, a2, a3.go (fun f u v => ?_), a4.go1 ?_ (fun k hk => ?_)⟩
    · rw [(hf.1 1 0 j (fun z => hd _ _ _ z (by omega))).2.2, hr.2.2]
      exact a1
    · rw [hf.fi (fun k z => hd _ _ _ z (by omega)), hr.1]
    · rw [hf.i (fun z => hd _ _ _ z (by omega)), hr.1]
    · rw [hf.i (fun z => hd _ _ _ z (by omega)), hr.1]
  · exact hnew j y hj
/-- the other parts, over a new code -/
theorem IV_more {σ ρ σ' : St} {n n' : Nat} {S S' : Nat → Nat} {LL LL' : Nat → Nat → Nat} {B B' : List Bool} {m : Nat} {T : Nat → Nat} {F : FF} (h : IV σ n S LL B m T) (hr : ρ = up1 σ) (hf : fr F ρ σ') (hd : ∀ f i k, F f i k → ¬ (sMI f i k ∨ sCT f i k ∨ sTT f i k ∨ sTX f i k ∨ sCH f i k)) (hS : SS σ' B') (hI : IC σ' n' S' LL') (hn : n ≤ n') (hSS : ∀ j, j < n → S' j = S j) : IV σ' n' S' LL' B' m T := by
  subst hr
  obtain ⟨h1, h2, h3, h4, h5, h6, h7⟩ := h
  have g2 : MI (up1 σ) := h2
  have g3 : CT (up1 σ) := h3
  have g5 : TT (up1 σ) := h5
  have g6 : TX (up1 σ) m T := h6
  have g7 : CH (up1 σ) n S := h7
  exact ⟨hI, g2.fr hf (fun f i k z y => hd f i k z (Or.inl y)), g3.fr hf (fun f i k z y => hd f i k z (Or.inr (Or.inl y))), hS, g5.fr hf (fun f i k z y => hd f i k z (Or.inr (Or.inr (Or.inl y)))), g6.fr hf (fun f i k z y => hd f i k z (Or.inr (Or.inr (Or.inr (Or.inl y))))), g7.fr hf (fun f i k z y => hd f i k z (Or.inr (Or.inr (Or.inr (Or.inr y))))) hn hSS⟩
/-! code -/
noncomputable def f_PC_code (σ : St) (a1 : Int32) : Option (St × Int32) :=
  b2 (f_PC_isOutside σ a1 1 64) fun σ1 x2 =>
  if x2 = 0 then
    if (σ1.1 0 0 1) < 12 then
      gd (σ1.2.2.2 < 12) <|
      nm (σ1.2.2.2) fun j3 =>
      nm (nC σ1 a1) fun σ4 =>
      b2 (f_PC_keep σ4 j3) fun σ5 x6 =>
      some (σ5, x6)
    else
    some (σ1, (-106))
  else
  some (σ1, (-102))
theorem n12 {n : Nat} (hn : n ≤ 12) (h : ¬ nI n < 12) : n = 12 := by
  rcases Nat.lt_or_ge n 12 with y | y
  · exact absurd (nI_lt (b := 12) y (by omega)) h
  · omega
theorem j_code {σ : St} (h : II σ) (a1 : Int32) : JJ (f_PC_code σ a1) (fun σ1 => f_Mo_code σ1 a1) := by
  have h0 := h
  obtain ⟨n, S, LL, B, m, T, h⟩ := h
  have hI := h.1
  have hn := hI.1
  have h4 := hI.2.2.2.1
  by_cases z1 : a1 < 1
  · refine J_eq (r := -102) h0 ?_ ?_
    · unfold f_PC_code
      exact ok_b2e (isOut (Or.inl z1)) (ok_f (by decide) (ok_some rfl))
    · show ok (f_Mo_code σ a1) _
      unfold f_Mo_code
      exact ok_t z1 (ok_some rfl)
  by_cases z2 : a1 ≤ 64
  rotate_left
  · refine J_eq (r := -102) h0 ?_ ?_
    · unfold f_PC_code
      exact ok_b2e (isOut (Or.inr z2)) (ok_f (by decide) (ok_some rfl))
    · show ok (f_Mo_code σ a1) _
      unfold f_Mo_code
      exact ok_f z1 (ok_f z2 (ok_some rfl))
  obtain ⟨s, s0, s1, rfl⟩ := ge1 z1
  have s6 := (nI_leI (b := 64) s0 (by omega)).mp z2
  by_cases d : nI n < 12
  rotate_left
  · have d' := n12 hn d
    refine J_eq (r := -106) h0 ?_ ?_
    · unfold f_PC_code
      exact ok_b2e (isIn z1 z2) (ok_t rfl (ok_f (by rw [hI.2.2.1]; exact d) (ok_some rfl)))
    · show ok (f_Mo_code σ (nI s)) _
      unfold f_Mo_code
      exact ok_f z1 (ok_t z2 (ok_t (by rw [h4, d']; rfl) (ok_some rfl)))
  have d' := (nI_ltI (b := 12) (by omega) (by omega)).mp d
  unfold f_PC_code
  refine ok_b2e (isIn z1 z2) (ok_t rfl (ok_t (by rw [hI.2.2.1]; exact d) (ok_gd (by rw [hI.2.1]; exact d') (ok_nm (fun j3 ej => ok_nm (fun σ3 e3 => ?_))))))
  subst ej
  have f3 : fr (Fnc n) (up1 σ) σ3 := by rw [e3]; exact nC_fr hI.2.1
  refine ok_b2 (s_keep (σ := σ3) (n := n) (by rw [f3.i (by omega)]; exact hI.2.2.1) d') (fun σ4 x5 u => ok_some ?_)
  obtain ⟨u1, u2, u3, u4⟩ := u
  dsimp only at u1 u2 u3 u4
  subst u1
  show ok (f_Mo_code σ4 (nI s)) (fun o2 => nI n = o2.2 ∧ II o2.1)
  have e48 : σ4.1 48 0 1 = nI n := by
    rw [u4.i (by omega), f3.i (by omega)]
    exact h4
  unfold f_Mo_code
  refine ok_f z1 (ok_t z2 (ok_f (by rw [e48]; exact fun z => absurd ((nI_eq (b := 12) (by omega) (by omega)).mp z) (by omega)) (ok_b2 (s_moMade d' s6 e48) (fun σ1 x2 v => ok_some ?_))))
  obtain ⟨v1, v2, v3, v4⟩ := v
  dsimp only at v1 v2 v3 v4
  refine ⟨v1.symm, ?_⟩
  have hcn := hI.2.1
  have ff := (f3.un u4).un v4
  refine (IV_more (n' := n + 1) (S' := fun j => if j = n then s else S j) (LL' := fun j => if j = n then (fun _ => 0) else LL j) (B' := B) h rfl ff (fun f i k z => by omega) ((show SS (up1 σ) B from h.2.2.2.1).fr ff (fun f i k z => by omega)) (IC_more (ρ := up1 σ) hI ⟨rfl, rfl, rfl⟩ ff (fun f i k z => by omega) (by omega) ?_ ?_ v2 (fun j hj => ?_) (fun j j1 j2 => ?_)) (by omega) (fun j hj => ?_)).ii
  · show σ1.2.2.2 = n + 1
    rw [ff.2]
    show σ.2.2.2 + 1 = n + 1
    rw [hcn]
  · show σ1.1 0 0 1 = nI (n + 1)
    rw [v4.i (by omega)]
    exact u2
  · skip
    rw [if_neg (by omega), if_neg (by omega)]
    exact ⟨rfl, rfl⟩
  · have hj : j = n := by omega
    subst hj
    rw [if_pos rfl, if_pos rfl]
    refine ⟨?_, s1, ?_, v3⟩
    · rw [v4.ri (fun _ => by omega), u3, hcn]
    · have ck : CK σ3 j s (fun _ => 0) := by
        rw [e3, ← hcn]
        exact CK_new s6
      exact (ck.go (fun f u v => u4.fi (fun _ => by omega))).go (fun f u v => v4.fi (fun _ => by omega))
  · skip
    rw [if_neg (by omega)]
/-! least -/
noncomputable def f_PC_least (σ : St) (a1 : Int32) (a2 : Int32) : Option (St × Int32) :=
  b2 (f_PC_isOutside σ a1 1 64) fun σ1 x2 =>
  if x2 = 0 then
    b2 (f_PC_isOutside σ1 a2 1 15) fun σ3 x4 =>
    if x4 = 0 then
      b2 (f_PC_countedBelow σ3 a1) fun σ5 x6 =>
      if x6 ≤ (1 <<< (a2 &&& 31)) then
        if (σ5.1 0 0 1) < 12 then
          gd (σ5.2.2.2 < 12) <|
          nm (σ5.2.2.2) fun j7 =>
          nm (nC σ5 a1) fun σ8 =>
          b1 (f_Packages_fit σ8 2 0 64 a2 j7) fun σ9 =>
          b2 (f_PC_keep σ9 j7) fun σ10 x11 =>
          some (σ10, x11)
        else
        some (σ5, (-106))
      else
      some (σ5, (-103))
    else
    some (σ3, (-102))
  else
  some (σ1, (-102))
theorem s_least63 {σ : St} {s : Nat} {g : Nat → Int32} {a2 x4 : Int32} (hs6 : s ≤ 64) (hg : ∀ k, k < s → σ.1 51 0 k = g k) : ok (lpE (fun q => lb_Mo_least_63 (nI s) a2 x4 q.1 q.2) (σ, 0)) (fun q => (∀ k, k < s → q.1.1 56 0 k = g k) ∧ fr (Ffi 56 0) σ q.1) := by
  refine ok_up s (fun k q => q.2 = nI k ∧ (∀ i, i < k → q.1.1 56 0 i = g i) ∧ fr (Ffi 56 0) σ q.1) ?_ ?_ 0 _ (Nat.zero_le _) ⟨rfl, fun i hi => absurd hi (by omega), fr.rf⟩
  · rintro k ⟨σ2, x⟩ hk ⟨rfl, q1, q2⟩
    dsimp only at q1 q2 ⊢
    unfold lb_Mo_least_63
    rw [nI_cl (show k < 2 ^ 31 by omega), show σ2.1 51 0 k = g k by rw [q2.i (by omega)]; exact hg k hk]
    refine ok_f (nI_ge hk (by omega)) (ok_gd (nI_ib (by omega) (by omega)) (ok_gd (nI_ib (by omega) (by omega)) (ok_nm (fun σ3 e3 => ok_nm (fun x4 e4 => ok_some ⟨by dsimp only; rw [e4, nI_1], fun i hi => ?_, ?_⟩)))))
    · dsimp only
      rw [e3]
      by_cases y : i = k
      · subst y
        rw [sI_at]
      · rw [sI_k y]
        exact q1 i (by omega)
    · rw [e3]
      exact q2.tr (fr_sI ⟨rfl, rfl⟩)
  · rintro ⟨σ2, x⟩ ⟨rfl, q1, q2⟩
    unfold lb_Mo_least_63
    exact ok_t (nI_le (Nat.le_refl _) (by omega)) (ok_some ⟨q1, q2⟩)
theorem j_least {σ : St} (h : II σ) (a1 a2 : Int32) : JJ (f_PC_least σ a1 a2) (fun σ1 => f_Mo_least σ1 a1 a2) := by
  have h0 := h
  obtain ⟨n, S, LL, B, m, T, h⟩ := h
  have hI := h.1
  have hn := hI.1
  have h4 := hI.2.2.2.1
  have hCT := h.2.2.1
  have hout : (a1 < 1 ∨ ¬ a1 ≤ 64 ∨ a2 < 1 ∨ ¬ a2 ≤ 15) → JJ (f_PC_least σ a1 a2) (fun σ1 => f_Mo_least σ1 a1 a2) := fun hz => J_eq (r := -102) h0 (by
    unfold f_PC_least
    by_cases z1 : a1 < 1 ∨ ¬ a1 ≤ 64
    · exact ok_b2e (isOut z1) (ok_f (by decide) (ok_some rfl))
    · have z2 : a2 < 1 ∨ ¬ a2 ≤ 15 := by
        rcases hz with z | z | z
        · exact absurd (Or.inl z) z1
        · exact absurd (Or.inr z) z1
        · exact z
      exact ok_b2e (isIn (fun y => z1 (Or.inl y)) (Decidable.of_not_not (fun y => z1 (Or.inr y)))) (ok_t rfl (ok_b2e (isOut z2) (ok_f (by decide) (ok_some rfl))))) (by
    show ok (f_Mo_least σ a1 a2) _
    unfold f_Mo_least
    refine ok_if (fun _ => ok_some rfl) (fun z1 => ok_if (fun _ => ok_some rfl) (fun z2 => ok_if (fun _ => ok_some rfl) (fun z3 => ok_f ?_ (ok_some rfl))))
    rcases hz with z | z | z | z
    · exact absurd z z1
    · exact absurd (Int32.not_le.mp z) z2
    · exact absurd z z3
    · exact z)
  by_cases z1 : a1 < 1
  · exact hout (Or.inl z1)
  by_cases z2 : a1 ≤ 64
  rotate_left
  · exact hout (Or.inr (Or.inl z2))
  by_cases z3 : a2 < 1
  · exact hout (Or.inr (Or.inr (Or.inl z3)))
  by_cases z4 : a2 ≤ 15
  rotate_left
  · exact hout (Or.inr (Or.inr (Or.inr z4)))
  obtain ⟨s, s0, s1, rfl⟩ := ge1 z1
  have s6 := (nI_leI (b := 64) s0 (by omega)).mp z2
  obtain ⟨l, l0, l1, rfl⟩ := ge1 z3
  have l6 := (nI_leI (b := 15) l0 (by omega)).mp z4
  have hp2 := Nat.two_pow_pos l
  have hpl : 2 ^ l ≤ 2 ^ 15 := Nat.pow_le_pow_right (by omega) l6
  have hom := ordm_le (σ.1 2 0) s
  have cB : ok (f_PC_countedBelow σ (nI s)) (fun o => o = (σ, nI (ordm (σ.1 2 0) s))) := e_countedBelow (g := σ.1 2 0) s6 (fun _ _ => rfl)
  have hnl : ¬ (64 : Int32) < nI s := nI_nlt (a := 64) s6 (by omega)
  by_cases dw : ordm (σ.1 2 0) s ≤ 2 ^ l
  rotate_left
  · refine J_eq (r := -103) h0 ?_ ?_
    · unfold f_PC_least
      refine ok_b2e (isIn z1 z2) (ok_t rfl (ok_b2e (isIn z3 z4) (ok_t rfl (ok_b2 cB (fun σ5 x6 h5 => ?_)))))
      cases h5
      rw [shl_1 (show l < 31 by omega)]
      exact ok_f (nI_ge (by omega) (by omega)) (ok_some rfl)
    · show ok (f_Mo_least σ (nI s) (nI l)) _
      unfold f_Mo_least
      refine ok_f z1 (ok_f hnl (ok_f z3 (ok_t z4 (ok_b2 (e_moDifferent (g := σ.1 2 0) s6 (by omega) (fun k hk => (hCT k (by omega)).symm)) (fun σ5 x6 h5 => ?_)))))
      cases h5
      rw [shl_1 (show l < 31 by omega)]
      exact ok_f (nI_ge (by omega) (by omega)) (ok_some rfl)
  by_cases d : nI n < 12
  rotate_left
  · have d' := n12 hn d
    refine J_eq (r := -106) h0 ?_ ?_
    · unfold f_PC_least
      refine ok_b2e (isIn z1 z2) (ok_t rfl (ok_b2e (isIn z3 z4) (ok_t rfl (ok_b2 cB (fun σ5 x6 h5 => ?_)))))
      cases h5
      rw [shl_1 (show l < 31 by omega)]
      exact ok_t (nI_le dw (by omega)) (ok_f (by rw [hI.2.2.1]; exact d) (ok_some rfl))
    · show ok (f_Mo_least σ (nI s) (nI l)) _
      unfold f_Mo_least
      refine ok_f z1 (ok_f hnl (ok_f z3 (ok_t z4 (ok_b2 (e_moDifferent (g := σ.1 2 0) s6 (by omega) (fun k hk => (hCT k (by omega)).symm)) (fun σ5 x6 h5 => ?_)))))
      cases h5
      rw [shl_1 (show l < 31 by omega)]
      exact ok_t (nI_le dw (by omega)) (ok_t (by rw [h4, d']; rfl) (ok_some rfl))
  have d' := (nI_ltI (b := 12) (by omega) (by omega)).mp d
  have hcn := hI.2.1
  unfold f_PC_least
  refine ok_b2e (isIn z1 z2) (ok_t rfl (ok_b2e (isIn z3 z4) (ok_t rfl (ok_b2 cB (fun σ5 x6 h5 => ?_)))))
  cases h5
  rw [shl_1 (show l < 31 by omega)]
  refine ok_t (nI_le dw (by omega)) (ok_t (by rw [hI.2.2.1]; exact d) (ok_gd (by rw [hcn]; exact d') (ok_nm (fun j7 ej => ok_nm (fun σ7 e7 => ?_)))))
  subst ej
  have f7 : fr (Fnc n) (up1 σ) σ7 := by rw [e7]; exact nC_fr hcn
  have hM7 : MI σ7 := (show MI (up1 σ) from h.2.1).fr f7 (fun f i k z => by omega)
  have h41 : σ7.1 41 σ.2.2.2 0 = nI s := by
    rw [e7]
    exact (CK_new s6).1.1
  refine ok_b1 (s_fit (g := σ.1 2 0) hM7.2 h41 s6 (by omega) (Or.inr rfl) (fun k hk => f7.i (by omega)) l1 l6 dw) (fun σ8 h8 => ?_)
  obtain ⟨p1, p2⟩ := h8
  refine ok_b2 (s_keep (σ := σ8) (n := n) (by rw [p2.i (by omega), f7.i (by omega)]; exact hI.2.2.1) d') (fun σ4 x5 u => ok_some ?_)
  obtain ⟨u1, u2, u3, u4⟩ := u
  dsimp only at u1 u2 u3 u4
  subst u1
  show ok (f_Mo_least σ4 (nI s) (nI l)) (fun o2 => nI n = o2.2 ∧ II o2.1)
  have fa := (f7.un p2).un u4
  have e48 : σ4.1 48 0 1 = nI n := by
    rw [fa.i (by omega)]
    exact h4
  have h51 : ∀ k, k < s → σ4.1 51 0 k = σ.1 2 0 k := fun k hk => by
    rw [fa.i (by omega)]
    exact (hCT k (by omega)).symm
  unfold f_Mo_least
  refine ok_f z1 (ok_f hnl (ok_f z3 (ok_t z4 (ok_b2 (e_moDifferent (g := σ.1 2 0) s6 (by omega) h51) (fun σ5 x6 h5 => ?_)))))
  cases h5
  rw [shl_1 (show l < 31 by omega)]
  refine ok_t (nI_le dw (by omega)) (ok_f (by rw [e48]; exact fun z => absurd ((nI_eq (b := 12) (by omega) (by omega)).mp z) (by omega)) (ok_b2 (s_moMade d' s6 e48) (fun σ3 x4 v => ?_)))
  obtain ⟨v1, v2, v3, v4⟩ := v
  dsimp only at v1 v2 v3 v4
  subst v1
  refine ok_b2 (s_least63 (g := σ.1 2 0) s6 (fun k hk => by rw [v4.i (by omega)]; exact h51 k hk)) (fun σ6 x7 w => ?_)
  obtain ⟨w1, w2⟩ := w
  dsimp only at w1 w2
  refine ok_b1 (s_moPackages (by omega) w1 s6 l1 l6 dw) (fun σ9 h9 => ok_some ⟨rfl, ?_⟩)
  obtain ⟨q1, q2⟩ := h9
  have ff := ((fa.un v4).un w2).un q2
  refine (IV_more (n' := n + 1) (S' := fun j => if j = n then s else S j) (LL' := fun j => if j = n then pkL (σ.1 2 0) s l else LL j) (B' := B) h rfl ff (fun f i k z => by omega) ((show SS (up1 σ) B from h.2.2.2.1).fr ff (fun f i k z => by omega)) (IC_more (ρ := up1 σ) hI ⟨rfl, rfl, rfl⟩ ff (fun f i k z => by omega) (by omega) ?_ ?_ ?_ (fun j hj => ?_) (fun j j1 j2 => ?_)) (by omega) (fun j hj => ?_)).ii
  · show σ9.2.2.2 = n + 1
    rw [ff.2]
    show σ.2.2.2 + 1 = n + 1
    rw [hcn]
  · show σ9.1 0 0 1 = nI (n + 1)
    rw [q2.i (by omega), w2.i (by omega), v4.i (by omega)]
    exact u2
  · show σ9.1 48 0 1 = nI (n + 1)
    rw [q2.i (by omega), w2.i (by omega)]
    exact v2
  · skip
    rw [if_neg (by omega), if_neg (by omega)]
    exact ⟨rfl, rfl⟩
  · have hj : j = n := by omega
    subst hj
    rw [if_pos rfl, if_pos rfl]
    refine ⟨?_, s1, ?_, ?_⟩
    · rw [q2.ri (fun _ => by omega), w2.ri (fun _ => by omega), v4.ri (fun _ => by omega), u3, hcn]
    · rw [hcn] at p1
      exact (((p1.go (fun f u v => u4.fi (fun _ => by omega))).go (fun f u v => v4.fi (fun _ => by omega))).go (fun f u v => w2.fi (fun _ => by omega))).go (fun f u v => q2.fi (fun _ => by omega))
    · refine ⟨?_, s6, by omega, q1⟩
      rw [q2.i (by omega), w2.i (by omega)]
      exact v3.1
  · skip
    rw [if_neg (by omega)]
