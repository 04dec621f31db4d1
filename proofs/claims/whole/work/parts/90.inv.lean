/-! ===== the relation of both halves of the store ===== -/
abbrev FF : Type := Nat → Nat → Nat → Prop
theorem fr.un {F1 F2 : FF} {σ σ1 σ2 : St} (h1 : fr F1 σ σ1) (h2 : fr F2 σ1 σ2) : fr (fun f i k => F1 f i k ∨ F2 f i k) σ σ2 := (h1.mono (fun _ _ _ z => Or.inl z)).tr (h2.mono (fun _ _ _ z => Or.inr z))
def IC (σ : St) (n : Nat) (S : Nat → Nat) (LL : Nat → Nat → Nat) : Prop := n ≤ 12 ∧ σ.2.2.2 = n ∧ σ.1 0 0 1 = nI n ∧ σ.1 48 0 1 = nI n ∧ ∀ j, j < n → σ.2.2.1 1 0 j = some j ∧ 1 ≤ S j ∧ CK σ j (S j) (LL j) ∧ LR σ j (S j) (LL j)
abbrev sIC : FF := fun f i k => (f = 0 ∧ k = 1) ∨ f = 1 ∨ (41 ≤ f ∧ f ≤ 47 ∧ i < 12) ∨ (f = 48 ∧ k = 1) ∨ (f = 49 ∧ k < 12) ∨ (f = 50 ∧ k < 768)
theorem IC.fr {σ σ1 : St} {n : Nat} {S : Nat → Nat} {LL : Nat → Nat → Nat} {F : FF} (h : IC σ n S LL) (hf : fr F σ σ1) (hd : ∀ f i k, F f i k → ¬ sIC f i k) : IC σ1 n S LL := by
  obtain ⟨h1, h2, h3, h4, h5⟩ := h
  refine ⟨h1, hf.2.trans h2, ?_, ?_, fun j hj => ?_⟩
  · rw [hf.i (fun z => hd _ _ _ z (by omega))]
    exact h3
  · rw [hf.i (fun z => hd _ _ _ z (by omega))]
    exact h4
  · obtain ⟨a1, a2, a3, a4⟩ := h5 j hj
    have hs := a4.2.1
    refine ⟨?_, a2, a3.go (fun f u v => hf.fi (fun k z => hd _ _ _ z (by omega))), a4.go1 (hf.i (fun z => hd _ _ _ z (by omega))) (fun k hk => hf.i (fun z => hd _ _ _ z (by omega)))⟩
    rw [hf.ri (fun k z => hd _ _ _ z (by omega))]
    exact a1
def MI (σ : St) : Prop := σ.1 41 12 0 = nI 19 ∧ PKs σ
abbrev sMI : FF := fun f i k => (f = 41 ∧ i = 12 ∧ k = 0) ∨ f = 8 ∨ f = 11
theorem MI.fr {σ σ1 : St} {F : FF} (h : MI σ) (hf : fr F σ σ1) (hd : ∀ f i k, F f i k → ¬ sMI f i k) : MI σ1 := ⟨(hf.i (fun z => hd _ _ _ z (by omega))).trans h.1, h.2.go (hf.ri (fun _ z => hd _ _ _ z (by omega))) (hf.ri (fun _ z => hd _ _ _ z (by omega)))⟩
def CT (σ : St) : Prop := ∀ k, k < 64 → σ.1 2 0 k = σ.1 51 0 k
abbrev sCT : FF := fun f _ _ => f = 2 ∨ f = 51
theorem CT.fr {σ σ1 : St} {F : FF} (h : CT σ) (hf : fr F σ σ1) (hd : ∀ f i k, F f i k → ¬ sCT f i k) : CT σ1 := fun k hk => by
  rw [hf.i (fun z => hd _ _ _ z (by omega)), hf.i (fun z => hd _ _ _ z (by omega))]
  exact h k hk
def SS (σ : St) (B : List Bool) : Prop := (∃ h, SB σ h B) ∧ SR σ B
abbrev sSS : FF := fun f _ k => f = 3 ∨ f = 4 ∨ (f = 48 ∧ (k = 11 ∨ k = 12)) ∨ f = 57
theorem SR.fr {σ σ1 : St} {B : List Bool} {F : FF} (h : SR σ B) (hf : fr F σ σ1) (hd : ∀ f i k, F f i k → ¬ ((f = 48 ∧ (k = 11 ∨ k = 12)) ∨ f = 57)) : SR σ1 B := h.go (hf.i (fun z => hd _ _ _ z (by omega))) (hf.i (fun z => hd _ _ _ z (by omega))) (hf.fi (fun _ z => hd _ _ _ z (by omega)))
theorem SB.fr {σ σ1 : St} {h0 : Nat} {B : List Bool} {F : FF} (h : SB σ h0 B) (hf : fr F σ σ1) (hd : ∀ f i k, F f i k → ¬ (f = 3 ∨ f = 4)) : SB σ1 h0 B := h.go (hf.fi (fun _ z => hd _ _ _ z (by omega))) (hf.fi (fun _ z => hd _ _ _ z (by omega)))
theorem SS.fr {σ σ1 : St} {B : List Bool} {F : FF} (h : SS σ B) (hf : fr F σ σ1) (hd : ∀ f i k, F f i k → ¬ sSS f i k) : SS σ1 B := by
  obtain ⟨⟨h0, h1⟩, h2⟩ := h
  exact ⟨⟨h0, h1.fr hf (fun f i k z y => hd f i k z (by omega))⟩, h2.fr hf (fun f i k z y => hd f i k z (by omega))⟩
abbrev sTT : FF := fun f _ k => (19 ≤ f ∧ f ≤ 25) ∨ (f = 48 ∧ k = 20) ∨ (61 ≤ f ∧ f ≤ 63)
theorem TT.fr {σ σ1 : St} {F : FF} (h : TT σ) (hf : fr F σ σ1) (hd : ∀ f i k, F f i k → ¬ sTT f i k) : TT σ1 := by
  rcases h with ⟨h1, h2⟩ | ⟨L, s, r, h1, h2, h3⟩
  · refine Or.inl ⟨?_, ?_⟩
    · rw [hf.i (fun z => hd _ _ _ z (by omega))]
      exact h1
    · rw [hf.i (fun z => hd _ _ _ z (by omega))]
      exact h2
  · exact Or.inr ⟨L, s, r, h1.go (fun f u v => hf.fi (fun _ z => hd _ _ _ z (by omega))), h2.go (hf.i (fun z => hd _ _ _ z (by omega))) (hf.fi (fun _ z => hd _ _ _ z (by omega))) (hf.fi (fun _ z => hd _ _ _ z (by omega))) (hf.fi (fun _ z => hd _ _ _ z (by omega))), h3⟩
def TX (σ : St) (m : Nat) (T : Nat → Nat) : Prop := TXc σ m T ∧ TXr σ m T
abbrev sTX : FF := fun f _ k => (f = 26 ∧ k = 1) ∨ f = 27 ∨ (f = 48 ∧ k = 22) ∨ f = 64
theorem TX.fr {σ σ1 : St} {m : Nat} {T : Nat → Nat} {F : FF} (h : TX σ m T) (hf : fr F σ σ1) (hd : ∀ f i k, F f i k → ¬ sTX f i k) : TX σ1 m T := ⟨h.1.go (hf.i (fun z => hd _ _ _ z (by omega))) (hf.fi (fun _ z => hd _ _ _ z (by omega))), h.2.go (hf.i (fun z => hd _ _ _ z (by omega))) (hf.fi (fun _ z => hd _ _ _ z (by omega)))⟩
def CH (σ : St) (n : Nat) (S : Nat → Nat) : Prop := (σ.1 30 0 3 = nI 0 ∧ σ.1 48 0 23 = -1) ∨ ∃ m U t G q T gc, chN m U t G T ∧ 1 ≤ G ∧ chC σ m U t G T ∧ gcC σ G gc ∧ chR σ m U t G q T ∧ gcR σ G gc ∧ (∀ g, g < G → gc g < t) ∧ q + t ≤ n ∧ ∀ c, c < t → S (q + c) = 64 ∧ σ.2.2.1 33 0 c = some (q + c)
abbrev sCH : FF := fun f _ k => f = 30 ∨ f = 31 ∨ f = 32 ∨ f = 33 ∨ (f = 48 ∧ 23 ≤ k ∧ k ≤ 29) ∨ f = 65 ∨ f = 66
theorem CH.fr {σ σ1 : St} {n n' : Nat} {S S' : Nat → Nat} {F : FF} (h : CH σ n S) (hf : fr F σ σ1) (hd : ∀ f i k, F f i k → ¬ sCH f i k) (hn : n ≤ n') (hS : ∀ j, j < n → S' j = S j) : CH σ1 n' S' := by
  rcases h with ⟨h1, h2⟩ | ⟨m, U, t, G, q, T, gc, h1, h2, h3, h4, h5, h6, h7, h8, h9⟩
  · refine Or.inl ⟨?_, ?_⟩
    · rw [hf.i (fun z => hd _ _ _ z (by omega))]
      exact h1
    · rw [hf.i (fun z => hd _ _ _ z (by omega))]
      exact h2
  · refine Or.inr ⟨m, U, t, G, q, T, gc, h1, h2, h3.go (hf.fi (fun _ z => hd _ _ _ z (by omega))) (hf.fi (fun _ z => hd _ _ _ z (by omega))), fun g hg => ?_, h5.go (fun _ _ _ => hf.i (fun z => hd _ _ _ z (by omega))) (hf.fi (fun _ z => hd _ _ _ z (by omega))), fun g hg => ?_, h7, by omega, fun c hc => ⟨?_, ?_⟩⟩
    · rw [hf.i (fun z => hd _ _ _ z (by omega))]
      exact h4 g hg
    · rw [hf.i (fun z => hd _ _ _ z (by omega))]
      exact h6 g hg
    · rw [hS _ (by omega)]
      exact (h9 c hc).1
    · rw [hf.ri (fun _ z => hd _ _ _ z (by omega))]
      exact (h9 c hc).2
def IV (σ : St) (n : Nat) (S : Nat → Nat) (LL : Nat → Nat → Nat) (B : List Bool) (m : Nat) (T : Nat → Nat) : Prop := IC σ n S LL ∧ MI σ ∧ CT σ ∧ SS σ B ∧ TT σ ∧ TX σ m T ∧ CH σ n S
def II (σ : St) : Prop := ∃ n S LL B m T, IV σ n S LL B m T
abbrev JJ (x : Option (St × Int32)) (k : St → Option (St × Int32)) : Prop := ok x (fun o1 => ok (k o1.1) (fun o2 => o1.2 = o2.2 ∧ II o2.1))
theorem IV.ii {σ : St} {n : Nat} {S : Nat → Nat} {LL : Nat → Nat → Nat} {B : List Bool} {m : Nat} {T : Nat → Nat} (h : IV σ n S LL B m T) : II σ := ⟨n, S, LL, B, m, T, h⟩
theorem IV.sc {σ σ1 : St} {n : Nat} {S : Nat → Nat} {LL : Nat → Nat → Nat} {B : List Bool} {m : Nat} {T : Nat → Nat} {F : FF} (h : IV σ n S LL B m T) (hf : fr F σ σ1) (hd : ∀ f i k, F f i k → ¬ (sIC f i k ∨ sMI f i k ∨ sCT f i k ∨ sSS f i k ∨ sTT f i k ∨ sTX f i k ∨ sCH f i k)) : IV σ1 n S LL B m T := by
  obtain ⟨h1, h2, h3, h4, h5, h6, h7⟩ := h
  exact ⟨h1.fr hf (fun f i k z y => hd f i k z (Or.inl y)), h2.fr hf (fun f i k z y => hd f i k z (Or.inr (Or.inl y))), h3.fr hf (fun f i k z y => hd f i k z (Or.inr (Or.inr (Or.inl y)))), h4.fr hf (fun f i k z y => hd f i k z (Or.inr (Or.inr (Or.inr (Or.inl y))))), h5.fr hf (fun f i k z y => hd f i k z (Or.inr (Or.inr (Or.inr (Or.inr (Or.inl y)))))), h6.fr hf (fun f i k z y => hd f i k z (Or.inr (Or.inr (Or.inr (Or.inr (Or.inr (Or.inl y))))))), h7.fr hf (fun f i k z y => hd f i k z (Or.inr (Or.inr (Or.inr (Or.inr (Or.inr (Or.inr y))))))) (Nat.le_refl _) (fun _ _ => rfl)⟩
theorem IV.ss {σ σ1 : St} {n : Nat} {S : Nat → Nat} {LL : Nat → Nat → Nat} {B B' : List Bool} {m : Nat} {T : Nat → Nat} {F : FF} (h : IV σ n S LL B m T) (hf : fr F σ σ1) (hd : ∀ f i k, F f i k → ¬ (sIC f i k ∨ sMI f i k ∨ sCT f i k ∨ sTT f i k ∨ sTX f i k ∨ sCH f i k)) (hS : SS σ1 B') : IV σ1 n S LL B' m T := by
  obtain ⟨h1, h2, h3, h4, h5, h6, h7⟩ := h
  exact ⟨h1.fr hf (fun f i k z y => hd f i k z (Or.inl y)), h2.fr hf (fun f i k z y => hd f i k z (Or.inr (Or.inl y))), h3.fr hf (fun f i k z y => hd f i k z (Or.inr (Or.inr (Or.inl y)))), hS, h5.fr hf (fun f i k z y => hd f i k z (Or.inr (Or.inr (Or.inr (Or.inl y))))), h6.fr hf (fun f i k z y => hd f i k z (Or.inr (Or.inr (Or.inr (Or.inr (Or.inl y)))))), h7.fr hf (fun f i k z y => hd f i k z (Or.inr (Or.inr (Or.inr (Or.inr (Or.inr y)))))) (Nat.le_refl _) (fun _ _ => rfl)⟩
/-! codeAt, codeWith, has, hasSymbol -/
theorem notIn {x : Int32} {n : Nat} (hn : n < 2 ^ 30) (h : x < 0 ∨ nI n ≤ x) : x < 0 ∨ ¬ x ≤ nI n - 1 := by
  by_cases h0 : x < 0
  · exact Or.inl h0
  · right
    have h1 : nI n ≤ x := h.resolve_left h0
    obtain ⟨j, hj, rfl⟩ := nI_of h0
    have h2 := (nI_leI (by omega) hj).mp h1
    rcases Nat.eq_zero_or_pos n with z | z
    · subst z
      intro y
      have y2 : nI j < 0 := Int32.lt_of_le_of_lt y (by decide)
      exact h0 y2
    · rw [show nI n - 1 = nI (n - 1) from pk_sub (b := 1) z]
      exact nI_ge (by omega) hj
theorem isIn0 {σ : St} {k n : Nat} (hk : k < n) (hn : n < 2 ^ 30) : f_PC_isOutside σ (nI k) 0 (nI n - 1) = some (σ, 0) := by
  rw [show nI n - 1 = nI (n - 1) from pk_sub (b := 1) (by omega)]
  exact isIn (nI_pos (by omega)) (nI_le (by omega) (by omega))
theorem codeAt_in {σ : St} {n c : Nat} {S : Nat → Nat} {LL : Nat → Nat → Nat} (h : IC σ n S LL) (hc : c < n) : f_PC_codeAt σ (nI c) = some (σ, some c) := by
  obtain ⟨h1, h2, h3, h4, h5⟩ := h
  have h6 := (h5 c hc).1
  unfold f_PC_codeAt
  rw [h3, isIn0 hc (by omega)]
  show (if (0 : Int32) = 0 then gd (ib (nI c) 12) (on (σ.2.2.1 1 0 (nI c).toNatClampNeg) none fun j3 => some (σ, some j3)) else some (σ, none)) = _
  rw [if_pos rfl, gd_t (nI_ib (by omega) (by omega)), nI_cl (by omega), h6]
  rfl
theorem codeAt_out {σ : St} {n : Nat} {S : Nat → Nat} {LL : Nat → Nat → Nat} {x : Int32} (h : IC σ n S LL) (hx : x < 0 ∨ nI n ≤ x) : f_PC_codeAt σ x = some (σ, none) := by
  obtain ⟨h1, h2, h3, h4, h5⟩ := h
  unfold f_PC_codeAt
  rw [h3, isOut (notIn (by omega) hx)]
  rfl
theorem has_in {σ : St} {n c : Nat} (h4 : σ.1 48 0 1 = nI n) (hn : n ≤ 12) (hc : c < n) : f_Mo_has σ (nI c) = some (σ, 1) := by
  unfold f_Mo_has
  rw [h4, if_neg (nI_pos (by omega)), if_neg (nI_ge hc (by omega))]
theorem has_out {σ : St} {n : Nat} {x : Int32} (h4 : σ.1 48 0 1 = nI n) (hx : x < 0 ∨ nI n ≤ x) : f_Mo_has σ x = some (σ, 0) := by
  unfold f_Mo_has
  rw [h4]
  by_cases h0 : x < 0
  · rw [if_pos h0]
  · rw [if_neg h0, if_pos (hx.resolve_left h0)]
theorem ixC (x : Int32) {n : Nat} (hn : n < 2 ^ 31) : (x < 0 ∨ nI n ≤ x) ∨ ∃ c, c < n ∧ x = nI c := by
  rcases pk_ix x hn with h | h | h
  · exact Or.inl (Or.inl h)
  · exact Or.inl (Or.inr h)
  · exact Or.inr h
theorem codeWith_in {σ : St} {n c y : Nat} {S : Nat → Nat} {LL : Nat → Nat → Nat} (h : IC σ n S LL) (hc : c < n) (hy : y < S c) : f_PC_codeWith σ (nI c) (nI y) = some (σ, some c) := by
  have h5 := (h.2.2.2.2 c hc).2.2.1.1
  have h6 := h5.2.1
  unfold f_PC_codeWith
  rw [codeAt_in h hc]
  show b2 (f_PC_isOutside σ (nI y) 0 (σ.1 41 c 0 - 1)) (fun σ4 x5 => if x5 = 0 then some (σ4, some c) else some (σ4, none)) = _
  rw [h5.1, isIn0 hy (by omega)]
  rfl
theorem codeWith_out {σ : St} {n : Nat} {S : Nat → Nat} {LL : Nat → Nat → Nat} {x y : Int32} (h : IC σ n S LL) (hx : (x < 0 ∨ nI n ≤ x) ∨ ∃ c, c < n ∧ x = nI c ∧ (y < 0 ∨ nI (S c) ≤ y)) : f_PC_codeWith σ x y = some (σ, none) := by
  unfold f_PC_codeWith
  rcases hx with hx | ⟨c, hc, rfl, hy⟩
  · rw [codeAt_out h hx]
    rfl
  · have h5 := (h.2.2.2.2 c hc).2.2.1.1
    have h6 := h5.2.1
    rw [codeAt_in h hc]
    show b2 (f_PC_isOutside σ y 0 (σ.1 41 c 0 - 1)) (fun σ4 x5 => if x5 = 0 then some (σ4, some c) else some (σ4, none)) = _
    rw [h5.1, isOut (notIn (by omega) hy)]
    rfl
theorem hasS_in {σ : St} {n c s y : Nat} {L : Nat → Nat} (h4 : σ.1 48 0 1 = nI n) (hn : n ≤ 12) (hc : c < n) (hL : LR σ c s L) (hy : y < s) : f_Mo_hasSymbol σ (nI c) (nI y) = some (σ, 1) := by
  have := hL.2.1
  unfold f_Mo_hasSymbol
  rw [has_in h4 hn hc]
  show (if (1 : Int32) = 0 then some (σ, 0) else if nI y < 0 then some (σ, 0) else gd (ib (nI c) 13) (if σ.1 49 0 (nI c).toNatClampNeg ≤ nI y then some (σ, 0) else some (σ, 1))) = _
  rw [if_neg (by decide), if_neg (nI_pos (by omega)), gd_t (nI_ib (by omega) (by omega)), nI_cl (by omega), hL.1, if_neg (nI_ge hy (by omega))]
theorem hasS_out {σ : St} {n : Nat} {S : Nat → Nat} {LL : Nat → Nat → Nat} {x y : Int32} (h4 : σ.1 48 0 1 = nI n) (hn : n ≤ 12) (hL : ∀ c, c < n → LR σ c (S c) (LL c)) (hx : (x < 0 ∨ nI n ≤ x) ∨ ∃ c, c < n ∧ x = nI c ∧ (y < 0 ∨ nI (S c) ≤ y)) : f_Mo_hasSymbol σ x y = some (σ, 0) := by
  unfold f_Mo_hasSymbol
  rcases hx with hx | ⟨c, hc, rfl, hy⟩
  · rw [has_out h4 hx]
    rfl
  · rw [has_in h4 hn hc]
    show (if (1 : Int32) = 0 then some (σ, 0) else if y < 0 then some (σ, 0) else gd (ib (nI c) 13) (if σ.1 49 0 (nI c).toNatClampNeg ≤ y then some (σ, 0) else some (σ, 1))) = _
    rw [if_neg (by decide)]
    by_cases h0 : y < 0
    · rw [if_pos h0]
    · rw [if_neg h0, gd_t (nI_ib (by omega) (by omega)), nI_cl (by omega), (hL c hc).1, if_pos (hy.resolve_left h0)]
theorem ixS (x y : Int32) {n : Nat} {S : Nat → Nat} (hn : n < 2 ^ 31) (hS : ∀ c, c < n → S c ≤ 64) : ((x < 0 ∨ nI n ≤ x) ∨ ∃ c, c < n ∧ x = nI c ∧ (y < 0 ∨ nI (S c) ≤ y)) ∨ ∃ c v, c < n ∧ x = nI c ∧ v < S c ∧ y = nI v := by
  rcases ixC x hn with h | ⟨c, hc, rfl⟩
  · exact Or.inl (Or.inl h)
  · have := hS c hc
    rcases ixC y (show S c < 2 ^ 31 by omega) with h | ⟨v, hv, rfl⟩
    · exact Or.inl (Or.inr ⟨c, hc, rfl, h⟩)
    · exact Or.inr ⟨c, v, hc, rfl, hv, rfl⟩
theorem IC.S64 {σ : St} {n : Nat} {S : Nat → Nat} {LL : Nat → Nat → Nat} (h : IC σ n S LL) : ∀ c, c < n → S c ≤ 64 := fun c hc => (h.2.2.2.2 c hc).2.2.2.2.1
theorem IC.lr {σ : St} {n : Nat} {S : Nat → Nat} {LL : Nat → Nat → Nat} (h : IC σ n S LL) : ∀ c, c < n → LR σ c (S c) (LL c) := fun c hc => (h.2.2.2.2 c hc).2.2.2
theorem IC.ck {σ : St} {n : Nat} {S : Nat → Nat} {LL : Nat → Nat → Nat} (h : IC σ n S LL) : ∀ c, c < n → CK σ c (S c) (LL c) := fun c hc => (h.2.2.2.2 c hc).2.2.1
