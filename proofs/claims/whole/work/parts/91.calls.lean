/-! ===== the calls: those that change no code ===== -/
theorem b2_e {A β : Type} {x : Option (St × A)} {σ : St} {a : A} {k : St → A → Option β} (hx : x = some (σ, a)) : b2 x k = k σ a := by
  subst hx; rfl
theorem on_e {α : Type} {o : Option Nat} {j : Nat} {a : Option α} {k : Nat → Option α} (ho : o = some j) : on o a k = k j := by
  subst ho; rfl
theorem J_eq {σ : St} {x : Option (St × Int32)} {k : St → Option (St × Int32)} {r : Int32} (h : II σ) (h1 : ok x (fun o => o = (σ, r))) (h2 : ok (k σ) (fun o => o = (σ, r))) : JJ x k := by
  obtain ⟨o, rfl, rfl⟩ := h1
  refine ok_some ?_
  obtain ⟨o, h3, rfl⟩ := h2
  show ok (k σ) _
  rw [h3]
  exact ok_some ⟨rfl, h⟩
theorem j_about {σ : St} (h : II σ) (a1 a2 : Int32) : JJ (f_PC_about σ a1 a2) (fun σ1 => f_Mo_about σ1 a1 a2) := by
  have h0 := h
  obtain ⟨n, S, LL, B, m, T, h⟩ := h
  have hI := h.1
  have hn := hI.1
  have h4 := hI.2.2.2.1
  rcases ixC a1 (show n < 2 ^ 31 by omega) with hx | ⟨c, hc, rfl⟩
  · refine J_eq (r := -101) h0 ?_ ?_
    · unfold f_PC_about
      exact ok_b2e (codeAt_out hI hx) (ok_onN rfl (ok_some rfl))
    · unfold f_Mo_about
      exact ok_b2e (has_out h4 hx) (ok_t rfl (ok_some rfl))
  · obtain ⟨k1, k2, k3, k4, k5, k6, k7⟩ := hI.ck c hc
    have L := hI.lr c hc
    have fin : ∀ r : Int32, (ok (if a2 = 0 then (some (σ, σ.1 41 c 10) : Option (St × Int32)) else if a2 = 1 then some (σ, σ.1 41 c 0) else if a2 = 2 then some (σ, σ.1 41 c 7) else if a2 = 3 then some (σ, σ.1 41 c 8) else if a2 = 4 then some (σ, σ.1 41 c 9) else some (σ, -102)) (fun o => o = (σ, r))) → ok (f_Mo_about σ (nI c) a2) (fun o => o = (σ, r)) → JJ (f_PC_about σ (nI c) a2) (fun σ1 => f_Mo_about σ1 (nI c) a2) := fun r u1 u2 => J_eq (r := r) h0 (by
      unfold f_PC_about
      exact ok_b2e (codeAt_in hI hc) (ok_on rfl u1)) u2
    have hm : ∀ r : Int32, (ok (if a2 = 0 then b2 (f_Mo_kind σ (nI c)) fun σ3 x4 => (some (σ3, x4) : Option (St × Int32)) else if a2 = 1 then gd (ib (nI c) 13) (some (σ, σ.1 49 0 (nI c).toNatClampNeg)) else if a2 = 2 then b2 (f_Mo_filled σ (nI c)) fun σ5 x6 => some (σ5, x6) else if a2 = 3 then b2 (f_Mo_words σ (nI c)) fun σ7 x8 => some (σ7, x8) else if a2 = 4 then b2 (f_Mo_longest σ (nI c)) fun σ9 x10 => some (σ9, x10) else some (σ, -102)) (fun o => o = (σ, r))) → ok (f_Mo_about σ (nI c) a2) (fun o => o = (σ, r)) := fun r u => by
      unfold f_Mo_about
      exact ok_b2e (has_in h4 hn hc) (ok_f (by decide) u)
    by_cases e0 : a2 = 0
    · refine fin (nI (knd (LL c) (S c))) (ok_t e0 (ok_some (by rw [k7]))) (hm _ (ok_t e0 (ok_b2 (e_moKind L) (fun σ3 x4 h3 => ?_))))
      cases h3
      exact ok_some rfl
    by_cases e1 : a2 = 1
    · refine fin (nI (S c)) (ok_f e0 (ok_t e1 (ok_some (by rw [k1.1])))) (hm _ (ok_f e0 (ok_t e1 (ok_gd (nI_ib (by omega) (by omega)) (ok_some ?_)))))
      rw [nI_cl (by omega), L.1]
    by_cases e2 : a2 = 2
    · refine fin (nI (fil (fun m => cnt (LL c) m (S c)) 15)) (ok_f e0 (ok_f e1 (ok_t e2 (ok_some (by rw [k4]))))) (hm _ (ok_f e0 (ok_f e1 (ok_t e2 (ok_b2 (e_moFilled L) (fun σ3 x4 h3 => ?_))))))
      cases h3
      exact ok_some rfl
    by_cases e3 : a2 = 3
    · refine fin (nI (hvn (fun m => cnt (LL c) m (S c)) 15)) (ok_f e0 (ok_f e1 (ok_f e2 (ok_t e3 (ok_some (by rw [k5])))))) (hm _ (ok_f e0 (ok_f e1 (ok_f e2 (ok_t e3 (ok_b2 (e_moWords L) (fun σ3 x4 h3 => ?_)))))))
      cases h3
      exact ok_some rfl
    by_cases e4 : a2 = 4
    · refine fin (nI (gre (fun m => cnt (LL c) m (S c)) 15)) (ok_f e0 (ok_f e1 (ok_f e2 (ok_f e3 (ok_t e4 (ok_some (by rw [k6]))))))) (hm _ (ok_f e0 (ok_f e1 (ok_f e2 (ok_f e3 (ok_t e4 (ok_b2 (e_moLongest L) (fun σ3 x4 h3 => ?_))))))))
      cases h3
      exact ok_some rfl
    exact fin (-102) (ok_f e0 (ok_f e1 (ok_f e2 (ok_f e3 (ok_f e4 (ok_some rfl)))))) (hm _ (ok_f e0 (ok_f e1 (ok_f e2 (ok_f e3 (ok_f e4 (ok_some rfl)))))))
/-! words -/
def wv (L : Nat → Nat) (s v : Nat) (a : Int32) : Int32 := if a = 0 then nI (wrd L s v) else nI (tw (nI (wrd L s v)) (L v))
abbrev hw (L : Nat → Nat) (s v : Nat) : Prop := knd L s ≠ 4 ∧ 1 ≤ L v
theorem s_moWord {σ : St} {n c s v : Nat} {L : Nat → Nat} (h4 : σ.1 48 0 1 = nI n) (hn : n ≤ 12) (hc : c < n) (hL : LR σ c s L) (hv : v < s) (a : Int32) : ok (f_Mo_word σ (nI c) (nI v) a) (fun o => o = (σ, if hw L s v then wv L s v a else -103)) := by
  have h64 := hL.2.1
  obtain ⟨l1, l2⟩ := hL.2.2.2 v hv
  have hk := knd_lt L s
  unfold f_Mo_word
  refine ok_b2e (hasS_in h4 hn hc hL hv) (ok_f (by decide) (ok_b2e (e_lengthOf hL hv) (ok_b2 (e_moKind hL) (fun σ5 x6 h5 => ?_))))
  cases h5
  refine ok_if (fun d => ok_some ?_) (fun d => ok_if (fun e => ok_some ?_) (fun e => ?_))
  · have d' := (nI_eq (b := 4) (by omega) (by omega)).mp d
    rw [if_neg (fun z => z.1 d')]
  · have e' := (nI_eq (b := 0) (by omega) (by omega)).mp e
    rw [if_neg (fun z => absurd z.2 (by omega))]
  · have d' : ¬ knd L s = 4 := fun z => d (by rw [z]; rfl)
    have e' : 1 ≤ L v := by
      rcases Nat.eq_zero_or_pos (L v) with z | z
      · exact absurd (by rw [z]; rfl) e
      · exact z
    refine ok_b2 (e_wordOf hL hv e') (fun σ7 x8 h7 => ?_)
    cases h7
    rw [show (if hw L s v then wv L s v a else -103) = wv L s v a from if_pos ⟨d', e'⟩]
    unfold wv
    refine ok_if (fun g => ok_some ?_) (fun g => ok_b2 (e_turn _ l2) (fun σ9 x10 h9 => ?_))
    · rw [if_pos g]
    · cases h9
      rw [if_neg g]
      exact ok_some rfl
theorem j_word {σ : St} (h : II σ) (a1 a2 a3 : Int32) : JJ (f_PC_word σ a1 a2 a3) (fun σ1 => f_Mo_word σ1 a1 a2 a3) := by
  have h0 := h
  obtain ⟨n, S, LL, B, m, T, h⟩ := h
  have hI := h.1
  have hn := hI.1
  have h4 := hI.2.2.2.1
  rcases ixS a1 a2 (show n < 2 ^ 31 by omega) hI.S64 with hx | ⟨c, v, hc, rfl, hv, rfl⟩
  · refine J_eq (r := -101) h0 ?_ ?_
    · unfold f_PC_word
      exact ok_b2e (codeWith_out hI hx) (ok_onN rfl (ok_some rfl))
    · unfold f_Mo_word
      exact ok_b2e (hasS_out h4 hn hI.lr hx) (ok_t rfl (ok_some rfl))
  · have K := hI.ck c hc
    have h64 := hI.S64 c hc
    refine J_eq (r := if hw (LL c) (S c) v then wv (LL c) (S c) v a3 else -103) h0 ?_ (s_moWord h4 hn hc (hI.lr c hc) hv a3)
    unfold f_PC_word
    refine ok_b2e (codeWith_in hI hc hv) (ok_on rfl (ok_b2e (e_hasWord K h64 hv) ?_))
    by_cases d : hw (LL c) (S c) v
    · rw [if_pos d, if_pos d]
      refine ok_f (by decide) ?_
      have k43 := (K.2.2.1 v hv d.2).1
      unfold wv
      refine ok_if (fun g => ok_gd (nI_ib (by omega) (by omega)) (ok_some ?_)) (fun g => ok_b2 (e_turnedWord K.1 hv) (fun σ6 x7 h6 => ?_))
      · rw [if_pos g, nI_cl (by omega), k43]
      · cases h6
        rw [if_neg g, k43]
        exact ok_some rfl
    · rw [if_neg d, if_neg d]
      exact ok_t rfl (ok_some rfl)
/-! counts -/
theorem j_count {σ : St} (h : II σ) (a1 a2 : Int32) : JJ (f_PC_count σ a1 a2) (fun σ1 => f_Mo_count σ1 a1 a2) := by
  have h0 := h
  obtain ⟨n, S, LL, B, m, T, h⟩ := h
  have hout : (a1 < 0 ∨ ¬ a1 ≤ 63 ∨ a2 < 0 ∨ ¬ a2 ≤ 1000000) → JJ (f_PC_count σ a1 a2) (fun σ1 => f_Mo_count σ1 a1 a2) := fun hz => J_eq (r := -102) h0 (by
    unfold f_PC_count
    by_cases z1 : a1 < 0 ∨ ¬ a1 ≤ 63
    · exact ok_b2e (isOut z1) (ok_f (by decide) (ok_some rfl))
    · have z2 : a2 < 0 ∨ ¬ a2 ≤ 1000000 := by
        rcases hz with z | z | z
        · exact absurd (Or.inl z) z1
        · exact absurd (Or.inr z) z1
        · exact z
      exact ok_b2e (isIn (fun y => z1 (Or.inl y)) (Decidable.of_not_not (fun y => z1 (Or.inr y)))) (ok_t rfl (ok_b2e (isOut z2) (ok_f (by decide) (ok_some rfl))))) (by
    show ok (f_Mo_count σ a1 a2) _
    unfold f_Mo_count
    refine ok_if (fun _ => ok_some rfl) (fun z1 => ok_if (fun _ => ok_some rfl) (fun z2 => ok_if (fun _ => ok_some rfl) (fun z3 => ok_f ?_ (ok_some rfl))))
    rcases hz with z | z | z | z
    · exact absurd z z1
    · refine absurd ?_ z
      obtain ⟨j, hj, rfl⟩ := nI_of z1
      have : j < 64 := by
        rcases Nat.lt_or_ge j 64 with y | y
        · exact y
        · exact absurd (nI_le (a := 64) y hj) z2
      exact nI_le (b := 63) (by omega) (by omega)
    · exact absurd z z3
    · exact z)
  by_cases z1 : a1 < 0
  · exact hout (Or.inl z1)
  by_cases z2 : a1 ≤ 63
  rotate_left
  · exact hout (Or.inr (Or.inl z2))
  by_cases z3 : a2 < 0
  · exact hout (Or.inr (Or.inr (Or.inl z3)))
  by_cases z4 : a2 ≤ 1000000
  rotate_left
  · exact hout (Or.inr (Or.inr (Or.inr z4)))
  obtain ⟨j, hj, rfl⟩ := nI_of z1
  have hj63 := (nI_leI (b := 63) hj (by omega)).mp z2
  obtain ⟨h1, h2, h3, h4, h5, h6, h7⟩ := h
  unfold f_PC_count
  rw [nI_cl hj]
  refine ok_b2e (isIn z1 z2) (ok_t rfl (ok_b2e (isIn z3 z4) (ok_t rfl (ok_gd (nI_ib (by omega) (by omega)) (ok_nm (fun x5 e5 => ok_gd (nI_ib (by omega) (by omega)) (ok_nm (fun σ6 e6 => ok_some ?_))))))))
  show ok (f_Mo_count σ6 (nI j) a2) (fun o2 => x5 = o2.2 ∧ II o2.1)
  unfold f_Mo_count
  rw [nI_cl hj]
  refine ok_f z1 (ok_f (nI_ge (b := 64) (by omega) (by omega)) (ok_f z3 (ok_t z4 (ok_gd (nI_ib (by omega) (by omega)) (ok_nm (fun x1 e1 => ok_gd (nI_ib (by omega) (by omega)) (ok_nm (fun σ2 e2 => ok_some ⟨?_, ?_⟩))))))))
  · show x5 = x1
    rw [e5, e1, e6, sI_f (by omega)]
    exact h3 j (by omega)
  · have f2 : fr sCT σ σ2 := by
      rw [e2, e6]
      exact (fr_sI (by omega)).tr (fr_sI (by omega))
    refine ⟨n, S, LL, B, m, T, h1.fr f2 (fun f i k z => by omega), h2.fr f2 (fun f i k z => by omega), fun k hk => ?_, h4.fr f2 (fun f i k z => by omega), h5.fr f2 (fun f i k z => by omega), h6.fr f2 (fun f i k z => by omega), h7.fr f2 (fun f i k z => by omega) (Nat.le_refl _) (fun _ _ => rfl)⟩
    show σ2.1 2 0 k = σ2.1 51 0 k
    rw [e2, sI_f (by omega), e6]
    by_cases y : k = j
    · subst y
      rw [sI_at, sI_at]
    · rw [sI_k y, sI_k y, sI_f (by omega)]
      exact h3 k hk
theorem j_countText {σ : St} (h : II σ) : JJ (f_PC_countText σ) (fun σ1 => f_Mo_countText σ1) := by
  obtain ⟨n, S, LL, B, m, T, h1, h2, h3, h4, h5, h6, h7⟩ := h
  unfold f_PC_countText
  refine ok_b1 (s_tally (f := 2) (i := 0) h6.1 (by omega)) (fun σ1 u => ?_)
  obtain ⟨u1, u2⟩ := u
  refine ok_b2 (e_countedBelow (g := fun x => nI (cnt T x m)) (n := 64) (by omega) u1) (fun σ2 x3 h2' => ok_some ?_)
  cases h2'
  show ok (f_Mo_countText σ1) (fun o2 => nI (ordm (fun x => nI (cnt T x m)) 64) = o2.2 ∧ II o2.1)
  refine (s_moCountText (h6.2.go (u2.i (by omega)) (u2.fi (fun _ => by omega)))).mono (fun o ho => ⟨ho.1.symm, ?_⟩)
  have f2 : fr sCT σ o.1 := (u2.mono (fun f i k z => by omega)).tr (ho.2.2.mono (fun f i k z => by omega))
  refine ⟨n, S, LL, B, m, T, h1.fr f2 (fun f i k z => by omega), h2.fr f2 (fun f i k z => by omega), fun k hk => ?_, h4.fr f2 (fun f i k z => by omega), h5.fr f2 (fun f i k z => by omega), h6.fr f2 (fun f i k z => by omega), h7.fr f2 (fun f i k z => by omega) (Nat.le_refl _) (fun _ _ => rfl)⟩
  show o.1.1 2 0 k = o.1.1 51 0 k
  rw [ho.2.1 k hk, ho.2.2.i (by omega), u1 k hk]
/-! cost -/
def cst (g : Nat → Int32) (L : Nat → Nat) : Nat → Int64
  | 0 => 0
  | k + 1 => cst g L k + (g k).toInt64 * (nI (L k)).toInt64
abbrev JL (x : Option (St × Int64)) (k : St → Option (St × Int64)) : Prop := ok x (fun o1 => ok (k o1.1) (fun o2 => o1.2 = o2.2 ∧ II o2.1))
theorem j_cost {σ : St} (h : II σ) (a1 : Int32) : JL (f_PC_cost σ a1) (fun σ1 => f_Mo_cost σ1 a1) := by
  have h0 := h
  obtain ⟨n, S, LL, B, m, T, h⟩ := h
  have hI := h.1
  have hn := hI.1
  have h4 := hI.2.2.2.1
  unfold f_PC_cost
  rcases ixC a1 (show n < 2 ^ 31 by omega) with hx | ⟨c, hc, rfl⟩
  · refine ok_b2e (codeAt_out hI hx) (ok_onN rfl (ok_some ?_))
    show ok (f_Mo_cost σ a1) (fun o2 => (-101 : Int64) = o2.2 ∧ II o2.1)
    unfold f_Mo_cost
    exact ok_b2e (has_out h4 hx) (ok_t rfl (ok_some ⟨rfl, h0⟩))
  · have K := (hI.ck c hc).1
    have L := hI.lr c hc
    have h64 := hI.S64 c hc
    refine ok_b2e (codeAt_in hI hc) (ok_on rfl ?_)
    refine ok_b3 (Q := fun q => q.1 = σ ∧ q.2.1 = cst (σ.1 2 0) (LL c) (S c)) (ok_up (S c) (fun k q => q = (σ, cst (σ.1 2 0) (LL c) k, nI k)) ?_ ?_ 0 _ (Nat.zero_le _) rfl) (fun σ6 x7 x8 hq => ok_some ?_)
    · rintro k _ hk rfl
      dsimp only
      unfold lb_PC_cost_19
      rw [K.1, nI_cl (by omega), (K.2.2 k hk).1]
      exact ok_f (nI_ge hk (by omega)) (ok_gd (nI_ib (by omega) (by omega)) (ok_gd (nI_ib (by omega) (by omega)) (ok_nm (fun x4 e4 => ok_nm (fun x5 e5 => ok_some (by rw [e4, e5, nI_1]; rfl))))))
    · rintro _ rfl
      dsimp only
      unfold lb_PC_cost_19
      rw [K.1]
      exact ok_t (nI_le (Nat.le_refl _) (by omega)) (ok_some ⟨rfl, rfl⟩)
    · obtain ⟨q1, q2⟩ := hq
      dsimp only at q1 q2
      subst q1
      subst q2
      show ok (f_Mo_cost σ6 (nI c)) (fun o2 => cst (σ6.1 2 0) (LL c) (S c) = o2.2 ∧ II o2.1)
      unfold f_Mo_cost
      refine ok_b2e (has_in h4 hn hc) (ok_f (by decide) (ok_b3 (Q := fun q => q.1 = σ6 ∧ q.2.1 = cst (σ6.1 2 0) (LL c) (S c)) (ok_up (S c) (fun k q => q = (σ6, cst (σ6.1 2 0) (LL c) k, nI k)) ?_ ?_ 0 _ (Nat.zero_le _) rfl) (fun σ7 x7 x8 hq => ok_some ?_)))
      · rintro k _ hk rfl
        dsimp only
        unfold lb_Mo_cost_17
        rw [nI_cl (show c < 2 ^ 31 by omega), L.1, nI_cl (show k < 2 ^ 31 by omega), ← h.2.2.1 k (by omega)]
        exact ok_gd (nI_ib (by omega) (by omega)) (ok_f (nI_ge hk (by omega)) (ok_gd (nI_ib (by omega) (by omega)) (ok_b2e (e_lengthOf L hk) (ok_nm (fun x4 e4 => ok_nm (fun x5 e5 => ok_some (by rw [e4, e5, nI_1]; rfl)))))))
      · rintro _ rfl
        dsimp only
        unfold lb_Mo_cost_17
        rw [nI_cl (show c < 2 ^ 31 by omega), L.1]
        exact ok_gd (nI_ib (by omega) (by omega)) (ok_t (nI_le (Nat.le_refl _) (by omega)) (ok_some ⟨rfl, rfl⟩))
      · obtain ⟨q1, q2⟩ := hq
        dsimp only at q1 q2
        subst q1
        exact ⟨q2.symm, h0⟩
/-! the stream -/
theorem j_bits {σ : St} (h : II σ) : JJ (f_PC_bits σ) (fun σ1 => f_Mo_bits σ1) := by
  have h0 := h
  obtain ⟨n, S, LL, B, m, T, h1, h2, h3, ⟨⟨hh, h4⟩, h4'⟩, h5, h6, h7⟩ := h
  refine J_eq (r := nI B.length) h0 ?_ ?_
  · unfold f_PC_bits
    rw [h4.2.2.1]
    exact ok_some rfl
  · show ok (f_Mo_bits σ) _
    unfold f_Mo_bits
    rw [h4'.len]
    exact ok_some rfl
theorem j_clear {σ : St} (h : II σ) : JJ (f_PC_clear σ) (fun σ1 => f_Mo_clear σ1) := by
  obtain ⟨n, S, LL, B, m, T, h⟩ := h
  obtain ⟨⟨hh, h4⟩, h4'⟩ := h.2.2.2.1
  unfold f_PC_clear
  refine ok_nm (fun x1 e1 => ok_nm (fun σ2 e2 => ok_some ?_))
  show ok (f_Mo_clear σ2) (fun o2 => x1 = o2.2 ∧ II o2.1)
  have f2 : fr (fun f _ _ => f = 3) σ σ2 := by rw [e2]; exact fr_sI rfl
  have hR2 : SR σ2 B := h4'.fr f2 (fun f i k z => by omega)
  unfold f_Mo_clear
  refine ok_nm (fun y1 g1 => ok_nm (fun σ3 e3 => ok_nm (fun σ4 e4 => ok_some ⟨?_, ?_⟩)))
  · show x1 = y1
    rw [e1, g1, h4.2.2.1, hR2.len]
  · have f4 : fr (fun f _ k => f = 3 ∨ (f = 48 ∧ (k = 11 ∨ k = 12))) σ σ4 := by
      rw [e4, e3]
      exact ((f2.mono (fun f i k z => by omega)).tr (fr_sI (by omega))).tr (fr_sI (by omega))
    refine (h.ss (B' := []) f4 (fun f i k z => by omega) ⟨⟨hh, ?_⟩, ⟨0, ?_, ?_, by simp, by simp, fun i hi => absurd hi (by simp)⟩⟩).ii
    · have h5 : SB σ2 hh [] := by
        rw [e2]
        exact h4.take (k := 0) (Nat.zero_le _)
      have g3 : fr (fun f _ _ => f = 48) σ2 σ4 := by
        rw [e4, e3]
        exact (fr_sI (by omega)).tr (fr_sI (by omega))
      exact h5.fr g3 (fun f i k z => by omega)
    · show σ4.1 48 0 11 = nI 0
      rw [e4, sI_k (by omega), e3, sI_at]
      rfl
    · show σ4.1 48 0 12 = nI (0 + 0)
      rw [e4, sI_at]
      rfl
theorem s_pcPutBits {σ : St} {h n : Nat} {B : List Bool} (hS : SB σ h B) (v : Int32) (hn : n ≤ 31) : ok (f_PC_putBits σ v (nI n)) (fun o => (B.length + n ≤ 20000 → o.2 = nI (B.length + n) ∧ SB o.1 h (B ++ bitsOf v n) ∧ fr Fs σ o.1) ∧ (20000 < B.length + n → o = (σ, -106))) := by
  have hl := hS.2.2.2.1
  unfold f_PC_putBits
  rw [hS.2.2.1, show (20000 : Int32) - nI B.length = nI (20000 - B.length) from pk_sub (a := 20000) hl]
  refine ok_if (fun d => ?_) (fun d => ?_)
  · have d' := (nI_leI (by omega) (by omega)).mp d
    refine ok_b1 (s_appendNumber (J := fun B' σ' => SB σ' h B' ∧ fr Fs σ σ') (Z := 20000) (fun σ' B' b hJ hz => (s_append hJ.1 hz b).mono (fun o ho => ⟨ho.1, hJ.2.tr ho.2.1⟩)) ⟨hS, fr.rf⟩ v hn (by omega)) (fun σ1 h1 => ok_some ⟨fun _ => ⟨?_, h1.1, h1.2⟩, fun z => absurd z (by omega)⟩)
    show σ1.1 3 0 2 = _
    rw [h1.1.2.2.1, List.length_append, bitsOf_len]
  · have d' : ¬ n ≤ 20000 - B.length := fun z => d (nI_le z (by omega))
    exact ok_some ⟨fun z => absurd z (by omega), fun _ => rfl⟩
theorem s_moPutB {σ : St} {n : Nat} {B : List Bool} (hS : SR σ B) (v : Int32) (hn : n ≤ 31) : ok (b2 (f_Mo_hasRoom σ (nI n)) fun σ1 x2 => if x2 = 0 then some (σ1, -106) else b1 (f_Mo_putBits σ1 v (nI n)) fun σ3 => (some (σ3, (σ3.1 48 0 12) - (σ3.1 48 0 11)) : Option (St × Int32))) (fun o => (B.length + n ≤ 20000 → o.2 = nI (B.length + n) ∧ SR o.1 (B ++ bitsOf v n) ∧ fr Fm σ o.1) ∧ (20000 < B.length + n → o = (σ, -106))) := by
  refine ok_b2e (e_moHasRoom hS (n := n) (by omega)) ?_
  by_cases d : B.length + n ≤ 20000
  · rw [if_pos d]
    refine ok_f (by decide) (ok_b1 (s_moPutBits hS v hn d) (fun σ3 h3 => ok_some ⟨fun _ => ⟨?_, h3.1, h3.2⟩, fun z => absurd z (by omega)⟩))
    show σ3.1 48 0 12 - σ3.1 48 0 11 = _
    rw [h3.1.len, List.length_append, bitsOf_len]
  · rw [if_neg d]
    exact ok_t rfl (ok_some ⟨fun z => absurd z d, fun _ => rfl⟩)
/-- a number is put, in both -/
theorem j_putB {σ : St} {n : Nat} {S : Nat → Nat} {LL : Nat → Nat → Nat} {B : List Bool} {m : Nat} {T : Nat → Nat} (h : IV σ n S LL B m T) (v : Int32) {l : Nat} (hl : l ≤ 31) {x : Option (St × Int32)} {k : St → Option (St × Int32)} (hx : x = b2 (f_PC_putBits σ v (nI l)) fun σ3 x4 => some (σ3, x4)) (hk : ∀ σ1, fr Fs σ σ1 → k σ1 = b2 (f_Mo_hasRoom σ1 (nI l)) fun σ1 x2 => if x2 = 0 then some (σ1, -106) else b1 (f_Mo_putBits σ1 v (nI l)) fun σ3 => some (σ3, (σ3.1 48 0 12) - (σ3.1 48 0 11))) : JJ x k := by
  obtain ⟨⟨hh, h4⟩, h4'⟩ := h.2.2.2.1
  rw [hx]
  refine ok_b2 (s_pcPutBits h4 v hl) (fun σ3 x4 h3 => ok_some ?_)
  show ok (k σ3) (fun o2 => x4 = o2.2 ∧ II o2.1)
  obtain ⟨u1, u2⟩ := h3
  rcases Nat.lt_or_ge 20000 (B.length + l) with d | d
  · have e := u2 d
    cases e
    rw [hk σ fr.rf]
    refine (s_moPutB h4' v hl).mono (fun o ho => ?_)
    have e2 := ho.2 d
    rw [e2]
    exact ⟨rfl, h.ii⟩
  · obtain ⟨w1, w2, w3⟩ := u1 d
    dsimp only at w1 w2 w3
    rw [hk σ3 w3]
    refine (s_moPutB (h4'.fr w3 (fun f i k z => by omega)) v hl).mono (fun o ho => ?_)
    obtain ⟨y1, y2, y3⟩ := ho.1 d
    refine ⟨by rw [w1, y1], (h.ss (B' := B ++ bitsOf v l) (w3.un y3) (fun f i k z => by omega) ⟨⟨hh, w2.fr y3 (fun f i k z => by omega)⟩, y2⟩).ii⟩
theorem j_putNumber {σ : St} (h : II σ) (a1 a2 : Int32) : JJ (f_PC_putNumber σ a1 a2) (fun σ1 => f_Mo_putNumber σ1 a1 a2) := by
  have h0 := h
  obtain ⟨n, S, LL, B, m, T, h⟩ := h
  by_cases z1 : a2 < 1
  · refine J_eq (r := -102) h0 ?_ ?_
    · unfold f_PC_putNumber
      exact ok_b2e (isOut (Or.inl z1)) (ok_f (by decide) (ok_some rfl))
    · show ok (f_Mo_putNumber σ a1 a2) _
      unfold f_Mo_putNumber
      exact ok_t z1 (ok_some rfl)
  by_cases z2 : a2 ≤ 30
  rotate_left
  · refine J_eq (r := -102) h0 ?_ ?_
    · unfold f_PC_putNumber
      exact ok_b2e (isOut (Or.inr z2)) (ok_f (by decide) (ok_some rfl))
    · show ok (f_Mo_putNumber σ a1 a2) _
      unfold f_Mo_putNumber
      exact ok_f z1 (ok_f z2 (ok_some rfl))
  obtain ⟨l, hl, rfl⟩ := nI_of (x := a2) (fun y => z1 (Int32.lt_trans y (by decide)))
  have hl30 := (nI_leI (b := 30) hl (by omega)).mp z2
  refine j_putB h a1 (l := l) (by omega) ?_ (fun σ1 _ => ?_)
  · unfold f_PC_putNumber
    rw [b2_e (isIn z1 z2), if_pos rfl]
  · show f_Mo_putNumber σ1 a1 (nI l) = _
    unfold f_Mo_putNumber
    rw [if_neg z1, if_pos z2]
theorem j_takeNumber {σ : St} (h : II σ) (a1 : Int32) : JJ (f_PC_takeNumber σ a1) (fun σ1 => f_Mo_takeNumber σ1 a1) := by
  have h0 := h
  obtain ⟨n, S, LL, B, m, T, h⟩ := h
  by_cases z1 : a1 < 1
  · refine J_eq (r := -102) h0 ?_ ?_
    · unfold f_PC_takeNumber
      exact ok_b2e (isOut (Or.inl z1)) (ok_f (by decide) (ok_some rfl))
    · show ok (f_Mo_takeNumber σ a1) _
      unfold f_Mo_takeNumber
      exact ok_t z1 (ok_some rfl)
  by_cases z2 : a1 ≤ 30
  rotate_left
  · refine J_eq (r := -102) h0 ?_ ?_
    · unfold f_PC_takeNumber
      exact ok_b2e (isOut (Or.inr z2)) (ok_f (by decide) (ok_some rfl))
    · show ok (f_Mo_takeNumber σ a1) _
      unfold f_Mo_takeNumber
      exact ok_f z1 (ok_f z2 (ok_some rfl))
  obtain ⟨l, hl, rfl⟩ := nI_of (x := a1) (fun y => z1 (Int32.lt_trans y (by decide)))
  have hl30 := (nI_leI (b := 30) hl (by omega)).mp z2
  have hl1 : 1 ≤ l := by
    rcases Nat.eq_zero_or_pos l with y | y
    · subst y
      exact absurd (by decide) z1
    · exact y
  obtain ⟨⟨hh, h4⟩, h4'⟩ := h.2.2.2.1
  unfold f_PC_takeNumber
  refine ok_b2e (isIn z1 z2) (ok_t rfl (ok_b2 (cu_num (CU_rf h4) hl30) (fun σ3 x4 h3 => ok_some ?_)))
  obtain ⟨u1, u2, u3⟩ := h3
  show ok (f_Mo_takeNumber σ3 (nI l)) (fun o2 => x4 = o2.2 ∧ II o2.1)
  dsimp only at u3
  refine (sr_num (h4'.fr u3 (fun f i k z => by omega)) hl1 hl30).mono (fun o ho => ?_)
  obtain ⟨w1, w2, w3⟩ := ho
  rcases Nat.lt_or_ge B.length l with d | d
  · have e1 := u1 d
    have e2 := w1 d
    cases e1
    rw [e2]
    exact ⟨rfl, h.ii⟩
  · obtain ⟨y1, y2, y3⟩ := u2 d
    obtain ⟨v1, v2, v3⟩ := w2 d
    dsimp only at y1 y2
    obtain ⟨X, hX1, hX2⟩ := y1
    exact ⟨by rw [y2, v2], (h.ss (B' := B.drop l) (u3.un w3) (fun f i k z => by omega) ⟨⟨_, hX2.fr w3 (fun f i k z => by omega)⟩, v1⟩).ii⟩
theorem wv_pos {L : Nat → Nat} {s v : Nat} {a : Int32} (hv : v < s) (hs6 : s ≤ 64) (h1 : 1 ≤ L v) (h2 : L v ≤ 15) : 0 ≤ wv L s v a := by
  have w := wrd_lt hv hs6 h1 h2
  have t := tw_lt (nI (wrd L s v)) (L v)
  have p : 2 ^ L v ≤ 2 ^ 15 := Nat.pow_le_pow_right (by omega) h2
  unfold wv
  split
  · exact nI_pos' (by omega)
  · exact nI_pos' (by omega)
theorem j_put {σ : St} (h : II σ) (a1 a2 a3 : Int32) : JJ (f_PC_put σ a1 a2 a3) (fun σ1 => f_Mo_put σ1 a1 a2 a3) := by
  have h0 := h
  obtain ⟨n, S, LL, B, m, T, h⟩ := h
  have hI := h.1
  have hn := hI.1
  have h4 := hI.2.2.2.1
  rcases ixS a1 a2 (show n < 2 ^ 31 by omega) hI.S64 with hx | ⟨c, v, hc, rfl, hv, rfl⟩
  · refine J_eq (r := -101) h0 ?_ ?_
    · unfold f_PC_put
      exact ok_b2e (codeWith_out hI hx) (ok_onN rfl (ok_some rfl))
    · show ok (f_Mo_put σ a1 a2 a3) _
      unfold f_Mo_put
      refine ok_b2 (Q := fun o => o = (σ, -101)) ?_ (fun σ1 x2 h1 => ?_)
      · unfold f_Mo_word
        exact ok_b2e (hasS_out h4 hn hI.lr hx) (ok_t rfl (ok_some rfl))
      · cases h1
        exact ok_f (by decide) (ok_some rfl)
  · have K := hI.ck c hc
    have L := hI.lr c hc
    have h64 := hI.S64 c hc
    obtain ⟨l1, l2⟩ := K.1.2.2 v hv
    by_cases d : hw (LL c) (S c) v
    · have k43 := (K.2.2.1 v hv d.2).1
      refine j_putB h (wv (LL c) (S c) v a3) (l := LL c v) (by omega) ?_ (fun σ1 f1 => ?_)
      · unfold f_PC_put
        rw [b2_e (codeWith_in hI hc hv), on_e rfl, b2_e (e_hasWord K h64 hv), if_pos d]
        rw [if_neg (by decide), nI_cl (by omega), l1, k43]
        unfold wv
        by_cases g : a3 = 0
        · rw [if_pos g, if_pos g, gd_t (nI_ib (by omega) (by omega)), gd_t (nI_ib (by omega) (by omega))]
        · rw [if_neg g, if_neg g]
          obtain ⟨o, ho, rfl⟩ := e_turnedWord K.1 hv
          rw [b2_e ho]
          rw [gd_t (nI_ib (by omega) (by omega)), l1, k43]
      · show f_Mo_put σ1 (nI c) (nI v) a3 = _
        have L1 : LR σ1 c (S c) (LL c) := L.go (f1.fi (fun _ => by omega)) (f1.fi (fun _ => by omega))
        unfold f_Mo_put
        obtain ⟨o, ho, rfl⟩ := s_moWord (by rw [f1.i (by omega)]; exact h4) hn hc L1 hv a3
        rw [b2_e ho, if_pos d]
        rw [if_pos (wv_pos hv h64 d.2 l2), b2_e (e_lengthOf L1 hv)]
    · refine J_eq (r := -103) h0 ?_ ?_
      · unfold f_PC_put
        refine ok_b2e (codeWith_in hI hc hv) (ok_on rfl (ok_b2e (e_hasWord K h64 hv) ?_))
        rw [if_neg d]
        exact ok_t rfl (ok_some rfl)
      · show ok (f_Mo_put σ (nI c) (nI v) a3) _
        unfold f_Mo_put
        refine ok_b2 (s_moWord h4 hn hc L hv a3) (fun σ1 x2 h1 => ?_)
        rw [if_neg d] at h1
        cases h1
        exact ok_f (by decide) (ok_some rfl)
theorem e_canBeRead {σ : St} {j s : Nat} {L : Nat → Nat} (h : CK σ j s L) : f_Code_canBeRead σ j = some (σ, if knd L s = 4 ∨ knd L s = 0 then 0 else 1) := by
  have h7 := h.2.2.2.2.2.2
  have hk := knd_lt L s
  unfold f_Code_canBeRead
  rw [h7]
  by_cases c1 : knd L s = 4
  · rw [if_pos (by rw [c1]; rfl), if_pos (Or.inl c1)]
  · rw [if_neg (show ¬ nI (knd L s) = 4 from fun z => c1 ((nI_eq (b := 4) (by omega) (by omega)).mp z))]
    by_cases c2 : knd L s = 0
    · rw [if_pos (by rw [c2]; rfl), if_pos (Or.inr c2)]
    · rw [if_neg (show ¬ nI (knd L s) = 0 from fun z => c2 ((nI_eq (b := 0) (by omega) (by omega)).mp z)), if_neg (by omega)]
theorem j_take {σ : St} (h : II σ) (a1 a2 : Int32) : JJ (f_PC_take σ a1 a2) (fun σ1 => f_Mo_take σ1 a1 a2) := by
  have h0 := h
  obtain ⟨n, S, LL, B, m, T, h⟩ := h
  have hI := h.1
  have hn := hI.1
  have h4 := hI.2.2.2.1
  obtain ⟨⟨hh, hB⟩, hR⟩ := h.2.2.2.1
  rcases ixC a1 (show n < 2 ^ 31 by omega) with hx | ⟨c, hc, rfl⟩
  · refine J_eq (r := -101) h0 ?_ ?_
    · unfold f_PC_take
      exact ok_b2e (codeAt_out hI hx) (ok_onN rfl (ok_some rfl))
    · show ok (f_Mo_take σ a1 a2) _
      unfold f_Mo_take
      exact ok_b2e (has_out h4 hx) (ok_t rfl (ok_some rfl))
  · have K := hI.ck c hc
    have L := hI.lr c hc
    have hkl := knd_lt (LL c) (S c)
    by_cases d : knd (LL c) (S c) = 4 ∨ knd (LL c) (S c) = 0
    · refine J_eq (r := -103) h0 ?_ ?_
      · unfold f_PC_take
        refine ok_b2e (codeAt_in hI hc) (ok_on rfl (ok_b2e (e_canBeRead K) ?_))
        rw [if_pos d]
        exact ok_t rfl (ok_some rfl)
      · show ok (f_Mo_take σ (nI c) a2) _
        unfold f_Mo_take
        refine ok_b2e (has_in h4 hn hc) (ok_f (by decide) (ok_b2 (e_moKind L) (fun σ3 x4 h3 => ?_)))
        cases h3
        refine ok_if (fun _ => ok_some rfl) (fun z => ok_t ?_ (ok_some rfl))
        rcases d with d | d
        · rw [d]
          rfl
        · exact absurd (by rw [d]; rfl) z
    · unfold f_PC_take
      refine ok_b2e (codeAt_in hI hc) (ok_on rfl (ok_b2e (e_canBeRead K) ?_))
      rw [if_neg d]
      refine ok_f (by decide) ?_
      have ref : ∀ {σ1 : St} {x : Int32}, fr F3 σ σ1 → ok (f_Mo_taken σ1 (nI c) a2) (fun o2 => x = o2.2 ∧ II o2.1) → ok (f_Mo_take σ1 (nI c) a2) (fun o2 => x = o2.2 ∧ II o2.1) := fun {σ1 x} f1 u => by
        have L1 : LR σ1 c (S c) (LL c) := L.go (f1.fi (fun _ => by omega)) (f1.fi (fun _ => by omega))
        unfold f_Mo_take
        refine ok_b2e (has_in (by rw [f1.i (by omega)]; exact h4) hn hc) (ok_f (by decide) (ok_b2 (e_moKind L1) (fun σ3 x4 h3 => ?_)))
        cases h3
        refine ok_f (fun z => d (Or.inr ((nI_eq (b := 0) (by omega) (by omega)).mp z))) (ok_f (fun z => d (Or.inl ((nI_eq (b := 4) (by omega) (by omega)).mp z))) ?_)
        exact ok_b2 u (fun σ5 x6 h5 => ok_some h5)
      by_cases b : a2 = 0
      · subst b
        refine ok_b2 (s_removeSymbol K hB) (fun σ6 x7 h6 => ok_some ?_)
        obtain ⟨u1, ⟨X, u2, u3⟩, u4⟩ := h6
        dsimp only at u1 u3 u4
        refine ref u4 ((s_taken (L.go (u4.fi (fun _ => by omega)) (u4.fi (fun _ => by omega))) (hR.fr u4 (fun f i k z => by omega))).mono (fun o ho => ⟨?_, ?_⟩))
        · show x7 = o.2
          rw [u1, ho.1]
        · exact (h.ss (B' := (dec (LL c) (S c) B 0 0).2) (u4.un ho.2.2) (fun f i k z => by omega) ⟨⟨_, u3.fr ho.2.2 (fun f i k z => by omega)⟩, ho.2.1⟩).ii
      · refine ok_b2 (s_removeSymbolB (B := B.reverse) K (by rw [List.reverse_reverse]; exact hB) b) (fun σ6 x7 h6 => ok_some ?_)
        obtain ⟨u1, u3, u4⟩ := h6
        dsimp only at u1 u3 u4
        refine ref u4 ((s_takenB (B := B.reverse) (L.go (u4.fi (fun _ => by omega)) (u4.fi (fun _ => by omega))) (by rw [List.reverse_reverse]; exact hR.fr u4 (fun f i k z => by omega)) b).mono (fun o ho => ⟨?_, ?_⟩))
        · show x7 = o.2
          rw [u1, ho.1]
        · exact (h.ss (B' := (dec (LL c) (S c) B.reverse 0 0).2.reverse) (u4.un ho.2.2) (fun f i k z => by omega) ⟨⟨_, u3.fr ho.2.2 (fun f i k z => by omega)⟩, ho.2.1⟩).ii
