abbrev Fn (j : Nat) : Nat → Nat → Nat → Prop := fun f i _ => i = j ∧ (f = 43 ∨ f = 44 ∨ f = 45)
theorem s_nameSymbols {σ : St} {j s : Nat} {L : Nat → Nat} (h : LN σ j s L) (h46 : ∀ l, 1 ≤ l → l ≤ 15 → σ.1 46 j l = nI (2 * wa (fun m => cnt L m s) (l - 1)) ∧ σ.1 47 j l = nI (hvn (fun m => cnt L m s) (l - 1))) : ok (f_Code_nameSymbols σ j) (fun σ1 => (∀ l, 1 ≤ l → l ≤ 15 → σ1.1 45 j l = nI (cnt L l s)) ∧ (∀ k, k < s → 1 ≤ L k → σ1.1 43 j k = nI (wrd L s k) ∧ σ1.1 44 j (plc L s k) = nI k) ∧ fr (Fn j) σ σ1) := by
  unfold f_Code_nameSymbols
  refine ok_b1 (s_fill (by omega) 0) (fun σ1 e1 => ok_b2 (Q := fun q => (∀ l, 1 ≤ l → l ≤ 15 → q.1.1 45 j l = nI (cnt L l s)) ∧ (∀ k, k < s → 1 ≤ L k → q.1.1 43 j k = nI (wrd L s k) ∧ q.1.1 44 j (plc L s k) = nI k) ∧ fr (Fn j) σ q.1) (ok_up s (fun k q => q.2 = nI k ∧ (∀ l, 1 ≤ l → l ≤ 15 → q.1.1 45 j l = nI (cnt L l k)) ∧ (∀ m, m < k → 1 ≤ L m → q.1.1 43 j m = nI (wrd L s m) ∧ q.1.1 44 j (plc L s m) = nI m) ∧ fr (Fn j) σ q.1) ?_ ?_ 0 _ (Nat.zero_le _) ⟨rfl, fun l h1 hl => ?_, fun m hm => absurd hm (by omega), ?_⟩) (fun σ4 x5 h => ok_some h))
  · rintro k ⟨σ2, x⟩ hk ⟨rfl, q1, q2, q3⟩
    dsimp only at q1 q2 q3 ⊢
    have hs := h.2.1
    have g := h.go (q3.i (by omega)) (q3.fi (fun _ => by omega))
    obtain ⟨g1, g2⟩ := g.2.2 k hk
    unfold lb_Code_nameSymbols_10
    rw [g.1, nI_cl (by omega), g1]
    have hib : ib (nI k) 64 := nI_ib (by omega) (by omega)
    refine ok_f (nI_ge hk (by omega)) (ok_gd hib (ok_nm (fun x2 e2 => ?_)))
    rw [e2]
    refine ok_if (fun hz => ok_nm (fun x3 e3 => ok_some ?_)) (fun hz => ?_)
    · have hz' : L k = 0 := by
        have := (nI_leI (b := 0) (by omega) (by omega)).mp hz
        omega
      dsimp only
      refine ⟨by rw [e3, nI_1], fun l h1 hl => ?_, fun m hm h1 => ?_, q3⟩
      · rw [q1 l h1 hl]
        simp only [cnt]
        rw [if_neg (by omega), Nat.add_zero]
      · exact q2 m (by
          rcases Nat.lt_or_ge m k with q | q
          · exact q
          · have : m = k := by omega
            rw [this] at h1
            omega) h1
    · have hz' : 1 ≤ L k := by
        rcases Nat.eq_zero_or_pos (L k) with q | q
        · exact absurd (by rw [q]; exact nI_le (b := 0) (Nat.le_refl _) (by omega)) hz
        · exact q
      have hp := plc_lt hk hz'
      rw [nI_cl (by omega)]
      have hi2 : ib (nI (L k)) 16 := nI_ib (by omega) (by omega)
      have a46 : σ2.1 46 j (L k) = nI (2 * wa (fun m => cnt L m s) (L k - 1)) := by rw [q3.i (by omega)]; exact (h46 (L k) hz' g2).1
      have a47 : σ2.1 47 j (L k) = nI (hvn (fun m => cnt L m s) (L k - 1)) := by rw [q3.i (by omega)]; exact (h46 (L k) hz' g2).2
      have a45 := q1 (L k) hz' g2
      rw [a46, a45, nI_add]
      refine ok_gd hi2 (ok_gd hi2 (ok_gd hib (ok_nm (fun σ4 e4 => ok_gd hi2 (ok_gd hi2 ?_)))))
      have b45 : σ4.1 45 j (L k) = nI (cnt L (L k) k) := by rw [e4, sI_f (by omega)]; exact a45
      have b47 : σ4.1 47 j (L k) = nI (hvn (fun m => cnt L m s) (L k - 1)) := by rw [e4, sI_f (by omega)]; exact a47
      rw [b45, b47, nI_add, show hvn (fun m => cnt L m s) (L k - 1) + cnt L (L k) k = plc L s k from rfl, nI_cl (by omega)]
      refine ok_gd (nI_ib (by omega) (by omega)) (ok_nm (fun σ5 e5 => ok_gd hi2 (ok_gd hi2 (ok_nm (fun σ6 e6 => ok_nm (fun x7 e7 => ok_some ?_))))))
      have c45 : σ5.1 45 j (L k) = nI (cnt L (L k) k) := by rw [e5, sI_f (by omega)]; exact b45
      rw [c45, nI_1] at e6
      dsimp only
      refine ⟨by rw [e7, nI_1], fun l h1 hl => ?_, fun m hm h1 => ?_, ?_⟩
      · rw [e6]
        by_cases hl2 : l = L k
        · subst hl2
          rw [sI_at]
          simp only [cnt, if_true]
        · rw [sI_k hl2, e5, sI_f (by omega), e4, sI_f (by omega), q1 l h1 hl]
          simp only [cnt]
          rw [if_neg (fun z => hl2 z.symm), Nat.add_zero]
      · rw [e6, sI_f (by omega), sI_f (by omega), e5, sI_f (by omega)]
        by_cases hmk : m = k
        · subst hmk
          rw [sI_at, e4, sI_at]
          exact ⟨rfl, rfl⟩
        · have hne : plc L s m ≠ plc L s k := fun z => hmk (plc_inj (by omega) hk h1 hz' z)
          rw [sI_k hne, e4, sI_k hmk, sI_f (by omega)]
          exact q2 m (by omega) h1
      · rw [e6, e5, e4]
        exact q3.tr ((fr_sI ⟨rfl, Or.inl rfl⟩).tr ((fr_sI ⟨rfl, Or.inr (Or.inl rfl)⟩).tr (fr_sI ⟨rfl, Or.inr (Or.inr rfl)⟩)))
  · rintro ⟨σ2, x⟩ ⟨rfl, q1, q2, q3⟩
    dsimp only at q1 q2 q3 ⊢
    have g := h.go (q3.i (by omega)) (q3.fi (fun _ => by omega))
    unfold lb_Code_nameSymbols_10
    rw [g.1]
    exact ok_t (nI_le (Nat.le_refl _) (by have := h.2.1; omega)) (ok_some ⟨q1, q2, q3⟩)
  · rw [e1, flI_at (by omega)]
    rfl
  · rw [e1]
    exact fr_flI (fun _ => ⟨rfl, Or.inr (Or.inr rfl)⟩)
/-- a code of the class, as renumber() leaves it -/
def CK (σ : St) (j s : Nat) (L : Nat → Nat) : Prop := LN σ j s L ∧
  (∀ l, 1 ≤ l → l ≤ 15 → σ.1 45 j l = nI (cnt L l s) ∧ σ.1 46 j l = nI (2 * wa (fun m => cnt L m s) (l - 1)) ∧ σ.1 47 j l = nI (hvn (fun m => cnt L m s) (l - 1))) ∧
  (∀ k, k < s → 1 ≤ L k → σ.1 43 j k = nI (wrd L s k) ∧ σ.1 44 j (plc L s k) = nI k) ∧
  σ.1 41 j 7 = nI (fil (fun m => cnt L m s) 15) ∧ σ.1 41 j 8 = nI (hvn (fun m => cnt L m s) 15) ∧ σ.1 41 j 9 = nI (gre (fun m => cnt L m s) 15) ∧ σ.1 41 j 10 = nI (knd L s)
abbrev Fr (j : Nat) : Nat → Nat → Nat → Prop := fun f i k => i = j ∧ ((43 ≤ f ∧ f ≤ 47) ∨ (f = 41 ∧ 7 ≤ k ∧ k ≤ 10))
theorem gre_le (c : Nat → Nat) : ∀ l, gre c l ≤ l
  | 0 => Nat.le_refl _
  | l + 1 => by
    have := gre_le c l
    simp only [gre]
    split <;> omega
theorem e_judged {σ : St} {j s : Nat} {L : Nat → Nat} (hs : s ≤ 64) (h7 : σ.1 41 j 7 = nI (fil (fun m => cnt L m s) 15)) (h8 : σ.1 41 j 8 = nI (hvn (fun m => cnt L m s) 15)) (h9 : σ.1 41 j 9 = nI (gre (fun m => cnt L m s) 15)) : f_Code_judged σ j = some (σ, nI (knd L s)) := by
  have b8 := hvn_le L 15 s
  have b7 := fil_le (fun m => cnt L m s) s (fun l => hvn_le L l s) 15
  have b9 := gre_le (fun m => cnt L m s) 15
  unfold f_Code_judged knd
  rw [h7, h8, h9]
  generalize hvn (fun m => cnt L m s) 15 = a at *
  generalize fil (fun m => cnt L m s) 15 = b at *
  generalize gre (fun m => cnt L m s) 15 = c at *
  have e0 : (nI a = 0) = (a = 0) := propext (nI_eq (b := 0) (by omega) (by omega))
  have e1 : (nI a = 1) = (a = 1) := propext (nI_eq (b := 1) (by omega) (by omega))
  have e2 : (nI c = 1) = (c = 1) := propext (nI_eq (b := 1) (by omega) (by omega))
  have e3 : (nI b = 32768) = (b = 32768) := propext (nI_eq (b := 32768) (by omega) (by omega))
  have e4 : ((32768 : Int32) ≤ nI b) = (32768 ≤ b) := propext (nI_leI (a := 32768) (by omega) (by omega))
  simp only [e0, e1, e2, e3, e4]
  repeat' split
  all_goals first | rfl | (exfalso; omega)
theorem s_renumber {σ : St} {j s : Nat} {L : Nat → Nat} (h : LN σ j s L) : ok (f_Code_renumber σ j) (fun σ1 => CK σ1 j s L ∧ fr (Fr j) σ σ1) := by
  unfold f_Code_renumber
  refine ok_b1 (s_countLengths h) (fun σ1 h1 => ok_b1 (s_placeLengths (c := fun m => cnt L m s) h1.1 h.2.1 (fun l => hvn_le L l s)) (fun σ2 h2 => ?_))
  obtain ⟨p1, p2, p3, p4, p5⟩ := h2
  have g1 := h.go (h1.2.i (by omega)) (h1.2.fi (fun _ => by omega))
  have g2 := g1.go (p5.i (by omega)) (p5.fi (fun _ => by omega))
  refine ok_b1 (s_nameSymbols g2 p1) (fun σ3 h3 => ?_)
  obtain ⟨r1, r2, r3⟩ := h3
  have g3 := g2.go (r3.i (by omega)) (r3.fi (fun _ => by omega))
  have k7 : σ3.1 41 j 7 = nI (fil (fun m => cnt L m s) 15) := by rw [r3.i (by omega)]; exact p2
  have k8 : σ3.1 41 j 8 = nI (hvn (fun m => cnt L m s) 15) := by rw [r3.i (by omega)]; exact p3
  have k9 : σ3.1 41 j 9 = nI (gre (fun m => cnt L m s) 15) := by rw [r3.i (by omega)]; exact p4
  rw [e_judged h.2.1 k7 k8 k9]
  dsimp only [b2]
  refine ok_nm (fun σ6 e6 => ok_some ?_)
  have f6 : fr (fun f i k => i = j ∧ f = 41 ∧ k = 10) σ3 σ6 := by rw [e6]; exact fr_sI ⟨rfl, rfl, rfl⟩
  refine ⟨⟨g3.go (f6.i (by omega)) (f6.fi (fun _ => by omega)), fun l h1 h2 => ⟨?_, ?_, ?_⟩, fun k hk hl => ?_, ?_, ?_, ?_, ?_⟩, ?_⟩
  · rw [f6.i (by omega)]; exact r1 l h1 h2
  · rw [f6.i (by omega), r3.i (by omega)]; exact (p1 l h1 h2).1
  · rw [f6.i (by omega), r3.i (by omega)]; exact (p1 l h1 h2).2
  · rw [f6.i (by omega), f6.i (by omega)]; exact r2 k hk hl
  · rw [f6.i (by omega)]; exact k7
  · rw [f6.i (by omega)]; exact k8
  · rw [f6.i (by omega)]; exact k9
  · rw [e6, sI_at]
  · exact (h1.2.mono (fun f i k q => by omega)).tr ((p5.mono (fun f i k q => by omega)).tr ((r3.mono (fun f i k q => by omega)).tr (f6.mono (fun f i k q => by omega))))
