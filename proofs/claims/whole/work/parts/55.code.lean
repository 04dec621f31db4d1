/-! ===== Arrays.fill ===== -/
theorem flI_1 {σ : St} {f i n f' i' k' : Nat} {v : Int32} : (flI σ f i n v).1 f' i' k' = if f' = f ∧ i' = i ∧ k' < n then v else σ.1 f' i' k' := rfl
theorem flI_at {σ : St} {f i n k : Nat} {v : Int32} (h : k < n) : (flI σ f i n v).1 f i k = v := by rw [flI_1, if_pos ⟨rfl, rfl, h⟩]
theorem fr_flI {S : Nat → Nat → Nat → Prop} {σ : St} {f i n : Nat} {v : Int32} (h : ∀ k, S f i k) : fr S σ (flI σ f i n v) := ⟨fun f' i' k' hn => ⟨by
  rw [flI_1, if_neg (fun z => hn (by rw [z.1, z.2.1]; exact h k'))], rfl, rfl⟩, rfl⟩
theorem flI_succ {σ : St} {f i n : Nat} {v : Int32} : sI (flI σ f i n v) f i n v = flI σ f i (n + 1) v := by
  refine Prod.ext (funext fun f' => funext fun i' => funext fun k' => ?_) rfl
  rw [sI_1, flI_1, flI_1]
  by_cases h1 : f' = f ∧ i' = i
  · by_cases h2 : k' = n
    · rw [if_pos ⟨h1.1, h1.2, h2⟩, if_pos ⟨h1.1, h1.2, by omega⟩]
    · rw [if_neg (fun z => h2 z.2.2)]
      by_cases h3 : k' < n
      · rw [if_pos ⟨h1.1, h1.2, h3⟩, if_pos ⟨h1.1, h1.2, by omega⟩]
      · rw [if_neg (fun z => h3 z.2.2), if_neg (fun z => by omega)]
  · rw [if_neg (fun z => h1 ⟨z.1, z.2.1⟩), if_neg (fun z => h1 ⟨z.1, z.2.1⟩), if_neg (fun z => h1 ⟨z.1, z.2.1⟩)]
theorem s_fill {σ : St} {f i n : Nat} (hn : n < 2 ^ 31) (v : Int32) : ok (f_Arrays_fill σ f i n v) (fun σ1 => σ1 = flI σ f i n v) := by
  unfold f_Arrays_fill
  refine ok_nm (fun x1 e1 => ok_b2 (Q := fun q => q.1 = flI σ f i n v) (ok_up n (fun k q => q.1 = flI σ f i k v ∧ q.2 = nI k) ?_ ?_ 0 _ (Nat.zero_le _) ⟨?_, rfl⟩) (fun σ4 x5 h => ok_some h))
  · rintro k ⟨σ1, x⟩ hk ⟨q1, rfl⟩
    dsimp only at q1 ⊢
    unfold lb_Arrays_fill_5
    rw [e1]
    refine ok_f (nI_ge hk hn) (ok_gd (nI_ib hk hn) (ok_nm (fun σ2 e2 => ok_nm (fun x3 e3 => ok_some ⟨?_, ?_⟩))))
    · rw [e2, nI_cl (by omega), q1, flI_succ]
    · rw [e3, nI_1]
  · rintro ⟨σ1, x⟩ ⟨q1, rfl⟩
    dsimp only at q1 ⊢
    unfold lb_Arrays_fill_5
    rw [e1]
    exact ok_t (nI_le (Nat.le_refl _) hn) (ok_some q1)
  · refine Prod.ext (funext fun f' => funext fun i' => funext fun k' => ?_) rfl
    rw [flI_1, if_neg (fun z => by omega)]
/-! ===== a code of the class: what follows from its lengths ===== -/
def LN (σ : St) (j s : Nat) (L : Nat → Nat) : Prop := σ.1 41 j 0 = nI s ∧ s ≤ 64 ∧ ∀ k, k < s → σ.1 42 j k = nI (L k) ∧ L k ≤ 15
theorem LN.go {σ σ1 : St} {j s : Nat} {L : Nat → Nat} (h : LN σ j s L) (h1 : σ1.1 41 j 0 = σ.1 41 j 0) (h2 : σ1.1 42 j = σ.1 42 j) : LN σ1 j s L := ⟨h1.trans h.1, h.2.1, fun k hk => by rw [h2]; exact h.2.2 k hk⟩
abbrev F45 (j : Nat) : Nat → Nat → Nat → Prop := fun f i _ => f = 45 ∧ i = j
theorem s_countLengths {σ : St} {j s : Nat} {L : Nat → Nat} (h : LN σ j s L) : ok (f_Code_countLengths σ j) (fun σ1 => (∀ l, l ≤ 15 → σ1.1 45 j l = nI (cnt L l s)) ∧ fr (F45 j) σ σ1) := by
  unfold f_Code_countLengths
  refine ok_b1 (s_fill (by omega) 0) (fun σ1 e1 => ok_b2 (Q := fun q => (∀ l, l ≤ 15 → q.1.1 45 j l = nI (cnt L l s)) ∧ fr (F45 j) σ q.1) (ok_up s (fun k q => q.2 = nI k ∧ (∀ l, l ≤ 15 → q.1.1 45 j l = nI (cnt L l k)) ∧ fr (F45 j) σ q.1) ?_ ?_ 0 _ (Nat.zero_le _) ⟨rfl, fun l hl => ?_, ?_⟩) (fun σ4 x5 h => ok_some h))
  · rintro k ⟨σ2, x⟩ hk ⟨rfl, q1, q2⟩
    dsimp only at q1 q2 ⊢
    have g := h.go (q2.i (by omega)) (q2.fi (fun _ => by omega))
    unfold lb_Code_countLengths_10
    have gs := g.2.1
    obtain ⟨g1, g2⟩ := g.2.2 k hk
    rw [g.1, nI_cl (by omega), g1, nI_cl (by omega), q1 _ g2, nI_1]
    refine ok_f (nI_ge hk (by omega)) (ok_gd (nI_ib (by omega) (by omega)) (ok_gd (nI_ib (by omega) (by omega)) (ok_gd (nI_ib (by omega) (by omega)) (ok_nm (fun σ3 e3 => ok_nm (fun x3 ex => ok_some ⟨?_, fun l hl => ?_, ?_⟩))))))
    · rw [ex, nI_1]
    · rw [e3]
      by_cases hl2 : l = L k
      · subst hl2
        rw [sI_at]
        simp only [cnt, if_true]
      · rw [sI_k hl2, q1 l hl]
        simp only [cnt]
        rw [if_neg (fun z => hl2 z.symm), Nat.add_zero]
    · rw [e3]
      exact q2.tr (fr_sI ⟨rfl, rfl⟩)
  · rintro ⟨σ2, x⟩ ⟨rfl, q1, q2⟩
    dsimp only at q1 q2 ⊢
    have g := h.go (q2.i (by omega)) (q2.fi (fun _ => by omega))
    unfold lb_Code_countLengths_10
    rw [g.1]
    exact ok_t (nI_le (Nat.le_refl _) (by have := h.2.1; omega)) (ok_some ⟨q1, q2⟩)
  · rw [e1, flI_at (by omega)]
    rfl
  · rw [e1]
    exact fr_flI (fun _ => ⟨rfl, rfl⟩)
theorem shlk {n k : Nat} (hk : k < 32) (h : n * 2 ^ k < 2 ^ 32) : nI n <<< (nI k &&& 31) = nI (n * 2 ^ k) := pk_shlN _ k (s_l k hk) h
abbrev Fp (j : Nat) : Nat → Nat → Nat → Prop := fun f i k => i = j ∧ (f = 46 ∨ f = 47 ∨ (f = 41 ∧ (k = 7 ∨ k = 8 ∨ k = 9)))
theorem s_placeLengths {σ : St} {j s : Nat} {c : Nat → Nat} (hc : ∀ l, l ≤ 15 → σ.1 45 j l = nI (c l)) (hs : s ≤ 64) (hv : ∀ l, hvn c l ≤ s) : ok (f_Code_placeLengths σ j) (fun σ1 => (∀ l, 1 ≤ l → l ≤ 15 → σ1.1 46 j l = nI (2 * wa c (l - 1)) ∧ σ1.1 47 j l = nI (hvn c (l - 1))) ∧ σ1.1 41 j 7 = nI (fil c 15) ∧ σ1.1 41 j 8 = nI (hvn c 15) ∧ σ1.1 41 j 9 = nI (gre c 15) ∧ fr (Fp j) σ σ1) := by
  unfold f_Code_placeLengths
  refine ok_nm (fun σ1 e1 => ok_nm (fun σ2 e2 => ok_nm (fun σ3 e3 => ok_b3 (Q := fun q => (∀ l, 1 ≤ l → l ≤ 15 → q.1.1 46 j l = nI (2 * wa c (l - 1)) ∧ q.1.1 47 j l = nI (hvn c (l - 1))) ∧ q.1.1 41 j 7 = nI (fil c 15) ∧ q.1.1 41 j 8 = nI (hvn c 15) ∧ q.1.1 41 j 9 = nI (gre c 15) ∧ fr (Fp j) σ q.1) (ok_up 15 (fun l q => q.2.1 = nI (wa c l) ∧ q.2.2 = nI (l + 1) ∧ (∀ m, 1 ≤ m → m ≤ l → q.1.1 46 j m = nI (2 * wa c (m - 1)) ∧ q.1.1 47 j m = nI (hvn c (m - 1))) ∧ q.1.1 41 j 7 = nI (fil c l) ∧ q.1.1 41 j 8 = nI (hvn c l) ∧ q.1.1 41 j 9 = nI (gre c l) ∧ fr (Fp j) σ q.1) ?_ ?_ 0 _ (Nat.zero_le _) ⟨rfl, rfl, fun m h1 h2 => absurd h1 (by omega), ?_, ?_, ?_, ?_⟩) (fun σ4 x5 x6 h => ok_some h))))
  · rintro l ⟨σ4, v1, v2⟩ hl ⟨rfl, rfl, q1, q2, q3, q4, q5⟩
    dsimp only at q1 q2 q3 q4 q5 ⊢
    have hvl := hv l
    have hvs := hv (l + 1)
    have hwa := wa_le c l
    have hp : 2 ^ l ≤ 2 ^ 14 := Nat.pow_le_pow_right (by omega) (by omega)
    have hw : wa c l ≤ 2 ^ 14 * 64 := Nat.le_trans hwa (Nat.mul_le_mul hp (by omega))
    have hcl : c (l + 1) ≤ 64 := by
      simp only [hvn] at hvs
      omega
    have h45 : σ4.1 45 j (l + 1) = nI (c (l + 1)) := by
      rw [q5.i (by omega)]
      exact hc (l + 1) (by omega)
    have hpl : 2 ^ (15 - (l + 1)) ≤ 2 ^ 14 := Nat.pow_le_pow_right (by omega) (by omega)
    have hcp : c (l + 1) * 2 ^ (15 - (l + 1)) ≤ 64 * 2 ^ 14 := Nat.mul_le_mul hcl hpl
    unfold lb_Code_placeLengths_19
    rw [nI_cl (by omega), shl1 (by omega)]
    have hib : ib (nI (l + 1)) 16 := nI_ib (by omega) (by omega)
    refine ok_f (nI_nlt (a := 15) (b := l + 1) (by omega) (by omega)) (ok_nm (fun x4 e4 => ok_gd hib (ok_nm (fun σ5 e5 => ok_gd hib (ok_nm (fun σ6 e6 => ok_gd hib (ok_nm (fun x7 e7 => ok_gd hib (ok_nm (fun σ8 e8 => ok_gd hib (ok_nm (fun σ9 e9 => ok_gd hib ?_))))))))))))
    have k5 : σ5.1 41 j 8 = nI (hvn c l) := by rw [e5, sI_f (by omega)]; exact q3
    rw [k5] at e6
    have k6a : σ6.1 45 j (l + 1) = nI (c (l + 1)) := by rw [e6, sI_f (by omega), e5, sI_f (by omega)]; exact h45
    have k6b : σ6.1 41 j 8 = nI (hvn c l) := by rw [e6, sI_f (by omega)]; exact k5
    rw [k6a, e4, nI_add] at e7
    rw [k6a, k6b, nI_add] at e8
    have k8a : σ8.1 45 j (l + 1) = nI (c (l + 1)) := by rw [e8, sI_f (by omega)]; exact k6a
    have k8b : σ8.1 41 j 7 = nI (fil c l) := by rw [e8, sI_k (by omega), e6, sI_f (by omega), e5, sI_f (by omega)]; exact q2
    rw [k8a, k8b, show (15 : Int32) - nI (l + 1) = nI (15 - (l + 1)) from pk_sub (a := 15) (by omega), shlk (by omega) (by omega), nI_add] at e9
    have k9 : σ9.1 45 j (l + 1) = nI (c (l + 1)) := by rw [e9, sI_f (by omega)]; exact k8a
    have f9 : fr (Fp j) σ σ9 := by
      rw [e9, e8, e6, e5]
      exact q5.tr ((fr_sI ⟨rfl, Or.inl rfl⟩).tr ((fr_sI ⟨rfl, Or.inr (Or.inl rfl)⟩).tr ((fr_sI ⟨rfl, Or.inr (Or.inr ⟨rfl, by omega⟩)⟩).tr (fr_sI ⟨rfl, Or.inr (Or.inr ⟨rfl, by omega⟩)⟩))))
    have g46 : ∀ m, 1 ≤ m → m ≤ l + 1 → σ9.1 46 j m = nI (2 * wa c (m - 1)) ∧ σ9.1 47 j m = nI (hvn c (m - 1)) := by
      intro m h1 h2
      rw [e9, sI_f (by omega), sI_f (by omega), e8, sI_f (by omega), sI_f (by omega), e6, sI_f (by omega), e5]
      by_cases hm : m = l + 1
      · subst hm
        rw [sI_at, sI_at, e4]
        exact ⟨rfl, rfl⟩
      · rw [sI_k hm, sI_k hm, sI_f (by omega)]
        exact q1 m h1 (by omega)
    have g7 : σ9.1 41 j 7 = nI (fil c (l + 1)) := by rw [e9, sI_at]; rfl
    have g8 : σ9.1 41 j 8 = nI (hvn c (l + 1)) := by rw [e9, sI_k (by omega), e8, sI_at]; rfl
    have g9 : σ9.1 41 j 9 = nI (gre c l) := by rw [e9, sI_k (by omega), e8, sI_k (by omega), e6, sI_f (by omega), e5, sI_f (by omega)]; exact q4
    rw [k9]
    refine ok_if (fun hz => ok_nm (fun x10 e10 => ok_some ?_)) (fun hz => ok_nm (fun σ11 e11 => ok_nm (fun x12 e12 => ok_some ?_)))
    · have hz' : c (l + 1) = 0 := by
        have := (nI_leI (b := 0) (by omega) (by omega)).mp hz
        omega
      dsimp only
      exact ⟨by rw [e7]; rfl, by rw [e10, nI_1], g46, g7, g8, by rw [g9]; simp only [gre]; rw [if_neg (by omega)], f9⟩
    · have hz' : 0 < c (l + 1) := by
        rcases Nat.eq_zero_or_pos (c (l + 1)) with q | q
        · exact absurd (by rw [q]; exact nI_le (b := 0) (Nat.le_refl _) (by omega)) hz
        · exact q
      dsimp only
      rw [e11]
      refine ⟨by rw [e7]; rfl, by rw [e12, nI_1], fun m h1 h2 => ?_, ?_, ?_, ?_, f9.tr (fr_sI ⟨rfl, Or.inr (Or.inr ⟨rfl, by omega⟩)⟩)⟩
      · rw [sI_f (by omega), sI_f (by omega)]
        exact g46 m h1 h2
      · rw [sI_k (by omega)]; exact g7
      · rw [sI_k (by omega)]; exact g8
      · rw [sI_at]
        simp only [gre]
        rw [if_pos hz']
  · rintro ⟨σ4, v1, v2⟩ ⟨rfl, rfl, q1, q2, q3, q4, q5⟩
    dsimp only at q1 q2 q3 q4 q5 ⊢
    unfold lb_Code_placeLengths_19
    exact ok_t (nI_lt (a := 15) (b := 16) (by omega) (by omega)) (ok_some ⟨q1, q2, q3, q4, q5⟩)
  · rw [e3, sI_k (by omega), e2, sI_k (by omega), e1, sI_at]; rfl
  · rw [e3, sI_k (by omega), e2, sI_at]; rfl
  · rw [e3, sI_at]; rfl
  · rw [e3, e2, e1]
    exact (fr_sI ⟨rfl, Or.inr (Or.inr ⟨rfl, by omega⟩)⟩).tr ((fr_sI ⟨rfl, Or.inr (Or.inr ⟨rfl, by omega⟩)⟩).tr (fr_sI ⟨rfl, Or.inr (Or.inr ⟨rfl, by omega⟩)⟩))
