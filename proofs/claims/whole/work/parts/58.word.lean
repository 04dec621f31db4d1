/-! ===== words ===== -/
theorem cnt_min {L : Nat → Nat} {l k y : Nat} : cnt L l (min (k + 1) y) = cnt L l (min k y) + (if k < y ∧ L k = l then 1 else 0) := by
  by_cases h : k < y
  · rw [show min (k + 1) y = k + 1 by omega, show min k y = k by omega]
    simp only [cnt]
    by_cases h2 : L k = l
    · rw [if_pos h2, if_pos ⟨h, h2⟩]
    · rw [if_neg h2, if_neg (fun z => h2 z.2)]
  · rw [show min (k + 1) y = y by omega, show min k y = y by omega, if_neg (fun z => h z.1), Nat.add_zero]
theorem wrd_mul {L : Nat → Nat} {s k : Nat} (h1 : 1 ≤ L k) (h2 : L k ≤ 15) : sumS (fun m => 2 ^ (15 - m)) L (L k - 1) s + cnt L (L k) k * 2 ^ (15 - L k) = wrd L s k * 2 ^ (15 - L k) := by
  rw [sumS_eq]
  have h := wa_fil (fun m => cnt L m s) (L k - 1) (by omega)
  unfold fil at h
  rw [← h]
  unfold wrd
  rw [Nat.add_mul, show 15 - (L k - 1) = (15 - L k) + 1 by omega, Nat.pow_succ]
  congr 1
  rw [Nat.mul_comm 2 (wa _ _), Nat.mul_assoc, Nat.mul_comm 2]
theorem e_wordOf {σ : St} {c s y : Nat} {L : Nat → Nat} (h : LR σ c s L) (hy : y < s) (h1 : 1 ≤ L y) : ok (f_Mo_wordOf σ (nI c) (nI y)) (fun o => o = (σ, nI (wrd L s y))) := by
  have hs := h.2.1
  have hc := h.2.2.1
  have hly := (h.2.2.2 y hy).2
  unfold f_Mo_wordOf
  rw [e_lengthOf h hy]
  dsimp only [b2]
  have bd : ∀ k, k ≤ s → sumS (fun m => 2 ^ (15 - m)) L (L y - 1) k + cnt L (L y) (min k y) * 2 ^ (15 - L y) ≤ 32768 * 128 := by
    intro k hk
    have a1 := sumS_pow L (L y - 1) k
    have a2 := cnt_le L (L y) (min k y)
    have a3 := pow15 (L y)
    have a4 : cnt L (L y) (min k y) * 2 ^ (15 - L y) ≤ 64 * 32768 := Nat.mul_le_mul (by omega) a3
    omega
  refine ok_b3 (Q := fun q => q.1 = σ ∧ q.2.1 = nI (sumS (fun m => 2 ^ (15 - m)) L (L y - 1) s + cnt L (L y) (min s y) * 2 ^ (15 - L y))) (ok_up s (fun k q => q = (σ, nI (sumS (fun m => 2 ^ (15 - m)) L (L y - 1) k + cnt L (L y) (min k y) * 2 ^ (15 - L y)), nI k)) ?_ ?_ 0 _ (Nat.zero_le _) ?_) (fun σ1 x z hq => ok_some ?_)
  · rintro k _ hk rfl
    dsimp only
    have b0 := bd k (by omega)
    have hl := (h.2.2.2 k hk).2
    have es : sumS (fun m => 2 ^ (15 - m)) L (L y - 1) (k + 1) = sumS (fun m => 2 ^ (15 - m)) L (L y - 1) k + (if 1 ≤ L k ∧ L k ≤ L y - 1 then 2 ^ (15 - L k) else 0) := rfl
    have ec := cnt_min (L := L) (l := L y) (k := k) (y := y)
    unfold lb_Mo_wordOf_13
    rw [nI_cl (by omega), h.1]
    refine ok_gd (nI_ib (by omega) (by omega)) (ok_f (nI_ge hk (by omega)) ?_)
    rw [e_lengthOf h hk]
    dsimp only [b2]
    refine ok_if (fun hz => ok_nm (fun x5 e5 => ok_some ?_)) (fun hz => ok_if (fun hlt => ?_) (fun hlt => ok_if (fun heq => ok_if (fun hge => ok_nm (fun x9 e9 => ok_some ?_)) (fun hge => ?_)) (fun heq => ok_nm (fun x8 e8 => ok_some ?_))))
    · have hz' : L k = 0 := by
        have := (nI_leI (b := 0) (by omega) (by omega)).mp hz
        omega
      rw [if_neg (by omega)] at es
      rw [if_neg (by omega)] at ec
      simp only [Nat.add_zero] at es ec
      rw [e5, nI_1, es, ec]
    · have hz' : L k ≠ 0 := fun q => hz (by rw [q]; exact nI_le (b := 0) (Nat.le_refl _) (by omega))
      have hlt' := (nI_ltI (by omega) (by omega)).mp hlt
      rw [if_pos (by omega)] at es
      rw [if_neg (by omega)] at ec
      rw [shrW hl, nI_add]
      refine ok_nm (fun x6 e6 => ok_nm (fun x7 e7 => ok_some ?_))
      simp only [Nat.add_zero] at es ec
      rw [e6, e7, nI_1, es, ec]
      congr 3
      omega
    · have hz' : L k ≠ 0 := fun q => hz (by rw [q]; exact nI_le (b := 0) (Nat.le_refl _) (by omega))
      have heq' := (nI_eq (by omega) (by omega)).mp heq
      have hge' := (nI_leI (by omega) (by omega)).mp hge
      rw [if_neg (by omega)] at es
      rw [if_neg (by omega)] at ec
      simp only [Nat.add_zero] at es ec
      rw [e9, nI_1, es, ec]
    · have hz' : L k ≠ 0 := fun q => hz (by rw [q]; exact nI_le (b := 0) (Nat.le_refl _) (by omega))
      have heq' := (nI_eq (by omega) (by omega)).mp heq
      have hge' : ¬ y ≤ k := fun q => hge (nI_le q (by omega))
      rw [if_neg (by omega)] at es
      rw [if_pos (by omega)] at ec
      rw [shrW hl, nI_add]
      refine ok_nm (fun x6 e6 => ok_nm (fun x7 e7 => ok_some ?_))
      simp only [Nat.add_zero] at es
      rw [e6, e7, nI_1, es, ec, heq', Nat.add_mul, Nat.one_mul, Nat.add_assoc]
    · have hlt' : ¬ L k < L y := fun q => hlt (nI_lt q (by omega))
      have heq' : ¬ L k = L y := fun q => heq (by rw [q])
      rw [if_neg (by omega)] at es
      rw [if_neg (fun z => heq' z.2)] at ec
      simp only [Nat.add_zero] at es ec
      rw [e8, nI_1, es, ec]
  · rintro _ rfl
    dsimp only
    unfold lb_Mo_wordOf_13
    rw [nI_cl (by omega), h.1]
    exact ok_gd (nI_ib (by omega) (by omega)) (ok_t (nI_le (Nat.le_refl _) (by omega)) (ok_some ⟨rfl, rfl⟩))
  · simp [sumS, cnt]
    rfl
  · obtain ⟨q1, q2⟩ := hq
    dsimp only at q1 q2
    have b0 := bd s (Nat.le_refl _)
    rw [show min s y = y by omega, wrd_mul h1 hly] at b0 q2
    rw [q1, q2, show (15 : Int32) - nI (L y) = nI (15 - L y) from pk_sub (a := 15) (by omega), pk_shrN (by omega) _ (15 - L y) (s_l _ (by omega)), Nat.mul_div_cancel _ (Nat.two_pow_pos _)]
theorem wrd_lt {L : Nat → Nat} {s k : Nat} (hk : k < s) (hs : s ≤ 64) (h1 : 1 ≤ L k) (h2 : L k ≤ 15) : wrd L s k < 2 ^ 22 := by
  have a1 := wa_le (fun m => cnt L m s) (L k - 1)
  have a2 := hvn_le L (L k - 1) s
  have a3 := cnt_le L (L k) k
  have a4 : 2 ^ (L k - 1) ≤ 2 ^ 14 := Nat.pow_le_pow_right (by omega) (by omega)
  have a5 : 2 ^ (L k - 1) * hvn (fun m => cnt L m s) (L k - 1) ≤ 2 ^ 14 * 64 := Nat.mul_le_mul a4 (by omega)
  unfold wrd
  omega
/-- a word turned: its lowest bit first -/
def tw (v : Int32) : Nat → Nat
  | 0 => 0
  | k + 1 => 2 * tw v k + (bt v k).toNat
theorem tw_lt (v : Int32) : ∀ n, tw v n < 2 ^ n
  | 0 => by simp [tw]
  | n + 1 => by
    have := tw_lt v n
    have hb : (bt v n).toNat ≤ 1 := by cases bt v n <;> decide
    simp only [tw]
    rw [Nat.pow_succ]
    omega
theorem e_turn {σ : St} (v : Int32) {n : Nat} (hn : n ≤ 15) : ok (f_Mo_turn σ v (nI n)) (fun o => o = (σ, nI (tw v n))) := by
  unfold f_Mo_turn
  refine ok_b3 (Q := fun q => q.1 = σ ∧ q.2.1 = nI (tw v n)) (ok_up n (fun k q => q = (σ, nI (tw v k), nI k)) ?_ ?_ 0 _ (Nat.zero_le _) rfl) (fun σ1 x z hq => ok_some ?_)
  · rintro k _ hk rfl
    dsimp only
    unfold lb_Mo_turn_4
    rw [shr_bit _ (by omega)]
    refine ok_f (nI_ge hk (by omega)) (ok_nm (fun x1 e1 => ok_nm (fun x2 e2 => ok_some ?_)))
    rw [e1, e2, nI_1, b2i_nI]
    show (σ, nI 2 * nI (tw v k) + nI (bt v k).toNat, nI (k + 1)) = _
    rw [pk_mul, nI_add]
    rfl
  · rintro _ rfl
    dsimp only
    unfold lb_Mo_turn_4
    exact ok_t (nI_le (Nat.le_refl _) (by omega)) (ok_some ⟨rfl, rfl⟩)
  · obtain ⟨q1, q2⟩ := hq
    dsimp only at q1 q2
    rw [q1, q2]
theorem e_turnedWord {σ : St} {j s y : Nat} {L : Nat → Nat} (h : LN σ j s L) (hy : y < s) : ok (f_Code_turnedWord σ j (nI y)) (fun o => o = (σ, nI (tw (σ.1 43 j y) (L y)))) := by
  have hs := h.2.1
  obtain ⟨h1, h2⟩ := h.2.2 y hy
  unfold f_Code_turnedWord
  refine ok_b3 (Q := fun q => q.1 = σ ∧ q.2.1 = nI (tw (σ.1 43 j y) (L y))) (ok_up (L y) (fun k q => q = (σ, nI (tw (σ.1 43 j y) k), nI k)) ?_ ?_ 0 _ (Nat.zero_le _) rfl) (fun σ1 x z hq => ok_some ?_)
  · rintro k _ hk rfl
    dsimp only
    have b0 := tw_lt (σ.1 43 j y) k
    have b1 : 2 ^ k ≤ 2 ^ 15 := Nat.pow_le_pow_right (by omega) (by omega)
    unfold lb_Code_turnedWord_4
    rw [nI_cl (by omega), h1, ushr_bit _ (by omega), shl1 (by omega), or_b2i]
    have hib : ib (nI y) 64 := nI_ib (by omega) (by omega)
    refine ok_gd hib (ok_f (nI_ge hk (by omega)) (ok_gd hib (ok_nm (fun x1 e1 => ok_nm (fun x2 e2 => ok_some ?_)))))
    rw [e1, e2, nI_1]
    rfl
  · rintro _ rfl
    dsimp only
    unfold lb_Code_turnedWord_4
    rw [nI_cl (by omega), h1]
    exact ok_gd (nI_ib (by omega) (by omega)) (ok_t (nI_le (Nat.le_refl _) (by omega)) (ok_some ⟨rfl, rfl⟩))
  · obtain ⟨q1, q2⟩ := hq
    dsimp only at q1 q2
    rw [q1, q2]
