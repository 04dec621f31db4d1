/-! ===== the codes of the reference ===== -/
def LR (σ : St) (c s : Nat) (L : Nat → Nat) : Prop := σ.1 49 0 c = nI s ∧ s ≤ 64 ∧ c ≤ 12 ∧ ∀ k, k < s → σ.1 50 0 (64 * c + k) = nI (L k) ∧ L k ≤ 15
theorem i64 {c k : Nat} : (64 : Int32) * nI c + nI k = nI (64 * c + k) := by
  show nI 64 * nI c + nI k = _
  rw [pk_mul, nI_add]
theorem e_lengthOf {σ : St} {c s k : Nat} {L : Nat → Nat} (h : LR σ c s L) (hk : k < s) : f_Mo_lengthOf σ (nI c) (nI k) = some (σ, nI (L k)) := by
  have h1 := h.2.1
  have h2 := h.2.2.1
  unfold f_Mo_lengthOf
  rw [i64, gd_t (nI_ib (by omega) (by omega)), nI_cl (by omega), (h.2.2.2 k hk).1]
theorem shrW {m : Nat} (h : m ≤ 15) : (32768 : Int32) >>> (nI m &&& 31) = nI (2 ^ (15 - m)) := by
  have := (by decide +kernel : ∀ m, m < 16 → (32768 : Int32) >>> (nI m &&& 31) = nI (2 ^ (15 - m)))
  exact this m (by omega)
theorem sumS_all {g L : Nat → Nat} {s : Nat} (hL : ∀ k, k < s → L k ≤ 15) : ∀ k, k < s → sumS g L 15 (k + 1) = sumS g L 15 k + (if L k = 0 then 0 else g (L k)) := by
  intro k hk
  have := hL k hk
  simp only [sumS]
  by_cases h : L k = 0
  · rw [if_pos h, if_neg (by omega)]
  · rw [if_neg h, if_pos (by omega)]
theorem pow15 (m : Nat) : 2 ^ (15 - m) ≤ 32768 := Nat.le_trans (Nat.pow_le_pow_right (by omega) (show 15 - m ≤ 15 by omega)) (by decide)
theorem sumS_pow (L : Nat → Nat) (N : Nat) : ∀ s, sumS (fun m => 2 ^ (15 - m)) L N s ≤ 32768 * s
  | 0 => Nat.le_refl _
  | s + 1 => by
    have := sumS_pow L N s
    have h2 := pow15 (L s)
    simp only [sumS]
    split <;> omega
theorem e_moFilled {σ : St} {c s : Nat} {L : Nat → Nat} (h : LR σ c s L) : ok (f_Mo_filled σ (nI c)) (fun o => o = (σ, nI (fil (fun m => cnt L m s) 15))) := by
  have hs := h.2.1
  have hc := h.2.2.1
  unfold f_Mo_filled
  refine ok_b3 (Q := fun q => q.1 = σ ∧ q.2.1 = nI (sumS (fun m => 2 ^ (15 - m)) L 15 s)) (ok_up s (fun k q => q = (σ, nI (sumS (fun m => 2 ^ (15 - m)) L 15 k), nI k)) ?_ ?_ 0 _ (Nat.zero_le _) rfl) (fun σ1 x y hq => ok_some ?_)
  · rintro k _ hk rfl
    dsimp only
    have b0 := sumS_pow L 15 k
    unfold lb_Mo_filled_4
    rw [nI_cl (by omega), h.1]
    refine ok_gd (nI_ib (by omega) (by omega)) (ok_f (nI_ge hk (by omega)) ?_)
    rw [e_lengthOf h hk]
    dsimp only [b2]
    have hl := (h.2.2.2 k hk).2
    have es := sumS_all (g := fun m => 2 ^ (15 - m)) (fun k hk => (h.2.2.2 k hk).2) k hk
    refine ok_if (fun hz => ok_nm (fun x3 e3 => ok_nm (fun x4 e4 => ok_some ?_))) (fun hz => ?_)
    · have hz' : L k = 0 := by
        have := (nI_leI (b := 0) (by omega) (by omega)).mp hz
        omega
      rw [if_pos hz', Nat.add_zero] at es
      rw [e3, e4, nI_1, es]
      simp
    · have hz' : L k ≠ 0 := fun q => hz (by rw [q]; exact nI_le (b := 0) (Nat.le_refl _) (by omega))
      rw [if_neg hz'] at es
      rw [e_lengthOf h hk]
      dsimp only
      rw [shrW hl, nI_add]
      refine ok_nm (fun x7 e7 => ok_nm (fun x8 e8 => ok_some ?_))
      rw [e7, e8, nI_1, es]
  · rintro _ rfl
    dsimp only
    unfold lb_Mo_filled_4
    rw [nI_cl (by omega), h.1]
    exact ok_gd (nI_ib (by omega) (by omega)) (ok_t (nI_le (Nat.le_refl _) (by omega)) (ok_some ⟨rfl, rfl⟩))
  · obtain ⟨q1, q2⟩ := hq
    dsimp only at q1 q2
    rw [q1, q2, sumS_eq]
    rfl
theorem e_moWords {σ : St} {c s : Nat} {L : Nat → Nat} (h : LR σ c s L) : ok (f_Mo_words σ (nI c)) (fun o => o = (σ, nI (hvn (fun m => cnt L m s) 15))) := by
  have hs := h.2.1
  have hc := h.2.2.1
  unfold f_Mo_words
  refine ok_b3 (Q := fun q => q.1 = σ ∧ q.2.1 = nI (sumS (fun _ => 1) L 15 s)) (ok_up s (fun k q => q = (σ, nI (sumS (fun _ => 1) L 15 k), nI k)) ?_ ?_ 0 _ (Nat.zero_le _) rfl) (fun σ1 x y hq => ok_some ?_)
  · rintro k _ hk rfl
    dsimp only
    unfold lb_Mo_words_4
    rw [nI_cl (by omega), h.1]
    refine ok_gd (nI_ib (by omega) (by omega)) (ok_f (nI_ge hk (by omega)) ?_)
    rw [e_lengthOf h hk]
    dsimp only [b2]
    have hl := (h.2.2.2 k hk).2
    have es := sumS_all (g := fun _ => 1) (fun k hk => (h.2.2.2 k hk).2) k hk
    refine ok_if (fun hz => ok_nm (fun x3 e3 => ok_nm (fun x4 e4 => ok_some ?_))) (fun hz => ok_nm (fun x7 e7 => ok_nm (fun x8 e8 => ok_some ?_)))
    · have hz' : L k = 0 := by
        have := (nI_leI (b := 0) (by omega) (by omega)).mp hz
        omega
      rw [if_pos hz', Nat.add_zero] at es
      rw [e3, e4, nI_1, es]
      simp
    · have hz' : L k ≠ 0 := fun q => hz (by rw [q]; exact nI_le (b := 0) (Nat.le_refl _) (by omega))
      rw [if_neg hz'] at es
      rw [e7, e8, nI_1, nI_1, es]
  · rintro _ rfl
    dsimp only
    unfold lb_Mo_words_4
    rw [nI_cl (by omega), h.1]
    exact ok_gd (nI_ib (by omega) (by omega)) (ok_t (nI_le (Nat.le_refl _) (by omega)) (ok_some ⟨rfl, rfl⟩))
  · obtain ⟨q1, q2⟩ := hq
    dsimp only at q1 q2
    rw [q1, q2, sumS_eq, hvn_sum]
/-- the greatest of the first k lengths -/
def mx (L : Nat → Nat) : Nat → Nat
  | 0 => 0
  | k + 1 => if L k ≤ mx L k then mx L k else L k
theorem mx_ge {L : Nat → Nat} : ∀ {s k : Nat}, k < s → L k ≤ mx L s
  | 0, _, h => absurd h (by omega)
  | s + 1, k, h => by
    simp only [mx]
    rcases Nat.lt_or_ge k s with q | q
    · have := mx_ge (L := L) q
      split <;> omega
    · have : k = s := by omega
      subst this
      split <;> omega
theorem mx_is {L : Nat → Nat} : ∀ s, mx L s = 0 ∨ ∃ k, k < s ∧ L k = mx L s
  | 0 => Or.inl rfl
  | s + 1 => by
    simp only [mx]
    split
    · rcases mx_is (L := L) s with q | ⟨k, h1, h2⟩
      · exact Or.inl q
      · exact Or.inr ⟨k, by omega, h2⟩
    · exact Or.inr ⟨s, by omega, rfl⟩
theorem cnt_pos {L : Nat → Nat} {l : Nat} : ∀ {s : Nat}, 0 < cnt L l s → ∃ k, k < s ∧ L k = l
  | 0, h => absurd h (by simp [cnt])
  | s + 1, h => by
    by_cases q : L s = l
    · exact ⟨s, by omega, q⟩
    · simp only [cnt] at h
      rw [if_neg q, Nat.add_zero] at h
      obtain ⟨k, h1, h2⟩ := cnt_pos h
      exact ⟨k, by omega, h2⟩
theorem gre_spec (c : Nat → Nat) : ∀ N, (∀ l, l ≤ N → 0 < l → 0 < c l → l ≤ gre c N) ∧ (gre c N = 0 ∨ 0 < c (gre c N))
  | 0 => ⟨fun l h1 h2 _ => by omega, Or.inl rfl⟩
  | N + 1 => by
    obtain ⟨h1, h2⟩ := gre_spec c N
    simp only [gre]
    by_cases q : 0 < c (N + 1)
    · rw [if_pos q]
      exact ⟨fun l h _ _ => h, Or.inr q⟩
    · rw [if_neg q]
      refine ⟨fun l h h0 hc => ?_, h2⟩
      rcases Nat.lt_or_ge l (N + 1) with z | z
      · exact h1 l (by omega) h0 hc
      · have : l = N + 1 := by omega
        subst this
        exact absurd hc q
theorem mx_gre {L : Nat → Nat} {s : Nat} (hL : ∀ k, k < s → L k ≤ 15) : mx L s = gre (fun m => cnt L m s) 15 := by
  obtain ⟨h1, h2⟩ := gre_spec (fun m => cnt L m s) 15
  have le1 : mx L s ≤ gre (fun m => cnt L m s) 15 := by
    rcases mx_is (L := L) s with q | ⟨k, h3, h4⟩
    · omega
    · rcases Nat.eq_zero_or_pos (mx L s) with z | z
      · omega
      · have hb := hL k h3
        have hc := cnt_lt h3 (rfl : L k = L k)
        rw [h4] at hc hb
        exact h1 (mx L s) hb z (by omega)
  have le2 : gre (fun m => cnt L m s) 15 ≤ mx L s := by
    rcases h2 with q | q
    · omega
    · obtain ⟨k, h3, h4⟩ := cnt_pos q
      rw [← h4]
      exact mx_ge h3
  omega
theorem e_moLongest {σ : St} {c s : Nat} {L : Nat → Nat} (h : LR σ c s L) : ok (f_Mo_longest σ (nI c)) (fun o => o = (σ, nI (gre (fun m => cnt L m s) 15))) := by
  have hs := h.2.1
  have hc := h.2.2.1
  have mxb : ∀ k, k ≤ s → mx L k ≤ 15 := by
    intro k hk
    rcases mx_is (L := L) k with q | ⟨m, h3, h4⟩
    · omega
    · have := (h.2.2.2 m (by omega)).2
      omega
  unfold f_Mo_longest
  refine ok_b3 (Q := fun q => q.1 = σ ∧ q.2.1 = nI (mx L s)) (ok_up s (fun k q => q = (σ, nI (mx L k), nI k)) ?_ ?_ 0 _ (Nat.zero_le _) rfl) (fun σ1 x y hq => ok_some ?_)
  · rintro k _ hk rfl
    dsimp only
    have b1 := mxb k (by omega)
    unfold lb_Mo_longest_4
    rw [nI_cl (by omega), h.1]
    refine ok_gd (nI_ib (by omega) (by omega)) (ok_f (nI_ge hk (by omega)) ?_)
    rw [e_lengthOf h hk]
    dsimp only [b2]
    have hl := (h.2.2.2 k hk).2
    refine ok_if (fun hz => ok_nm (fun x3 e3 => ok_some ?_)) (fun hz => ?_)
    · have hz' := (nI_leI (by omega) (by omega)).mp hz
      rw [e3, nI_1]
      simp only [mx]
      rw [if_pos hz']
    · have hz' : ¬ L k ≤ mx L k := fun q => hz (nI_le q (by omega))
      rw [e_lengthOf h hk]
      dsimp only
      refine ok_nm (fun x6 e6 => ok_some ?_)
      rw [e6, nI_1]
      simp only [mx]
      rw [if_neg hz']
  · rintro _ rfl
    dsimp only
    unfold lb_Mo_longest_4
    rw [nI_cl (by omega), h.1]
    exact ok_gd (nI_ib (by omega) (by omega)) (ok_t (nI_le (Nat.le_refl _) (by omega)) (ok_some ⟨rfl, rfl⟩))
  · obtain ⟨q1, q2⟩ := hq
    dsimp only at q1 q2
    rw [q1, q2, mx_gre (fun k hk => (h.2.2.2 k hk).2)]
theorem e_moKind {σ : St} {c s : Nat} {L : Nat → Nat} (h : LR σ c s L) : ok (f_Mo_kind σ (nI c)) (fun o => o = (σ, nI (knd L s))) := by
  have hs := h.2.1
  have b8 := hvn_le L 15 s
  have b7 := fil_le (fun m => cnt L m s) s (fun l => hvn_le L l s) 15
  have b9 := gre_le (fun m => cnt L m s) 15
  unfold f_Mo_kind
  refine ok_b2 (e_moWords h) (fun σ1 x2 e1 => ?_)
  cases e1
  refine ok_b2 (e_moFilled h) (fun σ1 x2 e1 => ?_)
  cases e1
  have hlong := e_moLongest h
  unfold knd
  generalize hvn (fun m => cnt L m s) 15 = a at *
  generalize fil (fun m => cnt L m s) 15 = b at *
  generalize gre (fun m => cnt L m s) 15 = d at *
  have e0 : (nI a = 0) = (a = 0) := propext (nI_eq (b := 0) (by omega) (by omega))
  have e1 : (nI a = 1) = (a = 1) := propext (nI_eq (b := 1) (by omega) (by omega))
  have e2 : (nI d = 1) = (d = 1) := propext (nI_eq (b := 1) (by omega) (by omega))
  have e3 : (nI b = 32768) = (b = 32768) := propext (nI_eq (b := 32768) (by omega) (by omega))
  have e4 : ((32768 : Int32) ≤ nI b) = (32768 ≤ b) := propext (nI_leI (a := 32768) (by omega) (by omega))
  simp only [e0, e1, e3, e4]
  refine ok_if (fun k0 => ok_some (by rw [if_pos k0]; rfl)) (fun k0 => ok_if (fun k1 => ok_b2 hlong (fun σ5 x6 e5 => ?_)) (fun k1 => ?_))
  · cases e5
    simp only [e2]
    refine ok_if (fun k2 => ok_some (by rw [if_neg k0, if_pos ⟨k1, k2⟩]; rfl)) (fun k2 => ?_)
    have k3 : ¬ (a = 1 ∧ d = 1) := fun z => k2 z.2
    rw [if_neg k0, if_neg k3]
    refine ok_if (fun k4 => ok_some (by rw [if_pos k4]; rfl)) (fun k4 => ok_if (fun k5 => ok_some (by rw [if_neg k4, if_neg (by omega)]; rfl)) (fun k5 => ok_some (by rw [if_neg k4, if_pos (by omega)]; rfl)))
  · have k3 : ¬ (a = 1 ∧ d = 1) := fun z => k1 z.1
    rw [if_neg k0, if_neg k3]
    refine ok_if (fun k4 => ok_some (by rw [if_pos k4]; rfl)) (fun k4 => ok_if (fun k5 => ok_some (by rw [if_neg k4, if_neg (by omega)]; rfl)) (fun k5 => ok_some (by rw [if_neg k4, if_pos (by omega)]; rfl)))
