/-! ===== reading a word ===== -/
theorem cnt_surj {L : Nat → Nat} {l r : Nat} : ∀ {s : Nat}, r < cnt L l s → ∃ k, k < s ∧ L k = l ∧ cnt L l k = r
  | 0, h => absurd h (by simp [cnt])
  | s + 1, h => by
    simp only [cnt] at h
    by_cases q : r < cnt L l s
    · obtain ⟨k, h1, h2, h3⟩ := cnt_surj q
      exact ⟨k, by omega, h2, h3⟩
    · by_cases e : L s = l
      · rw [if_pos e] at h
        exact ⟨s, by omega, e, by omega⟩
      · rw [if_neg e] at h
        omega
def syf (L : Nat → Nat) (s p : Nat) : Nat → Nat
  | 0 => 0
  | k + 1 => if 1 ≤ L k ∧ plc L s k = p then k else syf L s p k
/-- the symbol at a place among the words -/
def sy (L : Nat → Nat) (s p : Nat) : Nat := syf L s p s
theorem syf_eq {L : Nat → Nat} {s p k : Nat} (h1 : 1 ≤ L k) (h2 : plc L s k = p) : ∀ {t : Nat}, k < t → t ≤ s → syf L s p t = k
  | 0, h, _ => absurd h (by omega)
  | t + 1, h, ht => by
    simp only [syf]
    by_cases q : k = t
    · subst q
      rw [if_pos ⟨h1, h2⟩]
    · rw [if_neg (fun z => q (plc_inj (s := s) (by omega) (by omega) h1 z.1 (h2.trans z.2.symm)))]
      exact syf_eq h1 h2 (by omega) (by omega)
theorem sy_eq {L : Nat → Nat} {s p k : Nat} (hk : k < s) (h1 : 1 ≤ L k) (h2 : plc L s k = p) : sy L s p = k := syf_eq h1 h2 hk (Nat.le_refl _)
/-- the symbol whose word has n + 1 bits and is v -/
theorem sym_at {L : Nat → Nat} {s n v : Nat} (h1 : 2 * wa (fun m => cnt L m s) n ≤ v) (h2 : v < wa (fun m => cnt L m s) (n + 1)) : ∃ k, k < s ∧ L k = n + 1 ∧ wrd L s k = v ∧ plc L s k = hvn (fun m => cnt L m s) n + (v - 2 * wa (fun m => cnt L m s) n) ∧ sy L s (hvn (fun m => cnt L m s) n + (v - 2 * wa (fun m => cnt L m s) n)) = k := by
  simp only [wa] at h2
  obtain ⟨k, q1, q2, q3⟩ := cnt_surj (L := L) (l := n + 1) (r := v - 2 * wa (fun m => cnt L m s) n) (s := s) (by omega)
  have e1 : wrd L s k = v := by
    unfold wrd
    rw [q2, Nat.add_sub_cancel, q3]
    omega
  have e2 : plc L s k = hvn (fun m => cnt L m s) n + (v - 2 * wa (fun m => cnt L m s) n) := by
    unfold plc
    rw [q2, Nat.add_sub_cancel, q3]
  exact ⟨k, q1, q2, e1, e2, sy_eq q1 (by omega) e2⟩
theorem wrd_lo {L : Nat → Nat} {s k : Nat} : 2 * wa (fun m => cnt L m s) (L k - 1) ≤ wrd L s k := by unfold wrd; omega
theorem wrd_hi {L : Nat → Nat} {s k : Nat} (hk : k < s) (h1 : 1 ≤ L k) : wrd L s k < wa (fun m => cnt L m s) (L k) := by
  have := cnt_lt hk (rfl : L k = L k)
  have e : wa (fun m => cnt L m s) (L k) = 2 * wa (fun m => cnt L m s) (L k - 1) + cnt L (L k) s := by
    have e : L k = (L k - 1) + 1 := by omega
    generalize hm : L k - 1 = m at *
    rw [e]
    rfl
  unfold wrd
  omega
theorem fil_mono (c : Nat → Nat) : ∀ {a b : Nat}, a ≤ b → fil c a ≤ fil c b := by
  intro a b h
  induction b with
  | zero => rw [Nat.le_zero.mp h]; exact Nat.le_refl _
  | succ b ih =>
    rcases Nat.lt_or_ge a (b + 1) with q | q
    · have := ih (by omega)
      unfold fil at this ⊢
      simp only [sumL]
      omega
    · rw [show a = b + 1 by omega]; exact Nat.le_refl _
theorem fil_find (c : Nat → Nat) {x n : Nat} (h0 : fil c n ≤ x) : ∀ N, n ≤ N → x < fil c N → ∃ m, n ≤ m ∧ m < N ∧ fil c m ≤ x ∧ x < fil c (m + 1)
  | 0, hn, hx => by
    rw [Nat.le_zero.mp hn] at h0
    omega
  | N + 1, hn, hx => by
    by_cases q : x < fil c N
    · by_cases z : n ≤ N
      · obtain ⟨m, a, b, d, e⟩ := fil_find c h0 N z q
        exact ⟨m, a, by omega, d, e⟩
      · have := fil_mono c (show N ≤ n by omega)
        omega
    · by_cases z : n ≤ N
      · exact ⟨N, z, by omega, by omega, hx⟩
      · rw [show n = N + 1 by omega] at h0
        omega
theorem pow_split {a b : Nat} (h : a ≤ b) (hb : b ≤ 15) : 2 ^ (15 - a) = 2 ^ (b - a) * 2 ^ (15 - b) := by
  rw [← Nat.pow_add]
  congr 1
  omega
/-- longer words begin with v, just if v stands below what is filled -/
theorem begins {L : Nat → Nat} {s n v : Nat} (hL : ∀ k, k < s → L k ≤ 15) (hn : n ≤ 15) (hv : wa (fun m => cnt L m s) n ≤ v) : (∃ k, k < s ∧ n < L k ∧ wrd L s k / 2 ^ (L k - n) = v) ↔ v * 2 ^ (15 - n) < fil (fun m => cnt L m s) 15 := by
  constructor
  · rintro ⟨k, hk, h1, h2⟩
    have hl := hL k hk
    have h3 : v * 2 ^ (L k - n) ≤ wrd L s k := by
      rw [← h2]
      exact Nat.div_mul_le_self _ _
    have h4 := wrd_hi hk (show 1 ≤ L k by omega)
    have h5 := wa_fil (fun m => cnt L m s) (L k) hl
    have h6 := fil_mono (fun m => cnt L m s) hl
    rw [pow_split (show n ≤ L k by omega) hl, ← Nat.mul_assoc]
    have h7 : v * 2 ^ (L k - n) * 2 ^ (15 - L k) < wa (fun m => cnt L m s) (L k) * 2 ^ (15 - L k) := Nat.mul_lt_mul_of_pos_right (by omega) (Nat.two_pow_pos _)
    omega
  · intro h
    have h0 := wa_fil (fun m => cnt L m s) n hn
    have h1 : fil (fun m => cnt L m s) n ≤ v * 2 ^ (15 - n) := by
      rw [← h0]
      exact Nat.mul_le_mul_right _ hv
    obtain ⟨m, a1, a2, a3, a4⟩ := fil_find (fun m => cnt L m s) h1 15 hn h
    have e3 := wa_fil (fun m => cnt L m s) m (by omega)
    have e4 := wa_fil (fun m => cnt L m s) (m + 1) (by omega)
    rw [← e3, pow_split (show m ≤ m + 1 by omega) (by omega), show m + 1 - m = 1 by omega, ← Nat.mul_assoc, pow_split (show n ≤ m + 1 by omega) (by omega), ← Nat.mul_assoc] at a3
    rw [← e4, pow_split (show n ≤ m + 1 by omega) (by omega), ← Nat.mul_assoc] at a4
    have b3 := Nat.le_of_mul_le_mul_right a3 (Nat.two_pow_pos _)
    have b4 := Nat.lt_of_mul_lt_mul_right a4
    obtain ⟨k, q1, q2, q3, -, -⟩ := sym_at (L := L) (s := s) (n := m) (v := v * 2 ^ (m + 1 - n)) (by omega) b4
    refine ⟨k, q1, by omega, ?_⟩
    rw [q3, q2]
    exact Nat.mul_div_cancel _ (Nat.two_pow_pos _)
/-- the symbol that bits begin with, or ENDED, or BAD; what is left of the bits -/
def dec (L : Nat → Nat) (s : Nat) : List Bool → Nat → Nat → Int32 × List Bool
  | [], _, _ => (-104, [])
  | b :: B, n, v => if 2 * v + b.toNat < wa (fun m => cnt L m s) (n + 1) then (nI (sy L s (hvn (fun m => cnt L m s) n + (2 * v + b.toNat - 2 * wa (fun m => cnt L m s) n))), B) else if fil (fun m => cnt L m s) 15 ≤ (2 * v + b.toNat) * 2 ^ (15 - (n + 1)) then (-105, B) else dec L s B (n + 1) (2 * v + b.toNat)
theorem b2i_ge (b : Bool) : (0 : Int32) ≤ b2i b := by cases b <;> decide
theorem bool_le (b : Bool) : b.toNat ≤ 1 := by cases b <;> decide
/-- one turn of removeSymbol, once the bit is there -/
theorem e_jn27 {σ : St} {j s n v : Nat} {L : Nat → Nat} (h : CK σ j s L) (a : Int32) (b : Bool) (hn : n ≤ 14) (hv : wa (fun m => cnt L m s) n ≤ v) (hv2 : v < 2 ^ n) : jn_Code_removeSymbol_27 j a σ (nI v) (nI (n + 1)) (b2i b) = if 2 * v + b.toNat < wa (fun m => cnt L m s) (n + 1) then some (.inr (.inr (σ, nI (sy L s (hvn (fun m => cnt L m s) n + (2 * v + b.toNat - 2 * wa (fun m => cnt L m s) n)))))) else if fil (fun m => cnt L m s) 15 ≤ (2 * v + b.toNat) * 2 ^ (15 - (n + 1)) then some (.inr (.inr (σ, -105))) else some (.inl (σ, nI (2 * v + b.toNat), nI (n + 2))) := by
  obtain ⟨h0, h1, h2, h3, h4, -, -⟩ := h
  obtain ⟨a45, a46, a47⟩ := h1 (n + 1) (by omega) (by omega)
  rw [Nat.add_sub_cancel] at a46 a47
  have hs := h0.2.1
  have hb := bool_le b
  have b0 : 2 ^ n ≤ 2 ^ 14 := Nat.pow_le_pow_right (by omega) hn
  have b1 := cnt_le L (n + 1) s
  have b2 := hvn_le L n s
  have b7 := fil_le (fun m => cnt L m s) s (fun l => hvn_le L l s) 15
  have b8 := hvn_le L 15 s
  have hib : ib (nI (n + 1)) 16 := nI_ib (by omega) (by omega)
  have hw : wa (fun m => cnt L m s) (n + 1) = 2 * wa (fun m => cnt L m s) n + cnt L (n + 1) s := rfl
  have hp : (2 * v + b.toNat) * 2 ^ (15 - (n + 1)) < 2 ^ 15 := by
    have : 2 * v + b.toNat < 2 ^ (n + 1) := by rw [Nat.pow_succ]; omega
    have := Nat.mul_lt_mul_of_pos_right this (Nat.two_pow_pos (15 - (n + 1)))
    rw [← Nat.pow_add, show n + 1 + (15 - (n + 1)) = 15 by omega] at this
    exact this
  unfold jn_Code_removeSymbol_27
  rw [if_pos (b2i_ge b), shl1 (by omega), or_b2i, nI_cl (by omega), a45, a46, a47, h3]
  dsimp only [nm]
  rw [gd_t hib, pk_sub (by omega), if_neg (nI_pos (by omega)), gd_t hib, gd_t hib, show (15 : Int32) - nI (n + 1) = nI (15 - (n + 1)) from pk_sub (a := 15) (by omega), shlk (by omega) (by omega)]
  by_cases k1 : 2 * v + b.toNat < wa (fun m => cnt L m s) (n + 1)
  · rw [if_pos k1, if_neg (nI_ge (by omega) (by omega)), nI_add]
    obtain ⟨k, q1, q2, q3, q4, q5⟩ := sym_at (L := L) (s := s) (n := n) (v := 2 * v + b.toNat) (by omega) k1
    have hpl := plc_lt q1 (show 1 ≤ L k by omega)
    rw [q5, ← q4, gd_t (nI_ib (by omega) (by omega)), nI_cl (by omega), (h2 k q1 (by omega)).2]
  · rw [if_neg k1, if_pos (nI_le (by omega) (by omega))]
    by_cases k2 : fil (fun m => cnt L m s) 15 ≤ (2 * v + b.toNat) * 2 ^ (15 - (n + 1))
    · rw [if_pos k2, if_neg (nI_nlt k2 (by omega))]
    · rw [if_neg k2, if_pos (nI_lt (by omega) (by omega)), nI_1]
theorem jn27_e {σ : St} {j s n v : Nat} {L : Nat → Nat} (h : CK σ j s L) (a : Int32) : jn_Code_removeSymbol_27 j a σ (nI v) (nI n) (-104) = some (.inr (.inr (σ, -104))) := by
  unfold jn_Code_removeSymbol_27
  rw [if_neg (by decide)]
theorem CK.go {σ σ1 : St} {j s : Nat} {L : Nat → Nat} (h : CK σ j s L) (hf : ∀ f, 41 ≤ f → f ≤ 47 → σ1.1 f j = σ.1 f j) : CK σ1 j s L := by
  obtain ⟨h0, h1, h2, h3, h4, h5, h6⟩ := h
  have e41 := hf 41 (by omega) (by omega)
  have e42 := hf 42 (by omega) (by omega)
  have e43 := hf 43 (by omega) (by omega)
  have e44 := hf 44 (by omega) (by omega)
  have e45 := hf 45 (by omega) (by omega)
  have e46 := hf 46 (by omega) (by omega)
  have e47 := hf 47 (by omega) (by omega)
  refine ⟨h0.go (by rw [e41]) e42, ?_, ?_, by rw [e41]; exact h3, by rw [e41]; exact h4, by rw [e41]; exact h5, by rw [e41]; exact h6⟩
  · rw [e45, e46, e47]; exact h1
  · rw [e43, e44]; exact h2
theorem wa15 {L : Nat → Nat} {s v : Nat} (h : ¬ v < wa (fun m => cnt L m s) 15) : fil (fun m => cnt L m s) 15 ≤ v * 2 ^ (15 - 15) := by
  have := wa_fil (fun m => cnt L m s) 15 (Nat.le_refl _)
  simp at this ⊢
  omega
/-- removeSymbol from the beginning -/
theorem s_removeSymbol {σ : St} {j s h : Nat} {L : Nat → Nat} {B : List Bool} (hC : CK σ j s L) (hS : SB σ h B) : ok (f_Code_removeSymbol σ j 0) (fun o => o.2 = (dec L s B 0 0).1 ∧ (∃ X, B = X ++ (dec L s B 0 0).2 ∧ SB o.1 ((h + X.length) % 20000) (dec L s B 0 0).2) ∧ fr F3 σ o.1) := by
  unfold f_Code_removeSymbol
  refine ok_bs3 (Q := fun z => match z with | .inl _ => False | .inr o => o.2 = (dec L s B 0 0).1 ∧ (∃ X, B = X ++ (dec L s B 0 0).2 ∧ SB o.1 ((h + X.length) % 20000) (dec L s B 0 0).2) ∧ fr F3 σ o.1) (ok_lp (fun t q => ∃ (n v : Nat) (X B' : List Bool), t = 15 - n ∧ n ≤ 14 ∧ q.2.1 = nI v ∧ q.2.2 = nI (n + 1) ∧ wa (fun m => cnt L m s) n ≤ v ∧ v < 2 ^ n ∧ B = X ++ B' ∧ SB q.1 ((h + X.length) % 20000) B' ∧ dec L s B' n v = dec L s B 0 0 ∧ fr F3 σ q.1) ?_ 15 _ ⟨0, 0, [], B, rfl, by omega, rfl, rfl, Nat.le_refl _, by decide, rfl, by rw [List.length_nil, Nat.add_zero, Nat.mod_eq_of_lt hS.2.1]; exact hS, rfl, fr.rf⟩) (fun σ1 x y hq => hq.elim) (fun r hq => ok_some hq)
  rintro t ⟨σ1, x, y⟩ ⟨n, v, X, B', rfl, hn, rfl, rfl, q1, q2, q3, q4, q5, q6⟩
  dsimp only at q4 q6 ⊢
  unfold lb_Code_removeSymbol_5
  refine ok_f (nI_nlt (a := 15) (b := n + 1) (by omega) (by omega)) (ok_t rfl ?_)
  cases B' with
  | nil =>
    rw [s_removeFirst0 q4]
    dsimp only [b2]
    rw [jn27_e (hC.go (fun f h1 h2 => q6.fi (fun _ => by omega)))]
    refine ok_some ?_
    dsimp only
    rw [← q5]
    exact ⟨rfl, ⟨X, q3, q4⟩, q6⟩
  | cons b B' =>
    refine ok_b2 (s_removeFirst q4) (fun σ2 x2 hq => ?_)
    obtain ⟨p1, p2, p3, -, -⟩ := hq
    dsimp only at p1 p2 p3
    have f2 := q6.tr p3
    rw [p2, e_jn27 (hC.go (fun f h1 h2 => f2.fi (fun _ => by omega))) 0 b hn q1 q2]
    have hX : B = (X ++ [b]) ++ B' := by rw [q3]; simp
    have hh : ((h + X.length) % 20000 + 1) % 20000 = (h + (X ++ [b]).length) % 20000 := by
      rw [List.length_append]
      show _ = (h + (X.length + 1)) % 20000
      omega
    rw [hh] at p1
    have hb := bool_le b
    simp only [dec] at q5
    refine ok_if (fun k1 => ok_some ?_) (fun k1 => ok_if (fun k2 => ok_some ?_) (fun k2 => ok_some ?_))
    · rw [if_pos k1] at q5
      dsimp only
      rw [← q5]
      exact ⟨rfl, ⟨_, hX, p1⟩, f2⟩
    · rw [if_neg k1, if_pos k2] at q5
      dsimp only
      rw [← q5]
      exact ⟨rfl, ⟨_, hX, p1⟩, f2⟩
    · rw [if_neg k1, if_neg k2] at q5
      have hn2 : n + 1 ≤ 14 := by
        rcases Nat.lt_or_ge n 14 with z | z
        · omega
        · have : n = 14 := by omega
          subst this
          exact absurd (wa15 k1) k2
      exact ⟨15 - (n + 1), by omega, n + 1, 2 * v + b.toNat, X ++ [b], B', rfl, hn2, rfl, rfl, by omega, by rw [Nat.pow_succ]; omega, hX, p1, q5, f2⟩
/-- removeSymbol from the end: the bits from the last one on -/
theorem s_removeSymbolB {σ : St} {j s h : Nat} {L : Nat → Nat} {B : List Bool} (hC : CK σ j s L) (hS : SB σ h B.reverse) {a : Int32} (ha : a ≠ 0) : ok (f_Code_removeSymbol σ j a) (fun o => o.2 = (dec L s B 0 0).1 ∧ SB o.1 h (dec L s B 0 0).2.reverse ∧ fr F3 σ o.1) := by
  unfold f_Code_removeSymbol
  refine ok_bs3 (Q := fun z => match z with | .inl _ => False | .inr o => o.2 = (dec L s B 0 0).1 ∧ SB o.1 h (dec L s B 0 0).2.reverse ∧ fr F3 σ o.1) (ok_lp (fun t q => ∃ (n v : Nat) (B' : List Bool), t = 15 - n ∧ n ≤ 14 ∧ q.2.1 = nI v ∧ q.2.2 = nI (n + 1) ∧ wa (fun m => cnt L m s) n ≤ v ∧ v < 2 ^ n ∧ SB q.1 h B'.reverse ∧ dec L s B' n v = dec L s B 0 0 ∧ fr F3 σ q.1) ?_ 15 _ ⟨0, 0, B, rfl, by omega, rfl, rfl, Nat.le_refl _, by decide, hS, rfl, fr.rf⟩) (fun σ1 x y hq => hq.elim) (fun r hq => ok_some hq)
  rintro t ⟨σ1, x, y⟩ ⟨n, v, B', rfl, hn, rfl, rfl, q1, q2, q4, q5, q6⟩
  dsimp only at q4 q6 ⊢
  unfold lb_Code_removeSymbol_5
  refine ok_f (nI_nlt (a := 15) (b := n + 1) (by omega) (by omega)) (ok_f ha ?_)
  cases B' with
  | nil =>
    rw [s_removeLast0 q4]
    dsimp only [b2]
    rw [jn27_e (hC.go (fun f h1 h2 => q6.fi (fun _ => by omega)))]
    refine ok_some ?_
    dsimp only
    rw [← q5]
    exact ⟨rfl, q4, q6⟩
  | cons b B' =>
    rw [List.reverse_cons] at q4
    refine ok_b2 (s_removeLast q4) (fun σ2 x2 hq => ?_)
    obtain ⟨p1, p2, p3⟩ := hq
    dsimp only at p1 p2 p3
    have f2 := q6.tr p3
    rw [p2, e_jn27 (hC.go (fun f h1 h2 => f2.fi (fun _ => by omega))) a b hn q1 q2]
    have hb := bool_le b
    simp only [dec] at q5
    refine ok_if (fun k1 => ok_some ?_) (fun k1 => ok_if (fun k2 => ok_some ?_) (fun k2 => ok_some ?_))
    · rw [if_pos k1] at q5
      dsimp only
      rw [← q5]
      exact ⟨rfl, p1, f2⟩
    · rw [if_neg k1, if_pos k2] at q5
      dsimp only
      rw [← q5]
      exact ⟨rfl, p1, f2⟩
    · rw [if_neg k1, if_neg k2] at q5
      have hn2 : n + 1 ≤ 14 := by
        rcases Nat.lt_or_ge n 14 with z | z
        · omega
        · have : n = 14 := by omega
          subst this
          exact absurd (wa15 k1) k2
      exact ⟨15 - (n + 1), by omega, n + 1, 2 * v + b.toNat, B', rfl, hn2, rfl, rfl, by omega, by rw [Nat.pow_succ]; omega, p1, q5, f2⟩
