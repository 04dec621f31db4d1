/-! ===== tables, as numbers ===== -/
def stt (L : Nat → Nat) (s k : Nat) : Nat := wrd L s k * 2 ^ (15 - L k)
theorem hvn_s (c : Nat → Nat) {l : Nat} (h : 1 ≤ l) : hvn c l = hvn c (l - 1) + c l := by
  obtain ⟨m, rfl⟩ : ∃ m, l = m + 1 := ⟨l - 1, by omega⟩
  rfl
theorem plc_ub {L : Nat → Nat} {s k : Nat} (hk : k < s) (h1 : 1 ≤ L k) : plc L s k < hvn (fun m => cnt L m s) (L k) := by
  have h2 := cnt_lt hk (rfl : L k = L k)
  rw [hvn_s _ h1]
  unfold plc
  omega
theorem plc_len {L : Nat → Nat} {s a b : Nat} (hb : b < s) (h2 : 1 ≤ L b) (h : plc L s a < plc L s b) : L a ≤ L b := by
  rcases Nat.lt_or_ge (L b) (L a) with q | q
  · have h3 := plc_ub hb h2
    have h4 := hvn_mono (fun m => cnt L m s) (show L b ≤ L a - 1 by omega)
    have h5 : hvn (fun m => cnt L m s) (L a - 1) ≤ plc L s a := by unfold plc; omega
    omega
  · exact q
/-- words do not overlap -/
theorem stt_dis {L : Nat → Nat} {s a b : Nat} (ha : a < s) (hb : b < s) (h1 : 1 ≤ L a) (h2 : 1 ≤ L b) (hb2 : L b ≤ 15) (h : plc L s a < plc L s b) : stt L s a + 2 ^ (15 - L a) ≤ stt L s b := by
  have hl := plc_len hb h2 h
  unfold stt
  rcases Nat.lt_or_ge (L a) (L b) with q | q
  · have e1 := wrd_hi ha h1
    have e2 := wa_fil (fun m => cnt L m s) (L a) (by omega)
    have e3 := wa_fil (fun m => cnt L m s) (L b - 1) (by omega)
    have e4 := fil_mono (fun m => cnt L m s) (show L a ≤ L b - 1 by omega)
    have e5 := wrd_lo (L := L) (s := s) (k := b)
    have e6 : (wrd L s a + 1) * 2 ^ (15 - L a) ≤ wa (fun m => cnt L m s) (L a) * 2 ^ (15 - L a) := Nat.mul_le_mul_right _ (by omega)
    have e7 : 2 * wa (fun m => cnt L m s) (L b - 1) * 2 ^ (15 - L b) ≤ wrd L s b * 2 ^ (15 - L b) := Nat.mul_le_mul_right _ e5
    rw [show 15 - (L b - 1) = (15 - L b) + 1 by omega, Nat.pow_succ, Nat.mul_comm (2 ^ (15 - L b)) 2, ← Nat.mul_assoc, Nat.mul_comm _ 2] at e3
    rw [Nat.add_mul, Nat.one_mul] at e6
    omega
  · have hq : L a = L b := by omega
    unfold plc at h
    have : wrd L s a + 1 ≤ wrd L s b := by
      unfold wrd
      rw [hq] at h ⊢
      omega
    rw [hq]
    have e6 : (wrd L s a + 1) * 2 ^ (15 - L b) ≤ wrd L s b * 2 ^ (15 - L b) := Nat.mul_le_mul_right _ this
    rw [Nat.add_mul, Nat.one_mul] at e6
    exact e6
theorem stt_top {L : Nat → Nat} {s a : Nat} (ha : a < s) (h1 : 1 ≤ L a) (h2 : L a ≤ 15) (hf : fil (fun m => cnt L m s) 15 ≤ 32768) : wrd L s a < 2 ^ L a := by
  have e1 := wrd_hi ha h1
  have e2 := wa_fil (fun m => cnt L m s) (L a) h2
  have e4 := fil_mono (fun m => cnt L m s) h2
  have e6 : (wrd L s a + 1) * 2 ^ (15 - L a) ≤ wa (fun m => cnt L m s) (L a) * 2 ^ (15 - L a) := Nat.mul_le_mul_right _ (by omega)
  have e7 : 2 ^ L a * 2 ^ (15 - L a) = 32768 := by
    rw [← Nat.pow_add, show L a + (15 - L a) = 15 by omega]
  have e8 : (wrd L s a + 1) * 2 ^ (15 - L a) ≤ 2 ^ L a * 2 ^ (15 - L a) := by omega
  have := Nat.le_of_mul_le_mul_right e8 (Nat.two_pow_pos _)
  omega
theorem plc_surj {L : Nat → Nat} {s p : Nat} : ∀ l, p < hvn (fun m => cnt L m s) l → ∃ k, k < s ∧ 1 ≤ L k ∧ L k ≤ l ∧ plc L s k = p
  | 0, h => absurd h (by simp [hvn])
  | l + 1, h => by
    rcases Nat.lt_or_ge p (hvn (fun m => cnt L m s) l) with q | q
    · obtain ⟨k, a, b, c, d⟩ := plc_surj l q
      exact ⟨k, a, b, by omega, d⟩
    · simp only [hvn] at h
      obtain ⟨k, a, b, c⟩ := cnt_surj (L := L) (l := l + 1) (r := p - hvn (fun m => cnt L m s) l) (s := s) (by omega)
      refine ⟨k, a, by omega, by omega, ?_⟩
      unfold plc
      rw [b, c, Nat.add_sub_cancel]
      omega
theorem sy_ok {L : Nat → Nat} {s p : Nat} (h : p < hvn (fun m => cnt L m s) 15) : sy L s p < s ∧ 1 ≤ L (sy L s p) ∧ L (sy L s p) ≤ 15 ∧ plc L s (sy L s p) = p := by
  obtain ⟨k, a, b, c, d⟩ := plc_surj 15 h
  rw [sy_eq a b d]
  exact ⟨a, b, c, d⟩
/-- the first r bits of a longer word -/
def prf (L : Nat → Nat) (s r k : Nat) : Nat := wrd L s k / 2 ^ (L k - r)
theorem prf_stt {L : Nat → Nat} {s r k : Nat} (h : r ≤ L k) (h2 : L k ≤ 15) : prf L s r k = stt L s k / 2 ^ (15 - r) := by
  unfold prf stt
  rw [show 2 ^ (15 - r) = 2 ^ (L k - r) * 2 ^ (15 - L k) from pow_split h h2, Nat.mul_div_mul_right _ _ (Nat.two_pow_pos _)]
theorem prf_mono {L : Nat → Nat} {s r a b : Nat} (ha : a < s) (hb : b < s) (h1 : r < L a) (h2 : r < L b) (ha2 : L a ≤ 15) (hb2 : L b ≤ 15) (h : plc L s a < plc L s b) : prf L s r a ≤ prf L s r b := by
  rw [prf_stt (by omega) ha2, prf_stt (by omega) hb2]
  have := stt_dis ha hb (by omega) (by omega) hb2 h
  exact Nat.div_le_div_right (Nat.le_trans (Nat.le_add_right _ _) this)
theorem prf_lt {L : Nat → Nat} {s r a : Nat} (ha : a < s) (h1 : r < L a) (h2 : L a ≤ 15) (hf : fil (fun m => cnt L m s) 15 ≤ 32768) : prf L s r a < 2 ^ r := by
  have := stt_top ha (by omega) h2 hf
  unfold prf
  rw [Nat.div_lt_iff_lt_mul (Nat.two_pow_pos _), ← Nat.pow_add, show r + (L a - r) = L a by omega]
  exact this
/-- so many bits has the longest of the first n symbols' words that begin with j, behind r -/
def ms (L : Nat → Nat) (s r j : Nat) : Nat → Nat
  | 0 => 0
  | n + 1 => if r < L n ∧ prf L s r n = j ∧ ms L s r j n < L n - r then L n - r else ms L s r j n
theorem ms_spec (L : Nat → Nat) (s r j : Nat) : ∀ n, (∀ k, k < n → r < L k → prf L s r k = j → L k - r ≤ ms L s r j n) ∧ (ms L s r j n = 0 ∨ ∃ k, k < n ∧ r < L k ∧ prf L s r k = j ∧ L k - r = ms L s r j n)
  | 0 => ⟨fun k hk => absurd hk (by omega), Or.inl rfl⟩
  | n + 1 => by
    obtain ⟨h1, h2⟩ := ms_spec L s r j n
    simp only [ms]
    by_cases hc : r < L n ∧ prf L s r n = j ∧ ms L s r j n < L n - r
    · rw [if_pos hc]
      refine ⟨fun k hk a b => ?_, Or.inr ⟨n, by omega, hc.1, hc.2.1, rfl⟩⟩
      rcases Nat.lt_or_ge k n with q | q
      · have := h1 k q a b
        omega
      · rw [show k = n by omega]; omega
    · rw [if_neg hc]
      refine ⟨fun k hk a b => ?_, ?_⟩
      · rcases Nat.lt_or_ge k n with q | q
        · exact h1 k q a b
        · have : k = n := by omega
          subst this
          rcases Nat.lt_or_ge (ms L s r j k) (L k - r) with z | z
          · exact absurd ⟨a, b, z⟩ hc
          · exact z
      · rcases h2 with h2 | ⟨k, a, b, c, d⟩
        · exact Or.inl h2
        · exact Or.inr ⟨k, by omega, b, c, d⟩
theorem ms_le {L : Nat → Nat} {s r j : Nat} (hL : ∀ k, k < s → L k ≤ 15) : ms L s r j s ≤ 15 - r := by
  rcases (ms_spec L s r j s).2 with h | ⟨k, a, b, c, d⟩
  · omega
  · have := hL k a
    omega
def gg (L : Nat → Nat) (s r j : Nat) : Nat := if ms L s r j s = 0 then 0 else 2 ^ ms L s r j s
def Gs (L : Nat → Nat) (s r : Nat) : Nat → Nat
  | 0 => 0
  | i + 1 => Gs L s r i + gg L s r i
theorem Gs_le {L : Nat → Nat} {s r : Nat} (hL : ∀ k, k < s → L k ≤ 15) : ∀ i, Gs L s r i ≤ i * 2 ^ (15 - r)
  | 0 => by simp [Gs]
  | i + 1 => by
    have h1 := Gs_le (r := r) hL i
    have h2 : gg L s r i ≤ 2 ^ (15 - r) := by
      unfold gg
      split
      · exact Nat.zero_le _
      · exact Nat.pow_le_pow_right (by omega) (ms_le hL)
    simp only [Gs]
    rw [Nat.add_mul, Nat.one_mul]
    omega
theorem Gs_mono (L : Nat → Nat) (s r : Nat) : ∀ {a b : Nat}, a ≤ b → Gs L s r a ≤ Gs L s r b := by
  intro a b h
  induction b with
  | zero => rw [Nat.le_zero.mp h]; exact Nat.le_refl _
  | succ b ih =>
    rcases Nat.lt_or_ge a (b + 1) with q | q
    · have := ih (by omega)
      simp only [Gs]
      omega
    · rw [show a = b + 1 by omega]; exact Nat.le_refl _
theorem Gs_gap {L : Nat → Nat} {s r a : Nat} : ∀ {b : Nat}, a ≤ b → (∀ j, a ≤ j → j < b → ms L s r j s = 0) → Gs L s r b = Gs L s r a := by
  intro b h hz
  induction b with
  | zero => rw [Nat.le_zero.mp h]
  | succ b ih =>
    rcases Nat.lt_or_ge a (b + 1) with q | q
    · simp only [Gs]
      rw [ih (by omega) (fun j h1 h2 => hz j h1 (by omega))]
      unfold gg
      rw [if_pos (hz b (by omega) (by omega)), Nat.add_zero]
    · rw [show a = b + 1 by omega]
/-- bits of n begin with a symbol's word -/
abbrev hit (L : Nat → Nat) (s q bits n k : Nat) : Prop := q ≤ L k ∧ L k ≤ n ∧ wrd L s k = bits / 2 ^ (n - L k)
def hs (L : Nat → Nat) (s q bits n : Nat) : Nat → Option Nat
  | 0 => none
  | m + 1 => if hit L s q bits n m then some m else hs L s q bits n m
theorem hs_some {L : Nat → Nat} {s q bits n : Nat} : ∀ {m k : Nat}, hs L s q bits n m = some k → k < m ∧ hit L s q bits n k
  | 0, k, h => by cases h
  | m + 1, k, h => by
    simp only [hs] at h
    by_cases hc : hit L s q bits n m
    · rw [if_pos hc] at h
      cases h
      exact ⟨by omega, hc⟩
    · rw [if_neg hc] at h
      obtain ⟨a, b⟩ := hs_some h
      exact ⟨by omega, b⟩
theorem hs_none {L : Nat → Nat} {s q bits n : Nat} : ∀ {m : Nat}, hs L s q bits n m = none → ∀ k, k < m → ¬ hit L s q bits n k
  | 0, _, k, hk => absurd hk (by omega)
  | m + 1, h, k, hk => by
    simp only [hs] at h
    by_cases hc : hit L s q bits n m
    · rw [if_pos hc] at h
      cases h
    · rw [if_neg hc] at h
      rcases Nat.lt_or_ge k m with z | z
      · exact hs_none h k z
      · rw [show k = m by omega]; exact hc
/-- where a hit stands -/
theorem hit_in {L : Nat → Nat} {s q bits n k : Nat} (hn : n ≤ 15) (h : hit L s q bits n k) : stt L s k ≤ bits * 2 ^ (15 - n) ∧ bits * 2 ^ (15 - n) < stt L s k + 2 ^ (15 - L k) := by
  obtain ⟨-, h2, h3⟩ := h
  unfold stt
  rw [pow_split h2 hn, h3]
  have a1 := Nat.div_mul_le_self bits (2 ^ (n - L k))
  have a2 := Nat.lt_mul_div_succ bits (Nat.two_pow_pos (n - L k))
  have a3 : bits / 2 ^ (n - L k) * 2 ^ (n - L k) * 2 ^ (15 - n) ≤ bits * 2 ^ (15 - n) := Nat.mul_le_mul_right _ a1
  have a4 : bits * 2 ^ (15 - n) < 2 ^ (n - L k) * (bits / 2 ^ (n - L k) + 1) * 2 ^ (15 - n) := Nat.mul_lt_mul_of_pos_right a2 (Nat.two_pow_pos _)
  refine ⟨by rw [← Nat.mul_assoc]; exact a3, ?_⟩
  rw [← Nat.mul_assoc]
  rw [Nat.mul_add, Nat.mul_one, Nat.add_mul, Nat.mul_comm (2 ^ (n - L k)) (bits / 2 ^ (n - L k))] at a4
  exact a4
theorem hit_one {L : Nat → Nat} {s q q' bits n a b : Nat} (hn : n ≤ 15) (ha : a < s) (hb : b < s) (hq : 1 ≤ q) (hq' : 1 ≤ q') (h1 : hit L s q bits n a) (h2 : hit L s q' bits n b) : a = b := by
  have e1 := hit_in hn h1
  have e2 := hit_in hn h2
  have l1 := h1.1
  have l2 := h2.1
  have m1 := h1.2.1
  have m2 := h2.2.1
  rcases Nat.lt_trichotomy (plc L s a) (plc L s b) with z | z | z
  · have := stt_dis ha hb (by omega) (by omega) (by omega) z
    omega
  · exact plc_inj ha hb (by omega) (by omega) z
  · have := stt_dis hb ha (by omega) (by omega) (by omega) z
    omega
theorem hs_eq {L : Nat → Nat} {s q bits n k : Nat} (hn : n ≤ 15) (hq : 1 ≤ q) (hk : k < s) (h : hit L s q bits n k) : hs L s q bits n s = some k := by
  cases hh : hs L s q bits n s with
  | none => exact absurd h (hs_none hh k hk)
  | some k' =>
    obtain ⟨a, b⟩ := hs_some hh
    rw [hit_one hn a hk hq hq b h]
/-- in a part, no shorter word -/
theorem hs_part {L : Nat → Nat} {s r j x : Nat} (hL : ∀ k, k < s → L k ≤ 15) (hr : r ≤ 15) (hm : ms L s r j s ≠ 0) (hx : x < 2 ^ ms L s r j s) : hs L s 1 (j * 2 ^ ms L s r j s + x) (r + ms L s r j s) s = hs L s (r + 1) (j * 2 ^ ms L s r j s + x) (r + ms L s r j s) s := by
  have hml := ms_le (r := r) (j := j) hL
  obtain ⟨k', c1, c2, c3, c4⟩ : ∃ k, k < s ∧ r < L k ∧ prf L s r k = j ∧ L k - r = ms L s r j s := by
    rcases (ms_spec L s r j s).2 with h | h
    · exact absurd h hm
    · exact h
  generalize ms L s r j s = b at *
  have hno : ∀ k, k < s → hit L s 1 (j * 2 ^ b + x) (r + b) k → r < L k := by
    intro k hk h
    rcases Nat.lt_or_ge r (L k) with z | z
    · exact z
    · exfalso
      have l1 := h.1
      have hj : hit L s 1 j r k := by
        refine ⟨h.1, z, ?_⟩
        rw [h.2.2, show r + b - L k = b + (r - L k) by omega, Nat.pow_add, ← Nat.div_div_eq_div_mul]
        congr 1
        rw [Nat.mul_comm, Nat.mul_add_div (Nat.two_pow_pos _), Nat.div_eq_of_lt hx, Nat.add_zero]
      have e1 := hit_in hr hj
      have hk15 := hL k' c1
      have e2 : stt L s k' / 2 ^ (15 - r) = j := by rw [← prf_stt (by omega) hk15]; exact c3
      have e3 : j * 2 ^ (15 - r) ≤ stt L s k' := by rw [← e2]; exact Nat.div_mul_le_self _ _
      have e4 : stt L s k' < (j + 1) * 2 ^ (15 - r) := by
        have := Nat.lt_mul_div_succ (stt L s k') (Nat.two_pow_pos (15 - r))
        rw [e2, Nat.mul_comm] at this
        exact this
      have e5 : (j + 1) * 2 ^ (15 - r) ≤ stt L s k + 2 ^ (15 - L k) := by
        have w := hj.2.2
        have a2 := Nat.lt_mul_div_succ j (Nat.two_pow_pos (r - L k))
        rw [← w, Nat.mul_comm] at a2
        have a3 : (j + 1) * 2 ^ (15 - r) ≤ (wrd L s k + 1) * 2 ^ (r - L k) * 2 ^ (15 - r) := Nat.mul_le_mul_right _ (by omega)
        unfold stt
        rw [Nat.mul_assoc, ← pow_split z hr, Nat.add_mul (wrd L s k) 1, Nat.one_mul] at a3
        exact a3
      rcases Nat.lt_trichotomy (plc L s k) (plc L s k') with y | y | y
      · have := stt_dis hk c1 l1 (by omega) hk15 y
        omega
      · have := plc_inj hk c1 l1 (by omega) y
        subst this
        omega
      · have := plc_len hk l1 y
        omega
  cases hh : hs L s (r + 1) (j * 2 ^ b + x) (r + b) s with
  | none =>
    cases hh1 : hs L s 1 (j * 2 ^ b + x) (r + b) s with
    | none => rfl
    | some k =>
      obtain ⟨a1, a2⟩ := hs_some hh1
      exact absurd ⟨hno k a1 a2, a2.2⟩ (hs_none hh k a1)
  | some k =>
    obtain ⟨a1, a2⟩ := hs_some hh
    exact hs_eq (by omega) (by omega) a1 ⟨by have := a2.1; omega, a2.2⟩
