/-! ===== lengths and words, as numbers ===== -/
/-- how many of the first k symbols have the length l -/
def cnt (L : Nat → Nat) (l : Nat) : Nat → Nat
  | 0 => 0
  | k + 1 => cnt L l k + (if L k = l then 1 else 0)
theorem cnt_mono (L : Nat → Nat) (l : Nat) : ∀ {a b : Nat}, a ≤ b → cnt L l a ≤ cnt L l b := by
  intro a b h
  induction b with
  | zero => rw [Nat.le_zero.mp h]; exact Nat.le_refl _
  | succ b ih =>
    rcases Nat.lt_or_ge a (b + 1) with q | q
    · have := ih (by omega)
      simp only [cnt]
      omega
    · rw [show a = b + 1 by omega]; exact Nat.le_refl _
theorem cnt_le (L : Nat → Nat) (l : Nat) : ∀ k, cnt L l k ≤ k
  | 0 => Nat.le_refl _
  | k + 1 => by
    have := cnt_le L l k
    simp only [cnt]
    split <;> omega
theorem cnt_lt {L : Nat → Nat} {l k s : Nat} (hk : k < s) (hl : L k = l) : cnt L l k < cnt L l s := by
  have := cnt_mono L l (show k + 1 ≤ s by omega)
  simp only [cnt, hl, if_true] at this
  omega
theorem cnt_congr {L L' : Nat → Nat} (l : Nat) : ∀ {s : Nat}, (∀ k, k < s → L k = L' k) → cnt L l s = cnt L' l s
  | 0, _ => rfl
  | s + 1, h => by
    simp only [cnt]
    rw [cnt_congr l (s := s) (fun k hk => h k (by omega)), h s (by omega)]
/-- the sum over the lengths 1 .. N -/
def sumL (g c : Nat → Nat) : Nat → Nat
  | 0 => 0
  | N + 1 => sumL g c N + c (N + 1) * g (N + 1)
theorem sumL_congr {g c c' : Nat → Nat} : ∀ {N : Nat}, (∀ l, 1 ≤ l → l ≤ N → c l = c' l) → sumL g c N = sumL g c' N
  | 0, _ => rfl
  | N + 1, h => by
    simp only [sumL]
    rw [sumL_congr (N := N) (fun l h1 h2 => h l h1 (by omega)), h (N + 1) (by omega) (Nat.le_refl _)]
theorem sumL_add (g c : Nat → Nat) (m : Nat) : ∀ N, sumL g (fun l => c l + (if m = l then 1 else 0)) N = sumL g c N + (if 1 ≤ m ∧ m ≤ N then g m else 0)
  | 0 => by
    simp only [sumL]
    rw [if_neg (by omega)]
  | N + 1 => by
    simp only [sumL]
    rw [sumL_add g c m N, Nat.add_mul]
    by_cases h : m = N + 1
    · subst h
      rw [if_neg (by omega), if_pos rfl, if_pos (by omega)]
      omega
    · rw [if_neg h, Nat.zero_mul]
      by_cases h2 : 1 ≤ m ∧ m ≤ N
      · rw [if_pos h2, if_pos (by omega)]
        omega
      · rw [if_neg h2, if_neg (by omega)]
        omega
/-- the sum over the symbols whose length is 1 .. N -/
def sumS (g L : Nat → Nat) (N : Nat) : Nat → Nat
  | 0 => 0
  | k + 1 => sumS g L N k + (if 1 ≤ L k ∧ L k ≤ N then g (L k) else 0)
theorem sumS_eq (g L : Nat → Nat) (N : Nat) : ∀ s, sumS g L N s = sumL g (fun l => cnt L l s) N
  | 0 => by
    show 0 = sumL g (fun _ => 0) N
    induction N with
    | zero => rfl
    | succ N ih => simp only [sumL, Nat.zero_mul]; omega
  | s + 1 => by
    simp only [sumS, cnt]
    rw [sumS_eq g L N s, sumL_add g (fun l => cnt L l s) (L s) N]
/-- the word behind the last one of length l, in a code with c words of each length -/
def wa (c : Nat → Nat) : Nat → Nat
  | 0 => 0
  | l + 1 => 2 * wa c l + c (l + 1)
/-- how many words have the lengths 1 .. l -/
def hvn (c : Nat → Nat) : Nat → Nat
  | 0 => 0
  | l + 1 => hvn c l + c (l + 1)
def fil (c : Nat → Nat) (l : Nat) : Nat := sumL (fun m => 2 ^ (15 - m)) c l
theorem wa_fil (c : Nat → Nat) : ∀ l, l ≤ 15 → wa c l * 2 ^ (15 - l) = fil c l
  | 0, _ => by simp [wa, fil, sumL]
  | l + 1, h => by
    have ih := wa_fil c l (by omega)
    unfold fil at ih ⊢
    simp only [wa, sumL]
    rw [← ih, Nat.add_mul, show 15 - l = (15 - (l + 1)) + 1 by omega, Nat.pow_succ]
    congr 1
    rw [Nat.mul_comm 2 (wa c l), Nat.mul_assoc, Nat.mul_comm 2]
theorem hvn_sum (c : Nat → Nat) : ∀ l, hvn c l = sumL (fun _ => 1) c l
  | 0 => rfl
  | l + 1 => by simp only [hvn, sumL, Nat.mul_one]; rw [hvn_sum c l]
theorem hvn_mono (c : Nat → Nat) : ∀ {a b : Nat}, a ≤ b → hvn c a ≤ hvn c b := by
  intro a b h
  induction b with
  | zero => rw [Nat.le_zero.mp h]; exact Nat.le_refl _
  | succ b ih =>
    rcases Nat.lt_or_ge a (b + 1) with q | q
    · have := ih (by omega)
      simp only [hvn]
      omega
    · rw [show a = b + 1 by omega]; exact Nat.le_refl _
theorem sumS_le (L : Nat → Nat) (N : Nat) : ∀ s, sumS (fun _ => 1) L N s ≤ s
  | 0 => Nat.le_refl _
  | s + 1 => by
    have := sumS_le L N s
    simp only [sumS]
    split <;> omega
theorem hvn_le (L : Nat → Nat) (l s : Nat) : hvn (fun m => cnt L m s) l ≤ s := by
  rw [hvn_sum, ← sumS_eq]
  exact sumS_le L l s
/-- the place of a symbol among the words in their order -/
def plc (L : Nat → Nat) (s k : Nat) : Nat := hvn (fun m => cnt L m s) (L k - 1) + cnt L (L k) k
theorem plc_lt {L : Nat → Nat} {s k : Nat} (hk : k < s) (h1 : 1 ≤ L k) : plc L s k < s := by
  have h2 := cnt_lt hk (rfl : L k = L k)
  have h3 := hvn_le L (L k) s
  have h4 : hvn (fun m => cnt L m s) (L k) = hvn (fun m => cnt L m s) (L k - 1) + cnt L (L k) s := by
    have e : L k = (L k - 1) + 1 := by omega
    generalize hm : L k - 1 = m at *
    rw [e]
    rfl
  unfold plc
  omega
/-- two symbols with words have different places -/
theorem cnt_inj {L : Nat → Nat} {l a b : Nat} (ha : L a = l) (hb : L b = l) (h : cnt L l a = cnt L l b) : a = b := by
  rcases Nat.lt_trichotomy a b with q | q | q
  · have := cnt_lt q ha
    omega
  · exact q
  · have := cnt_lt q hb
    omega
theorem plc_inj {L : Nat → Nat} {s a b : Nat} (ha : a < s) (hb : b < s) (h1 : 1 ≤ L a) (h2 : 1 ≤ L b) (h : plc L s a = plc L s b) : a = b := by
  have ka := cnt_lt ha (rfl : L a = L a)
  have kb := cnt_lt hb (rfl : L b = L b)
  have e : ∀ k, 1 ≤ L k → hvn (fun m => cnt L m s) (L k) = hvn (fun m => cnt L m s) (L k - 1) + cnt L (L k) s := by
    intro k hk
    have e : L k = (L k - 1) + 1 := by omega
    generalize hm : L k - 1 = m at *
    rw [e]
    rfl
  have ea := e a h1
  have eb := e b h2
  unfold plc at h
  rcases Nat.lt_trichotomy (L a) (L b) with q | q | q
  · have := hvn_mono (fun m => cnt L m s) (show L a ≤ L b - 1 by omega)
    omega
  · rw [q] at h
    exact cnt_inj q rfl (by omega)
  · have := hvn_mono (fun m => cnt L m s) (show L b ≤ L a - 1 by omega)
    omega
/-- a symbol's word -/
def wrd (L : Nat → Nat) (s k : Nat) : Nat := 2 * wa (fun m => cnt L m s) (L k - 1) + cnt L (L k) k
/-- the greatest length with a word -/
def gre (c : Nat → Nat) : Nat → Nat
  | 0 => 0
  | l + 1 => if 0 < c (l + 1) then l + 1 else gre c l
def knd (L : Nat → Nat) (s : Nat) : Nat :=
  if hvn (fun m => cnt L m s) 15 = 0 then 0 else if hvn (fun m => cnt L m s) 15 = 1 ∧ gre (fun m => cnt L m s) 15 = 1 then 1 else if fil (fun m => cnt L m s) 15 = 32768 then 2 else if fil (fun m => cnt L m s) 15 < 32768 then 3 else 4
theorem fil_le (c : Nat → Nat) (s : Nat) (h : ∀ l, hvn c l ≤ s) : ∀ l, fil c l ≤ 16384 * hvn c l
  | 0 => Nat.le_refl _
  | l + 1 => by
    have ih := fil_le c s h l
    unfold fil at ih ⊢
    simp only [sumL, hvn]
    have : c (l + 1) * 2 ^ (15 - (l + 1)) ≤ c (l + 1) * 16384 := Nat.mul_le_mul_left _ (by
      have : 2 ^ (15 - (l + 1)) ≤ 2 ^ 14 := Nat.pow_le_pow_right (by omega) (by omega)
      omega)
    omega
theorem wa_le (c : Nat → Nat) : ∀ l, wa c l ≤ 2 ^ l * hvn c l
  | 0 => Nat.le_refl _
  | l + 1 => by
    have ih := wa_le c l
    simp only [wa, hvn]
    rw [Nat.pow_succ, Nat.mul_add]
    have h1 : 2 ^ l * 2 * hvn c l = 2 * (2 ^ l * hvn c l) := by rw [Nat.mul_comm (2 ^ l) 2, Nat.mul_assoc]
    have h2 : c (l + 1) ≤ 2 ^ l * 2 * c (l + 1) := Nat.le_mul_of_pos_left _ (by have := Nat.two_pow_pos l; omega)
    omega
