/-! ===== the class's stream ===== -/
def SB (σ : St) (h : Nat) (B : List Bool) : Prop := σ.1 3 0 1 = nI h ∧ h < 20000 ∧ σ.1 3 0 2 = nI B.length ∧ B.length ≤ 20000 ∧ ∀ i, i < B.length → bt (σ.1 4 0 ((h + i) % 20000 / 32)) ((h + i) % 20000 % 32) = B.getD i false
abbrev Fs : Nat → Nat → Nat → Prop := fun f _ _ => f = 3 ∨ f = 4
theorem SB.go {σ σ1 : St} {h : Nat} {B : List Bool} (hS : SB σ h B) (h3 : σ1.1 3 0 = σ.1 3 0) (h4 : σ1.1 4 0 = σ.1 4 0) : SB σ1 h B := by
  unfold SB at *
  rw [h3, h4]
  exact hS
theorem e_placeOf {σ : St} {h k : Nat} (hh : σ.1 3 0 1 = nI h) (hk : h + k < 2 ^ 31) : f_Stream_placeOf σ (nI k) = some (σ, nI ((h + k) % 20000)) := by
  unfold f_Stream_placeOf
  rw [hh, nI_add]
  show some (σ, nI (h + k) - nI (h + k) / nI 20000 * nI 20000) = _
  rw [nI_rem hk (by omega) (by omega)]
theorem d32 {p : Nat} (hp : p < 2 ^ 31) : nI p / 32 = nI (p / 32) := nI_div (b := 32) hp (by omega) (by omega)
theorem r32 {p : Nat} (hp : p < 2 ^ 31) : nI p - nI p / 32 * 32 = nI (p % 32) := nI_rem (b := 32) hp (by omega) (by omega)
theorem e_bitOf {σ : St} {p : Nat} (hp : p < 20000) : f_Stream_bitOf σ (nI p) = some (σ, b2i (bt (σ.1 4 0 (p / 32)) (p % 32))) := by
  unfold f_Stream_bitOf
  rw [r32 (by omega), d32 (by omega), gd_t (nI_ib (by omega) (by omega)), nI_cl (by omega), ushr_bit _ (by omega)]
theorem e_at {σ : St} {h k : Nat} (hh : σ.1 3 0 1 = nI h) (hk : h + k < 2 ^ 31) : f_Stream_at σ (nI k) = some (σ, b2i (bt (σ.1 4 0 ((h + k) % 20000 / 32)) ((h + k) % 20000 % 32))) := by
  unfold f_Stream_at
  rw [e_placeOf hh hk]
  dsimp only [b2]
  rw [e_bitOf (by omega)]
theorem SB_put {σ : St} {h : Nat} {B : List Bool} {b : Bool} {y : Int32} (hS : SB σ h B) (hz : B.length < 20000) {p : Nat} (hp : (h + B.length) % 20000 = p) (hy : ∀ i, i < 32 → bt y i = if i = p % 32 then b else bt (σ.1 4 0 (p / 32)) i) {v : Int32} (hv : v = nI (B.length + 1)) : SB (sI (sI σ 4 0 (p / 32) y) 3 0 2 v) h (B ++ [b]) := by
  obtain ⟨h1, h2, h3, h4, h5⟩ := hS
  refine ⟨by rw [sI_k (by omega), sI_f (by omega)]; exact h1, h2, by rw [sI_at, hv]; simp, by simp; omega, fun i hi => ?_⟩
  have hi' : i < B.length + 1 := by simpa using hi
  rw [sI_f (by omega)]
  by_cases hiz : i = B.length
  · subst hiz
    rw [hp, sI_at, hy _ (by omega), if_pos rfl]
    simp
  · have hlt : i < B.length := by omega
    have hne : (h + i) % 20000 ≠ p := by omega
    have hg : (B ++ [b]).getD i false = B.getD i false := by
      simp [List.getD, List.getElem?_append_left hlt]
    rw [hg, ← h5 i hlt]
    by_cases hq : (h + i) % 20000 / 32 = p / 32
    · rw [hq, sI_at, hy _ (by omega), if_neg (by omega)]
    · rw [sI_k hq]
theorem bt_one {n i : Nat} (hn : n < 32) (hi : i < 32) : bt ((1 : Int32) <<< (nI n &&& 31)) i = decide (i = n) := by
  rw [b_shl n hn _ hi, bt_1]
  by_cases h : i = n
  · subst h; simp
  · by_cases h2 : n ≤ i
    · simp [h, h2]; omega
    · simp [h, h2]
theorem s_append {σ : St} {h : Nat} {B : List Bool} (hS : SB σ h B) (hz : B.length < 20000) (b : Bool) : ok (f_Stream_append σ (b2i b)) (fun σ1 => SB σ1 h (B ++ [b]) ∧ fr Fs σ σ1 ∧ σ1.1 3 0 3 = σ.1 3 0 3 ∧ σ1.1 3 0 4 = σ.1 3 0 4) := by
  unfold f_Stream_append
  obtain ⟨h1, h2, h3, h4, h5⟩ := id hS
  refine ok_t (by rw [h3]; exact nI_lt (b := 20000) hz (by omega)) ?_
  rw [h3, e_placeOf h1 (by omega)]
  dsimp only [b2]
  generalize hp : (h + B.length) % 20000 = p
  have hp2 : p < 20000 := by omega
  rw [r32 (by omega), d32 (by omega), nI_cl (by omega)]
  refine ok_nm (fun x3 e3 => ok_gd (nI_ib (by omega) (by omega)) (ok_nm (fun x4 e4 => ?_)))
  have k3 : ∀ i, i < 32 → bt x3 i = decide (i = p % 32) := fun i hi => by rw [e3]; exact bt_one (by omega) hi
  have k4 : ∀ i, i < 32 → bt x4 i = (bt (σ.1 4 0 (p / 32)) i && !decide (i = p % 32)) := fun i hi => by
    rw [e4, b_and, b_xor, k3 i hi, b_m1 i hi]
    cases decide (i = p % 32) <;> rfl
  refine ok_if (fun hb => ok_gd (nI_ib (by omega) (by omega)) (ok_nm (fun σ7 e7 => ok_nm (fun σ8 e8 => ok_some ?_)))) (fun hb => ok_gd (nI_ib (by omega) (by omega)) (ok_nm (fun σ7 e7 => ok_nm (fun σ8 e8 => ok_some ?_))))
  · have hb' := (b2i_eq0 b).mp hb
    subst hb'
    rw [e8, e7]
    refine ⟨SB_put hS hz hp (fun i hi => ?_) ?_, (fr_sI (Or.inr rfl)).tr (fr_sI (Or.inl rfl)), by rw [sI_k (by omega), sI_f (by omega)], by rw [sI_k (by omega), sI_f (by omega)]⟩
    · rw [k4 i hi]
      by_cases hx : i = p % 32
      · simp [hx]
      · simp [hx]
    · rw [sI_f (by omega), h3, nI_1]
  · have hb' : b = true := by
      cases b
      · exact absurd rfl hb
      · rfl
    subst hb'
    rw [e8, e7]
    refine ⟨SB_put hS hz hp (fun i hi => ?_) ?_, (fr_sI (Or.inr rfl)).tr (fr_sI (Or.inl rfl)), by rw [sI_k (by omega), sI_f (by omega)], by rw [sI_k (by omega), sI_f (by omega)]⟩
    · rw [b_or, k4 i hi, k3 i hi]
      by_cases hx : i = p % 32
      · simp [hx]
      · simp [hx]
    · rw [sI_f (by omega), h3, nI_1]
theorem s_appendF {σ : St} {h : Nat} {B : List Bool} (hS : SB σ h B) (hz : B.length = 20000) (a : Int32) : f_Stream_append σ a = some (sI σ 3 0 4 1) := by
  unfold f_Stream_append
  obtain ⟨h1, h2, h3, h4, h5⟩ := id hS
  rw [if_neg (by rw [h3, hz]; exact nI_nlt (a := 20000) (b := 20000) (by omega) (by omega))]
  rfl
/-- the lowest n bits of a number, the highest of them first -/
def bitsOf (v : Int32) : Nat → List Bool
  | 0 => []
  | n + 1 => bt v n :: bitsOf v n
theorem bitsOf_len (v : Int32) : ∀ n, (bitsOf v n).length = n
  | 0 => rfl
  | n + 1 => by simp [bitsOf, bitsOf_len v n]
/-- appendNumber, over any J that an append leads on -/
theorem s_appendNumber {J : List Bool → St → Prop} {Z : Nat} (hJ : ∀ (σ : St) (B : List Bool) (b : Bool), J B σ → B.length < Z → ok (f_Stream_append σ (b2i b)) (J (B ++ [b]))) {σ : St} {B : List Bool} (h0 : J B σ) (v : Int32) {n : Nat} (hn : n ≤ 31) (hz : B.length + n ≤ Z) : ok (f_Stream_appendNumber σ v (nI n)) (J (B ++ bitsOf v n)) := by
  unfold f_Stream_appendNumber
  refine ok_nm (fun x1 e1 => ok_b2 (Q := fun q => J (B ++ bitsOf v n) q.1) (ok_lp (fun k q => ∃ B', J B' q.1 ∧ q.2 = nI k - 1 ∧ k ≤ n ∧ B' ++ bitsOf v k = B ++ bitsOf v n ∧ B'.length + k ≤ Z) ?_ n _ ⟨B, h0, e1, Nat.le_refl _, rfl, hz⟩) (fun σ4 x5 hq => ok_some hq))
  rintro k ⟨σ, x⟩ ⟨B', hJ', rfl, hk, hB, hz'⟩
  dsimp only
  unfold lb_Stream_appendNumber_4
  cases k with
  | zero =>
    refine ok_t (by decide) (ok_some ?_)
    dsimp only
    rw [← hB]
    simp only [bitsOf, List.append_nil]
    exact hJ'
  | succ k =>
    rw [nI_pred]
    refine ok_f (nI_pos (by omega)) ?_
    rw [ushr_bit _ (by omega)]
    refine ok_b1 (hJ σ B' (bt v k) hJ' (by omega)) (fun σ2 h2 => ok_nm (fun x3 e3 => ok_some ?_))
    refine ⟨k, by omega, B' ++ [bt v k], h2, by rw [e3]; exact (Int32.sub_eq_add_neg _ _).symm, by omega, ?_, by simp; omega⟩
    rw [← hB]
    simp [bitsOf]
