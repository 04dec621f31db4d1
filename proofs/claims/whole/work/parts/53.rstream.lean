/-! ===== the reference's stream ===== -/
def SR (σ : St) (B : List Bool) : Prop := ∃ f, σ.1 48 0 11 = nI f ∧ σ.1 48 0 12 = nI (f + B.length) ∧ f + B.length ≤ 60000 ∧ B.length ≤ 20000 ∧ ∀ i, i < B.length → σ.1 57 0 (f + i) = b2i (B.getD i false)
abbrev Fm : Nat → Nat → Nat → Prop := fun f _ k => f = 57 ∨ (f = 48 ∧ (k = 11 ∨ k = 12))
theorem SR.go {σ σ1 : St} {B : List Bool} (h : SR σ B) (h1 : σ1.1 48 0 11 = σ.1 48 0 11) (h2 : σ1.1 48 0 12 = σ.1 48 0 12) (h3 : σ1.1 57 0 = σ.1 57 0) : SR σ1 B := by
  obtain ⟨f, a1, a2, a3, a4, a5⟩ := h
  exact ⟨f, h1.trans a1, h2.trans a2, a3, a4, fun i hi => by rw [h3]; exact a5 i hi⟩
theorem SR.len {σ : St} {B : List Bool} (h : SR σ B) : σ.1 48 0 12 - σ.1 48 0 11 = nI B.length := by
  obtain ⟨f, a1, a2, a3, a4, a5⟩ := h
  rw [a1, a2, pk_sub (by omega), Nat.add_sub_cancel_left]
theorem b2i_i8 (b : Bool) : (b2i b).toInt8.toInt32 = b2i b := by cases b <;> decide
/-- one bit is put at the end -/
theorem SR_put {σ : St} {f : Nat} {B : List Bool} (b : Bool) (a1 : σ.1 48 0 11 = nI f) (a2 : σ.1 48 0 12 = nI (f + B.length)) (a3 : f + B.length < 60000) (a5 : ∀ i, i < B.length → σ.1 57 0 (f + i) = b2i (B.getD i false)) {v : Int32} (hv : v = nI (f + B.length + 1)) : (sI (sI σ 57 0 (f + B.length) (b2i b)) 48 0 12 v).1 48 0 11 = nI f ∧ (sI (sI σ 57 0 (f + B.length) (b2i b)) 48 0 12 v).1 48 0 12 = nI (f + (B ++ [b]).length) ∧ ∀ i, i < (B ++ [b]).length → (sI (sI σ 57 0 (f + B.length) (b2i b)) 48 0 12 v).1 57 0 (f + i) = b2i ((B ++ [b]).getD i false) := by
  have hl : (B ++ [b]).length = B.length + 1 := by simp
  refine ⟨by rw [sI_k (by omega), sI_f (by omega)]; exact a1, by rw [sI_at, hv, hl]; rfl, fun i hi => ?_⟩
  rw [hl] at hi
  rw [sI_f (by omega)]
  by_cases hiz : i = B.length
  · subst hiz
    rw [sI_at]
    simp [List.getD]
  · rw [sI_k (by omega), a5 i (by omega)]
    simp [List.getD, List.getElem?_append_left (show i < B.length by omega)]
theorem s_moPut65 {σ : St} {f : Nat} {B : List Bool} (a1 : σ.1 48 0 11 = nI f) (a2 : σ.1 48 0 12 = nI (f + B.length)) (v : Int32) {n : Nat} (hn : n ≤ 31) (a3 : f + B.length + n ≤ 60000) (a4 : B.length + n ≤ 20000) (a5 : ∀ i, i < B.length → σ.1 57 0 (f + i) = b2i (B.getD i false)) : ok (jn_Mo_putBits_65 σ v (nI n)) (fun σ1 => SR σ1 (B ++ bitsOf v n) ∧ fr Fm σ σ1) := by
  unfold jn_Mo_putBits_65
  refine ok_nm (fun x1 e1 => ok_b2 (Q := fun q => SR q.1 (B ++ bitsOf v n) ∧ fr Fm σ q.1) (ok_lp (fun k q => ∃ B', q.1.1 48 0 11 = nI f ∧ q.1.1 48 0 12 = nI (f + B'.length) ∧ (∀ i, i < B'.length → q.1.1 57 0 (f + i) = b2i (B'.getD i false)) ∧ q.2 = nI k - 1 ∧ k ≤ n ∧ B' ++ bitsOf v k = B ++ bitsOf v n ∧ fr Fm σ q.1) ?_ n _ ⟨B, a1, a2, a5, e1, Nat.le_refl _, rfl, fr.rf⟩) (fun σ4 x5 hq => ok_some hq))
  rintro k ⟨σ2, x⟩ ⟨B', q1, q2, q3, rfl, hk, hB, hf⟩
  dsimp only at q1 q2 q3 hf ⊢
  have hlen : B'.length + k = B.length + n := by
    have := congrArg List.length hB
    simpa [bitsOf_len] using this
  unfold lb_Mo_putBits_69
  cases k with
  | zero =>
    refine ok_t (by decide) (ok_some ?_)
    simp only [bitsOf, List.append_nil] at hB
    dsimp only
    rw [← hB]
    exact ⟨⟨f, q1, q2, by omega, by omega, q3⟩, hf⟩
  | succ k =>
    rw [nI_pred]
    refine ok_f (nI_pos (by omega)) ?_
    rw [q2]
    refine ok_gd (nI_ib (by omega) (by omega)) ?_
    rw [nI_cl (by omega), shr_bit _ (by omega), b2i_i8, b2i_i8]
    refine ok_nm (fun σ3 e3 => ok_nm (fun σ4 e4 => ok_nm (fun x3 ex => ok_some ?_)))
    rw [e3, sI_f (by omega), q2, nI_1] at e4
    obtain ⟨p1, p2, p3⟩ := SR_put (bt v k) q1 q2 (by omega) q3 (v := nI (f + B'.length + 1)) rfl
    rw [← e4] at p1 p2 p3
    refine ⟨k, by omega, B' ++ [bt v k], p1, p2, p3, by rw [ex]; exact (Int32.sub_eq_add_neg _ _).symm, by omega, ?_, ?_⟩
    · rw [← hB]
      simp [bitsOf]
    · rw [e4]
      exact hf.tr ((fr_sI (Or.inl rfl)).tr (fr_sI (Or.inr ⟨rfl, Or.inr rfl⟩)))
/-- putBits of the reference -/
theorem s_moPutBits {σ : St} {B : List Bool} (hS : SR σ B) (v : Int32) {n : Nat} (hn : n ≤ 31) (hz : B.length + n ≤ 20000) : ok (f_Mo_putBits σ v (nI n)) (fun σ1 => SR σ1 (B ++ bitsOf v n) ∧ fr Fm σ σ1) := by
  obtain ⟨f, a1, a2, a3, a4, a5⟩ := hS
  unfold f_Mo_putBits
  rw [a2, nI_add]
  refine ok_if (fun hc => ?_) (fun hc => ?_)
  · have hc' : f + B.length + n ≤ 60000 := (nI_leI (b := 60000) (by omega) (by omega)).mp hc
    exact s_moPut65 a1 a2 v hn hc' hz a5
  · have hc' : ¬ f + B.length + n ≤ 60000 := fun h => hc ((nI_leI (b := 60000) (by omega) (by omega)).mpr h)
    rw [a1]
    refine ok_nm (fun x7 e7 => ok_b2 (Q := fun q => q.1.1 48 0 11 = nI f ∧ q.1.1 48 0 12 = nI (f + B.length) ∧ (∀ i, i < B.length → q.1.1 57 0 i = b2i (B.getD i false)) ∧ fr Fm σ q.1) (ok_up B.length (fun i q => q.2 = nI (f + i) ∧ q.1.1 48 0 11 = nI f ∧ q.1.1 48 0 12 = nI (f + B.length) ∧ (∀ j, j < i → q.1.1 57 0 j = b2i (B.getD j false)) ∧ (∀ j, i ≤ j → j < B.length → q.1.1 57 0 (f + j) = b2i (B.getD j false)) ∧ fr Fm σ q.1) ?_ ?_ 0 _ (Nat.zero_le _) ⟨e7, a1, a2, fun j hj => absurd hj (by omega), fun j _ hj => a5 j hj, fr.rf⟩) ?_)
    · rintro i ⟨σ2, x⟩ hi ⟨rfl, q1, q2, q3, q4, q5⟩
      dsimp only at q1 q2 q3 q4 q5 ⊢
      unfold lb_Mo_putBits_16
      rw [q2, q1]
      refine ok_f (nI_ge (by omega) (by omega)) (ok_gd (nI_ib (by omega) (by omega)) ?_)
      rw [pk_sub (by omega), Nat.add_sub_cancel_left, nI_cl (by omega), nI_cl (by omega), q4 i (Nat.le_refl _) hi, b2i_i8]
      refine ok_gd (nI_ib (by omega) (by omega)) (ok_nm (fun σ8 e8 => ok_nm (fun x9 e9 => ok_some ?_)))
      dsimp only
      rw [e8]
      refine ⟨by rw [e9, nI_1]; rfl, by rw [sI_f (by omega)]; exact q1, by rw [sI_f (by omega)]; exact q2, fun j hj => ?_, fun j h1 h2 => ?_, q5.tr (fr_sI (Or.inl rfl))⟩
      · by_cases hji : j = i
        · rw [hji, sI_at]
        · rw [sI_k hji]
          exact q3 j (by omega)
      · rw [sI_k (by omega)]
        exact q4 j (by omega) h2
    · rintro ⟨σ2, x⟩ ⟨rfl, q1, q2, q3, q4, q5⟩
      dsimp only at q1 q2 q3 q4 q5 ⊢
      unfold lb_Mo_putBits_16
      rw [q2]
      exact ok_t (nI_le (Nat.le_refl _) (by omega)) (ok_some ⟨q1, q2, q3, q5⟩)
    · rintro σ10 x11 ⟨q1, q2, q3, q4⟩
      dsimp only at q1 q2 q3 q4
      refine ok_nm (fun σ12 e12 => ok_nm (fun σ13 e13 => ?_))
      rw [q1, q2, pk_sub (by omega), Nat.add_sub_cancel_left] at e12
      have b1 : σ13.1 48 0 11 = nI 0 := by rw [e13, sI_at]; rfl
      have b2 : σ13.1 48 0 12 = nI (0 + B.length) := by rw [e13, sI_k (by omega), e12, sI_at, Nat.zero_add]
      have b3 : ∀ i, i < B.length → σ13.1 57 0 (0 + i) = b2i (B.getD i false) := fun i hi => by
        rw [e13, sI_f (by omega), e12, sI_f (by omega), Nat.zero_add]
        exact q3 i hi
      refine (s_moPut65 b1 b2 v hn (by omega) hz b3).mono (fun σ1 hq => ⟨hq.1, q4.tr (fr.tr ?_ hq.2)⟩)
      rw [e13, e12]
      exact (fr_sI (Or.inr ⟨rfl, Or.inr rfl⟩)).tr (fr_sI (Or.inr ⟨rfl, Or.inl rfl⟩))
theorem e_moHasRoom {σ : St} {B : List Bool} (hS : SR σ B) {n : Nat} (hn : n < 2 ^ 30) : f_Mo_hasRoom σ (nI n) = some (σ, if B.length + n ≤ 20000 then 1 else 0) := by
  have hl := hS.len
  obtain ⟨f, a1, a2, a3, a4, a5⟩ := hS
  unfold f_Mo_hasRoom
  rw [hl, nI_add]
  by_cases h : B.length + n ≤ 20000
  · rw [if_neg (show ¬ (20000 : Int32) < nI (B.length + n) from nI_nlt (b := B.length + n) (a := 20000) h (by omega)), if_pos h]
  · rw [if_pos (show (20000 : Int32) < nI (B.length + n) from nI_lt (a := 20000) (b := B.length + n) (by omega) (by omega)), if_neg h]
abbrev Ft : Nat → Nat → Nat → Prop := fun f _ k => f = 48 ∧ k = 11
/-- takeNumber of the reference -/
theorem s_moTake {σ : St} {X Y : List Bool} (hS : SR σ (X ++ Y)) {n : Nat} (hX : X.length = n) (h1 : 1 ≤ n) (hn : n ≤ 30) : ok (f_Mo_takeNumber σ (nI n)) (fun o => SR o.1 Y ∧ o.2 = nI (numL 0 X) ∧ fr Ft σ o.1) := by
  have hl := hS.len
  obtain ⟨f, a1, a2, a3, a4, a5⟩ := hS
  unfold f_Mo_takeNumber
  rw [hl]
  have hlen : (X ++ Y).length = n + Y.length := by rw [List.length_append, hX]
  rw [hlen] at a2 a3 a4 a5 ⊢
  refine ok_f (nI_nlt (b := 1) (by omega) (by omega)) (ok_t (nI_le (b := 30) (by omega) (by omega)) (ok_t (nI_le (by omega) (by omega)) ?_))
  refine ok_b3 (Q := fun o => SR o.1 Y ∧ o.2.1 = nI (numL 0 X) ∧ fr Ft σ o.1) (ok_up n (fun i q => ∃ (a : Nat) (X' : List Bool), q.1.1 48 0 11 = nI (f + i) ∧ q.1.1 48 0 12 = nI (f + (n + Y.length)) ∧ (∀ j, j < (X' ++ Y).length → q.1.1 57 0 (f + i + j) = b2i ((X' ++ Y).getD j false)) ∧ q.2.1 = nI a ∧ q.2.2 = nI i ∧ a < 2 ^ i ∧ X'.length + i = n ∧ numL a X' = numL 0 X ∧ fr Ft σ q.1) ?_ ?_ 0 _ (Nat.zero_le _) ⟨0, X, a1, a2, fun j hj => a5 j (by rw [hlen] at hj; exact hj), rfl, rfl, by simp, by omega, rfl, fr.rf⟩) (fun σ5 x6 x7 hq => ok_some hq)
  · rintro i ⟨σ1, v2, v3⟩ hi ⟨a, X', q1, q2, q3, rfl, rfl, q4, q5, q6, q7⟩
    dsimp only at q1 q2 q3 q7 ⊢
    unfold lb_Mo_takeNumber_34
    refine ok_f (nI_ge hi (by omega)) ?_
    cases X' with
    | nil => simp at q5; omega
    | cons b X' =>
      rw [q1]
      refine ok_gd (nI_ib (by omega) (by omega)) ?_
      rw [nI_cl (by omega)]
      have hb0 := q3 0 (by simp)
      rw [Nat.add_zero] at hb0
      rw [hb0]
      refine ok_nm (fun x1 e1 => ok_nm (fun σ2 e2 => ok_nm (fun x3 e3 => ok_some ?_)))
      rw [nI_1] at e2 e3
      dsimp only
      refine ⟨2 * a + b.toNat, X', ?_, ?_, fun j hj => ?_, ?_, e3, ?_, by simp at q5; omega, q6, ?_⟩
      · rw [e2, sI_at]; rfl
      · rw [e2, sI_k (by omega)]; exact q2
      · rw [e2, sI_f (by omega)]
        have := q3 (j + 1) (by simp at hj ⊢; omega)
        rw [show f + (i + 1) + j = f + i + (j + 1) by omega, this]
        simp [List.getD]
      · rw [e1]
        show nI 2 * nI a + b2i b = _
        rw [b2i_nI, pk_mul, nI_add]
      · have hb : b.toNat ≤ 1 := by cases b <;> decide
        have : 2 ^ (i + 1) = 2 * 2 ^ i := by rw [Nat.pow_succ]; omega
        omega
      · rw [e2]
        exact q7.tr (fr_sI ⟨rfl, rfl⟩)
  · rintro ⟨σ1, v2, v3⟩ ⟨a, X', q1, q2, q3, rfl, rfl, q4, q5, q6, q7⟩
    dsimp only at q1 q2 q3 q7 ⊢
    unfold lb_Mo_takeNumber_34
    refine ok_t (nI_le (Nat.le_refl _) (by omega)) (ok_some ?_)
    have hX' : X' = [] := List.length_eq_zero_iff.mp (by omega)
    subst hX'
    refine ⟨⟨f + n, q1, by rw [q2]; congr 1; omega, by omega, by omega, fun j hj => q3 j hj⟩, by rw [← q6]; rfl, q7⟩
theorem e_moTake0 {σ : St} {B : List Bool} (hS : SR σ B) {n : Nat} (h1 : 1 ≤ n) (hn : n ≤ 30) (hB : B.length < n) : f_Mo_takeNumber σ (nI n) = some (σ, -104) := by
  have hl := hS.len
  obtain ⟨f, a1, a2, a3, a4, a5⟩ := hS
  unfold f_Mo_takeNumber
  rw [hl, if_neg (show ¬ nI n < 1 from nI_nlt (b := 1) (by omega) (by omega)), if_pos (show nI n ≤ 30 from nI_le (b := 30) (by omega) (by omega)), if_neg (nI_ge hB (by omega))]
