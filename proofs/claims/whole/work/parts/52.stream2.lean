/-! ===== taking from the class's stream ===== -/
abbrev F3 : Nat → Nat → Nat → Prop := fun f _ _ => f = 3
theorem s_removeFirst0 {σ : St} {h : Nat} (hS : SB σ h []) : f_Stream_removeFirst σ = some (σ, -104) := by
  obtain ⟨h1, h2, h3, h4, h5⟩ := hS
  unfold f_Stream_removeFirst
  rw [if_pos (by rw [h3]; rfl)]
theorem s_removeFirst {σ : St} {h : Nat} {b : Bool} {B : List Bool} (hS : SB σ h (b :: B)) : ok (f_Stream_removeFirst σ) (fun o => SB o.1 ((h + 1) % 20000) B ∧ o.2 = b2i b ∧ fr F3 σ o.1 ∧ o.1.1 3 0 3 = σ.1 3 0 3 ∧ o.1.1 3 0 4 = σ.1 3 0 4) := by
  obtain ⟨h1, h2, h3, h4, h5⟩ := hS
  have hl : (b :: B).length = B.length + 1 := rfl
  rw [hl] at h3 h4 h5
  unfold f_Stream_removeFirst
  refine ok_f (by rw [h3]; exact nI_ne0 (by omega) (by omega)) ?_
  rw [h1, e_bitOf h2]
  dsimp only [b2]
  rw [show (1 : Int32) = nI 1 from rfl, e_placeOf h1 (by omega)]
  dsimp only [b2]
  refine ok_nm (fun σ5 e5 => ok_nm (fun σ6 e6 => ok_some ?_))
  have hsz : σ5.1 3 0 2 - nI 1 = nI B.length := by
    rw [e5, sI_k (by omega), h3]
    exact nI_pred _
  rw [hsz] at e6
  refine ⟨⟨?_, by omega, ?_, by omega, fun i hi => ?_⟩, ?_, ?_, ?_, ?_⟩
  · rw [e6, sI_k (by omega), e5, sI_at]
  · rw [e6, sI_at]
  · have hg := h5 (i + 1) (by omega)
    rw [e6, sI_f (by omega), e5, sI_f (by omega), show ((h + 1) % 20000 + i) % 20000 = (h + (i + 1)) % 20000 by omega, hg]
    simp [List.getD]
  · have hg := h5 0 (by omega)
    rw [Nat.add_zero, Nat.mod_eq_of_lt h2] at hg
    rw [hg]
    rfl
  · rw [e6, e5]
    exact (fr_sI rfl).tr (fr_sI rfl)
  · rw [e6, sI_k (by omega), e5, sI_k (by omega)]
  · rw [e6, sI_k (by omega), e5, sI_k (by omega)]
theorem s_removeLast0 {σ : St} {h : Nat} (hS : SB σ h []) : f_Stream_removeLast σ = some (σ, -104) := by
  obtain ⟨h1, h2, h3, h4, h5⟩ := hS
  unfold f_Stream_removeLast
  rw [if_pos (by rw [h3]; rfl)]
theorem s_removeLast {σ : St} {h : Nat} {b : Bool} {B : List Bool} (hS : SB σ h (B ++ [b])) : ok (f_Stream_removeLast σ) (fun o => SB o.1 h B ∧ o.2 = b2i b ∧ fr F3 σ o.1) := by
  obtain ⟨h1, h2, h3, h4, h5⟩ := hS
  have hl : (B ++ [b]).length = B.length + 1 := by simp
  rw [hl] at h3 h4 h5
  unfold f_Stream_removeLast
  refine ok_f (by rw [h3]; exact nI_ne0 (by omega) (by omega)) ?_
  rw [h3, nI_pred, e_at h1 (by omega)]
  dsimp only [b2]
  refine ok_nm (fun σ3 e3 => ok_some ?_)
  rw [h3, nI_pred] at e3
  refine ⟨⟨?_, h2, ?_, by omega, fun i hi => ?_⟩, ?_, ?_⟩
  · rw [e3, sI_k (by omega), h1]
  · rw [e3, sI_at]
  · rw [e3, sI_f (by omega), h5 i (by omega)]
    simp [List.getD, List.getElem?_append_left hi]
  · rw [h5 B.length (by omega)]
    simp [List.getD]
  · rw [e3]
    exact fr_sI rfl
/-- a number out of its bits, the highest first -/
def numL (a : Nat) : List Bool → Nat
  | [] => a
  | b :: l => numL (2 * a + b.toNat) l
theorem numL_lt : ∀ (l : List Bool) (a k : Nat), a < 2 ^ k → numL a l < 2 ^ (k + l.length)
  | [], a, k, h => by simpa [numL] using h
  | b :: l, a, k, h => by
    have hb : b.toNat ≤ 1 := by cases b <;> decide
    have h2 : 2 * a + b.toNat < 2 ^ (k + 1) := by
      have : 2 ^ (k + 1) = 2 * 2 ^ k := by rw [Nat.pow_succ]; omega
      omega
    have := numL_lt l (2 * a + b.toNat) (k + 1) h2
    simp only [numL, List.length_cons]
    rw [show k + (l.length + 1) = k + 1 + l.length by omega]
    exact this
theorem nx_or (a b : Nat) : nI a ||| nI b = nI (a ||| b) := by
  apply Int32.toBitVec_inj.1
  show BitVec.ofNat 32 a ||| BitVec.ofNat 32 b = BitVec.ofNat 32 (a ||| b)
  apply BitVec.eq_of_getLsbD_eq
  intro i hi
  simp [hi]
theorem shl1 {a : Nat} (h : a < 2 ^ 30) : nI a <<< ((1 : Int32) &&& 31) = nI (2 * a) := by
  rw [pk_shlN (1 &&& 31) 1 (by decide) (by omega)]
  rw [show a * 2 ^ 1 = 2 * a by omega]
theorem or_b2i {a : Nat} (b : Bool) : nI (2 * a) ||| b2i b = nI (2 * a + b.toNat) := by
  cases b
  · show nI (2 * a) ||| nI 0 = _
    rw [nx_or, Nat.or_zero]
    rfl
  · show nI (2 * a) ||| nI 1 = _
    rw [nx_or]
    have := Nat.shiftLeft_add_eq_or_of_lt (i := 1) (b := 1) (by decide) a
    rw [Nat.shiftLeft_eq] at this
    rw [show 2 * a = a * 2 ^ 1 by omega, ← this]
    rfl
theorem b2i_nI (b : Bool) : b2i b = nI b.toNat := by cases b <;> rfl
/-- removeNumber: the first n bits, or ENDED -/
theorem s_removeNumber {σ : St} {h : Nat} {X Y : List Bool} (hS : SB σ h (X ++ Y)) {n : Nat} (hX : X.length = n) (hn : n ≤ 30) : ok (f_Stream_removeNumber σ (nI n)) (fun o => SB o.1 ((h + n) % 20000) Y ∧ o.2 = nI (numL 0 X) ∧ fr F3 σ o.1) := by
  unfold f_Stream_removeNumber
  have h3 := hS.2.2.1
  have h4 := hS.2.2.2.1
  rw [List.length_append, hX] at h3 h4
  refine ok_t (by rw [h3]; exact nI_le (by omega) (by omega)) ?_
  refine ok_b3 (Q := fun o => SB o.1 ((h + n) % 20000) Y ∧ o.2.1 = nI (numL 0 X) ∧ fr F3 σ o.1) (ok_up n (fun i q => ∃ (a : Nat) (X' : List Bool), SB q.1 ((h + i) % 20000) (X' ++ Y) ∧ q.2.1 = nI a ∧ q.2.2 = nI i ∧ a < 2 ^ i ∧ X'.length + i = n ∧ numL a X' = numL 0 X ∧ fr F3 σ q.1) ?_ ?_ 0 _ (Nat.zero_le _) ⟨0, X, by rw [Nat.add_zero, Nat.mod_eq_of_lt hS.2.1]; exact hS, rfl, rfl, by simp, by omega, rfl, fr.rf⟩) (fun σ5 x6 x7 hq => ok_some hq)
  · rintro i ⟨σ1, v2, v3⟩ hi ⟨a, X', q1, rfl, rfl, q4, q5, q6, q7⟩
    dsimp only
    unfold lb_Stream_removeNumber_15
    refine ok_f (nI_ge hi (by omega)) ?_
    cases X' with
    | nil => simp at q5; omega
    | cons b X' =>
      refine ok_b2 (s_removeFirst q1) (fun σ2 x2 hq => ok_nm (fun x3 e3 => ok_nm (fun x4 e4 => ok_some ?_)))
      obtain ⟨p1, p2, p3, -, -⟩ := hq
      have hp : 2 ^ i < 2 ^ 30 := Nat.pow_lt_pow_right (by omega) (by omega)
      dsimp only at p1 p2 p3 ⊢
      refine ⟨2 * a + b.toNat, X', ?_, ?_, ?_, ?_, by simp at q5; omega, q6, q7.tr p3⟩
      · rw [show (h + (i + 1)) % 20000 = ((h + i) % 20000 + 1) % 20000 by omega]
        exact p1
      · rw [e3, p2, shl1 (by omega), or_b2i]
      · rw [e4, nI_1]
      · have hb : b.toNat ≤ 1 := by cases b <;> decide
        have : 2 ^ (i + 1) = 2 * 2 ^ i := by rw [Nat.pow_succ]; omega
        omega
  · rintro ⟨σ1, v2, v3⟩ ⟨a, X', q1, rfl, rfl, q4, q5, q6, q7⟩
    dsimp only
    unfold lb_Stream_removeNumber_15
    refine ok_t (nI_le (Nat.le_refl _) (by omega)) (ok_some ?_)
    have hX' : X' = [] := List.length_eq_zero_iff.mp (by omega)
    subst hX'
    exact ⟨q1, by rw [← q6]; rfl, q7⟩
theorem s_removeNumber0 {σ : St} {h : Nat} {B : List Bool} (hS : SB σ h B) {n : Nat} (hn : n ≤ 30) (hB : B.length < n) : f_Stream_removeNumber σ (nI n) = some (σ, -104) := by
  unfold f_Stream_removeNumber
  rw [if_neg (by rw [hS.2.2.1]; exact nI_ge hB (by omega))]
/-- what was taken is given back -/
theorem s_giveBack {σ0 σ : St} {h : Nat} {X Y : List Bool} (h0 : SB σ0 h (X ++ Y)) (hS : SB σ ((h + X.length) % 20000) Y) (h4 : σ.1 4 0 = σ0.1 4 0) : ok (f_Stream_giveBack σ (nI X.length)) (fun σ1 => SB σ1 h (X ++ Y) ∧ fr F3 σ σ1) := by
  unfold f_Stream_giveBack
  have hl := h0.2.2.2.1
  rw [List.length_append] at hl
  rw [show (20000 : Int32) = nI 20000 from rfl, pk_sub (by omega), e_placeOf hS.1 (by omega)]
  dsimp only [b2]
  refine ok_nm (fun σ3 e3 => ok_nm (fun σ4 e4 => ok_some ?_))
  rw [e3, sI_k (by omega), hS.2.2.1, nI_add] at e4
  have hh := h0.2.1
  have e : ((h + X.length) % 20000 + (20000 - X.length)) % 20000 = h := by omega
  rw [e] at e3 e4
  refine ⟨⟨?_, hh, ?_, h0.2.2.2.1, fun i hi => ?_⟩, ?_⟩
  · rw [e4, sI_k (by omega), sI_at]
  · rw [e4, sI_at, List.length_append, Nat.add_comm]
  · rw [e4, sI_f (by omega), sI_f (by omega), h4]
    exact h0.2.2.2.2 i hi
  · rw [e4]
    exact (fr_sI rfl).tr (fr_sI rfl)
/-! ===== putting with a limit that is looked at behind ===== -/
def AP (h z0 : Nat) (σ0 : St) (B : List Bool) (σ : St) : Prop := σ.1 3 0 3 = nI z0 ∧ z0 ≤ B.length ∧ fr Fs σ0 σ ∧ ((B.length ≤ 20000 ∧ SB σ h B ∧ σ.1 3 0 4 = 0) ∨ (20000 < B.length ∧ z0 ≤ 20000 ∧ σ.1 3 0 4 = 1 ∧ ∃ B', B'.length = 20000 ∧ SB σ h B' ∧ B'.take z0 = B.take z0))
theorem AP.append {h z0 : Nat} {σ0 σ : St} {B : List Bool} (b : Bool) (hA : AP h z0 σ0 B σ) : ok (f_Stream_append σ (b2i b)) (AP h z0 σ0 (B ++ [b])) := by
  obtain ⟨h1, h2, h3, h4⟩ := hA
  have hl : (B ++ [b]).length = B.length + 1 := by simp
  rcases h4 with ⟨a1, a2, a3⟩ | ⟨a1, a2, a3, B', a4, a5, a6⟩
  · rcases Nat.lt_or_ge B.length 20000 with hz | hz
    · refine (s_append a2 hz b).mono (fun σ1 q => ?_)
      obtain ⟨q1, q2, q3, q4⟩ := q
      exact ⟨q3.trans h1, by omega, h3.tr q2, Or.inl ⟨by omega, q1, q4.trans a3⟩⟩
    · rw [s_appendF a2 (by omega)]
      refine ok_some ⟨by rw [sI_k (by omega)]; exact h1, by omega, h3.tr (fr_sI (Or.inl rfl)), Or.inr ⟨by omega, by omega, sI_at, B, by omega, ?_, ?_⟩⟩
      · obtain ⟨b1, b2, b3, b4, b5⟩ := a2
        exact ⟨by rw [sI_k (by omega)]; exact b1, b2, by rw [sI_k (by omega)]; exact b3, b4, fun i hi => by rw [sI_f (by omega)]; exact b5 i hi⟩
      · rw [List.take_append_of_le_length h2]
  · rw [s_appendF a5 a4]
    refine ok_some ⟨by rw [sI_k (by omega)]; exact h1, by omega, h3.tr (fr_sI (Or.inl rfl)), Or.inr ⟨by omega, a2, sI_at, B', a4, ?_, ?_⟩⟩
    · obtain ⟨b1, b2, b3, b4, b5⟩ := a5
      exact ⟨by rw [sI_k (by omega)]; exact b1, b2, by rw [sI_k (by omega)]; exact b3, b4, fun i hi => by rw [sI_f (by omega)]; exact b5 i hi⟩
    · rw [a6, List.take_append_of_le_length h2]
theorem AP.number {h z0 : Nat} {σ0 σ : St} {B : List Bool} (hA : AP h z0 σ0 B σ) (v : Int32) {n : Nat} (hn : n ≤ 31) : ok (f_Stream_appendNumber σ v (nI n)) (AP h z0 σ0 (B ++ bitsOf v n)) :=
  s_appendNumber (J := AP h z0 σ0) (Z := B.length + n) (fun σ B b h _ => h.append b) hA v hn (Nat.le_refl _)
theorem s_begin {σ : St} {h : Nat} {B : List Bool} (hS : SB σ h B) : ok (f_Stream_begin σ) (AP h B.length σ B) := by
  unfold f_Stream_begin
  refine ok_nm (fun σ1 e1 => ok_nm (fun σ2 e2 => ok_some ?_))
  rw [e2, e1]
  refine ⟨by rw [sI_k (by omega), sI_at]; exact hS.2.2.1, Nat.le_refl _, (fr_sI (Or.inl rfl)).tr (fr_sI (Or.inl rfl)), Or.inl ⟨hS.2.2.2.1, ?_, sI_at⟩⟩
  obtain ⟨b1, b2, b3, b4, b5⟩ := hS
  exact ⟨by rw [sI_k (by omega), sI_k (by omega)]; exact b1, b2, by rw [sI_k (by omega), sI_k (by omega)]; exact b3, b4, fun i hi => by rw [sI_f (by omega), sI_f (by omega)]; exact b5 i hi⟩
theorem SB.take {σ : St} {h : Nat} {B : List Bool} (hS : SB σ h B) {k : Nat} (hk : k ≤ B.length) : SB (sI σ 3 0 2 (nI k)) h (B.take k) := by
  obtain ⟨b1, b2, b3, b4, b5⟩ := hS
  refine ⟨by rw [sI_k (by omega)]; exact b1, b2, by rw [sI_at, List.length_take, Nat.min_eq_left hk], by rw [List.length_take]; omega, fun i hi => ?_⟩
  rw [List.length_take] at hi
  rw [sI_f (by omega), b5 i (by omega)]
  simp [List.getD, List.getElem?_take, show i < k by omega]
theorem s_settle {h z0 : Nat} {σ0 σ : St} {B0 X : List Bool} (hz : B0.length = z0) (hA : AP h z0 σ0 (B0 ++ X) σ) : ok (f_Stream_settle σ) (fun o => (z0 + X.length ≤ 20000 → o.2 = nI X.length ∧ SB o.1 h (B0 ++ X)) ∧ (20000 < z0 + X.length → o.2 = -106 ∧ SB o.1 h B0) ∧ fr Fs σ0 o.1) := by
  unfold f_Stream_settle
  obtain ⟨h1, h2, h3, h4⟩ := hA
  have hl : (B0 ++ X).length = z0 + X.length := by rw [List.length_append, hz]
  rw [hl] at h4
  rcases h4 with ⟨a1, a2, a3⟩ | ⟨a1, a2, a3, B', a4, a5, a6⟩
  · refine ok_t a3 (ok_some ⟨fun _ => ⟨?_, a2⟩, fun q => by omega, h3⟩)
    show σ.1 3 0 2 - σ.1 3 0 3 = _
    rw [a2.2.2.1, h1, hl, pk_sub (by omega), Nat.add_sub_cancel_left]
  · refine ok_f (by rw [a3]; decide) (ok_nm (fun σ1 e1 => ok_some ⟨fun q => by omega, fun _ => ⟨rfl, ?_⟩, ?_⟩))
    · rw [e1, h1]
      have := a5.take (k := z0) (by omega)
      rw [a6, List.take_append_of_le_length (by omega), List.take_of_length_le (by omega)] at this
      exact this
    · rw [e1]
      exact h3.tr (fr_sI (Or.inl rfl))
