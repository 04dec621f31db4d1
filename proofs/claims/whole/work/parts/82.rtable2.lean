/-! ===== the reference's table, the whole ===== -/
def RT (σ : St) (L : Nat → Nat) (s r : Nat) : Prop := σ.1 48 0 20 = nI (2 ^ r + Gs L s r (2 ^ r)) ∧ (∀ j, j < 2 ^ r → ms L s r j s = 0 → EV σ L j (hs L s 1 j r s)) ∧ (∀ j, j < 2 ^ r → ms L s r j s ≠ 0 → E3 σ j 2 (nI (2 ^ r + Gs L s r j)) (nI (ms L s r j s))) ∧ ∀ j, j < 2 ^ r → ms L s r j s ≠ 0 → ∀ x, x < 2 ^ ms L s r j s → EV σ L (2 ^ r + Gs L s r j + x) (hs L s (r + 1) (j * 2 ^ ms L s r j s + x) (r + ms L s r j s) s)
theorem RT.go {σ σ1 : St} {L : Nat → Nat} {s r : Nat} (h : RT σ L s r) (h1 : σ1.1 48 0 20 = σ.1 48 0 20) (h2 : σ1.1 61 0 = σ.1 61 0) (h3 : σ1.1 62 0 = σ.1 62 0) (h4 : σ1.1 63 0 = σ.1 63 0) : RT σ1 L s r := by
  unfold RT EV E3 at *
  rw [h1, h2, h3, h4]
  exact h
theorem s_table155 {σ : St} {c s r j : Nat} {L : Nat → Nat} {x5 : Int32} (hL : LR σ c s L) (hr : r ≤ 9) (hj : j < 2 ^ 31) : ok (lpE (fun q => lb_Mo_table_155 (nI c) (nI r) x5 (nI j) q.1 q.2.1 q.2.2) (σ, 0, 0)) (fun q => q.1 = σ ∧ q.2.1 = nI (ms L s r j s)) := by
  have hs64 := hL.2.1
  have hc := hL.2.2.1
  refine ok_up s (fun m q => q = (σ, nI (ms L s r j m), nI m)) ?_ ?_ 0 _ (Nat.zero_le _) rfl
  · rintro m _ hm rfl
    dsimp only
    have hl := (hL.2.2.2 m hm).2
    have hms : ms L s r j m ≤ 15 := by
      rcases (ms_spec L s r j m).2 with z | ⟨k, a, b, c, d⟩
      · omega
      · have := (hL.2.2.2 k (by omega)).2
        omega
    have hst : ms L s r j (m + 1) = if r < L m ∧ prf L s r m = j ∧ ms L s r j m < L m - r then L m - r else ms L s r j m := rfl
    unfold lb_Mo_table_155
    rw [nI_cl (show c < 2 ^ 31 by omega), hL.1]
    refine ok_gd (nI_ib (by omega) (by omega)) (ok_f (nI_ge hm (by omega)) (ok_b2e (e_lengthOf hL hm) ?_))
    refine ok_if (fun d => ok_nm (fun x24 e24 => ok_some ?_)) (fun d => ?_)
    · have d' := (nI_leI (by omega) (by omega)).mp d
      dsimp only
      rw [e24, nI_1, hst, if_neg (by omega)]
    · have d' : r < L m := Nat.lt_of_not_le (fun z => d (nI_le z (by omega)))
      have hw := wrd_lt hm hs64 (show 1 ≤ L m by omega) hl
      have hdl : wrd L s m / 2 ^ (L m - r) ≤ wrd L s m := Nat.div_le_self _ _
      refine ok_b2 (e_wordOf hL hm (by omega)) (fun σ25 x26 h25 => ?_)
      cases h25
      rw [pk_sub (show r ≤ L m by omega), pk_shrN (by omega) _ (L m - r) (s_l _ (by omega))]
      refine ok_if (fun d2 => ok_if (fun d3 => ok_nm (fun x28 e28 => ok_some ?_)) (fun d3 => ok_nm (fun x29 e29 => ok_nm (fun x30 e30 => ok_some ?_)))) (fun d2 => ok_nm (fun x27 e27 => ok_some ?_))
      · have d3' := (nI_leI (by omega) (by omega)).mp d3
        dsimp only
        rw [e28, nI_1, hst, if_neg (by omega)]
      · have d2' : prf L s r m = j := (nI_eq (a := wrd L s m / 2 ^ (L m - r)) (by omega) hj).mp d2
        have d3' : ¬ L m - r ≤ ms L s r j m := fun z => d3 (nI_le z (by omega))
        dsimp only
        rw [e29, e30, nI_1, hst, if_pos ⟨d', d2', by omega⟩]
      · have d2' : ¬ prf L s r m = j := fun z => d2 (congrArg nI z)
        dsimp only
        rw [e27, nI_1, hst, if_neg (fun z => d2' z.2.1)]
  · rintro _ rfl
    dsimp only
    unfold lb_Mo_table_155
    rw [nI_cl (show c < 2 ^ 31 by omega), hL.1]
    exact ok_gd (nI_ib (by omega) (by omega)) (ok_t (nI_le (Nat.le_refl _) (by omega)) (ok_some ⟨rfl, rfl⟩))
abbrev Frt : Nat → Nat → Nat → Prop := fun f _ k => (61 ≤ f ∧ f ≤ 63) ∨ (f = 48 ∧ k = 20)
/-- the table of the reference, once the call is let in -/
theorem s_moTable {σ : St} {c s r : Nat} {L : Nat → Nat} (hL : LR σ c s L) (hr1 : 1 ≤ r) (hr : r ≤ 9) (hf : fil (fun m => cnt L m s) 15 ≤ 32768) : ok (nm ((1 : Int32) <<< (nI r &&& 31)) fun x5 => nm (sI σ 48 0 20 x5) fun σ6 => b1 (f_Mo_clearEntries σ6 0 x5) fun σ7 => b2 (lpE (fun q => lb_Mo_table_55 (nI c) (nI r) x5 q.1 q.2) (σ7, 0)) fun σ20 x21 => b2 (lpE (fun q => lb_Mo_table_143 (nI c) (nI r) x5 q.1 q.2) (σ20, 0)) fun σ37 x38 => (some (σ37, σ37.1 48 0 20) : Option (St × Int32))) (fun o => o.2 = nI (2 ^ r + Gs L s r (2 ^ r)) ∧ RT o.1 L s r ∧ fr Frt σ o.1) := by
  have hs64 := hL.2.1
  have hc := hL.2.2.1
  have hLn : ∀ k, k < s → L k ≤ 15 := fun k hk => (hL.2.2.2 k hk).2
  have hp9 : 2 ^ r ≤ 2 ^ 9 := Nat.pow_le_pow_right (by omega) hr
  have hGs : ∀ i, i ≤ 2 ^ r → Gs L s r i ≤ 32768 := by
    intro i hi
    have h1 := Gs_le (r := r) hLn i
    have h2 : i * 2 ^ (15 - r) ≤ 2 ^ r * 2 ^ (15 - r) := Nat.mul_le_mul_right _ hi
    rw [← Nat.pow_add, show r + (15 - r) = 15 by omega] at h2
    omega
  rw [shl_1 (show r < 31 by omega)]
  refine ok_nm (fun x5 e5 => ?_)
  rw [e5]
  refine ok_nm (fun σ6 e6 => ok_b1 (s_clearEntries (v := 0) (n := 2 ^ r) (by omega)) (fun σ7 h7 => ?_))
  have f7 : fr Frt σ σ7 := by
    refine fr.tr (σ1 := σ6) ?_ (h7.2.2.mono (fun f i k z => Or.inl z))
    rw [e6]
    exact fr_sI (by omega)
  have hL7 : LR σ7 c s L := hL.go (f7.fi (fun _ => by omega)) (f7.fi (fun _ => by omega))
  refine ok_b2 (s_table55 hL7 hr hf (fun i hi => h7.1 i (Nat.zero_le _) (by omega))) (fun σ20 x21 h20 => ?_)
  obtain ⟨h20, f20⟩ := h20
  dsimp only at h20 f20
  have f20' : fr Frt σ σ20 := f7.tr (f20.mono (fun f i k z => Or.inl z))
  have a20 : σ20.1 48 0 20 = nI (2 ^ r + Gs L s r 0) := by
    rw [f20.i (by omega), h7.2.2.i (by omega), e6, sI_at]
    rfl
  refine ok_b2 (Q := fun q => RT q.1 L s r ∧ fr Frt σ q.1) (ok_up (2 ^ r) (fun i q => q.2 = nI i ∧ q.1.1 48 0 20 = nI (2 ^ r + Gs L s r i) ∧ (∀ j, j < 2 ^ r → (i ≤ j ∨ ms L s r j s = 0) → EV q.1 L j (hs L s 1 j r s)) ∧ (∀ j, j < i → ms L s r j s ≠ 0 → E3 q.1 j 2 (nI (2 ^ r + Gs L s r j)) (nI (ms L s r j s))) ∧ (∀ j, j < i → ms L s r j s ≠ 0 → ∀ x, x < 2 ^ ms L s r j s → EV q.1 L (2 ^ r + Gs L s r j + x) (hs L s (r + 1) (j * 2 ^ ms L s r j s + x) (r + ms L s r j s) s)) ∧ fr Frt σ q.1) ?_ ?_ 0 _ (Nat.zero_le _) ⟨rfl, a20, fun j hj _ => h20 j hj, fun j hj => absurd hj (by omega), fun j hj => absurd hj (by omega), f20'⟩) (fun σ37 x38 hq => ok_some ⟨hq.1.1, hq.1, hq.2⟩)
  · rintro i ⟨σ21, x⟩ hi ⟨rfl, q1, q2, q3, q4, q5⟩
    dsimp only at q1 q2 q3 q4 q5 ⊢
    have g : LR σ21 c s L := hL.go (q5.fi (fun _ => by omega)) (q5.fi (fun _ => by omega))
    have hml := ms_le (r := r) (j := i) hLn
    have hGi1 : Gs L s r (i + 1) = Gs L s r i + gg L s r i := rfl
    have hG1 := hGs (i + 1) (by omega)
    unfold lb_Mo_table_143
    refine ok_f (nI_ge hi (by omega)) (ok_b3 (s_table155 g hr (by omega)) (fun σ31 x32 x33 h31 => ?_))
    obtain ⟨h31a, h31b⟩ := h31
    dsimp only at h31a h31b
    subst h31a
    rw [h31b]
    refine ok_if (fun d => ok_nm (fun x34 e34 => ok_some ?_)) (fun d => ?_)
    · have d' := (nI_leI (b := 0) (by omega) (by omega)).mp d
      have hg0 : gg L s r i = 0 := by unfold gg; rw [if_pos (by omega)]
      refine ⟨by dsimp only; rw [e34, nI_1], ?_, fun j hj hc2 => ?_, fun j hj hm => ?_, fun j hj hm => ?_, q5⟩
      · dsimp only
        rw [hGi1, hg0, Nat.add_zero]
        exact q1
      · exact q2 j hj (by
          rcases Nat.lt_or_ge j i with z | z
          · right
            rcases hc2 with y | y
            · omega
            · exact y
          · exact Or.inl z)
      · rcases Nat.lt_or_ge j i with z | z
        · exact q3 j z hm
        · rw [show j = i by omega] at hm
          omega
      · rcases Nat.lt_or_ge j i with z | z
        · exact q4 j z hm
        · rw [show j = i by omega] at hm
          omega
    · have d' : ms L s r i s ≠ 0 := fun z => d (by rw [z]; exact nI_le (b := 0) (Nat.le_refl _) (by omega))
      have hg : gg L s r i = 2 ^ ms L s r i s := by unfold gg; rw [if_neg d']
      rw [hg] at hGi1
      refine ok_b1 (s_part g hr hf hi d' q1 (by omega) (by omega)) (fun σ35 h35 => ok_nm (fun x36 e36 => ok_some ?_))
      obtain ⟨p1, p2, p3, p4, p5⟩ := h35
      have hgj : ∀ j, j < i → ms L s r j s ≠ 0 → Gs L s r j + 2 ^ ms L s r j s ≤ Gs L s r i := by
        intro j hj hm
        have := Gs_mono L s r (show j + 1 ≤ i by omega)
        simp only [Gs] at this
        unfold gg at this
        rw [if_neg hm] at this
        exact this
      refine ⟨by dsimp only; rw [e36, nI_1], ?_, fun j hj hc2 => ?_, fun j hj hm => ?_, fun j hj hm => ?_, q5.tr p5⟩
      · dsimp only
        rw [p4, hGi1, Nat.add_assoc]
      · have hji : j ≠ i := by
          rintro rfl
          rcases hc2 with y | y
          · omega
          · exact d' y
        exact p3 j _ _ _ hji (by omega) (q2 j hj (by
          rcases hc2 with y | y
          · left; omega
          · exact Or.inr y))
      · rcases Nat.lt_or_ge j i with z | z
        · exact p3 j _ _ _ (by omega) (by omega) (q3 j z hm)
        · rw [show j = i by omega]
          exact p1
      · rcases Nat.lt_or_ge j i with z | z
        · have := hgj j z hm
          intro x hx
          exact p3 _ _ _ _ (by omega) (by omega) (q4 j z hm x hx)
        · rw [show j = i by omega]
          exact p2
  · rintro ⟨σ21, x⟩ ⟨rfl, q1, q2, q3, q4, q5⟩
    dsimp only at q1 q2 q3 q4 q5 ⊢
    unfold lb_Mo_table_143
    exact ok_t (nI_le (Nat.le_refl _) (by omega)) (ok_some ⟨⟨q1, fun j hj hm => q2 j hj (Or.inr hm), q3, q4⟩, q5⟩)
/-- the table: none yet, or that of a code as it was -/
def TT (σ : St) : Prop := (σ.1 19 0 1 = nI 0 ∧ σ.1 48 0 20 = nI 0) ∨ ∃ L s r, TC σ L s r ∧ RT σ L s r ∧ (∀ k, k < s → L k ≤ 15) ∧ s ≤ 64 ∧ 1 ≤ r ∧ r ≤ 9 ∧ fil (fun m => cnt L m s) 15 ≤ 32768
/-- both tell the same of an entry -/
theorem tell_same {σ σ' : St} {L : Nat → Nat} {s r i w : Nat} (hT : TC σ L s r) (hR : RT σ' L s r) (hL : ∀ k, k < s → L k ≤ 15) (hs64 : s ≤ 64) (hr1 : 1 ≤ r) (hr : r ≤ 9) (hf : fil (fun m => cnt L m s) 15 ≤ 32768) (hw : w ≤ 2) (hi : i < 2 ^ r + Gs L s r (2 ^ r)) : ok (f_Table_tell σ (nI i) (nI w)) (fun o => o.1 = σ ∧ o.2 = σ'.1 (61 + w) 0 i) := by
  refine (e_tell hT hL hs64 hr1 hr hf hw hi).mono (fun o ho => ⟨ho.1, ?_⟩)
  have pick : ∀ (a b c : Int32), E3 σ' i a b c → ∀ v, (v = if w = 0 then a else if w = 1 then b else c) → v = σ'.1 (61 + w) 0 i := by
    intro a b c hE v hv
    rw [hv]
    rcases (show w = 0 ∨ w = 1 ∨ w = 2 by omega) with rfl | rfl | rfl
    · exact hE.1.symm
    · exact hE.2.1.symm
    · exact hE.2.2.symm
  have evp : ∀ x, ev L x w = if w = 0 then ev L x 0 else if w = 1 then ev L x 1 else ev L x 2 := by
    intro x
    rcases (show w = 0 ∨ w = 1 ∨ w = 2 by omega) with rfl | rfl | rfl <;> rfl
  rcases ho.2 with ⟨a1, a2, a3⟩ | ⟨a1, a2, a3⟩ | ⟨j, x, a1, a2, a3, a4, a5⟩
  · exact pick _ _ _ (hR.2.2.1 i a1 a2) _ (by rw [a3]; rfl)
  · exact pick _ _ _ (hR.2.1 i a1 a2) _ (by rw [a3]; exact evp _)
  · have := hR.2.2.2 j a1 a2 x a3
    rw [← hs_part hL (by omega) a2 a3, ← a4] at this
    exact pick _ _ _ this _ (by rw [a5]; exact evp _)
