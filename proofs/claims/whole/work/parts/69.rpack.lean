/-! ===== lengths packed by the reference: PLAIN and STEPS ===== -/
theorem bits01 : bitsOf 0 1 = [false] := by
  simp only [bitsOf, b_0]
theorem s_rPlain {σ : St} {c s : Nat} {L : Nat → Nat} {B : List Bool} (hL : LR σ c s L) (hS : SR σ B) {a : Int32} (ha : a = 0 ∨ a = 1) (hz : a ≠ 0 → B.length + (plB L s).length ≤ 20000) : ok (f_Mo_packed σ (nI c) 0 a) (fun o => o.2 = nI (plB L s).length ∧ SR o.1 (if a = 0 then B else B ++ plB L s) ∧ fr Fm σ o.1) := by
  have hs := hL.2.1
  have hc := hL.2.2.1
  unfold f_Mo_packed
  rw [nI_cl (by omega), hL.1]
  refine ok_gd (nI_ib (by omega) (by omega)) (ok_nm (fun x1 e1 => ok_t rfl ?_))
  rw [e1]
  refine ok_b2 (Q := fun q => SR q.1 (if a = 0 then B else B ++ plB L s) ∧ fr Fm σ q.1) ?_ (fun σ35 x36 hq => ok_some ⟨?_, hq⟩)
  · rcases ha with rfl | rfl
    · rw [if_pos rfl]
      refine ok_lp (fun _ q => q.1 = σ) ?_ 0 _ rfl
      rintro n ⟨σ1, x⟩ rfl
      dsimp only
      unfold lb_Mo_packed_18
      exact ok_if (fun _ => ok_some ⟨hS, fr.rf⟩) (fun _ => ok_t rfl (ok_some ⟨hS, fr.rf⟩))
    · rw [if_neg (by decide)]
      have hz := hz (by decide)
      rw [plB_len] at hz
      refine ok_up s (fun k q => q.2 = nI k ∧ SR q.1 (B ++ plB L k) ∧ fr Fm σ q.1) ?_ ?_ 0 _ (Nat.zero_le _) ⟨rfl, by simp only [plB, List.append_nil]; exact hS, fr.rf⟩
      · rintro k ⟨σ1, x⟩ hk ⟨rfl, q1, q2⟩
        dsimp only at q1 q2 ⊢
        have g := hL.go (q2.fi (fun _ => by omega)) (q2.fi (fun _ => by omega))
        unfold lb_Mo_packed_18
        rw [e_lengthOf g hk]
        dsimp only [b2]
        refine ok_f (nI_ge hk (by omega)) (ok_f (by decide) (ok_b1 (s_moPutBits q1 (nI (L k)) (n := 4) (by omega) (by rw [List.length_append, plB_len]; omega)) (fun σ33 h33 => ok_nm (fun x34 e34 => ok_some ⟨?_, ?_, ?_⟩))))
        · dsimp only
          rw [e34, nI_1]
        · simp only [plB]
          rw [← List.append_assoc]
          exact h33.1
        · exact q2.tr h33.2
      · rintro ⟨σ1, x⟩ ⟨rfl, q1, q2⟩
        unfold lb_Mo_packed_18
        exact ok_t (nI_le (Nat.le_refl _) (by omega)) (ok_some ⟨q1, q2⟩)
  · dsimp only
    rw [plB_len]
    show nI 4 * nI s = _
    rw [pk_mul]
theorem pth_u {u v : Nat} (h : u < v) : pth u v = bitsOf 2 2 ++ pth (u + 1) v := by
  simp only [pth]
  rw [show v - u = v - (u + 1) + 1 by omega, show u - v = 0 by omega, show u + 1 - v = 0 by omega]
  simp only [rep, List.append_nil]
theorem pth_d {u v : Nat} (h : v < u + 1) : pth (u + 1) v = bitsOf 3 2 ++ pth u v := by
  simp only [pth]
  rw [show u + 1 - v = u - v + 1 by omega, show v - u = 0 by omega, show v - (u + 1) = 0 by omega]
  simp only [rep, List.nil_append]
theorem pth_s (u : Nat) : pth u u = [] := by
  simp only [pth, Nat.sub_self, rep, List.append_nil]
/-- bits put, or only counted -/
def SW (σ : St) (a : Int32) (B X : List Bool) : Prop := SR σ (if a = 0 then B else B ++ X)
theorem s_rSteps {σ : St} {c s : Nat} {L : Nat → Nat} {B : List Bool} (hL : LR σ c s L) (h1 : 1 ≤ s) (hS : SR σ B) {a : Int32} (hz : a ≠ 0 → B.length + (stB L s).length ≤ 20000) : ok (f_Mo_packed σ (nI c) 1 a) (fun o => o.2 = nI (stB L s).length ∧ SW o.1 a B (stB L s) ∧ fr Fm σ o.1) := by
  have hs := hL.2.1
  have hc := hL.2.2.1
  have hLr : ∀ σ1 : St, fr Fm σ σ1 → LR σ1 c s L := fun σ1 f1 => hL.go (f1.fi (fun _ => by omega)) (f1.fi (fun _ => by omega))
  have hlen := stB_len (L := L) (s := s) (fun k hk => (hL.2.2.2 k hk).2)
  have hmono : ∀ k, k ≤ s → ∃ Z, stB L s = stB L k ++ Z := by
    intro k hk
    obtain ⟨d, rfl⟩ : ∃ d, s = k + d := ⟨s - k, by omega⟩
    clear hs hc hLr hlen hL hz h1 hk
    induction d with
    | zero => exact ⟨[], by simp⟩
    | succ d ih =>
      obtain ⟨Z, hZ⟩ := ih
      refine ⟨Z ++ pth (prv L (k + d)) (L (k + d)) ++ [false], ?_⟩
      show stB L (k + d) ++ pth (prv L (k + d)) (L (k + d)) ++ [false] = _
      rw [hZ]
      simp only [List.append_assoc]
  unfold f_Mo_packed
  rw [nI_cl (by omega), hL.1]
  refine ok_gd (nI_ib (by omega) (by omega)) (ok_nm (fun x1 e1 => ok_f (by decide) (ok_t rfl ?_)))
  rw [e1, show f_Mo_lengthOf σ (nI c) 0 = some (σ, nI (L 0)) from e_lengthOf hL (k := 0) (by omega)]
  dsimp only [b2]
  have h76 : ∀ σ1 : St, SW σ1 a B (stB L 0) → fr Fm σ σ1 → ok (jn_Mo_packed_76 σ1 (nI c) a (nI s) (nI (L 0))) (fun o => o.2 = nI (stB L s).length ∧ SW o.1 a B (stB L s) ∧ fr Fm σ o.1) := by
    intro σ1 s1 f1
    unfold jn_Mo_packed_76
    refine ok_b4 (Q := fun q => q.2.1 = nI (stB L s).length ∧ SW q.1 a B (stB L s) ∧ fr Fm σ q.1) (ok_up s (fun k q => q.2.1 = nI (stB L k).length ∧ q.2.2.1 = nI (prv L k) ∧ q.2.2.2 = nI k ∧ SW q.1 a B (stB L k) ∧ fr Fm σ q.1) ?_ ?_ 0 _ (Nat.zero_le _) ⟨by simp only [stB, bitsOf_len]; rfl, rfl, rfl, s1, f1⟩) (fun σ26 x27 x28 x29 hq => ok_some hq)
    · rintro k ⟨σ2, x, y, z⟩ hk ⟨rfl, rfl, rfl, q1, q2⟩
      dsimp only at q1 q2 ⊢
      have g := hLr σ2 q2
      have gl := (g.2.2.2 k hk).2
      have hp := prv_le (fun k hk => (hL.2.2.2 k hk).2) k hk
      have hl2 := hlen (k + 1) (by omega)
      obtain ⟨Z, hZ⟩ := hmono (k + 1) (by omega)
      have hZl := congrArg List.length hZ
      rw [List.length_append] at hZl
      unfold lb_Mo_packed_82
      rw [e_lengthOf g hk]
      dsimp only [b2]
      refine ok_f (nI_ge hk (by omega)) (ok_b3 (Q := fun q => q.2.1 = nI (stB L k ++ pth (prv L k) (L k)).length ∧ q.2.2 = nI (L k) ∧ SW q.1 a B (stB L k ++ pth (prv L k) (L k)) ∧ fr Fm σ q.1) (ok_lp (fun n q => ∃ u Y, q.2.1 = nI Y.length ∧ q.2.2 = nI u ∧ u ≤ 15 ∧ n = (L k - u) + (u - L k) ∧ Y ++ pth u (L k) = stB L k ++ pth (prv L k) (L k) ∧ SW q.1 a B Y ∧ fr Fm σ q.1) ?_ ((L k - prv L k) + (prv L k - L k)) _ ⟨prv L k, stB L k, rfl, rfl, hp, rfl, rfl, q1, q2⟩) ?_)
      · rintro n ⟨σ3, x, y⟩ ⟨u, Y, rfl, rfl, hu, rfl, t1, t2, t3⟩
        dsimp only at t2 t3 ⊢
        have hYl := congrArg List.length t1
        rw [List.length_append, pth_len] at hYl
        have hst1 : (stB L (k + 1)).length = (stB L k ++ pth (prv L k) (L k)).length + 1 := by simp only [stB, List.length_append, List.length_singleton]
        unfold lb_Mo_packed_98
        refine ok_if (fun d => ok_some ?_) (fun d => ?_)
        · have d' := (nI_eq (by omega) (by omega)).mp d
          subst d'
          rw [pth_s, List.append_nil] at t1
          rw [← t1]
          exact ⟨rfl, rfl, t2, t3⟩
        · have d' : ¬ u = L k := fun z => d (by rw [z])
          have hput : ∀ v : Int32, ok (if a = 0 then some σ3 else f_Mo_putBits σ3 v (nI 2)) (fun σ4 => (u ≠ L k → (if u < L k then v = 2 else v = 3) → SW σ4 a B (Y ++ bitsOf v 2)) ∧ fr Fm σ σ4) := by
            intro v
            unfold SW at t2
            by_cases ha : a = 0
            · rw [if_pos ha] at t2 ⊢
              refine ok_some ⟨fun _ _ => ?_, t3⟩
              unfold SW
              rw [if_pos ha]
              exact t2
            · rw [if_neg ha] at t2 ⊢
              have := hz ha
              refine (s_moPutBits t2 v (n := 2) (by omega) (by rw [List.length_append]; omega)).mono (fun σ4 h4 => ⟨fun _ _ => ?_, t3.tr h4.2⟩)
              unfold SW
              rw [if_neg ha, ← List.append_assoc]
              exact h4.1
          have fin : ∀ (v : Int32) (σ4 : St) (u' : Nat), u' ≤ 15 → (L k - u') + (u' - L k) < (L k - u) + (u - L k) → pth u (L k) = bitsOf v 2 ++ pth u' (L k) → SW σ4 a B (Y ++ bitsOf v 2) → fr Fm σ σ4 → ∃ n', n' < (L k - u) + (u - L k) ∧ ∃ u Y_1, nI (Y.length + 2) = nI Y_1.length ∧ nI u' = nI u ∧ u ≤ 15 ∧ n' = (L k - u) + (u - L k) ∧ Y_1 ++ pth u (L k) = stB L k ++ pth (prv L k) (L k) ∧ SW σ4 a B Y_1 ∧ fr Fm σ σ4 := by
            intro v σ4 u' h1 h2 h3 h4 h5
            refine ⟨_, h2, u', Y ++ bitsOf v 2, by rw [List.length_append, bitsOf_len], rfl, h1, rfl, ?_, h4, h5⟩
            rw [← t1, h3, List.append_assoc]
          rw [show (2 : Int32) = nI 2 from rfl] at *
          by_cases ha : a = 0
          · have hp := hput
            rw [if_pos ha]
            refine ok_if (fun e => ok_nm (fun x8 e8 => ok_nm (fun x9 e9 => ok_some ?_))) (fun e => ok_nm (fun x10 e10 => ok_nm (fun x11 e11 => ok_some ?_)))
            · have e' := (nI_leI (by omega) (by omega)).mp e
              obtain ⟨u, rfl⟩ : ∃ u', u = u' + 1 := ⟨u - 1, by omega⟩
              obtain ⟨o, p1, p2, p3⟩ := hp 3
              rw [if_pos ha] at p1
              cases p1
              dsimp only
              rw [e9, e8, pk_m1, nI_add]
              exact fin 3 σ3 u (by omega) (by omega) (pth_d (by omega)) (p2 d' (by rw [if_neg (by omega)])) p3
            · have e' : ¬ L k ≤ u := fun z => e (nI_le z (by omega))
              obtain ⟨o, p1, p2, p3⟩ := hp 2
              rw [if_pos ha] at p1
              cases p1
              dsimp only
              rw [e11, e10, nI_1, nI_add]
              exact fin 2 σ3 (u + 1) (by omega) (by omega) (pth_u (by omega)) (p2 d' (by rw [if_pos (by omega)]; rfl)) p3
          · have hp := hput
            rw [if_neg ha]
            refine ok_if (fun e => ?_) (fun e => ?_)
            · have e' := (nI_leI (by omega) (by omega)).mp e
              obtain ⟨u, rfl⟩ : ∃ u', u = u' + 1 := ⟨u - 1, by omega⟩
              have hp3 := hp 3
              rw [if_neg ha] at hp3
              refine ok_b1 hp3 (fun σ12 h12 => ok_nm (fun x13 e13 => ok_nm (fun x14 e14 => ok_some ?_)))
              dsimp only
              rw [e14, e13, pk_m1, nI_add]
              exact fin 3 σ12 u (by omega) (by omega) (pth_d (by omega)) (h12.1 d' (by rw [if_neg (by omega)])) h12.2
            · have e' : ¬ L k ≤ u := fun z => e (nI_le z (by omega))
              have hp2 := hp 2
              rw [if_neg ha] at hp2
              refine ok_b1 hp2 (fun σ15 h15 => ok_nm (fun x16 e16 => ok_nm (fun x17 e17 => ok_some ?_)))
              dsimp only
              rw [e17, e16, nI_1, nI_add]
              exact fin 2 σ15 (u + 1) (by omega) (by omega) (pth_u (by omega)) (h15.1 d' (by rw [if_pos (by omega)]; rfl)) h15.2
      · rintro σ18 x19 x20 ⟨r1, r2, r3, r4⟩
        dsimp only at r1 r2 r3 r4
        have hlst : (stB L (k + 1)).length = (stB L k ++ pth (prv L k) (L k)).length + 1 := by simp only [stB, List.length_append, List.length_singleton]
        rw [r1, r2]
        refine ok_if (fun ha => ok_nm (fun x21 e21 => ok_nm (fun x22 e22 => ok_some ⟨?_, ?_, ?_, ?_, r4⟩))) (fun ha => ?_)
        · dsimp only
          rw [e21, nI_1, hlst]
        · rfl
        · dsimp only
          rw [e22, nI_1]
        · unfold SW at r3 ⊢
          rw [if_pos ha] at r3 ⊢
          exact r3
        · unfold SW at r3
          rw [if_neg ha] at r3
          have := hz ha
          refine ok_b1 (s_moPutBits r3 0 (n := 1) (by omega) (by rw [List.length_append]; omega)) (fun σ23 h23 => ok_nm (fun x24 e24 => ok_nm (fun x25 e25 => ok_some ⟨?_, rfl, ?_, ?_, r4.tr h23.2⟩)))
          · dsimp only
            rw [e24, nI_1, hlst]
          · dsimp only
            rw [e25, nI_1]
          · unfold SW
            rw [if_neg ha]
            simp only [stB]
            have h23' := h23.1
            rw [bits01, List.append_assoc] at h23'
            exact h23'
    · rintro ⟨σ2, x, y, z⟩ ⟨rfl, rfl, rfl, q1, q2⟩
      unfold lb_Mo_packed_82
      exact ok_t (nI_le (Nat.le_refl _) (by omega)) (ok_some ⟨rfl, q1, q2⟩)
  refine ok_if (fun ha => h76 σ ?_ fr.rf) (fun ha => ?_)
  · unfold SW
    rw [if_pos ha]
    exact hS
  · have := hz ha
    obtain ⟨Z, hZ⟩ := hmono 0 (by omega)
    have hZl := congrArg List.length hZ
    rw [List.length_append] at hZl
    simp only [stB, bitsOf_len] at hZl
    refine ok_b1 (s_moPutBits hS (nI (L 0)) (n := 4) (by omega) (by omega)) (fun σ30 h30 => h76 σ30 ?_ h30.2)
    unfold SW
    rw [if_neg ha]
    exact h30.1
