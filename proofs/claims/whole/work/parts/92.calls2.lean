/-! ===== the calls: length, pack, table, add, forget, group, write ===== -/
theorem j_length {σ : St} (h : II σ) (a1 a2 a3 : Int32) : JJ (f_PC_length σ a1 a2 a3) (fun σ1 => f_Mo_length σ1 a1 a2 a3) := by
  have h0 := h
  obtain ⟨n, S, LL, B, m, T, h⟩ := h
  have hI := h.1
  have hn := hI.1
  have h4 := hI.2.2.2.1
  rcases ixS a1 a2 (show n < 2 ^ 31 by omega) hI.S64 with hx | ⟨c, v, hc, rfl, hv, rfl⟩
  · refine J_eq (r := -101) h0 ?_ ?_
    · unfold f_PC_length
      exact ok_b2e (codeWith_out hI hx) (ok_onN rfl (ok_some rfl))
    · show ok (f_Mo_length σ a1 a2 a3) _
      unfold f_Mo_length
      exact ok_b2e (hasS_out h4 hn hI.lr hx) (ok_t rfl (ok_some rfl))
  · have K := hI.ck c hc
    have L := hI.lr c hc
    have h64 := hI.S64 c hc
    by_cases z1 : a3 < 0
    · refine J_eq (r := -102) h0 ?_ ?_
      · unfold f_PC_length
        exact ok_b2e (codeWith_in hI hc hv) (ok_on rfl (ok_b2e (isOut (Or.inl z1)) (ok_f (by decide) (ok_some rfl))))
      · show ok (f_Mo_length σ (nI c) (nI v) a3) _
        unfold f_Mo_length
        exact ok_b2e (hasS_in h4 hn hc L hv) (ok_f (by decide) (ok_t z1 (ok_some rfl)))
    by_cases z2 : a3 ≤ 15
    rotate_left
    · refine J_eq (r := -102) h0 ?_ ?_
      · unfold f_PC_length
        exact ok_b2e (codeWith_in hI hc hv) (ok_on rfl (ok_b2e (isOut (Or.inr z2)) (ok_f (by decide) (ok_some rfl))))
      · show ok (f_Mo_length σ (nI c) (nI v) a3) _
        unfold f_Mo_length
        exact ok_b2e (hasS_in h4 hn hc L hv) (ok_f (by decide) (ok_f z1 (ok_f z2 (ok_some rfl))))
    obtain ⟨w, hw0, rfl⟩ := nI_of z1
    have hw15 := (nI_leI (b := 15) hw0 (by omega)).mp z2
    obtain ⟨l1, l2⟩ := K.1.2.2 v hv
    unfold f_PC_length
    rw [nI_cl (show v < 2 ^ 31 by omega)]
    refine ok_b2e (codeWith_in hI hc hv) (ok_on rfl (ok_b2e (isIn z1 z2) (ok_t rfl (ok_gd (nI_ib (by omega) (by omega)) (ok_nm (fun x6 e6 => ok_gd (nI_ib (by omega) (by omega)) (ok_nm (fun σ7 e7 => ?_))))))))
    have LN7 : LN σ7 c (S c) (setF (LL c) v w) := by
      refine ⟨?_, h64, fun k hk => ?_⟩
      · rw [e7, sI_f (by omega)]
        exact K.1.1
      · rw [e7]
        simp only [setF]
        by_cases y : k = v
        · subst y
          rw [sI_at, if_pos rfl]
          exact ⟨rfl, hw15⟩
        · rw [sI_k y, if_neg y]
          exact K.1.2.2 k hk
    refine ok_b1 (s_renumber LN7) (fun σ8 h8 => ok_some ?_)
    obtain ⟨u1, u2⟩ := h8
    show ok (f_Mo_length σ8 (nI c) (nI v) (nI w)) (fun o2 => x6 = o2.2 ∧ II o2.1)
    have f8 : fr (fun f i k => i = c ∧ ((42 ≤ f ∧ f ≤ 47) ∨ (f = 41 ∧ 7 ≤ k ∧ k ≤ 10))) σ σ8 := by
      have f7 : fr (fun f i k => i = c ∧ ((42 ≤ f ∧ f ≤ 47) ∨ (f = 41 ∧ 7 ≤ k ∧ k ≤ 10))) σ σ7 := by rw [e7]; exact fr_sI (by omega)
      exact f7.tr (u2.mono (fun f i k z => by omega))
    have L8 : LR σ8 c (S c) (LL c) := L.go (f8.fi (fun _ => by omega)) (f8.fi (fun _ => by omega))
    unfold f_Mo_length
    rw [i64, nI_cl (show 64 * c + v < 2 ^ 31 by omega)]
    refine ok_b2e (hasS_in (by rw [f8.i (by omega)]; exact h4) hn hc L8 hv) (ok_f (by decide) (ok_f z1 (ok_t z2 (ok_b2e (e_lengthOf L8 hv) (ok_gd (nI_ib (by omega) (by omega)) (ok_nm (fun σ5 e5 => ok_some ⟨?_, ?_⟩)))))))
    · show x6 = nI (LL c v)
      rw [e6]
      exact l1
    · have f5 : fr (fun f i k => f = 50 ∧ k = 64 * c + v) σ8 σ5 := by rw [e5]; exact fr_sI (by omega)
      have ff := f8.un f5
      obtain ⟨h1, h2, h3, h4', h5, h6, h7⟩ := h
      refine ⟨n, S, fun j => if j = c then setF (LL c) v w else LL j, B, m, T, ⟨hn, ff.2.trans hI.2.1, ?_, ?_, fun j hj => ?_⟩, h2.fr ff (fun f i k z => by omega), h3.fr ff (fun f i k z => by omega), h4'.fr ff (fun f i k z => by omega), h5.fr ff (fun f i k z => by omega), h6.fr ff (fun f i k z => by omega), h7.fr ff (fun f i k z => by omega) (Nat.le_refl _) (fun _ _ => rfl)⟩
      · show σ5.1 0 0 1 = _
        rw [ff.i (by omega)]
        exact hI.2.2.1
      · show σ5.1 48 0 1 = _
        rw [ff.i (by omega)]
        exact h4
      · obtain ⟨a1, a2, a3, a4⟩ := hI.2.2.2.2 j hj
        have hj64 := a4.2.1
        refine ⟨?_, a2, ?_, ?_⟩
        · show σ5.2.2.1 1 0 j = _
          rw [ff.ri (fun _ => by omega)]
          exact a1
        · by_cases y : j = c
          · subst y
            dsimp only
            rw [if_pos rfl]
            exact u1.go (fun f u v => f5.fi (fun _ => by omega))
          · dsimp only
            rw [if_neg y]
            exact a3.go (fun f u v => ff.fi (fun _ => by omega))
        · by_cases y : j = c
          · subst y
            dsimp only
            rw [if_pos rfl]
            refine ⟨?_, a4.2.1, a4.2.2.1, fun k hk => ?_⟩
            · rw [ff.i (by omega)]
              exact a4.1
            · rw [e5]
              simp only [setF]
              by_cases y2 : k = v
              · subst y2
                rw [sI_at, if_pos rfl]
                exact ⟨rfl, hw15⟩
              · rw [sI_k (by omega), if_neg y2, f8.i (by omega)]
                exact a4.2.2.2 k hk
          · dsimp only
            rw [if_neg y]
            exact a4.go1 (ff.i (by omega)) (fun k hk => ff.i (by omega))
/-! pack -/
def pkB (L : Nat → Nat) (s mn : Nat) : List Bool := if mn = 0 then plB L s else if mn = 1 then stB L s else ruB (pkL (Cn (cml L s s 0)) 19 7) (cml L s s 0)
theorem s_pcPack {σ : St} {n c h mn : Nat} {S : Nat → Nat} {LL : Nat → Nat → Nat} {B : List Bool} (hI : IC σ n S LL) (hM : MI σ) (hB : SB σ h B) (hc : c < n) (hmn : mn ≤ 2) : ok (f_PC_pack σ (nI c) (nI mn)) (fun o => (B.length + (pkB (LL c) (S c) mn).length ≤ 20000 → o.2 = nI (pkB (LL c) (S c) mn).length ∧ SB o.1 h (B ++ pkB (LL c) (S c) mn)) ∧ (20000 < B.length + (pkB (LL c) (S c) mn).length → o.2 = -106 ∧ SB o.1 h B) ∧ fr Fru σ o.1) := by
  have hn := hI.1
  obtain ⟨_, s1, K, L⟩ := hI.2.2.2.2 c hc
  unfold f_PC_pack
  refine ok_b2e (codeAt_in hI hc) (ok_on rfl (ok_b2e (isIn (nI_pos (by omega)) (nI_le (b := 2) hmn (by omega))) (ok_t rfl (ok_b1 (s_begin hB) (fun σ6 h6 => ?_)))))
  have f6 := h6.go
  unfold f_Manners_append pkB
  rcases (show mn = 0 ∨ mn = 1 ∨ mn = 2 by omega) with rfl | rfl | rfl
  · rw [if_pos rfl]
    refine ok_b1 (ok_t rfl (ok_b1 (s_appendPlain K.1 h6) (fun σ1 h1 => ok_some h1))) (fun σ7 h7 => ok_b2 (s_settle rfl h7) (fun σ8 x9 h8 => ok_some ⟨h8.1, h8.2.1, h8.2.2.mono (fun f i k z => Or.inr (Or.inr z))⟩))
  · rw [if_neg (show ¬ (1 : Nat) = 0 by omega), if_pos rfl]
    refine ok_b1 (ok_f (by decide) (ok_t rfl (ok_b1 (s_appendSteps K.1 s1 h6) (fun σ1 h1 => ok_some h1)))) (fun σ7 h7 => ok_b2 (s_settle rfl h7) (fun σ8 x9 h8 => ok_some ⟨h8.1, h8.2.1, h8.2.2.mono (fun f i k z => Or.inr (Or.inr z))⟩))
  · rw [if_neg (show ¬ (2 : Nat) = 0 by omega), if_neg (show ¬ (2 : Nat) = 1 by omega), show σ6.1 41 c 0 = nI (S c) by rw [f6.i (by omega)]; exact K.1.1]
    have hM6 := hM.fr f6 (fun f i k z => by omega)
    refine ok_b1 (ok_f (by decide) (ok_f (by decide) (ok_b1 (s_cAppend (by omega) hM6.2 hM6.1 (K.1.go (f6.i (by omega)) (f6.fi (fun _ => by omega))) h6) (fun σ1 h1 => ok_some h1)))) (fun σ7 h7 => ok_b2 (s_settle rfl h7.1) (fun σ8 x9 h8 => ok_some ⟨h8.1, h8.2.1, ((f6.mono (fun f i k z => Or.inr (Or.inr z))).tr h7.2).tr (h8.2.2.mono (fun f i k z => Or.inr (Or.inr z)))⟩))
theorem s_moPacked {σ : St} {c s mn : Nat} {L : Nat → Nat} {B : List Bool} (hL : LR σ c s L) (hc : c < 12) (h1 : 1 ≤ s) (hS : SR σ B) (hmn : mn ≤ 2) {a : Int32} (ha : a = 0 ∨ a = 1) (hz : a ≠ 0 → B.length + (pkB L s mn).length ≤ 20000) : ok (f_Mo_packed σ (nI c) (nI mn) a) (fun o => o.2 = nI (pkB L s mn).length ∧ SR o.1 (if a = 0 then B else B ++ pkB L s mn) ∧ (pkB L s mn).length ≤ 2000 ∧ fr Frr σ o.1) := by
  have h64 := hL.2.1
  have hfm : ∀ f i k, Fm f i k → Frr f i k := fun f i k z => Or.inr (Or.inr (Or.inr (Or.inr (Or.inr z))))
  unfold pkB at hz ⊢
  rcases (show mn = 0 ∨ mn = 1 ∨ mn = 2 by omega) with rfl | rfl | rfl
  · rw [if_pos rfl] at hz ⊢
    exact (s_rPlain hL hS ha hz).mono (fun o ho => ⟨ho.1, ho.2.1, by rw [plB_len]; omega, ho.2.2.mono hfm⟩)
  · rw [if_neg (show ¬ (1 : Nat) = 0 by omega), if_pos rfl] at hz ⊢
    have := stB_len (L := L) (s := s) (fun k hk => (hL.2.2.2 k hk).2) s (Nat.le_refl _)
    exact (s_rSteps hL h1 hS hz).mono (fun o ho => ⟨ho.1, ho.2.1, by omega, ho.2.2.mono hfm⟩)
  · rw [if_neg (show ¬ (2 : Nat) = 0 by omega), if_neg (show ¬ (2 : Nat) = 1 by omega)] at hz ⊢
    unfold f_Mo_packed
    refine ok_gd (nI_ib (by omega) (by omega)) (ok_nm (fun x1 e1 => ok_f (by decide) (ok_f (by decide) (ok_b2 (s_rRuns hL hc hS hz) (fun σ2 x3 h2 => ok_some h2)))))
theorem j_pack {σ : St} (h : II σ) (a1 a2 : Int32) : JJ (f_PC_pack σ a1 a2) (fun σ1 => f_Mo_pack σ1 a1 a2) := by
  have h0 := h
  obtain ⟨n, S, LL, B, m, T, h⟩ := h
  have hI := h.1
  have hn := hI.1
  have h4 := hI.2.2.2.1
  obtain ⟨⟨hh, hB⟩, hR⟩ := h.2.2.2.1
  rcases ixC a1 (show n < 2 ^ 31 by omega) with hx | ⟨c, hc, rfl⟩
  · refine J_eq (r := -101) h0 ?_ ?_
    · unfold f_PC_pack
      exact ok_b2e (codeAt_out hI hx) (ok_onN rfl (ok_some rfl))
    · show ok (f_Mo_pack σ a1 a2) _
      unfold f_Mo_pack
      exact ok_b2e (has_out h4 hx) (ok_t rfl (ok_some rfl))
  by_cases z1 : a2 < 0
  · refine J_eq (r := -102) h0 ?_ ?_
    · unfold f_PC_pack
      exact ok_b2e (codeAt_in hI hc) (ok_on rfl (ok_b2e (isOut (Or.inl z1)) (ok_f (by decide) (ok_some rfl))))
    · show ok (f_Mo_pack σ (nI c) a2) _
      unfold f_Mo_pack
      exact ok_b2e (has_in h4 hn hc) (ok_f (by decide) (ok_t z1 (ok_some rfl)))
  by_cases z2 : a2 ≤ 2
  rotate_left
  · refine J_eq (r := -102) h0 ?_ ?_
    · unfold f_PC_pack
      exact ok_b2e (codeAt_in hI hc) (ok_on rfl (ok_b2e (isOut (Or.inr z2)) (ok_f (by decide) (ok_some rfl))))
    · show ok (f_Mo_pack σ (nI c) a2) _
      unfold f_Mo_pack
      exact ok_b2e (has_in h4 hn hc) (ok_f (by decide) (ok_f z1 (ok_f z2 (ok_some rfl))))
  obtain ⟨mn, hmn0, rfl⟩ := nI_of z1
  have hmn := (nI_leI (b := 2) hmn0 (by omega)).mp z2
  obtain ⟨_, s1, K, L⟩ := hI.2.2.2.2 c hc
  have h64 := hI.S64 c hc
  refine (s_pcPack hI h.2.1 hB hc hmn).mono (fun o1 ho1 => ?_)
  obtain ⟨u1, u2, u3⟩ := ho1
  have L1 : LR o1.1 c (S c) (LL c) := L.go (u3.fi (fun _ => by omega)) (u3.fi (fun _ => by omega))
  have R1 : SR o1.1 B := hR.fr u3 (fun f i k z => by omega)
  show ok (f_Mo_pack o1.1 (nI c) (nI mn)) _
  unfold f_Mo_pack
  refine ok_b2e (has_in (by rw [u3.i (by omega)]; exact h4) hn hc) (ok_f (by decide) (ok_f z1 (ok_t z2 (ok_b2 (s_moPacked L1 (by omega) s1 R1 hmn (Or.inl rfl) (fun z => absurd rfl z)) (fun σ3 x4 h3 => ?_)))))
  obtain ⟨v1, v2, v3, v4⟩ := h3
  dsimp only at v1 v2 v4
  rw [if_pos rfl] at v2
  subst v1
  generalize hX : pkB (LL c) (S c) mn = X at *
  refine ok_b2e (e_moHasRoom v2 (n := X.length) (by omega)) ?_
  by_cases d : B.length + X.length ≤ 20000
  · rw [if_pos d]
    have L3 : LR σ3 c (S c) (LL c) := L1.go1 (v4.i (by omega)) (fun k hk => v4.i (by omega))
    refine ok_f (by decide) (ok_b2 (s_moPacked L3 (by omega) s1 v2 hmn (Or.inr rfl) (fun _ => by rw [hX]; exact d)) (fun σ7 x8 h7 => ok_some ?_))
    obtain ⟨w1, w2, w3, w4⟩ := h7
    dsimp only at w1 w2 w4
    rw [hX, if_neg (by decide)] at w2
    obtain ⟨y1, y2⟩ := u1 d
    refine ⟨y1, (h.ss (B' := B ++ X) ((u3.un v4).un w4) (fun f i k z => by omega) ⟨⟨hh, (y2.fr v4 (fun f i k z => by omega)).fr w4 (fun f i k z => by omega)⟩, w2⟩).ii⟩
  · rw [if_neg d]
    obtain ⟨y1, y2⟩ := u2 (by omega)
    exact ok_t rfl (ok_some ⟨y1, (h.ss (B' := B) (u3.un v4) (fun f i k z => by omega) ⟨⟨hh, y2.fr v4 (fun f i k z => by omega)⟩, v2⟩).ii⟩)
/-! table -/
theorem fil_ok {L : Nat → Nat} {s : Nat} (h : knd L s ≠ 4) : fil (fun m => cnt L m s) 15 ≤ 32768 := by
  have hf := fil_le (fun m => cnt L m s) s (fun l => hvn_le L l s) 15
  unfold knd at h
  by_cases c1 : hvn (fun m => cnt L m s) 15 = 0
  · rw [c1] at hf
    omega
  · rw [if_neg c1] at h
    by_cases c2 : hvn (fun m => cnt L m s) 15 = 1 ∧ gre (fun m => cnt L m s) 15 = 1
    · rw [c2.1] at hf
      omega
    · rw [if_neg c2] at h
      by_cases c3 : fil (fun m => cnt L m s) 15 = 32768
      · omega
      · rw [if_neg c3] at h
        by_cases c4 : fil (fun m => cnt L m s) 15 < 32768
        · omega
        · rw [if_neg c4] at h
          exact absurd rfl h
theorem j_table {σ : St} (h : II σ) (a1 a2 : Int32) : JJ (f_PC_table σ a1 a2) (fun σ1 => f_Mo_table σ1 a1 a2) := by
  have h0 := h
  obtain ⟨n, S, LL, B, m, T, h⟩ := h
  have hI := h.1
  have hn := hI.1
  have h4 := hI.2.2.2.1
  rcases ixC a1 (show n < 2 ^ 31 by omega) with hx | ⟨c, hc, rfl⟩
  · refine J_eq (r := -101) h0 ?_ ?_
    · unfold f_PC_table
      exact ok_b2e (codeAt_out hI hx) (ok_onN rfl (ok_some rfl))
    · show ok (f_Mo_table σ a1 a2) _
      unfold f_Mo_table
      exact ok_b2e (has_out h4 hx) (ok_t rfl (ok_some rfl))
  by_cases z1 : a2 < 1
  · refine J_eq (r := -102) h0 ?_ ?_
    · unfold f_PC_table
      exact ok_b2e (codeAt_in hI hc) (ok_on rfl (ok_b2e (isOut (Or.inl z1)) (ok_f (by decide) (ok_some rfl))))
    · show ok (f_Mo_table σ (nI c) a2) _
      unfold f_Mo_table
      exact ok_b2e (has_in h4 hn hc) (ok_f (by decide) (ok_t z1 (ok_some rfl)))
  by_cases z2 : a2 ≤ 9
  rotate_left
  · refine J_eq (r := -102) h0 ?_ ?_
    · unfold f_PC_table
      exact ok_b2e (codeAt_in hI hc) (ok_on rfl (ok_b2e (isOut (Or.inr z2)) (ok_f (by decide) (ok_some rfl))))
    · show ok (f_Mo_table σ (nI c) a2) _
      unfold f_Mo_table
      exact ok_b2e (has_in h4 hn hc) (ok_f (by decide) (ok_f z1 (ok_f z2 (ok_some rfl))))
  obtain ⟨r, hr0, rfl⟩ := nI_of (x := a2) (fun y => z1 (Int32.lt_trans y (by decide)))
  have hr := (nI_leI (b := 9) hr0 (by omega)).mp z2
  have hr1 : 1 ≤ r := by
    rcases Nat.eq_zero_or_pos r with y | y
    · subst y
      exact absurd (by decide) z1
    · exact y
  obtain ⟨_, s1, K, L⟩ := hI.2.2.2.2 c hc
  have hk := knd_lt (LL c) (S c)
  by_cases d : knd (LL c) (S c) = 4
  · refine J_eq (r := -103) h0 ?_ ?_
    · unfold f_PC_table
      exact ok_b2e (codeAt_in hI hc) (ok_on rfl (ok_b2e (isIn z1 z2) (ok_t rfl (ok_t (by rw [K.2.2.2.2.2.2, d]; rfl) (ok_some rfl)))))
    · show ok (f_Mo_table σ (nI c) (nI r)) _
      unfold f_Mo_table
      refine ok_b2e (has_in h4 hn hc) (ok_f (by decide) (ok_f z1 (ok_t z2 (ok_b2 (e_moKind L) (fun σ3 x4 h3 => ?_)))))
      cases h3
      exact ok_t (by rw [d]; rfl) (ok_some rfl)
  have hf := fil_ok d
  unfold f_PC_table
  refine ok_b2e (codeAt_in hI hc) (ok_on rfl (ok_b2e (isIn z1 z2) (ok_t rfl (ok_f (by rw [K.2.2.2.2.2.2]; exact fun z => d ((nI_eq (b := 4) (by omega) (by omega)).mp z)) (ok_b1 (s_build K hr1 hr hf) (fun σ6 h6 => ok_some ?_))))))
  obtain ⟨u1, u2⟩ := h6
  show ok (f_Mo_table σ6 (nI c) (nI r)) (fun o2 => σ6.1 19 0 1 = o2.2 ∧ II o2.1)
  have L6 : LR σ6 c (S c) (LL c) := L.go (u2.fi (fun _ => by omega)) (u2.fi (fun _ => by omega))
  unfold f_Mo_table
  refine ok_b2e (has_in (by rw [u2.i (by omega)]; exact h4) hn hc) (ok_f (by decide) (ok_f z1 (ok_t z2 (ok_b2 (e_moKind L6) (fun σ3 x4 h3 => ?_)))))
  cases h3
  refine ok_f (fun z => d ((nI_eq (b := 4) (by omega) (by omega)).mp z)) ((s_moTable L6 hr1 hr hf).mono (fun o ho => ?_))
  obtain ⟨v1, v2, v3⟩ := ho
  have ff := u2.un v3
  obtain ⟨h1, h2, h3, h4', h5, h6, h7⟩ := h
  have tc : TC o.1 (LL c) (S c) r := u1.go (fun f u v => v3.fi (fun _ => by omega))
  refine ⟨?_, n, S, LL, B, m, T, h1.fr ff (fun f i k z => by omega), h2.fr ff (fun f i k z => by omega), h3.fr ff (fun f i k z => by omega), h4'.fr ff (fun f i k z => by omega), Or.inr ⟨LL c, S c, r, tc, v2, fun k hk => (L.2.2.2 k hk).2, L.2.1, hr1, hr, hf⟩, h6.fr ff (fun f i k z => by omega), h7.fr ff (fun f i k z => by omega) (Nat.le_refl _) (fun _ _ => rfl)⟩
  obtain ⟨N, Pf, Pb, _, t2, _⟩ := u1
  rw [t2, v1]
/-! texts -/
abbrev v5 (a b c d e : Int32) : Nat → Int32 := fun k => if k = 0 then a else if k = 1 then b else if k = 2 then c else if k = 3 then d else e
theorem j_add {σ : St} (h : II σ) (a b c d e : Int32) : JJ (f_PC_add σ a b c d e) (fun σ1 => f_Mo_add σ1 a b c d e) := by
  obtain ⟨n, S, LL, B, m, T, h⟩ := h
  have hT := h.2.2.2.2.2.1
  unfold f_PC_add
  refine ok_gd (by decide) (ok_nm (fun σ1 e1 => ok_gd (by decide) (ok_nm (fun σ2 e2 => ok_gd (by decide) (ok_nm (fun σ3 e3 => ok_gd (by decide) (ok_nm (fun σ4 e4 => ok_gd (by decide) (ok_nm (fun σ5 e5 => ?_))))))))))
  have f5 : fr (fun f _ _ => f = 28) σ σ5 := by
    rw [e5, e4, e3, e2, e1]
    exact ((((fr_sI rfl).tr (fr_sI rfl)).tr (fr_sI rfl)).tr (fr_sI rfl)).tr (fr_sI rfl)
  have hv : ∀ k, k < 5 → σ5.1 28 0 k = v5 a b c d e k := by
    intro k hk
    rw [e5, e4, e3, e2, e1]
    rcases (show k = 0 ∨ k = 1 ∨ k = 2 ∨ k = 3 ∨ k = 4 by omega) with rfl | rfl | rfl | rfl | rfl <;> rfl
  have h5 := h.sc f5 (fun f i k z => by omega)
  have hT5 := h5.2.2.2.2.2.1
  refine ok_b2 (s_extend hv hT5.1) (fun σ6 x7 h6 => ok_some ?_)
  show ok (f_Mo_add σ6 a b c d e) (fun o2 => x7 = o2.2 ∧ II o2.1)
  obtain ⟨u1, u2⟩ := h6
  have ref : ∀ {σ' : St}, TXr σ' m T → _ := fun {σ'} hR => s_moAdd (σ := σ') (a := a) (b := b) (c := c) (d := d) (e := e) (v := v5 a b c d e) rfl rfl rfl rfl rfl hR
  cases hs5 : sc (v5 a b c d e) 5 0 with
  | none =>
    have e6 := u1 hs5
    cases e6
    refine (ref hT5.2).mono (fun o ho => ?_)
    rw [ho.1 hs5]
    exact ⟨rfl, h5.ii⟩
  | some k =>
    obtain ⟨w1, w2⟩ := u2 k hs5
    rcases Nat.lt_or_ge 1000 (m + k) with g | g
    · have e6 := w1 g
      cases e6
      refine (ref hT5.2).mono (fun o ho => ?_)
      rw [(ho.2 k hs5).1 g]
      exact ⟨rfl, h5.ii⟩
    · obtain ⟨y1, y2, y3⟩ := w2 g
      dsimp only at y1 y2 y3
      refine (ref (hT5.2.go (y3.i (by omega)) (y3.fi (fun _ => by omega)))).mono (fun o ho => ?_)
      obtain ⟨q1, q2, q3⟩ := (ho.2 k hs5).2 g
      have ff := y3.un q3
      obtain ⟨h1, h2, h3, h4', h5', h6, h7⟩ := h5
      exact ⟨by rw [y1, q1], n, S, LL, B, m + k, apT T m (v5 a b c d e), h1.fr ff (fun f i k z => by omega), h2.fr ff (fun f i k z => by omega), h3.fr ff (fun f i k z => by omega), h4'.fr ff (fun f i k z => by omega), h5'.fr ff (fun f i k z => by omega), ⟨y2.go (q3.i (by omega)) (q3.fi (fun _ => by omega)), q2⟩, h7.fr ff (fun f i k z => by omega) (Nat.le_refl _) (fun _ _ => rfl)⟩
theorem j_forget {σ : St} (h : II σ) : JJ (f_PC_forget σ) (fun σ1 => f_Mo_forget σ1) := by
  obtain ⟨n, S, LL, B, m, T, h1, h2, h3, h4, h5, h6, h7⟩ := h
  unfold f_PC_forget
  refine ok_nm (fun x1 e1 => ok_nm (fun σ2 e2 => ok_some ?_))
  show ok (f_Mo_forget σ2) (fun o2 => x1 = o2.2 ∧ II o2.1)
  unfold f_Mo_forget
  refine ok_nm (fun y1 g1 => ok_nm (fun σ3 e3 => ok_some ⟨?_, ?_⟩))
  · show x1 = y1
    rw [e1, g1, e2, sI_f (by omega), h6.1.1, h6.2.1]
  · have ff : fr (fun f _ k => (f = 26 ∧ k = 1) ∨ (f = 48 ∧ k = 22)) σ σ3 := by
      rw [e3, e2]
      exact (fr_sI (by omega)).tr (fr_sI (by omega))
    refine ⟨n, S, LL, B, 0, T, h1.fr ff (fun f i k z => by omega), h2.fr ff (fun f i k z => by omega), h3.fr ff (fun f i k z => by omega), h4.fr ff (fun f i k z => by omega), h5.fr ff (fun f i k z => by omega), ⟨⟨?_, by omega, fun k hk => absurd hk (by omega)⟩, ⟨?_, by omega, fun k hk => absurd hk (by omega)⟩⟩, h7.fr ff (fun f i k z => by omega) (Nat.le_refl _) (fun _ _ => rfl)⟩
    · show σ3.1 26 0 1 = nI 0
      rw [e3, sI_f (by omega), e2, sI_at]
      rfl
    · show σ3.1 48 0 22 = nI 0
      rw [e3, sI_at]
      rfl
theorem j_group {σ : St} (h : II σ) (a1 : Int32) : JJ (f_PC_group σ a1) (fun σ1 => f_Mo_group σ1 a1) := by
  have h0 := h
  obtain ⟨n, S, LL, B, m, T, h⟩ := h
  have hn := h.1.1
  rcases h.2.2.2.2.2.2 with ⟨c1, c2⟩ | ⟨m', U, t, G, q, T', gc, n1, n2, c1, c2, c3, c4, c5, c6, c7⟩
  · refine J_eq (r := -103) h0 ?_ ?_
    · unfold f_PC_group
      rw [c1]
      exact ok_t rfl (ok_some rfl)
    · show ok (f_Mo_group σ a1) _
      unfold f_Mo_group
      rw [c2]
      exact ok_t rfl (ok_some rfl)
  · have hG := n1.2.2.2.2.2.1
    have q23 : ¬ σ.1 48 0 23 = -1 := by
      rw [c3.2.2.2.2.1]
      exact fun z => absurd (z ▸ nI_pos (show q < 2 ^ 31 by omega)) (by decide)
    rcases ixC a1 (show G < 2 ^ 31 by omega) with hx | ⟨g, hg, rfl⟩
    · refine J_eq (r := -102) h0 ?_ ?_
      · unfold f_PC_group
        rw [c1.2.2.1]
        exact ok_f (nI_ne0 n2 (by omega)) (ok_b2e (isOut (notIn (by omega) hx)) (ok_f (by decide) (ok_some rfl)))
      · show ok (f_Mo_group σ a1) _
        unfold f_Mo_group
        rw [c3.2.2.1]
        refine ok_f q23 (ok_if (fun _ => ok_some rfl) (fun z => ok_f ?_ (ok_some rfl)))
        exact Int32.not_lt.mpr (hx.resolve_left z)
    · refine J_eq (r := nI (gc g)) h0 ?_ ?_
      · unfold f_PC_group
        rw [c1.2.2.1, nI_cl (show g < 2 ^ 31 by omega)]
        refine ok_f (nI_ne0 n2 (by omega)) (ok_b2e (isIn0 hg (by omega)) (ok_t rfl (ok_gd (nI_ib (by omega) (by omega)) (ok_some ?_))))
        rw [c2 g hg]
      · show ok (f_Mo_group σ (nI g)) _
        unfold f_Mo_group
        rw [c3.2.2.1, nI_cl (show g < 2 ^ 31 by omega)]
        refine ok_f q23 (ok_f (nI_pos (by omega)) (ok_t (nI_lt hg (by omega)) (ok_gd (nI_ib (by omega) (by omega)) (ok_some ?_))))
        rw [c4 g hg]
theorem j_write {σ : St} (h : II σ) : JJ (f_PC_write σ) (fun σ1 => f_Mo_write σ1) := by
  have h0 := h
  obtain ⟨n, S, LL, B, m, T, h⟩ := h
  have hI := h.1
  have hn := hI.1
  obtain ⟨⟨hh, hB⟩, hR⟩ := h.2.2.2.1
  rcases h.2.2.2.2.2.2 with ⟨c1, c2⟩ | ⟨m', U, t, G, q, T', gc, n1, n2, c1, c2, c3, c4, c5, c6, c7⟩
  · refine J_eq (r := -103) h0 ?_ ?_
    · unfold f_PC_write
      rw [c1]
      exact ok_t rfl (ok_some rfl)
    · show ok (f_Mo_write σ) _
      unfold f_Mo_write
      rw [c2]
      exact ok_t rfl (ok_some rfl)
  · have hG := n1.2.2.2.2.2.1
    have kk : kK σ q t (fun c => LL (q + c)) := fun c hc => ⟨(c7 c hc).2, by
      have := hI.ck (q + c) (by omega)
      rw [(c7 c hc).1] at this
      exact this⟩
    have kr : kR σ q t (fun c => LL (q + c)) := fun c hc => by
      have := hI.lr (q + c) (by omega)
      rw [(c7 c hc).1] at this
      exact this
    unfold f_PC_write
    rw [c1.2.2.1]
    refine ok_f (nI_ne0 n2 (by omega)) (ok_b2 (e_canBeWritten n1 c1 c2 c5 kk) (fun σ1 x2 h1 => ?_))
    obtain ⟨e1, h1⟩ := h1
    dsimp only at e1 h1
    subst e1
    rcases h1 with ⟨rfl, hw⟩ | ⟨rfl, hw⟩
    · refine ok_f (by decide) (ok_b1 (s_begin hB) (fun σ3 h3 => ?_))
      have f3 := h3.go
      have h3' : AP hh B.length σ3 B σ3 := h3.re rfl rfl
      refine ok_b1 (s_choiceAppend n1 (c1.go (f3.fi (fun _ => by omega)) (f3.fi (fun _ => by omega))) (fun g hg => by rw [f3.i (by omega)]; exact c2 g hg) c5 (kk.go (f3.ri (fun _ => by omega)) (fun f i _ _ _ _ => f3.fi (fun _ => by omega))) hw h3') (fun σ4 h4 => ok_b2 (s_settle rfl h4.1) (fun σ5 x6 h5 => ok_some ?_))
      obtain ⟨u1, u2, u3⟩ := h5
      dsimp only at u1 u2 u3
      have f5 := (f3.un h4.2).un u3
      show ok (f_Mo_write σ5) (fun o2 => x6 = o2.2 ∧ II o2.1)
      refine (s_moWrite n1 (c3.go (fun _ _ _ => f5.i (by omega)) (f5.fi (fun _ => by omega))) (fun g hg => by rw [f5.i (by omega)]; exact c4 g hg) c5 (kr.go (f5.fi (fun _ => by omega)) (f5.fi (fun _ => by omega))) (by omega) (hR.fr f5 (fun f i k z => by omega))).mono (fun o ho => ?_)
      obtain ⟨_, w2, w3⟩ := ho
      generalize slB t gc G ++ twB (fun c => LL (q + c)) T' gc U m' = X at *
      rcases Nat.lt_or_ge 20000 (B.length + X.length) with d | d
      · obtain ⟨y1, y2⟩ := u2 d
        obtain ⟨x1, x2⟩ := (w2 hw).2 d
        exact ⟨by rw [y1, x1], (h.ss (B' := B) (f5.un w3) (fun f i k z => by omega) ⟨⟨hh, y2.fr w3 (fun f i k z => by omega)⟩, x2⟩).ii⟩
      · obtain ⟨y1, y2⟩ := u1 d
        obtain ⟨x1, x2⟩ := (w2 hw).1 d
        exact ⟨by rw [y1, x1], (h.ss (B' := B ++ X) (f5.un w3) (fun f i k z => by omega) ⟨⟨hh, y2.fr w3 (fun f i k z => by omega)⟩, x2⟩).ii⟩
    · refine ok_t rfl (ok_some ?_)
      show ok (f_Mo_write σ1) (fun o2 => (-103 : Int32) = o2.2 ∧ II o2.1)
      refine (s_moWrite n1 c3 c4 c5 kr (by omega) hR).mono (fun o ho => ?_)
      rw [ho.1 hw]
      exact ⟨rfl, h0⟩
