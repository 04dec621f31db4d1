/-! ===== unpack, choose ===== -/
noncomputable def f_PC_unpack (σ : St) (a1 : Int32) (a2 : Int32) : Option (St × Int32) :=
  b2 (f_PC_isOutside σ a1 1 64) fun σ1 x2 =>
  if x2 = 0 then
    b2 (f_PC_isOutside σ1 a2 0 2) fun σ3 x4 =>
    if x4 = 0 then
      nm (σ3.1 3 0 2) fun x5 =>
      b2 (f_Manners_remove σ3 a1 a2) fun σ6 x7 =>
      if 0 ≤ x7 then
        if (σ6.1 0 0 1) < 12 then
          gd (σ6.2.2.2 < 12) <|
          nm (σ6.2.2.2) fun j8 =>
          nm (nC σ6 a1) fun σ9 =>
          gd (cpok 0 64 0 64 a1) <|
          nm (cpI σ9 14 0 ((0 : Int32).toNatClampNeg) 42 j8 ((0 : Int32).toNatClampNeg) (a1.toNatClampNeg)) fun σ10 =>
          b1 (f_Code_renumber σ10 j8) fun σ11 =>
          b2 (f_PC_keep σ11 j8) fun σ12 x13 =>
          some (σ12, x13)
        else
        b1 (f_Stream_giveBack σ6 (x5 - (σ6.1 3 0 2))) fun σ14 =>
        some (σ14, (-106))
      else
      some (σ6, x7)
    else
    some (σ3, (-102))
  else
  some (σ1, (-102))
noncomputable def lb_PC_choose_105 (a1 : Int32) (a3 : Int32) (a4 : Int32) (x11 : Int32) (σ : St) (v7 : Int32) : Option ((St × Int32) ⊕ ((St × Int32))) :=
  if a1 ≤ v7 then
    some (.inr (σ, v7))
  else
  gd (σ.2.2.2 < 12) <|
  nm (σ.2.2.2) fun j13 =>
  nm (nC σ 64) fun σ14 =>
  b2 (f_PC_keep σ14 j13) fun σ15 x16 =>
  gd (ib v7 6) <|
  nm (sR σ15 33 0 (v7.toNatClampNeg) (some j13)) fun σ17 =>
  nm (v7 + 1) fun x18 =>
  some (.inl (σ17, x18))
noncomputable def f_PC_choose (σ : St) (a1 : Int32) (a2 : Int32) (a3 : Int32) (a4 : Int32) : Option (St × Int32) :=
  b2 (f_PC_isOutside σ a1 1 6) fun σ1 x2 =>
  if x2 = 0 then
    b2 (f_PC_isOutside σ1 a2 1 100) fun σ3 x4 =>
    if x4 = 0 then
      b2 (f_PC_isOutside σ3 a3 1 15) fun σ5 x6 =>
      if x6 = 0 then
        b2 (f_PC_isOutside σ5 a4 0 8) fun σ7 x8 =>
        if x8 = 0 then
          b2 (f_Text_different σ7) fun σ9 x10 =>
          if x10 = 0 then
            some (σ9, (-103))
          else
          if x10 ≤ (1 <<< (a3 &&& 31)) then
            if a1 ≤ (12 - (σ9.1 0 0 1)) then
              nm (σ9.1 0 0 1) fun x11 =>
              b1 (f_Choice_begin σ9 a1 a2) fun σ12 =>
              b2 (lpE (fun q => lb_PC_choose_105 a1 a3 a4 x11 q.1 q.2) (σ12, 0)) fun σ19 x20 =>
              b1 (f_Choice_settle σ19 a3 a4) fun σ21 =>
              some (σ21, x11)
            else
            some (σ9, (-106))
          else
          some (σ9, (-103))
        else
        some (σ7, (-102))
      else
      some (σ5, (-102))
    else
    some (σ3, (-102))
  else
  some (σ1, (-102))
theorem rdA_0 {n : Nat} {B : List Bool} : rdA n 0 B = rdP n 0 B F00 := rfl
theorem s_un95 {σ : St} {s q : Nat} {F : Nat → Nat} (hs6 : s ≤ 64) (hq : q < 12) (h60 : ∀ i, i < s → σ.1 60 0 i = nI (F i)) : ok (lpE (fun p => lb_Mo_unpack_95 (nI s) (nI q) p.1 p.2) (σ, 0)) (fun p => (∀ i, i < s → p.1.1 50 0 (64 * q + i) = nI (F i)) ∧ fr (fun f _ k => f = 50 ∧ 64 * q ≤ k ∧ k < 64 * q + 64) σ p.1) := by
  refine ok_up s (fun k p => p.2 = nI k ∧ (∀ i, i < k → p.1.1 50 0 (64 * q + i) = nI (F i)) ∧ fr (fun f _ k => f = 50 ∧ 64 * q ≤ k ∧ k < 64 * q + 64) σ p.1) ?_ ?_ 0 _ (Nat.zero_le _) ⟨rfl, fun i hi => absurd hi (by omega), fr.rf⟩
  · rintro k ⟨σ2, x⟩ hk ⟨rfl, q1, q2⟩
    dsimp only at q1 q2 ⊢
    unfold lb_Mo_unpack_95
    rw [i64, nI_cl (show 64 * q + k < 2 ^ 31 by omega), nI_cl (show k < 2 ^ 31 by omega), show σ2.1 60 0 k = nI (F k) by rw [q2.i (by omega)]; exact h60 k hk]
    refine ok_f (nI_ge hk (by omega)) (ok_gd (nI_ib (by omega) (by omega)) (ok_gd (nI_ib (by omega) (by omega)) (ok_nm (fun σ3 e3 => ok_nm (fun x4 e4 => ok_some ⟨by dsimp only; rw [e4, nI_1], fun i hi => ?_, ?_⟩)))))
    · dsimp only
      rw [e3]
      by_cases y : i = k
      · subst y
        rw [sI_at]
      · rw [sI_k (by omega)]
        exact q1 i (by omega)
    · rw [e3]
      exact q2.tr (fr_sI (by omega))
  · rintro ⟨σ2, x⟩ ⟨rfl, q1, q2⟩
    unfold lb_Mo_unpack_95
    exact ok_t (nI_le (Nat.le_refl _) (by omega)) (ok_some ⟨q1, q2⟩)
/-- the reference reads the lengths, then goes on -/
theorem s_mo58 {σ : St} {s mn : Nat} {B : List Bool} {P : St × Int32 → Prop} (hs6 : s ≤ 64) (hmn : mn ≤ 2) (hS : SR σ B) (z1 : ¬ nI s < 1) (k : ∀ o, UR s σ (rdA s mn B) o → ok (jn_Mo_unpack_58 o.1 (nI s) (σ.1 48 0 11) o.2) P) : ok (f_Mo_unpack σ (nI s) (nI mn)) P := by
  unfold f_Mo_unpack
  refine ok_f z1 (ok_f (nI_nlt (a := 64) hs6 (by omega)) (ok_f (nI_pos (by omega)) (ok_t (nI_le (b := 2) hmn (by omega)) (ok_nm (fun x1 e1 => ?_)))))
  subst e1
  rcases (show mn = 0 ∨ mn = 1 ∨ mn = 2 by omega) with rfl | rfl | rfl
  · exact ok_t rfl (ok_b2 (s_moPlain hs6 hS) (fun σ13 x14 h13 => k (σ13, x14) h13))
  · exact ok_f (by decide) (ok_t rfl (ok_b2 (s_moSteps hs6 hS) (fun σ13 x14 h13 => k (σ13, x14) h13)))
  · exact ok_f (by decide) (ok_f (by decide) (ok_b2 (s_moReadRuns hs6 hS) (fun σ13 x14 h13 => k (σ13, x14) h13)))
theorem j_unpack {σ : St} (h : II σ) (a1 a2 : Int32) : JJ (f_PC_unpack σ a1 a2) (fun σ1 => f_Mo_unpack σ1 a1 a2) := by
  have h0 := h
  obtain ⟨n, S, LL, B, m, T, h⟩ := h
  have hI := h.1
  have hn := hI.1
  have h4 := hI.2.2.2.1
  have hcn := hI.2.1
  obtain ⟨⟨hh, hB⟩, hR⟩ := h.2.2.2.1
  have hout : (a1 < 1 ∨ ¬ a1 ≤ 64 ∨ a2 < 0 ∨ ¬ a2 ≤ 2) → JJ (f_PC_unpack σ a1 a2) (fun σ1 => f_Mo_unpack σ1 a1 a2) := fun hz => J_eq (r := -102) h0 (by
    unfold f_PC_unpack
    by_cases z1 : a1 < 1 ∨ ¬ a1 ≤ 64
    · exact ok_b2e (isOut z1) (ok_f (by decide) (ok_some rfl))
    · have z2 : a2 < 0 ∨ ¬ a2 ≤ 2 := by
        rcases hz with z | z | z
        · exact absurd (Or.inl z) z1
        · exact absurd (Or.inr z) z1
        · exact z
      exact ok_b2e (isIn (fun y => z1 (Or.inl y)) (Decidable.of_not_not (fun y => z1 (Or.inr y)))) (ok_t rfl (ok_b2e (isOut z2) (ok_f (by decide) (ok_some rfl))))) (by
    show ok (f_Mo_unpack σ a1 a2) _
    unfold f_Mo_unpack
    refine ok_if (fun _ => ok_some rfl) (fun z1 => ok_if (fun _ => ok_some rfl) (fun z2 => ok_if (fun _ => ok_some rfl) (fun z3 => ok_f ?_ (ok_some rfl))))
    rcases hz with z | z | z | z
    · exact absurd z z1
    · exact absurd (Int32.not_le.mp z) z2
    · exact absurd z z3
    · exact z)
  by_cases z1 : a1 < 1
  · exact hout (Or.inl z1)
  by_cases z2 : a1 ≤ 64
  rotate_left
  · exact hout (Or.inr (Or.inl z2))
  by_cases z3 : a2 < 0
  · exact hout (Or.inr (Or.inr (Or.inl z3)))
  by_cases z4 : a2 ≤ 2
  rotate_left
  · exact hout (Or.inr (Or.inr (Or.inr z4)))
  clear hout
  obtain ⟨s, s0, s1, rfl⟩ := ge1 z1
  have s6 := (nI_leI (b := 64) s0 (by omega)).mp z2
  obtain ⟨mn, m0, rfl⟩ := nI_of z3
  have hmn := (nI_leI (b := 2) m0 (by omega)).mp z4
  unfold f_PC_unpack
  refine ok_b2e (isIn z1 z2) (ok_t rfl (ok_b2e (isIn z3 z4) (ok_t rfl (ok_nm (fun x5 e5 => ok_b2 (s_manRemove s6 hmn h.2.1.1 (CU_rf hB)) (fun σ6 x7 u => ?_))))))
  obtain ⟨⟨X, hX, u1⟩, u2, u3, u4⟩ := u
  dsimp only at u1 u2 u3 u4
  have R6 : SR σ6 B := hR.fr u4 (fun f i k z => by omega)
  have e11 : σ6.1 48 0 11 = σ.1 48 0 11 := u4.i (by omega)
  cases hz : (rdA s mn B).1 with
  | some e =>
    obtain ⟨rfl, e2⟩ := u2 e hz
    refine ok_f (nneg e2) (ok_some ?_)
    show ok (f_Mo_unpack σ6 (nI s) (nI mn)) (fun o2 => x7 = o2.2 ∧ II o2.1)
    refine s_mo58 s6 hmn R6 z1 (fun o ho => ?_)
    obtain ⟨v1, v2, v3, v4⟩ := ho
    obtain ⟨w1, w2⟩ := v2 _ hz
    unfold jn_Mo_unpack_58
    exact ok_f (by rw [w1]; exact nneg e2) (ok_some ⟨w1.symm, (h.ss (B' := (rdA s mn B).2.1) (u4.un v4) (fun f i k z => by omega) ⟨⟨_, u1.fr v4 (fun f i k z => by omega)⟩, v1⟩).ii⟩)
  | none =>
    obtain ⟨rfl, u5⟩ := u3 hz
    refine ok_t (nI_pos' (by omega)) ?_
    have h06 : σ6.1 0 0 1 = nI n := by rw [u4.i (by omega)]; exact hI.2.2.1
    have c6 : σ6.2.2.2 = n := u4.2.trans hcn
    by_cases d : nI n < 12
    rotate_left
    · have d' := n12 hn d
      have hsz : x5 - σ6.1 3 0 2 = nI X.length := by
        rw [e5, hB.2.2.1, u1.2.2.1]
        generalize (rdA s mn B).2.1 = Y at hX
        rw [hX, List.length_append, pk_sub (by omega)]
        exact congrArg nI (by omega)
      refine ok_f (by rw [h06]; exact d) ?_
      rw [hsz]
      refine ok_b1 (s_giveBack (σ0 := σ) (X := X) (Y := (rdA s mn B).2.1) (by rw [← hX]; exact hB) u1 (u4.fi (fun _ => by omega))) (fun σ14 u => ok_some ?_)
      obtain ⟨w1, w2⟩ := u
      rw [← hX] at w1
      show ok (f_Mo_unpack σ14 (nI s) (nI mn)) (fun o2 => (-106 : Int32) = o2.2 ∧ II o2.1)
      have fa := u4.un w2
      have R14 : SR σ14 B := hR.fr fa (fun f i k z => by omega)
      refine s_mo58 s6 hmn R14 z1 (fun o ho => ?_)
      obtain ⟨v1, v2, v3, v4⟩ := ho
      obtain ⟨x1, x2⟩ := v3 hz
      unfold jn_Mo_unpack_58
      refine ok_t (by rw [x1]; decide) (ok_t (by rw [v4.i (by omega), fa.i (by omega), h4, d']; rfl) (ok_nm (fun σ10 e10 => ok_some ⟨rfl, ?_⟩)))
      have f10 : fr (fun f _ k => f = 48 ∧ k = 11) o.1 σ10 := by rw [e10]; exact fr_sI ⟨rfl, rfl⟩
      refine (h.ss (B' := B) ((fa.un v4).un f10) (fun f i k z => by omega) ⟨⟨hh, (w1.fr v4 (fun f i k z => by omega)).fr f10 (fun f i k z => by omega)⟩, ?_⟩).ii
      show SR σ10 B
      rw [e10]
      exact R14.back (v4.i (by omega)) (v4.fi (fun _ => by omega))
    have d' := (nI_ltI (b := 12) (by omega) (by omega)).mp d
    refine ok_t (by rw [h06]; exact d) (ok_gd (by rw [c6]; exact d') (ok_nm (fun j8 ej => ok_nm (fun σ9 e9 => ?_))))
    rw [c6] at ej
    subst ej
    have f9 : fr (Fnc j8) (up1 σ6) σ9 := by rw [e9]; exact nC_fr c6
    rw [nI_cl (show s < 2 ^ 31 by omega)]
    refine ok_gd ⟨by decide, by decide, nI_pos (by omega), by rw [nI_cl (by omega)]; show 0 + s ≤ 64; omega, by rw [nI_cl (by omega)]; show 0 + s ≤ 64; omega⟩ (ok_nm (fun σ10 e10 => ?_))
    have f10 : fr (Fnc j8) σ9 σ10 := by rw [e10]; exact fr_cpI (fun _ => by omega)
    have LN10 : LN σ10 j8 s (rdA s mn B).2.2 := by
      refine ⟨?_, s6, fun k hk => ?_⟩
      · rw [e10, cpI_1, if_neg (by omega), e9, ← c6]
        exact (CK_new s6).1.1
      · rw [e10, cpI_1, if_pos ⟨rfl, rfl, Nat.zero_le _, by show k < 0 + s; omega⟩, show (0 : Int32).toNatClampNeg + (k - (0 : Int32).toNatClampNeg) = k from Nat.zero_add _, f9.i (by omega)]
        exact u5 k hk
    refine ok_b1 (s_renumber LN10) (fun σ11 u => ?_)
    obtain ⟨k1, k2⟩ := u
    have f11 : fr (Fnc j8) (up1 σ6) σ11 := (f9.tr f10).tr (k2.mono (fun f i k z => by omega))
    refine ok_b2 (s_keep (σ := σ11) (n := j8) (by rw [f11.i (by omega)]; exact h06) d') (fun σ12 x13 u => ok_some ?_)
    obtain ⟨y1, y2, y3, y4⟩ := u
    dsimp only at y1 y2 y3 y4
    subst y1
    show ok (f_Mo_unpack σ12 (nI s) (nI mn)) (fun o2 => nI j8 = o2.2 ∧ II o2.1)
    have u4' : fr Fu (up1 σ) (up1 σ6) := ⟨u4.1, by show σ6.2.2.2 + 1 = σ.2.2.2 + 1; rw [u4.2]⟩
    have fa := (u4'.un f11).un y4
    have R12 : SR σ12 B := (show SR (up1 σ) B from hR).fr fa (fun f i k z => by omega)
    refine s_mo58 s6 hmn R12 z1 (fun o ho => ?_)
    obtain ⟨v1, v2, v3, v4⟩ := ho
    obtain ⟨x1, x2⟩ := v3 hz
    have e48 : o.1.1 48 0 1 = nI j8 := by
      rw [v4.i (by omega), fa.i (by omega)]
      exact h4
    unfold jn_Mo_unpack_58
    refine ok_t (by rw [x1]; decide) (ok_f (by rw [e48]; exact fun z => absurd ((nI_eq (b := 12) (by omega) (by omega)).mp z) (by omega)) (ok_b2 (s_moMade d' s6 e48) (fun σ4 x5 w => ?_)))
    obtain ⟨w1, w2, w3, w4⟩ := w
    dsimp only at w1 w2 w3 w4
    subst w1
    refine ok_b2 (s_un95 (F := (rdA s mn B).2.2) s6 d' (fun i hi => by rw [w4.i (by omega)]; exact x2 i hi)) (fun σ8 x9 q => ok_some ⟨rfl, ?_⟩)
    obtain ⟨q1, q2⟩ := q
    dsimp only at q1 q2
    have ff := ((fa.un v4).un w4).un q2
    have fb := (v4.un w4).un q2
    refine (IV_more (n' := j8 + 1) (S' := fun j => if j = j8 then s else S j) (LL' := fun j => if j = j8 then (rdA s mn B).2.2 else LL j) (B' := (rdA s mn B).2.1) h rfl ff (fun f i k z => by omega) ⟨⟨_, ((show SB (up1 σ6) _ _ from u1).fr (f11.un y4) (fun f i k z => by omega)).fr fb (fun f i k z => by omega)⟩, (v1.fr w4 (fun f i k z => by omega)).fr q2 (fun f i k z => by omega)⟩ (IC_more (ρ := up1 σ) hI ⟨rfl, rfl, rfl⟩ ff (fun f i k z => by omega) (by omega) ?_ ?_ ?_ (fun j hj => ?_) (fun j j1 j2 => ?_)) (by omega) (fun j hj => ?_)).ii
    · show σ8.2.2.2 = j8 + 1
      rw [ff.2]
      show σ.2.2.2 + 1 = j8 + 1
      rw [hcn]
    · show σ8.1 0 0 1 = nI (j8 + 1)
      rw [fb.i (by omega)]
      exact y2
    · show σ8.1 48 0 1 = nI (j8 + 1)
      rw [q2.i (by omega)]
      exact w2
    · rw [if_neg (by omega), if_neg (by omega)]
      exact ⟨rfl, rfl⟩
    · have hj : j = j8 := by omega
      subst hj
      rw [if_pos rfl, if_pos rfl]
      refine ⟨?_, s1, ?_, ?_⟩
      · rw [fb.ri (fun _ => by omega), y3]
      · exact (k1.go (fun f u v => y4.fi (fun _ => by omega))).go (fun f u v => fb.fi (fun _ => by omega))
      · refine ⟨?_, s6, by omega, fun k hk => ⟨q1 k hk, (u5 k hk).2⟩⟩
        rw [q2.i (by omega)]
        exact w3.1
    · rw [if_neg (by omega)]
/-! choose -/
abbrev upk (σ : St) (c : Nat) : St := (σ.1, σ.2.1, σ.2.2.1, σ.2.2.2 + c)
abbrev Fcl (n t : Nat) : FF := fun f i k => (41 ≤ f ∧ f ≤ 47 ∧ n ≤ i ∧ i < n + t) ∨ (f = 1 ∧ n ≤ k ∧ k < n + t) ∨ (f = 0 ∧ k = 1) ∨ f = 33
theorem s_ch105 {σ : St} {n t : Nat} {a3 a4 x11 : Int32} (hc : σ.2.2.2 = n) (h0 : σ.1 0 0 1 = nI n) (hnt : n + t ≤ 12) (ht : t ≤ 6) : ok (lpE (fun q => lb_PC_choose_105 (nI t) a3 a4 x11 q.1 q.2) (σ, 0)) (fun p => p.1.1 0 0 1 = nI (n + t) ∧ (∀ c, c < t → p.1.2.2.1 33 0 c = some (n + c) ∧ p.1.2.2.1 1 0 (n + c) = some (n + c) ∧ p.1.1 41 (n + c) 0 = nI 64) ∧ fr (Fcl n t) (upk σ t) p.1) := by
  refine ok_up t (fun c p => p.2 = nI c ∧ p.1.1 0 0 1 = nI (n + c) ∧ (∀ c', c' < c → p.1.2.2.1 33 0 c' = some (n + c') ∧ p.1.2.2.1 1 0 (n + c') = some (n + c') ∧ p.1.1 41 (n + c') 0 = nI 64) ∧ fr (Fcl n c) (upk σ c) p.1) ?_ ?_ 0 _ (Nat.zero_le _) ⟨rfl, h0, fun c hc' => absurd hc' (by omega), fr.rf⟩
  · rintro c ⟨σ2, x⟩ hct ⟨rfl, q1, q2, q3⟩
    dsimp only at q1 q2 q3 ⊢
    have c2 : σ2.2.2.2 = n + c := by
      rw [q3.2]
      show σ.2.2.2 + c = n + c
      rw [hc]
    unfold lb_PC_choose_105
    refine ok_f (nI_ge hct (by omega)) (ok_gd (by rw [c2]; omega) (ok_nm (fun j13 ej => ok_nm (fun σ14 e14 => ?_))))
    rw [c2] at ej
    subst ej
    have f14 : fr (Fnc (n + c)) (up1 σ2) σ14 := by rw [e14]; exact nC_fr c2
    refine ok_b2 (s_keep (σ := σ14) (n := n + c) (by rw [f14.i (by omega)]; exact q1) (by omega)) (fun σ15 x16 u => ?_)
    obtain ⟨u1, u2, u3, u4⟩ := u
    dsimp only at u1 u2 u3 u4
    rw [nI_cl (show c < 2 ^ 31 by omega)]
    refine ok_gd (nI_ib (by omega) (by omega)) (ok_nm (fun σ17 e17 => ok_nm (fun x18 e18 => ok_some ⟨by dsimp only; rw [e18, nI_1], ?_, fun c' hc' => ⟨?_, ?_, ?_⟩, ?_⟩)))
    · dsimp only
      rw [e17]
      exact u2
    · dsimp only
      rw [e17, sR_R]
      by_cases y : c' = c
      · rw [if_pos ⟨rfl, rfl, y⟩, y]
      · rw [if_neg (fun z => y z.2.2), u4.ri (fun _ => by omega), f14.ri (fun _ => by omega)]
        exact (q2 c' (by omega)).1
    · dsimp only
      rw [e17, sR_R, if_neg (by omega)]
      by_cases y : c' = c
      · rw [y]
        exact u3
      · rw [(u4.1 1 0 (n + c') (by omega)).2.2, f14.ri (fun _ => by omega)]
        exact (q2 c' (by omega)).2.1
    · dsimp only
      rw [e17]
      show σ15.1 41 (n + c') 0 = nI 64
      rw [u4.i (by omega)]
      by_cases y : c' = c
      · rw [y, e14, ← c2]
        exact (CK_new (s := 64) (Nat.le_refl _)).1.1
      · rw [f14.i (by omega)]
        exact (q2 c' (by omega)).2.2
    · have g2 : fr (Fcl n (c + 1)) (upk σ (c + 1)) (up1 σ2) := ⟨fun f i k hn => q3.1 f i k (fun z => hn (by omega)), by
        show σ2.2.2.2 + 1 = σ.2.2.2 + (c + 1)
        rw [c2, hc]
        omega⟩
      rw [e17]
      exact ((g2.tr (f14.mono (fun f i k z => by omega))).tr (u4.mono (fun f i k z => by omega))).tr (fr_sR (by omega))
  · rintro ⟨σ2, x⟩ ⟨rfl, q1, q2, q3⟩
    unfold lb_PC_choose_105
    exact ok_t (nI_le (Nat.le_refl _) (by omega)) (ok_some ⟨q1, q2, q3⟩)
theorem ordm_0 {g : Nat → Int32} : ∀ {n : Nat}, (∀ k, k < n → g k ≤ 0) → ordm g n = 0
  | 0, _ => rfl
  | n + 1, h => by
    simp only [ordm]
    rw [if_pos (h n (by omega)), ordm_0 (n := n) (fun k hk => h k (by omega))]
theorem ordm_1 {g : Nat → Int32} : ∀ {n : Nat}, ordm g n = 0 → ∀ k, k < n → g k ≤ 0
  | 0, _, k, hk => absurd hk (by omega)
  | n + 1, h, k, hk => by
    simp only [ordm] at h
    by_cases c : g n ≤ 0
    · rw [if_pos c] at h
      rcases Nat.lt_or_ge k n with y | y
      · exact ordm_1 h k y
      · rw [show k = n by omega]
        exact c
    · rw [if_neg c] at h
      omega
theorem ordm_n0 {T : Nat → Nat} {m : Nat} (hm : m ≤ 1000) (hT : ∀ k, k < m → T k < 64) : ordm (fun x => nI (cnt T x m)) 64 = 0 ↔ m = 0 := by
  constructor
  · intro h
    rcases Nat.eq_zero_or_pos m with y | y
    · exact y
    · have h1 := ordm_1 h (T 0) (hT 0 y)
      have h2 := cnt_lt (L := T) (l := T 0) y rfl
      have h3 := cnt_le T (T 0) m
      have h4 := (nI_z (show cnt T (T 0) m < 2 ^ 31 by omega)).mp h1
      omega
  · intro h
    subst h
    exact ordm_0 (fun k _ => by
      show nI 0 ≤ 0
      decide)
theorem j_choose {σ : St} (h : II σ) (a1 a2 a3 a4 : Int32) : JJ (f_PC_choose σ a1 a2 a3 a4) (fun σ1 => f_Mo_choose σ1 a1 a2 a3 a4) := by
  have h0 := h
  obtain ⟨n, S, LL, B, m, T, h⟩ := h
  have hI := h.1
  have hn := hI.1
  have h4 := hI.2.2.2.1
  have hcn := hI.2.1
  have hT := h.2.2.2.2.2.1
  have hout : (a1 < 1 ∨ ¬ a1 ≤ 6 ∨ a2 < 1 ∨ ¬ a2 ≤ 100 ∨ a3 < 1 ∨ ¬ a3 ≤ 15 ∨ a4 < 0 ∨ ¬ a4 ≤ 8) → JJ (f_PC_choose σ a1 a2 a3 a4) (fun σ1 => f_Mo_choose σ1 a1 a2 a3 a4) := fun hz => J_eq (r := -102) h0 (by
    unfold f_PC_choose
    by_cases z1 : a1 < 1 ∨ ¬ a1 ≤ 6
    · exact ok_b2e (isOut z1) (ok_f (by decide) (ok_some rfl))
    refine ok_b2e (isIn (fun y => z1 (Or.inl y)) (Decidable.of_not_not (fun y => z1 (Or.inr y)))) (ok_t rfl ?_)
    by_cases z2 : a2 < 1 ∨ ¬ a2 ≤ 100
    · exact ok_b2e (isOut z2) (ok_f (by decide) (ok_some rfl))
    refine ok_b2e (isIn (fun y => z2 (Or.inl y)) (Decidable.of_not_not (fun y => z2 (Or.inr y)))) (ok_t rfl ?_)
    by_cases z3 : a3 < 1 ∨ ¬ a3 ≤ 15
    · exact ok_b2e (isOut z3) (ok_f (by decide) (ok_some rfl))
    refine ok_b2e (isIn (fun y => z3 (Or.inl y)) (Decidable.of_not_not (fun y => z3 (Or.inr y)))) (ok_t rfl ?_)
    have z4 : a4 < 0 ∨ ¬ a4 ≤ 8 := by
      rcases hz with y | y | y | y | y | y | y
      · exact absurd (Or.inl y) z1
      · exact absurd (Or.inr y) z1
      · exact absurd (Or.inl y) z2
      · exact absurd (Or.inr y) z2
      · exact absurd (Or.inl y) z3
      · exact absurd (Or.inr y) z3
      · exact y
    exact ok_b2e (isOut z4) (ok_f (by decide) (ok_some rfl))) (by
    show ok (f_Mo_choose σ a1 a2 a3 a4) _
    unfold f_Mo_choose
    refine ok_if (fun _ => ok_some rfl) (fun z1 => ok_if (fun _ => ok_some rfl) (fun z2 => ok_if (fun _ => ok_some rfl) (fun z3 => ok_if (fun _ => ok_some rfl) (fun z4 => ok_if (fun _ => ok_some rfl) (fun z5 => ok_if (fun _ => ok_some rfl) (fun z6 => ok_if (fun _ => ok_some rfl) (fun z7 => ok_f ?_ (ok_some rfl))))))))
    rcases hz with y | y | y | y | y | y | y | y
    · exact absurd y z1
    · exact absurd (Int32.not_le.mp y) z2
    · exact absurd y z3
    · exact absurd (Int32.not_le.mp y) z4
    · exact absurd y z5
    · exact absurd (Int32.not_le.mp y) z6
    · exact absurd y z7
    · exact y)
  by_cases z1 : a1 < 1
  · exact hout (Or.inl z1)
  by_cases z2 : a1 ≤ 6
  rotate_left
  · exact hout (Or.inr (Or.inl z2))
  by_cases z3 : a2 < 1
  · exact hout (Or.inr (Or.inr (Or.inl z3)))
  by_cases z4 : a2 ≤ 100
  rotate_left
  · exact hout (Or.inr (Or.inr (Or.inr (Or.inl z4))))
  by_cases z5 : a3 < 1
  · exact hout (Or.inr (Or.inr (Or.inr (Or.inr (Or.inl z5)))))
  by_cases z6 : a3 ≤ 15
  rotate_left
  · exact hout (Or.inr (Or.inr (Or.inr (Or.inr (Or.inr (Or.inl z6))))))
  by_cases z7 : a4 < 0
  · exact hout (Or.inr (Or.inr (Or.inr (Or.inr (Or.inr (Or.inr (Or.inl z7)))))))
  by_cases z8 : a4 ≤ 8
  rotate_left
  · exact hout (Or.inr (Or.inr (Or.inr (Or.inr (Or.inr (Or.inr (Or.inr z8)))))))
  clear hout
  obtain ⟨t, t0, t1, rfl⟩ := ge1 z1
  obtain ⟨U, U0, U1, rfl⟩ := ge1 z3
  obtain ⟨l, l0, l1, rfl⟩ := ge1 z5
  obtain ⟨a, a0, rfl⟩ := nI_of z7
  have t6 := (nI_leI (b := 6) t0 (by omega)).mp z2
  have U6 := (nI_leI (b := 100) U0 (by omega)).mp z4
  have l6 := (nI_leI (b := 15) l0 (by omega)).mp z6
  have a8 := (nI_leI (b := 8) a0 (by omega)).mp z8
  have hp2 := Nat.two_pow_pos l
  have hpl : 2 ^ l ≤ 2 ^ 15 := Nat.pow_le_pow_right (by omega) l6
  have hm := hT.1.2.1
  have hTl : ∀ k, k < m → T k < 64 := fun k hk => (hT.1.2.2 k hk).2
  have hom := ordm_le (fun x => nI (cnt T x m)) 64
  have ho0 := ordm_n0 hm hTl
  unfold f_PC_choose
  refine ok_b2e (isIn z1 z2) (ok_t rfl (ok_b2e (isIn z3 z4) (ok_t rfl (ok_b2e (isIn z5 z6) (ok_t rfl (ok_b2e (isIn z7 z8) (ok_t rfl (ok_b2 (e_textDifferent hT.1) (fun σ9 x10 u => ?_)))))))))
  obtain ⟨u1, f9⟩ := u
  dsimp only at u1 f9
  subst u1
  have h9 := h.sc f9 (fun f i k z => by omega)
  have mo := fun (σ' : St) (hT' : TXr σ' m T) (e' : σ'.1 48 0 1 = nI n) => s_moChoose hT' e' hn U1 U6 t1 t6 l1 l6 a8
  rw [shl_1 (show l < 31 by omega)]
  by_cases hd : m = 0 ∨ 2 ^ l < ordm (fun x => nI (cnt T x m)) 64
  · have fin : ok (some (σ9, (-103 : Int32))) (fun o1 => ok (f_Mo_choose o1.1 (nI t) (nI U) (nI l) (nI a)) (fun o2 => o1.2 = o2.2 ∧ II o2.1)) := ok_some ((mo σ9 h9.2.2.2.2.2.1.2 h9.1.2.2.2.1).mono (fun o ho => ⟨(ho.1 hd).1.symm, (h9.sc (ho.1 hd).2 (fun f i k z => by omega)).ii⟩))
    refine ok_if (fun _ => fin) (fun e0 => ok_f ?_ fin)
    rcases hd with y | y
    · exact absurd (by rw [ho0.mpr y]; rfl) e0
    · exact nI_ge y (by omega)
  have hm1 : 1 ≤ m := by omega
  have hw : ordm (fun x => nI (cnt T x m)) 64 ≤ 2 ^ l := by omega
  refine ok_f (fun z => absurd (ho0.mp ((nI_eq (b := 0) (by omega) (by omega)).mp z)) (by omega)) (ok_t (nI_le hw (by omega)) ?_)
  rw [show σ9.1 0 0 1 = nI n from h9.1.2.2.1, show (12 : Int32) - nI n = nI (12 - n) from pk_sub (a := 12) hn]
  refine ok_if (fun d => ?_) (fun d => ?_)
  rotate_left
  · have d' : ¬ t ≤ 12 - n := fun z => d (nI_le z (by omega))
    exact ok_some ((mo σ9 h9.2.2.2.2.2.1.2 h9.1.2.2.2.1).mono (fun o ho => ⟨(ho.2.1 hm1 hw (by omega)).1.symm, (h9.sc (ho.2.1 hm1 hw (by omega)).2 (fun f i k z => by omega)).ii⟩))
  have d' := (nI_leI (by omega) (by omega)).mp d
  have hnt : n + t ≤ 12 := by omega
  refine ok_nm (fun x11 e11 => ?_)
  subst e11
  refine ok_b1 (s_choiceBegin h9.2.2.2.2.2.1.1 hm1 U1 U6 t1 t6) (fun σ12 v => ?_)
  obtain ⟨b1', b2', f12⟩ := v
  have hN := chN_of hm hm1 U1 U6 t1 t6 hTl
  obtain ⟨gg1, gg2, gg3, gg4⟩ := grpN U1 hm1 rfl
  have fa := f9.un f12
  refine ok_b2 (s_ch105 (σ := σ12) (n := n) (t := t) (fa.2.trans hcn) (by rw [fa.i (by omega)]; exact hI.2.2.1) hnt t6) (fun σ19 x20 v => ?_)
  obtain ⟨c1, c2, f19⟩ := v
  dsimp only at c1 c2 f19
  have fa' : fr (fun f i k => Ffi 29 0 f i k ∨ Fcb f i k) (upk σ t) (upk σ12 t) := ⟨fa.1, by show σ12.2.2.2 + t = σ.2.2.2 + t; rw [fa.2]⟩
  have fb := fa'.un f19
  generalize (m + U - 1) / U = G at *
  have b1t : chC (upk σ12 t) m U t G T := b1'
  have C19 : chC σ19 m U t G T := b1t.go (f19.fi (fun _ => by omega)) (f19.fi (fun _ => by omega))
  have g19 : gcC σ19 G (gc0 t G) := fun g hg => by
    rw [f19.i (by omega)]
    exact b2' g hg
  have M19 : MI σ19 := (show MI (upk σ t) from h.2.1).fr fb (fun f i k z => by omega)
  refine ok_b1 (s_settleC (a := a) (q := n) hN C19 g19 (fun g hg => gc0_lt t1 hg) ⟨M19.2, fun c hc => ⟨(c2 c hc).1, (c2 c hc).2.2⟩⟩ l1 l6 hw a8) (fun σ21 v => ok_some ?_)
  obtain ⟨w1, w2, f21⟩ := v
  have fc := fb.un f21
  show ok (f_Mo_choose σ21 (nI t) (nI U) (nI l) (nI a)) (fun o2 => nI n = o2.2 ∧ II o2.1)
  have T21 : TX σ21 m T := (show TX (upk σ t) m T from hT).fr fc (fun f i k z => by omega)
  refine (mo σ21 T21.2 (by rw [fc.i (by omega)]; exact h4)).mono (fun o ho => ?_)
  obtain ⟨r1, r2, r3, r4, r5, f30⟩ := ho.2.2 hm1 hw hnt
  have ff := fc.un f30
  obtain ⟨h1, h2, h3, h4', h5, h6, h7⟩ := h
  refine ⟨r1.symm, n + t, fun j => if n ≤ j then 64 else S j, fun j => if n ≤ j then fLL T (itr T m U t l (gc0 t G) a) m U l (j - n) else LL j, B, m, T, IC_more (ρ := upk σ t) hI ⟨rfl, rfl, rfl⟩ ff (fun f i k z => by omega) hnt ?_ ?_ r2 (fun j hj => ?_) (fun j j1 j2 => ?_), (show MI (upk σ t) from h2).fr ff (fun f i k z => by omega), (show CT (upk σ t) from h3).fr ff (fun f i k z => by omega), (show SS (upk σ t) B from h4').fr ff (fun f i k z => by omega), (show TT (upk σ t) from h5).fr ff (fun f i k z => by omega), T21.fr f30 (fun f i k z => by omega), Or.inr ⟨m, U, t, G, n, T, itr T m U t l (gc0 t G) a, hN, gg3, ?_, ?_, r3, r4, itr_lt t1 (fun g hg => gc0_lt t1 hg) a, Nat.le_refl _, fun c hc => ⟨?_, ?_⟩⟩⟩
  · show o.1.2.2.2 = n + t
    rw [ff.2]
    show σ.2.2.2 + t = n + t
    rw [hcn]
  · show o.1.1 0 0 1 = nI (n + t)
    rw [f30.i (by omega), f21.i (by omega)]
    exact c1
  · rw [if_neg (by omega), if_neg (by omega)]
    exact ⟨rfl, rfl⟩
  · obtain ⟨c, rfl⟩ : ∃ c, j = n + c := ⟨j - n, by omega⟩
    rw [if_pos (by omega), if_pos (by omega), Nat.add_sub_cancel_left]
    refine ⟨?_, by omega, (w2 c (by omega)).go (fun f u v => f30.fi (fun _ => by omega)), r5 c (by omega)⟩
    rw [f30.ri (fun _ => by omega), f21.ri (fun _ => by omega)]
    exact (c2 c (by omega)).2.1
  · exact (C19.go (f21.fi (fun _ => by omega)) (f21.fi (fun _ => by omega))).go (f30.fi (fun _ => by omega)) (f30.fi (fun _ => by omega))
  · intro g hg
    rw [f30.i (by omega)]
    exact w1 g hg
  · show (if n ≤ n + c then 64 else S (n + c)) = 64
    rw [if_pos (by omega)]
  · rw [f30.ri (fun _ => by omega), f21.ri (fun _ => by omega)]
    exact (c2 c hc).1
/-! the calls that may throw: what the class answers where it doesn't, and the reference's flag -/
theorem j_bit {σ : St} (h : II σ) (a1 : Int32) : (∃ x r σ', f_PC_isOutside σ a1 0 (σ.1 3 0 2 - 1) = some (σ, x) ∧ f_Mo_bit σ a1 = some (σ', r) ∧ II σ' ∧ ((x = 0 ∧ σ'.1 48 0 0 = 0 ∧ f_Stream_at σ a1 = some (σ, r)) ∨ (x = 1 ∧ σ'.1 48 0 0 = 1))) := by
  obtain ⟨n, S, LL, B, m, T, h⟩ := h
  obtain ⟨⟨hh, hB⟩, hR⟩ := h.2.2.2.1
  have hl := hB.2.2.2.1
  have h01 : ∀ v, (sI σ 48 0 0 v).1 48 0 12 - (sI σ 48 0 0 v).1 48 0 11 = nI B.length := fun v => by
    rw [sI_k (by omega), sI_k (by omega)]
    exact hR.len
  have hii : ∀ {σ' : St}, fr (fun f _ k => f = 48 ∧ k = 0) σ σ' → II σ' := fun hf => (h.sc hf (fun f i k z => by omega)).ii
  rw [hB.2.2.1]
  rcases ixC a1 (show B.length < 2 ^ 31 by omega) with hx | ⟨i, hi, rfl⟩
  · refine ⟨1, 0, sI (sI σ 48 0 0 0) 48 0 0 1, isOut (notIn (by omega) hx), ?_, hii ((fr_sI ⟨rfl, rfl⟩).tr (fr_sI ⟨rfl, rfl⟩)), Or.inr ⟨rfl, by rw [sI_at]⟩⟩
    unfold f_Mo_bit
    rw [nm_eq, h01]
    by_cases y : a1 < 0
    · rw [if_pos y]
      rfl
    · rw [if_neg y, if_neg (Int32.not_lt.mpr (hx.resolve_left y))]
      rfl
  · obtain ⟨f, r1, r2, r3, r4, r5⟩ := hR
    refine ⟨0, b2i (B.getD i false), sI σ 48 0 0 0, isIn0 hi (by omega), ?_, hii (fr_sI ⟨rfl, rfl⟩), Or.inl ⟨rfl, by rw [sI_at], ?_⟩⟩
    · unfold f_Mo_bit
      rw [nm_eq, h01, if_neg (nI_pos (by omega)), if_pos (nI_lt hi (by omega)), sI_k (by omega), r1, nI_add, gd_t (nI_ib (by omega) (by omega)), nI_cl (by omega), sI_f (by omega), r5 i hi]
    · have h2 := hB.2.1
      rw [e_at hB.1 (by omega), hB.2.2.2.2 i hi]
theorem j_symbol {σ : St} (h : II σ) (a1 : Int32) : (∃ x r σ', f_PC_isOutside σ a1 0 (σ.1 26 0 1 - 1) = some (σ, x) ∧ f_Mo_symbol σ a1 = some (σ', r) ∧ II σ' ∧ ((x = 0 ∧ σ'.1 48 0 0 = 0 ∧ ib a1 1000 ∧ σ.1 27 0 a1.toNatClampNeg = r) ∨ (x = 1 ∧ σ'.1 48 0 0 = 1))) := by
  obtain ⟨n, S, LL, B, m, T, h⟩ := h
  obtain ⟨⟨t1, t2, t3⟩, ⟨v1, v2, v3⟩⟩ := h.2.2.2.2.2.1
  have hii : ∀ {σ' : St}, fr (fun f _ k => f = 48 ∧ k = 0) σ σ' → II σ' := fun hf => (h.sc hf (fun f i k z => by omega)).ii
  rw [t1]
  rcases ixC a1 (show m < 2 ^ 31 by omega) with hx | ⟨i, hi, rfl⟩
  · refine ⟨1, 0, sI (sI σ 48 0 0 0) 48 0 0 1, isOut (notIn (by omega) hx), ?_, hii ((fr_sI ⟨rfl, rfl⟩).tr (fr_sI ⟨rfl, rfl⟩)), Or.inr ⟨rfl, by rw [sI_at]⟩⟩
    unfold f_Mo_symbol
    rw [nm_eq, sI_k (by omega), v1]
    by_cases y : a1 < 0
    · rw [if_pos y]
      rfl
    · rw [if_neg y, if_neg (Int32.not_lt.mpr (hx.resolve_left y))]
      rfl
  · refine ⟨0, nI (T i), sI σ 48 0 0 0, isIn0 hi (by omega), ?_, hii (fr_sI ⟨rfl, rfl⟩), Or.inl ⟨rfl, by rw [sI_at], nI_ib (by omega) (by omega), ?_⟩⟩
    · unfold f_Mo_symbol
      rw [nm_eq, sI_k (by omega), v1, if_neg (nI_pos (by omega)), if_pos (nI_lt hi (by omega)), gd_t (nI_ib (by omega) (by omega)), nI_cl (by omega), sI_f (by omega), (v3 i hi).1]
    · rw [nI_cl (by omega), (t3 i hi).1]
theorem j_entry {σ : St} (h : II σ) (a1 a2 : Int32) : (∃ r σ', f_Mo_entry σ a1 a2 = some (σ', r) ∧ II σ' ∧ ((∃ x, f_PC_isOutside σ a1 0 (σ.1 19 0 1 - 1) = some (σ, x) ∧ ((x = 0 ∧ ∃ y, f_PC_isOutside σ a2 0 2 = some (σ, y) ∧ ((y = 0 ∧ σ'.1 48 0 0 = 0 ∧ f_Table_tell σ a1 a2 = some (σ, r)) ∨ (y = 1 ∧ σ'.1 48 0 0 = 1))) ∨ (x = 1 ∧ σ'.1 48 0 0 = 1))))) := by
  obtain ⟨n, S, LL, B, m, T, h⟩ := h
  have hTT := h.2.2.2.2.1
  have hii : ∀ {σ' : St}, fr (fun f _ k => f = 48 ∧ k = 0) σ σ' → II σ' := fun hf => (h.sc hf (fun f i k z => by omega)).ii
  have thr : ∀ {E : Nat}, σ.1 48 0 20 = nI E → ((a1 < 0 ∨ nI E ≤ a1) ∨ a2 < 0 ∨ ¬ a2 ≤ 2) → f_Mo_entry σ a1 a2 = some (sI (sI σ 48 0 0 0) 48 0 0 1, 0) := fun {E} e20 hz => by
    unfold f_Mo_entry
    rw [nm_eq, sI_k (by omega), e20]
    by_cases y1 : a1 < 0
    · rw [if_pos y1]
      rfl
    rw [if_neg y1]
    by_cases y2 : nI E ≤ a1
    · rw [if_pos y2]
      rfl
    rw [if_neg y2]
    by_cases y3 : a2 < 0
    · rw [if_pos y3]
      rfl
    rw [if_neg y3]
    have y4 : ¬ a2 ≤ 2 := by
      rcases hz with (z | z) | z | z
      · exact absurd z y1
      · exact absurd z y2
      · exact absurd z y3
      · exact z
    rw [if_neg y4]
    rfl
  have f2 : fr (fun f _ k => f = 48 ∧ k = 0) σ (sI (sI σ 48 0 0 0) 48 0 0 1) := (fr_sI ⟨rfl, rfl⟩).tr (fr_sI ⟨rfl, rfl⟩)
  have main : ∀ {E : Nat}, E < 2 ^ 30 → σ.1 19 0 1 = nI E → σ.1 48 0 20 = nI E → (∀ i w, i < E → w ≤ 2 → i < 80000 ∧ ok (f_Table_tell σ (nI i) (nI w)) (fun o => o.1 = σ ∧ o.2 = σ.1 (61 + w) 0 i)) → (∃ r σ', f_Mo_entry σ a1 a2 = some (σ', r) ∧ II σ' ∧ ((∃ x, f_PC_isOutside σ a1 0 (σ.1 19 0 1 - 1) = some (σ, x) ∧ ((x = 0 ∧ ∃ y, f_PC_isOutside σ a2 0 2 = some (σ, y) ∧ ((y = 0 ∧ σ'.1 48 0 0 = 0 ∧ f_Table_tell σ a1 a2 = some (σ, r)) ∨ (y = 1 ∧ σ'.1 48 0 0 = 1))) ∨ (x = 1 ∧ σ'.1 48 0 0 = 1))))) := fun {E} hE e19 e20 hw => by
    rw [e19]
    rcases ixC a1 (show E < 2 ^ 31 by omega) with hx | ⟨i, hi, rfl⟩
    · exact ⟨0, _, thr e20 (Or.inl hx), hii f2, 1, isOut (notIn hE hx), Or.inr ⟨rfl, by rw [sI_at]⟩⟩
    by_cases y3 : a2 < 0
    · exact ⟨0, _, thr e20 (Or.inr (Or.inl y3)), hii f2, 0, isIn0 hi hE, Or.inl ⟨rfl, 1, isOut (Or.inl y3), Or.inr ⟨rfl, by rw [sI_at]⟩⟩⟩
    by_cases y4 : a2 ≤ 2
    rotate_left
    · exact ⟨0, _, thr e20 (Or.inr (Or.inr y4)), hii f2, 0, isIn0 hi hE, Or.inl ⟨rfl, 1, isOut (Or.inr y4), Or.inr ⟨rfl, by rw [sI_at]⟩⟩⟩
    obtain ⟨w, w0, rfl⟩ := nI_of y3
    have w2 := (nI_leI (b := 2) w0 (by omega)).mp y4
    obtain ⟨i8, ⟨o1, o2⟩, ho, q1, q2⟩ := hw i w hi w2
    dsimp only at q1 q2
    subst q1
    refine ⟨o1.1 (61 + w) 0 i, sI o1 48 0 0 0, ?_, hii (fr_sI ⟨rfl, rfl⟩), 0, isIn0 hi hE, Or.inl ⟨rfl, 0, isIn y3 y4, Or.inl ⟨rfl, by rw [sI_at], by rw [ho, q2]⟩⟩⟩
    unfold f_Mo_entry
    rw [nm_eq, sI_k (by omega), e20, if_neg (nI_pos (by omega)), if_neg (nI_ge hi (by omega)), if_neg y3, if_pos y4, nI_cl (show i < 2 ^ 31 by omega)]
    rcases (show w = 0 ∨ w = 1 ∨ w = 2 by omega) with rfl | rfl | rfl
    · rw [if_pos (show nI 0 = 0 from rfl), gd_t (nI_ib i8 (by omega)), sI_f (by omega)]
    · rw [if_neg (by decide), if_pos (show nI 1 = 1 from rfl), gd_t (nI_ib i8 (by omega)), sI_f (by omega)]
    · rw [if_neg (by decide), if_neg (by decide), gd_t (nI_ib i8 (by omega)), sI_f (by omega)]
  rcases hTT with ⟨e1, e2⟩ | ⟨L, s, r, hT, hR, hL, hs6, hr1, hr, hf⟩
  · exact main (E := 0) (by omega) e1 e2 (fun i w hi => absurd hi (by omega))
  · have hG := Gs_le (L := L) (s := s) (r := r) hL (2 ^ r)
    have hpr : 2 ^ r ≤ 2 ^ 9 := Nat.pow_le_pow_right (by omega) hr
    have hpw : 2 ^ r * 2 ^ (15 - r) = 2 ^ 15 := by rw [← Nat.pow_add, show r + (15 - r) = 15 by omega]
    rw [hpw] at hG
    have e19 : σ.1 19 0 1 = nI (2 ^ r + Gs L s r (2 ^ r)) := by
      obtain ⟨N, Pf, Pb, _, t2, _⟩ := hT
      exact t2
    exact main (by omega) e19 hR.1 (fun i w hi hw => ⟨by omega, tell_same hT hR hL hs6 hr1 hr hf hw hi⟩)
