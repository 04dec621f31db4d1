/-! ===== write, class ===== -/
theorem s_selAppend {σ : St} {h z0 t c : Nat} {R : Nat → Nat} {B : List Bool} (ht : t ≤ 6) (hP : PM t R) (hc : c < t) (hS : SEc σ 0 t R) (hA : AP h z0 σ B σ) : ok (f_Selectors_append σ 0 (nI c)) (fun σ1 => SEc σ1 0 t (mv R (fp R c t 0)) ∧ AP h z0 σ1 (B ++ (ones (fp R c t 0) ++ [false])) σ1 ∧ fr (fun f i _ => f = 3 ∨ f = 4 ∨ (f = 40 ∧ i = 0)) σ σ1) := by
  obtain ⟨p1, p2, p3⟩ := fp_ok hP hc
  generalize fp R c t 0 = P at p1 p2 p3 ⊢
  unfold f_Selectors_append
  refine ok_b2 (Q := fun p => p.2 = nI P ∧ AP h z0 σ (B ++ ones P) p.1) (ok_up P (fun k p => p.2 = nI k ∧ AP h z0 σ (B ++ ones k) p.1) ?_ ?_ 0 _ (Nat.zero_le _) ⟨rfl, by simp only [ones, List.append_nil]; exact hA⟩) (fun σ3 x4 h3 => ?_)
  · rintro k ⟨σ2, x⟩ hk ⟨rfl, q1⟩
    dsimp only at q1 ⊢
    have f2 := q1.go
    have hR := hP.1 k (by omega)
    unfold lb_Selectors_append_2
    rw [show σ2.1 39 0 1 = nI t by rw [f2.i (by omega)]; exact hS.1, show nI t - 1 = nI (t - 1) from pk_sub (b := 1) (by omega), nI_cl (show k < 2 ^ 31 by omega), show σ2.1 40 0 k = nI (R k) by rw [f2.i (by omega)]; exact hS.2 k (by omega)]
    refine ok_f (nI_ge (by omega) (by omega)) (ok_gd (nI_ib (by omega) (by omega)) (ok_f (fun z => p3 k hk ((nI_eq (by omega) (by omega)).mp z)) (ok_b1 (q1.append true) (fun σ1 h1 => ok_nm (fun x2 e2 => ok_some ⟨by dsimp only; rw [e2, nI_1], ?_⟩)))))
    rw [List.append_assoc] at h1
    exact h1
  · rintro ⟨σ2, x⟩ ⟨rfl, q1⟩
    dsimp only at q1 ⊢
    have f2 := q1.go
    have hR := hP.1 P p1
    unfold lb_Selectors_append_2
    rw [show σ2.1 39 0 1 = nI t by rw [f2.i (by omega)]; exact hS.1, show nI t - 1 = nI (t - 1) from pk_sub (b := 1) (by omega), nI_cl (show P < 2 ^ 31 by omega), show σ2.1 40 0 P = nI (R P) by rw [f2.i (by omega)]; exact hS.2 P p1, p2]
    exact ok_if (fun d => ok_some ⟨rfl, q1⟩) (fun d => ok_gd (nI_ib (by omega) (by omega)) (ok_t rfl (ok_some ⟨rfl, q1⟩)))
  · obtain ⟨q0, q1⟩ := h3
    dsimp only at q0 q1
    subst q0
    refine ok_b1 (q1.append false) (fun σ5 h5 => ?_)
    have f5 := h5.go
    refine ok_b1 (s_moveAhead ht p1 (fun k hk => by rw [f5.i (by omega)]; exact hS.2 k hk)) (fun σ6 h6 => ok_some ⟨⟨?_, h6.1⟩, ?_, ?_⟩)
    · rw [h6.2.i (by omega), f5.i (by omega)]
      exact hS.1
    · have := h5.re (σ1 := σ6) (h6.2.fi (fun _ => by omega)) (h6.2.fi (fun _ => by omega))
      rw [List.append_assoc] at this
      exact this
    · exact (f5.mono (fun f i k z => by omega)).tr (h6.2.mono (fun f i k z => by omega))
abbrev Fwa : Nat → Nat → Nat → Prop := fun f i k => f = 3 ∨ f = 4 ∨ (i = 0 ∧ ((f = 39 ∧ k = 1) ∨ f = 40))
theorem s_cAppend71 {σ : St} {h z0 n U t G q g : Nat} {T gc : Nat → Nat} {LL : Nat → Nat → Nat} {B : List Bool} (hN : chN n U t G T) (hC : chC σ n U t G T) (hg : g < G) (hgl : gc g < t) (hk : kK σ q t LL) (hw : ∀ i, i < n → cwd LL T gc U i) (hA : AP h z0 σ (B ++ twB LL T gc U (g * U)) σ) : ok (lpE (fun p => lb_Choice_append_71 (nI g) (q + gc g) p.1 p.2) (σ, nI (g * U))) (fun p => AP h z0 σ (B ++ twB LL T gc U (min ((g + 1) * U) n)) p.1) := by
  have hN0 := hN
  obtain ⟨n1, n2, n3, n4, n5, n6, n7, n8, n9⟩ := hN
  obtain ⟨b1', b2'⟩ := grpB hg n6 n3
  have b3' := n8 g hg
  obtain ⟨k1, k2⟩ := hk (gc g) hgl
  refine ok_up (min ((g + 1) * U) n) (fun i p => p.2 = nI i ∧ g * U ≤ i ∧ AP h z0 σ (B ++ twB LL T gc U i) p.1) ?_ ?_ (g * U) _ (by omega) ⟨rfl, Nat.le_refl _, hA⟩
  · rintro i ⟨σ2, x⟩ hi ⟨rfl, q0, q1⟩
    dsimp only at q0 q1 ⊢
    have f2 := q1.go
    have hC' : chC σ2 n U t G T := hC.go (f2.fi (fun _ => by omega)) (f2.fi (fun _ => by omega))
    have hT := n9 i (by omega)
    have hd : i / U = g := dvg q0 (by omega)
    have hwi : knd (LL (gc (i / U))) 64 ≠ 4 ∧ 1 ≤ LL (gc (i / U)) (T i) := hw i (by omega)
    rw [hd] at hwi
    obtain ⟨l1, l2⟩ := k2.1.2.2 (T i) hT
    obtain ⟨w1, w2⟩ := k2.2.2.1 (T i) hT hwi.2
    unfold lb_Choice_append_71
    refine ok_b2e (e_endOf hC' hN0 hg) ?_
    rw [nI_cl (show i < 2 ^ 31 by omega), hC'.2.2.2.2 i (by omega), nI_cl (show T i < 2 ^ 31 by omega), show σ2.1 43 (q + gc g) (T i) = nI (wrd (LL (gc g)) 64 (T i)) by rw [f2.i (by omega)]; exact w1, show σ2.1 42 (q + gc g) (T i) = nI (LL (gc g) (T i)) by rw [f2.i (by omega)]; exact l1]
    refine ok_f (nI_ge hi (by omega)) (ok_gd (nI_ib (by omega) (by omega)) (ok_gd (nI_ib hT (by omega)) (ok_gd (nI_ib (by omega) (by omega)) (ok_gd (nI_ib hT (by omega)) (ok_b1 (q1.number (nI (wrd (LL (gc g)) 64 (T i))) (n := LL (gc g) (T i)) (by omega)) (fun σ10 h10 => ok_nm (fun x11 e11 => ok_some ⟨by dsimp only; rw [e11, nI_1], by omega, ?_⟩)))))))
    simp only [twB]
    rw [hd, ← List.append_assoc]
    exact h10
  · rintro ⟨σ2, x⟩ ⟨rfl, q0, q1⟩
    dsimp only at q0 q1 ⊢
    have f2 := q1.go
    have hC' : chC σ2 n U t G T := hC.go (f2.fi (fun _ => by omega)) (f2.fi (fun _ => by omega))
    unfold lb_Choice_append_71
    exact ok_b2e (e_endOf hC' hN0 hg) (ok_t (nI_le (Nat.le_refl _) (by omega)) (ok_some q1))
theorem s_choiceAppend {σ : St} {h z0 n U t G q : Nat} {T gc : Nat → Nat} {LL : Nat → Nat → Nat} {B : List Bool} (hN : chN n U t G T) (hC : chC σ n U t G T) (hgc : gcC σ G gc) (hlt : ∀ g, g < G → gc g < t) (hk : kK σ q t LL) (hw : ∀ i, i < n → cwd LL T gc U i) (hA : AP h z0 σ B σ) : ok (f_Choice_append σ) (fun σ1 => AP h z0 σ1 (B ++ (slB t gc G ++ twB LL T gc U n)) σ1 ∧ fr Fwa σ σ1) := by
  have hN0 := hN
  obtain ⟨n1, n2, n3, n4, n5, n6, n7, n8, n9⟩ := hN
  unfold f_Choice_append
  rw [hC.2.2.2.1]
  refine ok_b1 (s_selBegin n5) (fun σ1 h1 => ?_)
  obtain ⟨s1, f1⟩ := h1
  refine ok_b2 (Q := fun p => AP h z0 p.1 (B ++ slB t gc G) p.1 ∧ fr Fwa σ p.1) (ok_up G (fun g p => p.2 = nI g ∧ SEc p.1 0 t (slR t gc g) ∧ AP h z0 p.1 (B ++ slB t gc g) p.1 ∧ fr Fwa σ p.1) ?_ ?_ 0 _ (Nat.zero_le _) ⟨rfl, s1, ?_, f1.mono (fun f i k z => by omega)⟩) ?_
  · rintro g ⟨σ2, x⟩ hg ⟨rfl, q1, q2, q3⟩
    dsimp only at q1 q2 q3 ⊢
    unfold lb_Choice_append_13
    rw [show σ2.1 30 0 3 = nI G by rw [q3.i (by omega)]; exact hC.2.2.1, nI_cl (show g < 2 ^ 31 by omega), show σ2.1 32 0 g = nI (gc g) by rw [q3.i (by omega)]; exact hgc g hg]
    refine ok_f (nI_ge hg (by omega)) (ok_gd (nI_ib (by omega) (by omega)) (ok_b1 (s_selAppend n5 (slR_ok hlt g (by omega)) (hlt g hg) q1 q2) (fun σ3 h3 => ok_nm (fun x3 e3 => ok_some ⟨by dsimp only; rw [e3, nI_1], h3.1, ?_, q3.tr (h3.2.2.mono (fun f i k z => by omega))⟩))))
    have := h3.2.1
    rw [List.append_assoc] at this
    exact this
  · rintro ⟨σ2, x⟩ ⟨rfl, q1, q2, q3⟩
    dsimp only at q1 q2 q3 ⊢
    unfold lb_Choice_append_13
    rw [show σ2.1 30 0 3 = nI G by rw [q3.i (by omega)]; exact hC.2.2.1]
    exact ok_t (nI_le (Nat.le_refl _) (by omega)) (ok_some ⟨q2, q3⟩)
  · dsimp only
    simp only [slB, List.append_nil]
    exact hA.re (f1.fi (fun _ => by omega)) (f1.fi (fun _ => by omega))
  · rintro σ4 x5 ⟨q2, q3⟩
    dsimp only at q2 q3
    refine ok_b2 (Q := fun p => AP h z0 p.1 (B ++ (slB t gc G ++ twB LL T gc U n)) p.1 ∧ fr Fwa σ p.1) (ok_up G (fun g p => p.2 = nI g ∧ AP h z0 p.1 (B ++ slB t gc G ++ twB LL T gc U (min (g * U) n)) p.1 ∧ fr Fwa σ p.1) ?_ ?_ 0 _ (Nat.zero_le _) ⟨rfl, ?_, q3⟩) (fun σ15 x16 hq => ok_some hq)
    · rintro g ⟨σ2, x⟩ hg ⟨rfl, r2, r3⟩
      dsimp only at r2 r3 ⊢
      obtain ⟨b1', b2'⟩ := grpB hg n6 n3
      have b3' := n8 g hg
      have hgl := hlt g hg
      rw [Nat.min_eq_left (by omega)] at r2
      have hC' : chC σ2 n U t G T := hC.go (r3.fi (fun _ => by omega)) (r3.fi (fun _ => by omega))
      have hk' : kK σ2 q t LL := hk.go (r3.ri (fun _ => by omega)) (fun f i _ _ _ _ => r3.fi (fun _ => by omega))
      unfold lb_Choice_append_43
      rw [hC'.2.2.1, nI_cl (show g < 2 ^ 31 by omega), show σ2.1 32 0 g = nI (gc g) by rw [r3.i (by omega)]; exact hgc g hg, nI_cl (show gc g < 2 ^ 31 by omega), hC'.2.1, pk_mul]
      refine ok_f (nI_ge hg (by omega)) (ok_gd (nI_ib (by omega) (by omega)) (ok_gd (nI_ib (by omega) (by omega)) (ok_on (hk' (gc g) hgl).1 (ok_nm (fun x7 e7 => ?_)))))
      subst e7
      refine ok_b2 (s_cAppend71 hN0 hC' hg hgl hk' hw r2) (fun σ12 x13 h12 => ok_nm (fun x14 e14 => ok_some ⟨by dsimp only; rw [e14, nI_1], ?_, r3.tr (h12.go.mono (fun f i k z => by omega))⟩))
      exact h12.re rfl rfl
    · rintro ⟨σ2, x⟩ ⟨rfl, r2, r3⟩
      dsimp only at r2 r3 ⊢
      rw [Nat.min_eq_right n7, List.append_assoc] at r2
      unfold lb_Choice_append_43
      rw [show σ2.1 30 0 3 = nI G by rw [r3.i (by omega)]; exact hC.2.2.1]
      exact ok_t (nI_le (Nat.le_refl _) (by omega)) (ok_some ⟨r2, r3⟩)
    · dsimp only
      rw [Nat.zero_mul, Nat.zero_min]
      simp only [twB, List.append_nil]
      exact q2
/-! ===== write, reference ===== -/
def kR (σ : St) (q t : Nat) (LL : Nat → Nat → Nat) : Prop := ∀ c, c < t → LR σ (q + c) 64 (LL c)
theorem kR.go {σ σ1 : St} {q t : Nat} {LL : Nat → Nat → Nat} (h : kR σ q t LL) (h1 : σ1.1 49 0 = σ.1 49 0) (h2 : σ1.1 50 0 = σ.1 50 0) : kR σ1 q t LL := fun c hc => (h c hc).go h1 h2
theorem s_w15 {σ : St} {n U t G q : Nat} {T gc : Nat → Nat} {LL : Nat → Nat → Nat} (hN : chN n U t G T) (hC : chR σ n U t G q T) (hgc : gcR σ G gc) (hlt : ∀ g, g < G → gc g < t) (hk : kR σ q t LL) : ok (lpE (fun p => lb_Mo_write_15 p.1 p.2.1 p.2.2) (σ, 0, 0)) (fun z => match z with | .inl p => p.1 = σ ∧ p.2.1 = nI (twB LL T gc U n).length ∧ ∀ i, i < n → cwd LL T gc U i | .inr o => o = (σ, -103) ∧ ¬ ∀ i, i < n → cwd LL T gc U i) := by
  obtain ⟨n1, n2, n3, n4, n5, n6, n7, n8, n9⟩ := hN
  refine ok_up n (fun k p => p = (σ, nI (twB LL T gc U k).length, nI k) ∧ ∀ i, i < k → cwd LL T gc U i) ?_ ?_ 0 _ (Nat.zero_le _) ⟨rfl, fun i hi => absurd hi (by omega)⟩
  · rintro k _ hkn ⟨rfl, q1⟩
    dsimp only
    have hT := n9 k hkn
    have hkU : k / U < G := by
      rw [Nat.div_lt_iff_lt_mul (by omega)]
      omega
    have hgl := hlt _ hkU
    have hL := hk _ hgl
    have h15 := (hL.2.2.2 (T k) hT).2
    have hkd := knd_lt (LL (gc (k / U))) 64
    unfold lb_Mo_write_15
    rw [hC.1, hC.2.1, nI_div (by omega) (by omega) (by omega), nI_cl (show k / U < 2 ^ 31 by omega), hC.2.2.2.2.1, hgc _ hkU, nI_add]
    refine ok_f (nI_ge hkn (by omega)) (ok_gd (nI_ne0 (by omega) (by omega)) (ok_gd (nI_ib (by omega) (by omega)) (ok_nm (fun x1 e1 => ?_))))
    subst e1
    refine ok_b2 (e_moKind hL) (fun σ2 x3 h2 => ?_)
    cases h2
    refine ok_if (fun d => ?_) (fun d => ?_)
    · have d' := (nI_eq (b := 4) (by omega) (by omega)).mp d
      exact ok_some ⟨rfl, fun z => (z k hkn).1 d'⟩
    · have d' : ¬ knd (LL (gc (k / U))) 64 = 4 := fun z => d (by rw [z]; rfl)
      rw [nI_cl (show k < 2 ^ 31 by omega), hC.2.2.2.2.2 k hkn]
      refine ok_gd (nI_ib (by omega) (by omega)) (ok_b2e (e_lengthOf hL hT) (ok_if (fun e => ?_) (fun e => ?_)))
      · have e' := (nI_eq (b := 0) (by omega) (by omega)).mp e
        exact ok_some ⟨rfl, fun z => absurd (z k hkn).2 (by omega)⟩
      · have e' : ¬ LL (gc (k / U)) (T k) = 0 := fun z => e (by rw [z]; rfl)
        rw [hC.2.2.2.2.2 k hkn]
        refine ok_gd (nI_ib (by omega) (by omega)) (ok_b2e (e_lengthOf hL hT) ?_)
        rw [nI_add, nI_1]
        refine ok_nm (fun x8 e8 => ok_nm (fun x9 e9 => ok_some ⟨?_, fun i hi => ?_⟩))
        · rw [e8, e9]
          simp only [twB, List.length_append, bitsOf_len]
        · rcases Nat.lt_or_ge i k with y | y
          · exact q1 i y
          · rw [show i = k by omega]
            exact ⟨d', by omega⟩
  · rintro _ ⟨rfl, q1⟩
    dsimp only
    unfold lb_Mo_write_15
    rw [hC.1]
    exact ok_t (nI_le (Nat.le_refl _) (by omega)) (ok_some ⟨rfl, rfl, q1⟩)
theorem s_w114 {σ : St} {t G g : Nat} {gc R : Nat → Nat} {v1 v2 : Int32} (ht : t ≤ 6) (hG : G ≤ 1000) (hgc : gcR σ G gc) (hP : PM t R) (hS : SEr σ t R) (hg : g < G) (hgl : gc g < t) : ok (lpE (fun p => lb_Mo_write_114 v1 v2 (nI g) p.1 p.2) (σ, 0)) (fun p => p = (σ, nI (fp R (gc g) t 0))) := by
  obtain ⟨p1, p2, p3⟩ := fp_ok hP hgl
  generalize fp R (gc g) t 0 = P at p1 p2 p3 ⊢
  refine ok_up P (fun k p => p = (σ, nI k)) ?_ ?_ 0 _ (Nat.zero_le _) rfl
  · rintro k _ hk rfl
    dsimp only
    have := hP.1 k (by omega)
    unfold lb_Mo_write_114
    rw [nI_cl (show k < 2 ^ 31 by omega), nI_cl (show g < 2 ^ 31 by omega), hS k (by omega), hgc g hg]
    exact ok_gd (nI_ib (by omega) (by omega)) (ok_gd (nI_ib (by omega) (by omega)) (ok_f (fun z => p3 k hk ((nI_eq (by omega) (by omega)).mp z)) (ok_nm (fun x e => ok_some (by rw [e, nI_1])))))
  · rintro _ rfl
    dsimp only
    unfold lb_Mo_write_114
    rw [nI_cl (show P < 2 ^ 31 by omega), nI_cl (show g < 2 ^ 31 by omega), hS P p1, hgc g hg, p2]
    exact ok_gd (nI_ib (by omega) (by omega)) (ok_gd (nI_ib (by omega) (by omega)) (ok_t rfl (ok_some rfl)))
abbrev Fwr : Nat → Nat → Nat → Prop := fun f i k => f = 67 ∨ Fm f i k
/-- the first pass: only counts -/
theorem s_w103a {σ : St} {n U t G q W : Nat} {T gc : Nat → Nat} (hN : chN n U t G T) (hC : chR σ n U t G q T) (hgc : gcR σ G gc) (hlt : ∀ g, g < G → gc g < t) (hS : SEr σ t (fun p => p)) : ok (lpE (fun p => lb_Mo_write_103 0 p.1 p.2.1 p.2.2) (σ, nI W, 0)) (fun p => p.2.1 = nI (W + (slB t gc G).length) ∧ fr (Ffi 67 0) σ p.1) := by
  obtain ⟨n1, n2, n3, n4, n5, n6, n7, n8, n9⟩ := hN
  refine ok_up G (fun g p => p.2.2 = nI g ∧ p.2.1 = nI (W + (slB t gc g).length) ∧ SEr p.1 t (slR t gc g) ∧ fr (Ffi 67 0) σ p.1) ?_ ?_ 0 _ (Nat.zero_le _) ⟨rfl, rfl, hS, fr.rf⟩
  · rintro g ⟨σ2, x1, x2⟩ hg ⟨q0, q1, q2, q3⟩
    dsimp only at q0 q1 q2 q3 ⊢
    subst q0
    subst q1
    unfold lb_Mo_write_103
    rw [show σ2.1 48 0 26 = nI G by rw [q3.i (by omega)]; exact hC.2.2.1]
    refine ok_f (nI_ge hg (by omega)) (ok_b2 (s_w114 n5 n6 (fun g' hg' => by rw [q3.i (by omega)]; exact hgc g' hg') (slR_ok hlt g (by omega)) q2 hg (hlt g hg)) (fun σ15 x16 h15 => ?_))
    cases h15
    obtain ⟨y1, y2, y3⟩ := slp_ok hlt hg
    have hsp : slp t gc g = fp (slR t gc g) (gc g) t 0 := rfl
    refine ok_b2 (s_moFront n5 y1 q2) (fun σ17 x18 h17 => ok_t rfl ?_)
    rw [nI_1, nI_add]
    refine ok_nm (fun x25 e25 => ok_nm (fun x26 e26 => ok_some ⟨by dsimp only; rw [e26, nI_1], ?_, h17.2.1, q3.tr h17.2.2⟩))
    dsimp only
    rw [e25]
    simp only [slB, List.length_append, List.length_singleton, ones_len]
    exact congrArg nI (by omega)
  · rintro ⟨σ2, x1, x2⟩ ⟨q0, q1, q2, q3⟩
    dsimp only at q0 q1 q2 q3 ⊢
    subst q0
    unfold lb_Mo_write_103
    rw [show σ2.1 48 0 26 = nI G by rw [q3.i (by omega)]; exact hC.2.2.1]
    exact ok_t (nI_le (Nat.le_refl _) (by omega)) (ok_some ⟨q1, q3⟩)
theorem bits11 : bitsOf 1 1 = [true] := by
  simp only [bitsOf, bt_1]
  rfl
/-- the second pass: puts -/
theorem s_w103b {σ : St} {n U t G q : Nat} {T gc : Nat → Nat} {B : List Bool} {v1 : Int32} (hN : chN n U t G T) (hC : chR σ n U t G q T) (hgc : gcR σ G gc) (hlt : ∀ g, g < G → gc g < t) (hS : SEr σ t (fun p => p)) (hB : SR σ B) (hz : B.length + (slB t gc G).length ≤ 20000) : ok (lpE (fun p => lb_Mo_write_103 (nI 1) p.1 p.2.1 p.2.2) (σ, v1, 0)) (fun p => p.2.1 = v1 ∧ SR p.1 (B ++ slB t gc G) ∧ fr Fwr σ p.1) := by
  obtain ⟨n1, n2, n3, n4, n5, n6, n7, n8, n9⟩ := hN
  refine ok_up G (fun g p => p.2.2 = nI g ∧ p.2.1 = v1 ∧ SEr p.1 t (slR t gc g) ∧ SR p.1 (B ++ slB t gc g) ∧ fr Fwr σ p.1) ?_ ?_ 0 _ (Nat.zero_le _) ⟨rfl, rfl, hS, by simp only [slB, List.append_nil]; exact hB, fr.rf⟩
  · rintro g ⟨σ2, x1, x2⟩ hg ⟨q0, q1, q2, q4, q3⟩
    dsimp only at q0 q1 q2 q3 q4 ⊢
    subst q0
    subst q1
    have hpre := slB_pre t gc (show g + 1 ≤ G by omega)
    have hle : (slB t gc (g + 1)).length = (slB t gc g).length + slp t gc g + 1 := by simp only [slB, List.length_append, List.length_singleton, ones_len]; omega
    unfold lb_Mo_write_103
    rw [show σ2.1 48 0 26 = nI G by rw [q3.i (by omega)]; exact hC.2.2.1]
    refine ok_f (nI_ge hg (by omega)) (ok_b2 (s_w114 n5 n6 (fun g' hg' => by rw [q3.i (by omega)]; exact hgc g' hg') (slR_ok hlt g (by omega)) q2 hg (hlt g hg)) (fun σ15 x16 h15 => ?_))
    cases h15
    obtain ⟨y1, y2, y3⟩ := slp_ok hlt hg
    have hsp : slp t gc g = fp (slR t gc g) (gc g) t 0 := rfl
    refine ok_b2 (s_moFront n5 y1 q2) (fun σ17 x18 h17 => ok_f (by decide) ?_)
    obtain ⟨_, r2, r3⟩ := h17
    dsimp only at r2 r3
    have hS17 : SR σ17 (B ++ slB t gc g) := q4.go (r3.i (by omega)) (r3.i (by omega)) (r3.fi (fun _ => by omega))
    refine ok_b2 (Q := fun p => SR p.1 (B ++ slB t gc g ++ ones (slp t gc g)) ∧ fr Fm σ17 p.1) (ok_up (slp t gc g) (fun k p => p.2 = nI k ∧ SR p.1 (B ++ slB t gc g ++ ones k) ∧ fr Fm σ17 p.1) ?_ ?_ 0 _ (Nat.zero_le _) ⟨rfl, by simp only [ones, List.append_nil]; exact hS17, fr.rf⟩) (fun σ21 x22 h21 => ?_)
    · rintro k ⟨σ3, x⟩ hk ⟨rfl, u1, u2⟩
      dsimp only at u1 u2 ⊢
      unfold lb_Mo_write_160
      refine ok_f (nI_ge hk (by omega)) (ok_b1 (s_moPutBits u1 1 (n := 1) (by omega) (by rw [List.length_append, List.length_append, ones_len]; omega)) (fun σ19 h19 => ok_nm (fun x20 e20 => ok_some ⟨by dsimp only; rw [e20, nI_1], ?_, u2.tr h19.2⟩)))
      have := h19.1
      rw [bits11, List.append_assoc] at this
      exact this
    · rintro ⟨σ3, x⟩ ⟨rfl, u1, u2⟩
      unfold lb_Mo_write_160
      exact ok_t (nI_le (Nat.le_refl _) (by omega)) (ok_some ⟨u1, u2⟩)
    · obtain ⟨u1, u2⟩ := h21
      dsimp only at u1 u2
      refine ok_b1 (s_moPutBits u1 0 (n := 1) (by omega) (by rw [List.length_append, List.length_append, ones_len]; omega)) (fun σ23 h23 => ok_nm (fun x24 e24 => ok_some ⟨by dsimp only; rw [e24, nI_1], rfl, fun p hp => ?_, ?_, ?_⟩))
      · dsimp only
        rw [h23.2.i (by omega), u2.i (by omega)]
        exact r2 p hp
      · have := h23.1
        rw [bits01, List.append_assoc, List.append_assoc] at this
        exact this
      · exact ((q3.tr (r3.mono (fun f i k z => by omega))).tr (u2.mono (fun f i k z => Or.inr z))).tr (h23.2.mono (fun f i k z => Or.inr z))
  · rintro ⟨σ2, x1, x2⟩ ⟨q0, q1, q2, q4, q3⟩
    dsimp only at q0 q1 q2 q3 q4 ⊢
    subst q0
    unfold lb_Mo_write_103
    rw [show σ2.1 48 0 26 = nI G by rw [q3.i (by omega)]; exact hC.2.2.1]
    exact ok_t (nI_le (Nat.le_refl _) (by omega)) (ok_some ⟨q1, q4, q3⟩)
theorem s_w88 {σ : St} {n U t G q W : Nat} {T gc : Nat → Nat} {B : List Bool} (hN : chN n U t G T) (hC : chR σ n U t G q T) (hgc : gcR σ G gc) (hlt : ∀ g, g < G → gc g < t) (hB : SR σ B) (hW : W ≤ 20000) : ok (lpE (fun p => lb_Mo_write_88 p.1 p.2.1 p.2.2) (σ, nI W, 0)) (fun z => match z with | .inl p => p.2.1 = nI (W + (slB t gc G).length) ∧ SR p.1 (B ++ slB t gc G) ∧ B.length + (W + (slB t gc G).length) ≤ 20000 ∧ fr Fwr σ p.1 | .inr o => o.2 = -106 ∧ SR o.1 B ∧ 20000 < B.length + (W + (slB t gc G).length) ∧ fr Fwr σ o.1) := by
  have hN0 := hN
  obtain ⟨n1, n2, n3, n4, n5, n6, n7, n8, n9⟩ := hN
  have hsl := slB_len hlt G (Nat.le_refl _)
  have htG : t * G ≤ 6 * 1000 := Nat.mul_le_mul n5 n6
  refine ok_up 2 (fun v p => p.2.2 = nI v ∧ fr Fwr σ p.1 ∧ (v = 0 → p.2.1 = nI W ∧ SR p.1 B) ∧ (v = 1 → p.2.1 = nI (W + (slB t gc G).length) ∧ SR p.1 B ∧ B.length + (W + (slB t gc G).length) ≤ 20000) ∧ (v = 2 → p.2.1 = nI (W + (slB t gc G).length) ∧ SR p.1 (B ++ slB t gc G) ∧ B.length + (W + (slB t gc G).length) ≤ 20000)) ?_ ?_ 0 _ (Nat.zero_le _) ⟨rfl, fr.rf, fun _ => ⟨rfl, hB⟩, fun z => absurd z (by omega), fun z => absurd z (by omega)⟩
  · rintro v ⟨σ2, x1, x2⟩ hv ⟨q0, q1, q2, q3, q4⟩
    dsimp only at q0 q1 q2 q3 q4 ⊢
    subst q0
    unfold lb_Mo_write_88
    rw [show σ2.1 48 0 24 = nI t by rw [q1.i (by omega)]; exact hC.2.2.2.1]
    refine ok_f (nI_ge (b := 2) hv (by omega)) (ok_b1 (s_moBegin n5) (fun σ13 h13 => ?_))
    obtain ⟨b1', b2'⟩ := h13
    have f13 : fr Fwr σ σ13 := q1.tr (b2'.mono (fun f i k z => Or.inl z.1))
    have hC13 : chR σ13 n U t G q T := hC.go (fun _ _ _ => f13.i (by omega)) (f13.fi (fun _ => by omega))
    have hgc13 : gcR σ13 G gc := fun g hg => by rw [f13.i (by omega)]; exact hgc g hg
    rcases (show v = 0 ∨ v = 1 by omega) with rfl | rfl
    · obtain ⟨rfl, c2⟩ := q2 rfl
      refine ok_b3 (s_w103a hN0 hC13 hgc13 hlt b1') (fun σ27 x28 x29 h27 => ok_t rfl ?_)
      obtain ⟨d1, d2⟩ := h27
      dsimp only at d1 d2
      subst d1
      have f27 := f13.tr (d2.mono (T := Fwr) (fun f i k z => Or.inl z.1))
      have hB27 : SR σ27 B := (c2.go (b2'.i (by omega)) (b2'.i (by omega)) (b2'.fi (fun _ => by omega))).go (d2.i (by omega)) (d2.i (by omega)) (d2.fi (fun _ => by omega))
      refine ok_b2e (e_moHasRoom hB27 (n := W + (slB t gc G).length) (by omega)) ?_
      by_cases r : B.length + (W + (slB t gc G).length) ≤ 20000
      · rw [if_pos r]
        exact ok_f (by decide) (ok_nm (fun x33 e33 => ok_some ⟨by dsimp only; rw [e33]; rfl, f27, fun z => absurd z (by omega), fun _ => ⟨rfl, hB27, r⟩, fun z => absurd z (by omega)⟩))
      · rw [if_neg r]
        exact ok_t rfl (ok_some ⟨rfl, hB27, by omega, f27⟩)
    · obtain ⟨rfl, c2, c3⟩ := q3 rfl
      refine ok_b3 (s_w103b hN0 hC13 hgc13 hlt b1' (c2.go (b2'.i (by omega)) (b2'.i (by omega)) (b2'.fi (fun _ => by omega))) (by omega)) (fun σ27 x28 x29 h27 => ok_f (by decide) (ok_nm (fun x30 e30 => ok_some ⟨by dsimp only; rw [e30]; rfl, f13.tr h27.2.2, fun z => absurd z (by omega), fun z => absurd z (by omega), fun _ => ⟨h27.1, h27.2.1, c3⟩⟩)))
  · rintro ⟨σ2, x1, x2⟩ ⟨q0, q1, q2, q3, q4⟩
    dsimp only at q0 q1 q2 q3 q4 ⊢
    subst q0
    unfold lb_Mo_write_88
    obtain ⟨c1, c2, c3⟩ := q4 rfl
    exact ok_t (nI_le (a := 2) (Nat.le_refl _) (by omega)) (ok_some ⟨c1, c2, c3, q1⟩)
theorem s_w214 {σ : St} {n U t G q : Nat} {T gc : Nat → Nat} {LL : Nat → Nat → Nat} {B : List Bool} {x35 : Int32} (hN : chN n U t G T) (hC : chR σ n U t G q T) (hgc : gcR σ G gc) (hlt : ∀ g, g < G → gc g < t) (hk : kR σ q t LL) (hw : ∀ i, i < n → cwd LL T gc U i) (hB : SR σ B) (hz : B.length + (twB LL T gc U n).length ≤ 20000) : ok (lpE (fun p => lb_Mo_write_214 x35 p.1 p.2) (σ, 0)) (fun p => SR p.1 (B ++ twB LL T gc U n) ∧ fr Fm σ p.1) := by
  obtain ⟨n1, n2, n3, n4, n5, n6, n7, n8, n9⟩ := hN
  refine ok_up n (fun k p => p.2 = nI k ∧ SR p.1 (B ++ twB LL T gc U k) ∧ fr Fm σ p.1) ?_ ?_ 0 _ (Nat.zero_le _) ⟨rfl, by simp only [twB, List.append_nil]; exact hB, fr.rf⟩
  · rintro k ⟨σ2, x⟩ hkn ⟨rfl, q1, q2⟩
    dsimp only at q1 q2 ⊢
    have hC' : chR σ2 n U t G q T := hC.go (fun _ _ _ => q2.i (by omega)) (q2.fi (fun _ => by omega))
    have hT := n9 k hkn
    have hkU : k / U < G := by
      rw [Nat.div_lt_iff_lt_mul (by omega)]
      omega
    have hgl := hlt _ hkU
    have hL := (hk _ hgl).go (q2.fi (fun _ => by omega)) (q2.fi (fun _ => by omega))
    have h15 := (hL.2.2.2 (T k) hT).2
    have hpre := twB_pre LL T gc U (show k + 1 ≤ n by omega)
    have hle : (twB LL T gc U (k + 1)).length = (twB LL T gc U k).length + LL (gc (k / U)) (T k) := by simp only [twB, List.length_append, bitsOf_len]
    unfold lb_Mo_write_214
    rw [hC'.1, hC'.2.1, nI_div (by omega) (by omega) (by omega), nI_cl (show k / U < 2 ^ 31 by omega), hC'.2.2.2.2.1, show σ2.1 65 0 (k / U) = nI (gc (k / U)) by rw [q2.i (by omega)]; exact hgc _ hkU, nI_add, nI_cl (show k < 2 ^ 31 by omega), hC'.2.2.2.2.2 k hkn]
    refine ok_f (nI_ge hkn (by omega)) (ok_gd (nI_ne0 (by omega) (by omega)) (ok_gd (nI_ib (by omega) (by omega)) (ok_nm (fun x1 e1 => ?_))))
    subst e1
    refine ok_gd (nI_ib (by omega) (by omega)) (ok_b2 (e_wordOf hL hT (hw k hkn).2) (fun σ38 x39 h38 => ?_))
    cases h38
    rw [hC'.2.2.2.2.2 k hkn]
    refine ok_gd (nI_ib (by omega) (by omega)) (ok_b2e (e_lengthOf hL hT) (ok_b1 (s_moPutBits q1 (nI (wrd (LL (gc (k / U))) 64 (T k))) (n := LL (gc (k / U)) (T k)) (by omega) (by rw [List.length_append]; omega)) (fun σ42 h42 => ok_nm (fun x43 e43 => ok_some ⟨by dsimp only; rw [e43, nI_1], ?_, q2.tr h42.2⟩))))
    have := h42.1
    rw [List.append_assoc] at this
    exact this
  · rintro ⟨σ2, x⟩ ⟨rfl, q1, q2⟩
    dsimp only at q1 q2 ⊢
    unfold lb_Mo_write_214
    rw [show σ2.1 48 0 29 = nI n by rw [q2.i (by omega)]; exact hC.1]
    exact ok_t (nI_le (Nat.le_refl _) (by omega)) (ok_some ⟨q1, q2⟩)
theorem s_moWrite {σ : St} {n U t G q : Nat} {T gc : Nat → Nat} {LL : Nat → Nat → Nat} {B : List Bool} (hN : chN n U t G T) (hC : chR σ n U t G q T) (hgc : gcR σ G gc) (hlt : ∀ g, g < G → gc g < t) (hk : kR σ q t LL) (hq : q ≤ 12) (hB : SR σ B) : ok (f_Mo_write σ) (fun o => ((¬ ∀ i, i < n → cwd LL T gc U i) → o = (σ, -103)) ∧ ((∀ i, i < n → cwd LL T gc U i) → (B.length + (slB t gc G ++ twB LL T gc U n).length ≤ 20000 → o.2 = nI (slB t gc G ++ twB LL T gc U n).length ∧ SR o.1 (B ++ (slB t gc G ++ twB LL T gc U n))) ∧ (20000 < B.length + (slB t gc G ++ twB LL T gc U n).length → o.2 = -106 ∧ SR o.1 B)) ∧ fr Fwr σ o.1) := by
  have hN0 := hN
  obtain ⟨n1, n2, n3, n4, n5, n6, n7, n8, n9⟩ := hN
  unfold f_Mo_write
  rw [hC.2.2.2.2.1]
  refine ok_f (fun z => absurd (z ▸ nI_pos (show q < 2 ^ 31 by omega)) (by decide)) ?_
  refine ok_bs3 (Q := fun (z : (St × Int32 × Int32) ⊕ (St × Int32)) => match z with | .inl p => p.1 = σ ∧ p.2.1 = nI (twB LL T gc U n).length ∧ ∀ i, i < n → cwd LL T gc U i | .inr o => o = (σ, -103) ∧ ¬ ∀ i, i < n → cwd LL T gc U i) ((s_w15 hN0 hC hgc hlt hk).mono (fun z hz => by rcases z with z | z <;> exact hz)) ?_ (fun r hr => ok_some ⟨fun _ => hr.1, fun z => absurd z hr.2, by rw [hr.1]; exact fr.rf⟩)
  rintro σ10 x11 x12 ⟨e1, e2, hw⟩
  dsimp only at e1 e2
  subst e1
  subst e2
  have hlen := twB_len (LL := LL) (T := T) (gc := gc) (U := U) (n := n) (fun i hi => by
    have hkU : i / U < G := by
      rw [Nat.div_lt_iff_lt_mul (by omega)]
      omega
    exact ((hk _ (hlt _ hkU)).2.2.2 (T i) (n9 i hi)).2) n (Nat.le_refl _)
  have hap : (slB t gc G ++ twB LL T gc U n).length = (twB LL T gc U n).length + (slB t gc G).length := by rw [List.length_append, Nat.add_comm]
  refine ok_bs3 (Q := fun (z : (St × Int32 × Int32) ⊕ (St × Int32)) => match z with | .inl p => p.2.1 = nI ((twB LL T gc U n).length + (slB t gc G).length) ∧ SR p.1 (B ++ slB t gc G) ∧ B.length + ((twB LL T gc U n).length + (slB t gc G).length) ≤ 20000 ∧ fr Fwr σ10 p.1 | .inr o => o.2 = -106 ∧ SR o.1 B ∧ 20000 < B.length + ((twB LL T gc U n).length + (slB t gc G).length) ∧ fr Fwr σ10 o.1) ((s_w88 hN0 hC hgc hlt hB (by omega)).mono (fun z hz => by rcases z with z | z <;> exact hz)) ?_ (fun r hr => ok_some ⟨fun z => absurd hw z, fun _ => ⟨fun z => absurd hr.2.2.1 (by omega), fun _ => ⟨hr.1, hr.2.1⟩⟩, hr.2.2.2⟩)
  rintro σ34 x35 x36 ⟨u1, u2, u3, u4⟩
  dsimp only at u1 u2 u3 u4
  subst u1
  refine ok_b2 (s_w214 hN0 (hC.go (fun _ _ _ => u4.i (by omega)) (u4.fi (fun _ => by omega))) (fun g hg => by rw [u4.i (by omega)]; exact hgc g hg) hlt (hk.go (u4.fi (fun _ => by omega)) (u4.fi (fun _ => by omega))) hw u2 (by rw [List.length_append]; omega)) (fun σ44 x45 h44 => ok_some ⟨fun z => absurd hw z, fun _ => ⟨fun _ => ⟨by rw [hap], ?_⟩, fun z => absurd z (by omega)⟩, u4.tr (h44.2.mono (fun f i k z => Or.inr z))⟩)
  have := h44.1
  rw [List.append_assoc] at this
  exact this
