/-! ===== packages, the class: rows ===== -/
def PKs (σ : St) : Prop := (∀ k, k < 2 → σ.2.2.1 8 0 k = some k) ∧ ∀ k, k < 15 → σ.2.2.1 11 0 k = some k
theorem PKs.go {σ σ1 : St} (h : PKs σ) (h1 : σ1.2.2.1 8 0 = σ.2.2.1 8 0) (h2 : σ1.2.2.1 11 0 = σ.2.2.1 11 0) : PKs σ1 := by
  unfold PKs at *
  rw [h1, h2]
  exact h
theorem sL_1 {σ : St} {f i k f' i' k' : Nat} {v : Int64} : (sL σ f i k v).2.1 f' i' k' = if f' = f ∧ i' = i ∧ k' = k then v else σ.2.1 f' i' k' := rfl
theorem sL_at {σ : St} {f i k : Nat} {v : Int64} : (sL σ f i k v).2.1 f i k = v := by rw [sL_1, if_pos ⟨rfl, rfl, rfl⟩]
theorem sL_k {σ : St} {f i k k' : Nat} {v : Int64} (h : k' ≠ k) : (sL σ f i k v).2.1 f i k' = σ.2.1 f i k' := by rw [sL_1, if_neg (fun z => h z.2.2)]
theorem sL_i {σ : St} {f i k i' k' : Nat} {v : Int64} (h : i' ≠ i) : (sL σ f i k v).2.1 f i' k' = σ.2.1 f i' k' := by rw [sL_1, if_neg (fun z => h z.2.1)]
theorem sL_I {σ : St} {f i k : Nat} {v : Int64} : (sL σ f i k v).1 = σ.1 := rfl
theorem sL_R {σ : St} {f i k : Nat} {v : Int64} : (sL σ f i k v).2.2.1 = σ.2.2.1 := rfl
theorem sI_L {σ : St} {f i k : Nat} {v : Int32} : (sI σ f i k v).2.1 = σ.2.1 := rfl
theorem sI_R {σ : St} {f i k : Nat} {v : Int32} : (sI σ f i k v).2.2.1 = σ.2.2.1 := rfl
abbrev Frw : Nat → Nat → Nat → Prop := fun f _ _ => f = 9 ∨ f = 10 ∨ f = 12
/-- the rows 0 .. r stand -/
def RS (σ : St) (m : Nat) (w : Nat → Int64) (r : Nat) : Prop := σ.1 5 0 2 = nI m ∧ (∀ i, i < m → (σ.1 7 0 i).toInt64 = w i) ∧ (∀ k, k < sz m r → σ.2.1 9 (r % 2) k = rW m w r k) ∧ (∀ q, q ≤ r → σ.1 10 0 q = nI (sz m q)) ∧ ∀ q, q ≤ r → ∀ k, k < sz m q → σ.1 12 q k = nI (rN m w q (k + 1) - rN m w q k)
theorem s_makeFirstRow {σ : St} {m : Nat} {w : Nat → Int64} (hP : PKs σ) (h5 : σ.1 5 0 2 = nI m) (hm : m ≤ 64) (h7 : ∀ i, i < m → (σ.1 7 0 i).toInt64 = w i) : ok (f_Packages_makeFirstRow σ) (fun σ1 => RS σ1 m w 0 ∧ fr Frw σ σ1) := by
  unfold f_Packages_makeFirstRow
  refine ok_gd (by decide) (ok_nm (fun σ1 e1 => ok_b2 (Q := fun q => (∀ k, k < m → q.1.2.1 9 0 k = w k) ∧ (∀ k, k < m → q.1.1 12 0 k = nI 1) ∧ q.1.1 10 0 0 = nI m ∧ fr Frw σ q.1) (ok_up m (fun n q => q.2 = nI n ∧ (∀ k, k < n → q.1.2.1 9 0 k = w k) ∧ (∀ k, k < n → q.1.1 12 0 k = nI 1) ∧ q.1.1 10 0 0 = nI m ∧ fr Frw σ q.1) ?_ ?_ 0 _ (Nat.zero_le _) ⟨rfl, fun k hk => absurd hk (by omega), fun k hk => absurd hk (by omega), ?_, ?_⟩) ?_))
  · rintro n ⟨σ2, x⟩ hn ⟨rfl, q1, q2, q3, q4⟩
    dsimp only at q1 q2 q3 q4 ⊢
    have g5 : σ2.1 5 0 2 = nI m := by rw [q4.i (by omega)]; exact h5
    have g7 : (σ2.1 7 0 n).toInt64 = w n := by rw [q4.i (by omega)]; exact h7 n hn
    have gP := hP.go (q4.ri (fun _ => by omega)) (q4.ri (fun _ => by omega))
    unfold lb_Packages_makeFirstRow_12
    rw [g5, nI_cl (by omega), g7]
    refine ok_f (nI_ge hn (by omega)) (ok_gd (by decide) (ok_on (gP.1 0 (by omega)) (ok_gd (nI_ib (by omega) (by omega)) (ok_gd (nI_ib (by omega) (by omega)) (ok_nm (fun σ3 e3 => ok_gd (by decide) (ok_on (j := 0) (by rw [e3, sL_R]; exact gP.2 0 (by omega)) (ok_gd (nI_ib (by omega) (by omega)) (ok_nm (fun σ5 e5 => ok_nm (fun x6 e6 => ok_some ?_))))))))))) 
    refine ⟨by rw [e6, nI_1], fun k hk => ?_, fun k hk => ?_, ?_, ?_⟩
    · dsimp only
      rw [e5, sI_L, e3]
      by_cases hkn : k = n
      · subst hkn
        rw [sL_at]
      · rw [sL_k hkn]
        exact q1 k (by omega)
    · dsimp only
      rw [e5]
      by_cases hkn : k = n
      · subst hkn
        rw [sI_at]
        rfl
      · rw [sI_k hkn, e3, sL_I]
        exact q2 k (by omega)
    · dsimp only
      rw [e5, sI_f (by omega), e3, sL_I]
      exact q3
    · rw [e5, e3]
      exact q4.tr ((fr_sL (Or.inl rfl)).tr (fr_sI (Or.inr (Or.inr rfl))))
  · rintro ⟨σ2, x⟩ ⟨rfl, q1, q2, q3, q4⟩
    dsimp only at q1 q2 q3 q4 ⊢
    have g5 : σ2.1 5 0 2 = nI m := by rw [q4.i (by omega)]; exact h5
    unfold lb_Packages_makeFirstRow_12
    rw [g5]
    exact ok_t (nI_le (Nat.le_refl _) (by omega)) (ok_some ⟨q1, q2, q3, q4⟩)
  · rw [e1]
    exact sI_at.trans h5
  · rw [e1]
    exact fr_sI (Or.inr (Or.inl rfl))
  · rintro σ7 x8 ⟨q1, q2, q3, q4⟩
    dsimp only at q1 q2 q3 q4
    refine ok_some ⟨⟨?_, fun i hi => ?_, q1, fun q hq => ?_, fun q hq k hk => ?_⟩, q4⟩
    · rw [q4.i (by omega)]; exact h5
    · rw [q4.i (by omega)]; exact h7 i hi
    · rw [Nat.le_zero.mp hq]; exact q3
    · rw [Nat.le_zero.mp hq] at hk ⊢
      rw [q2 k hk]
      show nI 1 = nI (k + 1 - k)
      rw [show k + 1 - k = 1 by omega]
/-- a row that is being made: n of it stand -/
def RM (σ0 σ : St) (m : Nat) (w : Nat → Int64) (r n : Nat) : Prop := (∀ k, k < n → σ.2.1 9 ((r + 1) % 2) k = rW m w (r + 1) k) ∧ (∀ k, k < n → σ.1 12 (r + 1) k = nI (rN m w (r + 1) (k + 1) - rN m w (r + 1) k)) ∧ fr (fun f i _ => (f = 9 ∧ i = (r + 1) % 2) ∨ (f = 12 ∧ i = r + 1)) σ0 σ
theorem RM_put {σ0 σ : St} {m r n : Nat} {w : Nat → Int64} (h : RM σ0 σ m w r n) {v : Int64} {b : Int32} (hv : v = rW m w (r + 1) n) (hb : b = nI (rN m w (r + 1) (n + 1) - rN m w (r + 1) n)) : RM σ0 (sI (sL σ 9 ((r + 1) % 2) n v) 12 (r + 1) n b) m w r (n + 1) := by
  obtain ⟨q1, q2, q3⟩ := h
  refine ⟨fun k hk => ?_, fun k hk => ?_, q3.tr ((fr_sL (Or.inl ⟨rfl, rfl⟩)).tr (fr_sI (Or.inr ⟨rfl, rfl⟩)))⟩
  · rw [sI_L]
    by_cases hkn : k = n
    · subst hkn
      rw [sL_at, hv]
    · rw [sL_k hkn]
      exact q1 k (by omega)
  · by_cases hkn : k = n
    · subst hkn
      rw [sI_at, hb]
    · rw [sI_k hkn, sL_I]
      exact q2 k (by omega)
theorem nI_2x (a : Nat) : (2 : Int32) * nI a = nI (2 * a) := by
  show nI 2 * nI a = _
  rw [pk_mul]
theorem s_row91 {σ0 σ : St} {m r n i : Nat} {w : Nat → Int64} (hP : PKs σ) (hr : r + 1 < 15) (hm : m ≤ 64) (h5 : σ.1 5 0 2 = nI m) (h7 : ∀ i, i < m → (σ.1 7 0 i).toInt64 = w i) (hR : RM σ0 σ m w r n) (hi : rN m w (r + 1) n = i) (hin : i ≤ n) (hn : n < m + sz m r / 2) (hz : sz m r / 2 ≤ 64) {k0 : Int64} (hk0 : n - i < sz m r / 2 → k0 = rP m w r (n - i)) (j1 : Nat) :
    ok (jn_Packages_makeRow_91 (nI (r + 1)) j1 ((r + 1) % 2) (nI (sz m r / 2)) σ (nI i) (nI (n - i)) (nI n) k0) (fun z => match z with | .inl q => q.2.1 = nI (rN m w (r + 1) (n + 1)) ∧ q.2.2.1 = nI (n + 1 - rN m w (r + 1) (n + 1)) ∧ q.2.2.2 = nI (n + 1) ∧ RM σ0 q.1 m w r (n + 1) | .inr _ => False) := by
  have hA : ∀ (hs : sel m (sz m r / 2) w (rP m w r) i (n - i)), rN m w (r + 1) (n + 1) = i + 1 ∧ rW m w (r + 1) n = w i := by
    intro hs
    subst hi
    have hs' : sel m (sz m r / 2) w (rP m w r) (mg m (sz m r / 2) w (rP m w r) n) (n - mg m (sz m r / 2) w (rP m w r) n) := hs
    refine ⟨?_, ?_⟩
    · show mg m (sz m r / 2) w (rP m w r) (n + 1) = mg m (sz m r / 2) w (rP m w r) n + 1
      simp only [mg]
      rw [if_pos hs']
    · simp only [rW]
      rw [if_pos hs']
      rfl
  have hB : ∀ (hs : ¬ sel m (sz m r / 2) w (rP m w r) i (n - i)), rN m w (r + 1) (n + 1) = i ∧ rW m w (r + 1) n = rP m w r (n - i) := by
    intro hs
    subst hi
    have hs' : ¬ sel m (sz m r / 2) w (rP m w r) (mg m (sz m r / 2) w (rP m w r) n) (n - mg m (sz m r / 2) w (rP m w r) n) := hs
    refine ⟨?_, ?_⟩
    · show mg m (sz m r / 2) w (rP m w r) (n + 1) = mg m (sz m r / 2) w (rP m w r) n
      simp only [mg]
      rw [if_neg hs']
    · simp only [rW]
      rw [if_neg hs']
      rfl
  have hib : ib (nI n) 128 := nI_ib (by omega) (by omega)
  have hir : ib (nI (r + 1)) 15 := nI_ib (by omega) (by omega)
  have hpair : ∀ (hs : ¬ sel m (sz m r / 2) w (rP m w r) i (n - i)), n - i < sz m r / 2 → ok (gd (ib (nI n) 128) <| nm (sL σ 9 ((r + 1) % 2) ((nI n).toNatClampNeg) k0) fun σ5 => gd (ib (nI (r + 1)) 15) <| on (σ5.2.2.1 11 0 (nI (r + 1)).toNatClampNeg) none fun j6 => gd (ib (nI n) 128) <| nm (sI σ5 12 j6 ((nI n).toNatClampNeg) 0) fun σ7 => nm (nI (n - i) + 1) fun x8 => nm (nI n + 1) fun x9 => (some (.inl (σ7, nI i, x8, x9)) : Option ((St × Int32 × Int32 × Int32) ⊕ (St × Int32 × Int32 × Int32)))) (fun z => match z with | .inl q => q.2.1 = nI (rN m w (r + 1) (n + 1)) ∧ q.2.2.1 = nI (n + 1 - rN m w (r + 1) (n + 1)) ∧ q.2.2.2 = nI (n + 1) ∧ RM σ0 q.1 m w r (n + 1) | .inr _ => False) := by
    intro hs hj
    obtain ⟨b1, b2⟩ := hB hs
    rw [nI_cl (show n < 2 ^ 31 by omega), nI_cl (show r + 1 < 2 ^ 31 by omega)]
    refine ok_gd hib (ok_nm (fun σ5 e5 => ok_gd hir (ok_on (j := r + 1) (by rw [e5, sL_R]; exact hP.2 _ hr) (ok_gd hib (ok_nm (fun σ7 e7 => ok_nm (fun x8 e8 => ok_nm (fun x9 e9 => ok_some ?_))))))))
    refine ⟨by rw [b1], by dsimp only; rw [e8, b1, nI_1, show n + 1 - i = n - i + 1 by omega], by rw [e9, nI_1], ?_⟩
    dsimp only
    rw [e7, e5]
    exact RM_put hR (by rw [b2, hk0 hj]) (by rw [b1, hi, Nat.sub_self]; rfl)
  have hsym : ∀ (hs : sel m (sz m r / 2) w (rP m w r) i (n - i)), ok (jn_Packages_makeRow_123_2 (nI (r + 1)) j1 ((r + 1) % 2) (nI (sz m r / 2)) σ (nI i) (nI (n - i)) (nI n)) (fun z => match z with | .inl q => q.2.1 = nI (rN m w (r + 1) (n + 1)) ∧ q.2.2.1 = nI (n + 1 - rN m w (r + 1) (n + 1)) ∧ q.2.2.2 = nI (n + 1) ∧ RM σ0 q.1 m w r (n + 1) | .inr _ => False) := by
    intro hs
    obtain ⟨b1, b2⟩ := hA hs
    have hs1 := hs.1
    unfold jn_Packages_makeRow_123_2
    rw [nI_cl (show n < 2 ^ 31 by omega), nI_cl (show r + 1 < 2 ^ 31 by omega), nI_cl (show i < 2 ^ 31 by omega), h7 i hs1]
    refine ok_gd (nI_ib (by omega) (by omega)) (ok_gd hib (ok_nm (fun σ5 e5 => ok_gd hir (ok_on (j := r + 1) (by rw [e5, sL_R]; exact hP.2 _ hr) (ok_gd hib (ok_nm (fun σ7 e7 => ok_nm (fun x8 e8 => ok_nm (fun x9 e9 => ok_some ?_)))))))))
    refine ⟨by rw [e8, b1, nI_1], by dsimp only; rw [b1]; congr 1; omega, by rw [e9, nI_1], ?_⟩
    dsimp only
    rw [e7, e5]
    exact RM_put hR b2.symm (by rw [b1, hi, show i + 1 - i = 1 by omega]; rfl)
  unfold jn_Packages_makeRow_91
  rw [h5]
  refine ok_if (fun c1 => hpair (fun hs => ?_) ?_) (fun c1 => ok_if (fun c2 => hsym ?_) (fun c2 => ok_gd (nI_ib ?_ (by omega)) ?_))
  · have := (nI_leI (by omega) (by omega)).mp c1
    have := hs.1
    omega
  · have := (nI_leI (by omega) (by omega)).mp c1
    omega
  · have a1 : ¬ m ≤ i := fun z => c1 (nI_le z (by omega))
    have a2 := (nI_leI (by omega) (by omega)).mp c2
    exact ⟨by omega, Or.inl a2⟩
  · have a1 : ¬ m ≤ i := fun z => c1 (nI_le z (by omega))
    omega
  · have a1 : ¬ m ≤ i := fun z => c1 (nI_le z (by omega))
    have a2 : ¬ sz m r / 2 ≤ n - i := fun z => c2 (nI_le z (by omega))
    rw [nI_cl (show i < 2 ^ 31 by omega), h7 i (by omega), hk0 (by omega)]
    refine ok_if (fun c3 => ?_) (fun c3 => hsym ⟨by omega, Or.inr c3⟩)
    have := hpair (fun hs => by rcases hs.2 with z | z; exact a2 z; exact z c3) (by omega)
    rw [hk0 (by omega)] at this
    exact this
theorem s_makeRow {σ : St} {m r : Nat} {w : Nat → Int64} (hP : PKs σ) (hm : m ≤ 64) (hm1 : 1 ≤ m) (hr : r + 1 < 15) (h : RS σ m w r) : ok (f_Packages_makeRow σ (nI (r + 1))) (fun σ1 => RS σ1 m w (r + 1) ∧ fr Frw σ σ1) := by
  have hz := sz_lt hm1 r
  unfold f_Packages_makeRow
  have hr1 : nI (r + 1) - 1 = nI r := nI_pred r
  have e2 : nI r - nI r / 2 * 2 = nI (r % 2) := nI_rem (b := 2) (by omega) (by omega) (by omega)
  have e3 : nI (r + 1) - nI (r + 1) / 2 * 2 = nI ((r + 1) % 2) := nI_rem (b := 2) (by omega) (by omega) (by omega)
  have h2 : r % 2 < 2 := Nat.mod_lt _ (by omega)
  have h3 : (r + 1) % 2 < 2 := Nat.mod_lt _ (by omega)
  obtain ⟨h5, h7, h9, h10, h12⟩ := h
  rw [hr1, e2, e3, nI_cl (show r % 2 < 2 ^ 31 by omega), nI_cl (show (r + 1) % 2 < 2 ^ 31 by omega), nI_cl (show r < 2 ^ 31 by omega), nI_cl (show r + 1 < 2 ^ 31 by omega), h10 r (Nat.le_refl _), h5, show nI (sz m r) / 2 = nI (sz m r / 2) from nI_div (b := 2) (by omega) (by omega) (by omega)]
  refine ok_gd (nI_ib h2 (by omega)) (ok_on (hP.1 _ h2) (ok_gd (nI_ib h3 (by omega)) (ok_on (hP.1 _ h3) (ok_gd (nI_ib (by omega) (by omega)) (ok_nm (fun x3 ex3 => ok_gd (nI_ib hr (by omega)) (ok_nm (fun σ4 e4 => ?_))))))))
  rw [ex3, nI_add] at e4
  rw [ex3]
  refine ok_b4 (Q := fun q => RM σ4 q.1 m w r (sz m (r + 1))) (ok_up (sz m (r + 1)) (fun n q => q.2.1 = nI (rN m w (r + 1) n) ∧ q.2.2.1 = nI (n - rN m w (r + 1) n) ∧ q.2.2.2 = nI n ∧ RM σ4 q.1 m w r n) ?_ ?_ 0 _ (Nat.zero_le _) ⟨rfl, rfl, rfl, fun k hk => absurd hk (by omega), fun k hk => absurd hk (by omega), fr.rf⟩) ?_
  · rintro n ⟨σ2, x, y, z⟩ hn ⟨rfl, rfl, rfl, q⟩
    dsimp only at q ⊢
    have hn' : n < m + sz m r / 2 := hn
    have fz := q.2.2
    have g10 : σ2.1 10 0 (r + 1) = nI (sz m (r + 1)) := by
      rw [fz.i (by omega), e4, sI_at]; rfl
    have g5 : σ2.1 5 0 2 = nI m := by rw [fz.i (by omega), e4, sI_f (by omega)]; exact h5
    have g7 : ∀ i, i < m → (σ2.1 7 0 i).toInt64 = w i := fun i hi => by rw [fz.i (by omega), e4, sI_f (by omega)]; exact h7 i hi
    have g9 : ∀ k, k < sz m r → σ2.2.1 9 (r % 2) k = rW m w r k := fun k hk => by
      rw [(fz.1 9 (r % 2) k (by omega)).2.1, e4, sI_L]; exact h9 k hk
    have gP : PKs σ2 := hP.go (by rw [fz.ri (fun _ => by omega), e4]; rfl) (by rw [fz.ri (fun _ => by omega), e4]; rfl)
    have hle := mg_le m (sz m r / 2) w (rP m w r) n
    have hle1 : rN m w (r + 1) n ≤ n := hle.1
    unfold lb_Packages_makeRow_54
    rw [nI_cl (show r + 1 < 2 ^ 31 by omega), g10]
    refine ok_gd (nI_ib hr (by omega)) (ok_f (nI_ge hn (by simp only [sz]; omega)) ?_)
    refine ok_if (fun c => ?_) (fun c => ?_)
    · have c' := (nI_leI (by omega) (by omega)).mp c
      refine (s_row91 (i := rN m w (r + 1) n) gP hr hm g5 g7 q rfl hle1 hn' (by omega) (k0 := 0) (fun z => absurd z (by omega)) (r % 2)).mono (fun z hz => ?_)
      rcases z with z | z
      · exact hz
      · exact hz.elim
    · have c' : ¬ sz m r / 2 ≤ n - rN m w (r + 1) n := fun z => c (nI_le z (by omega))
      rw [nI_2x, nI_1, nI_cl (show 2 * (n - rN m w (r + 1) n) < 2 ^ 31 by omega), nI_cl (show 2 * (n - rN m w (r + 1) n) + 1 < 2 ^ 31 by omega), g9 _ (by omega), g9 _ (by omega)]
      refine ok_gd (nI_ib (by omega) (by omega)) (ok_gd (nI_ib (by omega) (by omega)) ?_)
      refine (s_row91 (i := rN m w (r + 1) n) gP hr hm g5 g7 q rfl hle1 hn' (by omega) (fun _ => rfl) (r % 2)).mono (fun z hz => ?_)
      rcases z with z | z
      · exact hz
      · exact hz.elim
  · rintro ⟨σ2, x, y, z⟩ ⟨rfl, rfl, rfl, q⟩
    dsimp only at q ⊢
    have g10 : σ2.1 10 0 (r + 1) = nI (sz m (r + 1)) := by
      rw [q.2.2.i (by omega), e4, sI_at]; rfl
    unfold lb_Packages_makeRow_54
    rw [nI_cl (show r + 1 < 2 ^ 31 by omega), g10]
    exact ok_gd (nI_ib hr (by omega)) (ok_t (nI_le (Nat.le_refl _) (by simp only [sz]; omega)) (ok_some q))
  · rintro σ20 x21 x22 x23 q
    have fz := q.2.2
    have fall : fr Frw σ σ20 := by
      refine fr.tr (σ1 := σ4) ?_ (fz.mono (fun f i k z => by omega))
      rw [e4]
      exact fr_sI (Or.inr (Or.inl rfl))
    refine ok_some ⟨⟨?_, fun i hi => ?_, q.1, fun p hp => ?_, fun p hp k hk => ?_⟩, fall⟩
    · rw [fall.i (by omega)]; exact h5
    · rw [fall.i (by omega)]; exact h7 i hi
    · dsimp only at fz
      rw [fz.i (by omega), e4]
      by_cases hpr : p = r + 1
      · subst hpr
        rw [sI_at]; rfl
      · rw [sI_k hpr]
        exact h10 p (by omega)
    · by_cases hpr : p = r + 1
      · subst hpr
        exact q.2.1 k hk
      · dsimp only at fz
        rw [fz.i (by omega), e4, sI_f (by omega)]
        exact h12 p (by omega) k hk
