/-! ===== packages, the reference ===== -/
abbrev F53 : Nat → Nat → Nat → Prop := fun f _ _ => f = 53
theorem nI_2lit : (2 : Int32) = nI 2 := rfl
/-- rows 0 .. r of the reference -/
def RQ (σ : St) (m : Nat) (w : Nat → Int64) (o : Nat → Nat) (r : Nat) : Prop := (∀ q, q ≤ r → ∀ k, k < sz m q → σ.2.1 52 0 (128 * q + k) = rW m w q k) ∧ (∀ q, q ≤ r → σ.1 55 0 q = nI (sz m q)) ∧ ∀ q, q ≤ r → ∀ k, k < sz m q → σ.1 53 0 (128 * q + k) = if rN m w q (k + 1) = rN m w q k then nI (1000 + 2 * (k - rN m w q k)) else nI (o (rN m w q k))
theorem nI_128 (r n : Nat) : (128 : Int32) * nI r + nI n = nI (128 * r + n) := by
  show nI 128 * nI r + nI n = _
  rw [pk_mul, nI_add]
theorem nI_128' (r : Nat) : (128 : Int32) * nI r = nI (128 * r) := by
  show nI 128 * nI r = _
  rw [pk_mul]
/-- a row that is being made -/
def RJ (σ0 σ : St) (m : Nat) (w : Nat → Int64) (o : Nat → Nat) (r n : Nat) : Prop := (∀ k, k < n → σ.2.1 52 0 (128 * (r + 1) + k) = rW m w (r + 1) k) ∧ (∀ k, k < n → σ.1 53 0 (128 * (r + 1) + k) = if rN m w (r + 1) (k + 1) = rN m w (r + 1) k then nI (1000 + 2 * (k - rN m w (r + 1) k)) else nI (o (rN m w (r + 1) k))) ∧ fr (fun f _ k => (f = 52 ∨ f = 53) ∧ 128 * (r + 1) ≤ k) σ0 σ
theorem RJ_put {σ0 σ : St} {m r n : Nat} {w : Nat → Int64} {o : Nat → Nat} (h : RJ σ0 σ m w o r n) {v : Int64} {b : Int32} (hv : v = rW m w (r + 1) n) (hb : b = if rN m w (r + 1) (n + 1) = rN m w (r + 1) n then nI (1000 + 2 * (n - rN m w (r + 1) n)) else nI (o (rN m w (r + 1) n))) : RJ σ0 (sI (sL σ 52 0 (128 * (r + 1) + n) v) 53 0 (128 * (r + 1) + n) b) m w o r (n + 1) := by
  obtain ⟨q1, q2, q3⟩ := h
  refine ⟨fun k hk => ?_, fun k hk => ?_, q3.tr ((fr_sL (by omega)).tr (fr_sI (by omega)))⟩
  · rw [sI_L]
    by_cases hkn : k = n
    · subst hkn
      rw [sL_at, hv]
    · rw [sL_k (by omega)]
      exact q1 k (by omega)
  · by_cases hkn : k = n
    · subst hkn
      rw [sI_at, hb]
    · rw [sI_k (by omega), sL_I]
      exact q2 k (by omega)
theorem s_join78 {σ0 σ : St} {m r n i : Nat} {w : Nat → Int64} {o : Nat → Nat} (hr : r + 1 < 15) (hm : m ≤ 64) (hw : ∀ i, i < m → σ.2.1 52 0 i = w i) (ho : ∀ i, i < m → σ.1 53 0 i = nI (o i)) (hR : RJ σ0 σ m w o r n) (hi : rN m w (r + 1) n = i) (hin : i ≤ n) (hn : n < m + sz m r / 2) (hz : sz m r / 2 ≤ 64) (hjq : n - i ≤ sz m r / 2) {k0 : Int64} (hk0 : n - i < sz m r / 2 → k0 = rP m w r (n - i)) (x1 : Int32) :
    ok (jn_Mo_join_78_2 (nI (r + 1)) (nI m) x1 (nI (sz m r / 2)) σ (nI i) (nI (n - i)) (nI n) k0) (fun z => match z with | .inl q => q.2.1 = nI (rN m w (r + 1) (n + 1)) ∧ q.2.2.1 = nI (n + 1 - rN m w (r + 1) (n + 1)) ∧ q.2.2.2 = nI (n + 1) ∧ RJ σ0 q.1 m w o r (n + 1) | .inr _ => False) := by
  have hA : ∀ (hs : sel m (sz m r / 2) w (rP m w r) i (n - i)), rN m w (r + 1) (n + 1) = i + 1 ∧ rW m w (r + 1) n = w i := by
    intro hs
    subst hi
    have hs' : sel m (sz m r / 2) w (rP m w r) (mg m (sz m r / 2) w (rP m w r) n) (n - mg m (sz m r / 2) w (rP m w r) n) := hs
    refine ⟨?_, ?_⟩
    · show mg m (sz m r / 2) w (rP m w r) (n + 1) = mg m (sz m r / 2) w (rP m w r) n + 1
      simp only [mg]
      rw [if_pos hs']
    · simp only [rW]
      rw [if_pos hs']
      rfl
  have hB : ∀ (hs : ¬ sel m (sz m r / 2) w (rP m w r) i (n - i)), rN m w (r + 1) (n + 1) = i ∧ rW m w (r + 1) n = rP m w r (n - i) := by
    intro hs
    subst hi
    have hs' : ¬ sel m (sz m r / 2) w (rP m w r) (mg m (sz m r / 2) w (rP m w r) n) (n - mg m (sz m r / 2) w (rP m w r) n) := hs
    refine ⟨?_, ?_⟩
    · show mg m (sz m r / 2) w (rP m w r) (n + 1) = mg m (sz m r / 2) w (rP m w r) n
      simp only [mg]
      rw [if_neg hs']
    · simp only [rW]
      rw [if_neg hs']
      rfl
  have hib : ib (nI (128 * (r + 1) + n)) 1920 := nI_ib (by omega) (by omega)
  have hpair : ∀ (hs : ¬ sel m (sz m r / 2) w (rP m w r) i (n - i)), n - i < sz m r / 2 → ok (jn_Mo_join_110_7 (nI (r + 1)) (nI m) x1 (nI (sz m r / 2)) σ (nI i) (nI (n - i)) (nI n) k0) (fun z => match z with | .inl q => q.2.1 = nI (rN m w (r + 1) (n + 1)) ∧ q.2.2.1 = nI (n + 1 - rN m w (r + 1) (n + 1)) ∧ q.2.2.2 = nI (n + 1) ∧ RJ σ0 q.1 m w o r (n + 1) | .inr _ => False) := by
    intro hs hj
    obtain ⟨b1, b2⟩ := hB hs
    unfold jn_Mo_join_110_7 jn_Mo_join_111_4
    rw [nI_128]
    refine ok_nm (fun x3 e3 => ok_t rfl ?_)
    unfold jn_Mo_join_146_5
    rw [e3, nI_cl (show 128 * (r + 1) + n < 2 ^ 31 by omega)]
    refine ok_gd hib (ok_nm (fun σ4 e4 => ok_t rfl ?_))
    unfold jn_Mo_join_176_6
    rw [nI_cl (show 128 * (r + 1) + n < 2 ^ 31 by omega), nI_2x, show (1000 : Int32) + nI (2 * (n - i)) = nI (1000 + 2 * (n - i)) from nI_add 1000 _]
    refine ok_gd hib (ok_nm (fun σ5 e5 => ok_t rfl (ok_nm (fun x6 e6 => ok_nm (fun x7 e7 => ok_nm (fun x8 e8 => ok_some ?_))))))
    refine ⟨by dsimp only; rw [e6, b1]; exact nI_add i 0, by dsimp only; rw [e7, b1, nI_1, show n + 1 - i = n - i + 1 by omega], by rw [e8, nI_1], ?_⟩
    dsimp only
    rw [e5, e4]
    exact RJ_put hR (by rw [b2, hk0 hj]) (by rw [b1, hi, if_pos rfl])
  have hsym : ∀ (hs : sel m (sz m r / 2) w (rP m w r) i (n - i)), ok (jn_Mo_join_106_3 (nI (r + 1)) (nI m) x1 (nI (sz m r / 2)) σ (nI i) (nI (n - i)) (nI n) k0) (fun z => match z with | .inl q => q.2.1 = nI (rN m w (r + 1) (n + 1)) ∧ q.2.2.1 = nI (n + 1 - rN m w (r + 1) (n + 1)) ∧ q.2.2.2 = nI (n + 1) ∧ RJ σ0 q.1 m w o r (n + 1) | .inr _ => False) := by
    intro hs
    obtain ⟨b1, b2⟩ := hA hs
    have hs1 := hs.1
    have hii : ib (nI i) 1920 := nI_ib (by omega) (by omega)
    unfold jn_Mo_join_106_3 jn_Mo_join_111_4
    rw [nI_128]
    refine ok_nm (fun x3 e3 => ok_f (by decide) (ok_gd hii ?_))
    unfold jn_Mo_join_146_5
    rw [e3, nI_cl (show 128 * (r + 1) + n < 2 ^ 31 by omega), nI_cl (show i < 2 ^ 31 by omega), hw i hs1]
    refine ok_gd hib (ok_nm (fun σ4 e4 => ok_f (by decide) (ok_gd hii ?_)))
    unfold jn_Mo_join_176_6
    have o4 : σ4.1 53 0 i = nI (o i) := by rw [e4, sL_I]; exact ho i hs1
    rw [nI_cl (show 128 * (r + 1) + n < 2 ^ 31 by omega), o4]
    refine ok_gd hib (ok_nm (fun σ5 e5 => ok_f (by decide) (ok_nm (fun x6 e6 => ok_nm (fun x7 e7 => ok_nm (fun x8 e8 => ok_some ?_))))))
    refine ⟨by dsimp only; rw [e6, b1, nI_1], by dsimp only; rw [e7, b1, show n + 1 - (i + 1) = n - i by omega]; exact nI_add _ 0, by rw [e8, nI_1], ?_⟩
    dsimp only
    rw [e5, e4]
    exact RJ_put hR b2.symm (by rw [b1, hi, if_neg (by omega)])
  unfold jn_Mo_join_78_2
  refine ok_if (fun c1 => hsym ?_) (fun c1 => ok_if (fun c2 => hpair (fun hs => ?_) ?_) (fun c2 => ok_gd (nI_ib ?_ (by omega)) ?_))
  · have a1 := (nI_eq (by omega) (by omega)).mp c1
    exact ⟨by omega, Or.inl (by omega)⟩
  · have := (nI_leI (by omega) (by omega)).mp c2
    have := hs.1
    omega
  · have a1 : ¬ n - i = sz m r / 2 := fun z => c1 (by rw [z])
    omega
  · have a1 : ¬ m ≤ i := fun z => c2 (nI_le z (by omega))
    omega
  · have a1 : ¬ n - i = sz m r / 2 := fun z => c1 (by rw [z])
    have a2 : ¬ m ≤ i := fun z => c2 (nI_le z (by omega))
    have hk := hk0 (by omega)
    rw [nI_cl (show i < 2 ^ 31 by omega), hw i (by omega)]
    refine ok_if (fun c3 => ?_) (fun c3 => hsym ⟨by omega, Or.inr (by rw [← hk]; exact c3)⟩)
    exact hpair (fun hs => by
      rcases hs.2 with z | z
      · omega
      · exact z (by rw [← hk]; exact c3)) (by omega)
theorem s_join {σ : St} {m r : Nat} {w : Nat → Int64} {o : Nat → Nat} (hm : m ≤ 64) (hm1 : 1 ≤ m) (hr : r + 1 < 15) (h : RQ σ m w o r) : ok (f_Mo_join σ (nI (r + 1)) (nI m)) (fun σ1 => RQ σ1 m w o (r + 1) ∧ fr (fun f _ _ => f = 52 ∨ f = 53 ∨ f = 55) σ σ1) := by
  have hz := sz_lt hm1 r
  obtain ⟨h52, h55, h53⟩ := h
  have hw : ∀ i, i < m → σ.2.1 52 0 i = w i := fun i hi => by have := h52 0 (by omega) i hi; rw [Nat.mul_zero, Nat.zero_add] at this; exact this
  have ho : ∀ i, i < m → σ.1 53 0 i = nI (o i) := fun i hi => by
    have := h53 0 (by omega) i hi
    rw [Nat.mul_zero, Nat.zero_add] at this
    rw [this]
    show (if i + 1 = i then _ else nI (o i)) = nI (o i)
    rw [if_neg (by omega)]
  unfold f_Mo_join
  rw [nI_pred, nI_128', nI_cl (show r < 2 ^ 31 by omega), h55 r (Nat.le_refl _), show nI (sz m r) / 2 = nI (sz m r / 2) from nI_div (b := 2) (by omega) (by omega) (by omega), nI_cl (show r + 1 < 2 ^ 31 by omega)]
  refine ok_nm (fun x1 e1 => ok_gd (nI_ib (by omega) (by omega)) (ok_nm (fun x2 e2 => ?_)))
  rw [e1, e2]
  refine ok_b4 (Q := fun q => q.2.2.2 = nI (sz m (r + 1)) ∧ RJ σ q.1 m w o r (sz m (r + 1))) (ok_up (sz m (r + 1)) (fun n q => q.2.1 = nI (rN m w (r + 1) n) ∧ q.2.2.1 = nI (n - rN m w (r + 1) n) ∧ q.2.2.2 = nI n ∧ RJ σ q.1 m w o r n) ?_ ?_ 0 _ (Nat.zero_le _) ⟨rfl, rfl, rfl, fun k hk => absurd hk (by omega), fun k hk => absurd hk (by omega), fr.rf⟩) ?_
  · rintro n ⟨σ2, x, y, z⟩ hn ⟨rfl, rfl, rfl, q⟩
    dsimp only at q ⊢
    have hn' : n < m + sz m r / 2 := hn
    have fz := q.2.2
    obtain ⟨hle1, hle2, hle3⟩ := mg_le m (sz m r / 2) w (rP m w r) n
    have hle3 := hle3 (by omega)
    have hle1 : rN m w (r + 1) n ≤ n := hle1
    have hle2 : rN m w (r + 1) n ≤ m := hle2
    have hle3 : n - rN m w (r + 1) n ≤ sz m r / 2 := hle3
    have gw : ∀ i, i < m → σ2.2.1 52 0 i = w i := fun i hi => by rw [(fz.1 52 0 i (by omega)).2.1]; exact hw i hi
    have go : ∀ i, i < m → σ2.1 53 0 i = nI (o i) := fun i hi => by rw [fz.i (by omega)]; exact ho i hi
    have g52 : ∀ k, k < sz m r → σ2.2.1 52 0 (128 * r + k) = rW m w r k := fun k hk => by
      rw [(fz.1 52 0 (128 * r + k) (by omega)).2.1]; exact h52 r (by omega) k hk
    have h42 : ok (jn_Mo_join_42 (nI (r + 1)) (nI m) (nI (128 * r)) (nI (sz m r / 2)) σ2 (nI (rN m w (r + 1) n)) (nI (n - rN m w (r + 1) n)) (nI n)) (fun z => match z with | .inl q => q.2.1 = nI (rN m w (r + 1) (n + 1)) ∧ q.2.2.1 = nI (n + 1 - rN m w (r + 1) (n + 1)) ∧ q.2.2.2 = nI (n + 1) ∧ RJ σ q.1 m w o r (n + 1) | .inr _ => False) := by
      unfold jn_Mo_join_42
      refine ok_if (fun c => ?_) (fun c => ?_)
      · have c' := (nI_leI (by omega) (by omega)).mp c
        exact s_join78 hr hm gw go q rfl hle1 hn' (by omega) hle3 (fun z => absurd z (by omega)) _
      · have c' : ¬ sz m r / 2 ≤ n - rN m w (r + 1) n := fun z => c (nI_le z (by omega))
        rw [nI_2x, nI_add, nI_1, nI_cl (show 128 * r + 2 * (n - rN m w (r + 1) n) < 2 ^ 31 by omega), nI_cl (show 128 * r + 2 * (n - rN m w (r + 1) n) + 1 < 2 ^ 31 by omega), g52 _ (by omega), Nat.add_assoc (128 * r), g52 _ (by omega)]
        refine ok_gd (nI_ib (by omega) (by omega)) (ok_gd (nI_ib (by omega) (by omega)) ?_)
        exact s_join78 hr hm gw go q rfl hle1 hn' (by omega) hle3 (fun _ => rfl) _
    unfold lb_Mo_join_29
    refine ok_if (fun _ => h42.mono (fun z hz => by rcases z with z | z; exact hz; exact hz.elim)) (fun c => ok_f (fun d => ?_) (h42.mono (fun z hz => by rcases z with z | z; exact hz; exact hz.elim)))
    have c' : ¬ rN m w (r + 1) n < m := fun z => c (nI_lt z (by omega))
    have d' := (nI_leI (by omega) (by omega)).mp d
    omega
  · rintro ⟨σ2, x, y, z⟩ ⟨rfl, rfl, rfl, q⟩
    dsimp only at q ⊢
    obtain ⟨hle1, hle2, hle3⟩ := mg_le m (sz m r / 2) w (rP m w r) (sz m (r + 1))
    have hsz : sz m (r + 1) = m + sz m r / 2 := rfl
    have hle3 := hle3 (by omega)
    have hle2 : rN m w (r + 1) (sz m (r + 1)) ≤ m := hle2
    have hle3 : sz m (r + 1) - rN m w (r + 1) (sz m (r + 1)) ≤ sz m r / 2 := hle3
    unfold lb_Mo_join_29
    exact ok_f (nI_nlt (by omega) (by omega)) (ok_t (nI_le (by omega) (by omega)) (ok_some ⟨rfl, q⟩))
  · rintro σ12 x13 x14 x15 ⟨q0, q⟩
    dsimp only at q0 q
    have fz := q.2.2
    refine ok_gd (nI_ib hr (by omega)) (ok_nm (fun σ16 e16 => ok_some ?_))
    rw [q0] at e16
    refine ⟨⟨fun p hp k hk => ?_, fun p hp => ?_, fun p hp k hk => ?_⟩, ?_⟩
    · rw [e16, sI_L]
      by_cases hpr : p = r + 1
      · subst hpr
        exact q.1 k hk
      · have := sz_lt hm1 p
        rw [(fz.1 52 0 (128 * p + k) (by omega)).2.1]
        exact h52 p (by omega) k hk
    · rw [e16]
      by_cases hpr : p = r + 1
      · subst hpr
        rw [sI_at]
      · rw [sI_k hpr, fz.i (by omega)]
        exact h55 p (by omega)
    · rw [e16, sI_f (by omega)]
      by_cases hpr : p = r + 1
      · subst hpr
        exact q.2.1 k hk
      · have := sz_lt hm1 p
        rw [fz.i (by omega)]
        exact h53 p (by omega) k hk
    · rw [e16]
      exact (fz.mono (fun f i k z => by omega)).tr (fr_sI (by omega))
