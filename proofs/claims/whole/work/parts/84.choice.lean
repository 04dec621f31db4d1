/-! ===== the choice, class: counts, bits, best ===== -/
def prs (T : Nat → Nat) (x : Nat) : Nat → Nat
  | 0 => 0
  | k + 1 => if T k = x then 1 else prs T x k
def oc (T gc : Nat → Nat) (U c x : Nat) : Nat → Nat
  | 0 => 0
  | k + 1 => oc T gc U c x k + (if T k = x ∧ gc (k / U) = c then 1 else 0)
theorem prs_le (T : Nat → Nat) (x : Nat) : ∀ k, prs T x k ≤ 1
  | 0 => Nat.zero_le _
  | k + 1 => by
    have := prs_le T x k
    simp only [prs]
    split <;> omega
theorem prs_cnt (T : Nat → Nat) (x : Nat) : ∀ k, prs T x k = 0 ↔ cnt T x k = 0
  | 0 => Iff.rfl
  | k + 1 => by
    have := prs_cnt T x k
    simp only [prs, cnt]
    split <;> omega
theorem oc_le (T gc : Nat → Nat) (U c x : Nat) : ∀ k, oc T gc U c x k ≤ cnt T x k
  | 0 => Nat.le_refl _
  | k + 1 => by
    have := oc_le T gc U c x k
    simp only [oc, cnt]
    by_cases h : T k = x
    · rw [if_pos h]
      split <;> omega
    · rw [if_neg h, if_neg (fun z => h z.1)]
      omega
abbrev ofI (T gc : Nat → Nat) (n U c : Nat) : Nat → Int32 := fun x => nI (prs T x n + oc T gc U c x n)
theorem ordm_sg {g g' : Nat → Int32} : ∀ {n : Nat}, (∀ k, k < n → (g k ≤ 0 ↔ g' k ≤ 0)) → ordm g n = ordm g' n
  | 0, _ => rfl
  | n + 1, h => by
    have ih := ordm_sg (n := n) (fun k hk => h k (by omega))
    have hn := h n (by omega)
    simp only [ordm]
    rw [ih]
    by_cases c : g n ≤ 0
    · rw [if_pos c, if_pos (hn.mp c)]
    · rw [if_neg c, if_neg (fun z => c (hn.mpr z))]
theorem nI_z {a : Nat} (h : a < 2 ^ 31) : nI a ≤ 0 ↔ a = 0 := by
  have := nI_leI (a := a) (b := 0) h (by omega)
  exact this.trans (by omega)
theorem ordm_ofI {T gc : Nat → Nat} {n U c : Nat} (hn : n ≤ 1000) : ordm (ofI T gc n U c) 64 = ordm (fun x => nI (cnt T x n)) 64 := by
  refine ordm_sg (fun x _ => ?_)
  have h1 := prs_le T x n
  have h2 := prs_cnt T x n
  have h3 := oc_le T gc U c x n
  have h4 := cnt_le T x n
  show nI (prs T x n + oc T gc U c x n) ≤ 0 ↔ nI (cnt T x n) ≤ 0
  rw [nI_z (by omega), nI_z (by omega)]
  omega
theorem dvg {g U i : Nat} (h1 : g * U ≤ i) (h2 : i < (g + 1) * U) : i / U = g := Nat.div_eq_of_lt_le h1 h2
theorem oc_grp {T gc : Nat → Nat} {U c x g : Nat} (h : gc g ≠ c) : ∀ d, d ≤ U → oc T gc U c x (g * U + d) = oc T gc U c x (g * U)
  | 0, _ => rfl
  | d + 1, hd => by
    have hm : (g + 1) * U = g * U + U := Nat.succ_mul g U
    show oc T gc U c x (g * U + d) + (if T (g * U + d) = x ∧ gc ((g * U + d) / U) = c then 1 else 0) = _
    have hd2 : (g * U + d) / U = g := dvg (by omega) (by omega)
    rw [oc_grp h d (by omega), hd2, if_neg (fun z => h z.2), Nat.add_zero]
def chN (n U t G : Nat) (T : Nat → Nat) : Prop := n ≤ 1000 ∧ 1 ≤ U ∧ U ≤ 100 ∧ 1 ≤ t ∧ t ≤ 6 ∧ G ≤ 1000 ∧ n ≤ G * U ∧ (∀ g, g < G → g * U < n) ∧ ∀ k, k < n → T k < 64
def chC (σ : St) (n U t G : Nat) (T : Nat → Nat) : Prop := σ.1 30 0 1 = nI n ∧ σ.1 30 0 2 = nI U ∧ σ.1 30 0 3 = nI G ∧ σ.1 30 0 6 = nI t ∧ ∀ k, k < n → σ.1 31 0 k = nI (T k)
theorem chC.go {σ σ1 : St} {n U t G : Nat} {T : Nat → Nat} (h : chC σ n U t G T) (h1 : σ1.1 30 0 = σ.1 30 0) (h2 : σ1.1 31 0 = σ.1 31 0) : chC σ1 n U t G T := by
  unfold chC at *
  rw [h1, h2]
  exact h
theorem grpB {g G U : Nat} (hg : g < G) (hG : G ≤ 1000) (hU : U ≤ 100) : (g + 1) * U = g * U + U ∧ (g + 1) * U ≤ 100000 := ⟨Nat.succ_mul g U, Nat.mul_le_mul (show g + 1 ≤ 1000 by omega) hU⟩
theorem e_endOf {σ : St} {n U t G g : Nat} {T : Nat → Nat} (h : chC σ n U t G T) (hN : chN n U t G T) (hg : g < G) : f_Choice_endOf σ (nI g) = some (σ, nI (min ((g + 1) * U) n)) := by
  obtain ⟨n1, n2, n3, n4, n5, n6, n7, n8, n9⟩ := hN
  obtain ⟨b1, b2⟩ := grpB hg n6 n3
  unfold f_Choice_endOf
  rw [h.1, h.2.1, nI_1, pk_mul, jminN (by omega) (by omega)]
theorem s_cf10 {σ : St} {n U t G : Nat} {T : Nat → Nat} {a1 : Int32} (hN : chN n U t G T) (h : chC σ n U t G T) (h34 : ∀ x, x < 64 → σ.1 34 0 x = 0) : ok (lpE (fun q => lb_Choice_countFor_10 a1 q.1 q.2) (σ, 0)) (fun q => (∀ x, x < 64 → q.1.1 34 0 x = nI (prs T x n)) ∧ fr (Ffi 34 0) σ q.1) := by
  obtain ⟨n1, n2, n3, n4, n5, n6, n7, n8, n9⟩ := hN
  refine ok_up n (fun k q => q.2 = nI k ∧ (∀ x, x < 64 → q.1.1 34 0 x = nI (prs T x k)) ∧ fr (Ffi 34 0) σ q.1) ?_ ?_ 0 _ (Nat.zero_le _) ⟨rfl, fun x hx => h34 x hx, fr.rf⟩
  · rintro k ⟨σ2, x⟩ hk ⟨rfl, q1, q2⟩
    dsimp only at q1 q2 ⊢
    have h' : chC σ2 n U t G T := h.go (q2.fi (fun _ => by omega)) (q2.fi (fun _ => by omega))
    have hT := n9 k hk
    unfold lb_Choice_countFor_10
    rw [h'.1, nI_cl (show k < 2 ^ 31 by omega), h'.2.2.2.2 k hk, nI_cl (show T k < 2 ^ 31 by omega)]
    refine ok_f (nI_ge hk (by omega)) (ok_gd (nI_ib (by omega) (by omega)) (ok_gd (nI_ib hT (by omega)) (ok_nm (fun σ3 e3 => ok_nm (fun x3 ex => ok_some ⟨by dsimp only; rw [ex, nI_1], fun x hx => ?_, ?_⟩)))))
    · dsimp only
      rw [e3]
      by_cases hxt : x = T k
      · subst hxt
        rw [sI_at]
        simp only [prs, if_true]
        rfl
      · rw [sI_k hxt, q1 x hx]
        simp only [prs]
        rw [if_neg (fun z => hxt z.symm)]
    · rw [e3]
      exact q2.tr (fr_sI ⟨rfl, rfl⟩)
  · rintro ⟨σ2, x⟩ ⟨rfl, q1, q2⟩
    dsimp only at q1 q2 ⊢
    unfold lb_Choice_countFor_10
    rw [show σ2.1 30 0 1 = nI n by rw [q2.i (by omega)]; exact h.1]
    exact ok_t (nI_le (Nat.le_refl _) (by omega)) (ok_some ⟨q1, q2⟩)
theorem s_cf63 {σ : St} {n U t G g c : Nat} {T gc : Nat → Nat} {a1 : Int32} (hN : chN n U t G T) (h : chC σ n U t G T) (hg : g < G) (hc : gc g = c) (h34 : ∀ x, x < 64 → σ.1 34 0 x = nI (prs T x n + oc T gc U c x (g * U))) : ok (lpE (fun q => lb_Choice_countFor_63 a1 (nI g) q.1 q.2) (σ, nI (g * U))) (fun q => (∀ x, x < 64 → q.1.1 34 0 x = nI (prs T x n + oc T gc U c x (min ((g + 1) * U) n))) ∧ fr (Ffi 34 0) σ q.1) := by
  have hN0 := hN
  obtain ⟨n1, n2, n3, n4, n5, n6, n7, n8, n9⟩ := hN
  obtain ⟨b1, b2⟩ := grpB hg n6 n3
  have b3 := n8 g hg
  refine ok_up (min ((g + 1) * U) n) (fun i q => q.2 = nI i ∧ g * U ≤ i ∧ (∀ x, x < 64 → q.1.1 34 0 x = nI (prs T x n + oc T gc U c x i)) ∧ fr (Ffi 34 0) σ q.1) ?_ ?_ (g * U) _ (by omega) ⟨rfl, Nat.le_refl _, fun x hx => h34 x hx, fr.rf⟩
  · rintro i ⟨σ2, x⟩ hi ⟨rfl, q0, q1, q2⟩
    dsimp only at q0 q1 q2 ⊢
    have h' : chC σ2 n U t G T := h.go (q2.fi (fun _ => by omega)) (q2.fi (fun _ => by omega))
    have hT := n9 i (by omega)
    unfold lb_Choice_countFor_63
    refine ok_b2e (e_endOf h' hN0 hg) ?_
    rw [nI_cl (show i < 2 ^ 31 by omega), h'.2.2.2.2 i (by omega), nI_cl (show T i < 2 ^ 31 by omega), q1 (T i) hT, nI_1]
    refine ok_f (nI_ge hi (by omega)) (ok_gd (nI_ib (by omega) (by omega)) (ok_gd (nI_ib hT (by omega)) (ok_gd (nI_ib hT (by omega)) (ok_nm (fun σ3 e3 => ok_nm (fun x3 ex => ok_some ⟨by dsimp only; rw [ex, nI_1], Nat.le_succ_of_le q0, fun x hx => ?_, ?_⟩))))))
    · dsimp only
      rw [e3]
      by_cases hxt : x = T i
      · subst hxt
        rw [sI_at]
        simp only [oc]
        rw [if_pos ⟨trivial, by rw [dvg q0 (by omega)]; exact hc⟩]
        rfl
      · rw [sI_k hxt, q1 x hx]
        simp only [oc]
        rw [if_neg (fun z => hxt z.1.symm), Nat.add_zero]
    · rw [e3]
      exact q2.tr (fr_sI ⟨rfl, rfl⟩)
  · rintro ⟨σ2, x⟩ ⟨rfl, q0, q1, q2⟩
    dsimp only at q0 q1 q2 ⊢
    have h' : chC σ2 n U t G T := h.go (q2.fi (fun _ => by omega)) (q2.fi (fun _ => by omega))
    unfold lb_Choice_countFor_63
    refine ok_b2e (e_endOf h' hN0 hg) ?_
    exact ok_t (nI_le (Nat.le_refl _) (by omega)) (ok_some ⟨q1, q2⟩)
abbrev gcC (σ : St) (G : Nat) (gc : Nat → Nat) : Prop := ∀ g, g < G → σ.1 32 0 g = nI (gc g)
theorem s_countFor {σ : St} {n U t G c : Nat} {T gc : Nat → Nat} (hN : chN n U t G T) (h : chC σ n U t G T) (hgc : gcC σ G gc) (hlt : ∀ g, g < G → gc g < t) (hc : c < t) : ok (f_Choice_countFor σ (nI c)) (fun σ1 => (∀ x, x < 64 → σ1.1 34 0 x = ofI T gc n U c x) ∧ fr (Ffi 34 0) σ σ1) := by
  have hN0 := hN
  obtain ⟨n1, n2, n3, n4, n5, n6, n7, n8, n9⟩ := hN
  unfold f_Choice_countFor
  refine ok_b1 (s_fill (by omega) 0) (fun σ1 e1 => ?_)
  have f1 : fr (Ffi 34 0) σ σ1 := by rw [e1]; exact fr_flI (fun _ => ⟨rfl, rfl⟩)
  have h1 : chC σ1 n U t G T := h.go (f1.fi (fun _ => by omega)) (f1.fi (fun _ => by omega))
  refine ok_b2 (s_cf10 hN0 h1 (fun x hx => by rw [e1, flI_at hx])) (fun σ4 x5 h4 => ?_)
  obtain ⟨p1, p2⟩ := h4
  dsimp only at p1 p2
  have f4 := f1.tr p2
  refine ok_b2 (Q := fun q => (∀ x, x < 64 → q.1.1 34 0 x = ofI T gc n U c x) ∧ fr (Ffi 34 0) σ q.1) (ok_up G (fun g q => q.2 = nI g ∧ (∀ x, x < 64 → q.1.1 34 0 x = nI (prs T x n + oc T gc U c x (min (g * U) n))) ∧ fr (Ffi 34 0) σ q.1) ?_ ?_ 0 _ (Nat.zero_le _) ⟨rfl, fun x hx => ?_, f4⟩) (fun σ15 x16 hq => ok_some hq)
  · rintro g ⟨σ2, x⟩ hg ⟨rfl, q1, q2⟩
    dsimp only at q1 q2 ⊢
    obtain ⟨b1, b2⟩ := grpB hg n6 n3
    have b3 := n8 g hg
    have h' : chC σ2 n U t G T := h.go (q2.fi (fun _ => by omega)) (q2.fi (fun _ => by omega))
    have hgl := hlt g hg
    rw [Nat.min_eq_left (by omega)] at q1
    unfold lb_Choice_countFor_38
    rw [h'.2.2.1, nI_cl (show g < 2 ^ 31 by omega), show σ2.1 32 0 g = nI (gc g) by rw [q2.i (by omega)]; exact hgc g hg, h'.2.1, pk_mul]
    refine ok_f (nI_ge hg (by omega)) (ok_gd (nI_ib (by omega) (by omega)) (ok_if (fun d => ok_nm (fun x7 e7 => ?_)) (fun d => ok_nm (fun x6 e6 => ok_some ⟨by dsimp only; rw [e6, nI_1], fun x hx => ?_, q2⟩))))
    · have d' := (nI_eq (by omega) (by omega)).mp d
      subst e7
      refine ok_b2 (s_cf63 hN0 h' hg d' q1) (fun σ12 x13 h12 => ok_nm (fun x14 e14 => ok_some ⟨by dsimp only; rw [e14, nI_1], h12.1, q2.tr h12.2⟩))
    · dsimp only
      rw [q1 x hx]
      have hz := oc_grp (T := T) (gc := gc) (U := U) (c := c) (x := x) (g := g) (fun z => d (by rw [z])) (min ((g + 1) * U) n - g * U) (by omega)
      rw [show g * U + (min ((g + 1) * U) n - g * U) = min ((g + 1) * U) n by omega] at hz
      rw [hz]
  · rintro ⟨σ2, x⟩ ⟨rfl, q1, q2⟩
    dsimp only at q1 q2 ⊢
    rw [Nat.min_eq_right n7] at q1
    unfold lb_Choice_countFor_38
    rw [show σ2.1 30 0 3 = nI G by rw [q2.i (by omega)]; exact h.2.2.1]
    exact ok_t (nI_le (Nat.le_refl _) (by omega)) (ok_some ⟨q1, q2⟩)
  · dsimp only
    rw [p1 x hx, Nat.zero_mul, Nat.zero_min]
    rfl
/-! bits of a group by a code; the best code -/
def bts (L T : Nat → Nat) (a : Nat) : Nat → Nat
  | 0 => 0
  | d + 1 => bts L T a d + L (T (a + d))
theorem bts_le {L T : Nat → Nat} {a : Nat} : ∀ {d : Nat}, (∀ i, i < d → L (T (a + i)) ≤ 15) → bts L T a d ≤ 15 * d
  | 0, _ => Nat.le_refl _
  | d + 1, h => by
    have := bts_le (d := d) (fun i hi => h i (by omega))
    have := h d (by omega)
    simp only [bts]
    omega
theorem bts_congr {L L' T : Nat → Nat} {a : Nat} : ∀ {d : Nat}, (∀ i, i < d → L (T (a + i)) = L' (T (a + i))) → bts L T a d = bts L' T a d
  | 0, _ => rfl
  | d + 1, h => by
    simp only [bts]
    rw [bts_congr (d := d) (fun i hi => h i (by omega)), h d (by omega)]
def bs (b : Nat → Nat) : Nat → Nat
  | 0 => 0
  | k + 1 => if b (bs b k) ≤ b (k + 1) then bs b k else k + 1
theorem bs_le (b : Nat → Nat) : ∀ k, bs b k ≤ k
  | 0 => Nat.le_refl _
  | k + 1 => by
    have := bs_le b k
    simp only [bs]
    split <;> omega
abbrev gln (n U g : Nat) : Nat := min ((g + 1) * U) n - g * U
abbrev bcg (LL : Nat → Nat → Nat) (T : Nat → Nat) (n U g : Nat) : Nat → Nat := fun c => bts (LL c) T (g * U) (gln n U g)
abbrev rgc (LL : Nat → Nat → Nat) (T : Nat → Nat) (n U t : Nat) : Nat → Nat := fun g => bs (bcg LL T n U g) (t - 1)
def kC (σ : St) (q t : Nat) (LL : Nat → Nat → Nat) : Prop := ∀ c, c < t → σ.2.2.1 33 0 c = some (q + c) ∧ LN σ (q + c) 64 (LL c)
theorem kC.go {σ σ1 : St} {q t : Nat} {LL : Nat → Nat → Nat} (h : kC σ q t LL) (h1 : σ1.2.2.1 33 0 = σ.2.2.1 33 0) (h2 : σ1.1 41 = σ.1 41) (h3 : σ1.1 42 = σ.1 42) : kC σ1 q t LL := fun c hc => ⟨by rw [h1]; exact (h c hc).1, (h c hc).2.go (by rw [h2]) (by rw [h3])⟩
theorem e_bitsBy {σ : St} {n U t G g c q : Nat} {T : Nat → Nat} {LL : Nat → Nat → Nat} (hN : chN n U t G T) (h : chC σ n U t G T) (hk : kC σ q t LL) (hg : g < G) (hc : c < t) : ok (f_Choice_bitsBy σ (nI c) (nI g)) (fun o => o = (σ, nI (bcg LL T n U g c)) ∧ bcg LL T n U g c ≤ 15000) := by
  have hN0 := hN
  obtain ⟨n1, n2, n3, n4, n5, n6, n7, n8, n9⟩ := hN
  obtain ⟨b1, b2⟩ := grpB hg n6 n3
  have b3 := n8 g hg
  have hgl : gln n U g = min ((g + 1) * U) n - g * U := rfl
  obtain ⟨k1, k2, k3, k4⟩ := hk c hc
  have hB : bcg LL T n U g c ≤ 15 * gln n U g := bts_le (fun i hi => (k4 _ (n9 _ (by omega))).2)
  unfold f_Choice_bitsBy
  refine ok_gd (nI_ib (by omega) (by omega)) ?_
  rw [nI_cl (show c < 2 ^ 31 by omega)]
  refine ok_on k1 ?_
  rw [h.2.1, pk_mul]
  refine ok_nm (fun x2 e2 => ?_)
  subst e2
  refine ok_b3 (Q := fun p => p.1 = σ ∧ p.2.1 = nI (bcg LL T n U g c)) (ok_up (gln n U g) (fun d p => p = (σ, nI (bts (LL c) T (g * U) d), nI (g * U + d))) ?_ ?_ 0 _ (Nat.zero_le _) rfl) (fun σ7 x8 x9 hq => ok_some ?_)
  · rintro d _ hd rfl
    dsimp only
    have hT := n9 (g * U + d) (by omega)
    unfold lb_Choice_bitsBy_24
    refine ok_b2e (e_endOf h hN0 hg) ?_
    rw [nI_cl (show g * U + d < 2 ^ 31 by omega), h.2.2.2.2 _ (show g * U + d < n by omega), nI_cl (show T (g * U + d) < 2 ^ 31 by omega), (k4 _ hT).1, nI_add, nI_1]
    exact ok_f (nI_ge (by omega) (by omega)) (ok_gd (nI_ib (by omega) (by omega)) (ok_gd (nI_ib hT (by omega)) (ok_nm (fun x5 e5 => ok_nm (fun x6 e6 => ok_some (by rw [e5, e6]; rfl))))))
  · rintro _ rfl
    dsimp only
    unfold lb_Choice_bitsBy_24
    refine ok_b2e (e_endOf h hN0 hg) ?_
    exact ok_t (nI_le (by omega) (by omega)) (ok_some ⟨rfl, rfl⟩)
  · obtain ⟨q1, q2⟩ := hq
    dsimp only at q1 q2
    rw [q1, q2]
    exact ⟨rfl, by omega⟩
theorem s_regroup {σ : St} {n U t G q : Nat} {T : Nat → Nat} {LL : Nat → Nat → Nat} (hN : chN n U t G T) (h : chC σ n U t G T) (hk : kC σ q t LL) : ok (f_Choice_regroup σ) (fun σ1 => gcC σ1 G (rgc LL T n U t) ∧ fr (Ffi 32 0) σ σ1) := by
  have hN0 := hN
  obtain ⟨n1, n2, n3, n4, n5, n6, n7, n8, n9⟩ := hN
  unfold f_Choice_regroup
  refine ok_b2 (Q := fun p => gcC p.1 G (rgc LL T n U t) ∧ fr (Ffi 32 0) σ p.1) (ok_up G (fun g p => p.2 = nI g ∧ gcC p.1 g (rgc LL T n U t) ∧ fr (Ffi 32 0) σ p.1) ?_ ?_ 0 _ (Nat.zero_le _) ⟨rfl, fun g hg => absurd hg (by omega), fr.rf⟩) (fun σ13 x14 hq => ok_some hq)
  · rintro g ⟨σ2, x⟩ hg ⟨rfl, q1, q2⟩
    dsimp only at q1 q2 ⊢
    have h' : chC σ2 n U t G T := h.go (q2.fi (fun _ => by omega)) (q2.fi (fun _ => by omega))
    have hk' : kC σ2 q t LL := hk.go (q2.ri (fun _ => by omega)) (funext fun i => q2.fi (fun _ => by omega)) (funext fun i => q2.fi (fun _ => by omega))
    unfold lb_Choice_regroup_2
    rw [h'.2.2.1]
    refine ok_f (nI_ge hg (by omega)) (ok_b2 (e_bitsBy (c := 0) hN0 h' hk' hg (by omega)) (fun σ1 x2 h1 => ?_))
    obtain ⟨h1, hb0⟩ := h1
    cases h1
    generalize hbb : bcg LL T n U g = b at hb0 ⊢
    refine ok_b4 (Q := fun p => p.1 = σ2 ∧ p.2.1 = nI (bs b (t - 1))) (ok_up (t - 1) (fun k p => p = (σ2, nI (bs b k), nI (b (bs b k)), nI (k + 1))) ?_ ?_ 0 _ (Nat.zero_le _) rfl) (fun σ7 x8 x9 x10 h7 => ?_)
    · rintro k _ hkt rfl
      dsimp only
      have hb1 := e_bitsBy (c := bs b k) hN0 h' hk' hg (by have := bs_le b k; omega)
      obtain ⟨_, _, _, hb1⟩ := hb1
      rw [hbb] at hb1
      unfold lb_Choice_regroup_22
      rw [h'.2.2.2.1]
      refine ok_f (nI_ge (by omega) (by omega)) (ok_b2 (e_bitsBy (c := k + 1) hN0 h' hk' hg (by omega)) (fun σ3 x4 h3 => ?_))
      obtain ⟨h3, hb2⟩ := h3
      cases h3
      rw [hbb] at hb2 ⊢
      refine ok_if (fun d => ok_nm (fun x5 e5 => ok_some ?_)) (fun d => ok_nm (fun x6 e6 => ok_some ?_))
      · have d' := (nI_leI (by omega) (by omega)).mp d
        dsimp only
        simp only [bs]
        rw [if_pos d', e5, nI_1]
      · have d' : ¬ b (bs b k) ≤ b (k + 1) := fun z => d (nI_le z (by omega))
        dsimp only
        simp only [bs]
        rw [if_neg d', e6, nI_1]
    · rintro _ rfl
      dsimp only
      unfold lb_Choice_regroup_22
      rw [h'.2.2.2.1]
      exact ok_t (nI_le (by omega) (by omega)) (ok_some ⟨rfl, rfl⟩)
    · obtain ⟨h7, h8⟩ := h7
      dsimp only at h7 h8
      subst h7
      rw [nI_cl (show g < 2 ^ 31 by omega)]
      refine ok_gd (nI_ib (by omega) (by omega)) (ok_nm (fun σ11 e11 => ok_nm (fun x12 e12 => ok_some ⟨by dsimp only; rw [e12, nI_1], fun g' hg' => ?_, ?_⟩)))
      · dsimp only
        rw [e11]
        by_cases hgg : g' = g
        · subst hgg
          rw [sI_at, h8]
          show _ = nI (bs (bcg LL T n U g') (t - 1))
          rw [hbb]
        · rw [sI_k hgg]
          exact q1 g' (by omega)
      · rw [e11]
        exact q2.tr (fr_sI ⟨rfl, rfl⟩)
  · rintro ⟨σ2, x⟩ ⟨rfl, q1, q2⟩
    dsimp only at q1 q2 ⊢
    unfold lb_Choice_regroup_2
    rw [show σ2.1 30 0 3 = nI G by rw [q2.i (by omega)]; exact h.2.2.1]
    exact ok_t (nI_le (Nat.le_refl _) (by omega)) (ok_some ⟨q1, q2⟩)
/-! fitCodes and settle -/
abbrev fLL (T gc : Nat → Nat) (n U l : Nat) : Nat → Nat → Nat := fun c => pkL (ofI T gc n U c) 64 l
abbrev Fch (q t : Nat) : Nat → Nat → Nat → Prop := fun f i k => f = 34 ∨ f = 32 ∨ (f = 5 ∧ k = 2) ∨ f = 6 ∨ f = 7 ∨ f = 9 ∨ f = 10 ∨ f = 12 ∨ (q ≤ i ∧ i < q + t ∧ ((42 ≤ f ∧ f ≤ 47) ∨ (f = 41 ∧ 7 ≤ k ∧ k ≤ 10)))
abbrev Fc1 (q t : Nat) : Nat → Nat → Nat → Prop := fun f i k => f = 34 ∨ (f = 5 ∧ k = 2) ∨ f = 6 ∨ f = 7 ∨ f = 9 ∨ f = 10 ∨ f = 12 ∨ (q ≤ i ∧ i < q + t ∧ ((42 ≤ f ∧ f ≤ 47) ∨ (f = 41 ∧ 7 ≤ k ∧ k ≤ 10)))
def rC (σ : St) (q t : Nat) : Prop := PKs σ ∧ ∀ c, c < t → σ.2.2.1 33 0 c = some (q + c) ∧ σ.1 41 (q + c) 0 = nI 64
theorem rC.go {σ σ1 : St} {q t : Nat} (h : rC σ q t) (hf : fr (Fch q t) σ σ1) : rC σ1 q t := ⟨h.1.go (hf.ri (fun _ => by omega)) (hf.ri (fun _ => by omega)), fun c hc => ⟨by rw [hf.ri (fun _ => by omega)]; exact (h.2 c hc).1, by rw [hf.i (by omega)]; exact (h.2 c hc).2⟩⟩
theorem s_fitCodes {σ : St} {n U t G l q : Nat} {T gc : Nat → Nat} (hN : chN n U t G T) (h : chC σ n U t G T) (hgc : gcC σ G gc) (hlt : ∀ g, g < G → gc g < t) (hr : rC σ q t) (hl1 : 1 ≤ l) (hl : l ≤ 15) (hw : ordm (fun x => nI (cnt T x n)) 64 ≤ 2 ^ l) : ok (f_Choice_fitCodes σ (nI l)) (fun σ1 => (∀ c, c < t → CK σ1 (q + c) 64 (fLL T gc n U l c)) ∧ fr (Fc1 q t) σ σ1) := by
  have hN0 := hN
  obtain ⟨n1, n2, n3, n4, n5, n6, n7, n8, n9⟩ := hN
  unfold f_Choice_fitCodes
  refine ok_b2 (Q := fun p => (∀ c, c < t → CK p.1 (q + c) 64 (fLL T gc n U l c)) ∧ fr (Fc1 q t) σ p.1) (ok_up t (fun c p => p.2 = nI c ∧ (∀ c', c' < c → CK p.1 (q + c') 64 (fLL T gc n U l c')) ∧ fr (Fc1 q t) σ p.1) ?_ ?_ 0 _ (Nat.zero_le _) ⟨rfl, fun g hg => absurd hg (by omega), fr.rf⟩) (fun σ13 x14 hq => ok_some hq)
  · rintro c ⟨σ2, x⟩ hc ⟨rfl, q1, q2⟩
    dsimp only at q1 q2 ⊢
    have h' : chC σ2 n U t G T := h.go (q2.fi (fun _ => by omega)) (q2.fi (fun _ => by omega))
    have hgc' : gcC σ2 G gc := fun g hg => by rw [q2.i (by omega)]; exact hgc g hg
    have hr' : rC σ2 q t := hr.go (q2.mono (fun f i k z => by omega))
    unfold lb_Choice_fitCodes_2
    rw [h'.2.2.2.1]
    refine ok_f (nI_ge hc (by omega)) (ok_b1 (s_countFor hN0 h' hgc' hlt hc) (fun σ1 h1 => ?_))
    obtain ⟨p1, p2⟩ := h1
    have f1 : fr (Fc1 q t) σ σ1 := q2.tr (p2.mono (fun f i k z => by omega))
    have hr1 : rC σ1 q t := hr.go (f1.mono (fun f i k z => by omega))
    obtain ⟨r1, r2⟩ := hr1.2 c hc
    rw [nI_cl (show c < 2 ^ 31 by omega)]
    refine ok_gd (nI_ib (by omega) (by omega)) (ok_on r1 (ok_gd (nI_ib (by omega) (by omega)) (ok_on r1 ?_)))
    refine ok_b1 (s_fit (g := ofI T gc n U c) (s := 64) hr1.1 r2 (Nat.le_refl _) (Nat.le_refl _) (Or.inl ⟨by omega, by omega⟩) p1 hl1 hl (by rw [ordm_ofI n1]; exact hw)) (fun σ4 h4 => ok_nm (fun x5 e5 => ok_some ⟨by dsimp only; rw [e5, nI_1], fun c' hc' => ?_, ?_⟩))
    · dsimp only
      by_cases hcc : c' = c
      · subst hcc
        exact h4.1
      · exact ((q1 c' (by omega)).go (fun f u v => p2.fi (fun _ => by omega))).go (fun f u v => h4.2.fi (fun _ => by omega))
    · exact f1.tr (h4.2.mono (fun f i k z => by omega))
  · rintro ⟨σ2, x⟩ ⟨rfl, q1, q2⟩
    dsimp only at q1 q2 ⊢
    unfold lb_Choice_fitCodes_2
    rw [show σ2.1 30 0 6 = nI t by rw [q2.i (by omega)]; exact h.2.2.2.1]
    exact ok_t (nI_le (Nat.le_refl _) (by omega)) (ok_some ⟨q1, q2⟩)
def itr (T : Nat → Nat) (n U t l : Nat) (gc : Nat → Nat) : Nat → Nat → Nat
  | 0 => gc
  | r + 1 => rgc (fLL T (itr T n U t l gc r) n U l) T n U t
theorem itr_lt {T : Nat → Nat} {n U t l G : Nat} {gc : Nat → Nat} (ht : 1 ≤ t) (h : ∀ g, g < G → gc g < t) : ∀ r g, g < G → itr T n U t l gc r g < t
  | 0, g, hg => h g hg
  | r + 1, g, hg => by
    have := bs_le (bcg (fLL T (itr T n U t l gc r) n U l) T n U g) (t - 1)
    show bs (bcg (fLL T (itr T n U t l gc r) n U l) T n U g) (t - 1) < t
    omega
theorem s_settleC {σ : St} {n U t G l q a : Nat} {T gc : Nat → Nat} (hN : chN n U t G T) (h : chC σ n U t G T) (hgc : gcC σ G gc) (hlt : ∀ g, g < G → gc g < t) (hr : rC σ q t) (hl1 : 1 ≤ l) (hl : l ≤ 15) (hw : ordm (fun x => nI (cnt T x n)) 64 ≤ 2 ^ l) (ha : a ≤ 8) : ok (f_Choice_settle σ (nI l) (nI a)) (fun σ1 => gcC σ1 G (itr T n U t l gc a) ∧ (∀ c, c < t → CK σ1 (q + c) 64 (fLL T (itr T n U t l gc a) n U l c)) ∧ fr (Fch q t) σ σ1) := by
  have hN0 := hN
  obtain ⟨n1, n2, n3, n4, n5, n6, n7, n8, n9⟩ := hN
  have hLt := itr_lt (T := T) (n := n) (U := U) (l := l) n4 hlt
  unfold f_Choice_settle
  refine ok_b2 (Q := fun p => gcC p.1 G (itr T n U t l gc a) ∧ fr (Fch q t) σ p.1) (ok_up a (fun r p => p.2 = nI r ∧ gcC p.1 G (itr T n U t l gc r) ∧ fr (Fch q t) σ p.1) ?_ ?_ 0 _ (Nat.zero_le _) ⟨rfl, hgc, fr.rf⟩) ?_
  · rintro r ⟨σ2, x⟩ hra ⟨rfl, q1, q2⟩
    dsimp only at q1 q2 ⊢
    have h' : chC σ2 n U t G T := h.go (q2.fi (fun _ => by omega)) (q2.fi (fun _ => by omega))
    unfold lb_Choice_settle_3
    refine ok_f (nI_ge hra (by omega)) (ok_b1 (s_fitCodes hN0 h' q1 (hLt r) (hr.go q2) hl1 hl hw) (fun σ1 h1 => ?_))
    obtain ⟨p1, p2⟩ := h1
    have f1 : fr (Fch q t) σ σ1 := q2.tr (p2.mono (fun f i k z => by omega))
    have hr1 := hr.go f1
    refine ok_b1 (s_regroup (LL := fLL T (itr T n U t l gc r) n U l) hN0 (h'.go (p2.fi (fun _ => by omega)) (p2.fi (fun _ => by omega))) (fun c hc => ⟨(hr1.2 c hc).1, (p1 c hc).1⟩)) (fun σ4 h4 => ok_nm (fun x3 e3 => ok_some ⟨by dsimp only; rw [e3, nI_1], h4.1, f1.tr (h4.2.mono (fun f i k z => by omega))⟩))
  · rintro ⟨σ2, x⟩ ⟨rfl, q1, q2⟩
    unfold lb_Choice_settle_3
    exact ok_t (nI_le (Nat.le_refl _) (by omega)) (ok_some ⟨q1, q2⟩)
  · rintro σ4 x5 ⟨q1, q2⟩
    dsimp only at q1 q2
    have h' : chC σ4 n U t G T := h.go (q2.fi (fun _ => by omega)) (q2.fi (fun _ => by omega))
    refine ok_b1 (s_fitCodes hN0 h' q1 (hLt a) (hr.go q2) hl1 hl hw) (fun σ6 h6 => ok_some ⟨fun g hg => ?_, h6.1, q2.tr (h6.2.mono (fun f i k z => by omega))⟩)
    rw [h6.2.i (by omega)]
    exact q1 g hg
/-! begin -/
theorem grpN {n U G : Nat} (h1 : 1 ≤ U) (hn : 1 ≤ n) (hG : G = (n + U - 1) / U) : n ≤ G * U ∧ (∀ g, g < G → g * U < n) ∧ 1 ≤ G ∧ G ≤ n := by
  subst hG
  have e := Nat.div_add_mod (n + U - 1) U
  have r := Nat.mod_lt (n + U - 1) (show U > 0 by omega)
  generalize (n + U - 1) / U = G at *
  rw [Nat.mul_comm] at e
  refine ⟨by omega, fun g hg => ?_, ?_, ?_⟩
  · have : (g + 1) * U ≤ G * U := Nat.mul_le_mul_right U (by omega)
    rw [Nat.succ_mul] at this
    omega
  · rcases Nat.eq_zero_or_pos G with z | z
    · subst z
      rw [Nat.zero_mul] at e
      omega
    · exact z
  · have : G * 1 ≤ G * U := Nat.mul_le_mul_left G h1
    rcases Nat.eq_zero_or_pos G with z | z
    · omega
    · have z2 : (G - 1 + 1) * U = (G - 1) * U + U := Nat.succ_mul _ _
      have z3 : (G - 1) * 1 ≤ (G - 1) * U := Nat.mul_le_mul_left _ h1
      rw [show G - 1 + 1 = G by omega] at z2
      omega
abbrev gc0 (t G : Nat) : Nat → Nat := fun g => g * t / G
theorem gc0_lt {t G g : Nat} (ht : 1 ≤ t) (hg : g < G) : gc0 t G g < t := by
  show g * t / G < t
  rw [Nat.div_lt_iff_lt_mul (by omega), Nat.mul_comm]
  exact (Nat.mul_lt_mul_left (by omega)).mpr hg
abbrev Fcb : Nat → Nat → Nat → Prop := fun f _ k => (f = 30 ∧ (k = 1 ∨ k = 2 ∨ k = 3 ∨ k = 6)) ∨ f = 31 ∨ f = 32
theorem s_choiceBegin {σ : St} {n U t : Nat} {T : Nat → Nat} (hT : TXc σ n T) (hn : 1 ≤ n) (hU : 1 ≤ U) (hU2 : U ≤ 100) (ht : 1 ≤ t) (ht2 : t ≤ 6) : ok (f_Choice_begin σ (nI t) (nI U)) (fun σ1 => chC σ1 n U t ((n + U - 1) / U) T ∧ gcC σ1 ((n + U - 1) / U) (gc0 t ((n + U - 1) / U)) ∧ fr Fcb σ σ1) := by
  obtain ⟨t1, t2, t3⟩ := hT
  obtain ⟨g1, g2, g3, g4⟩ := grpN hU hn rfl
  unfold f_Choice_begin
  rw [t1]
  refine ok_nm (fun σ1 e1 => ?_)
  have v1 : σ1.1 30 0 1 = nI n := by rw [e1, sI_at]
  rw [v1, nI_cl (show n < 2 ^ 31 by omega)]
  refine ok_gd ⟨by decide, by decide, nI_pos (by omega), by rw [nI_cl (by omega)]; show 0 + n ≤ 1000; omega, by rw [nI_cl (by omega)]; show 0 + n ≤ 1000; omega⟩ (ok_nm (fun σ2 e2 => ok_nm (fun σ3 e3 => ok_nm (fun σ4 e4 => ?_))))
  have v4 : σ4.1 30 0 1 = nI n := by rw [e4, sI_k (by omega), e3, sI_k (by omega), e2, cpI_1, if_neg (by omega), v1]
  rw [v4, nI_add, show nI (n + U) - 1 = nI (n + U - 1) from pk_sub (b := 1) (by omega), nI_div (by omega) (by omega) (by omega)]
  refine ok_gd (nI_ne0 (by omega) (by omega)) (ok_nm (fun σ5 e5 => ?_))
  have c5 : chC σ5 n U t ((n + U - 1) / U) T := by
    refine ⟨?_, ?_, ?_, ?_, fun k hk => ?_⟩
    · rw [e5, sI_k (by omega), v4]
    · rw [e5, sI_k (by omega), e4, sI_at]
    · rw [e5, sI_at]
    · rw [e5, sI_k (by omega), e4, sI_k (by omega), e3, sI_at]
    · rw [e5, sI_f (by omega), e4, sI_f (by omega), e3, sI_f (by omega), e2, cpI_1, if_pos ⟨rfl, rfl, Nat.zero_le _, by show k < 0 + n; omega⟩, show (0 : Int32).toNatClampNeg + (k - (0 : Int32).toNatClampNeg) = k from Nat.zero_add _, e1, sI_f (by omega)]
      exact (t3 k hk).1
  have f5 : fr Fcb σ σ5 := by
    rw [e5, e4, e3, e2, e1]
    exact ((((fr_sI (by omega)).tr (fr_cpI (fun _ => by omega))).tr (fr_sI (by omega))).tr (fr_sI (by omega))).tr (fr_sI (by omega))
  generalize (n + U - 1) / U = G at *
  refine ok_b2 (Q := fun p => gcC p.1 G (gc0 t G) ∧ fr (Ffi 32 0) σ5 p.1) (ok_up G (fun g p => p.2 = nI g ∧ gcC p.1 g (gc0 t G) ∧ fr (Ffi 32 0) σ5 p.1) ?_ ?_ 0 _ (Nat.zero_le _) ⟨rfl, fun g hg => absurd hg (by omega), fr.rf⟩) (fun σ8 x9 hq => ok_some ⟨c5.go (hq.2.fi (fun _ => by omega)) (hq.2.fi (fun _ => by omega)), hq.1, f5.tr (hq.2.mono (fun f i k z => by omega))⟩)
  · rintro g ⟨σ6, x⟩ hg ⟨rfl, q1, q2⟩
    dsimp only at q1 q2 ⊢
    have hm : g * t ≤ 1000 * 6 := Nat.mul_le_mul (by omega) ht2
    unfold lb_Choice_begin_52
    rw [show σ6.1 30 0 3 = nI G by rw [q2.i (by omega)]; exact c5.2.2.1, pk_mul, nI_div (by omega) (by omega) (by omega), nI_cl (show g < 2 ^ 31 by omega)]
    refine ok_f (nI_ge hg (by omega)) (ok_gd (nI_ne0 (by omega) (by omega)) (ok_gd (nI_ib (by omega) (by omega)) (ok_nm (fun σ7 e7 => ok_nm (fun x8 e8 => ok_some ⟨by dsimp only; rw [e8, nI_1], fun g' hg' => ?_, ?_⟩)))))
    · dsimp only
      rw [e7]
      by_cases hgg : g' = g
      · subst hgg
        rw [sI_at]
      · rw [sI_k hgg]
        exact q1 g' (by omega)
    · rw [e7]
      exact q2.tr (fr_sI ⟨rfl, rfl⟩)
  · rintro ⟨σ6, x⟩ ⟨rfl, q1, q2⟩
    dsimp only at q1 q2 ⊢
    unfold lb_Choice_begin_52
    rw [show σ6.1 30 0 3 = nI G by rw [q2.i (by omega)]; exact c5.2.2.1]
    exact ok_t (nI_le (Nat.le_refl _) (by omega)) (ok_some ⟨q1, q2⟩)
