/-! ===== packages, as numbers ===== -/
/-- the place of a weight x behind the first k of o -/
def pls (g : Nat → Int32) (o : Nat → Nat) (x : Int32) : Nat → Nat
  | 0 => 0
  | k + 1 => if g (o k) ≤ x then k + 1 else pls g o x k
theorem pls_le (g : Nat → Int32) (o : Nat → Nat) (x : Int32) : ∀ k, pls g o x k ≤ k
  | 0 => Nat.le_refl _
  | k + 1 => by
    have := pls_le g o x k
    simp only [pls]
    split <;> omega
def ins (o : Nat → Nat) (p s : Nat) : Nat → Nat := fun k => if k < p then o k else if k = p then s else o (k - 1)
def ordm (g : Nat → Int32) : Nat → Nat
  | 0 => 0
  | n + 1 => if g n ≤ 0 then ordm g n else ordm g n + 1
def ordo (g : Nat → Int32) : Nat → Nat → Nat
  | 0 => fun _ => 0
  | n + 1 => if g n ≤ 0 then ordo g n else ins (ordo g n) (pls g (ordo g n) (g n) (ordm g n)) n
theorem ordm_le (g : Nat → Int32) : ∀ n, ordm g n ≤ n
  | 0 => Nat.le_refl _
  | n + 1 => by
    have := ordm_le g n
    simp only [ordm]
    split <;> omega
theorem ordm_congr {g g' : Nat → Int32} : ∀ {n : Nat}, (∀ k, k < n → g k = g' k) → ordm g n = ordm g' n
  | 0, _ => rfl
  | n + 1, h => by
    simp only [ordm]
    rw [h n (by omega), ordm_congr (n := n) (fun k hk => h k (by omega))]
theorem ordo_lt (g : Nat → Int32) : ∀ n i, i < ordm g n → ordo g n i < n
  | 0, i, h => absurd h (by simp [ordm])
  | n + 1, i, h => by
    have ih := ordo_lt g n
    have hp := pls_le g (ordo g n) (g n) (ordm g n)
    simp only [ordm] at h
    simp only [ordo]
    by_cases hg : g n ≤ 0
    · rw [if_pos hg] at h ⊢
      have := ih i h
      omega
    · rw [if_neg hg] at h ⊢
      simp only [ins]
      split
      · have := ih i (by omega)
        omega
      · split
        · omega
        · have := ih (i - 1) (by omega)
          omega
theorem ordo_inj (g : Nat → Int32) : ∀ n i j, i < ordm g n → j < ordm g n → ordo g n i = ordo g n j → i = j
  | 0, i, j, h, _, _ => absurd h (by simp [ordm])
  | n + 1, i, j, hi, hj, h => by
    have ih := ordo_inj g n
    have il := ordo_lt g n
    have hp := pls_le g (ordo g n) (g n) (ordm g n)
    simp only [ordm] at hi hj
    simp only [ordo] at h
    by_cases hg : g n ≤ 0
    · rw [if_pos hg] at hi hj h
      exact ih i j hi hj h
    · rw [if_neg hg] at hi hj h
      generalize pls g (ordo g n) (g n) (ordm g n) = p at h hp
      simp only [ins] at h
      by_cases a1 : i < p
      · rw [if_pos a1] at h
        by_cases b1 : j < p
        · rw [if_pos b1] at h
          exact ih i j (by omega) (by omega) h
        · rw [if_neg b1] at h
          by_cases b2 : j = p
          · rw [if_pos b2] at h
            have := il i (by omega)
            omega
          · rw [if_neg b2] at h
            have := ih i (j - 1) (by omega) (by omega) h
            omega
      · rw [if_neg a1] at h
        by_cases a2 : i = p
        · rw [if_pos a2] at h
          by_cases b1 : j < p
          · rw [if_pos b1] at h
            have := il j (by omega)
            omega
          · rw [if_neg b1] at h
            by_cases b2 : j = p
            · omega
            · rw [if_neg b2] at h
              have := il (j - 1) (by omega)
              omega
        · rw [if_neg a2] at h
          by_cases b1 : j < p
          · rw [if_pos b1] at h
            have := ih (i - 1) j (by omega) (by omega) h
            omega
          · rw [if_neg b1] at h
            by_cases b2 : j = p
            · rw [if_pos b2] at h
              have := il (i - 1) (by omega)
              omega
            · rw [if_neg b2] at h
              have := ih (i - 1) (j - 1) (by omega) (by omega) h
              omega
/-- how many a row has -/
def sz (m : Nat) : Nat → Nat
  | 0 => m
  | r + 1 => m + sz m r / 2
theorem sz_lt {m : Nat} (hm : 1 ≤ m) : ∀ r, sz m r < 2 * m
  | 0 => by simp only [sz]; omega
  | r + 1 => by
    have := sz_lt hm r
    simp only [sz]
    omega
theorem sz_d (m : Nat) : ∀ r k, 1 ≤ k → m ≤ k * 2 ^ r → 2 * m ≤ sz m r + k
  | 0, k, hk, h => by simp only [sz]; omega
  | r + 1, k, hk, h => by
    have := sz_d m r (2 * k) (by omega) (by rw [Nat.pow_succ] at h; rw [Nat.mul_comm 2 k, Nat.mul_assoc, Nat.mul_comm 2]; exact h)
    simp only [sz]
    omega
theorem sz_want {m l : Nat} (h1 : 1 ≤ l) (h : m ≤ 2 ^ l) : 2 * m - 2 ≤ sz m (l - 1) := by
  obtain ⟨r, rfl⟩ : ∃ r, l = r + 1 := ⟨l - 1, by omega⟩
  have := sz_d m r 2 (by omega) (by rw [Nat.pow_succ, Nat.mul_comm] at h; exact h)
  rw [Nat.add_sub_cancel]
  omega
abbrev sel (m q : Nat) (w P : Nat → Int64) (i j : Nat) : Prop := i < m ∧ (q ≤ j ∨ ¬ P j < w i)
/-- how many of the first n of a row are symbols -/
def mg (m q : Nat) (w P : Nat → Int64) : Nat → Nat
  | 0 => 0
  | n + 1 => if sel m q w P (mg m q w P n) (n - mg m q w P n) then mg m q w P n + 1 else mg m q w P n
theorem mg_le (m q : Nat) (w P : Nat → Int64) : ∀ n, mg m q w P n ≤ n ∧ mg m q w P n ≤ m ∧ (n ≤ m + q → n - mg m q w P n ≤ q)
  | 0 => ⟨Nat.le_refl _, Nat.zero_le _, fun _ => by omega⟩
  | n + 1 => by
    obtain ⟨h1, h2, h3⟩ := mg_le m q w P n
    simp only [mg]
    by_cases hs : sel m q w P (mg m q w P n) (n - mg m q w P n)
    · rw [if_pos hs]
      have := hs.1
      exact ⟨by omega, by omega, fun z => by have := h3 (by omega); omega⟩
    · rw [if_neg hs]
      refine ⟨by omega, by omega, fun z => ?_⟩
      have := h3 (by omega)
      rcases Nat.lt_or_ge (mg m q w P n) m with c | c
      · rcases Nat.lt_or_ge (n - mg m q w P n) q with d | d
        · omega
        · exact absurd ⟨c, Or.inl d⟩ hs
      · omega
/-- the weights of row r -/
def rW (m : Nat) (w : Nat → Int64) : Nat → Nat → Int64
  | 0 => w
  | r + 1 => fun n => if sel m (sz m r / 2) w (fun j => rW m w r (2 * j) + rW m w r (2 * j + 1)) (mg m (sz m r / 2) w (fun j => rW m w r (2 * j) + rW m w r (2 * j + 1)) n) (n - mg m (sz m r / 2) w (fun j => rW m w r (2 * j) + rW m w r (2 * j + 1)) n) then w (mg m (sz m r / 2) w (fun j => rW m w r (2 * j) + rW m w r (2 * j + 1)) n) else rW m w r (2 * (n - mg m (sz m r / 2) w (fun j => rW m w r (2 * j) + rW m w r (2 * j + 1)) n)) + rW m w r (2 * (n - mg m (sz m r / 2) w (fun j => rW m w r (2 * j) + rW m w r (2 * j + 1)) n) + 1)
abbrev rP (m : Nat) (w : Nat → Int64) (r : Nat) : Nat → Int64 := fun j => rW m w r (2 * j) + rW m w r (2 * j + 1)
/-- how many of the first n of row r are symbols -/
def rN (m : Nat) (w : Nat → Int64) : Nat → Nat → Nat
  | 0 => fun n => n
  | r + 1 => mg m (sz m r / 2) w (rP m w r)
theorem rN_0 (m : Nat) (w : Nat → Int64) : ∀ r, rN m w r 0 = 0
  | 0 => rfl
  | _ + 1 => rfl
theorem rN_le {m : Nat} {w : Nat → Int64} : ∀ {r n : Nat}, n ≤ sz m r → rN m w r n ≤ n ∧ rN m w r n ≤ m
  | 0, n, h => ⟨Nat.le_refl _, h⟩
  | r + 1, n, _ => ⟨(mg_le m _ w _ n).1, (mg_le m _ w _ n).2.1⟩
theorem rN_pair {m : Nat} {w : Nat → Int64} {r n : Nat} (h : n ≤ sz m (r + 1)) : 2 * (n - rN m w (r + 1) n) ≤ sz m r := by
  have := (mg_le m (sz m r / 2) w (rP m w r) n).2.2 h
  show 2 * (n - mg m (sz m r / 2) w (rP m w r) n) ≤ sz m r
  omega
theorem rN_step (m : Nat) (w : Nat → Int64) : ∀ r n, rN m w r (n + 1) = rN m w r n ∨ rN m w r (n + 1) = rN m w r n + 1
  | 0, n => Or.inr rfl
  | r + 1, n => by
    simp only [rN, mg]
    split
    · exact Or.inr rfl
    · exact Or.inl rfl
theorem rN_mono (m : Nat) (w : Nat → Int64) (r : Nat) : ∀ {a b : Nat}, a ≤ b → rN m w r a ≤ rN m w r b := by
  intro a b h
  induction b with
  | zero => rw [Nat.le_zero.mp h]; exact Nat.le_refl _
  | succ b ih =>
    rcases Nat.lt_or_ge a (b + 1) with q | q
    · have := ih (by omega)
      rcases rN_step m w r b with z | z <;> omega
    · rw [show a = b + 1 by omega]; exact Nat.le_refl _
def upL (L o : Nat → Nat) : Nat → Nat → Nat
  | 0 => L
  | c + 1 => fun s => upL L o c s + (if o c = s then 1 else 0)
theorem upL_le {L o : Nat → Nat} {m : Nat} (hi : ∀ i j, i < m → j < m → o i = o j → i = j) : ∀ {c : Nat}, c ≤ m → ∀ s, upL L o c s ≤ L s + 1 ∧ ((∀ i, i < c → ¬ o i = s) → upL L o c s = L s)
  | 0, _, s => ⟨Nat.le_succ _, fun _ => rfl⟩
  | c + 1, h, s => by
    obtain ⟨h1, h2⟩ := upL_le (L := L) hi (c := c) (by omega) s
    simp only [upL]
    by_cases hc : o c = s
    · rw [if_pos hc]
      have := h2 (fun i hlt z => by have := hi i c (by omega) (by omega) (by rw [z, hc]); omega)
      exact ⟨by omega, fun z => absurd hc (z c (by omega))⟩
    · rw [if_neg hc]
      exact ⟨by omega, fun z => by have := h2 (fun i hlt => z i (by omega)); omega⟩
/-- the way back: r rows are left, so many are wanted of the last of them -/
def gb (N : Nat → Nat → Nat) (o : Nat → Nat) : Nat → Nat → (Nat → Nat) → Nat → Nat
  | 0, _, L => L
  | r + 1, v, L => gb N o r (2 * (v - N r v)) (upL L o (N r v))
theorem gb_le {m : Nat} {w : Nat → Int64} {o : Nat → Nat} (hi : ∀ i j, i < m → j < m → o i = o j → i = j) : ∀ r v L s, (1 ≤ r → v ≤ sz m (r - 1)) → gb (rN m w) o r v L s ≤ L s + r
  | 0, v, L, s, _ => Nat.le_refl _
  | r + 1, v, L, s, h => by
    have hv := h (by omega)
    rw [Nat.add_sub_cancel] at hv
    simp only [gb]
    have h1 := gb_le (w := w) hi r (2 * (v - rN m w r v)) (upL L o (rN m w r v)) s (fun hr => by
      obtain ⟨r', rfl⟩ : ∃ r', r = r' + 1 := ⟨r - 1, by omega⟩
      exact rN_pair hv)
    have h2 := (upL_le (L := L) hi (rN_le (w := w) hv).2 s).1
    omega
abbrev wof (g : Nat → Int32) (o : Nat → Nat) : Nat → Int64 := fun i => (g (o i)).toInt64
/-- lengths by packages -/
def pkL (g : Nat → Int32) (s l : Nat) : Nat → Nat :=
  if ordm g s < 2 then upL (fun _ => 0) (ordo g s) (ordm g s) else gb (rN (ordm g s) (wof g (ordo g s))) (ordo g s) l (2 * ordm g s - 2) (fun _ => 0)
theorem pkL_le {g : Nat → Int32} {s l : Nat} (h1 : 1 ≤ l) (h : ordm g s ≤ 2 ^ l) (k : Nat) : pkL g s l k ≤ l := by
  unfold pkL
  split
  · have := (upL_le (L := fun _ => 0) (ordo_inj g s) (Nat.le_refl _) k).1
    omega
  · have := gb_le (w := wof g (ordo g s)) (ordo_inj g s) l (2 * ordm g s - 2) (fun _ => 0) k (fun _ => sz_want h1 h)
    omega
