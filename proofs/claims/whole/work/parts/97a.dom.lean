/-! ===== the pointers lead into the domain ===== -/
def gkL : List (List (Option (Nat × Option Nat))) := [[some (1, some 0), none, some (2, some 0), some (3, some 0), some (5, some 0), some (13, some 0), some (19, some 0), some (26, some 0), some (30, some 0), some (35, some 0)], [], [], [some (4, some 0), none, none, none, none], [], [some (6, some 0), some (7, some 0), none, some (8, some 0), some (10, some 0), some (11, some 0)], [], [], [], [], [], [], [], [some (3, some 0), some (15, some 0), some (14, some 0)], [], [some (3, some 0), some (5, some 0), some (41, some 12), some (16, some 0), some (17, some 0), some (18, some 0), none], [], [], [], [none, none, none, some (20, some 0), some (21, some 0), some (22, some 0), none, some (23, some 0), some (24, some 0), some (25, some 0)], [], [], [], [], [], [], [some (27, some 0), none, some (28, some 0), some (29, some 0)], [], [], [], [some (31, some 0), none, none, none, some (32, some 0), some (33, some 0), none, some (34, some 0), some (39, some 0)], [], [], [], [], [some (3, some 0), some (36, some 0), some (39, some 1), some (37, some 0), some (38, some 0)], [], [], [], [some (40, none), none], [], [none, some (42, none), some (43, none), some (44, none), some (45, none), some (46, none), some (47, none), none, none, none, none], [], [], [], [], [], [], [none, none, some (49, some 0), some (50, some 0), some (51, some 0), some (52, some 0), some (53, some 0), some (54, some 0), some (55, some 0), some (56, some 0), some (57, some 0), none, none, some (58, some 0), some (59, some 0), none, some (60, some 0), some (61, some 0), some (62, some 0), some (63, some 0), none, some (64, some 0), none, none, none, none, none, some (65, some 0), some (66, some 0), none, some (67, some 0), some (68, some 0), some (69, some 0)], [], [], [], [], [], [], [], [], [], [], [], [], [], [], [], [], [], [], [], [], [], []]
def gkc (x : Nat × Option Nat) : Nat × (Nat → Nat) := (x.1, match x.2 with | some c => fun _ => c | none => fun i => i)
theorem ptL_gk : ptL = gkL.map (List.map (Option.map gkc)) := rfl
theorem gk_dm : ∀ f, f < 71 → ∀ k, k < 33 → ∀ x, (gkL.getD f []).getD k none = some x → match x.2 with | some c => (muL.getD x.1 0 = 99 → c = 12) ∧ (muL.getD x.1 0 ≠ 99 → c < muL.getD x.1 0) | none => muL.getD x.1 0 = muL.getD f 0 := by
  have h : ∀ f, f < 71 → ∀ k, k < 33 → (match (gkL.getD f []).getD k none with | none => true | some x => match x.2 with | some c => if muL.getD x.1 0 = 99 then c == 12 else decide (c < muL.getD x.1 0) | none => muL.getD x.1 0 == muL.getD f 0) = true := by decide +kernel
  intro f hf k hk x hx
  have h1 := h f hf k hk
  rw [hx] at h1
  obtain ⟨x1, x2⟩ := x
  cases x2 with
  | none => exact beq_iff_eq.mp h1
  | some c =>
    dsimp only at h1 ⊢
    by_cases y : muL.getD x1 0 = 99
    · rw [if_pos y] at h1
      exact ⟨fun _ => beq_iff_eq.mp h1, fun z => absurd y z⟩
    · rw [if_neg y] at h1
      exact ⟨fun z => absurd z y, fun _ => of_decide_eq_true h1⟩
theorem gk_len : gkL.length = 71 ∧ ∀ f, f < 71 → (gkL.getD f []).length ≤ 33 := by decide +kernel
theorem pt_gk {f k f' : Nat} {g : Nat → Nat} (h : pt f k = some (f', g)) : ∃ x, f < 71 ∧ k < 33 ∧ (gkL.getD f []).getD k none = some x ∧ f' = x.1 ∧ g = (gkc x).2 := by
  unfold pt at h
  rw [ptL_gk] at h
  have e1 : (gkL.map (List.map (Option.map gkc))).getD f [] = (gkL.getD f []).map (Option.map gkc) := by
    simp only [List.getD_eq_getElem?_getD, List.getElem?_map]
    cases gkL[f]? <;> rfl
  have e2 : ((gkL.getD f []).map (Option.map gkc)).getD k none = ((gkL.getD f []).getD k none).map gkc := by
    generalize gkL.getD f [] = L
    simp only [List.getD_eq_getElem?_getD, List.getElem?_map]
    cases L[k]? <;> rfl
  rw [e1, e2, Option.map_eq_some_iff] at h
  obtain ⟨x, hx, h2⟩ := h
  have hf : f < 71 := by
    rcases Nat.lt_or_ge f 71 with y | y
    · exact y
    · have z : gkL[f]? = none := List.getElem?_eq_none (by rw [gk_len.1]; exact y)
      rw [List.getD_eq_getElem?_getD (l := gkL), z] at hx
      cases hx
  have hk : k < 33 := by
    rcases Nat.lt_or_ge k 33 with y | y
    · exact y
    · rw [List.getD_eq_getElem?_getD (l := gkL.getD f []), List.getElem?_eq_none (Nat.le_trans (gk_len.2 f hf) y)] at hx
      cases hx
  cases h2
  exact ⟨x, hf, hk, hx, rfl, rfl⟩
theorem pt_dm {n f i k f' : Nat} {g : Nat → Nat} (hd : dm n f i) (h : pt f k = some (f', g)) : dm n f' (g i) := by
  obtain ⟨x, hf, hk, hx, rfl, rfl⟩ := pt_gk h
  have hp := gk_dm f hf k hk x hx
  obtain ⟨x1, x2⟩ := x
  unfold dm at hd ⊢
  cases x2 with
  | none =>
    dsimp only at hp
    show if muL.getD x1 0 = 99 then dmc n i else i < muL.getD x1 0
    rw [hp]
    exact hd
  | some c =>
    dsimp only at hp
    show if muL.getD x1 0 = 99 then dmc n c else c < muL.getD x1 0
    by_cases y : muL.getD x1 0 = 99
    · rw [if_pos y, hp.1 y]
      exact Or.inr rfl
    · rw [if_neg y]
      exact hp.2 y
theorem mu_99 : ∀ f, muL.getD f 0 = 99 → 41 ≤ f ∧ f ≤ 47 := by
  intro f h
  rcases Nat.lt_or_ge f 71 with y | y
  · exact (by decide +kernel : ∀ f, f < 71 → muL.getD f 0 = 99 → 41 ≤ f ∧ f ≤ 47) f y h
  · rw [List.getD_eq_getElem?_getD, List.getElem?_eq_none (by show 71 ≤ f; exact y)] at h
    cases h
theorem mu_41 : ∀ f, 41 ≤ f → f ≤ 47 → muL.getD f 0 = 99 := by
  intro f h1 h2
  exact (by decide +kernel : ∀ f, f < 48 → 41 ≤ f → muL.getD f 0 = 99) f (by omega) h1
/-- the domain with one more code -/
theorem dm_s {n f i : Nat} (h : dm (n + 1) f i) : dm n f i ∨ (41 ≤ f ∧ f ≤ 47 ∧ i = n) := by
  unfold dm at h ⊢
  by_cases y : muL.getD f 0 = 99
  · rw [if_pos y] at h ⊢
    rcases h with h | h
    · rcases Nat.lt_or_ge i n with z | z
      · exact Or.inl (Or.inl z)
      · exact Or.inr ⟨(mu_99 f y).1, (mu_99 f y).2, by omega⟩
    · exact Or.inl (Or.inr h)
  · rw [if_neg y] at h ⊢
    exact Or.inl h
theorem dm_m {n f i : Nat} (h : dm n f i) : dm (n + 1) f i := by
  unfold dm at h ⊢
  by_cases y : muL.getD f 0 = 99
  · rw [if_pos y] at h ⊢
    rcases h with h | h
    · exact Or.inl (by omega)
    · exact Or.inr h
  · rw [if_neg y] at h ⊢
    exact h
theorem dm_new {n f : Nat} (h1 : 41 ≤ f) (h2 : f ≤ 47) : dm (n + 1) f n := by
  unfold dm
  rw [if_pos (mu_41 f h1 h2)]
  exact Or.inl (by omega)
theorem dm_not {n f i : Nat} (hn : n < 12) (h : dm n f i) : ¬ (41 ≤ f ∧ f ≤ 47 ∧ i = n) := by
  rintro ⟨h1, h2, rfl⟩
  unfold dm at h
  rw [if_pos (mu_41 f h1 h2)] at h
  rcases h with h | h
  · omega
  · omega
