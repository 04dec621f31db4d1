/-! the store: ints (fields and arrays), longs (arrays), references (arrays: the instance), how many codes there are -/
abbrev St : Type := (Nat → Nat → Nat → Int32) × (Nat → Nat → Nat → Int64) × (Nat → Nat → Nat → Option Nat) × Nat
def sI (σ : St) (f i k : Nat) (v : Int32) : St := (fun f' i' k' => if f' = f ∧ i' = i ∧ k' = k then v else σ.1 f' i' k', σ.2)
def sL (σ : St) (f i k : Nat) (v : Int64) : St := (σ.1, fun f' i' k' => if f' = f ∧ i' = i ∧ k' = k then v else σ.2.1 f' i' k', σ.2.2)
def sR (σ : St) (f i k : Nat) (v : Option Nat) : St := (σ.1, σ.2.1, fun f' i' k' => if f' = f ∧ i' = i ∧ k' = k then v else σ.2.2.1 f' i' k', σ.2.2.2)
def cpI (σ : St) (f i sp f2 i2 dp n : Nat) : St := (fun f' i' k' => if f' = f2 ∧ i' = i2 ∧ dp ≤ k' ∧ k' < dp + n then σ.1 f i (sp + (k' - dp)) else σ.1 f' i' k', σ.2)
def flI (σ : St) (f i n : Nat) (v : Int32) : St := (fun f' i' k' => if f' = f ∧ i' = i ∧ k' < n then v else σ.1 f' i' k', σ.2)
abbrev ib (i : Int32) (n : Nat) : Prop := ¬ (i < 0 ∨ n ≤ i.toNatClampNeg)
abbrev cpok (sp : Int32) (ns : Nat) (dp : Int32) (nd : Nat) (ln : Int32) : Prop := ¬ sp < 0 ∧ ¬ dp < 0 ∧ ¬ ln < 0 ∧ sp.toNatClampNeg + ln.toNatClampNeg ≤ ns ∧ dp.toNatClampNeg + ln.toNatClampNeg ≤ nd
def jmin (x y : Int32) : Int32 := if y < x then y else x
def jmax (x y : Int32) : Int32 := if x < y then y else x
/-! steps of a function that may have no answer -/
noncomputable def gd {α : Type} (c : Prop) (k : Option α) : Option α := @ite _ c (Classical.propDecidable c) k none
def nm {α β : Type} (e : α) (k : α → Option β) : Option β := k e
def on {α : Type} (o : Option Nat) (a : Option α) (k : Nat → Option α) : Option α := match o with
  | none => a
  | some j => k j
def b1 {β : Type} (x : Option St) (k : St → Option β) : Option β := match x with
  | none => none
  | some q => k q
def b2 {A β : Type} (x : Option (St × A)) (k : St → A → Option β) : Option β := match x with
  | none => none
  | some q => k q.1 q.2
def b3 {A B β : Type} (x : Option (St × A × B)) (k : St → A → B → Option β) : Option β := match x with
  | none => none
  | some q => k q.1 q.2.1 q.2.2
def b4 {A B C β : Type} (x : Option (St × A × B × C)) (k : St → A → B → C → Option β) : Option β := match x with
  | none => none
  | some q => k q.1 q.2.1 q.2.2.1 q.2.2.2
def b5 {A B C D β : Type} (x : Option (St × A × B × C × D)) (k : St → A → B → C → D → Option β) : Option β := match x with
  | none => none
  | some q => k q.1 q.2.1 q.2.2.1 q.2.2.2.1 q.2.2.2.2
def bs1 {ρ β : Type} (x : Option (St ⊕ ρ)) (kr : ρ → Option β) (k : St → Option β) : Option β := match x with
  | none => none
  | some (.inl q) => k q
  | some (.inr r) => kr r
def bs2 {A ρ β : Type} (x : Option ((St × A) ⊕ ρ)) (kr : ρ → Option β) (k : St → A → Option β) : Option β := match x with
  | none => none
  | some (.inl q) => k q.1 q.2
  | some (.inr r) => kr r
def bs3 {A B ρ β : Type} (x : Option ((St × A × B) ⊕ ρ)) (kr : ρ → Option β) (k : St → A → B → Option β) : Option β := match x with
  | none => none
  | some (.inl q) => k q.1 q.2.1 q.2.2
  | some (.inr r) => kr r
def bs4 {A B C ρ β : Type} (x : Option ((St × A × B × C) ⊕ ρ)) (kr : ρ → Option β) (k : St → A → B → C → Option β) : Option β := match x with
  | none => none
  | some (.inl q) => k q.1 q.2.1 q.2.2.1 q.2.2.2
  | some (.inr r) => kr r
theorem gd_some {α : Type} {c : Prop} {k : Option α} {o : α} (h : gd c k = some o) : c ∧ k = some o := by
  unfold gd at h
  by_cases hc : c
  · rw [if_pos hc] at h; exact ⟨hc, h⟩
  · rw [if_neg hc] at h; cases h
theorem gd_t {α : Type} {c : Prop} {k : Option α} (h : c) : gd c k = k := if_pos h
theorem nm_at {α β : Type} {e x : α} {k : α → Option β} {o : Option β} (ex : x = e) (h : nm e k = o) : k x = o := by subst ex; exact h
theorem nm_eq {α β : Type} {e : α} {k : α → Option β} : nm e k = k e := rfl
theorem it {α : Type} {c : Prop} [Decidable c] {a b : Option α} {o : Option α} (h : (if c then a else b) = o) (hc : c) : a = o := by rw [if_pos hc] at h; exact h
theorem ie {α : Type} {c : Prop} [Decidable c] {a b : Option α} {o : Option α} (h : (if c then a else b) = o) (hc : ¬ c) : b = o := by rw [if_neg hc] at h; exact h
theorem on_n {α : Type} {o : Option Nat} {a : Option α} {k : Nat → Option α} {r : Option α} (h : on o a k = r) (ho : o = none) : a = r := by subst ho; exact h
theorem on_s {α : Type} {o : Option Nat} {a : Option α} {k : Nat → Option α} {r : Option α} {j : Nat} (h : on o a k = r) (ho : o = some j) : k j = r := by subst ho; exact h
theorem on_some {α : Type} {o : Option Nat} {k : Nat → Option α} {r : α} (h : on o none k = some r) : ∃ j, o = some j ∧ k j = some r := by
  cases o with
  | none => cases h
  | some j => exact ⟨j, rfl, h⟩
theorem b1_some {β : Type} {x : Option St} {k : St → Option β} {o : β} (h : b1 x k = some o) : ∃ q, x = some q ∧ b1 (some q) k = some o := by
  cases x with
  | none => cases h
  | some q => exact ⟨q, rfl, h⟩
theorem b2_some {A β : Type} {x : Option (St × A)} {k : St → A → Option β} {o : β} (h : b2 x k = some o) : ∃ q, x = some q ∧ b2 (some q) k = some o := by
  cases x with
  | none => cases h
  | some q => exact ⟨q, rfl, h⟩
theorem b3_some {A B β : Type} {x : Option (St × A × B)} {k : St → A → B → Option β} {o : β} (h : b3 x k = some o) : ∃ q, x = some q ∧ b3 (some q) k = some o := by
  cases x with
  | none => cases h
  | some q => exact ⟨q, rfl, h⟩
theorem b4_some {A B C β : Type} {x : Option (St × A × B × C)} {k : St → A → B → C → Option β} {o : β} (h : b4 x k = some o) : ∃ q, x = some q ∧ b4 (some q) k = some o := by
  cases x with
  | none => cases h
  | some q => exact ⟨q, rfl, h⟩
theorem b5_some {A B C D β : Type} {x : Option (St × A × B × C × D)} {k : St → A → B → C → D → Option β} {o : β} (h : b5 x k = some o) : ∃ q, x = some q ∧ b5 (some q) k = some o := by
  cases x with
  | none => cases h
  | some q => exact ⟨q, rfl, h⟩
theorem b1_at {β : Type} {q : St} {k : St → Option β} {o : Option β} (h : b1 (some q) k = o) : k q = o := h
theorem b2_at {A β : Type} {q : St} {a : A} {k : St → A → Option β} {o : Option β} (h : b2 (some (q, a)) k = o) : k q a = o := h
theorem b3_at {A B β : Type} {q : St} {a : A} {b : B} {k : St → A → B → Option β} {o : Option β} (h : b3 (some (q, a, b)) k = o) : k q a b = o := h
theorem b4_at {A B C β : Type} {q : St} {a : A} {b : B} {c : C} {k : St → A → B → C → Option β} {o : Option β} (h : b4 (some (q, a, b, c)) k = o) : k q a b c = o := h
theorem b5_at {A B C D β : Type} {q : St} {a : A} {b : B} {c : C} {d : D} {k : St → A → B → C → D → Option β} {o : Option β} (h : b5 (some (q, a, b, c, d)) k = o) : k q a b c d = o := h
theorem bs1_some {ρ β : Type} {x : Option (St ⊕ ρ)} {kr : ρ → Option β} {k : St → Option β} {o : β} (h : bs1 x kr k = some o) : ∃ q, x = some q ∧ bs1 (some q) kr k = some o := by
  cases x with
  | none => cases h
  | some q => exact ⟨q, rfl, h⟩
theorem bs2_some {A ρ β : Type} {x : Option ((St × A) ⊕ ρ)} {kr : ρ → Option β} {k : St → A → Option β} {o : β} (h : bs2 x kr k = some o) : ∃ q, x = some q ∧ bs2 (some q) kr k = some o := by
  cases x with
  | none => cases h
  | some q => exact ⟨q, rfl, h⟩
theorem bs3_some {A B ρ β : Type} {x : Option ((St × A × B) ⊕ ρ)} {kr : ρ → Option β} {k : St → A → B → Option β} {o : β} (h : bs3 x kr k = some o) : ∃ q, x = some q ∧ bs3 (some q) kr k = some o := by
  cases x with
  | none => cases h
  | some q => exact ⟨q, rfl, h⟩
theorem bs4_some {A B C ρ β : Type} {x : Option ((St × A × B × C) ⊕ ρ)} {kr : ρ → Option β} {k : St → A → B → C → Option β} {o : β} (h : bs4 x kr k = some o) : ∃ q, x = some q ∧ bs4 (some q) kr k = some o := by
  cases x with
  | none => cases h
  | some q => exact ⟨q, rfl, h⟩
theorem bs1_at {ρ β : Type} {q : St} {kr : ρ → Option β} {k : St → Option β} {o : Option β} (h : bs1 (some (.inl q)) kr k = o) : k q = o := h
theorem bs2_at {A ρ β : Type} {q : St} {a : A} {kr : ρ → Option β} {k : St → A → Option β} {o : Option β} (h : bs2 (some (.inl (q, a))) kr k = o) : k q a = o := h
theorem bs3_at {A B ρ β : Type} {q : St} {a : A} {b : B} {kr : ρ → Option β} {k : St → A → B → Option β} {o : Option β} (h : bs3 (some (.inl (q, a, b))) kr k = o) : k q a b = o := h
theorem bs4_at {A B C ρ β : Type} {q : St} {a : A} {b : B} {c : C} {kr : ρ → Option β} {k : St → A → B → C → Option β} {o : Option β} (h : bs4 (some (.inl (q, a, b, c))) kr k = o) : k q a b c = o := h
theorem bs1_r {ρ β : Type} {r : ρ} {kr : ρ → Option β} {k : St → Option β} {o : Option β} (h : bs1 (some (.inr r)) kr k = o) : kr r = o := h
theorem bs2_r {A ρ β : Type} {r : ρ} {kr : ρ → Option β} {k : St → A → Option β} {o : Option β} (h : bs2 (some (.inr r)) kr k = o) : kr r = o := h
theorem bs3_r {A B ρ β : Type} {r : ρ} {kr : ρ → Option β} {k : St → A → B → Option β} {o : Option β} (h : bs3 (some (.inr r)) kr k = o) : kr r = o := h
theorem bs4_r {A B C ρ β : Type} {r : ρ} {kr : ρ → Option β} {k : St → A → B → C → Option β} {o : Option β} (h : bs4 (some (.inr r)) kr k = o) : kr r = o := h
/-! loops -/
def nx {α ρ : Type} (F : α → Option ρ) : α ⊕ ρ → Option ρ
  | .inl a => F a
  | .inr r => some r
def lp {α ρ : Type} (b : α → Option (α ⊕ ρ)) : Nat → α → Option ρ
  | 0, _ => none
  | n + 1, a => match b a with
    | none => none
    | some z => nx (lp b n) z
theorem lp_zero {α ρ : Type} (b : α → Option (α ⊕ ρ)) (a : α) (o : ρ) : ¬ lp b 0 a = some o := fun h => by cases h
theorem lp_succ {α ρ : Type} {b : α → Option (α ⊕ ρ)} {n : Nat} {a : α} {o : ρ} (h : lp b (n + 1) a = some o) : ∃ z, b a = some z ∧ nx (lp b n) z = some o := by
  unfold lp at h
  cases hb : b a with
  | none => rw [hb] at h; cases h
  | some z => rw [hb] at h; exact ⟨z, rfl, h⟩
theorem lp_more {α ρ : Type} {b : α → Option (α ⊕ ρ)} : ∀ (n : Nat) (a : α) (o : ρ), lp b n a = some o → lp b (n + 1) a = some o := by
  intro n
  induction n with
  | zero => intro a o h; exact absurd h (lp_zero _ _ _)
  | succ n ih =>
    intro a o h
    obtain ⟨z, h1, h2⟩ := lp_succ h
    show (match b a with | none => none | some z => nx (lp b (n + 1)) z) = some o
    rw [h1]
    cases z with
    | inl a' => exact ih a' o h2
    | inr r => exact h2
theorem lp_le {α ρ : Type} {b : α → Option (α ⊕ ρ)} {n k : Nat} {a : α} {o : ρ} (h : lp b n a = some o) (hk : n ≤ k) : lp b k a = some o := by
  induction k with
  | zero => rw [Nat.le_zero.mp hk] at h; exact h
  | succ k ih =>
    rcases Nat.lt_or_ge n (k + 1) with q | q
    · exact lp_more k a o (ih (by omega))
    · rw [show k + 1 = n by omega]; exact h
noncomputable def lpE {α ρ : Type} (b : α → Option (α ⊕ ρ)) (a : α) : Option ρ := @dite _ (∃ n o, lp b n a = some o) (Classical.propDecidable _) (fun h => lp b (Classical.choose h) a) (fun _ => none)
theorem lpE_of {α ρ : Type} {b : α → Option (α ⊕ ρ)} {n : Nat} {a : α} {o : ρ} (h : lp b n a = some o) : lpE b a = some o := by
  have hx : ∃ n o, lp b n a = some o := ⟨n, o, h⟩
  unfold lpE
  rw [dif_pos hx]
  obtain ⟨o2, h2⟩ := Classical.choose_spec hx
  have h3 := lp_le h (Nat.le_max_left n (Classical.choose hx))
  have h4 := lp_le h2 (Nat.le_max_right n (Classical.choose hx))
  rw [h3] at h4
  cases h4
  exact h2
theorem lpE_some {α ρ : Type} {b : α → Option (α ⊕ ρ)} {a : α} {o : ρ} (h : lpE b a = some o) : ∃ n, lp b n a = some o := by
  unfold lpE at h
  by_cases hx : ∃ n o, lp b n a = some o
  · rw [dif_pos hx] at h; exact ⟨_, h⟩
  · rw [dif_neg hx] at h; cases h
/-- one turn that goes on -/
theorem lpE_go {α ρ : Type} {b : α → Option (α ⊕ ρ)} {a a' : α} {o : ρ} (h : b a = some (.inl a')) (h2 : lpE b a' = some o) : lpE b a = some o := by
  obtain ⟨n, hn⟩ := lpE_some h2
  refine lpE_of (n := n + 1) ?_
  show (match b a with | none => none | some z => nx (lp b n) z) = some o
  rw [h]
  exact hn
/-- the turn that ends -/
theorem lpE_end {α ρ : Type} {b : α → Option (α ⊕ ρ)} {a : α} {o : ρ} (h : b a = some (.inr o)) : lpE b a = some o := by
  refine lpE_of (n := 1) ?_
  show (match b a with | none => none | some z => nx (lp b 0) z) = some o
  rw [h]
  rfl
