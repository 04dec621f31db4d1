/-! ===== Int32 by its bits: bt x i ===== -/
def bt (x : Int32) (i : Nat) : Bool := x.toBitVec.getLsbD i
theorem b_ext {x y : Int32} (h : ∀ i, i < 32 → bt x i = bt y i) : x = y := Int32.toBitVec_inj.mp (BitVec.eq_of_getLsbD_eq (fun i hi => h i hi))
theorem b_or (x y : Int32) (i : Nat) : bt (x ||| y) i = (bt x i || bt y i) := by unfold bt; rw [Int32.toBitVec_or, BitVec.getLsbD_or]
theorem b_and (x y : Int32) (i : Nat) : bt (x &&& y) i = (bt x i && bt y i) := by unfold bt; rw [Int32.toBitVec_and, BitVec.getLsbD_and]
theorem b_xor (x y : Int32) (i : Nat) : bt (x ^^^ y) i = (bt x i ^^ bt y i) := by unfold bt; rw [Int32.toBitVec_xor, BitVec.getLsbD_xor]
theorem b_big {x : Int32} {i : Nat} (h : 32 ≤ i) : bt x i = false := BitVec.getLsbD_of_ge _ _ h
theorem b_255 (i : Nat) : bt 255 i = decide (i < 8) := by
  rcases Nat.lt_or_ge i 32 with h | h
  · exact (by decide +kernel : ∀ i, i < 32 → bt 255 i = decide (i < 8)) i h
  · rw [b_big h, decide_eq_false (by omega)]
theorem b_65535 (i : Nat) : bt 65535 i = decide (i < 16) := by
  rcases Nat.lt_or_ge i 32 with h | h
  · exact (by decide +kernel : ∀ i, i < 32 → bt 65535 i = decide (i < 16)) i h
  · rw [b_big h, decide_eq_false (by omega)]
theorem b_m1 : ∀ i, i < 32 → bt (-1) i = true := by decide +kernel
theorem b_0 (i : Nat) : bt 0 i = false := BitVec.getLsbD_zero
theorem s_l : ∀ n, n < 32 → ((nI n &&& 31).toBitVec.smod 32).toNat = n := by decide +kernel
theorem s_u : ∀ n, n < 32 → (((nI n).toUInt32 &&& Int32.toUInt32 31).toBitVec % 32).toNat = n := by decide +kernel
theorem b_shl (n : Nat) (hn : n < 32) (x : Int32) {i : Nat} (hi : i < 32) : bt (x <<< (nI n &&& 31)) i = (decide (n ≤ i) && bt x (i - n)) := by
  unfold bt
  rw [Int32.toBitVec_shiftLeft]
  show (x.toBitVec <<< ((nI n &&& 31).toBitVec.smod 32).toNat).getLsbD i = _
  rw [s_l n hn, BitVec.getLsbD_shiftLeft]
  rcases Nat.lt_or_ge i n with h | h
  · simp [h, Nat.not_le.mpr h]
  · simp [hi, h, Nat.not_lt.mpr h]
theorem b_ushr (n : Nat) (hn : n < 32) (x : Int32) (i : Nat) : bt ((x.toUInt32 >>> ((nI n).toUInt32 &&& Int32.toUInt32 31)).toInt32) i = bt x (n + i) := by
  show (x.toUInt32 >>> ((nI n).toUInt32 &&& Int32.toUInt32 31)).toBitVec.getLsbD i = x.toUInt32.toBitVec.getLsbD (n + i)
  rw [UInt32.toBitVec_shiftRight]
  show (x.toUInt32.toBitVec >>> (((nI n).toUInt32 &&& Int32.toUInt32 31).toBitVec % 32).toNat).getLsbD i = _
  rw [s_u n hn, BitVec.getLsbD_ushiftRight]
theorem b_sshr (n : Nat) (hn : n < 32) (x : Int32) {i : Nat} (hi : i < 32) : bt (x >>> (nI n &&& 31)) i = if n + i < 32 then bt x (n + i) else bt x 31 := by
  unfold bt
  rw [Int32.toBitVec_shiftRight]
  show (x.toBitVec.sshiftRight ((nI n &&& 31).toBitVec.smod 32).toNat).getLsbD i = _
  rw [s_l n hn, BitVec.getLsbD_sshiftRight, BitVec.msb_eq_getLsbD_last]
  simp [hi]
theorem b_shl8 (x : Int32) {i : Nat} (hi : i < 32) : bt (x <<< ((8 : Int32) &&& 31)) i = (decide (8 ≤ i) && bt x (i - 8)) := b_shl 8 (by omega) x hi
theorem b_shl16 (x : Int32) {i : Nat} (hi : i < 32) : bt (x <<< ((16 : Int32) &&& 31)) i = (decide (16 ≤ i) && bt x (i - 16)) := b_shl 16 (by omega) x hi
theorem b_shl24 (x : Int32) {i : Nat} (hi : i < 32) : bt (x <<< ((24 : Int32) &&& 31)) i = (decide (24 ≤ i) && bt x (i - 24)) := b_shl 24 (by omega) x hi
theorem b_sshr8 (x : Int32) {i : Nat} (hi : i < 32) : bt (x >>> ((8 : Int32) &&& 31)) i = if 8 + i < 32 then bt x (8 + i) else bt x 31 := b_sshr 8 (by omega) x hi
/-! ===== a function that may have no answer: it has one, with a property ===== -/
def ok {α : Type} (x : Option α) (P : α → Prop) : Prop := ∃ o, x = some o ∧ P o
theorem ok_some {α : Type} {o : α} {P : α → Prop} (h : P o) : ok (some o) P := ⟨o, rfl, h⟩
theorem ok.mono {α : Type} {x : Option α} {P Q : α → Prop} (h : ok x P) (hPQ : ∀ o, P o → Q o) : ok x Q := by
  obtain ⟨o, h1, h2⟩ := h
  exact ⟨o, h1, hPQ o h2⟩
theorem ok_gd {α : Type} {c : Prop} {k : Option α} {P : α → Prop} (hc : c) (h : ok k P) : ok (gd c k) P := by
  rw [gd_t hc]; exact h
theorem ok_nm {α β : Type} {e : α} {k : α → Option β} {P : β → Prop} (h : ∀ x, x = e → ok (k x) P) : ok (nm e k) P := h e rfl
theorem ok_on {α : Type} {o : Option Nat} {j : Nat} {a : Option α} {k : Nat → Option α} {P : α → Prop} (ho : o = some j) (h : ok (k j) P) : ok (on o a k) P := by
  subst ho; exact h
theorem ok_onN {α : Type} {o : Option Nat} {a : Option α} {k : Nat → Option α} {P : α → Prop} (ho : o = none) (h : ok a P) : ok (on o a k) P := by
  subst ho; exact h
theorem ok_if {α : Type} {c : Prop} [Decidable c] {a b : Option α} {P : α → Prop} (ht : c → ok a P) (hf : ¬ c → ok b P) : ok (if c then a else b) P := by
  by_cases hc : c
  · rw [if_pos hc]; exact ht hc
  · rw [if_neg hc]; exact hf hc
theorem ok_t {α : Type} {c : Prop} [Decidable c] {a b : Option α} {P : α → Prop} (hc : c) (h : ok a P) : ok (if c then a else b) P := by rw [if_pos hc]; exact h
theorem ok_f {α : Type} {c : Prop} [Decidable c] {a b : Option α} {P : α → Prop} (hc : ¬ c) (h : ok b P) : ok (if c then a else b) P := by rw [if_neg hc]; exact h
theorem ok_b1 {β : Type} {x : Option St} {k : St → Option β} {Q : St → Prop} {P : β → Prop} (hx : ok x Q) (h : ∀ σ, Q σ → ok (k σ) P) : ok (b1 x k) P := by
  obtain ⟨o, rfl, h2⟩ := hx
  exact h o h2
theorem ok_b2 {A β : Type} {x : Option (St × A)} {k : St → A → Option β} {Q : St × A → Prop} {P : β → Prop} (hx : ok x Q) (h : ∀ σ a, Q (σ, a) → ok (k σ a) P) : ok (b2 x k) P := by
  obtain ⟨⟨σ, a⟩, rfl, h2⟩ := hx
  exact h σ a h2
theorem ok_b3 {A B β : Type} {x : Option (St × A × B)} {k : St → A → B → Option β} {Q : St × A × B → Prop} {P : β → Prop} (hx : ok x Q) (h : ∀ σ a b, Q (σ, a, b) → ok (k σ a b) P) : ok (b3 x k) P := by
  obtain ⟨⟨σ, a, b⟩, rfl, h2⟩ := hx
  exact h σ a b h2
theorem ok_b4 {A B C β : Type} {x : Option (St × A × B × C)} {k : St → A → B → C → Option β} {Q : St × A × B × C → Prop} {P : β → Prop} (hx : ok x Q) (h : ∀ σ a b c, Q (σ, a, b, c) → ok (k σ a b c) P) : ok (b4 x k) P := by
  obtain ⟨⟨σ, a, b, c⟩, rfl, h2⟩ := hx
  exact h σ a b c h2
theorem ok_b5 {A B C D β : Type} {x : Option (St × A × B × C × D)} {k : St → A → B → C → D → Option β} {Q : St × A × B × C × D → Prop} {P : β → Prop} (hx : ok x Q) (h : ∀ σ a b c d, Q (σ, a, b, c, d) → ok (k σ a b c d) P) : ok (b5 x k) P := by
  obtain ⟨⟨σ, a, b, c, d⟩, rfl, h2⟩ := hx
  exact h σ a b c d h2
theorem ok_bs1 {ρ β : Type} {x : Option (St ⊕ ρ)} {kr : ρ → Option β} {k : St → Option β} {Q : St ⊕ ρ → Prop} {P : β → Prop} (hx : ok x Q) (h : ∀ σ, Q (.inl σ) → ok (k σ) P) (hr : ∀ r, Q (.inr r) → ok (kr r) P) : ok (bs1 x kr k) P := by
  obtain ⟨o, rfl, h2⟩ := hx
  rcases o with σ | r
  · exact h σ h2
  · exact hr r h2
theorem ok_bs2 {A ρ β : Type} {x : Option ((St × A) ⊕ ρ)} {kr : ρ → Option β} {k : St → A → Option β} {Q : (St × A) ⊕ ρ → Prop} {P : β → Prop} (hx : ok x Q) (h : ∀ σ a, Q (.inl (σ, a)) → ok (k σ a) P) (hr : ∀ r, Q (.inr r) → ok (kr r) P) : ok (bs2 x kr k) P := by
  obtain ⟨o, rfl, h2⟩ := hx
  rcases o with ⟨σ, a⟩ | r
  · exact h σ a h2
  · exact hr r h2
theorem ok_bs3 {A B ρ β : Type} {x : Option ((St × A × B) ⊕ ρ)} {kr : ρ → Option β} {k : St → A → B → Option β} {Q : (St × A × B) ⊕ ρ → Prop} {P : β → Prop} (hx : ok x Q) (h : ∀ σ a b, Q (.inl (σ, a, b)) → ok (k σ a b) P) (hr : ∀ r, Q (.inr r) → ok (kr r) P) : ok (bs3 x kr k) P := by
  obtain ⟨o, rfl, h2⟩ := hx
  rcases o with ⟨σ, a, b⟩ | r
  · exact h σ a b h2
  · exact hr r h2
theorem ok_bs4 {A B C ρ β : Type} {x : Option ((St × A × B × C) ⊕ ρ)} {kr : ρ → Option β} {k : St → A → B → C → Option β} {Q : (St × A × B × C) ⊕ ρ → Prop} {P : β → Prop} (hx : ok x Q) (h : ∀ σ a b c, Q (.inl (σ, a, b, c)) → ok (k σ a b c) P) (hr : ∀ r, Q (.inr r) → ok (kr r) P) : ok (bs4 x kr k) P := by
  obtain ⟨o, rfl, h2⟩ := hx
  rcases o with ⟨σ, a, b, c⟩ | r
  · exact h σ a b c h2
  · exact hr r h2
/-- a loop: an invariant by the number of turns left -/
theorem ok_lp {α ρ : Type} {b : α → Option (α ⊕ ρ)} {P : ρ → Prop} (I : Nat → α → Prop) (hs : ∀ n a, I n a → ok (b a) (fun z => match z with | .inl a' => ∃ n', n' < n ∧ I n' a' | .inr o => P o)) : ∀ n a, I n a → ok (lpE b a) P := by
  intro n
  induction n using Nat.strongRecOn with
  | ind n ih =>
    intro a ha
    obtain ⟨z, h1, h2⟩ := hs n a ha
    cases z with
    | inl a' =>
      obtain ⟨n', hlt, hI⟩ := h2
      obtain ⟨o, h3, h4⟩ := ih n' hlt a' hI
      exact ⟨o, lpE_go h1 h3, h4⟩
    | inr o => exact ⟨o, lpE_end h1, h2⟩
/-- a loop that counts up to N -/
theorem ok_up {α ρ : Type} {b : α → Option (α ⊕ ρ)} {P : ρ → Prop} (N : Nat) (I : Nat → α → Prop) (hs : ∀ i a, i < N → I i a → ok (b a) (fun z => match z with | .inl a' => I (i + 1) a' | .inr o => P o)) (he : ∀ a, I N a → ok (b a) (fun z => match z with | .inl _ => False | .inr o => P o)) : ∀ i a, i ≤ N → I i a → ok (lpE b a) P := by
  intro i a hi ha
  refine ok_lp (fun n a => ∃ i, i ≤ N ∧ n = N - i ∧ I i a) ?_ (N - i) a ⟨i, hi, rfl, ha⟩
  rintro n a ⟨i, hi, rfl, hI⟩
  rcases Nat.lt_or_ge i N with h | h
  · refine (hs i a h hI).mono (fun z hz => ?_)
    cases z with
    | inl a' => exact ⟨N - (i + 1), by omega, i + 1, by omega, rfl, hz⟩
    | inr o => exact hz
  · have : i = N := by omega
    subst this
    refine (he a hI).mono (fun z hz => ?_)
    cases z with
    | inl a' => exact hz.elim
    | inr o => exact hz
/-! ===== what has changed of a store ===== -/
def fr (S : Nat → Nat → Nat → Prop) (σ σ1 : St) : Prop := (∀ f i k, ¬ S f i k → σ1.1 f i k = σ.1 f i k ∧ σ1.2.1 f i k = σ.2.1 f i k ∧ σ1.2.2.1 f i k = σ.2.2.1 f i k) ∧ σ1.2.2.2 = σ.2.2.2
theorem fr.rf {S : Nat → Nat → Nat → Prop} {σ : St} : fr S σ σ := ⟨fun _ _ _ _ => ⟨rfl, rfl, rfl⟩, rfl⟩
theorem fr.tr {S : Nat → Nat → Nat → Prop} {σ σ1 σ2 : St} (h1 : fr S σ σ1) (h2 : fr S σ1 σ2) : fr S σ σ2 := ⟨fun f i k h => ⟨(h2.1 f i k h).1.trans (h1.1 f i k h).1, (h2.1 f i k h).2.1.trans (h1.1 f i k h).2.1, (h2.1 f i k h).2.2.trans (h1.1 f i k h).2.2⟩, h2.2.trans h1.2⟩
theorem fr.mono {S T : Nat → Nat → Nat → Prop} {σ σ1 : St} (h : fr S σ σ1) (hST : ∀ f i k, S f i k → T f i k) : fr T σ σ1 := ⟨fun f i k hn => h.1 f i k (fun z => hn (hST f i k z)), h.2⟩
theorem fr.i {S : Nat → Nat → Nat → Prop} {σ σ1 : St} (h : fr S σ σ1) {f i k : Nat} (hn : ¬ S f i k) : σ1.1 f i k = σ.1 f i k := (h.1 f i k hn).1
theorem fr.fi {S : Nat → Nat → Nat → Prop} {σ σ1 : St} (h : fr S σ σ1) {f i : Nat} (hn : ∀ k, ¬ S f i k) : σ1.1 f i = σ.1 f i := funext fun k => (h.1 f i k (hn k)).1
theorem fr.li {S : Nat → Nat → Nat → Prop} {σ σ1 : St} (h : fr S σ σ1) {f i : Nat} (hn : ∀ k, ¬ S f i k) : σ1.2.1 f i = σ.2.1 f i := funext fun k => (h.1 f i k (hn k)).2.1
theorem fr.ri {S : Nat → Nat → Nat → Prop} {σ σ1 : St} (h : fr S σ σ1) {f i : Nat} (hn : ∀ k, ¬ S f i k) : σ1.2.2.1 f i = σ.2.2.1 f i := funext fun k => (h.1 f i k (hn k)).2.2
theorem fr_sI {S : Nat → Nat → Nat → Prop} {σ : St} {f i k : Nat} {v : Int32} (h : S f i k) : fr S σ (sI σ f i k v) := ⟨fun f' i' k' hn => ⟨by
  simp only [sI]
  rw [if_neg (fun z => hn (by rw [z.1, z.2.1, z.2.2]; exact h))], rfl, rfl⟩, rfl⟩
theorem fr_sL {S : Nat → Nat → Nat → Prop} {σ : St} {f i k : Nat} {v : Int64} (h : S f i k) : fr S σ (sL σ f i k v) := ⟨fun f' i' k' hn => ⟨rfl, by
  simp only [sL]
  rw [if_neg (fun z => hn (by rw [z.1, z.2.1, z.2.2]; exact h))], rfl⟩, rfl⟩
theorem fr_sR {S : Nat → Nat → Nat → Prop} {σ : St} {f i k : Nat} {v : Option Nat} (h : S f i k) : fr S σ (sR σ f i k v) := ⟨fun f' i' k' hn => ⟨rfl, rfl, by
  simp only [sR]
  rw [if_neg (fun z => hn (by rw [z.1, z.2.1, z.2.2]; exact h))]⟩, rfl⟩
theorem fr_cpI {S : Nat → Nat → Nat → Prop} {σ : St} {f0 i0 sp f i dp n : Nat} (h : ∀ k, S f i k) : fr S σ (cpI σ f0 i0 sp f i dp n) := ⟨fun f' i' k' hn => ⟨by
  simp only [cpI]
  rw [if_neg (fun z => hn (by rw [z.1, z.2.1]; exact h k'))], rfl, rfl⟩, rfl⟩
theorem sI_1 {σ : St} {f i k f' i' k' : Nat} {v : Int32} : (sI σ f i k v).1 f' i' k' = if f' = f ∧ i' = i ∧ k' = k then v else σ.1 f' i' k' := rfl
theorem sI_at {σ : St} {f i k : Nat} {v : Int32} : (sI σ f i k v).1 f i k = v := by rw [sI_1, if_pos ⟨rfl, rfl, rfl⟩]
theorem sI_f {σ : St} {f i k f' i' k' : Nat} {v : Int32} (h : f' ≠ f) : (sI σ f i k v).1 f' i' k' = σ.1 f' i' k' := by rw [sI_1, if_neg (fun z => h z.1)]
theorem sI_i {σ : St} {f i k i' k' : Nat} {v : Int32} (h : i' ≠ i) : (sI σ f i k v).1 f i' k' = σ.1 f i' k' := by rw [sI_1, if_neg (fun z => h z.2.1)]
theorem sI_k {σ : St} {f i k k' : Nat} {v : Int32} (h : k' ≠ k) : (sI σ f i k v).1 f i k' = σ.1 f i k' := by rw [sI_1, if_neg (fun z => h z.2.2)]
theorem sI_fi {σ : St} {f i k f' i' : Nat} {v : Int32} (h : ¬ (f' = f ∧ i' = i)) : (sI σ f i k v).1 f' i' = σ.1 f' i' := funext fun q => by rw [sI_1, if_neg (fun z => h ⟨z.1, z.2.1⟩)]
/-! ===== small numbers ===== -/
theorem nI_lit0 : (0 : Int32) = nI 0 := rfl
theorem nI_ib {k N : Nat} (h : k < N) (hN : N < 2 ^ 31) : ib (nI k) N := nI_in h hN
theorem nI_cl {k : Nat} (h : k < 2 ^ 31) : (nI k).toNatClampNeg = k := nI_clamp h
theorem nI_div {a b : Nat} (ha : a < 2 ^ 31) (h0 : 0 < b) (hb : b < 2 ^ 31) : nI a / nI b = nI (a / b) := pk_div ha h0 hb
theorem nI_rem {a b : Nat} (ha : a < 2 ^ 31) (h0 : 0 < b) (hb : b < 2 ^ 31) : nI a - nI a / nI b * nI b = nI (a % b) := pk_rem ha h0 hb
def b2i (b : Bool) : Int32 := if b then 1 else 0
theorem bt_1 (i : Nat) : bt 1 i = decide (i = 0) := by
  rcases Nat.lt_or_ge i 32 with h | h
  · exact (by decide +kernel : ∀ i, i < 32 → bt 1 i = decide (i = 0)) i h
  · rw [b_big h, decide_eq_false (by omega)]
theorem b2i_bt (b : Bool) (i : Nat) : bt (b2i b) i = (b && decide (i = 0)) := by
  cases b
  · simp [b2i, b_0]
  · simp [b2i, bt_1]
/-- one bit of a number, as the machine takes it -/
theorem ushr_bit (x : Int32) {n : Nat} (hn : n < 32) : ((x.toUInt32 >>> ((nI n).toUInt32 &&& Int32.toUInt32 31)).toInt32 &&& 1) = b2i (bt x n) := by
  apply b_ext
  intro i hi
  rw [b_and, b_ushr n hn, bt_1, b2i_bt]
  by_cases h : i = 0
  · subst h; simp
  · simp [h]
theorem shr_bit (x : Int32) {n : Nat} (hn : n < 32) : ((x >>> (nI n &&& 31)) &&& 1) = b2i (bt x n) := by
  apply b_ext
  intro i hi
  rw [b_and, b_sshr n hn x hi, bt_1, b2i_bt]
  by_cases h : i = 0
  · subst h; simp [hn]
  · simp [h]
theorem b2i_eq0 (b : Bool) : b2i b = 0 ↔ b = false := by cases b <;> decide
theorem b2i_lt (b : Bool) : ¬ b2i b < 0 := by cases b <;> decide
