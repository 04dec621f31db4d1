/-! ===== the reference's table ===== -/
def E3 (σ : St) (i : Nat) (a b c : Int32) : Prop := σ.1 61 0 i = a ∧ σ.1 62 0 i = b ∧ σ.1 63 0 i = c
abbrev F61 : Nat → Nat → Nat → Prop := fun f _ _ => 61 ≤ f ∧ f ≤ 63
/-- entries v .. v + n - 1 are set, no others -/
def RE (σ σ1 : St) (v n : Nat) (a b c : Int32) : Prop := (∀ i, v ≤ i → i < v + n → E3 σ1 i a b c) ∧ (∀ i x y z, ¬ (v ≤ i ∧ i < v + n) → E3 σ i x y z → E3 σ1 i x y z) ∧ fr F61 σ σ1
theorem s_putEntry {σ : St} {i : Nat} {a b c : Int32} (hi : i < 80000) (ha : a.toInt8.toInt32.toInt8.toInt32 = a) : ok (f_Mo_putEntry σ (nI i) a b c) (fun σ1 => RE σ σ1 i 1 a b c) := by
  unfold f_Mo_putEntry
  rw [nI_cl (show i < 2 ^ 31 by omega), ha]
  have hib : ib (nI i) 80000 := nI_ib (by omega) (by omega)
  refine ok_gd hib (ok_nm (fun σ1 e1 => ok_gd hib (ok_nm (fun σ2 e2 => ok_gd hib (ok_nm (fun σ3 e3 => ok_some ⟨fun j h1 h2 => ?_, fun j x y z hj hE => ?_, ?_⟩))))))
  · have : j = i := by omega
    subst this
    unfold E3
    rw [e3, sI_f (by omega), sI_f (by omega), sI_at, e2, sI_f (by omega), sI_at, e1, sI_at]
    exact ⟨rfl, rfl, rfl⟩
  · unfold E3 at *
    rw [e3, sI_f (by omega), sI_f (by omega), sI_k (by omega), e2, sI_f (by omega), sI_k (by omega), sI_f (by omega), e1, sI_k (by omega), sI_f (by omega), sI_f (by omega)]
    exact hE
  · rw [e3, e2, e1]
    exact (fr_sI (by omega)).tr ((fr_sI (by omega)).tr (fr_sI (by omega)))
theorem RE.more {σ σ1 σ2 : St} {v n : Nat} {a b c : Int32} (h1 : RE σ σ1 v n a b c) (h2 : RE σ1 σ2 (v + n) 1 a b c) : RE σ σ2 v (n + 1) a b c := by
  refine ⟨fun i p q => ?_, fun i x y z hi hE => ?_, h1.2.2.tr h2.2.2⟩
  · rcases Nat.lt_or_ge i (v + n) with w | w
    · exact h2.2.1 i _ _ _ (by omega) (h1.1 i p w)
    · exact h2.1 i w (by omega)
  · exact h2.2.1 i _ _ _ (by omega) (h1.2.1 i x y z (by omega) hE)
theorem RE_0 {σ : St} {v : Nat} {a b c : Int32} : RE σ σ v 0 a b c := ⟨fun i p q => absurd q (by omega), fun i x y z _ hE => hE, fr.rf⟩
theorem s_clearEntries {σ : St} {v n : Nat} (h : v + n ≤ 80000) : ok (f_Mo_clearEntries σ (nI v) (nI n)) (fun σ1 => RE σ σ1 v n 0 (-1) 0) := by
  unfold f_Mo_clearEntries
  refine ok_b2 (Q := fun q => RE σ q.1 v n 0 (-1) 0) (ok_up (v + n) (fun i q => q.2 = nI i ∧ v ≤ i ∧ RE σ q.1 v (i - v) 0 (-1) 0) ?_ ?_ v _ (by omega) ⟨rfl, Nat.le_refl _, by rw [Nat.sub_self]; exact RE_0⟩) (fun σ3 x4 hq => ok_some hq)
  · rintro i ⟨σ1, x⟩ hi ⟨rfl, h1, q⟩
    dsimp only at q ⊢
    unfold lb_Mo_clearEntries_2
    rw [nI_add]
    refine ok_f (nI_ge hi (by omega)) (ok_b1 (s_putEntry (i := i) (by omega) (by decide)) (fun σ2 h2 => ok_nm (fun x2 e2 => ok_some ⟨by dsimp only; rw [e2, nI_1], by omega, ?_⟩)))
    rw [show i + 1 - v = i - v + 1 by omega]
    refine q.more ?_
    rw [show v + (i - v) = i by omega]
    exact h2
  · rintro ⟨σ1, x⟩ ⟨rfl, h1, q⟩
    dsimp only at q ⊢
    unfold lb_Mo_clearEntries_2
    rw [nI_add]
    rw [Nat.add_sub_cancel_left] at q
    exact ok_t (nI_le (Nat.le_refl _) (by omega)) (ok_some q)
theorem div_iff {i d w : Nat} : i / 2 ^ d = w ↔ w * 2 ^ d ≤ i ∧ i < w * 2 ^ d + 2 ^ d := by
  have h1 := Nat.div_mul_le_self i (2 ^ d)
  have h2 := Nat.lt_mul_div_succ i (Nat.two_pow_pos d)
  rw [Nat.mul_comm, Nat.add_mul, Nat.one_mul] at h2
  constructor
  · intro h
    subst h
    exact ⟨h1, h2⟩
  · rintro ⟨h3, h4⟩
    rcases Nat.lt_trichotomy (i / 2 ^ d) w with z | z | z
    · have : (i / 2 ^ d + 1) * 2 ^ d ≤ w * 2 ^ d := Nat.mul_le_mul_right _ z
      rw [Nat.add_mul, Nat.one_mul] at this
      omega
    · exact z
    · have : (w + 1) * 2 ^ d ≤ i / 2 ^ d * 2 ^ d := Nat.mul_le_mul_right _ z
      rw [Nat.add_mul, Nat.one_mul] at this
      omega
abbrev EV (σ : St) (L : Nat → Nat) (i : Nat) (x : Option Nat) : Prop := E3 σ i (ev L x 0) (ev L x 1) (ev L x 2)
theorem EV_sym {σ : St} {L : Nat → Nat} {i k : Nat} (h : E3 σ i 1 (nI k) (nI (L k))) : EV σ L i (some k) := h
theorem EV_non {σ : St} {L : Nat → Nat} {i : Nat} (h : E3 σ i 0 (-1) 0) : EV σ L i none := h
/-- the symbols of the root -/
theorem s_table55 {σ : St} {c s r : Nat} {L : Nat → Nat} {x5 : Int32} (hL : LR σ c s L) (hr : r ≤ 9) (hf : fil (fun m => cnt L m s) 15 ≤ 32768) (h0 : ∀ i, i < 2 ^ r → EV σ L i none) : ok (lpE (fun q => lb_Mo_table_55 (nI c) (nI r) x5 q.1 q.2) (σ, 0)) (fun q => (∀ i, i < 2 ^ r → EV q.1 L i (hs L s 1 i r s)) ∧ fr F61 σ q.1) := by
  have hs64 := hL.2.1
  have hc := hL.2.2.1
  have hp9 : 2 ^ r ≤ 2 ^ 9 := Nat.pow_le_pow_right (by omega) hr
  refine ok_up s (fun m q => q.2 = nI m ∧ (∀ i, i < 2 ^ r → EV q.1 L i (hs L s 1 i r m)) ∧ fr F61 σ q.1) ?_ ?_ 0 _ (Nat.zero_le _) ⟨rfl, h0, fr.rf⟩
  · rintro m ⟨σ1, x⟩ hm ⟨rfl, q1, q2⟩
    dsimp only at q1 q2 ⊢
    have g : LR σ1 c s L := hL.go (q2.fi (fun _ => by omega)) (q2.fi (fun _ => by omega))
    have hl := (g.2.2.2 m hm).2
    unfold lb_Mo_table_55
    rw [nI_cl (show c < 2 ^ 31 by omega), g.1]
    refine ok_gd (nI_ib (by omega) (by omega)) (ok_f (nI_ge hm (by omega)) (ok_b2e (e_lengthOf g hm) ?_))
    have nxt : (∀ i, i < 2 ^ r → ¬ hit L s 1 i r m) → ∀ i, i < 2 ^ r → EV σ1 L i (hs L s 1 i r (m + 1)) := by
      intro hno i hi
      simp only [hs]
      rw [if_neg (hno i hi)]
      exact q1 i hi
    refine ok_if (fun d => ok_nm (fun x10 e10 => ok_some ⟨by dsimp only; rw [e10, nI_1], nxt (fun i hi z => ?_), q2⟩)) (fun d => ok_if (fun d2 => ok_nm (fun x11 e11 => ok_some ⟨by dsimp only; rw [e11, nI_1], nxt (fun i hi z => ?_), q2⟩)) (fun d2 => ?_))
    · have d' := (nI_leI (b := 0) (by omega) (by omega)).mp d
      have := z.1
      omega
    · have d2' := (nI_ltI (by omega) (by omega)).mp d2
      have := z.2.1
      omega
    · have d' : 1 ≤ L m := Nat.pos_of_ne_zero (fun z => d (by rw [z]; exact nI_le (b := 0) (Nat.le_refl _) (by omega)))
      have d2' : L m ≤ r := Nat.le_of_not_lt (fun z => d2 (nI_lt z (by omega)))
      have hw := stt_top hm d' hl hf
      have hvb : wrd L s m * 2 ^ (r - L m) + 2 ^ (r - L m) ≤ 2 ^ r := by
        have : (wrd L s m + 1) * 2 ^ (r - L m) ≤ 2 ^ L m * 2 ^ (r - L m) := Nat.mul_le_mul_right _ hw
        rw [← Nat.pow_add, show L m + (r - L m) = r by omega, Nat.add_mul, Nat.one_mul] at this
        exact this
      have hpp := Nat.two_pow_pos (r - L m)
      refine ok_b2 (e_wordOf g hm d') (fun σ12 x13 h12 => ?_)
      cases h12
      rw [pk_sub d2', shlk (by omega) (by omega)]
      refine ok_nm (fun x14 e14 => ?_)
      rw [e14]
      refine ok_b2 (Q := fun q => RE σ1 q.1 (wrd L s m * 2 ^ (r - L m)) (2 ^ (r - L m)) 1 (nI m) (nI (L m))) (ok_up (2 ^ (r - L m)) (fun k q => q.2 = nI k ∧ RE σ1 q.1 (wrd L s m * 2 ^ (r - L m)) k 1 (nI m) (nI (L m))) ?_ ?_ 0 _ (Nat.zero_le _) ⟨rfl, RE_0⟩) ?_
      · rintro k ⟨σ2, y⟩ hk ⟨rfl, p⟩
        dsimp only at p ⊢
        unfold lb_Mo_table_103
        rw [pk_sub d2', shl_1 (by omega), nI_add]
        exact ok_f (nI_ge hk (by omega)) (ok_b1 (s_putEntry (i := wrd L s m * 2 ^ (r - L m) + k) (by omega) (by decide)) (fun σ3 h3 => ok_nm (fun x16 e16 => ok_some ⟨by dsimp only; rw [e16, nI_1], p.more h3⟩)))
      · rintro ⟨σ2, y⟩ ⟨rfl, p⟩
        dsimp only at p ⊢
        unfold lb_Mo_table_103
        rw [pk_sub d2', shl_1 (by omega)]
        exact ok_t (nI_le (Nat.le_refl _) (by omega)) (ok_some p)
      · rintro σ17 x18 p
        dsimp only at p
        refine ok_nm (fun x19 e19 => ok_some ⟨by dsimp only; rw [e19, nI_1], fun i hi => ?_, q2.tr p.2.2⟩)
        simp only [hs]
        by_cases ht : hit L s 1 i r m
        · rw [if_pos ht]
          have := div_iff.mp ht.2.2.symm
          exact EV_sym (p.1 i this.1 this.2)
        · rw [if_neg ht]
          exact p.2.1 i _ _ _ (fun z => ht ⟨d', d2', (div_iff.mpr z).symm⟩) (q1 i hi)
  · rintro ⟨σ1, x⟩ ⟨rfl, q1, q2⟩
    dsimp only at q1 q2 ⊢
    have g : LR σ1 c s L := hL.go (q2.fi (fun _ => by omega)) (q2.fi (fun _ => by omega))
    unfold lb_Mo_table_55
    rw [nI_cl (show c < 2 ^ 31 by omega), g.1]
    exact ok_gd (nI_ib (by omega) (by omega)) (ok_t (nI_le (Nat.le_refl _) (by omega)) (ok_some ⟨q1, q2⟩))
theorem and_low {w k : Nat} (hw : w < 2 ^ 32) (hk : k < 31) : nI w &&& ((1 : Int32) <<< (nI k &&& 31) - 1) = nI (w % 2 ^ k) := by
  have h2 : 1 ≤ 2 ^ k := Nat.two_pow_pos k
  have h3 : 2 ^ k < 2 ^ 31 := Nat.pow_lt_pow_right (by omega) hk
  rw [shl_1 hk, show nI (2 ^ k) - 1 = nI (2 ^ k - 1) from pk_sub (b := 1) h2]
  refine pk_andN hw k ?_
  show (nI (2 ^ k - 1)).toBitVec.toNat = 2 ^ k - 1
  show (2 ^ k - 1) % 2 ^ 32 = 2 ^ k - 1
  exact Nat.mod_eq_of_lt (by omega)
/-- a part -/
theorem s_part {σ : St} {c s r i at0 : Nat} {L : Nat → Nat} (hL : LR σ c s L) (hr : r ≤ 9) (hf : fil (fun m => cnt L m s) 15 ≤ 32768) (hi : i < 2 ^ r) (hm : ms L s r i s ≠ 0) (h20 : σ.1 48 0 20 = nI at0) (hat : at0 + 2 ^ ms L s r i s ≤ 80000) (hat2 : i < at0) : ok (f_Mo_part σ (nI c) (nI r) (nI i) (nI (ms L s r i s))) (fun σ1 => E3 σ1 i 2 (nI at0) (nI (ms L s r i s)) ∧ (∀ x, x < 2 ^ ms L s r i s → EV σ1 L (at0 + x) (hs L s (r + 1) (i * 2 ^ ms L s r i s + x) (r + ms L s r i s) s)) ∧ (∀ k x y z, k ≠ i → ¬ (at0 ≤ k ∧ k < at0 + 2 ^ ms L s r i s) → E3 σ k x y z → E3 σ1 k x y z) ∧ σ1.1 48 0 20 = nI (at0 + 2 ^ ms L s r i s) ∧ fr (fun f _ k => (61 ≤ f ∧ f ≤ 63) ∨ (f = 48 ∧ k = 20)) σ σ1) := by
  have hs64 := hL.2.1
  have hc := hL.2.2.1
  have hLn : ∀ k, k < s → L k ≤ 15 := fun k hk => (hL.2.2.2 k hk).2
  have hml := ms_le (r := r) (j := i) hLn
  have hp9 : 2 ^ r ≤ 2 ^ 9 := Nat.pow_le_pow_right (by omega) hr
  have hmx := (ms_spec L s r i s).1
  generalize ms L s r i s = b at *
  unfold f_Mo_part
  rw [h20]
  refine ok_nm (fun x1 e1 => ?_)
  rw [e1]
  refine ok_b1 (s_putEntry (i := i) (by omega) (by decide)) (fun σ2 h2 => ?_)
  rw [show σ2.1 48 0 20 = nI at0 by rw [h2.2.2.i (by omega)]; exact h20, shl_1 (show b < 31 by omega), nI_add]
  refine ok_nm (fun σ3 e3 => ok_b1 (s_clearEntries (v := at0) (n := 2 ^ b) (by omega)) (fun σ4 h4 => ?_))
  have E23 : ∀ k x y z, E3 σ2 k x y z → E3 σ3 k x y z := fun k x y z h => by
    unfold E3 at *
    rw [e3, sI_f (by omega), sI_f (by omega), sI_f (by omega)]
    exact h
  have f4 : fr (fun f _ k => (61 ≤ f ∧ f ≤ 63) ∨ (f = 48 ∧ k = 20)) σ σ4 := by
    refine (h2.2.2.mono (fun f i k z => Or.inl z)).tr (fr.tr ?_ (h4.2.2.mono (fun f i k z => Or.inl z)))
    rw [e3]
    exact fr_sI (by omega)
  refine ok_b2 (Q := fun q => (∀ x, x < 2 ^ b → EV q.1 L (at0 + x) (hs L s (r + 1) (i * 2 ^ b + x) (r + b) s)) ∧ (∀ k x y z, ¬ (at0 ≤ k ∧ k < at0 + 2 ^ b) → E3 σ4 k x y z → E3 q.1 k x y z) ∧ fr F61 σ4 q.1) (ok_up s (fun m q => q.2 = nI m ∧ (∀ x, x < 2 ^ b → EV q.1 L (at0 + x) (hs L s (r + 1) (i * 2 ^ b + x) (r + b) m)) ∧ (∀ k x y z, ¬ (at0 ≤ k ∧ k < at0 + 2 ^ b) → E3 σ4 k x y z → E3 q.1 k x y z) ∧ fr F61 σ4 q.1) ?_ ?_ 0 _ (Nat.zero_le _) ⟨rfl, fun x hx => h4.1 (at0 + x) (by omega) (by omega), fun k x y z _ hE => hE, fr.rf⟩) ?_
  · rintro m ⟨σ5, x⟩ hmm ⟨rfl, q1, q2, q3⟩
    dsimp only at q1 q2 q3 ⊢
    have g : LR σ5 c s L := hL.go (by rw [q3.fi (fun _ => by omega), f4.fi (fun _ => by omega)]) (by rw [q3.fi (fun _ => by omega), f4.fi (fun _ => by omega)])
    have hl := (g.2.2.2 m hmm).2
    unfold lb_Mo_part_42
    rw [nI_cl (show c < 2 ^ 31 by omega), g.1]
    refine ok_gd (nI_ib (by omega) (by omega)) (ok_f (nI_ge hmm (by omega)) (ok_b2e (e_lengthOf g hmm) ?_))
    have nxt : (∀ x, x < 2 ^ b → ¬ hit L s (r + 1) (i * 2 ^ b + x) (r + b) m) → ∀ x, x < 2 ^ b → EV σ5 L (at0 + x) (hs L s (r + 1) (i * 2 ^ b + x) (r + b) (m + 1)) := by
      intro hno x hx
      simp only [hs]
      rw [if_neg (hno x hx)]
      exact q1 x hx
    refine ok_if (fun d => ok_nm (fun x7 e7 => ok_some ⟨by dsimp only; rw [e7, nI_1], nxt (fun x hx z => ?_), q2, q3⟩)) (fun d => ?_)
    · have d' := (nI_leI (by omega) (by omega)).mp d
      have := z.1
      omega
    · have d' : r < L m := Nat.lt_of_not_le (fun z => d (nI_le z (by omega)))
      have hw := stt_top hmm (show 1 ≤ L m by omega) hl hf
      have hw15 : 2 ^ L m ≤ 2 ^ 15 := Nat.pow_le_pow_right (by omega) hl
      have hdl : wrd L s m / 2 ^ (L m - r) ≤ wrd L s m := Nat.div_le_self _ _
      refine ok_b2 (e_wordOf g hmm (by omega)) (fun σ8 x9 h8 => ?_)
      cases h8
      rw [pk_sub (show r ≤ L m by omega), pk_shrN (by omega) _ (L m - r) (s_l _ (by omega))]
      refine ok_if (fun d2 => ?_) (fun d2 => ok_nm (fun x10 e10 => ok_some ⟨by dsimp only; rw [e10, nI_1], nxt (fun x hx z => d2 ?_), q2, q3⟩))
      · have d2' : prf L s r m = i := (nI_eq (a := wrd L s m / 2 ^ (L m - r)) (by omega) (by omega)).mp d2
        have hrb := hmx m hmm d' d2'
        refine ok_nm (fun x11 e11 => ok_b2 (e_wordOf g hmm (by omega)) (fun σ12 x13 h12 => ?_))
        cases h12
        have hmodl := Nat.mod_lt (wrd L s m) (Nat.two_pow_pos (L m - r))
        have hwm : wrd L s m = i * 2 ^ (L m - r) + wrd L s m % 2 ^ (L m - r) := by
          have := Nat.div_add_mod (wrd L s m) (2 ^ (L m - r))
          unfold prf at d2'
          rw [d2', Nat.mul_comm] at this
          exact this.symm
        have hvb : wrd L s m % 2 ^ (L m - r) * 2 ^ (b - (L m - r)) + 2 ^ (b - (L m - r)) ≤ 2 ^ b := by
          have : (wrd L s m % 2 ^ (L m - r) + 1) * 2 ^ (b - (L m - r)) ≤ 2 ^ (L m - r) * 2 ^ (b - (L m - r)) := Nat.mul_le_mul_right _ hmodl
          rw [← Nat.pow_add, show L m - r + (b - (L m - r)) = b by omega, Nat.add_mul, Nat.one_mul] at this
          exact this
        have hpp := Nat.two_pow_pos (b - (L m - r))
        have hb15 : 2 ^ b ≤ 2 ^ 15 := Nat.pow_le_pow_right (by omega) (by omega)
        have hhit : ∀ x, hit L s (r + 1) (i * 2 ^ b + x) (r + b) m ↔ wrd L s m % 2 ^ (L m - r) * 2 ^ (b - (L m - r)) ≤ x ∧ x < wrd L s m % 2 ^ (L m - r) * 2 ^ (b - (L m - r)) + 2 ^ (b - (L m - r)) := by
          intro x
          have e : (i * 2 ^ b + x) / 2 ^ (r + b - L m) = i * 2 ^ (L m - r) + x / 2 ^ (b - (L m - r)) := by
            rw [show r + b - L m = b - (L m - r) by omega, show i * 2 ^ b = 2 ^ (b - (L m - r)) * (i * 2 ^ (L m - r)) by
              rw [Nat.mul_comm (2 ^ (b - (L m - r))), Nat.mul_assoc, ← Nat.pow_add, show L m - r + (b - (L m - r)) = b by omega], Nat.mul_add_div (Nat.two_pow_pos _)]
          rw [← div_iff]
          constructor
          · rintro ⟨-, -, h3⟩
            rw [e] at h3
            omega
          · intro h
            refine ⟨by omega, by omega, ?_⟩
            rw [e, h]
            exact hwm
        rw [e11, and_low (by omega) (by omega), pk_sub hrb, shlk (by omega) (by omega)]
        refine ok_nm (fun x14 e14 => ?_)
        rw [e14]
        generalize wrd L s m % 2 ^ (L m - r) * 2 ^ (b - (L m - r)) = v at *
        generalize hcn : 2 ^ (b - (L m - r)) = cn at *
        refine ok_b2 (Q := fun q => RE σ5 q.1 (at0 + v) cn 1 (nI m) (nI (L m))) (ok_up cn (fun k q => q.2 = nI k ∧ RE σ5 q.1 (at0 + v) k 1 (nI m) (nI (L m))) ?_ ?_ 0 _ (Nat.zero_le _) ⟨rfl, RE_0⟩) ?_
        · rintro k ⟨σ6, y⟩ hk ⟨rfl, p⟩
          dsimp only at p ⊢
          unfold lb_Mo_part_115
          rw [pk_sub hrb, shl_1 (by omega), hcn, nI_add, nI_add]
          exact ok_f (nI_ge hk (by omega)) (ok_b1 (s_putEntry (i := at0 + v + k) (by omega) (by decide)) (fun σ7 h7 => ok_nm (fun x16 e16 => ok_some ⟨by dsimp only; rw [e16, nI_1], p.more h7⟩)))
        · rintro ⟨σ6, y⟩ ⟨rfl, p⟩
          dsimp only at p ⊢
          unfold lb_Mo_part_115
          rw [pk_sub hrb, shl_1 (by omega), hcn]
          exact ok_t (nI_le (Nat.le_refl _) (by omega)) (ok_some p)
        · rintro σ17 x18 p
          dsimp only at p
          refine ok_nm (fun x19 e19 => ok_some ⟨by dsimp only; rw [e19, nI_1], fun x hx => ?_, fun k x y z hk hE => ?_, q3.tr p.2.2⟩)
          · simp only [hs]
            by_cases ht : hit L s (r + 1) (i * 2 ^ b + x) (r + b) m
            · rw [if_pos ht]
              have := (hhit x).mp ht
              exact EV_sym (p.1 (at0 + x) (by omega) (by omega))
            · rw [if_neg ht]
              exact p.2.1 (at0 + x) _ _ _ (fun z => ht ((hhit x).mpr (by omega))) (q1 x hx)
          · exact p.2.1 k x y z (by omega) (q2 k x y z hk hE)
      · have h3 := z.2.2
        have h2 := z.2.1
        refine congrArg nI ?_
        rw [h3, Nat.div_div_eq_div_mul, ← Nat.pow_add, show r + b - L m + (L m - r) = b by omega, Nat.mul_comm, Nat.mul_add_div (Nat.two_pow_pos _), Nat.div_eq_of_lt hx, Nat.add_zero]
  · rintro ⟨σ5, x⟩ ⟨rfl, q1, q2, q3⟩
    dsimp only at q1 q2 q3 ⊢
    have g : LR σ5 c s L := hL.go (by rw [q3.fi (fun _ => by omega), f4.fi (fun _ => by omega)]) (by rw [q3.fi (fun _ => by omega), f4.fi (fun _ => by omega)])
    unfold lb_Mo_part_42
    rw [nI_cl (show c < 2 ^ 31 by omega), g.1]
    exact ok_gd (nI_ib (by omega) (by omega)) (ok_t (nI_le (Nat.le_refl _) (by omega)) (ok_some ⟨q1, q2, q3⟩))
  · rintro σ20 x21 ⟨q1, q2, q3⟩
    dsimp only at q1 q2 q3
    refine ok_some ⟨?_, q1, fun k x y z hk hk2 hE => ?_, ?_, f4.tr (q3.mono (fun f i k z => Or.inl z))⟩
    · refine q2 i _ _ _ (by omega) (h4.2.1 i _ _ _ (by omega) (E23 _ _ _ _ ?_))
      exact h2.1 i (Nat.le_refl _) (by omega)
    · exact q2 k _ _ _ hk2 (h4.2.1 k _ _ _ hk2 (E23 _ _ _ _ (h2.2.1 k _ _ _ (by omega) hE)))
    · rw [q3.i (by omega), h4.2.2.i (by omega), e3, sI_at]
