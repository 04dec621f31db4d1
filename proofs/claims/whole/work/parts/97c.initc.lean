/-! ===== the row of the constructor's call ===== -/
section INITC
variable {p : Program} {l : Launch} {e : Env} {R : Room} {s : State} {m : MethodId} {args : Array Value} {below : List Frame} {meth : Method} {c : Code} {H : Heap} {locs : List Loc} {cells slots : Nat} {Q : State → Prop}
variable {cc bytes : ByteArray} {pc nL maxL : Nat} {ls : Array Slot} {rest : List Value} {D : va_G} {aC : Nat → ClassId} {A : Nat → Prop} {ad : Nat → Nat → Nat} {n : Nat} {σ : St} {own : String} {index : Nat}
theorem one_at {q : Nat} {x : va_E} {k : Nat} {y : Nat × va_E} (h : ([(q, x)] : va_W)[k]? = some y) : k = 0 ∧ y = (q, x) := by
  have hk := (List.getElem?_eq_some_iff.mp h).1
  have : k = 0 := by
    simp at hk
    exact hk
  subst this
  cases h
  exact ⟨rfl, rfl⟩
theorem st_initC {q : Nat} {a : Int32} (S : CallFix p m c cc nL s args gW own) (cw : CallB R s args own index y_Code_init bytes maxL none w_Code_init rm_Code_init 6 240 1 ∧ y_Code_init.name = "<init>" ∧ (Cond.instanceMethod y_Code_init).before args s = true) (hK : Kn D aC s) (hH : Hold D aC A ad n σ H) (hn : n < 12) (hlt : ∀ f i, dm n f i → ad f i < q) (hq : va_at D vwCl (q, dfC) H) (hsq : s.heap.size ≤ q) (hA : ∀ x, s.heap.size ≤ x → A x) (hS : va_S A s.heap H locs) (hsize : ls.size = nL) (hW : ((.ref q :: rest).map fun v => v.category).sum ≤ 8) (hdg : decode cc pc = .ok (.invokespecial index, 3)) (hf : cells + 6 ≤ R.cells ∧ slots + 240 ≤ R.slots)
    (kk : ∀ (ad1 : Nat → Nat → Nat) (H1 : Heap) (locs1 : List Loc), (∀ f i, dm n f i → ad1 f i = ad f i) → Hold D aC A ad1 (n + 1) (nC σ a) H1 → va_S A s.heap H1 locs1 → W p l e R s m args below meth c H1 locs1 (cells + 6) (slots + 240) Q (F0 m (pc + 3) ls (.ref (ad1 41 n) :: rest))) : W p l e R s m args below meth c H locs cells slots Q (F0 m pc ls (.int a :: .ref q :: .ref q :: rest)) := by
  have hPq : va_P D vwCl [(q, dfC)] H := fun k x hx => by
    obtain ⟨-, rfl⟩ := one_at hx
    exact hq
  have hDq : va_D (fun _ => True) [(q, dfC)] := ⟨fun i j x y hx hy _ => by rw [(one_at hx).1, (one_at hy).1], fun _ _ _ => trivial⟩
  have hV : ∀ x, va_A [(q, dfC)] H.size x → x = q ∨ H.size ≤ x := fun x hx => by
    rcases hx with ⟨k, e2, hk⟩ | hk
    · have hz := (one_at hk).2
      exact Or.inl (congrArg Prod.fst hz)
    · exact Or.inr hk
  have hF : ∀ x, va_A [(q, dfC)] H.size x → A x := fun x hx => by
    rcases hV x hx with rfl | hz
    · exact hA _ hsq
    · exact hA _ (Nat.le_trans hS.1 hz)
  have hqz : q < H.size := hq.lt
  refine va_callv (va_runI (As := [.int a]) (rest := .ref q :: rest) S (c_Code_init l D aC q H.size a) cw ⟨cPre.blind, fun U hU hW => ⟨rfl, by rw [hU], by rw [hU]; exact hPq, hK.warm hW, hDq⟩⟩ rfl rfl hsize rfl (lv_room hW) hdg hf) hS (fun x _ h => hF x h) hF (fun u t H1 locs1 ht hvm hw hB hz1 hk1 hS1 => ?_)
  obtain ⟨q1, q2, q3, q4, q5, q6⟩ := u
  obtain ⟨hP1, hD1⟩ := hB
  rw [ht] at hP1
  have h := kk (adN ad n q q1 q2 q3 q4 q5 q6) H1 locs1 (fun f i hd => adN_old hn hd) (hold_new hn hH hlt hqz (fun x hx => hk1 x (Nat.lt_trans hx hqz) (fun z => by
    rcases hV x z with y | y
    · omega
    · omega)) hP1 hD1 (fun x hx => hA x (Nat.le_trans hsq hx))) hS1
  have e1 : adN ad n q q1 q2 q3 q4 q5 q6 41 n = q := by
    unfold adN
    rw [if_pos rfl, if_pos rfl]
  rw [e1] at h
  exact h
end INITC
/-- a start of a method that makes codes, and its end -/
def PreA (D : va_G) (aC : Nat → ClassId) (A : Nat → Prop) (ad : Nat → Nat → Nat) (n : Nat) (σ : St) (U : State) : Prop := Pre D aC A ad n σ U ∧ ∀ q, U.heap.size ≤ q → A q
theorem PreA.blind {D : va_G} {aC : Nat → ClassId} {A : Nat → Prop} {ad : Nat → Nat → Nat} {n : Nat} {σ : St} {av : List Value} : FrameBlind (va_Pc av (PreA D aC A ad n σ)) := fun a U g mk h => ⟨h.1, (Pre.blind (av := av) a U g mk ⟨h.1, h.2.1⟩).2, h.2.2⟩
def HoldA (D : va_G) (aC : Nat → ClassId) (A : Nat → Prop) (ad : Nat → Nat → Nat) (n : Nat) (u : Nat → Nat → Nat) (σ : St) (H : Heap) : Prop := Hold D aC A u σ.2.2.2 σ H ∧ ∀ f i, dm n f i → u f i = ad f i
