/-! ===== an array of arrays: N rows of M cells ===== -/
def mrf (h i : Nat) : Nat → Value := fun j => if j < i then .ref (h + 1 + j) else .null
def mrw (c k : ClassId) (N M : Nat) (v : Value) (T : State) : Nat → State
  | 0 => T.pushCell (arrV c N (mrf T.heap.size 0))
  | i + 1 => ((mrw c k N M v T i).pushCell (arrV k M (fun _ => v))).setCell T.heap.size (arrV c N (mrf T.heap.size (i + 1)))
theorem mrf_up (h i : Nat) : updV (mrf h i) i (.ref (h + 1 + i)) = mrf h (i + 1) := by
  funext j
  simp only [updV, mrf]
  by_cases y : j = i
  · subst y
    rw [if_pos rfl, if_pos (by omega)]
  · rw [if_neg y]
    by_cases z : j < i
    · rw [if_pos z, if_pos (by omega)]
    · rw [if_neg z, if_neg (by omega)]
theorem mrw_ok (c k : ClassId) (N M : Nat) (v : Value) (T : State) : ∀ i, (mrw c k N M v T i).heap.size = T.heap.size + 1 + i ∧ (mrw c k N M v T i).heap[T.heap.size]? = some (arrV c N (mrf T.heap.size i)) ∧ (mrw c k N M v T i).vm = T.vm ∧ (mrw c k N M v T i).slotsUsed = T.slotsUsed + N + i * M ∧ (∀ a, a < T.heap.size → (mrw c k N M v T i).heap[a]? = T.heap[a]?) ∧ ∀ j, j < i → (mrw c k N M v T i).heap[T.heap.size + 1 + j]? = some (arrV k M (fun _ => v))
  | 0 => by
    refine ⟨by simp [mrw], by simp [mrw], rfl, ?_, fun a ha => ?_, fun j hj => absurd hj (by omega)⟩
    · simp [mrw, arrV_size]
    · exact State.heap_pushCell_of_lt _ _ ha
  | i + 1 => by
    obtain ⟨a1, a2, a3, a4, a5, a6⟩ := mrw_ok c k N M v T i
    have hlt : T.heap.size < (mrw c k N M v T i).heap.size := by omega
    have h0 : ((mrw c k N M v T i).pushCell (arrV k M (fun _ => v))).heap[T.heap.size]? = some (arrV c N (mrf T.heap.size i)) := by
      rw [State.heap_pushCell_of_lt _ _ hlt]
      exact a2
    refine ⟨?_, State.heap_setCell_self h0, by simp [mrw, a3], ?_, fun a ha => ?_, fun j hj => ?_⟩
    · simp [mrw, State.setCell, a1]
      omega
    · simp [mrw, a4, arrV_size, Nat.succ_mul]
      omega
    · show (((mrw c k N M v T i).pushCell (arrV k M (fun _ => v))).setCell T.heap.size _).heap[a]? = _
      have q1 : a < (mrw c k N M v T i).heap.size := by rw [a1]; exact Nat.lt_of_lt_of_le ha (by omega)
      rw [State.heap_setCell_other (Nat.ne_of_gt ha), State.heap_pushCell_of_lt _ _ q1]
      exact a5 a ha
    · show (((mrw c k N M v T i).pushCell (arrV k M (fun _ => v))).setCell T.heap.size _).heap[T.heap.size + 1 + j]? = _
      have q0 : T.heap.size ≠ T.heap.size + 1 + j := by omega
      rw [State.heap_setCell_other q0]
      rcases Nat.lt_or_ge j i with y | y
      · have q1 : T.heap.size + 1 + j < (mrw c k N M v T i).heap.size := by rw [a1]; omega
        rw [State.heap_pushCell_of_lt _ _ q1]
        exact a6 j y
      · have q2 : T.heap.size + 1 + j = (mrw c k N M v T i).heap.size := by rw [a1]; omega
        rw [q2]
        exact State.heap_pushCell_size _ _
theorem mrw_top (f : JFrame) (c k : ClassId) (N M : Nat) (v : Value) (T : State) : ∀ i, mrw c k N M v (T.setTop f) i = (mrw c k N M v T i).setTop f
  | 0 => rfl
  | i + 1 => by simp only [mrw, mrw_top f c k N M v T i, State.heap_setTop, State.pushCell_setTop, State.setCell_setTop]
section MW
variable {E : CtlPost} {e : Env} {d : Bool} {acts : List Action} {s : State}
theorem mw_row {k cc : ClassId} {kc : Class} {ty : FieldType} {m : Int32} (h1 : s.vm.classes[k]? = some kc) (h2 : kc.kind = .array cc ty) (hm : ¬ m < 0) (l1 : ¬ m.toNatClampNeg > e.platform.arrayLengthLimit) (l2 : ¬ m.toNatClampNeg * componentBytes ty > e.platform.maxHeapBytes) (hf : fits ty (defaultValue ty) = true) (r1 : s.heap.size < e.platform.maxCells) (r2 : s.slotsUsed + m.toNatClampNeg ≤ e.platform.maxSlots)
    {Q : Addr → Jvm.Pre} (hq : ∀ acts', Q s.heap.size d acts' (s.pushCell (arrV k m.toNatClampNeg (fun _ => defaultValue ty)))) : wp (multianewarray.make k [m]) Q E e d acts s := by
  rw [multianewarray.make]
  simp only [wp_bind', W.ite, hm, if_false, wp_pure', W.theClass, h1, h2, Option.some.injEq, exists_eq_left']
  refine W.newArray_of h1 h2 l1 l2 r1 r2 hf (fun acts' => ?_)
  rw [arrV_new]
  exact hq acts'
theorem fits_ref {t : FieldType} (h : t.isReference = true) (a : Addr) : fits t (.ref a) = true ∧ fits t .null = true := by
  cases t <;> first | exact ⟨rfl, rfl⟩ | (simp [FieldType.isReference] at h)
theorem mw_rows {c k cc : ClassId} {ka kc : Class} {t0 ty : FieldType} {n m : Int32} (g1 : s.vm.classes[c]? = some ka) (g2 : ka.kind = .array k t0) (g3 : t0.isReference = true) (h1 : s.vm.classes[k]? = some kc) (h2 : kc.kind = .array cc ty) (hn : ¬ n < 0) (hm : ¬ m < 0) (o1 : ¬ n.toNatClampNeg > e.platform.arrayLengthLimit) (o2 : ¬ n.toNatClampNeg * componentBytes t0 > e.platform.maxHeapBytes) (l1 : ¬ m.toNatClampNeg > e.platform.arrayLengthLimit) (l2 : ¬ m.toNatClampNeg * componentBytes ty > e.platform.maxHeapBytes) (hf : fits ty (defaultValue ty) = true)
    (r1 : s.heap.size + 1 + n.toNatClampNeg ≤ e.platform.maxCells) (r2 : s.slotsUsed + n.toNatClampNeg + n.toNatClampNeg * m.toNatClampNeg ≤ e.platform.maxSlots) {Q : Addr → Jvm.Pre} (hq : ∀ d' acts', Q s.heap.size d' acts' (mrw c k n.toNatClampNeg m.toNatClampNeg (defaultValue ty) s n.toNatClampNeg)) : wp (multianewarray.make c [n, m]) Q E e d acts s := by
  have hnone : ([m].find? (· < 0)) = none := by simp [hm]
  rw [multianewarray.make]
  simp only [wp_bind', W.ite, hn, if_false, wp_pure', W.theClass, g1, g2, Option.some.injEq, exists_eq_left']
  have z := Nat.zero_le (n.toNatClampNeg * m.toNatClampNeg)
  refine W.newArray_of g1 g2 o1 o2 (by omega) (by omega) (fits_ref g3 0).2 (fun acts' => ?_)
  rw [arrV_new]
  simp only [hnone]
  rw [ite_self, wp_bind', Std.Legacy.Range.forIn_eq_forIn_range']
  rw [show ([:n.toNatClampNeg] : Std.Legacy.Range).size = n.toNatClampNeg by simp [Std.Legacy.Range.size]]
  show wp (forIn (List.range' 0 n.toNatClampNeg 1) PUnit.unit _) _ E e d acts' _
  generalize hN : n.toNatClampNeg = N at *
  generalize hM : m.toNatClampNeg = M at *
  refine wp_forIn_inv (fun rest s' => ∃ i, i ≤ N ∧ rest = List.range' i (N - i) ∧ s' = mrw c k N M (defaultValue ty) s i) _ _ ⟨0, Nat.zero_le _, rfl, rfl⟩ ?_ ?_
  · rintro x rest s' d' acts2 Q' ⟨i, hi, hl, rfl⟩ nxt
    have hlt : i < N := by
      rcases Nat.lt_or_ge i N with y | y
      · exact y
      · rw [show N - i = 0 by omega] at hl
        cases hl
    rw [show N - i = N - (i + 1) + 1 by omega, List.range'_succ] at hl
    obtain ⟨rfl, hl2⟩ := List.cons.inj hl
    obtain ⟨a1, a2, a3, a4, a5, a6⟩ := mrw_ok c k N M (defaultValue ty) s x
    have hmul : x * M + M ≤ N * M := by
      have := Nat.mul_le_mul_right M (show x + 1 ≤ N from hlt)
      rw [Nat.succ_mul] at this
      exact this
    simp only [wp_bind']
    refine mw_row (by rw [a3]; exact h1) h2 hm (by rw [hM]; exact l1) (by rw [hM]; exact l2) hf (by rw [a1]; omega) (by rw [a4, hM]; omega) (fun acts3 => ?_)
    have q1 : s.heap.size < (mrw c k N M (defaultValue ty) s x).heap.size := by rw [a1]; omega
    simp only [wp_bind', W.writeLoc, wp_pure']
    refine ⟨arrV c N (mrf s.heap.size x), by rw [State.heap_pushCell_of_lt _ _ q1]; exact a2, by simp [arrV], by rw [arrV_size]; exact hlt, ?_, nxt _ _ _ ⟨x + 1, hlt, hl2, ?_⟩⟩
    · simp [State.fitsSlot, State.slotType?, arrV, a3, g1, g2, (fits_ref g3 _).1]
    · rw [hM, a1, arrV_store, mrf_up]
      rfl
  · rintro s' d' acts2 ⟨i, hi, hl, rfl⟩
    have hiN : i = N := by
      rcases Nat.lt_or_ge i N with y | y
      · rw [show N - i = N - (i + 1) + 1 by omega, List.range'_succ] at hl
        cases hl
      · omega
    subst hiN
    simp only [wp_pure']
    exact hq _ _
end MW
