/-! ===== the row over lists of cells ===== -/
theorem vd_app {A : Nat → Prop} {ws us : va_W} {h : Nat} (hD : va_D A ws) (hlt : ∀ (k : Nat) (q : Nat × va_E), ws[k]? = some q → q.1 < h) (hus : ∀ (k : Nat) (q : Nat × va_E), us[k]? = some q → q.1 = h + k) (hA : ∀ k, h ≤ k → A k) : va_D A (ws ++ us) := by
  have cas : ∀ (k : Nat) (q : Nat × va_E), (ws ++ us)[k]? = some q → (k < ws.length ∧ ws[k]? = some q) ∨ (ws.length ≤ k ∧ us[k - ws.length]? = some q) := fun k q hq => by
    rcases Nat.lt_or_ge k ws.length with y | y
    · rw [List.getElem?_append_left y] at hq
      exact Or.inl ⟨y, hq⟩
    · rw [List.getElem?_append_right y] at hq
      exact Or.inr ⟨y, hq⟩
  refine ⟨fun i j p q hi hj he => ?_, fun k q hq => ?_⟩
  · rcases cas i p hi with ⟨y1, y2⟩ | ⟨y1, y2⟩
    · rcases cas j q hj with ⟨z1, z2⟩ | ⟨z1, z2⟩
      · exact hD.1 i j p q y2 z2 he
      · have := hlt i p y2
        have := hus _ q z2
        omega
    · rcases cas j q hj with ⟨z1, z2⟩ | ⟨z1, z2⟩
      · have := hlt j q z2
        have := hus _ p y2
        omega
      · have := hus _ p y2
        have := hus _ q z2
        omega
  · rcases cas k q hq with ⟨y1, y2⟩ | ⟨y1, y2⟩
    · exact hD.2 k q y2
    · rw [hus _ q y2]
      exact hA _ (by omega)
def mrE (aC : Nat → ClassId) (o i N M q : Nat) (inn : (Nat → Int32) ⊕ (Nat → Int64) ⊕ (Nat → UInt32) ⊕ (Nat → UInt64) ⊕ (Nat → Option Nat)) : va_W := (q, .inl (aC o, N, .inr (.inr (.inr (.inr (fun k => if k < N then some (q + 1 + k) else none)))))) :: (List.range N).map (fun j => (q + 1 + j, .inl (aC i, M, inn)))
theorem mrE_ix {aC : Nat → ClassId} {o i N M q : Nat} {inn : (Nat → Int32) ⊕ (Nat → Int64) ⊕ (Nat → UInt32) ⊕ (Nat → UInt64) ⊕ (Nat → Option Nat)} : ∀ (k : Nat) (x : Nat × va_E), (mrE aC o i N M q inn)[k]? = some x → x.1 = q + k ∧ ((k = 0 ∧ x = (q, .inl (aC o, N, .inr (.inr (.inr (.inr (fun k => if k < N then some (q + 1 + k) else none))))))) ∨ ∃ j, j < N ∧ k = j + 1 ∧ x = (q + 1 + j, .inl (aC i, M, inn)))
  | 0, x, h => by
    cases h
    exact ⟨rfl, Or.inl ⟨rfl, rfl⟩⟩
  | k + 1, x, h => by
    have h2 : ((List.range N).map (fun j => ((q + 1 + j, .inl (aC i, M, inn)) : Nat × va_E)))[k]? = some x := h
    rw [List.getElem?_map, Option.map_eq_some_iff] at h2
    obtain ⟨j, hj, rfl⟩ := h2
    obtain ⟨hk, hj⟩ := List.getElem?_eq_some_iff.mp hj
    rw [List.getElem_range] at hj
    subst hj
    rw [List.length_range] at hk
    exact ⟨by show q + 1 + k = q + (k + 1); omega, Or.inr ⟨k, hk, rfl, rfl⟩⟩
section MR3
variable {p : Program} {l : Launch} {e : Env} {R : Room} {s : State} {m : MethodId} {args : Array Value} {below : List Frame} {meth : Method} {c : Code} {H : Heap} {locs : List Loc} {cells slots : Nat} {Q : State → Prop}
variable {cc : ByteArray} {pc : Nat} {ls : Array Slot} {rest : List Value} {D : va_G} {aC : Nat → ClassId} {A : Nat → Prop} {H0 : Heap} {ws : va_W}
theorem ct_newM (hexec : p.tables.exec = Jvm.exec) (hb : c.code = cc) {own nm : String} {index o i : Nat} (hown : s.vm.findClass own = some m.cls) (hclink : (Cond.classLink own index nm).before args s = true) (hcA : s.vm.findClass nm = some (aC o)) {t0 ty : FieldType} (hO : ∃ k : Class, s.vm.classes[aC o]? = some k ∧ k.kind = .array (aC i) t0) (g3 : t0.isReference = true) (hI : ArrOfT s (aC i) ty) (hP : va_P D vwCl ws H) (hD : va_D A ws) (hS : va_S A H0 H locs) (hA : ∀ q, H0.size ≤ q → A q)
    {n w : Int32} {N M : Nat} {inn : (Nat → Int32) ⊕ (Nat → Int64) ⊕ (Nat → UInt32) ⊕ (Nat → UInt64) ⊕ (Nat → Option Nat)} (hin : ∀ cA : ClassId, vp_cell cA (M, inn) = arrV cA M (fun _ => defaultValue ty)) (hn : ¬ n < 0) (hw : ¬ w < 0) (hN : n.toNatClampNeg = N) (hM : w.toNatClampNeg = M) (o1 : N * componentBytes t0 ≤ 536870912) (o2 : M * componentBytes ty ≤ 536870912) (o3 : N ≤ 536870912) (o4 : M ≤ 536870912) (hf : fits ty (defaultValue ty) = true) (hcells : cells + (1 + N) ≤ R.cells) (hslots : slots + (N + N * M) ≤ R.slots) (hdg : decode cc pc = .ok (.multianewarray index 2, 4))
    (kk : ∀ (q : Nat) (H1 : Heap) (locs1 : List Loc), va_P D vwCl (ws ++ mrE aC o i N M q inn) H1 → va_D A (ws ++ mrE aC o i N M q inn) → va_S A H0 H1 locs1 → W p l e R s m args below meth c H1 locs1 (cells + 1 + N) (slots + N + N * M) Q (F0 m (pc + 4) ls (.ref q :: rest))) : W p l e R s m args below meth c H locs cells slots Q (F0 m pc ls (.int w :: .int n :: rest)) := by
  obtain ⟨kA, g1, g2⟩ := hO
  obtain ⟨-, kc, h1, cb, h2⟩ := hI 0 (fun _ => .null)
  refine ct_multi hexec hb hown hclink hcA g1 g2 g3 h1 h2 hn hw hN hM o1 o2 o3 o4 hf hcells hslots hdg (fun H1 L e1 e2 e3 e4 e5 => ?_)
  have hk : ∀ (k : Nat) (x : Nat × va_E), ws[k]? = some x → H1[x.1]? = H[x.1]? := fun k x hx => e3 x.1 ((hP k x hx).lt)
  refine kk H.size H1 (locs ++ L) ((hP.kept hk).app (fun k x hx => ?_)) (vd_app hD (fun k x hx => (hP k x hx).lt) (fun k x hx => (mrE_ix k x hx).1) (fun k hk => hA k (Nat.le_trans hS.1 hk))) ⟨?_, fun x h1 h2 => (e3 x (Nat.lt_of_lt_of_le h1 hS.1)).trans (hS.2.1 x h1 h2), fun x hx => ?_⟩
  · rcases (mrE_ix k x hx).2 with ⟨rfl, rfl⟩ | ⟨j, hj, rfl, rfl⟩
    · show H1[H.size]? = some (vp_cell _ _)
      rw [e2, vp_cell_q]
      congr 2
      funext j
      unfold mrf
      by_cases y : j < N
      · rw [if_pos y, if_pos y]
        rfl
      · rw [if_neg y, if_neg y]
        rfl
    · show H1[H.size + 1 + j]? = some (vp_cell _ _)
      rw [hin]
      exact e4 j hj
  · exact Nat.le_trans hS.1 (by omega)
  · rcases List.mem_append.mp hx with y | y
    · exact hS.2.2 x y
    · rw [e5 x y]
      exact hA _ hS.1
end MR3
