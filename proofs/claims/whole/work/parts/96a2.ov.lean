/-! ===== array classes over classes ===== -/
def Ov (aC : Nat → ClassId) (U : State) : Prop := va_AO "PrefixCodes$Code" U ∧ (∃ k : Class, U.vm.classes[aC 5]? = some k ∧ k.kind = .array (aC 1) (.array .long)) ∧ ∃ k : Class, U.vm.classes[aC 4]? = some k ∧ k.kind = .array (aC 0) (.array .int)
theorem Ov.moved {aC : Nat → ClassId} {u U : State} (h : Ov aC u) (hvm : u.vm.Alike U.vm) : Ov aC U := by
  obtain ⟨h1, ⟨k5, a5, b5⟩, ⟨k4, a4, b4⟩⟩ := h
  obtain ⟨k5', c5, d5⟩ := hvm.2.2 _ _ a5
  obtain ⟨k4', c4, d4⟩ := hvm.2.2 _ _ a4
  exact ⟨h1.moved hvm, ⟨k5', c5, by rw [d5]; exact b5⟩, ⟨k4', c4, by rw [d4]; exact b4⟩⟩
abbrev cPreO (D : va_G) (aC : Nat → ClassId) (sz : Nat) (ws : va_W) (U : State) : Prop := U.heap.size = sz ∧ va_P D vwCl ws U.heap ∧ Kn D aC U ∧ va_D (fun _ => True) ws ∧ Ov aC U
theorem cPreO.blind {D : va_G} {aC : Nat → ClassId} {sz : Nat} {ws : va_W} {av : List Value} : FrameBlind (va_Pc av (cPreO D aC sz ws)) := fun a U g mk h => ⟨h.1, h.2.1, h.2.2.1, ⟨va_K.moved (u := U) (U := U.calling g mk a) (Vm.Alike.refl U.vm) h.2.2.2.1.1, fun q hq => va_Nw.same rfl rfl (h.2.2.2.1.2 q hq)⟩, h.2.2.2.2.1, h.2.2.2.2.2.moved (U := U.calling g mk a) (Vm.Alike.refl U.vm)⟩
