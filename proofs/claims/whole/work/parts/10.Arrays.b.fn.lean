noncomputable def lb_Arrays_fill_5 (fa1 ia1 na1 : Nat) (a2 : Int32) (x1 : Int32) (σ : St) (v2 : Int32) : Option ((St × Int32) ⊕ ((St × Int32))) :=
  if x1 ≤ v2 then
    some (.inr (σ, v2))
  else
  gd (ib v2 na1) <|
  nm (sI σ fa1 ia1 (v2.toNatClampNeg) a2) fun σ2 =>
  nm (v2 + 1) fun x3 =>
  some (.inl (σ2, x3))
noncomputable def f_Arrays_fill (σ : St) (fa1 ia1 na1 : Nat) (a2 : Int32) : Option (St) :=
  nm (nI na1) fun x1 =>
  b2 (lpE (fun q => lb_Arrays_fill_5 fa1 ia1 na1 a2 x1 q.1 q.2) (σ, 0)) fun σ4 x5 =>
  some σ4
