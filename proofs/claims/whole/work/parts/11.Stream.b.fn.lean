noncomputable def f_Stream_placeOf (σ : St) (a1 : Int32) : Option (St × Int32) :=
  some (σ, ((σ.1 3 0 1) + a1) - ((σ.1 3 0 1) + a1) / 20000 * 20000)
noncomputable def f_Stream_bitOf (σ : St) (a1 : Int32) : Option (St × Int32) :=
  gd (ib (a1 / 32) 625) <|
  some (σ, (((σ.1 4 0 (a1 / 32).toNatClampNeg).toUInt32 >>> ((a1 - a1 / 32 * 32).toUInt32 &&& Int32.toUInt32 31)).toInt32) &&& 1)
noncomputable def f_Stream_at (σ : St) (a1 : Int32) : Option (St × Int32) :=
  b2 (f_Stream_placeOf σ a1) fun σ1 x2 =>
  b2 (f_Stream_bitOf σ1 x2) fun σ3 x4 =>
  some (σ3, x4)
noncomputable def f_Stream_append (σ : St) (a1 : Int32) : Option (St) :=
  if (σ.1 3 0 2) < 20000 then
    b2 (f_Stream_placeOf σ (σ.1 3 0 2)) fun σ1 x2 =>
    nm (1 <<< ((x2 - x2 / 32 * 32) &&& 31)) fun x3 =>
    gd (ib (x2 / 32) 625) <|
    nm ((σ1.1 4 0 (x2 / 32).toNatClampNeg) &&& (x3 ^^^ (-1))) fun x4 =>
    if a1 = 0 then
      gd (ib (x2 / 32) 625) <|
      nm (sI σ1 4 0 ((x2 / 32).toNatClampNeg) x4) fun σ7 =>
      nm (sI σ7 3 0 2 ((σ7.1 3 0 2) + 1)) fun σ8 =>
      some σ8
    else
    gd (ib (x2 / 32) 625) <|
    nm (sI σ1 4 0 ((x2 / 32).toNatClampNeg) (x4 ||| x3)) fun σ5 =>
    nm (sI σ5 3 0 2 ((σ5.1 3 0 2) + 1)) fun σ6 =>
    some σ6
  else
  nm (sI σ 3 0 4 1) fun σ9 =>
  some σ9
noncomputable def lb_Stream_appendNumber_4 (a1 : Int32) (σ : St) (v3 : Int32) : Option ((St × Int32) ⊕ ((St × Int32))) :=
  if v3 < 0 then
    some (.inr (σ, v3))
  else
  b1 (f_Stream_append σ (((a1.toUInt32 >>> (v3.toUInt32 &&& Int32.toUInt32 31)).toInt32) &&& 1)) fun σ2 =>
  nm (v3 + (-1)) fun x3 =>
  some (.inl (σ2, x3))
noncomputable def f_Stream_appendNumber (σ : St) (a1 : Int32) (a2 : Int32) : Option (St) :=
  nm (a2 - 1) fun x1 =>
  b2 (lpE (fun q => lb_Stream_appendNumber_4 a1 q.1 q.2) (σ, x1)) fun σ4 x5 =>
  some σ4
noncomputable def f_Stream_removeFirst (σ : St) : Option (St × Int32) :=
  if (σ.1 3 0 2) = 0 then
    some (σ, (-104))
  else
  b2 (f_Stream_bitOf σ (σ.1 3 0 1)) fun σ1 x2 =>
  b2 (f_Stream_placeOf σ1 1) fun σ3 x4 =>
  nm (sI σ3 3 0 1 x4) fun σ5 =>
  nm (sI σ5 3 0 2 ((σ5.1 3 0 2) - 1)) fun σ6 =>
  some (σ6, x2)
noncomputable def lb_Stream_removeNumber_15 (a1 : Int32) (σ : St) (v2 : Int32) (v3 : Int32) : Option ((St × Int32 × Int32) ⊕ ((St × Int32 × Int32))) :=
  if a1 ≤ v3 then
    some (.inr (σ, v2, v3))
  else
  b2 (f_Stream_removeFirst σ) fun σ1 x2 =>
  nm ((v2 <<< (1 &&& 31)) ||| x2) fun x3 =>
  nm (v3 + 1) fun x4 =>
  some (.inl (σ1, x3, x4))
noncomputable def f_Stream_removeNumber (σ : St) (a1 : Int32) : Option (St × Int32) :=
  if a1 ≤ (σ.1 3 0 2) then
    b3 (lpE (fun q => lb_Stream_removeNumber_15 a1 q.1 q.2.1 q.2.2) (σ, 0, 0)) fun σ5 x6 x7 =>
    some (σ5, x6)
  else
  some (σ, (-104))
noncomputable def f_Stream_removeLast (σ : St) : Option (St × Int32) :=
  if (σ.1 3 0 2) = 0 then
    some (σ, (-104))
  else
  b2 (f_Stream_at σ ((σ.1 3 0 2) - 1)) fun σ1 x2 =>
  nm (sI σ1 3 0 2 ((σ1.1 3 0 2) - 1)) fun σ3 =>
  some (σ3, x2)
noncomputable def f_Stream_begin (σ : St) : Option (St) :=
  nm (sI σ 3 0 3 (σ.1 3 0 2)) fun σ1 =>
  nm (sI σ1 3 0 4 0) fun σ2 =>
  some σ2
noncomputable def f_Stream_settle (σ : St) : Option (St × Int32) :=
  if (σ.1 3 0 4) = 0 then
    some (σ, (σ.1 3 0 2) - (σ.1 3 0 3))
  else
  nm (sI σ 3 0 2 (σ.1 3 0 3)) fun σ1 =>
  some (σ1, (-106))
noncomputable def f_Stream_giveBack (σ : St) (a1 : Int32) : Option (St) :=
  b2 (f_Stream_placeOf σ (20000 - a1)) fun σ1 x2 =>
  nm (sI σ1 3 0 1 x2) fun σ3 =>
  nm (sI σ3 3 0 2 ((σ3.1 3 0 2) + a1)) fun σ4 =>
  some σ4
