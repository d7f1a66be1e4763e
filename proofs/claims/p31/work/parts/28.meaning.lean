/-! LIFTED: 28.meaning -/
noncomputable def fX3_report (x1 : Int32) (x2 : Int32) (σ : Zs) : Option (Unit × Zs) :=
  if (zI σ 192 0 0 0) = 0 then (lt (sI σ 192 0 0 0 x1) fun σ1 => lt (sI σ1 193 0 0 0 x2) fun σ3 => some ((), σ3)) else (some ((), σ))

noncomputable def fX3_begin (p1 : Nat) (σ : Zs) : Option (Unit × Zs) :=
  lt (sR σ 194 0 0 0 (p1, 0)) fun σ1 => lt (sI σ1 321 ((zR σ1 194 0 0 0).1) 0 0 0) fun σ4 => lt (sI σ4 323 ((zR σ4 194 0 0 0).1) 0 0 0) fun σ7 => lt (sI σ7 326 ((zR σ7 194 0 0 0).1) 0 0 0) fun σ10 => lt (sI σ10 192 0 0 0 0) fun σ12 => lt (sI σ12 193 0 0 0 (-1)) fun σ14 => some ((), σ14)

noncomputable def fX3_startStream (x1 : Int32) (σ : Zs) : Option (Unit × Zs) :=
  if (zI σ 192 0 0 0) = 0 then (lt (sI σ 197 0 0 0 0) fun σ1 => if (zI σ1 321 ((zR σ1 194 0 0 0).1) 0 0) < 12 then (if gi (zI σ1 321 ((zR σ1 194 0 0 0).1) 0 0) 12 then lt (sR σ1 195 0 0 0 ((zR σ1 194 0 0 0).1, (Int32.toNatClampNeg (zI σ1 321 ((zR σ1 194 0 0 0).1) 0 0)))) fun σ8 => bq (fX7_clear ((zR σ8 195 0 0 0).1) ((zR σ8 195 0 0 0).2) σ8) fun v11 σ12 => lt (sI σ12 201 0 0 0 0) fun σ15 => some ((), σ15) else none) else (bq (fX3_report 4 x1 σ1) fun v17 σ18 => some ((), σ18))) else (some ((), σ))

noncomputable def fX3_startCheck (x1 : Int32) (σ : Zs) : Option (Unit × Zs) :=
  if (zI σ 192 0 0 0) = 0 then (lt (sI σ 197 0 0 0 1) fun σ1 => if (zI σ1 323 ((zR σ1 194 0 0 0).1) 0 0) < 8 then (if gi (zI σ1 323 ((zR σ1 194 0 0 0).1) 0 0) 8 then lt (sR σ1 196 0 0 0 ((zR σ1 194 0 0 0).1, (Int32.toNatClampNeg (zI σ1 323 ((zR σ1 194 0 0 0).1) 0 0)))) fun σ8 => some ((), σ8) else none) else (bq (fX3_report 4 x1 σ1) fun v10 σ11 => some ((), σ11))) else (some ((), σ))

noncomputable def fX3_startWork (x1 : Int32) (x2 : Int32) (σ : Zs) : Option (Unit × Zs) :=
  if (zI σ 192 0 0 0) = 0 then (lt (sI σ 449 ((zR σ 195 0 0 0).1) ((zR σ 195 0 0 0).2) 0 x1) fun σ2 => lt (sI σ2 203 0 0 0 x2) fun σ4 => some ((), σ4)) else (some ((), σ))

noncomputable def fX3_addColumn_38 (x1 : Int64)   (σ : Zs) : Option (Int32 × Zs) :=
  if 1500 ≤ (zI σ 201 0 0 0) then (some (1, σ)) else (if gi (zI σ 201 0 0 0) 1500 then lt (sJ σ 1224 0 0 (Int32.toNatClampNeg (zI σ 201 0 0 0)) x1) fun σ2 => lt (sI σ2 201 0 0 0 ((zI σ2 201 0 0 0) + 1)) fun σ4 => some (1, σ4) else none)
noncomputable def fX3_addColumn_2 (x1 : Int64)  : Nat → Int32 → Zs → Option (Int32 × Zs)
  | 0, _, _ => none
  | n + 1, y3, σ =>
    if (zI σ 201 0 0 0) ≤ y3 then (fX3_addColumn_38 x1   σ) else (if 1500 ≤ y3 then (fX3_addColumn_38 x1   σ) else (if gi y3 1500 then if ((lg_cmp (zJ σ 1224 0 0 (Int32.toNatClampNeg y3)) x1) : Int32) = 0 then (some (0, σ)) else (fX3_addColumn_2 x1  n (y3 + 1) σ) else none))
noncomputable def fX3_addColumn (x1 : Int64) (σ : Zs) : Option (Int32 × Zs) :=
  fX3_addColumn_2 x1  FU 0 σ

noncomputable def fX3_nameColumn (x1 : Int64) (x3 : Int32) (σ : Zs) : Option (Unit × Zs) :=
  bq (fX3_addColumn x1 σ) fun v1 σ2 => if v1 = 0 then (bq (fX3_report 5 x3 σ2) fun v5 σ6 => some ((), σ6)) else (some ((), σ2))

noncomputable def fX3_nameStream (x1 : Int64) (x3 : Int32) (σ : Zs) : Option (Unit × Zs) :=
  bq (fX5_streamNamed ((zR σ 194 0 0 0).1) x1 σ) fun v2 σ3 => if v2 < 0 then (lt (sJ σ3 448 ((zR σ3 195 0 0 0).1) ((zR σ3 195 0 0 0).2) 0 x1) fun σ7 => lt (sI σ7 202 0 0 0 x3) fun σ9 => some ((), σ9)) else (bq (fX3_report 5 x3 σ3) fun v11 σ12 => lt (sJ σ12 448 ((zR σ12 195 0 0 0).1) ((zR σ12 195 0 0 0).2) 0 x1) fun σ16 => lt (sI σ16 202 0 0 0 x3) fun σ18 => some ((), σ18))

noncomputable def fX3_setFirstInput (x1 : Int64) (x3 : Int32) (σ : Zs) : Option (Unit × Zs) :=
  bq (fX5_streamNamed ((zR σ 194 0 0 0).1) x1 σ) fun v2 σ3 => if 0 ≤ v2 then (if gi v2 12 then lt (sR σ3 198 0 0 0 ((zR σ3 194 0 0 0).1, (Int32.toNatClampNeg v2))) fun σ9 => if (zI σ9 197 0 0 0) = 0 then (if gi 0 2 then lt (sI σ9 1476 ((zR σ9 195 0 0 0).1) ((zR σ9 195 0 0 0).2) (Int32.toNatClampNeg 0) v2) fun σ13 => if (zI σ13 449 ((zR σ13 195 0 0 0).1) ((zR σ13 195 0 0 0).2) 0) = 3 then (some ((), σ13)) else (if (zI σ13 449 ((zR σ13 195 0 0 0).1) ((zR σ13 195 0 0 0).2) 0) = 7 then (some ((), σ13)) else (bq (fX7_copyColumns ((zR σ13 198 0 0 0).1) ((zR σ13 198 0 0 0).2) σ13) fun v18 σ19 => lt (sI σ19 201 0 0 0 v18) fun σ22 => some ((), σ22))) else none) else (lt (sI σ9 0 ((zR σ9 196 0 0 0).1) ((zR σ9 196 0 0 0).2) 0 v2) fun σ25 => some ((), σ25)) else none) else (bq (fX3_report 2 x3 σ3) fun v27 σ28 => some ((), σ28))

noncomputable def fX3_setSecondInput (x1 : Int64) (x3 : Int32) (σ : Zs) : Option (Unit × Zs) :=
  bq (fX5_streamNamed ((zR σ 194 0 0 0).1) x1 σ) fun v2 σ3 => if 0 ≤ v2 then (if gi v2 12 then lt (sR σ3 199 0 0 0 ((zR σ3 194 0 0 0).1, (Int32.toNatClampNeg v2))) fun σ9 => if gi 1 2 then lt (sI σ9 1476 ((zR σ9 195 0 0 0).1) ((zR σ9 195 0 0 0).2) (Int32.toNatClampNeg 1) v2) fun σ13 => lt (sI σ13 204 0 0 0 x3) fun σ15 => some ((), σ15) else none else none) else (bq (fX3_report 2 x3 σ3) fun v17 σ18 => some ((), σ18))

noncomputable def fX3_setKey_48 (x1 : Int64) (x3 : Int32)  (z0 : Int32) (zp1 : Nat) (zs1 : Nat) (σ : Zs) : Option (Unit × Zs) :=
  lt (sI σ 454 zp1 zs1 0 z0) fun σ12 => if (zI σ12 453 ((zR σ12 195 0 0 0).1) ((zR σ12 195 0 0 0).2) 0) < 0 then (bq (fX3_report 2 x3 σ12) fun v15 σ16 => some ((), σ16)) else (if 0 ≤ (zI σ12 454 ((zR σ12 195 0 0 0).1) ((zR σ12 195 0 0 0).2) 0) then (if (zI σ12 449 ((zR σ12 195 0 0 0).1) ((zR σ12 195 0 0 0).2) 0) = 7 then (bq (fX3_addColumn x1 σ12) fun v21 σ22 => if v21 = 0 then (bq (fX3_report 5 x3 σ22) fun v25 σ26 => some ((), σ26)) else (bq (fX3_addColumn 422608071022 σ22) fun v29 σ30 => if v29 = 0 then (bq (fX3_report 5 x3 σ30) fun v33 σ34 => some ((), σ34)) else (some ((), σ30)))) else (some ((), σ12))) else (bq (fX3_report 2 x3 σ12) fun v37 σ38 => some ((), σ38)))
noncomputable def fX3_setKey (x1 : Int64) (x3 : Int32) (σ : Zs) : Option (Unit × Zs) :=
  bq (fX7_columnNamed ((zR σ 198 0 0 0).1) ((zR σ 198 0 0 0).2) x1 σ) fun v3 σ4 => lt (sI σ4 453 ((zR σ 195 0 0 0).1) ((zR σ 195 0 0 0).2) 0 v3) fun σ7 => if (zI σ7 449 ((zR σ7 195 0 0 0).1) ((zR σ7 195 0 0 0).2) 0) = 5 then (bq (fX7_columnNamed ((zR σ7 199 0 0 0).1) ((zR σ7 199 0 0 0).2) x1 σ7) fun v42 σ43 => fX3_setKey_48 x1 x3  v42 ((zR σ7 195 0 0 0).1) ((zR σ7 195 0 0 0).2) σ43) else (fX3_setKey_48 x1 x3  (zI σ7 453 ((zR σ7 195 0 0 0).1) ((zR σ7 195 0 0 0).2) 0) ((zR σ7 195 0 0 0).1) ((zR σ7 195 0 0 0).2) σ7)

noncomputable def fX3_pickColumn (x1 : Int64) (x3 : Int32) (σ : Zs) : Option (Unit × Zs) :=
  bq (fX7_columnNamed ((zR σ 198 0 0 0).1) ((zR σ 198 0 0 0).2) x1 σ) fun v2 σ3 => if 0 ≤ v2 then (bq (fX3_addColumn x1 σ3) fun v6 σ7 => if v6 = 0 then (bq (fX3_report 5 x3 σ7) fun v10 σ11 => some ((), σ11)) else (bq (fX7_setPart ((zR σ7 195 0 0 0).1) ((zR σ7 195 0 0 0).2) ((zI σ7 201 0 0 0) - 1) v2 σ7) fun v15 σ16 => some ((), σ16))) else (bq (fX3_report 2 x3 σ3) fun v19 σ20 => some ((), σ20))

noncomputable def fX3_lookAtName (x1 : Int32) (x2 : Int64) (x4 : Int32) (σ : Zs) : Option (Unit × Zs) :=
  if (zI σ 192 0 0 0) = 0 then (if (x1 : Int32) = 0 then (bq (fX3_nameStream x2 x4 σ) fun v1 σ2 => some ((), σ2)) else if (x1 : Int32) = 1 then (bq (fX3_nameColumn x2 x4 σ) fun v5 σ6 => some ((), σ6)) else if (x1 : Int32) = 2 then (bq (fX3_setFirstInput x2 x4 σ) fun v9 σ10 => some ((), σ10)) else if (x1 : Int32) = 3 then (bq (fX3_setSecondInput x2 x4 σ) fun v13 σ14 => some ((), σ14)) else if (x1 : Int32) = 4 then (bq (fX3_setKey x2 x4 σ) fun v17 σ18 => some ((), σ18)) else if (x1 : Int32) = 5 then (bq (fX3_pickColumn x2 x4 σ) fun v21 σ22 => some ((), σ22)) else (some ((), σ))) else (some ((), σ))

noncomputable def fX3_lookAtRange_20 (x1 : Int32) (x2 : Int64) (x4 : Int32)  (z0 : Int64) (σ : Zs) : Option (Unit × Zs) :=
  if ((lg_cmp x2 z0) : Int32) < 0 then (bq (fX3_report 6 x4 σ) fun v1 σ2 => some ((), σ2)) else (if ((lg_cmp x2 1000) : Int32) ≤ 0 then (if x1 = 144 then (lt (sI σ 456 ((zR σ 195 0 0 0).1) ((zR σ 195 0 0 0).2) 0 ((x2 : Int64).toInt32)) fun σ9 => some ((), σ9)) else (lt (sI σ 455 ((zR σ 195 0 0 0).1) ((zR σ 195 0 0 0).2) 0 ((x2 : Int64).toInt32)) fun σ6 => some ((), σ6))) else (bq (fX3_report 6 x4 σ) fun v11 σ12 => some ((), σ12)))
noncomputable def fX3_lookAtRange (x1 : Int32) (x2 : Int64) (x4 : Int32) (σ : Zs) : Option (Unit × Zs) :=
  if (zI σ 192 0 0 0) = 0 then (if x1 = 143 then (fX3_lookAtRange_20 x1 x2 x4  1 σ) else (fX3_lookAtRange_20 x1 x2 x4  0 σ)) else (some ((), σ))

noncomputable def fX3_setTotal (x1 : Int32) (σ : Zs) : Option (Unit × Zs) :=
  if (zI σ 192 0 0 0) = 0 then (bq (fX7_setPart ((zR σ 195 0 0 0).1) ((zR σ 195 0 0 0).2) ((zI σ 201 0 0 0) - 1) x1 σ) fun v2 σ3 => some ((), σ3)) else (some ((), σ))

noncomputable def fX3_startExpression  (σ : Zs) : Option (Unit × Zs) :=
  lt (sI σ 205 0 0 0 (zI σ 326 ((zR σ 194 0 0 0).1) 0 0)) fun σ2 => some ((), σ2)

noncomputable def fX3_endExpression  (σ : Zs) : Option (Unit × Zs) :=
  if (zI σ 192 0 0 0) = 0 then (if (zI σ 197 0 0 0) = 0 then (if (zI σ 449 ((zR σ 195 0 0 0).1) ((zR σ 195 0 0 0).2) 0) = 1 then (bq (fX7_setCode ((zR σ 195 0 0 0).1) ((zR σ 195 0 0 0).2) 0 (zI σ 205 0 0 0) (zI σ 326 ((zR σ 194 0 0 0).1) 0 0) σ) fun v10 σ11 => some ((), σ11)) else (bq (fX7_setCode ((zR σ 195 0 0 0).1) ((zR σ 195 0 0 0).2) ((zI σ 201 0 0 0) - 1) (zI σ 205 0 0 0) (zI σ 326 ((zR σ 194 0 0 0).1) 0 0) σ) fun v4 σ5 => some ((), σ5))) else (lt (sI σ 2 ((zR σ 196 0 0 0).1) ((zR σ 196 0 0 0).2) 0 (zI σ 205 0 0 0)) fun σ15 => lt (sI σ15 3 ((zR σ15 196 0 0 0).1) ((zR σ15 196 0 0 0).2) 0 (zI σ15 326 ((zR σ15 194 0 0 0).1) 0 0)) fun σ19 => some ((), σ19))) else (some ((), σ))

noncomputable def fX3_emit (x1 : Int32) (x2 : Int64) (σ : Zs) : Option (Unit × Zs) :=
  if (zI σ 192 0 0 0) = 0 then (bq (fX5_emit ((zR σ 194 0 0 0).1) x1 x2 σ) fun v2 σ3 => some ((), σ3)) else (some ((), σ))

noncomputable def fX3_useColumn (x1 : Int64) (x3 : Int32) (σ : Zs) : Option (Unit × Zs) :=
  if (zI σ 192 0 0 0) = 0 then (bq (fX7_columnNamed ((zR σ 198 0 0 0).1) ((zR σ 198 0 0 0).2) x1 σ) fun v2 σ3 => if 0 ≤ v2 then (bq (fX5_emit ((zR σ3 194 0 0 0).1) 2 ((v2 : Int32).toInt64) σ3) fun v7 σ8 => some ((), σ8)) else (bq (fX3_report 2 x3 σ3) fun v11 σ12 => some ((), σ12))) else (some ((), σ))

noncomputable def fX3_endFunction_21 (x1 : Int32) (x2 : Int32) (x3 : Int32)  (z0 : Int32) (z1 : Int32) (σ : Zs) : Option (Unit × Zs) :=
  if z1 = z0 then (bq (fX5_emit ((zR σ 194 0 0 0).1) x1 0 σ) fun v2 σ3 => some ((), σ3)) else (bq (fX3_report 3 x3 σ) fun v6 σ7 => some ((), σ7))
noncomputable def fX3_endFunction (x1 : Int32) (x2 : Int32) (x3 : Int32) (σ : Zs) : Option (Unit × Zs) :=
  if (zI σ 192 0 0 0) = 0 then (if x1 = 159 then (fX3_endFunction_21 x1 x2 x3  1 x2 σ) else (fX3_endFunction_21 x1 x2 x3  2 x2 σ)) else (some ((), σ))

noncomputable def fX3_endCheck (x1 : Int32) (σ : Zs) : Option (Unit × Zs) :=
  if (zI σ 192 0 0 0) = 0 then (lt (sI σ 1 ((zR σ 196 0 0 0).1) ((zR σ 196 0 0 0).2) 0 x1) fun σ2 => lt (sI σ2 323 ((zR σ2 194 0 0 0).1) 0 0 ((zI σ2 323 ((zR σ2 194 0 0 0).1) 0 0) + 1)) fun σ5 => some ((), σ5)) else (some ((), σ))

noncomputable def fX3_addOtherColumns_2   : Nat → Int32 → Zs → Option (Unit × Zs)
  | 0, _, _ => none
  | n + 1, y1, σ =>
    if (zI σ 450 ((zR σ 199 0 0 0).1) ((zR σ 199 0 0 0).2) 0) ≤ y1 then (some ((), σ)) else (if y1 = (zI σ 454 ((zR σ 195 0 0 0).1) ((zR σ 195 0 0 0).2) 0) then (fX3_addOtherColumns_2   n (y1 + 1) σ) else (bq (fX7_columnAt ((zR σ 199 0 0 0).1) ((zR σ 199 0 0 0).2) y1 σ) fun v4 σ5 => bq (fX3_addColumn v4 σ5) fun v8 σ9 => if v8 = 0 then (bq (fX3_report 5 (zI σ9 204 0 0 0) σ9) fun v12 σ13 => fX3_addOtherColumns_2   n (y1 + 1) σ13) else (fX3_addOtherColumns_2   n (y1 + 1) σ9)))
noncomputable def fX3_addOtherColumns  (σ : Zs) : Option (Unit × Zs) :=
  fX3_addOtherColumns_2   FU 0 σ

noncomputable def fX3_endStream_88    (σ : Zs) : Option (Unit × Zs) :=
  if (zI σ 192 0 0 0) = 0 then (bq (fX7_setColumns ((zR σ 195 0 0 0).1) ((zR σ 195 0 0 0).2) (zI σ 201 0 0 0) σ) fun v2 σ3 => lt (sI σ3 321 ((zR σ3 194 0 0 0).1) 0 0 ((zI σ3 321 ((zR σ3 194 0 0 0).1) 0 0) + 1)) fun σ7 => some ((), σ7)) else (some ((), σ))
noncomputable def fX3_endStream_63    (σ : Zs) : Option (Unit × Zs) :=
  if (zI σ 192 0 0 0) = 0 then (if (zI σ 201 0 0 0) ≤ 6 then (fX3_endStream_88    σ) else (bq (fX3_report 4 (zI σ 202 0 0 0) σ) fun v9 σ10 => fX3_endStream_88    σ10)) else (fX3_endStream_88    σ)
noncomputable def fX3_endStream  (σ : Zs) : Option (Unit × Zs) :=
  if (zI σ 192 0 0 0) = 0 then (if (zI σ 449 ((zR σ 195 0 0 0).1) ((zR σ 195 0 0 0).2) 0) = 4 then (bq (fX7_hasColumnsOf ((zR σ 198 0 0 0).1) ((zR σ 198 0 0 0).2) ((zR σ 199 0 0 0).1) ((zR σ 199 0 0 0).2) σ) fun v26 σ27 => if v26 = 0 then (bq (fX3_report 3 (zI σ27 203 0 0 0) σ27) fun v35 σ36 => if (zI σ36 192 0 0 0) = 0 then (if (zI σ36 449 ((zR σ36 195 0 0 0).1) ((zR σ36 195 0 0 0).2) 0) = 5 then (bq (fX3_addOtherColumns  σ36) fun v40 σ41 => fX3_endStream_63    σ41) else (fX3_endStream_63    σ36)) else (fX3_endStream_63    σ36)) else (if (zI σ27 192 0 0 0) = 0 then (if (zI σ27 449 ((zR σ27 195 0 0 0).1) ((zR σ27 195 0 0 0).2) 0) = 5 then (bq (fX3_addOtherColumns  σ27) fun v31 σ32 => fX3_endStream_63    σ32) else (fX3_endStream_63    σ27)) else (fX3_endStream_63    σ27))) else (if (zI σ 192 0 0 0) = 0 then (if (zI σ 449 ((zR σ 195 0 0 0).1) ((zR σ 195 0 0 0).2) 0) = 5 then (bq (fX3_addOtherColumns  σ) fun v20 σ21 => fX3_endStream_63    σ21) else (fX3_endStream_63    σ)) else (fX3_endStream_63    σ))) else (if (zI σ 192 0 0 0) = 0 then (if (zI σ 449 ((zR σ 195 0 0 0).1) ((zR σ 195 0 0 0).2) 0) = 5 then (bq (fX3_addOtherColumns  σ) fun v14 σ15 => fX3_endStream_63    σ15) else (fX3_endStream_63    σ)) else (fX3_endStream_63    σ))

set_option maxRecDepth 20000 in
set_option maxHeartbeats 4000000 in
theorem s_X3_report {A : Nat → Nat → Nat → Nat} {h : Hp} {σ ρ σ' : Zs} {v : Unit} {x1 : Int32} {x2 : Int32}  (hz : Rp A h σ ρ) (hr : fX3_report x1 x2 σ = some (v, σ')) : ∀ l : Launch, Sp l mX3_report 0 0 0 [.ref (A 3 0 0), .int x1, .int x2] h (QV A v σ' ρ) X0 := by
  intro l
  refine Sp.of rfl rfl (lv := [(0, .ref (A 3 0 0)), (1, .int x1), (2, .int x2)]) (Nat.le_of_ble_eq_true rfl) rfl (fun x hf hrm => ?_)
  rw [fX3_report.eq_1] at hr
  refine w_aload_n 0 dX3_report_0 rfl rfl rfl ?_
  refine g_X3_53 dX3_report_1 rfl (hz.o3 rfl) (hz.i192 rfl) ?_
  refine w_if_ne 17 dX3_report_4 rfl rfl (fun q4 => ?_) (fun q4 => ?_)
  · have hr := bf q4 hr
    refine w_vret hf dX3_report_17 rfl (Nat.le_of_ble_eq_true rfl) (Nat.le_of_ble_eq_true rfl) ?_
    obtain ⟨rfl, rfl⟩ := ret_inj hr
    exact ⟨rfl, hz⟩
  · have hr := bt q4 hr
    refine w_aload_n 0 dX3_report_7 rfl rfl rfl ?_
    refine w_iload_n 1 dX3_report_8 rfl rfl rfl ?_
    refine p_X3_53 dX3_report_9 rfl (hz.o3 rfl) ?_
    obtain ⟨σ1, e2, hr⟩ := lt_e hr
    have hz := (hz.s192 (v := x1) rfl).ts e2
    refine w_aload_n 0 dX3_report_12 rfl rfl rfl ?_
    refine w_iload_n 2 dX3_report_13 rfl rfl rfl ?_
    refine p_X3_56 dX3_report_14 rfl (hz.o3 rfl) ?_
    obtain ⟨σ3, e4, hr⟩ := lt_e hr
    have hz := (hz.s193 (v := x2) rfl).ts e4
    refine w_vret hf dX3_report_17 rfl (Nat.le_of_ble_eq_true rfl) (Nat.le_of_ble_eq_true rfl) ?_
    obtain ⟨rfl, rfl⟩ := ret_inj hr
    exact ⟨rfl, hz⟩

set_option maxRecDepth 20000 in
set_option maxHeartbeats 4000000 in
theorem s_X3_begin {A : Nat → Nat → Nat → Nat} {h : Hp} {σ ρ σ' : Zs} {v : Unit} {p1 : Nat} (hV1 : vdb (A 16 0 0) 5 p1 0 = true) (hz : Rp A h σ ρ) (hr : fX3_begin p1 σ = some (v, σ')) : ∀ l : Launch, Sp l mX3_begin 0 0 0 [.ref (A 3 0 0), .ref (A 5 p1 0)] h (QV A v σ' ρ) X0 := by
  intro l
  refine Sp.of rfl rfl (lv := [(0, .ref (A 3 0 0)), (1, .ref (A 5 p1 0))]) (Nat.le_of_ble_eq_true rfl) rfl (fun x hf hrm => ?_)
  rw [fX3_begin.eq_1] at hr
  refine w_aload_n 0 dX3_begin_0 rfl rfl rfl ?_
  refine w_aload_n 1 dX3_begin_1 rfl rfl rfl ?_
  refine p_X3_15 dX3_begin_2 rfl (hz.o3 rfl) ?_
  obtain ⟨σ1, e2, hr⟩ := lt_e hr
  have hz := (hz.s194 rfl hV1).ts e2
  refine w_aload_n 0 dX3_begin_5 rfl rfl rfl ?_
  have hv3 := hz.ww194 (p := 0) (s := 0) rfl
  refine g_X3_15 dX3_begin_6 rfl (hz.o3 rfl) (hz.rr194 rfl) ?_
  refine w_iconst 0 dX3_begin_9 rfl rfl ?_
  refine p_X3_43 dX3_begin_10 rfl (hz.o5 hv3) ?_
  obtain ⟨σ4, e5, hr⟩ := lt_e hr
  have hz := (hz.s321 (v := 0) hv3).ts e5
  refine w_aload_n 0 dX3_begin_13 rfl rfl rfl ?_
  have hv6 := hz.ww194 (p := 0) (s := 0) rfl
  refine g_X3_15 dX3_begin_14 rfl (hz.o3 rfl) (hz.rr194 rfl) ?_
  refine w_iconst 0 dX3_begin_17 rfl rfl ?_
  refine p_X3_47 dX3_begin_18 rfl (hz.o5 hv6) ?_
  obtain ⟨σ7, e8, hr⟩ := lt_e hr
  have hz := (hz.s323 (v := 0) hv6).ts e8
  refine w_aload_n 0 dX3_begin_21 rfl rfl rfl ?_
  have hv9 := hz.ww194 (p := 0) (s := 0) rfl
  refine g_X3_15 dX3_begin_22 rfl (hz.o3 rfl) (hz.rr194 rfl) ?_
  refine w_iconst 0 dX3_begin_25 rfl rfl ?_
  refine p_X3_50 dX3_begin_26 rfl (hz.o5 hv9) ?_
  obtain ⟨σ10, e11, hr⟩ := lt_e hr
  have hz := (hz.s326 (v := 0) hv9).ts e11
  refine w_aload_n 0 dX3_begin_29 rfl rfl rfl ?_
  refine w_iconst 0 dX3_begin_30 rfl rfl ?_
  refine p_X3_53 dX3_begin_31 rfl (hz.o3 rfl) ?_
  obtain ⟨σ12, e13, hr⟩ := lt_e hr
  have hz := (hz.s192 (v := 0) rfl).ts e13
  refine w_aload_n 0 dX3_begin_34 rfl rfl rfl ?_
  refine w_iconst (-1) dX3_begin_35 rfl rfl ?_
  refine p_X3_56 dX3_begin_36 rfl (hz.o3 rfl) ?_
  obtain ⟨σ14, e15, hr⟩ := lt_e hr
  have hz := (hz.s193 (v := (-1)) rfl).ts e15
  refine w_vret hf dX3_begin_39 rfl (Nat.le_of_ble_eq_true rfl) (Nat.le_of_ble_eq_true rfl) ?_
  obtain ⟨rfl, rfl⟩ := ret_inj hr
  exact ⟨rfl, hz⟩

set_option maxRecDepth 20000 in
set_option maxHeartbeats 4000000 in
theorem s_X3_startStream {A : Nat → Nat → Nat → Nat} {h : Hp} {σ ρ σ' : Zs} {v : Unit} {x1 : Int32}  (hz : Rp A h σ ρ) (hr : fX3_startStream x1 σ = some (v, σ')) : ∀ l : Launch, Sp l mX3_startStream 1 0 0 [.ref (A 3 0 0), .int x1] h (QV A v σ' ρ) X0 := by
  intro l
  refine Sp.of rfl rfl (lv := [(0, .ref (A 3 0 0)), (1, .int x1)]) (Nat.le_of_ble_eq_true rfl) rfl (fun x hf hrm => ?_)
  rw [fX3_startStream.eq_1] at hr
  refine w_aload_n 0 dX3_startStream_0 rfl rfl rfl ?_
  refine g_X3_53 dX3_startStream_1 rfl (hz.o3 rfl) (hz.i192 rfl) ?_
  refine w_if_eq 8 dX3_startStream_4 rfl rfl (fun q4 => ?_) (fun q4 => ?_)
  · have hr := bt q4 hr
    refine w_aload_n 0 dX3_startStream_8 rfl rfl rfl ?_
    refine w_iconst 0 dX3_startStream_9 rfl rfl ?_
    refine p_X3_59 dX3_startStream_10 rfl (hz.o3 rfl) (Or.inl rfl) ?_
    obtain ⟨σ1, e2, hr⟩ := lt_e hr
    have hz := (hz.s197 (v := 0) rfl).ts e2
    refine w_aload_n 0 dX3_startStream_13 rfl rfl rfl ?_
    have hv3 := hz.ww194 (p := 0) (s := 0) rfl
    refine g_X3_15 dX3_startStream_14 rfl (hz.o3 rfl) (hz.rr194 rfl) ?_
    refine g_X3_43 dX3_startStream_17 rfl (hz.o5 hv3) (hz.i321 hv3) ?_
    refine w_bipush 12 dX3_startStream_20 rfl rfl ?_
    refine w_icmp_lt 32 dX3_startStream_22 rfl rfl (fun q22 => ?_) (fun q22 => ?_)
    · have hr := bt q22 hr
      refine w_aload_n 0 dX3_startStream_32 rfl rfl rfl ?_
      refine w_aload_n 0 dX3_startStream_33 rfl rfl rfl ?_
      have hv4 := hz.ww194 (p := 0) (s := 0) rfl
      refine g_X3_15 dX3_startStream_34 rfl (hz.o3 rfl) (hz.rr194 rfl) ?_
      refine g_X3_19 dX3_startStream_37 rfl (hz.o5 hv4) (hz.r320 hv4) ?_
      refine w_aload_n 0 dX3_startStream_40 rfl rfl rfl ?_
      have hv5 := hz.ww194 (p := 0) (s := 0) rfl
      refine g_X3_15 dX3_startStream_41 rfl (hz.o3 rfl) (hz.rr194 rfl) ?_
      refine g_X3_43 dX3_startStream_44 rfl (hz.o5 hv5) (hz.i321 hv5) ?_
      obtain ⟨g6, hr⟩ := gd hr
      have hv7 := vdb_320 (p := (zR σ1 194 0 0 0).1) hv4 (gi_lt g6)
      refine w_aald 7 dX3_startStream_47 rfl (by decide) (by decide) (fun _ => rfl) (hz.k320 hv4) (gin (hz.n320 hv4) g6) (hz.e320 hv4 (gi_lt g6)) ?_
      refine p_X3_25 dX3_startStream_48 rfl (hz.o3 rfl) ?_
      obtain ⟨σ8, e9, hr⟩ := lt_e hr
      have hz := (hz.s195 rfl hv7).ts e9
      refine w_aload_n 0 dX3_startStream_51 rfl rfl rfl ?_
      have hv10 := hz.w195 (p := 0) (s := 0) rfl
      refine g_X3_25 dX3_startStream_52 rfl (hz.o3 rfl) (hz.r195 rfl) ?_
      obtain ⟨v11, σ12, e13, hr⟩ := bq_some hr
      refine c_X3_67 (As := []) (rest := []) (fun l => s_X7_clear hv10 hz e13 l) hrm dX3_startStream_55 rfl rfl (Nat.le_of_ble_eq_true rfl) (Nat.le_of_ble_eq_true rfl) (Nat.le_of_ble_eq_true rfl) (hz.o7 hv10) rfl (Nat.le_of_ble_eq_true rfl) (fun vr h2 hq => ?_) (fun E9 h9 hq => hq.elim)
      obtain ⟨rfl, hz⟩ := hq
      show wp _ _ 58 [(0, .ref (A 3 0 0)), (1, .int x1)] [] _ _ _
      refine w_aload_n 0 dX3_startStream_58 rfl rfl rfl ?_
      refine w_iconst 0 dX3_startStream_59 rfl rfl ?_
      refine p_X3_72 dX3_startStream_60 rfl (hz.o3 rfl) ?_
      obtain ⟨σ15, e16, hr⟩ := lt_e hr
      have hz := (hz.s201 (v := 0) rfl).ts e16
      refine w_vret hf dX3_startStream_63 rfl (Nat.le_of_ble_eq_true rfl) (Nat.le_of_ble_eq_true rfl) ?_
      obtain ⟨rfl, rfl⟩ := ret_inj hr
      exact ⟨rfl, hz⟩
    · have hr := bf q22 hr
      refine w_aload_n 0 dX3_startStream_25 rfl rfl rfl ?_
      refine w_iconst 4 dX3_startStream_26 rfl rfl ?_
      refine w_iload_n 1 dX3_startStream_27 rfl rfl rfl ?_
      obtain ⟨v17, σ18, e19, hr⟩ := bq_some hr
      refine c_X3_63 (As := [.int 4, .int x1]) (rest := []) (fun l => s_X3_report  hz e19 l) hrm dX3_startStream_28 rfl rfl (Nat.le_of_ble_eq_true rfl) (Nat.le_of_ble_eq_true rfl) (Nat.le_of_ble_eq_true rfl) (hz.o3 rfl) rfl (Nat.le_of_ble_eq_true rfl) (fun vr h2 hq => ?_) (fun E9 h9 hq => hq.elim)
      obtain ⟨rfl, hz⟩ := hq
      show wp _ _ 31 [(0, .ref (A 3 0 0)), (1, .int x1)] [] _ _ _
      refine w_vret hf dX3_startStream_31 rfl (Nat.le_of_ble_eq_true rfl) (Nat.le_of_ble_eq_true rfl) ?_
      obtain ⟨rfl, rfl⟩ := ret_inj hr
      exact ⟨rfl, hz⟩
  · have hr := bf q4 hr
    refine w_vret hf dX3_startStream_7 rfl (Nat.le_of_ble_eq_true rfl) (Nat.le_of_ble_eq_true rfl) ?_
    obtain ⟨rfl, rfl⟩ := ret_inj hr
    exact ⟨rfl, hz⟩

set_option maxRecDepth 20000 in
set_option maxHeartbeats 4000000 in
theorem s_X3_startCheck {A : Nat → Nat → Nat → Nat} {h : Hp} {σ ρ σ' : Zs} {v : Unit} {x1 : Int32}  (hz : Rp A h σ ρ) (hr : fX3_startCheck x1 σ = some (v, σ')) : ∀ l : Launch, Sp l mX3_startCheck 1 0 0 [.ref (A 3 0 0), .int x1] h (QV A v σ' ρ) X0 := by
  intro l
  refine Sp.of rfl rfl (lv := [(0, .ref (A 3 0 0)), (1, .int x1)]) (Nat.le_of_ble_eq_true rfl) rfl (fun x hf hrm => ?_)
  rw [fX3_startCheck.eq_1] at hr
  refine w_aload_n 0 dX3_startCheck_0 rfl rfl rfl ?_
  refine g_X3_53 dX3_startCheck_1 rfl (hz.o3 rfl) (hz.i192 rfl) ?_
  refine w_if_eq 8 dX3_startCheck_4 rfl rfl (fun q4 => ?_) (fun q4 => ?_)
  · have hr := bt q4 hr
    refine w_aload_n 0 dX3_startCheck_8 rfl rfl rfl ?_
    refine w_iconst 1 dX3_startCheck_9 rfl rfl ?_
    refine p_X3_59 dX3_startCheck_10 rfl (hz.o3 rfl) (Or.inr rfl) ?_
    obtain ⟨σ1, e2, hr⟩ := lt_e hr
    have hz := (hz.s197 (v := 1) rfl).ts e2
    refine w_aload_n 0 dX3_startCheck_13 rfl rfl rfl ?_
    have hv3 := hz.ww194 (p := 0) (s := 0) rfl
    refine g_X3_15 dX3_startCheck_14 rfl (hz.o3 rfl) (hz.rr194 rfl) ?_
    refine g_X3_47 dX3_startCheck_17 rfl (hz.o5 hv3) (hz.i323 hv3) ?_
    refine w_bipush 8 dX3_startCheck_20 rfl rfl ?_
    refine w_icmp_lt 32 dX3_startCheck_22 rfl rfl (fun q22 => ?_) (fun q22 => ?_)
    · have hr := bt q22 hr
      refine w_aload_n 0 dX3_startCheck_32 rfl rfl rfl ?_
      refine w_aload_n 0 dX3_startCheck_33 rfl rfl rfl ?_
      have hv4 := hz.ww194 (p := 0) (s := 0) rfl
      refine g_X3_15 dX3_startCheck_34 rfl (hz.o3 rfl) (hz.rr194 rfl) ?_
      refine g_X3_35 dX3_startCheck_37 rfl (hz.o5 hv4) (hz.r322 hv4) ?_
      refine w_aload_n 0 dX3_startCheck_40 rfl rfl rfl ?_
      have hv5 := hz.ww194 (p := 0) (s := 0) rfl
      refine g_X3_15 dX3_startCheck_41 rfl (hz.o3 rfl) (hz.rr194 rfl) ?_
      refine g_X3_47 dX3_startCheck_44 rfl (hz.o5 hv5) (hz.i323 hv5) ?_
      obtain ⟨g6, hr⟩ := gd hr
      have hv7 := vdb_322 (p := (zR σ1 194 0 0 0).1) hv4 (gi_lt g6)
      refine w_aald 4 dX3_startCheck_47 rfl (by decide) (by decide) (fun _ => rfl) (hz.k322 hv4) (gin (hz.n322 hv4) g6) (hz.e322 hv4 (gi_lt g6)) ?_
      refine p_X3_39 dX3_startCheck_48 rfl (hz.o3 rfl) ?_
      obtain ⟨σ8, e9, hr⟩ := lt_e hr
      have hz := (hz.s196 rfl hv7).ts e9
      refine w_vret hf dX3_startCheck_51 rfl (Nat.le_of_ble_eq_true rfl) (Nat.le_of_ble_eq_true rfl) ?_
      obtain ⟨rfl, rfl⟩ := ret_inj hr
      exact ⟨rfl, hz⟩
    · have hr := bf q22 hr
      refine w_aload_n 0 dX3_startCheck_25 rfl rfl rfl ?_
      refine w_iconst 4 dX3_startCheck_26 rfl rfl ?_
      refine w_iload_n 1 dX3_startCheck_27 rfl rfl rfl ?_
      obtain ⟨v10, σ11, e12, hr⟩ := bq_some hr
      refine c_X3_63 (As := [.int 4, .int x1]) (rest := []) (fun l => s_X3_report  hz e12 l) hrm dX3_startCheck_28 rfl rfl (Nat.le_of_ble_eq_true rfl) (Nat.le_of_ble_eq_true rfl) (Nat.le_of_ble_eq_true rfl) (hz.o3 rfl) rfl (Nat.le_of_ble_eq_true rfl) (fun vr h2 hq => ?_) (fun E9 h9 hq => hq.elim)
      obtain ⟨rfl, hz⟩ := hq
      show wp _ _ 31 [(0, .ref (A 3 0 0)), (1, .int x1)] [] _ _ _
      refine w_vret hf dX3_startCheck_31 rfl (Nat.le_of_ble_eq_true rfl) (Nat.le_of_ble_eq_true rfl) ?_
      obtain ⟨rfl, rfl⟩ := ret_inj hr
      exact ⟨rfl, hz⟩
  · have hr := bf q4 hr
    refine w_vret hf dX3_startCheck_7 rfl (Nat.le_of_ble_eq_true rfl) (Nat.le_of_ble_eq_true rfl) ?_
    obtain ⟨rfl, rfl⟩ := ret_inj hr
    exact ⟨rfl, hz⟩

set_option maxRecDepth 20000 in
set_option maxHeartbeats 4000000 in
theorem s_X3_startWork {A : Nat → Nat → Nat → Nat} {h : Hp} {σ ρ σ' : Zs} {v : Unit} {x1 : Int32} {x2 : Int32}  (hz : Rp A h σ ρ) (hr : fX3_startWork x1 x2 σ = some (v, σ')) : ∀ l : Launch, Sp l mX3_startWork 0 0 0 [.ref (A 3 0 0), .int x1, .int x2] h (QV A v σ' ρ) X0 := by
  intro l
  refine Sp.of rfl rfl (lv := [(0, .ref (A 3 0 0)), (1, .int x1), (2, .int x2)]) (Nat.le_of_ble_eq_true rfl) rfl (fun x hf hrm => ?_)
  rw [fX3_startWork.eq_1] at hr
  refine w_aload_n 0 dX3_startWork_0 rfl rfl rfl ?_
  refine g_X3_53 dX3_startWork_1 rfl (hz.o3 rfl) (hz.i192 rfl) ?_
  refine w_if_ne 20 dX3_startWork_4 rfl rfl (fun q4 => ?_) (fun q4 => ?_)
  · have hr := bf q4 hr
    refine w_vret hf dX3_startWork_20 rfl (Nat.le_of_ble_eq_true rfl) (Nat.le_of_ble_eq_true rfl) ?_
    obtain ⟨rfl, rfl⟩ := ret_inj hr
    exact ⟨rfl, hz⟩
  · have hr := bt q4 hr
    refine w_aload_n 0 dX3_startWork_7 rfl rfl rfl ?_
    have hv1 := hz.w195 (p := 0) (s := 0) rfl
    refine g_X3_25 dX3_startWork_8 rfl (hz.o3 rfl) (hz.r195 rfl) ?_
    refine w_iload_n 1 dX3_startWork_11 rfl rfl rfl ?_
    refine p_X3_75 dX3_startWork_12 rfl (hz.o7 hv1) ?_
    obtain ⟨σ2, e3, hr⟩ := lt_e hr
    have hz := (hz.s449 (v := x1) hv1).ts e3
    refine w_aload_n 0 dX3_startWork_15 rfl rfl rfl ?_
    refine w_iload_n 2 dX3_startWork_16 rfl rfl rfl ?_
    refine p_X3_78 dX3_startWork_17 rfl (hz.o3 rfl) ?_
    obtain ⟨σ4, e5, hr⟩ := lt_e hr
    have hz := (hz.s203 (v := x2) rfl).ts e5
    refine w_vret hf dX3_startWork_20 rfl (Nat.le_of_ble_eq_true rfl) (Nat.le_of_ble_eq_true rfl) ?_
    obtain ⟨rfl, rfl⟩ := ret_inj hr
    exact ⟨rfl, hz⟩

set_option maxRecDepth 20000 in
set_option maxHeartbeats 4000000 in
theorem w_X3_addColumn_38 {A : Nat → Nat → Nat → Nat} {ρ σ' : Zs} {v : Int32} {x : Cxt} {x1 : Int64}  (hf : m_fin 0 0 (QI A v σ' ρ) X0 x) (hrm : m_rm 0 0 0 x)  : ∀ (σ : Zs) (h : Hp), Rp A h σ ρ → fX3_addColumn_38 x1   σ = some (v, σ') → wp x mX3_addColumn 38 [(0, .ref (A 3 0 0)), (1, .long x1)] [] h 0 0 := by
  intro σ h hz hr
  rw [fX3_addColumn_38.eq_1] at hr
  refine w_aload_n 0 dX3_addColumn_38 rfl rfl rfl ?_
  refine g_X3_72 dX3_addColumn_39 rfl (hz.o3 rfl) (hz.i201 rfl) ?_
  refine w_aload_n 0 dX3_addColumn_42 rfl rfl rfl ?_
  refine g_X3_9 dX3_addColumn_43 rfl (hz.o3 rfl) (hz.r200 rfl) ?_
  refine w_alen 1 dX3_addColumn_46 rfl (by decide) (by decide) (fun _ => rfl) (hz.k200 rfl) (v := 1500) (by rw [hz.n200 rfl]; rfl) ?_
  refine w_icmp_ge 70 dX3_addColumn_47 rfl rfl (fun q47 => ?_) (fun q47 => ?_)
  · have hr := bt q47 hr
    refine w_iconst 1 dX3_addColumn_70 rfl rfl ?_
    refine w_zret hf dX3_addColumn_71 rfl rfl (Nat.le_of_ble_eq_true rfl) (Nat.le_of_ble_eq_true rfl) ?_
    obtain ⟨rfl, rfl⟩ := ret_inj hr
    exact ⟨rfl, hz⟩
  · have hr := bf q47 hr
    refine w_aload_n 0 dX3_addColumn_50 rfl rfl rfl ?_
    refine g_X3_9 dX3_addColumn_51 rfl (hz.o3 rfl) (hz.r200 rfl) ?_
    refine w_aload_n 0 dX3_addColumn_54 rfl rfl rfl ?_
    refine g_X3_72 dX3_addColumn_55 rfl (hz.o3 rfl) (hz.i201 rfl) ?_
    refine w_lload_n 1 dX3_addColumn_58 rfl rfl rfl ?_
    obtain ⟨g1, hr⟩ := gd hr
    refine w_last dX3_addColumn_59 rfl (hz.k200 rfl) (gin (hz.n200 rfl) g1) ?_
    obtain ⟨σ2, e3, hr⟩ := lt_e hr
    have hz := (hz.s200 (i := (Int32.toNatClampNeg (zI σ 201 0 0 0))) (v := x1) rfl).ts e3
    refine w_aload_n 0 dX3_addColumn_60 rfl rfl rfl ?_
    refine w_dup dX3_addColumn_61 rfl rfl ?_
    refine g_X3_72 dX3_addColumn_62 rfl (hz.o3 rfl) (hz.i201 rfl) ?_
    refine w_iconst 1 dX3_addColumn_65 rfl rfl ?_
    refine w_iadd dX3_addColumn_66 rfl ?_
    refine p_X3_72 dX3_addColumn_67 rfl (hz.o3 rfl) ?_
    obtain ⟨σ4, e5, hr⟩ := lt_e hr
    have hz := (hz.s201 (v := ((zI σ2 201 0 0 0) + 1)) rfl).ts e5
    refine w_iconst 1 dX3_addColumn_70 rfl rfl ?_
    refine w_zret hf dX3_addColumn_71 rfl rfl (Nat.le_of_ble_eq_true rfl) (Nat.le_of_ble_eq_true rfl) ?_
    obtain ⟨rfl, rfl⟩ := ret_inj hr
    exact ⟨rfl, hz⟩
set_option maxRecDepth 20000 in
set_option maxHeartbeats 4000000 in
theorem w_X3_addColumn_2 {A : Nat → Nat → Nat → Nat} {ρ σ' : Zs} {v : Int32} {x : Cxt} {x1 : Int64}  (hf : m_fin 0 0 (QI A v σ' ρ) X0 x) (hrm : m_rm 0 0 0 x)  : ∀ (n : Nat) (y3 : Int32) (σ : Zs) (h : Hp), Rp A h σ ρ → fX3_addColumn_2 x1  n y3 σ = some (v, σ') → wp x mX3_addColumn 2 [(0, .ref (A 3 0 0)), (1, .long x1), (3, .int y3)] [] h 0 0
  | 0, _, σ, h => fun hz hr => by
    rw [fX3_addColumn_2.eq_1] at hr
    exact nono hr
  | n + 1, y3, σ, h => fun hz hr => by
    rw [fX3_addColumn_2.eq_2] at hr
    refine w_iload_n 2 dX3_addColumn_2 rfl rfl rfl ?_
    refine w_aload_n 0 dX3_addColumn_3 rfl rfl rfl ?_
    refine g_X3_72 dX3_addColumn_4 rfl (hz.o3 rfl) (hz.i201 rfl) ?_
    refine w_icmp_ge 38 dX3_addColumn_7 rfl rfl (fun q7 => ?_) (fun q7 => ?_)
    · have hr := bt q7 hr
      refine w_lv [(0, .ref (A 3 0 0)), (1, .long x1)] [0, 1] rfl ?_
      exact w_X3_addColumn_38 hf hrm    _ _ hz  hr
    · have hr := bf q7 hr
      refine w_iload_n 2 dX3_addColumn_10 rfl rfl rfl ?_
      refine w_aload_n 0 dX3_addColumn_11 rfl rfl rfl ?_
      refine g_X3_9 dX3_addColumn_12 rfl (hz.o3 rfl) (hz.r200 rfl) ?_
      refine w_alen 1 dX3_addColumn_15 rfl (by decide) (by decide) (fun _ => rfl) (hz.k200 rfl) (v := 1500) (by rw [hz.n200 rfl]; rfl) ?_
      refine w_icmp_ge 38 dX3_addColumn_16 rfl rfl (fun q16 => ?_) (fun q16 => ?_)
      · have hr := bt q16 hr
        refine w_lv [(0, .ref (A 3 0 0)), (1, .long x1)] [0, 1] rfl ?_
        exact w_X3_addColumn_38 hf hrm    _ _ hz  hr
      · have hr := bf q16 hr
        refine w_aload_n 0 dX3_addColumn_19 rfl rfl rfl ?_
        refine g_X3_9 dX3_addColumn_20 rfl (hz.o3 rfl) (hz.r200 rfl) ?_
        refine w_iload_n 2 dX3_addColumn_23 rfl rfl rfl ?_
        obtain ⟨g6, hr⟩ := gd hr
        refine w_lald dX3_addColumn_24 rfl (hz.k200 rfl) (gin (hz.n200 rfl) g6) (hz.x200 rfl) ?_
        refine w_lload_n 1 dX3_addColumn_25 rfl rfl rfl ?_
        refine w_lcmp dX3_addColumn_26 rfl ?_
        refine w_if_ne 32 dX3_addColumn_27 rfl rfl (fun q27 => ?_) (fun q27 => ?_)
        · have hr := bf q27 hr
          refine w_iinc 2 (y3 + 1) [(3, .int (y3 + 1)), (0, .ref (A 3 0 0)), (1, .long x1)] dX3_addColumn_32 rfl rfl rfl (by decide) rfl ?_
          refine w_goto 2 dX3_addColumn_35 rfl ?_
          refine w_lv [(0, .ref (A 3 0 0)), (1, .long x1), (3, .int (y3 + 1))] [1, 2, 0] rfl ?_
          exact w_X3_addColumn_2 hf hrm   n (y3 + 1) _ _ hz  hr
        · have hr := bt q27 hr
          refine w_iconst 0 dX3_addColumn_30 rfl rfl ?_
          refine w_zret hf dX3_addColumn_31 rfl rfl (Nat.le_of_ble_eq_true rfl) (Nat.le_of_ble_eq_true rfl) ?_
          obtain ⟨rfl, rfl⟩ := ret_inj hr
          exact ⟨rfl, hz⟩
set_option maxRecDepth 20000 in
set_option maxHeartbeats 4000000 in
theorem s_X3_addColumn {A : Nat → Nat → Nat → Nat} {h : Hp} {σ ρ σ' : Zs} {v : Int32} {x1 : Int64}  (hz : Rp A h σ ρ) (hr : fX3_addColumn x1 σ = some (v, σ')) : ∀ l : Launch, Sp l mX3_addColumn 0 0 0 [.ref (A 3 0 0), .long x1] h (QI A v σ' ρ) X0 := by
  intro l
  refine Sp.of rfl rfl (lv := [(0, .ref (A 3 0 0)), (1, .long x1)]) (Nat.le_of_ble_eq_true rfl) rfl (fun x hf hrm => ?_)
  rw [fX3_addColumn.eq_1] at hr
  refine w_iconst 0 dX3_addColumn_0 rfl rfl ?_
  refine w_istore_n [(3, .int 0), (0, .ref (A 3 0 0)), (1, .long x1)] dX3_addColumn_1 rfl rfl (by decide) rfl ?_
  refine w_lv [(0, .ref (A 3 0 0)), (1, .long x1), (3, .int 0)] [1, 2, 0] rfl ?_
  exact w_X3_addColumn_2 hf hrm   FU 0 _ _ hz  hr

set_option maxRecDepth 20000 in
set_option maxHeartbeats 4000000 in
theorem s_X3_nameColumn {A : Nat → Nat → Nat → Nat} {h : Hp} {σ ρ σ' : Zs} {v : Unit} {x1 : Int64} {x3 : Int32}  (hz : Rp A h σ ρ) (hr : fX3_nameColumn x1 x3 σ = some (v, σ')) : ∀ l : Launch, Sp l mX3_nameColumn 1 0 0 [.ref (A 3 0 0), .long x1, .int x3] h (QV A v σ' ρ) X0 := by
  intro l
  refine Sp.of rfl rfl (lv := [(0, .ref (A 3 0 0)), (1, .long x1), (3, .int x3)]) (Nat.le_of_ble_eq_true rfl) rfl (fun x hf hrm => ?_)
  rw [fX3_nameColumn.eq_1] at hr
  refine w_aload_n 0 dX3_nameColumn_0 rfl rfl rfl ?_
  refine w_lload_n 1 dX3_nameColumn_1 rfl rfl rfl ?_
  obtain ⟨v1, σ2, e3, hr⟩ := bq_some hr
  refine c_X3_156 (As := [.long x1]) (rest := []) (fun l => s_X3_addColumn  hz e3 l) hrm dX3_nameColumn_2 rfl rfl (Nat.le_of_ble_eq_true rfl) (Nat.le_of_ble_eq_true rfl) (Nat.le_of_ble_eq_true rfl) (hz.o3 rfl) rfl (Nat.le_of_ble_eq_true rfl) (fun vr h2 hq => ?_) (fun E9 h9 hq => hq.elim)
  obtain ⟨rfl, hz⟩ := hq
  show wp _ _ 5 [(0, .ref (A 3 0 0)), (1, .long x1), (3, .int x3)] [.int v1] _ _ _
  refine w_if_ne 14 dX3_nameColumn_5 rfl rfl (fun q5 => ?_) (fun q5 => ?_)
  · have hr := bf q5 hr
    refine w_vret hf dX3_nameColumn_14 rfl (Nat.le_of_ble_eq_true rfl) (Nat.le_of_ble_eq_true rfl) ?_
    obtain ⟨rfl, rfl⟩ := ret_inj hr
    exact ⟨rfl, hz⟩
  · have hr := bt q5 hr
    refine w_aload_n 0 dX3_nameColumn_8 rfl rfl rfl ?_
    refine w_iconst 5 dX3_nameColumn_9 rfl rfl ?_
    refine w_iload_n 2 dX3_nameColumn_10 rfl rfl rfl ?_
    obtain ⟨v5, σ6, e7, hr⟩ := bq_some hr
    refine c_X3_63 (As := [.int 5, .int x3]) (rest := []) (fun l => s_X3_report  hz e7 l) hrm dX3_nameColumn_11 rfl rfl (Nat.le_of_ble_eq_true rfl) (Nat.le_of_ble_eq_true rfl) (Nat.le_of_ble_eq_true rfl) (hz.o3 rfl) rfl (Nat.le_of_ble_eq_true rfl) (fun vr h2 hq => ?_) (fun E9 h9 hq => hq.elim)
    obtain ⟨rfl, hz⟩ := hq
    show wp _ _ 14 [(0, .ref (A 3 0 0)), (1, .long x1), (3, .int x3)] [] _ _ _
    refine w_vret hf dX3_nameColumn_14 rfl (Nat.le_of_ble_eq_true rfl) (Nat.le_of_ble_eq_true rfl) ?_
    obtain ⟨rfl, rfl⟩ := ret_inj hr
    exact ⟨rfl, hz⟩

set_option maxRecDepth 20000 in
set_option maxHeartbeats 4000000 in
theorem s_X3_nameStream {A : Nat → Nat → Nat → Nat} {h : Hp} {σ ρ σ' : Zs} {v : Unit} {x1 : Int64} {x3 : Int32}  (hz : Rp A h σ ρ) (hr : fX3_nameStream x1 x3 σ = some (v, σ')) : ∀ l : Launch, Sp l mX3_nameStream 1 0 0 [.ref (A 3 0 0), .long x1, .int x3] h (QV A v σ' ρ) X0 := by
  intro l
  refine Sp.of rfl rfl (lv := [(0, .ref (A 3 0 0)), (1, .long x1), (3, .int x3)]) (Nat.le_of_ble_eq_true rfl) rfl (fun x hf hrm => ?_)
  rw [fX3_nameStream.eq_1] at hr
  refine w_aload_n 0 dX3_nameStream_0 rfl rfl rfl ?_
  have hv1 := hz.ww194 (p := 0) (s := 0) rfl
  refine g_X3_15 dX3_nameStream_1 rfl (hz.o3 rfl) (hz.rr194 rfl) ?_
  refine w_lload_n 1 dX3_nameStream_4 rfl rfl rfl ?_
  obtain ⟨v2, σ3, e4, hr⟩ := bq_some hr
  refine c_X3_149 (As := [.long x1]) (rest := []) (fun l => s_X5_streamNamed hv1 hz e4 l) hrm dX3_nameStream_5 rfl rfl (Nat.le_of_ble_eq_true rfl) (Nat.le_of_ble_eq_true rfl) (Nat.le_of_ble_eq_true rfl) (hz.o5 hv1) rfl (Nat.le_of_ble_eq_true rfl) (fun vr h2 hq => ?_) (fun E9 h9 hq => hq.elim)
  obtain ⟨rfl, hz⟩ := hq
  show wp _ _ 8 [(0, .ref (A 3 0 0)), (1, .long x1), (3, .int x3)] [.int v2] _ _ _
  refine w_if_lt 17 dX3_nameStream_8 rfl rfl (fun q8 => ?_) (fun q8 => ?_)
  · have hr := bt q8 hr
    refine w_aload_n 0 dX3_nameStream_17 rfl rfl rfl ?_
    have hv6 := hz.w195 (p := 0) (s := 0) rfl
    refine g_X3_25 dX3_nameStream_18 rfl (hz.o3 rfl) (hz.r195 rfl) ?_
    refine w_lload_n 1 dX3_nameStream_21 rfl rfl rfl ?_
    refine p_X3_152 dX3_nameStream_22 rfl (hz.o7 hv6) ?_
    obtain ⟨σ7, e8, hr⟩ := lt_e hr
    have hz := (hz.s448 (v := x1) hv6).ts e8
    refine w_aload_n 0 dX3_nameStream_25 rfl rfl rfl ?_
    refine w_iload_n 2 dX3_nameStream_26 rfl rfl rfl ?_
    refine p_X3_142 dX3_nameStream_27 rfl (hz.o3 rfl) ?_
    obtain ⟨σ9, e10, hr⟩ := lt_e hr
    have hz := (hz.s202 (v := x3) rfl).ts e10
    refine w_vret hf dX3_nameStream_30 rfl (Nat.le_of_ble_eq_true rfl) (Nat.le_of_ble_eq_true rfl) ?_
    obtain ⟨rfl, rfl⟩ := ret_inj hr
    exact ⟨rfl, hz⟩
  · have hr := bf q8 hr
    refine w_aload_n 0 dX3_nameStream_11 rfl rfl rfl ?_
    refine w_iconst 5 dX3_nameStream_12 rfl rfl ?_
    refine w_iload_n 2 dX3_nameStream_13 rfl rfl rfl ?_
    obtain ⟨v11, σ12, e13, hr⟩ := bq_some hr
    refine c_X3_63 (As := [.int 5, .int x3]) (rest := []) (fun l => s_X3_report  hz e13 l) hrm dX3_nameStream_14 rfl rfl (Nat.le_of_ble_eq_true rfl) (Nat.le_of_ble_eq_true rfl) (Nat.le_of_ble_eq_true rfl) (hz.o3 rfl) rfl (Nat.le_of_ble_eq_true rfl) (fun vr h2 hq => ?_) (fun E9 h9 hq => hq.elim)
    obtain ⟨rfl, hz⟩ := hq
    show wp _ _ 17 [(0, .ref (A 3 0 0)), (1, .long x1), (3, .int x3)] [] _ _ _
    refine w_aload_n 0 dX3_nameStream_17 rfl rfl rfl ?_
    have hv15 := hz.w195 (p := 0) (s := 0) rfl
    refine g_X3_25 dX3_nameStream_18 rfl (hz.o3 rfl) (hz.r195 rfl) ?_
    refine w_lload_n 1 dX3_nameStream_21 rfl rfl rfl ?_
    refine p_X3_152 dX3_nameStream_22 rfl (hz.o7 hv15) ?_
    obtain ⟨σ16, e17, hr⟩ := lt_e hr
    have hz := (hz.s448 (v := x1) hv15).ts e17
    refine w_aload_n 0 dX3_nameStream_25 rfl rfl rfl ?_
    refine w_iload_n 2 dX3_nameStream_26 rfl rfl rfl ?_
    refine p_X3_142 dX3_nameStream_27 rfl (hz.o3 rfl) ?_
    obtain ⟨σ18, e19, hr⟩ := lt_e hr
    have hz := (hz.s202 (v := x3) rfl).ts e19
    refine w_vret hf dX3_nameStream_30 rfl (Nat.le_of_ble_eq_true rfl) (Nat.le_of_ble_eq_true rfl) ?_
    obtain ⟨rfl, rfl⟩ := ret_inj hr
    exact ⟨rfl, hz⟩

set_option maxRecDepth 20000 in
set_option maxHeartbeats 4000000 in
theorem s_X3_setFirstInput {A : Nat → Nat → Nat → Nat} {h : Hp} {σ ρ σ' : Zs} {v : Unit} {x1 : Int64} {x3 : Int32}  (hz : Rp A h σ ρ) (hr : fX3_setFirstInput x1 x3 σ = some (v, σ')) : ∀ l : Launch, Sp l mX3_setFirstInput 1 0 0 [.ref (A 3 0 0), .long x1, .int x3] h (QV A v σ' ρ) X0 := by
  intro l
  refine Sp.of rfl rfl (lv := [(0, .ref (A 3 0 0)), (1, .long x1), (3, .int x3)]) (Nat.le_of_ble_eq_true rfl) rfl (fun x hf hrm => ?_)
  rw [fX3_setFirstInput.eq_1] at hr
  refine w_aload_n 0 dX3_setFirstInput_0 rfl rfl rfl ?_
  have hv1 := hz.ww194 (p := 0) (s := 0) rfl
  refine g_X3_15 dX3_setFirstInput_1 rfl (hz.o3 rfl) (hz.rr194 rfl) ?_
  refine w_lload_n 1 dX3_setFirstInput_4 rfl rfl rfl ?_
  obtain ⟨v2, σ3, e4, hr⟩ := bq_some hr
  refine c_X3_149 (As := [.long x1]) (rest := []) (fun l => s_X5_streamNamed hv1 hz e4 l) hrm dX3_setFirstInput_5 rfl rfl (Nat.le_of_ble_eq_true rfl) (Nat.le_of_ble_eq_true rfl) (Nat.le_of_ble_eq_true rfl) (hz.o5 hv1) rfl (Nat.le_of_ble_eq_true rfl) (fun vr h2 hq => ?_) (fun E9 h9 hq => hq.elim)
  obtain ⟨rfl, hz⟩ := hq
  show wp _ _ 8 [(0, .ref (A 3 0 0)), (1, .long x1), (3, .int x3)] [.int v2] _ _ _
  refine w_istore [(4, .int v2), (0, .ref (A 3 0 0)), (1, .long x1), (3, .int x3)] dX3_setFirstInput_8 rfl (by decide) rfl ?_
  refine w_iload 0 dX3_setFirstInput_10 rfl rfl ?_
  refine w_if_ge 22 dX3_setFirstInput_12 rfl rfl (fun q12 => ?_) (fun q12 => ?_)
  · have hr := bt q12 hr
    refine w_aload_n 1 dX3_setFirstInput_22 rfl rfl rfl ?_
    refine w_aload_n 1 dX3_setFirstInput_23 rfl rfl rfl ?_
    have hv6 := hz.ww194 (p := 0) (s := 0) rfl
    refine g_X3_15 dX3_setFirstInput_24 rfl (hz.o3 rfl) (hz.rr194 rfl) ?_
    refine g_X3_19 dX3_setFirstInput_27 rfl (hz.o5 hv6) (hz.r320 hv6) ?_
    refine w_iload 0 dX3_setFirstInput_30 rfl rfl ?_
    obtain ⟨g7, hr⟩ := gd hr
    have hv8 := vdb_320 (p := (zR σ3 194 0 0 0).1) hv6 (gi_lt g7)
    refine w_aald 7 dX3_setFirstInput_32 rfl (by decide) (by decide) (fun _ => rfl) (hz.k320 hv6) (gin (hz.n320 hv6) g7) (hz.e320 hv6 (gi_lt g7)) ?_
    refine p_X3_29 dX3_setFirstInput_33 rfl (hz.o3 rfl) ?_
    obtain ⟨σ9, e10, hr⟩ := lt_e hr
    have hz := (hz.s198 rfl hv8).ts e10
    refine w_aload_n 1 dX3_setFirstInput_36 rfl rfl rfl ?_
    refine g_X3_59 dX3_setFirstInput_37 rfl (hz.o3 rfl) (hz.i197 rfl) ?_
    refine w_if_eq 53 dX3_setFirstInput_40 rfl rfl (fun q40 => ?_) (fun q40 => ?_)
    · have hr := bt q40 hr
      refine w_aload_n 1 dX3_setFirstInput_53 rfl rfl rfl ?_
      have hv11 := hz.w195 (p := 0) (s := 0) rfl
      refine g_X3_25 dX3_setFirstInput_54 rfl (hz.o3 rfl) (hz.r195 rfl) ?_
      refine g_X3_162 dX3_setFirstInput_57 rfl (hz.o7 hv11) (hz.r452 hv11) ?_
      refine w_iconst 0 dX3_setFirstInput_60 rfl rfl ?_
      refine w_iload 0 dX3_setFirstInput_61 rfl rfl ?_
      obtain ⟨g12, hr⟩ := gd hr
      refine w_iast dX3_setFirstInput_63 rfl (hz.k452 hv11) (gin (hz.n452 hv11) g12) ?_
      obtain ⟨σ13, e14, hr⟩ := lt_e hr
      have hz := (hz.s452 (i := (Int32.toNatClampNeg 0)) (v := v2) hv11).ts e14
      refine w_aload_n 1 dX3_setFirstInput_64 rfl rfl rfl ?_
      have hv15 := hz.w195 (p := 0) (s := 0) rfl
      refine g_X3_25 dX3_setFirstInput_65 rfl (hz.o3 rfl) (hz.r195 rfl) ?_
      refine g_X3_75 dX3_setFirstInput_68 rfl (hz.o7 hv15) (hz.i449 hv15) ?_
      refine w_iconst 3 dX3_setFirstInput_71 rfl rfl ?_
      refine w_icmp_eq 102 dX3_setFirstInput_72 rfl rfl (fun q72 => ?_) (fun q72 => ?_)
      · have hr := bt q72 hr
        refine w_vret hf dX3_setFirstInput_102 rfl (Nat.le_of_ble_eq_true rfl) (Nat.le_of_ble_eq_true rfl) ?_
        obtain ⟨rfl, rfl⟩ := ret_inj hr
        exact ⟨rfl, hz⟩
      · have hr := bf q72 hr
        refine w_aload_n 1 dX3_setFirstInput_75 rfl rfl rfl ?_
        have hv16 := hz.w195 (p := 0) (s := 0) rfl
        refine g_X3_25 dX3_setFirstInput_76 rfl (hz.o3 rfl) (hz.r195 rfl) ?_
        refine g_X3_75 dX3_setFirstInput_79 rfl (hz.o7 hv16) (hz.i449 hv16) ?_
        refine w_bipush 7 dX3_setFirstInput_82 rfl rfl ?_
        refine w_icmp_eq 102 dX3_setFirstInput_84 rfl rfl (fun q84 => ?_) (fun q84 => ?_)
        · have hr := bt q84 hr
          refine w_vret hf dX3_setFirstInput_102 rfl (Nat.le_of_ble_eq_true rfl) (Nat.le_of_ble_eq_true rfl) ?_
          obtain ⟨rfl, rfl⟩ := ret_inj hr
          exact ⟨rfl, hz⟩
        · have hr := bf q84 hr
          refine w_aload_n 1 dX3_setFirstInput_87 rfl rfl rfl ?_
          refine w_aload_n 1 dX3_setFirstInput_88 rfl rfl rfl ?_
          have hv17 := hz.w198 (p := 0) (s := 0) rfl
          refine g_X3_29 dX3_setFirstInput_89 rfl (hz.o3 rfl) (hz.r198 rfl) ?_
          refine w_aload_n 1 dX3_setFirstInput_92 rfl rfl rfl ?_
          refine g_X3_9 dX3_setFirstInput_93 rfl (hz.o3 rfl) (hz.r200 rfl) ?_
          obtain ⟨v18, σ19, e20, hr⟩ := bq_some hr
          refine c_X3_166 (As := [.ref (A 1224 0 0)]) (rest := [.ref (A 3 0 0)]) (fun l => s_X7_copyColumns hv17 hz e20 l) hrm dX3_setFirstInput_96 rfl rfl (Nat.le_of_ble_eq_true rfl) (Nat.le_of_ble_eq_true rfl) (Nat.le_of_ble_eq_true rfl) (hz.o7 hv17) rfl (Nat.le_of_ble_eq_true rfl) (fun vr h2 hq => ?_) (fun E9 h9 hq => hq.elim)
          obtain ⟨rfl, hz⟩ := hq
          show wp _ _ 99 [(4, .int v2), (0, .ref (A 3 0 0)), (1, .long x1), (3, .int x3)] [.int v18, .ref (A 3 0 0)] _ _ _
          refine p_X3_72 dX3_setFirstInput_99 rfl (hz.o3 rfl) ?_
          obtain ⟨σ22, e23, hr⟩ := lt_e hr
          have hz := (hz.s201 (v := v18) rfl).ts e23
          refine w_vret hf dX3_setFirstInput_102 rfl (Nat.le_of_ble_eq_true rfl) (Nat.le_of_ble_eq_true rfl) ?_
          obtain ⟨rfl, rfl⟩ := ret_inj hr
          exact ⟨rfl, hz⟩
    · have hr := bf q40 hr
      refine w_aload_n 1 dX3_setFirstInput_43 rfl rfl rfl ?_
      have hv24 := hz.w196 (p := 0) (s := 0) rfl
      refine g_X3_39 dX3_setFirstInput_44 rfl (hz.o3 rfl) (hz.r196 rfl) ?_
      refine w_iload 0 dX3_setFirstInput_47 rfl rfl ?_
      refine p_X3_160 dX3_setFirstInput_49 rfl (hz.o0 hv24) ?_
      obtain ⟨σ25, e26, hr⟩ := lt_e hr
      have hz := (hz.s0 (v := v2) hv24).ts e26
      refine w_vret hf dX3_setFirstInput_52 rfl (Nat.le_of_ble_eq_true rfl) (Nat.le_of_ble_eq_true rfl) ?_
      obtain ⟨rfl, rfl⟩ := ret_inj hr
      exact ⟨rfl, hz⟩
  · have hr := bf q12 hr
    refine w_aload_n 1 dX3_setFirstInput_15 rfl rfl rfl ?_
    refine w_iconst 2 dX3_setFirstInput_16 rfl rfl ?_
    refine w_iload_n 3 dX3_setFirstInput_17 rfl rfl rfl ?_
    obtain ⟨v27, σ28, e29, hr⟩ := bq_some hr
    refine c_X3_63 (As := [.int 2, .int x3]) (rest := []) (fun l => s_X3_report  hz e29 l) hrm dX3_setFirstInput_18 rfl rfl (Nat.le_of_ble_eq_true rfl) (Nat.le_of_ble_eq_true rfl) (Nat.le_of_ble_eq_true rfl) (hz.o3 rfl) rfl (Nat.le_of_ble_eq_true rfl) (fun vr h2 hq => ?_) (fun E9 h9 hq => hq.elim)
    obtain ⟨rfl, hz⟩ := hq
    show wp _ _ 21 [(4, .int v2), (0, .ref (A 3 0 0)), (1, .long x1), (3, .int x3)] [] _ _ _
    refine w_vret hf dX3_setFirstInput_21 rfl (Nat.le_of_ble_eq_true rfl) (Nat.le_of_ble_eq_true rfl) ?_
    obtain ⟨rfl, rfl⟩ := ret_inj hr
    exact ⟨rfl, hz⟩

set_option maxRecDepth 20000 in
set_option maxHeartbeats 4000000 in
theorem s_X3_setSecondInput {A : Nat → Nat → Nat → Nat} {h : Hp} {σ ρ σ' : Zs} {v : Unit} {x1 : Int64} {x3 : Int32}  (hz : Rp A h σ ρ) (hr : fX3_setSecondInput x1 x3 σ = some (v, σ')) : ∀ l : Launch, Sp l mX3_setSecondInput 1 0 0 [.ref (A 3 0 0), .long x1, .int x3] h (QV A v σ' ρ) X0 := by
  intro l
  refine Sp.of rfl rfl (lv := [(0, .ref (A 3 0 0)), (1, .long x1), (3, .int x3)]) (Nat.le_of_ble_eq_true rfl) rfl (fun x hf hrm => ?_)
  rw [fX3_setSecondInput.eq_1] at hr
  refine w_aload_n 0 dX3_setSecondInput_0 rfl rfl rfl ?_
  have hv1 := hz.ww194 (p := 0) (s := 0) rfl
  refine g_X3_15 dX3_setSecondInput_1 rfl (hz.o3 rfl) (hz.rr194 rfl) ?_
  refine w_lload_n 1 dX3_setSecondInput_4 rfl rfl rfl ?_
  obtain ⟨v2, σ3, e4, hr⟩ := bq_some hr
  refine c_X3_149 (As := [.long x1]) (rest := []) (fun l => s_X5_streamNamed hv1 hz e4 l) hrm dX3_setSecondInput_5 rfl rfl (Nat.le_of_ble_eq_true rfl) (Nat.le_of_ble_eq_true rfl) (Nat.le_of_ble_eq_true rfl) (hz.o5 hv1) rfl (Nat.le_of_ble_eq_true rfl) (fun vr h2 hq => ?_) (fun E9 h9 hq => hq.elim)
  obtain ⟨rfl, hz⟩ := hq
  show wp _ _ 8 [(0, .ref (A 3 0 0)), (1, .long x1), (3, .int x3)] [.int v2] _ _ _
  refine w_istore [(4, .int v2), (0, .ref (A 3 0 0)), (1, .long x1), (3, .int x3)] dX3_setSecondInput_8 rfl (by decide) rfl ?_
  refine w_iload 0 dX3_setSecondInput_10 rfl rfl ?_
  refine w_if_ge 22 dX3_setSecondInput_12 rfl rfl (fun q12 => ?_) (fun q12 => ?_)
  · have hr := bt q12 hr
    refine w_aload_n 1 dX3_setSecondInput_22 rfl rfl rfl ?_
    refine w_aload_n 1 dX3_setSecondInput_23 rfl rfl rfl ?_
    have hv6 := hz.ww194 (p := 0) (s := 0) rfl
    refine g_X3_15 dX3_setSecondInput_24 rfl (hz.o3 rfl) (hz.rr194 rfl) ?_
    refine g_X3_19 dX3_setSecondInput_27 rfl (hz.o5 hv6) (hz.r320 hv6) ?_
    refine w_iload 0 dX3_setSecondInput_30 rfl rfl ?_
    obtain ⟨g7, hr⟩ := gd hr
    have hv8 := vdb_320 (p := (zR σ3 194 0 0 0).1) hv6 (gi_lt g7)
    refine w_aald 7 dX3_setSecondInput_32 rfl (by decide) (by decide) (fun _ => rfl) (hz.k320 hv6) (gin (hz.n320 hv6) g7) (hz.e320 hv6 (gi_lt g7)) ?_
    refine p_X3_32 dX3_setSecondInput_33 rfl (hz.o3 rfl) ?_
    obtain ⟨σ9, e10, hr⟩ := lt_e hr
    have hz := (hz.s199 rfl hv8).ts e10
    refine w_aload_n 1 dX3_setSecondInput_36 rfl rfl rfl ?_
    have hv11 := hz.w195 (p := 0) (s := 0) rfl
    refine g_X3_25 dX3_setSecondInput_37 rfl (hz.o3 rfl) (hz.r195 rfl) ?_
    refine g_X3_162 dX3_setSecondInput_40 rfl (hz.o7 hv11) (hz.r452 hv11) ?_
    refine w_iconst 1 dX3_setSecondInput_43 rfl rfl ?_
    refine w_iload 0 dX3_setSecondInput_44 rfl rfl ?_
    obtain ⟨g12, hr⟩ := gd hr
    refine w_iast dX3_setSecondInput_46 rfl (hz.k452 hv11) (gin (hz.n452 hv11) g12) ?_
    obtain ⟨σ13, e14, hr⟩ := lt_e hr
    have hz := (hz.s452 (i := (Int32.toNatClampNeg 1)) (v := v2) hv11).ts e14
    refine w_aload_n 1 dX3_setSecondInput_47 rfl rfl rfl ?_
    refine w_iload_n 3 dX3_setSecondInput_48 rfl rfl rfl ?_
    refine p_X3_170 dX3_setSecondInput_49 rfl (hz.o3 rfl) ?_
    obtain ⟨σ15, e16, hr⟩ := lt_e hr
    have hz := (hz.s204 (v := x3) rfl).ts e16
    refine w_vret hf dX3_setSecondInput_52 rfl (Nat.le_of_ble_eq_true rfl) (Nat.le_of_ble_eq_true rfl) ?_
    obtain ⟨rfl, rfl⟩ := ret_inj hr
    exact ⟨rfl, hz⟩
  · have hr := bf q12 hr
    refine w_aload_n 1 dX3_setSecondInput_15 rfl rfl rfl ?_
    refine w_iconst 2 dX3_setSecondInput_16 rfl rfl ?_
    refine w_iload_n 3 dX3_setSecondInput_17 rfl rfl rfl ?_
    obtain ⟨v17, σ18, e19, hr⟩ := bq_some hr
    refine c_X3_63 (As := [.int 2, .int x3]) (rest := []) (fun l => s_X3_report  hz e19 l) hrm dX3_setSecondInput_18 rfl rfl (Nat.le_of_ble_eq_true rfl) (Nat.le_of_ble_eq_true rfl) (Nat.le_of_ble_eq_true rfl) (hz.o3 rfl) rfl (Nat.le_of_ble_eq_true rfl) (fun vr h2 hq => ?_) (fun E9 h9 hq => hq.elim)
    obtain ⟨rfl, hz⟩ := hq
    show wp _ _ 21 [(4, .int v2), (0, .ref (A 3 0 0)), (1, .long x1), (3, .int x3)] [] _ _ _
    refine w_vret hf dX3_setSecondInput_21 rfl (Nat.le_of_ble_eq_true rfl) (Nat.le_of_ble_eq_true rfl) ?_
    obtain ⟨rfl, rfl⟩ := ret_inj hr
    exact ⟨rfl, hz⟩

set_option maxRecDepth 20000 in
set_option maxHeartbeats 4000000 in
theorem w_X3_setKey_48 {A : Nat → Nat → Nat → Nat} {ρ σ' : Zs} {v : Unit} {x : Cxt} {x1 : Int64} {x3 : Int32}  (hf : m_fin 0 0 (QV A v σ' ρ) X0 x) (hrm : m_rm 1 0 0 x)  : ∀ (z0 : Int32) (zp1 : Nat) (zs1 : Nat) (σ : Zs) (h : Hp), Rp A h σ ρ → vdb (A 16 0 0) 7 zp1 zs1 = true → fX3_setKey_48 x1 x3  z0 zp1 zs1 σ = some (v, σ') → wp x mX3_setKey 48 [(0, .ref (A 3 0 0)), (1, .long x1), (3, .int x3)] [.int z0, .ref (A 7 zp1 zs1)] h 0 0 := by
  intro z0 zp1 zs1 σ h hz hz1 hr
  rw [fX3_setKey_48.eq_1] at hr
  refine p_X3_176 dX3_setKey_48 rfl (hz.o7 hz1) ?_
  obtain ⟨σ12, e13, hr⟩ := lt_e hr
  have hz := (hz.s454 (v := z0) hz1).ts e13
  refine w_aload_n 0 dX3_setKey_51 rfl rfl rfl ?_
  have hv14 := hz.w195 (p := 0) (s := 0) rfl
  refine g_X3_25 dX3_setKey_52 rfl (hz.o3 rfl) (hz.r195 rfl) ?_
  refine g_X3_173 dX3_setKey_55 rfl (hz.o7 hv14) (hz.i453 hv14) ?_
  refine w_if_lt 71 dX3_setKey_58 rfl rfl (fun q58 => ?_) (fun q58 => ?_)
  · have hr := bt q58 hr
    refine w_aload_n 0 dX3_setKey_71 rfl rfl rfl ?_
    refine w_iconst 2 dX3_setKey_72 rfl rfl ?_
    refine w_iload_n 2 dX3_setKey_73 rfl rfl rfl ?_
    obtain ⟨v15, σ16, e17, hr⟩ := bq_some hr
    refine c_X3_63 (As := [.int 2, .int x3]) (rest := []) (fun l => s_X3_report  hz e17 l) hrm dX3_setKey_74 rfl rfl (Nat.le_of_ble_eq_true rfl) (Nat.le_of_ble_eq_true rfl) (Nat.le_of_ble_eq_true rfl) (hz.o3 rfl) rfl (Nat.le_of_ble_eq_true rfl) (fun vr h2 hq => ?_) (fun E9 h9 hq => hq.elim)
    obtain ⟨rfl, hz⟩ := hq
    show wp _ _ 77 [(0, .ref (A 3 0 0)), (1, .long x1), (3, .int x3)] [] _ _ _
    refine w_goto 116 dX3_setKey_77 rfl ?_
    refine w_vret hf dX3_setKey_116 rfl (Nat.le_of_ble_eq_true rfl) (Nat.le_of_ble_eq_true rfl) ?_
    obtain ⟨rfl, rfl⟩ := ret_inj hr
    exact ⟨rfl, hz⟩
  · have hr := bf q58 hr
    refine w_aload_n 0 dX3_setKey_61 rfl rfl rfl ?_
    have hv19 := hz.w195 (p := 0) (s := 0) rfl
    refine g_X3_25 dX3_setKey_62 rfl (hz.o3 rfl) (hz.r195 rfl) ?_
    refine g_X3_176 dX3_setKey_65 rfl (hz.o7 hv19) (hz.i454 hv19) ?_
    refine w_if_ge 80 dX3_setKey_68 rfl rfl (fun q68 => ?_) (fun q68 => ?_)
    · have hr := bt q68 hr
      refine w_aload_n 0 dX3_setKey_80 rfl rfl rfl ?_
      have hv20 := hz.w195 (p := 0) (s := 0) rfl
      refine g_X3_25 dX3_setKey_81 rfl (hz.o3 rfl) (hz.r195 rfl) ?_
      refine g_X3_75 dX3_setKey_84 rfl (hz.o7 hv20) (hz.i449 hv20) ?_
      refine w_bipush 7 dX3_setKey_87 rfl rfl ?_
      refine w_icmp_ne 116 dX3_setKey_89 rfl rfl (fun q89 => ?_) (fun q89 => ?_)
      · have hr := bf q89 hr
        refine w_vret hf dX3_setKey_116 rfl (Nat.le_of_ble_eq_true rfl) (Nat.le_of_ble_eq_true rfl) ?_
        obtain ⟨rfl, rfl⟩ := ret_inj hr
        exact ⟨rfl, hz⟩
      · have hr := bt q89 hr
        refine w_aload_n 0 dX3_setKey_92 rfl rfl rfl ?_
        refine w_lload_n 1 dX3_setKey_93 rfl rfl rfl ?_
        obtain ⟨v21, σ22, e23, hr⟩ := bq_some hr
        refine c_X3_156 (As := [.long x1]) (rest := []) (fun l => s_X3_addColumn  hz e23 l) hrm dX3_setKey_94 rfl rfl (Nat.le_of_ble_eq_true rfl) (Nat.le_of_ble_eq_true rfl) (Nat.le_of_ble_eq_true rfl) (hz.o3 rfl) rfl (Nat.le_of_ble_eq_true rfl) (fun vr h2 hq => ?_) (fun E9 h9 hq => hq.elim)
        obtain ⟨rfl, hz⟩ := hq
        show wp _ _ 97 [(0, .ref (A 3 0 0)), (1, .long x1), (3, .int x3)] [.int v21] _ _ _
        refine w_if_eq 110 dX3_setKey_97 rfl rfl (fun q97 => ?_) (fun q97 => ?_)
        · have hr := bt q97 hr
          refine w_aload_n 0 dX3_setKey_110 rfl rfl rfl ?_
          refine w_iconst 5 dX3_setKey_111 rfl rfl ?_
          refine w_iload_n 2 dX3_setKey_112 rfl rfl rfl ?_
          obtain ⟨v25, σ26, e27, hr⟩ := bq_some hr
          refine c_X3_63 (As := [.int 5, .int x3]) (rest := []) (fun l => s_X3_report  hz e27 l) hrm dX3_setKey_113 rfl rfl (Nat.le_of_ble_eq_true rfl) (Nat.le_of_ble_eq_true rfl) (Nat.le_of_ble_eq_true rfl) (hz.o3 rfl) rfl (Nat.le_of_ble_eq_true rfl) (fun vr h2 hq => ?_) (fun E9 h9 hq => hq.elim)
          obtain ⟨rfl, hz⟩ := hq
          show wp _ _ 116 [(0, .ref (A 3 0 0)), (1, .long x1), (3, .int x3)] [] _ _ _
          refine w_vret hf dX3_setKey_116 rfl (Nat.le_of_ble_eq_true rfl) (Nat.le_of_ble_eq_true rfl) ?_
          obtain ⟨rfl, rfl⟩ := ret_inj hr
          exact ⟨rfl, hz⟩
        · have hr := bf q97 hr
          refine w_aload_n 0 dX3_setKey_100 rfl rfl rfl ?_
          refine w_ldc2 dX3_setKey_101 rfl k_X3_179 ?_
          obtain ⟨v29, σ30, e31, hr⟩ := bq_some hr
          refine c_X3_156 (As := [.long 422608071022]) (rest := []) (fun l => s_X3_addColumn  hz e31 l) hrm dX3_setKey_104 rfl rfl (Nat.le_of_ble_eq_true rfl) (Nat.le_of_ble_eq_true rfl) (Nat.le_of_ble_eq_true rfl) (hz.o3 rfl) rfl (Nat.le_of_ble_eq_true rfl) (fun vr h2 hq => ?_) (fun E9 h9 hq => hq.elim)
          obtain ⟨rfl, hz⟩ := hq
          show wp _ _ 107 [(0, .ref (A 3 0 0)), (1, .long x1), (3, .int x3)] [.int v29] _ _ _
          refine w_if_ne 116 dX3_setKey_107 rfl rfl (fun q107 => ?_) (fun q107 => ?_)
          · have hr := bf q107 hr
            refine w_vret hf dX3_setKey_116 rfl (Nat.le_of_ble_eq_true rfl) (Nat.le_of_ble_eq_true rfl) ?_
            obtain ⟨rfl, rfl⟩ := ret_inj hr
            exact ⟨rfl, hz⟩
          · have hr := bt q107 hr
            refine w_aload_n 0 dX3_setKey_110 rfl rfl rfl ?_
            refine w_iconst 5 dX3_setKey_111 rfl rfl ?_
            refine w_iload_n 2 dX3_setKey_112 rfl rfl rfl ?_
            obtain ⟨v33, σ34, e35, hr⟩ := bq_some hr
            refine c_X3_63 (As := [.int 5, .int x3]) (rest := []) (fun l => s_X3_report  hz e35 l) hrm dX3_setKey_113 rfl rfl (Nat.le_of_ble_eq_true rfl) (Nat.le_of_ble_eq_true rfl) (Nat.le_of_ble_eq_true rfl) (hz.o3 rfl) rfl (Nat.le_of_ble_eq_true rfl) (fun vr h2 hq => ?_) (fun E9 h9 hq => hq.elim)
            obtain ⟨rfl, hz⟩ := hq
            show wp _ _ 116 [(0, .ref (A 3 0 0)), (1, .long x1), (3, .int x3)] [] _ _ _
            refine w_vret hf dX3_setKey_116 rfl (Nat.le_of_ble_eq_true rfl) (Nat.le_of_ble_eq_true rfl) ?_
            obtain ⟨rfl, rfl⟩ := ret_inj hr
            exact ⟨rfl, hz⟩
    · have hr := bf q68 hr
      refine w_aload_n 0 dX3_setKey_71 rfl rfl rfl ?_
      refine w_iconst 2 dX3_setKey_72 rfl rfl ?_
      refine w_iload_n 2 dX3_setKey_73 rfl rfl rfl ?_
      obtain ⟨v37, σ38, e39, hr⟩ := bq_some hr
      refine c_X3_63 (As := [.int 2, .int x3]) (rest := []) (fun l => s_X3_report  hz e39 l) hrm dX3_setKey_74 rfl rfl (Nat.le_of_ble_eq_true rfl) (Nat.le_of_ble_eq_true rfl) (Nat.le_of_ble_eq_true rfl) (hz.o3 rfl) rfl (Nat.le_of_ble_eq_true rfl) (fun vr h2 hq => ?_) (fun E9 h9 hq => hq.elim)
      obtain ⟨rfl, hz⟩ := hq
      show wp _ _ 77 [(0, .ref (A 3 0 0)), (1, .long x1), (3, .int x3)] [] _ _ _
      refine w_goto 116 dX3_setKey_77 rfl ?_
      refine w_vret hf dX3_setKey_116 rfl (Nat.le_of_ble_eq_true rfl) (Nat.le_of_ble_eq_true rfl) ?_
      obtain ⟨rfl, rfl⟩ := ret_inj hr
      exact ⟨rfl, hz⟩
set_option maxRecDepth 20000 in
set_option maxHeartbeats 4000000 in
theorem s_X3_setKey {A : Nat → Nat → Nat → Nat} {h : Hp} {σ ρ σ' : Zs} {v : Unit} {x1 : Int64} {x3 : Int32}  (hz : Rp A h σ ρ) (hr : fX3_setKey x1 x3 σ = some (v, σ')) : ∀ l : Launch, Sp l mX3_setKey 1 0 0 [.ref (A 3 0 0), .long x1, .int x3] h (QV A v σ' ρ) X0 := by
  intro l
  refine Sp.of rfl rfl (lv := [(0, .ref (A 3 0 0)), (1, .long x1), (3, .int x3)]) (Nat.le_of_ble_eq_true rfl) rfl (fun x hf hrm => ?_)
  rw [fX3_setKey.eq_1] at hr
  refine w_aload_n 0 dX3_setKey_0 rfl rfl rfl ?_
  have hv1 := hz.w195 (p := 0) (s := 0) rfl
  refine g_X3_25 dX3_setKey_1 rfl (hz.o3 rfl) (hz.r195 rfl) ?_
  refine w_aload_n 0 dX3_setKey_4 rfl rfl rfl ?_
  have hv2 := hz.w198 (p := 0) (s := 0) rfl
  refine g_X3_29 dX3_setKey_5 rfl (hz.o3 rfl) (hz.r198 rfl) ?_
  refine w_lload_n 1 dX3_setKey_8 rfl rfl rfl ?_
  obtain ⟨v3, σ4, e5, hr⟩ := bq_some hr
  refine c_X3_128 (As := [.long x1]) (rest := [.ref (A 7 (zR σ 195 0 0 0).1 (zR σ 195 0 0 0).2)]) (fun l => s_X7_columnNamed hv2 hz e5 l) hrm dX3_setKey_9 rfl rfl (Nat.le_of_ble_eq_true rfl) (Nat.le_of_ble_eq_true rfl) (Nat.le_of_ble_eq_true rfl) (hz.o7 hv2) rfl (Nat.le_of_ble_eq_true rfl) (fun vr h2 hq => ?_) (fun E9 h9 hq => hq.elim)
  obtain ⟨rfl, hz⟩ := hq
  show wp _ _ 12 [(0, .ref (A 3 0 0)), (1, .long x1), (3, .int x3)] [.int v3, .ref (A 7 (zR σ 195 0 0 0).1 (zR σ 195 0 0 0).2)] _ _ _
  refine p_X3_173 dX3_setKey_12 rfl (hz.o7 hv1) ?_
  obtain ⟨σ7, e8, hr⟩ := lt_e hr
  have hz := (hz.s453 (v := v3) hv1).ts e8
  refine w_aload_n 0 dX3_setKey_15 rfl rfl rfl ?_
  have hv9 := hz.w195 (p := 0) (s := 0) rfl
  refine g_X3_25 dX3_setKey_16 rfl (hz.o3 rfl) (hz.r195 rfl) ?_
  refine w_aload_n 0 dX3_setKey_19 rfl rfl rfl ?_
  have hv10 := hz.w195 (p := 0) (s := 0) rfl
  refine g_X3_25 dX3_setKey_20 rfl (hz.o3 rfl) (hz.r195 rfl) ?_
  refine g_X3_75 dX3_setKey_23 rfl (hz.o7 hv10) (hz.i449 hv10) ?_
  refine w_iconst 5 dX3_setKey_26 rfl rfl ?_
  refine w_icmp_ne 41 dX3_setKey_27 rfl rfl (fun q27 => ?_) (fun q27 => ?_)
  · have hr := bf q27 hr
    refine w_aload_n 0 dX3_setKey_41 rfl rfl rfl ?_
    have hv11 := hz.w195 (p := 0) (s := 0) rfl
    refine g_X3_25 dX3_setKey_42 rfl (hz.o3 rfl) (hz.r195 rfl) ?_
    refine g_X3_173 dX3_setKey_45 rfl (hz.o7 hv11) (hz.i453 hv11) ?_
    refine w_lv [(0, .ref (A 3 0 0)), (1, .long x1), (3, .int x3)] [0, 1, 2] rfl ?_
    exact w_X3_setKey_48 hf hrm   (zI σ7 453 ((zR σ7 195 0 0 0).1) ((zR σ7 195 0 0 0).2) 0) ((zR σ7 195 0 0 0).1) ((zR σ7 195 0 0 0).2) _ _ hz hv9 hr
  · have hr := bt q27 hr
    refine w_aload_n 0 dX3_setKey_30 rfl rfl rfl ?_
    have hv41 := hz.w199 (p := 0) (s := 0) rfl
    refine g_X3_32 dX3_setKey_31 rfl (hz.o3 rfl) (hz.r199 rfl) ?_
    refine w_lload_n 1 dX3_setKey_34 rfl rfl rfl ?_
    obtain ⟨v42, σ43, e44, hr⟩ := bq_some hr
    refine c_X3_128 (As := [.long x1]) (rest := [.ref (A 7 (zR σ7 195 0 0 0).1 (zR σ7 195 0 0 0).2)]) (fun l => s_X7_columnNamed hv41 hz e44 l) hrm dX3_setKey_35 rfl rfl (Nat.le_of_ble_eq_true rfl) (Nat.le_of_ble_eq_true rfl) (Nat.le_of_ble_eq_true rfl) (hz.o7 hv41) rfl (Nat.le_of_ble_eq_true rfl) (fun vr h2 hq => ?_) (fun E9 h9 hq => hq.elim)
    obtain ⟨rfl, hz⟩ := hq
    show wp _ _ 38 [(0, .ref (A 3 0 0)), (1, .long x1), (3, .int x3)] [.int v42, .ref (A 7 (zR σ7 195 0 0 0).1 (zR σ7 195 0 0 0).2)] _ _ _
    refine w_goto 48 dX3_setKey_38 rfl ?_
    refine w_lv [(0, .ref (A 3 0 0)), (1, .long x1), (3, .int x3)] [0, 1, 2] rfl ?_
    exact w_X3_setKey_48 hf hrm   v42 ((zR σ7 195 0 0 0).1) ((zR σ7 195 0 0 0).2) _ _ hz hv9 hr

set_option maxRecDepth 20000 in
set_option maxHeartbeats 4000000 in
theorem s_X3_pickColumn {A : Nat → Nat → Nat → Nat} {h : Hp} {σ ρ σ' : Zs} {v : Unit} {x1 : Int64} {x3 : Int32}  (hz : Rp A h σ ρ) (hr : fX3_pickColumn x1 x3 σ = some (v, σ')) : ∀ l : Launch, Sp l mX3_pickColumn 1 0 0 [.ref (A 3 0 0), .long x1, .int x3] h (QV A v σ' ρ) X0 := by
  intro l
  refine Sp.of rfl rfl (lv := [(0, .ref (A 3 0 0)), (1, .long x1), (3, .int x3)]) (Nat.le_of_ble_eq_true rfl) rfl (fun x hf hrm => ?_)
  rw [fX3_pickColumn.eq_1] at hr
  refine w_aload_n 0 dX3_pickColumn_0 rfl rfl rfl ?_
  have hv1 := hz.w198 (p := 0) (s := 0) rfl
  refine g_X3_29 dX3_pickColumn_1 rfl (hz.o3 rfl) (hz.r198 rfl) ?_
  refine w_lload_n 1 dX3_pickColumn_4 rfl rfl rfl ?_
  obtain ⟨v2, σ3, e4, hr⟩ := bq_some hr
  refine c_X3_128 (As := [.long x1]) (rest := []) (fun l => s_X7_columnNamed hv1 hz e4 l) hrm dX3_pickColumn_5 rfl rfl (Nat.le_of_ble_eq_true rfl) (Nat.le_of_ble_eq_true rfl) (Nat.le_of_ble_eq_true rfl) (hz.o7 hv1) rfl (Nat.le_of_ble_eq_true rfl) (fun vr h2 hq => ?_) (fun E9 h9 hq => hq.elim)
  obtain ⟨rfl, hz⟩ := hq
  show wp _ _ 8 [(0, .ref (A 3 0 0)), (1, .long x1), (3, .int x3)] [.int v2] _ _ _
  refine w_istore [(4, .int v2), (0, .ref (A 3 0 0)), (1, .long x1), (3, .int x3)] dX3_pickColumn_8 rfl (by decide) rfl ?_
  refine w_iload 0 dX3_pickColumn_10 rfl rfl ?_
  refine w_if_ge 24 dX3_pickColumn_12 rfl rfl (fun q12 => ?_) (fun q12 => ?_)
  · have hr := bt q12 hr
    refine w_aload_n 1 dX3_pickColumn_24 rfl rfl rfl ?_
    refine w_lload_n 2 dX3_pickColumn_25 rfl rfl rfl ?_
    obtain ⟨v6, σ7, e8, hr⟩ := bq_some hr
    refine c_X3_156 (As := [.long x1]) (rest := []) (fun l => s_X3_addColumn  hz e8 l) hrm dX3_pickColumn_26 rfl rfl (Nat.le_of_ble_eq_true rfl) (Nat.le_of_ble_eq_true rfl) (Nat.le_of_ble_eq_true rfl) (hz.o3 rfl) rfl (Nat.le_of_ble_eq_true rfl) (fun vr h2 hq => ?_) (fun E9 h9 hq => hq.elim)
    obtain ⟨rfl, hz⟩ := hq
    show wp _ _ 29 [(4, .int v2), (0, .ref (A 3 0 0)), (1, .long x1), (3, .int x3)] [.int v6] _ _ _
    refine w_if_eq 50 dX3_pickColumn_29 rfl rfl (fun q29 => ?_) (fun q29 => ?_)
    · have hr := bt q29 hr
      refine w_aload_n 1 dX3_pickColumn_50 rfl rfl rfl ?_
      refine w_iconst 5 dX3_pickColumn_51 rfl rfl ?_
      refine w_iload_n 3 dX3_pickColumn_52 rfl rfl rfl ?_
      obtain ⟨v10, σ11, e12, hr⟩ := bq_some hr
      refine c_X3_63 (As := [.int 5, .int x3]) (rest := []) (fun l => s_X3_report  hz e12 l) hrm dX3_pickColumn_53 rfl rfl (Nat.le_of_ble_eq_true rfl) (Nat.le_of_ble_eq_true rfl) (Nat.le_of_ble_eq_true rfl) (hz.o3 rfl) rfl (Nat.le_of_ble_eq_true rfl) (fun vr h2 hq => ?_) (fun E9 h9 hq => hq.elim)
      obtain ⟨rfl, hz⟩ := hq
      show wp _ _ 56 [(4, .int v2), (0, .ref (A 3 0 0)), (1, .long x1), (3, .int x3)] [] _ _ _
      refine w_vret hf dX3_pickColumn_56 rfl (Nat.le_of_ble_eq_true rfl) (Nat.le_of_ble_eq_true rfl) ?_
      obtain ⟨rfl, rfl⟩ := ret_inj hr
      exact ⟨rfl, hz⟩
    · have hr := bf q29 hr
      refine w_aload_n 1 dX3_pickColumn_32 rfl rfl rfl ?_
      have hv14 := hz.w195 (p := 0) (s := 0) rfl
      refine g_X3_25 dX3_pickColumn_33 rfl (hz.o3 rfl) (hz.r195 rfl) ?_
      refine w_aload_n 1 dX3_pickColumn_36 rfl rfl rfl ?_
      refine g_X3_72 dX3_pickColumn_37 rfl (hz.o3 rfl) (hz.i201 rfl) ?_
      refine w_iconst 1 dX3_pickColumn_40 rfl rfl ?_
      refine w_isub dX3_pickColumn_41 rfl ?_
      refine w_iload 0 dX3_pickColumn_42 rfl rfl ?_
      obtain ⟨v15, σ16, e17, hr⟩ := bq_some hr
      refine c_X3_108 (As := [.int ((zI σ7 201 0 0 0) - 1), .int v2]) (rest := []) (fun l => s_X7_setPart hv14 hz e17 l) hrm dX3_pickColumn_44 rfl rfl (Nat.le_of_ble_eq_true rfl) (Nat.le_of_ble_eq_true rfl) (Nat.le_of_ble_eq_true rfl) (hz.o7 hv14) rfl (Nat.le_of_ble_eq_true rfl) (fun vr h2 hq => ?_) (fun E9 h9 hq => hq.elim)
      obtain ⟨rfl, hz⟩ := hq
      show wp _ _ 47 [(4, .int v2), (0, .ref (A 3 0 0)), (1, .long x1), (3, .int x3)] [] _ _ _
      refine w_goto 56 dX3_pickColumn_47 rfl ?_
      refine w_vret hf dX3_pickColumn_56 rfl (Nat.le_of_ble_eq_true rfl) (Nat.le_of_ble_eq_true rfl) ?_
      obtain ⟨rfl, rfl⟩ := ret_inj hr
      exact ⟨rfl, hz⟩
  · have hr := bf q12 hr
    refine w_aload_n 1 dX3_pickColumn_15 rfl rfl rfl ?_
    refine w_iconst 2 dX3_pickColumn_16 rfl rfl ?_
    refine w_iload_n 3 dX3_pickColumn_17 rfl rfl rfl ?_
    obtain ⟨v19, σ20, e21, hr⟩ := bq_some hr
    refine c_X3_63 (As := [.int 2, .int x3]) (rest := []) (fun l => s_X3_report  hz e21 l) hrm dX3_pickColumn_18 rfl rfl (Nat.le_of_ble_eq_true rfl) (Nat.le_of_ble_eq_true rfl) (Nat.le_of_ble_eq_true rfl) (hz.o3 rfl) rfl (Nat.le_of_ble_eq_true rfl) (fun vr h2 hq => ?_) (fun E9 h9 hq => hq.elim)
    obtain ⟨rfl, hz⟩ := hq
    show wp _ _ 21 [(4, .int v2), (0, .ref (A 3 0 0)), (1, .long x1), (3, .int x3)] [] _ _ _
    refine w_goto 56 dX3_pickColumn_21 rfl ?_
    refine w_vret hf dX3_pickColumn_56 rfl (Nat.le_of_ble_eq_true rfl) (Nat.le_of_ble_eq_true rfl) ?_
    obtain ⟨rfl, rfl⟩ := ret_inj hr
    exact ⟨rfl, hz⟩

set_option maxRecDepth 20000 in
set_option maxHeartbeats 4000000 in
theorem s_X3_lookAtName {A : Nat → Nat → Nat → Nat} {h : Hp} {σ ρ σ' : Zs} {v : Unit} {x1 : Int32} {x2 : Int64} {x4 : Int32}  (hz : Rp A h σ ρ) (hr : fX3_lookAtName x1 x2 x4 σ = some (v, σ')) : ∀ l : Launch, Sp l mX3_lookAtName 2 0 0 [.ref (A 3 0 0), .int x1, .long x2, .int x4] h (QV A v σ' ρ) X0 := by
  intro l
  refine Sp.of rfl rfl (lv := [(0, .ref (A 3 0 0)), (1, .int x1), (2, .long x2), (4, .int x4)]) (Nat.le_of_ble_eq_true rfl) rfl (fun x hf hrm => ?_)
  rw [fX3_lookAtName.eq_1] at hr
  refine w_aload_n 0 dX3_lookAtName_0 rfl rfl rfl ?_
  refine g_X3_53 dX3_lookAtName_1 rfl (hz.o3 rfl) (hz.i192 rfl) ?_
  refine w_if_eq 8 dX3_lookAtName_4 rfl rfl (fun q4 => ?_) (fun q4 => ?_)
  · have hr := bt q4 hr
    refine w_iload_n 1 dX3_lookAtName_8 rfl rfl rfl ?_
    by_cases q9_0 : (x1 : Int32) = 0
    · have hr := bt q9_0 hr
      refine w_tableIn 48 dX3_lookAtName_9 (by rw [q9_0]; decide) (by rw [q9_0]; decide) (by rw [q9_0]; rfl) rfl ?_
      refine w_aload_n 0 dX3_lookAtName_48 rfl rfl rfl ?_
      refine w_lload_n 2 dX3_lookAtName_49 rfl rfl rfl ?_
      refine w_iload 3 dX3_lookAtName_50 rfl rfl ?_
      obtain ⟨v1, σ2, e3, hr⟩ := bq_some hr
      refine c_X3_81 (As := [.long x2, .int x4]) (rest := []) (fun l => s_X3_nameStream  hz e3 l) hrm dX3_lookAtName_52 rfl rfl (Nat.le_of_ble_eq_true rfl) (Nat.le_of_ble_eq_true rfl) (Nat.le_of_ble_eq_true rfl) (hz.o3 rfl) rfl (Nat.le_of_ble_eq_true rfl) (fun vr h2 hq => ?_) (fun E9 h9 hq => hq.elim)
      obtain ⟨rfl, hz⟩ := hq
      show wp _ _ 55 [(0, .ref (A 3 0 0)), (1, .int x1), (2, .long x2), (4, .int x4)] [] _ _ _
      refine w_goto 108 dX3_lookAtName_55 rfl ?_
      refine w_vret hf dX3_lookAtName_108 rfl (Nat.le_of_ble_eq_true rfl) (Nat.le_of_ble_eq_true rfl) ?_
      obtain ⟨rfl, rfl⟩ := ret_inj hr
      exact ⟨rfl, hz⟩
    have hr := bf q9_0 hr
    by_cases q9_1 : (x1 : Int32) = 1
    · have hr := bt q9_1 hr
      refine w_tableIn 58 dX3_lookAtName_9 (by rw [q9_1]; decide) (by rw [q9_1]; decide) (by rw [q9_1]; rfl) rfl ?_
      refine w_aload_n 0 dX3_lookAtName_58 rfl rfl rfl ?_
      refine w_lload_n 2 dX3_lookAtName_59 rfl rfl rfl ?_
      refine w_iload 3 dX3_lookAtName_60 rfl rfl ?_
      obtain ⟨v5, σ6, e7, hr⟩ := bq_some hr
      refine c_X3_85 (As := [.long x2, .int x4]) (rest := []) (fun l => s_X3_nameColumn  hz e7 l) hrm dX3_lookAtName_62 rfl rfl (Nat.le_of_ble_eq_true rfl) (Nat.le_of_ble_eq_true rfl) (Nat.le_of_ble_eq_true rfl) (hz.o3 rfl) rfl (Nat.le_of_ble_eq_true rfl) (fun vr h2 hq => ?_) (fun E9 h9 hq => hq.elim)
      obtain ⟨rfl, hz⟩ := hq
      show wp _ _ 65 [(0, .ref (A 3 0 0)), (1, .int x1), (2, .long x2), (4, .int x4)] [] _ _ _
      refine w_goto 108 dX3_lookAtName_65 rfl ?_
      refine w_vret hf dX3_lookAtName_108 rfl (Nat.le_of_ble_eq_true rfl) (Nat.le_of_ble_eq_true rfl) ?_
      obtain ⟨rfl, rfl⟩ := ret_inj hr
      exact ⟨rfl, hz⟩
    have hr := bf q9_1 hr
    by_cases q9_2 : (x1 : Int32) = 2
    · have hr := bt q9_2 hr
      refine w_tableIn 68 dX3_lookAtName_9 (by rw [q9_2]; decide) (by rw [q9_2]; decide) (by rw [q9_2]; rfl) rfl ?_
      refine w_aload_n 0 dX3_lookAtName_68 rfl rfl rfl ?_
      refine w_lload_n 2 dX3_lookAtName_69 rfl rfl rfl ?_
      refine w_iload 3 dX3_lookAtName_70 rfl rfl ?_
      obtain ⟨v9, σ10, e11, hr⟩ := bq_some hr
      refine c_X3_88 (As := [.long x2, .int x4]) (rest := []) (fun l => s_X3_setFirstInput  hz e11 l) hrm dX3_lookAtName_72 rfl rfl (Nat.le_of_ble_eq_true rfl) (Nat.le_of_ble_eq_true rfl) (Nat.le_of_ble_eq_true rfl) (hz.o3 rfl) rfl (Nat.le_of_ble_eq_true rfl) (fun vr h2 hq => ?_) (fun E9 h9 hq => hq.elim)
      obtain ⟨rfl, hz⟩ := hq
      show wp _ _ 75 [(0, .ref (A 3 0 0)), (1, .int x1), (2, .long x2), (4, .int x4)] [] _ _ _
      refine w_goto 108 dX3_lookAtName_75 rfl ?_
      refine w_vret hf dX3_lookAtName_108 rfl (Nat.le_of_ble_eq_true rfl) (Nat.le_of_ble_eq_true rfl) ?_
      obtain ⟨rfl, rfl⟩ := ret_inj hr
      exact ⟨rfl, hz⟩
    have hr := bf q9_2 hr
    by_cases q9_3 : (x1 : Int32) = 3
    · have hr := bt q9_3 hr
      refine w_tableIn 78 dX3_lookAtName_9 (by rw [q9_3]; decide) (by rw [q9_3]; decide) (by rw [q9_3]; rfl) rfl ?_
      refine w_aload_n 0 dX3_lookAtName_78 rfl rfl rfl ?_
      refine w_lload_n 2 dX3_lookAtName_79 rfl rfl rfl ?_
      refine w_iload 3 dX3_lookAtName_80 rfl rfl ?_
      obtain ⟨v13, σ14, e15, hr⟩ := bq_some hr
      refine c_X3_91 (As := [.long x2, .int x4]) (rest := []) (fun l => s_X3_setSecondInput  hz e15 l) hrm dX3_lookAtName_82 rfl rfl (Nat.le_of_ble_eq_true rfl) (Nat.le_of_ble_eq_true rfl) (Nat.le_of_ble_eq_true rfl) (hz.o3 rfl) rfl (Nat.le_of_ble_eq_true rfl) (fun vr h2 hq => ?_) (fun E9 h9 hq => hq.elim)
      obtain ⟨rfl, hz⟩ := hq
      show wp _ _ 85 [(0, .ref (A 3 0 0)), (1, .int x1), (2, .long x2), (4, .int x4)] [] _ _ _
      refine w_goto 108 dX3_lookAtName_85 rfl ?_
      refine w_vret hf dX3_lookAtName_108 rfl (Nat.le_of_ble_eq_true rfl) (Nat.le_of_ble_eq_true rfl) ?_
      obtain ⟨rfl, rfl⟩ := ret_inj hr
      exact ⟨rfl, hz⟩
    have hr := bf q9_3 hr
    by_cases q9_4 : (x1 : Int32) = 4
    · have hr := bt q9_4 hr
      refine w_tableIn 88 dX3_lookAtName_9 (by rw [q9_4]; decide) (by rw [q9_4]; decide) (by rw [q9_4]; rfl) rfl ?_
      refine w_aload_n 0 dX3_lookAtName_88 rfl rfl rfl ?_
      refine w_lload_n 2 dX3_lookAtName_89 rfl rfl rfl ?_
      refine w_iload 3 dX3_lookAtName_90 rfl rfl ?_
      obtain ⟨v17, σ18, e19, hr⟩ := bq_some hr
      refine c_X3_94 (As := [.long x2, .int x4]) (rest := []) (fun l => s_X3_setKey  hz e19 l) hrm dX3_lookAtName_92 rfl rfl (Nat.le_of_ble_eq_true rfl) (Nat.le_of_ble_eq_true rfl) (Nat.le_of_ble_eq_true rfl) (hz.o3 rfl) rfl (Nat.le_of_ble_eq_true rfl) (fun vr h2 hq => ?_) (fun E9 h9 hq => hq.elim)
      obtain ⟨rfl, hz⟩ := hq
      show wp _ _ 95 [(0, .ref (A 3 0 0)), (1, .int x1), (2, .long x2), (4, .int x4)] [] _ _ _
      refine w_goto 108 dX3_lookAtName_95 rfl ?_
      refine w_vret hf dX3_lookAtName_108 rfl (Nat.le_of_ble_eq_true rfl) (Nat.le_of_ble_eq_true rfl) ?_
      obtain ⟨rfl, rfl⟩ := ret_inj hr
      exact ⟨rfl, hz⟩
    have hr := bf q9_4 hr
    by_cases q9_5 : (x1 : Int32) = 5
    · have hr := bt q9_5 hr
      refine w_tableIn 98 dX3_lookAtName_9 (by rw [q9_5]; decide) (by rw [q9_5]; decide) (by rw [q9_5]; rfl) rfl ?_
      refine w_aload_n 0 dX3_lookAtName_98 rfl rfl rfl ?_
      refine w_lload_n 2 dX3_lookAtName_99 rfl rfl rfl ?_
      refine w_iload 3 dX3_lookAtName_100 rfl rfl ?_
      obtain ⟨v21, σ22, e23, hr⟩ := bq_some hr
      refine c_X3_97 (As := [.long x2, .int x4]) (rest := []) (fun l => s_X3_pickColumn  hz e23 l) hrm dX3_lookAtName_102 rfl rfl (Nat.le_of_ble_eq_true rfl) (Nat.le_of_ble_eq_true rfl) (Nat.le_of_ble_eq_true rfl) (hz.o3 rfl) rfl (Nat.le_of_ble_eq_true rfl) (fun vr h2 hq => ?_) (fun E9 h9 hq => hq.elim)
      obtain ⟨rfl, hz⟩ := hq
      show wp _ _ 105 [(0, .ref (A 3 0 0)), (1, .int x1), (2, .long x2), (4, .int x4)] [] _ _ _
      refine w_goto 108 dX3_lookAtName_105 rfl ?_
      refine w_vret hf dX3_lookAtName_108 rfl (Nat.le_of_ble_eq_true rfl) (Nat.le_of_ble_eq_true rfl) ?_
      obtain ⟨rfl, rfl⟩ := ret_inj hr
      exact ⟨rfl, hz⟩
    have hr := bf q9_5 hr
    refine w_tableOut 108 dX3_lookAtName_9 (tabout 0 5 (fun k h1 h2 => by
          intro e
          have h3 : k = 0 ∨ k = 1 ∨ k = 2 ∨ k = 3 ∨ k = 4 ∨ k = 5 := by omega
          rcases h3 with h3 | h3 | h3 | h3 | h3 | h3 <;> subst h3 <;> contradiction)) rfl ?_
    refine w_vret hf dX3_lookAtName_108 rfl (Nat.le_of_ble_eq_true rfl) (Nat.le_of_ble_eq_true rfl) ?_
    obtain ⟨rfl, rfl⟩ := ret_inj hr
    exact ⟨rfl, hz⟩
  · have hr := bf q4 hr
    refine w_vret hf dX3_lookAtName_7 rfl (Nat.le_of_ble_eq_true rfl) (Nat.le_of_ble_eq_true rfl) ?_
    obtain ⟨rfl, rfl⟩ := ret_inj hr
    exact ⟨rfl, hz⟩

set_option maxRecDepth 20000 in
set_option maxHeartbeats 4000000 in
theorem w_X3_lookAtRange_20 {A : Nat → Nat → Nat → Nat} {ρ σ' : Zs} {v : Unit} {x : Cxt} {x1 : Int32} {x2 : Int64} {x4 : Int32}  (hf : m_fin 0 0 (QV A v σ' ρ) X0 x) (hrm : m_rm 1 0 0 x)  : ∀ (z0 : Int64) (σ : Zs) (h : Hp), Rp A h σ ρ → fX3_lookAtRange_20 x1 x2 x4  z0 σ = some (v, σ') → wp x mX3_lookAtRange 20 [(0, .ref (A 3 0 0)), (1, .int x1), (2, .long x2), (4, .int x4)] [.long z0] h 0 0 := by
  intro z0 σ h hz hr
  rw [fX3_lookAtRange_20.eq_1] at hr
  refine w_lstore [(5, .long z0), (0, .ref (A 3 0 0)), (1, .int x1), (2, .long x2), (4, .int x4)] dX3_lookAtRange_20 rfl (by decide) rfl ?_
  refine w_lload_n 3 dX3_lookAtRange_22 rfl rfl rfl ?_
  refine w_lload 0 dX3_lookAtRange_23 rfl rfl ?_
  refine w_lcmp dX3_lookAtRange_25 rfl ?_
  refine w_if_lt 37 dX3_lookAtRange_26 rfl rfl (fun q26 => ?_) (fun q26 => ?_)
  · have hr := bt q26 hr
    refine w_aload_n 1 dX3_lookAtRange_37 rfl rfl rfl ?_
    refine w_bipush 6 dX3_lookAtRange_38 rfl rfl ?_
    refine w_iload 4 dX3_lookAtRange_40 rfl rfl ?_
    obtain ⟨v1, σ2, e3, hr⟩ := bq_some hr
    refine c_X3_63 (As := [.int 6, .int x4]) (rest := []) (fun l => s_X3_report  hz e3 l) hrm dX3_lookAtRange_42 rfl rfl (Nat.le_of_ble_eq_true rfl) (Nat.le_of_ble_eq_true rfl) (Nat.le_of_ble_eq_true rfl) (hz.o3 rfl) rfl (Nat.le_of_ble_eq_true rfl) (fun vr h2 hq => ?_) (fun E9 h9 hq => hq.elim)
    obtain ⟨rfl, hz⟩ := hq
    show wp _ _ 45 [(5, .long z0), (0, .ref (A 3 0 0)), (1, .int x1), (2, .long x2), (4, .int x4)] [] _ _ _
    refine w_goto 76 dX3_lookAtRange_45 rfl ?_
    refine w_vret hf dX3_lookAtRange_76 rfl (Nat.le_of_ble_eq_true rfl) (Nat.le_of_ble_eq_true rfl) ?_
    obtain ⟨rfl, rfl⟩ := ret_inj hr
    exact ⟨rfl, hz⟩
  · have hr := bf q26 hr
    refine w_lload_n 3 dX3_lookAtRange_29 rfl rfl rfl ?_
    refine w_ldc2 dX3_lookAtRange_30 rfl k_X3_100 ?_
    refine w_lcmp dX3_lookAtRange_33 rfl ?_
    refine w_if_le 48 dX3_lookAtRange_34 rfl rfl (fun q34 => ?_) (fun q34 => ?_)
    · have hr := bt q34 hr
      refine w_iload_n 2 dX3_lookAtRange_48 rfl rfl rfl ?_
      refine w_sipush 144 dX3_lookAtRange_49 rfl rfl ?_
      refine w_icmp_ne 67 dX3_lookAtRange_52 rfl rfl (fun q52 => ?_) (fun q52 => ?_)
      · have hr := bf q52 hr
        refine w_aload_n 1 dX3_lookAtRange_67 rfl rfl rfl ?_
        have hv5 := hz.w195 (p := 0) (s := 0) rfl
        refine g_X3_25 dX3_lookAtRange_68 rfl (hz.o3 rfl) (hz.r195 rfl) ?_
        refine w_lload_n 3 dX3_lookAtRange_71 rfl rfl rfl ?_
        refine w_l2i dX3_lookAtRange_72 rfl ?_
        refine p_X3_105 dX3_lookAtRange_73 rfl (hz.o7 hv5) ?_
        obtain ⟨σ6, e7, hr⟩ := lt_e hr
        have hz := (hz.s455 (v := ((x2 : Int64).toInt32)) hv5).ts e7
        refine w_vret hf dX3_lookAtRange_76 rfl (Nat.le_of_ble_eq_true rfl) (Nat.le_of_ble_eq_true rfl) ?_
        obtain ⟨rfl, rfl⟩ := ret_inj hr
        exact ⟨rfl, hz⟩
      · have hr := bt q52 hr
        refine w_aload_n 1 dX3_lookAtRange_55 rfl rfl rfl ?_
        have hv8 := hz.w195 (p := 0) (s := 0) rfl
        refine g_X3_25 dX3_lookAtRange_56 rfl (hz.o3 rfl) (hz.r195 rfl) ?_
        refine w_lload_n 3 dX3_lookAtRange_59 rfl rfl rfl ?_
        refine w_l2i dX3_lookAtRange_60 rfl ?_
        refine p_X3_102 dX3_lookAtRange_61 rfl (hz.o7 hv8) ?_
        obtain ⟨σ9, e10, hr⟩ := lt_e hr
        have hz := (hz.s456 (v := ((x2 : Int64).toInt32)) hv8).ts e10
        refine w_goto 76 dX3_lookAtRange_64 rfl ?_
        refine w_vret hf dX3_lookAtRange_76 rfl (Nat.le_of_ble_eq_true rfl) (Nat.le_of_ble_eq_true rfl) ?_
        obtain ⟨rfl, rfl⟩ := ret_inj hr
        exact ⟨rfl, hz⟩
    · have hr := bf q34 hr
      refine w_aload_n 1 dX3_lookAtRange_37 rfl rfl rfl ?_
      refine w_bipush 6 dX3_lookAtRange_38 rfl rfl ?_
      refine w_iload 4 dX3_lookAtRange_40 rfl rfl ?_
      obtain ⟨v11, σ12, e13, hr⟩ := bq_some hr
      refine c_X3_63 (As := [.int 6, .int x4]) (rest := []) (fun l => s_X3_report  hz e13 l) hrm dX3_lookAtRange_42 rfl rfl (Nat.le_of_ble_eq_true rfl) (Nat.le_of_ble_eq_true rfl) (Nat.le_of_ble_eq_true rfl) (hz.o3 rfl) rfl (Nat.le_of_ble_eq_true rfl) (fun vr h2 hq => ?_) (fun E9 h9 hq => hq.elim)
      obtain ⟨rfl, hz⟩ := hq
      show wp _ _ 45 [(5, .long z0), (0, .ref (A 3 0 0)), (1, .int x1), (2, .long x2), (4, .int x4)] [] _ _ _
      refine w_goto 76 dX3_lookAtRange_45 rfl ?_
      refine w_vret hf dX3_lookAtRange_76 rfl (Nat.le_of_ble_eq_true rfl) (Nat.le_of_ble_eq_true rfl) ?_
      obtain ⟨rfl, rfl⟩ := ret_inj hr
      exact ⟨rfl, hz⟩
set_option maxRecDepth 20000 in
set_option maxHeartbeats 4000000 in
theorem s_X3_lookAtRange {A : Nat → Nat → Nat → Nat} {h : Hp} {σ ρ σ' : Zs} {v : Unit} {x1 : Int32} {x2 : Int64} {x4 : Int32}  (hz : Rp A h σ ρ) (hr : fX3_lookAtRange x1 x2 x4 σ = some (v, σ')) : ∀ l : Launch, Sp l mX3_lookAtRange 1 0 0 [.ref (A 3 0 0), .int x1, .long x2, .int x4] h (QV A v σ' ρ) X0 := by
  intro l
  refine Sp.of rfl rfl (lv := [(0, .ref (A 3 0 0)), (1, .int x1), (2, .long x2), (4, .int x4)]) (Nat.le_of_ble_eq_true rfl) rfl (fun x hf hrm => ?_)
  rw [fX3_lookAtRange.eq_1] at hr
  refine w_aload_n 0 dX3_lookAtRange_0 rfl rfl rfl ?_
  refine g_X3_53 dX3_lookAtRange_1 rfl (hz.o3 rfl) (hz.i192 rfl) ?_
  refine w_if_eq 8 dX3_lookAtRange_4 rfl rfl (fun q4 => ?_) (fun q4 => ?_)
  · have hr := bt q4 hr
    refine w_iload_n 1 dX3_lookAtRange_8 rfl rfl rfl ?_
    refine w_sipush 143 dX3_lookAtRange_9 rfl rfl ?_
    refine w_icmp_ne 19 dX3_lookAtRange_12 rfl rfl (fun q12 => ?_) (fun q12 => ?_)
    · have hr := bf q12 hr
      refine w_lconst 0 dX3_lookAtRange_19 rfl rfl ?_
      refine w_lv [(0, .ref (A 3 0 0)), (1, .int x1), (2, .long x2), (4, .int x4)] [0, 1, 2, 3] rfl ?_
      exact w_X3_lookAtRange_20 hf hrm   0 _ _ hz  hr
    · have hr := bt q12 hr
      refine w_lconst 1 dX3_lookAtRange_15 rfl rfl ?_
      refine w_goto 20 dX3_lookAtRange_16 rfl ?_
      refine w_lv [(0, .ref (A 3 0 0)), (1, .int x1), (2, .long x2), (4, .int x4)] [0, 1, 2, 3] rfl ?_
      exact w_X3_lookAtRange_20 hf hrm   1 _ _ hz  hr
  · have hr := bf q4 hr
    refine w_vret hf dX3_lookAtRange_7 rfl (Nat.le_of_ble_eq_true rfl) (Nat.le_of_ble_eq_true rfl) ?_
    obtain ⟨rfl, rfl⟩ := ret_inj hr
    exact ⟨rfl, hz⟩

set_option maxRecDepth 20000 in
set_option maxHeartbeats 4000000 in
theorem s_X3_setTotal {A : Nat → Nat → Nat → Nat} {h : Hp} {σ ρ σ' : Zs} {v : Unit} {x1 : Int32}  (hz : Rp A h σ ρ) (hr : fX3_setTotal x1 σ = some (v, σ')) : ∀ l : Launch, Sp l mX3_setTotal 1 0 0 [.ref (A 3 0 0), .int x1] h (QV A v σ' ρ) X0 := by
  intro l
  refine Sp.of rfl rfl (lv := [(0, .ref (A 3 0 0)), (1, .int x1)]) (Nat.le_of_ble_eq_true rfl) rfl (fun x hf hrm => ?_)
  rw [fX3_setTotal.eq_1] at hr
  refine w_aload_n 0 dX3_setTotal_0 rfl rfl rfl ?_
  refine g_X3_53 dX3_setTotal_1 rfl (hz.o3 rfl) (hz.i192 rfl) ?_
  refine w_if_ne 21 dX3_setTotal_4 rfl rfl (fun q4 => ?_) (fun q4 => ?_)
  · have hr := bf q4 hr
    refine w_vret hf dX3_setTotal_21 rfl (Nat.le_of_ble_eq_true rfl) (Nat.le_of_ble_eq_true rfl) ?_
    obtain ⟨rfl, rfl⟩ := ret_inj hr
    exact ⟨rfl, hz⟩
  · have hr := bt q4 hr
    refine w_aload_n 0 dX3_setTotal_7 rfl rfl rfl ?_
    have hv1 := hz.w195 (p := 0) (s := 0) rfl
    refine g_X3_25 dX3_setTotal_8 rfl (hz.o3 rfl) (hz.r195 rfl) ?_
    refine w_aload_n 0 dX3_setTotal_11 rfl rfl rfl ?_
    refine g_X3_72 dX3_setTotal_12 rfl (hz.o3 rfl) (hz.i201 rfl) ?_
    refine w_iconst 1 dX3_setTotal_15 rfl rfl ?_
    refine w_isub dX3_setTotal_16 rfl ?_
    refine w_iload_n 1 dX3_setTotal_17 rfl rfl rfl ?_
    obtain ⟨v2, σ3, e4, hr⟩ := bq_some hr
    refine c_X3_108 (As := [.int ((zI σ 201 0 0 0) - 1), .int x1]) (rest := []) (fun l => s_X7_setPart hv1 hz e4 l) hrm dX3_setTotal_18 rfl rfl (Nat.le_of_ble_eq_true rfl) (Nat.le_of_ble_eq_true rfl) (Nat.le_of_ble_eq_true rfl) (hz.o7 hv1) rfl (Nat.le_of_ble_eq_true rfl) (fun vr h2 hq => ?_) (fun E9 h9 hq => hq.elim)
    obtain ⟨rfl, hz⟩ := hq
    show wp _ _ 21 [(0, .ref (A 3 0 0)), (1, .int x1)] [] _ _ _
    refine w_vret hf dX3_setTotal_21 rfl (Nat.le_of_ble_eq_true rfl) (Nat.le_of_ble_eq_true rfl) ?_
    obtain ⟨rfl, rfl⟩ := ret_inj hr
    exact ⟨rfl, hz⟩

set_option maxRecDepth 20000 in
set_option maxHeartbeats 4000000 in
theorem s_X3_startExpression {A : Nat → Nat → Nat → Nat} {h : Hp} {σ ρ σ' : Zs} {v : Unit}   (hz : Rp A h σ ρ) (hr : fX3_startExpression  σ = some (v, σ')) : ∀ l : Launch, Sp l mX3_startExpression 0 0 0 [.ref (A 3 0 0)] h (QV A v σ' ρ) X0 := by
  intro l
  refine Sp.of rfl rfl (lv := [(0, .ref (A 3 0 0))]) (Nat.le_of_ble_eq_true rfl) rfl (fun x hf hrm => ?_)
  rw [fX3_startExpression.eq_1] at hr
  refine w_aload_n 0 dX3_startExpression_0 rfl rfl rfl ?_
  refine w_aload_n 0 dX3_startExpression_1 rfl rfl rfl ?_
  have hv1 := hz.ww194 (p := 0) (s := 0) rfl
  refine g_X3_15 dX3_startExpression_2 rfl (hz.o3 rfl) (hz.rr194 rfl) ?_
  refine g_X3_50 dX3_startExpression_5 rfl (hz.o5 hv1) (hz.i326 hv1) ?_
  refine p_X3_111 dX3_startExpression_8 rfl (hz.o3 rfl) ?_
  obtain ⟨σ2, e3, hr⟩ := lt_e hr
  have hz := (hz.s205 (v := (zI σ 326 ((zR σ 194 0 0 0).1) 0 0)) rfl).ts e3
  refine w_vret hf dX3_startExpression_11 rfl (Nat.le_of_ble_eq_true rfl) (Nat.le_of_ble_eq_true rfl) ?_
  obtain ⟨rfl, rfl⟩ := ret_inj hr
  exact ⟨rfl, hz⟩

set_option maxRecDepth 20000 in
set_option maxHeartbeats 4000000 in
theorem s_X3_endExpression {A : Nat → Nat → Nat → Nat} {h : Hp} {σ ρ σ' : Zs} {v : Unit}   (hz : Rp A h σ ρ) (hr : fX3_endExpression  σ = some (v, σ')) : ∀ l : Launch, Sp l mX3_endExpression 1 0 0 [.ref (A 3 0 0)] h (QV A v σ' ρ) X0 := by
  intro l
  refine Sp.of rfl rfl (lv := [(0, .ref (A 3 0 0))]) (Nat.le_of_ble_eq_true rfl) rfl (fun x hf hrm => ?_)
  rw [fX3_endExpression.eq_1] at hr
  refine w_aload_n 0 dX3_endExpression_0 rfl rfl rfl ?_
  refine g_X3_53 dX3_endExpression_1 rfl (hz.o3 rfl) (hz.i192 rfl) ?_
  refine w_if_eq 8 dX3_endExpression_4 rfl rfl (fun q4 => ?_) (fun q4 => ?_)
  · have hr := bt q4 hr
    refine w_aload_n 0 dX3_endExpression_8 rfl rfl rfl ?_
    refine g_X3_59 dX3_endExpression_9 rfl (hz.o3 rfl) (hz.i197 rfl) ?_
    refine w_if_eq 43 dX3_endExpression_12 rfl rfl (fun q12 => ?_) (fun q12 => ?_)
    · have hr := bt q12 hr
      refine w_aload_n 0 dX3_endExpression_43 rfl rfl rfl ?_
      have hv1 := hz.w195 (p := 0) (s := 0) rfl
      refine g_X3_25 dX3_endExpression_44 rfl (hz.o3 rfl) (hz.r195 rfl) ?_
      refine g_X3_75 dX3_endExpression_47 rfl (hz.o7 hv1) (hz.i449 hv1) ?_
      refine w_iconst 1 dX3_endExpression_50 rfl rfl ?_
      refine w_icmp_ne 58 dX3_endExpression_51 rfl rfl (fun q51 => ?_) (fun q51 => ?_)
      · have hr := bf q51 hr
        refine w_aload_n 0 dX3_endExpression_58 rfl rfl rfl ?_
        refine g_X3_72 dX3_endExpression_59 rfl (hz.o3 rfl) (hz.i201 rfl) ?_
        refine w_iconst 1 dX3_endExpression_62 rfl rfl ?_
        refine w_isub dX3_endExpression_63 rfl ?_
        refine w_istore_n [(1, .int ((zI σ 201 0 0 0) - 1)), (0, .ref (A 3 0 0))] dX3_endExpression_64 rfl rfl (by decide) rfl ?_
        refine w_aload_n 1 dX3_endExpression_65 rfl rfl rfl ?_
        have hv2 := hz.w195 (p := 0) (s := 0) rfl
        refine g_X3_25 dX3_endExpression_66 rfl (hz.o3 rfl) (hz.r195 rfl) ?_
        refine w_iload_n 0 dX3_endExpression_69 rfl rfl rfl ?_
        refine w_aload_n 1 dX3_endExpression_70 rfl rfl rfl ?_
        refine g_X3_111 dX3_endExpression_71 rfl (hz.o3 rfl) (hz.i205 rfl) ?_
        refine w_aload_n 1 dX3_endExpression_74 rfl rfl rfl ?_
        have hv3 := hz.ww194 (p := 0) (s := 0) rfl
        refine g_X3_15 dX3_endExpression_75 rfl (hz.o3 rfl) (hz.rr194 rfl) ?_
        refine g_X3_50 dX3_endExpression_78 rfl (hz.o5 hv3) (hz.i326 hv3) ?_
        obtain ⟨v4, σ5, e6, hr⟩ := bq_some hr
        refine c_X3_120 (As := [.int ((zI σ 201 0 0 0) - 1), .int (zI σ 205 0 0 0), .int (zI σ 326 ((zR σ 194 0 0 0).1) 0 0)]) (rest := []) (fun l => s_X7_setCode hv2 hz e6 l) hrm dX3_endExpression_81 rfl rfl (Nat.le_of_ble_eq_true rfl) (Nat.le_of_ble_eq_true rfl) (Nat.le_of_ble_eq_true rfl) (hz.o7 hv2) rfl (Nat.le_of_ble_eq_true rfl) (fun vr h2 hq => ?_) (fun E9 h9 hq => hq.elim)
        obtain ⟨rfl, hz⟩ := hq
        show wp _ _ 84 [(1, .int ((zI σ 201 0 0 0) - 1)), (0, .ref (A 3 0 0))] [] _ _ _
        refine w_vret hf dX3_endExpression_84 rfl (Nat.le_of_ble_eq_true rfl) (Nat.le_of_ble_eq_true rfl) ?_
        obtain ⟨rfl, rfl⟩ := ret_inj hr
        exact ⟨rfl, hz⟩
      · have hr := bt q51 hr
        refine w_iconst 0 dX3_endExpression_54 rfl rfl ?_
        refine w_goto 64 dX3_endExpression_55 rfl ?_
        refine w_istore_n [(1, .int 0), (0, .ref (A 3 0 0))] dX3_endExpression_64 rfl rfl (by decide) rfl ?_
        refine w_aload_n 1 dX3_endExpression_65 rfl rfl rfl ?_
        have hv8 := hz.w195 (p := 0) (s := 0) rfl
        refine g_X3_25 dX3_endExpression_66 rfl (hz.o3 rfl) (hz.r195 rfl) ?_
        refine w_iload_n 0 dX3_endExpression_69 rfl rfl rfl ?_
        refine w_aload_n 1 dX3_endExpression_70 rfl rfl rfl ?_
        refine g_X3_111 dX3_endExpression_71 rfl (hz.o3 rfl) (hz.i205 rfl) ?_
        refine w_aload_n 1 dX3_endExpression_74 rfl rfl rfl ?_
        have hv9 := hz.ww194 (p := 0) (s := 0) rfl
        refine g_X3_15 dX3_endExpression_75 rfl (hz.o3 rfl) (hz.rr194 rfl) ?_
        refine g_X3_50 dX3_endExpression_78 rfl (hz.o5 hv9) (hz.i326 hv9) ?_
        obtain ⟨v10, σ11, e12, hr⟩ := bq_some hr
        refine c_X3_120 (As := [.int 0, .int (zI σ 205 0 0 0), .int (zI σ 326 ((zR σ 194 0 0 0).1) 0 0)]) (rest := []) (fun l => s_X7_setCode hv8 hz e12 l) hrm dX3_endExpression_81 rfl rfl (Nat.le_of_ble_eq_true rfl) (Nat.le_of_ble_eq_true rfl) (Nat.le_of_ble_eq_true rfl) (hz.o7 hv8) rfl (Nat.le_of_ble_eq_true rfl) (fun vr h2 hq => ?_) (fun E9 h9 hq => hq.elim)
        obtain ⟨rfl, hz⟩ := hq
        show wp _ _ 84 [(1, .int 0), (0, .ref (A 3 0 0))] [] _ _ _
        refine w_vret hf dX3_endExpression_84 rfl (Nat.le_of_ble_eq_true rfl) (Nat.le_of_ble_eq_true rfl) ?_
        obtain ⟨rfl, rfl⟩ := ret_inj hr
        exact ⟨rfl, hz⟩
    · have hr := bf q12 hr
      refine w_aload_n 0 dX3_endExpression_15 rfl rfl rfl ?_
      have hv14 := hz.w196 (p := 0) (s := 0) rfl
      refine g_X3_39 dX3_endExpression_16 rfl (hz.o3 rfl) (hz.r196 rfl) ?_
      refine w_aload_n 0 dX3_endExpression_19 rfl rfl rfl ?_
      refine g_X3_111 dX3_endExpression_20 rfl (hz.o3 rfl) (hz.i205 rfl) ?_
      refine p_X3_114 dX3_endExpression_23 rfl (hz.o0 hv14) ?_
      obtain ⟨σ15, e16, hr⟩ := lt_e hr
      have hz := (hz.s2 (v := (zI σ 205 0 0 0)) hv14).ts e16
      refine w_aload_n 0 dX3_endExpression_26 rfl rfl rfl ?_
      have hv17 := hz.w196 (p := 0) (s := 0) rfl
      refine g_X3_39 dX3_endExpression_27 rfl (hz.o3 rfl) (hz.r196 rfl) ?_
      refine w_aload_n 0 dX3_endExpression_30 rfl rfl rfl ?_
      have hv18 := hz.ww194 (p := 0) (s := 0) rfl
      refine g_X3_15 dX3_endExpression_31 rfl (hz.o3 rfl) (hz.rr194 rfl) ?_
      refine g_X3_50 dX3_endExpression_34 rfl (hz.o5 hv18) (hz.i326 hv18) ?_
      refine p_X3_117 dX3_endExpression_37 rfl (hz.o0 hv17) ?_
      obtain ⟨σ19, e20, hr⟩ := lt_e hr
      have hz := (hz.s3 (v := (zI σ15 326 ((zR σ15 194 0 0 0).1) 0 0)) hv17).ts e20
      refine w_goto 84 dX3_endExpression_40 rfl ?_
      refine w_vret hf dX3_endExpression_84 rfl (Nat.le_of_ble_eq_true rfl) (Nat.le_of_ble_eq_true rfl) ?_
      obtain ⟨rfl, rfl⟩ := ret_inj hr
      exact ⟨rfl, hz⟩
  · have hr := bf q4 hr
    refine w_vret hf dX3_endExpression_7 rfl (Nat.le_of_ble_eq_true rfl) (Nat.le_of_ble_eq_true rfl) ?_
    obtain ⟨rfl, rfl⟩ := ret_inj hr
    exact ⟨rfl, hz⟩

set_option maxRecDepth 20000 in
set_option maxHeartbeats 4000000 in
theorem s_X3_emit {A : Nat → Nat → Nat → Nat} {h : Hp} {σ ρ σ' : Zs} {v : Unit} {x1 : Int32} {x2 : Int64}  (hz : Rp A h σ ρ) (hr : fX3_emit x1 x2 σ = some (v, σ')) : ∀ l : Launch, Sp l mX3_emit 1 0 0 [.ref (A 3 0 0), .int x1, .long x2] h (QV A v σ' ρ) X0 := by
  intro l
  refine Sp.of rfl rfl (lv := [(0, .ref (A 3 0 0)), (1, .int x1), (2, .long x2)]) (Nat.le_of_ble_eq_true rfl) rfl (fun x hf hrm => ?_)
  rw [fX3_emit.eq_1] at hr
  refine w_aload_n 0 dX3_emit_0 rfl rfl rfl ?_
  refine g_X3_53 dX3_emit_1 rfl (hz.o3 rfl) (hz.i192 rfl) ?_
  refine w_if_ne 16 dX3_emit_4 rfl rfl (fun q4 => ?_) (fun q4 => ?_)
  · have hr := bf q4 hr
    refine w_vret hf dX3_emit_16 rfl (Nat.le_of_ble_eq_true rfl) (Nat.le_of_ble_eq_true rfl) ?_
    obtain ⟨rfl, rfl⟩ := ret_inj hr
    exact ⟨rfl, hz⟩
  · have hr := bt q4 hr
    refine w_aload_n 0 dX3_emit_7 rfl rfl rfl ?_
    have hv1 := hz.ww194 (p := 0) (s := 0) rfl
    refine g_X3_15 dX3_emit_8 rfl (hz.o3 rfl) (hz.rr194 rfl) ?_
    refine w_iload_n 1 dX3_emit_11 rfl rfl rfl ?_
    refine w_lload_n 2 dX3_emit_12 rfl rfl rfl ?_
    obtain ⟨v2, σ3, e4, hr⟩ := bq_some hr
    refine c_X3_124 (As := [.int x1, .long x2]) (rest := []) (fun l => s_X5_emit hv1 hz e4 l) hrm dX3_emit_13 rfl rfl (Nat.le_of_ble_eq_true rfl) (Nat.le_of_ble_eq_true rfl) (Nat.le_of_ble_eq_true rfl) (hz.o5 hv1) rfl (Nat.le_of_ble_eq_true rfl) (fun vr h2 hq => ?_) (fun E9 h9 hq => hq.elim)
    obtain ⟨rfl, hz⟩ := hq
    show wp _ _ 16 [(0, .ref (A 3 0 0)), (1, .int x1), (2, .long x2)] [] _ _ _
    refine w_vret hf dX3_emit_16 rfl (Nat.le_of_ble_eq_true rfl) (Nat.le_of_ble_eq_true rfl) ?_
    obtain ⟨rfl, rfl⟩ := ret_inj hr
    exact ⟨rfl, hz⟩

set_option maxRecDepth 20000 in
set_option maxHeartbeats 4000000 in
theorem s_X3_useColumn {A : Nat → Nat → Nat → Nat} {h : Hp} {σ ρ σ' : Zs} {v : Unit} {x1 : Int64} {x3 : Int32}  (hz : Rp A h σ ρ) (hr : fX3_useColumn x1 x3 σ = some (v, σ')) : ∀ l : Launch, Sp l mX3_useColumn 1 0 0 [.ref (A 3 0 0), .long x1, .int x3] h (QV A v σ' ρ) X0 := by
  intro l
  refine Sp.of rfl rfl (lv := [(0, .ref (A 3 0 0)), (1, .long x1), (3, .int x3)]) (Nat.le_of_ble_eq_true rfl) rfl (fun x hf hrm => ?_)
  rw [fX3_useColumn.eq_1] at hr
  refine w_aload_n 0 dX3_useColumn_0 rfl rfl rfl ?_
  refine g_X3_53 dX3_useColumn_1 rfl (hz.o3 rfl) (hz.i192 rfl) ?_
  refine w_if_eq 8 dX3_useColumn_4 rfl rfl (fun q4 => ?_) (fun q4 => ?_)
  · have hr := bt q4 hr
    refine w_aload_n 0 dX3_useColumn_8 rfl rfl rfl ?_
    have hv1 := hz.w198 (p := 0) (s := 0) rfl
    refine g_X3_29 dX3_useColumn_9 rfl (hz.o3 rfl) (hz.r198 rfl) ?_
    refine w_lload_n 1 dX3_useColumn_12 rfl rfl rfl ?_
    obtain ⟨v2, σ3, e4, hr⟩ := bq_some hr
    refine c_X3_128 (As := [.long x1]) (rest := []) (fun l => s_X7_columnNamed hv1 hz e4 l) hrm dX3_useColumn_13 rfl rfl (Nat.le_of_ble_eq_true rfl) (Nat.le_of_ble_eq_true rfl) (Nat.le_of_ble_eq_true rfl) (hz.o7 hv1) rfl (Nat.le_of_ble_eq_true rfl) (fun vr h2 hq => ?_) (fun E9 h9 hq => hq.elim)
    obtain ⟨rfl, hz⟩ := hq
    show wp _ _ 16 [(0, .ref (A 3 0 0)), (1, .long x1), (3, .int x3)] [.int v2] _ _ _
    refine w_istore [(4, .int v2), (0, .ref (A 3 0 0)), (1, .long x1), (3, .int x3)] dX3_useColumn_16 rfl (by decide) rfl ?_
    refine w_iload 0 dX3_useColumn_18 rfl rfl ?_
    refine w_if_ge 32 dX3_useColumn_20 rfl rfl (fun q20 => ?_) (fun q20 => ?_)
    · have hr := bt q20 hr
      refine w_aload_n 1 dX3_useColumn_32 rfl rfl rfl ?_
      have hv6 := hz.ww194 (p := 0) (s := 0) rfl
      refine g_X3_15 dX3_useColumn_33 rfl (hz.o3 rfl) (hz.rr194 rfl) ?_
      refine w_iconst 2 dX3_useColumn_36 rfl rfl ?_
      refine w_iload 0 dX3_useColumn_37 rfl rfl ?_
      refine w_i2l dX3_useColumn_39 rfl ?_
      obtain ⟨v7, σ8, e9, hr⟩ := bq_some hr
      refine c_X3_124 (As := [.int 2, .long ((v2 : Int32).toInt64)]) (rest := []) (fun l => s_X5_emit hv6 hz e9 l) hrm dX3_useColumn_40 rfl rfl (Nat.le_of_ble_eq_true rfl) (Nat.le_of_ble_eq_true rfl) (Nat.le_of_ble_eq_true rfl) (hz.o5 hv6) rfl (Nat.le_of_ble_eq_true rfl) (fun vr h2 hq => ?_) (fun E9 h9 hq => hq.elim)
      obtain ⟨rfl, hz⟩ := hq
      show wp _ _ 43 [(4, .int v2), (0, .ref (A 3 0 0)), (1, .long x1), (3, .int x3)] [] _ _ _
      refine w_vret hf dX3_useColumn_43 rfl (Nat.le_of_ble_eq_true rfl) (Nat.le_of_ble_eq_true rfl) ?_
      obtain ⟨rfl, rfl⟩ := ret_inj hr
      exact ⟨rfl, hz⟩
    · have hr := bf q20 hr
      refine w_aload_n 1 dX3_useColumn_23 rfl rfl rfl ?_
      refine w_iconst 2 dX3_useColumn_24 rfl rfl ?_
      refine w_iload_n 3 dX3_useColumn_25 rfl rfl rfl ?_
      obtain ⟨v11, σ12, e13, hr⟩ := bq_some hr
      refine c_X3_63 (As := [.int 2, .int x3]) (rest := []) (fun l => s_X3_report  hz e13 l) hrm dX3_useColumn_26 rfl rfl (Nat.le_of_ble_eq_true rfl) (Nat.le_of_ble_eq_true rfl) (Nat.le_of_ble_eq_true rfl) (hz.o3 rfl) rfl (Nat.le_of_ble_eq_true rfl) (fun vr h2 hq => ?_) (fun E9 h9 hq => hq.elim)
      obtain ⟨rfl, hz⟩ := hq
      show wp _ _ 29 [(4, .int v2), (0, .ref (A 3 0 0)), (1, .long x1), (3, .int x3)] [] _ _ _
      refine w_goto 43 dX3_useColumn_29 rfl ?_
      refine w_vret hf dX3_useColumn_43 rfl (Nat.le_of_ble_eq_true rfl) (Nat.le_of_ble_eq_true rfl) ?_
      obtain ⟨rfl, rfl⟩ := ret_inj hr
      exact ⟨rfl, hz⟩
  · have hr := bf q4 hr
    refine w_vret hf dX3_useColumn_7 rfl (Nat.le_of_ble_eq_true rfl) (Nat.le_of_ble_eq_true rfl) ?_
    obtain ⟨rfl, rfl⟩ := ret_inj hr
    exact ⟨rfl, hz⟩

set_option maxRecDepth 20000 in
set_option maxHeartbeats 4000000 in
theorem w_X3_endFunction_21 {A : Nat → Nat → Nat → Nat} {ρ σ' : Zs} {v : Unit} {x : Cxt} {x1 : Int32} {x2 : Int32} {x3 : Int32}  (hf : m_fin 0 0 (QV A v σ' ρ) X0 x) (hrm : m_rm 1 0 0 x)  : ∀ (z0 : Int32) (z1 : Int32) (σ : Zs) (h : Hp), Rp A h σ ρ → fX3_endFunction_21 x1 x2 x3  z0 z1 σ = some (v, σ') → wp x mX3_endFunction 21 [(0, .ref (A 3 0 0)), (1, .int x1), (2, .int x2), (3, .int x3)] [.int z0, .int z1] h 0 0 := by
  intro z0 z1 σ h hz hr
  rw [fX3_endFunction_21.eq_1] at hr
  refine w_icmp_eq 33 dX3_endFunction_21 rfl rfl (fun q21 => ?_) (fun q21 => ?_)
  · have hr := bt q21 hr
    refine w_aload_n 0 dX3_endFunction_33 rfl rfl rfl ?_
    have hv1 := hz.ww194 (p := 0) (s := 0) rfl
    refine g_X3_15 dX3_endFunction_34 rfl (hz.o3 rfl) (hz.rr194 rfl) ?_
    refine w_iload_n 1 dX3_endFunction_37 rfl rfl rfl ?_
    refine w_lconst 0 dX3_endFunction_38 rfl rfl ?_
    obtain ⟨v2, σ3, e4, hr⟩ := bq_some hr
    refine c_X3_124 (As := [.int x1, .long 0]) (rest := []) (fun l => s_X5_emit hv1 hz e4 l) hrm dX3_endFunction_39 rfl rfl (Nat.le_of_ble_eq_true rfl) (Nat.le_of_ble_eq_true rfl) (Nat.le_of_ble_eq_true rfl) (hz.o5 hv1) rfl (Nat.le_of_ble_eq_true rfl) (fun vr h2 hq => ?_) (fun E9 h9 hq => hq.elim)
    obtain ⟨rfl, hz⟩ := hq
    show wp _ _ 42 [(0, .ref (A 3 0 0)), (1, .int x1), (2, .int x2), (3, .int x3)] [] _ _ _
    refine w_vret hf dX3_endFunction_42 rfl (Nat.le_of_ble_eq_true rfl) (Nat.le_of_ble_eq_true rfl) ?_
    obtain ⟨rfl, rfl⟩ := ret_inj hr
    exact ⟨rfl, hz⟩
  · have hr := bf q21 hr
    refine w_aload_n 0 dX3_endFunction_24 rfl rfl rfl ?_
    refine w_iconst 3 dX3_endFunction_25 rfl rfl ?_
    refine w_iload_n 3 dX3_endFunction_26 rfl rfl rfl ?_
    obtain ⟨v6, σ7, e8, hr⟩ := bq_some hr
    refine c_X3_63 (As := [.int 3, .int x3]) (rest := []) (fun l => s_X3_report  hz e8 l) hrm dX3_endFunction_27 rfl rfl (Nat.le_of_ble_eq_true rfl) (Nat.le_of_ble_eq_true rfl) (Nat.le_of_ble_eq_true rfl) (hz.o3 rfl) rfl (Nat.le_of_ble_eq_true rfl) (fun vr h2 hq => ?_) (fun E9 h9 hq => hq.elim)
    obtain ⟨rfl, hz⟩ := hq
    show wp _ _ 30 [(0, .ref (A 3 0 0)), (1, .int x1), (2, .int x2), (3, .int x3)] [] _ _ _
    refine w_goto 42 dX3_endFunction_30 rfl ?_
    refine w_vret hf dX3_endFunction_42 rfl (Nat.le_of_ble_eq_true rfl) (Nat.le_of_ble_eq_true rfl) ?_
    obtain ⟨rfl, rfl⟩ := ret_inj hr
    exact ⟨rfl, hz⟩
set_option maxRecDepth 20000 in
set_option maxHeartbeats 4000000 in
theorem s_X3_endFunction {A : Nat → Nat → Nat → Nat} {h : Hp} {σ ρ σ' : Zs} {v : Unit} {x1 : Int32} {x2 : Int32} {x3 : Int32}  (hz : Rp A h σ ρ) (hr : fX3_endFunction x1 x2 x3 σ = some (v, σ')) : ∀ l : Launch, Sp l mX3_endFunction 1 0 0 [.ref (A 3 0 0), .int x1, .int x2, .int x3] h (QV A v σ' ρ) X0 := by
  intro l
  refine Sp.of rfl rfl (lv := [(0, .ref (A 3 0 0)), (1, .int x1), (2, .int x2), (3, .int x3)]) (Nat.le_of_ble_eq_true rfl) rfl (fun x hf hrm => ?_)
  rw [fX3_endFunction.eq_1] at hr
  refine w_aload_n 0 dX3_endFunction_0 rfl rfl rfl ?_
  refine g_X3_53 dX3_endFunction_1 rfl (hz.o3 rfl) (hz.i192 rfl) ?_
  refine w_if_eq 8 dX3_endFunction_4 rfl rfl (fun q4 => ?_) (fun q4 => ?_)
  · have hr := bt q4 hr
    refine w_iload_n 2 dX3_endFunction_8 rfl rfl rfl ?_
    refine w_iload_n 1 dX3_endFunction_9 rfl rfl rfl ?_
    refine w_sipush 159 dX3_endFunction_10 rfl rfl ?_
    refine w_icmp_ne 20 dX3_endFunction_13 rfl rfl (fun q13 => ?_) (fun q13 => ?_)
    · have hr := bf q13 hr
      refine w_iconst 2 dX3_endFunction_20 rfl rfl ?_
      refine w_lv [(0, .ref (A 3 0 0)), (1, .int x1), (2, .int x2), (3, .int x3)] [0, 1, 2, 3] rfl ?_
      exact w_X3_endFunction_21 hf hrm   2 x2 _ _ hz  hr
    · have hr := bt q13 hr
      refine w_iconst 1 dX3_endFunction_16 rfl rfl ?_
      refine w_goto 21 dX3_endFunction_17 rfl ?_
      refine w_lv [(0, .ref (A 3 0 0)), (1, .int x1), (2, .int x2), (3, .int x3)] [0, 1, 2, 3] rfl ?_
      exact w_X3_endFunction_21 hf hrm   1 x2 _ _ hz  hr
  · have hr := bf q4 hr
    refine w_vret hf dX3_endFunction_7 rfl (Nat.le_of_ble_eq_true rfl) (Nat.le_of_ble_eq_true rfl) ?_
    obtain ⟨rfl, rfl⟩ := ret_inj hr
    exact ⟨rfl, hz⟩

set_option maxRecDepth 20000 in
set_option maxHeartbeats 4000000 in
theorem s_X3_endCheck {A : Nat → Nat → Nat → Nat} {h : Hp} {σ ρ σ' : Zs} {v : Unit} {x1 : Int32}  (hz : Rp A h σ ρ) (hr : fX3_endCheck x1 σ = some (v, σ')) : ∀ l : Launch, Sp l mX3_endCheck 0 0 0 [.ref (A 3 0 0), .int x1] h (QV A v σ' ρ) X0 := by
  intro l
  refine Sp.of rfl rfl (lv := [(0, .ref (A 3 0 0)), (1, .int x1)]) (Nat.le_of_ble_eq_true rfl) rfl (fun x hf hrm => ?_)
  rw [fX3_endCheck.eq_1] at hr
  refine w_aload_n 0 dX3_endCheck_0 rfl rfl rfl ?_
  refine g_X3_53 dX3_endCheck_1 rfl (hz.o3 rfl) (hz.i192 rfl) ?_
  refine w_if_ne 28 dX3_endCheck_4 rfl rfl (fun q4 => ?_) (fun q4 => ?_)
  · have hr := bf q4 hr
    refine w_vret hf dX3_endCheck_28 rfl (Nat.le_of_ble_eq_true rfl) (Nat.le_of_ble_eq_true rfl) ?_
    obtain ⟨rfl, rfl⟩ := ret_inj hr
    exact ⟨rfl, hz⟩
  · have hr := bt q4 hr
    refine w_aload_n 0 dX3_endCheck_7 rfl rfl rfl ?_
    have hv1 := hz.w196 (p := 0) (s := 0) rfl
    refine g_X3_39 dX3_endCheck_8 rfl (hz.o3 rfl) (hz.r196 rfl) ?_
    refine w_iload_n 1 dX3_endCheck_11 rfl rfl rfl ?_
    refine p_X3_132 dX3_endCheck_12 rfl (hz.o0 hv1) ?_
    obtain ⟨σ2, e3, hr⟩ := lt_e hr
    have hz := (hz.s1 (v := x1) hv1).ts e3
    refine w_aload_n 0 dX3_endCheck_15 rfl rfl rfl ?_
    have hv4 := hz.ww194 (p := 0) (s := 0) rfl
    refine g_X3_15 dX3_endCheck_16 rfl (hz.o3 rfl) (hz.rr194 rfl) ?_
    refine w_dup dX3_endCheck_19 rfl rfl ?_
    refine g_X3_47 dX3_endCheck_20 rfl (hz.o5 hv4) (hz.i323 hv4) ?_
    refine w_iconst 1 dX3_endCheck_23 rfl rfl ?_
    refine w_iadd dX3_endCheck_24 rfl ?_
    refine p_X3_47 dX3_endCheck_25 rfl (hz.o5 hv4) ?_
    obtain ⟨σ5, e6, hr⟩ := lt_e hr
    have hz := (hz.s323 (v := ((zI σ2 323 ((zR σ2 194 0 0 0).1) 0 0) + 1)) hv4).ts e6
    refine w_vret hf dX3_endCheck_28 rfl (Nat.le_of_ble_eq_true rfl) (Nat.le_of_ble_eq_true rfl) ?_
    obtain ⟨rfl, rfl⟩ := ret_inj hr
    exact ⟨rfl, hz⟩

set_option maxRecDepth 20000 in
set_option maxHeartbeats 4000000 in
theorem w_X3_addOtherColumns_2 {A : Nat → Nat → Nat → Nat} {ρ σ' : Zs} {v : Unit} {x : Cxt}   (hf : m_fin 0 0 (QV A v σ' ρ) X0 x) (hrm : m_rm 1 0 0 x)  : ∀ (n : Nat) (y1 : Int32) (σ : Zs) (h : Hp), Rp A h σ ρ → fX3_addOtherColumns_2   n y1 σ = some (v, σ') → wp x mX3_addOtherColumns 2 [(0, .ref (A 3 0 0)), (1, .int y1)] [] h 0 0
  | 0, _, σ, h => fun hz hr => by
    rw [fX3_addOtherColumns_2.eq_1] at hr
    exact nono hr
  | n + 1, y1, σ, h => fun hz hr => by
    rw [fX3_addOtherColumns_2.eq_2] at hr
    refine w_iload_n 1 dX3_addOtherColumns_2 rfl rfl rfl ?_
    refine w_aload_n 0 dX3_addOtherColumns_3 rfl rfl rfl ?_
    have hv1 := hz.w199 (p := 0) (s := 0) rfl
    refine g_X3_32 dX3_addOtherColumns_4 rfl (hz.o3 rfl) (hz.r199 rfl) ?_
    refine g_X3_181 dX3_addOtherColumns_7 rfl (hz.o7 hv1) (hz.i450 hv1) ?_
    refine w_icmp_ge 54 dX3_addOtherColumns_10 rfl rfl (fun q10 => ?_) (fun q10 => ?_)
    · have hr := bt q10 hr
      refine w_vret hf dX3_addOtherColumns_54 rfl (Nat.le_of_ble_eq_true rfl) (Nat.le_of_ble_eq_true rfl) ?_
      obtain ⟨rfl, rfl⟩ := ret_inj hr
      exact ⟨rfl, hz⟩
    · have hr := bf q10 hr
      refine w_iload_n 1 dX3_addOtherColumns_13 rfl rfl rfl ?_
      refine w_aload_n 0 dX3_addOtherColumns_14 rfl rfl rfl ?_
      have hv2 := hz.w195 (p := 0) (s := 0) rfl
      refine g_X3_25 dX3_addOtherColumns_15 rfl (hz.o3 rfl) (hz.r195 rfl) ?_
      refine g_X3_176 dX3_addOtherColumns_18 rfl (hz.o7 hv2) (hz.i454 hv2) ?_
      refine w_icmp_eq 48 dX3_addOtherColumns_21 rfl rfl (fun q21 => ?_) (fun q21 => ?_)
      · have hr := bt q21 hr
        refine w_iinc 1 (y1 + 1) [(1, .int (y1 + 1)), (0, .ref (A 3 0 0))] dX3_addOtherColumns_48 rfl rfl rfl (by decide) rfl ?_
        refine w_goto 2 dX3_addOtherColumns_51 rfl ?_
        refine w_lv [(0, .ref (A 3 0 0)), (1, .int (y1 + 1))] [1, 0] rfl ?_
        exact w_X3_addOtherColumns_2 hf hrm   n (y1 + 1) _ _ hz  hr
      · have hr := bf q21 hr
        refine w_aload_n 0 dX3_addOtherColumns_24 rfl rfl rfl ?_
        refine w_aload_n 0 dX3_addOtherColumns_25 rfl rfl rfl ?_
        have hv3 := hz.w199 (p := 0) (s := 0) rfl
        refine g_X3_32 dX3_addOtherColumns_26 rfl (hz.o3 rfl) (hz.r199 rfl) ?_
        refine w_iload_n 1 dX3_addOtherColumns_29 rfl rfl rfl ?_
        obtain ⟨v4, σ5, e6, hr⟩ := bq_some hr
        refine c_X3_182 (As := [.int y1]) (rest := [.ref (A 3 0 0)]) (fun l => s_X7_columnAt hv3 hz e6 l) hrm dX3_addOtherColumns_30 rfl rfl (Nat.le_of_ble_eq_true rfl) (Nat.le_of_ble_eq_true rfl) (Nat.le_of_ble_eq_true rfl) (hz.o7 hv3) rfl (Nat.le_of_ble_eq_true rfl) (fun vr h2 hq => ?_) (fun E9 h9 hq => hq.elim)
        obtain ⟨rfl, hz⟩ := hq
        show wp _ _ 33 [(0, .ref (A 3 0 0)), (1, .int y1)] [.long v4, .ref (A 3 0 0)] _ _ _
        obtain ⟨v8, σ9, e10, hr⟩ := bq_some hr
        refine c_X3_156 (As := [.long v4]) (rest := []) (fun l => s_X3_addColumn  hz e10 l) hrm dX3_addOtherColumns_33 rfl rfl (Nat.le_of_ble_eq_true rfl) (Nat.le_of_ble_eq_true rfl) (Nat.le_of_ble_eq_true rfl) (hz.o3 rfl) rfl (Nat.le_of_ble_eq_true rfl) (fun vr h2 hq => ?_) (fun E9 h9 hq => hq.elim)
        obtain ⟨rfl, hz⟩ := hq
        show wp _ _ 36 [(0, .ref (A 3 0 0)), (1, .int y1)] [.int v8] _ _ _
        refine w_if_ne 48 dX3_addOtherColumns_36 rfl rfl (fun q36 => ?_) (fun q36 => ?_)
        · have hr := bf q36 hr
          refine w_iinc 1 (y1 + 1) [(1, .int (y1 + 1)), (0, .ref (A 3 0 0))] dX3_addOtherColumns_48 rfl rfl rfl (by decide) rfl ?_
          refine w_goto 2 dX3_addOtherColumns_51 rfl ?_
          refine w_lv [(0, .ref (A 3 0 0)), (1, .int (y1 + 1))] [1, 0] rfl ?_
          exact w_X3_addOtherColumns_2 hf hrm   n (y1 + 1) _ _ hz  hr
        · have hr := bt q36 hr
          refine w_aload_n 0 dX3_addOtherColumns_39 rfl rfl rfl ?_
          refine w_iconst 5 dX3_addOtherColumns_40 rfl rfl ?_
          refine w_aload_n 0 dX3_addOtherColumns_41 rfl rfl rfl ?_
          refine g_X3_170 dX3_addOtherColumns_42 rfl (hz.o3 rfl) (hz.i204 rfl) ?_
          obtain ⟨v12, σ13, e14, hr⟩ := bq_some hr
          refine c_X3_63 (As := [.int 5, .int (zI σ9 204 0 0 0)]) (rest := []) (fun l => s_X3_report  hz e14 l) hrm dX3_addOtherColumns_45 rfl rfl (Nat.le_of_ble_eq_true rfl) (Nat.le_of_ble_eq_true rfl) (Nat.le_of_ble_eq_true rfl) (hz.o3 rfl) rfl (Nat.le_of_ble_eq_true rfl) (fun vr h2 hq => ?_) (fun E9 h9 hq => hq.elim)
          obtain ⟨rfl, hz⟩ := hq
          show wp _ _ 48 [(0, .ref (A 3 0 0)), (1, .int y1)] [] _ _ _
          refine w_iinc 1 (y1 + 1) [(1, .int (y1 + 1)), (0, .ref (A 3 0 0))] dX3_addOtherColumns_48 rfl rfl rfl (by decide) rfl ?_
          refine w_goto 2 dX3_addOtherColumns_51 rfl ?_
          refine w_lv [(0, .ref (A 3 0 0)), (1, .int (y1 + 1))] [1, 0] rfl ?_
          exact w_X3_addOtherColumns_2 hf hrm   n (y1 + 1) _ _ hz  hr
set_option maxRecDepth 20000 in
set_option maxHeartbeats 4000000 in
theorem s_X3_addOtherColumns {A : Nat → Nat → Nat → Nat} {h : Hp} {σ ρ σ' : Zs} {v : Unit}   (hz : Rp A h σ ρ) (hr : fX3_addOtherColumns  σ = some (v, σ')) : ∀ l : Launch, Sp l mX3_addOtherColumns 1 0 0 [.ref (A 3 0 0)] h (QV A v σ' ρ) X0 := by
  intro l
  refine Sp.of rfl rfl (lv := [(0, .ref (A 3 0 0))]) (Nat.le_of_ble_eq_true rfl) rfl (fun x hf hrm => ?_)
  rw [fX3_addOtherColumns.eq_1] at hr
  refine w_iconst 0 dX3_addOtherColumns_0 rfl rfl ?_
  refine w_istore_n [(1, .int 0), (0, .ref (A 3 0 0))] dX3_addOtherColumns_1 rfl rfl (by decide) rfl ?_
  refine w_lv [(0, .ref (A 3 0 0)), (1, .int 0)] [1, 0] rfl ?_
  exact w_X3_addOtherColumns_2 hf hrm   FU 0 _ _ hz  hr

set_option maxRecDepth 20000 in
set_option maxHeartbeats 4000000 in
theorem w_X3_endStream_88 {A : Nat → Nat → Nat → Nat} {ρ σ' : Zs} {v : Unit} {x : Cxt}   (hf : m_fin 0 0 (QV A v σ' ρ) X0 x) (hrm : m_rm 2 0 0 x)  : ∀ (σ : Zs) (h : Hp), Rp A h σ ρ → fX3_endStream_88    σ = some (v, σ') → wp x mX3_endStream 88 [(0, .ref (A 3 0 0))] [] h 0 0 := by
  intro σ h hz hr
  rw [fX3_endStream_88.eq_1] at hr
  refine w_aload_n 0 dX3_endStream_88 rfl rfl rfl ?_
  refine g_X3_53 dX3_endStream_89 rfl (hz.o3 rfl) (hz.i192 rfl) ?_
  refine w_if_ne 123 dX3_endStream_92 rfl rfl (fun q92 => ?_) (fun q92 => ?_)
  · have hr := bf q92 hr
    refine w_vret hf dX3_endStream_123 rfl (Nat.le_of_ble_eq_true rfl) (Nat.le_of_ble_eq_true rfl) ?_
    obtain ⟨rfl, rfl⟩ := ret_inj hr
    exact ⟨rfl, hz⟩
  · have hr := bt q92 hr
    refine w_aload_n 0 dX3_endStream_95 rfl rfl rfl ?_
    have hv1 := hz.w195 (p := 0) (s := 0) rfl
    refine g_X3_25 dX3_endStream_96 rfl (hz.o3 rfl) (hz.r195 rfl) ?_
    refine w_aload_n 0 dX3_endStream_99 rfl rfl rfl ?_
    refine g_X3_9 dX3_endStream_100 rfl (hz.o3 rfl) (hz.r200 rfl) ?_
    refine w_aload_n 0 dX3_endStream_103 rfl rfl rfl ?_
    refine g_X3_72 dX3_endStream_104 rfl (hz.o3 rfl) (hz.i201 rfl) ?_
    obtain ⟨v2, σ3, e4, hr⟩ := bq_some hr
    refine c_X3_145 (As := [.ref (A 1224 0 0), .int (zI σ 201 0 0 0)]) (rest := []) (fun l => s_X7_setColumns hv1 hz e4 l) hrm dX3_endStream_107 rfl rfl (Nat.le_of_ble_eq_true rfl) (Nat.le_of_ble_eq_true rfl) (Nat.le_of_ble_eq_true rfl) (hz.o7 hv1) rfl (Nat.le_of_ble_eq_true rfl) (fun vr h2 hq => ?_) (fun E9 h9 hq => hq.elim)
    obtain ⟨rfl, hz⟩ := hq
    show wp _ _ 110 [(0, .ref (A 3 0 0))] [] _ _ _
    refine w_aload_n 0 dX3_endStream_110 rfl rfl rfl ?_
    have hv6 := hz.ww194 (p := 0) (s := 0) rfl
    refine g_X3_15 dX3_endStream_111 rfl (hz.o3 rfl) (hz.rr194 rfl) ?_
    refine w_dup dX3_endStream_114 rfl rfl ?_
    refine g_X3_43 dX3_endStream_115 rfl (hz.o5 hv6) (hz.i321 hv6) ?_
    refine w_iconst 1 dX3_endStream_118 rfl rfl ?_
    refine w_iadd dX3_endStream_119 rfl ?_
    refine p_X3_43 dX3_endStream_120 rfl (hz.o5 hv6) ?_
    obtain ⟨σ7, e8, hr⟩ := lt_e hr
    have hz := (hz.s321 (v := ((zI σ3 321 ((zR σ3 194 0 0 0).1) 0 0) + 1)) hv6).ts e8
    refine w_vret hf dX3_endStream_123 rfl (Nat.le_of_ble_eq_true rfl) (Nat.le_of_ble_eq_true rfl) ?_
    obtain ⟨rfl, rfl⟩ := ret_inj hr
    exact ⟨rfl, hz⟩
set_option maxRecDepth 20000 in
set_option maxHeartbeats 4000000 in
theorem w_X3_endStream_63 {A : Nat → Nat → Nat → Nat} {ρ σ' : Zs} {v : Unit} {x : Cxt}   (hf : m_fin 0 0 (QV A v σ' ρ) X0 x) (hrm : m_rm 2 0 0 x)  : ∀ (σ : Zs) (h : Hp), Rp A h σ ρ → fX3_endStream_63    σ = some (v, σ') → wp x mX3_endStream 63 [(0, .ref (A 3 0 0))] [] h 0 0 := by
  intro σ h hz hr
  rw [fX3_endStream_63.eq_1] at hr
  refine w_aload_n 0 dX3_endStream_63 rfl rfl rfl ?_
  refine g_X3_53 dX3_endStream_64 rfl (hz.o3 rfl) (hz.i192 rfl) ?_
  refine w_if_ne 88 dX3_endStream_67 rfl rfl (fun q67 => ?_) (fun q67 => ?_)
  · have hr := bf q67 hr
    refine w_lv [(0, .ref (A 3 0 0))] [0] rfl ?_
    exact w_X3_endStream_88 hf hrm    _ _ hz  hr
  · have hr := bt q67 hr
    refine w_aload_n 0 dX3_endStream_70 rfl rfl rfl ?_
    refine g_X3_72 dX3_endStream_71 rfl (hz.o3 rfl) (hz.i201 rfl) ?_
    refine w_bipush 6 dX3_endStream_74 rfl rfl ?_
    refine w_icmp_le 88 dX3_endStream_76 rfl rfl (fun q76 => ?_) (fun q76 => ?_)
    · have hr := bt q76 hr
      refine w_lv [(0, .ref (A 3 0 0))] [0] rfl ?_
      exact w_X3_endStream_88 hf hrm    _ _ hz  hr
    · have hr := bf q76 hr
      refine w_aload_n 0 dX3_endStream_79 rfl rfl rfl ?_
      refine w_iconst 4 dX3_endStream_80 rfl rfl ?_
      refine w_aload_n 0 dX3_endStream_81 rfl rfl rfl ?_
      refine g_X3_142 dX3_endStream_82 rfl (hz.o3 rfl) (hz.i202 rfl) ?_
      obtain ⟨v9, σ10, e11, hr⟩ := bq_some hr
      refine c_X3_63 (As := [.int 4, .int (zI σ 202 0 0 0)]) (rest := []) (fun l => s_X3_report  hz e11 l) hrm dX3_endStream_85 rfl rfl (Nat.le_of_ble_eq_true rfl) (Nat.le_of_ble_eq_true rfl) (Nat.le_of_ble_eq_true rfl) (hz.o3 rfl) rfl (Nat.le_of_ble_eq_true rfl) (fun vr h2 hq => ?_) (fun E9 h9 hq => hq.elim)
      obtain ⟨rfl, hz⟩ := hq
      show wp _ _ 88 [(0, .ref (A 3 0 0))] [] _ _ _
      refine w_lv [(0, .ref (A 3 0 0))] [0] rfl ?_
      exact w_X3_endStream_88 hf hrm    _ _ hz  hr
set_option maxRecDepth 20000 in
set_option maxHeartbeats 4000000 in
theorem s_X3_endStream {A : Nat → Nat → Nat → Nat} {h : Hp} {σ ρ σ' : Zs} {v : Unit}   (hz : Rp A h σ ρ) (hr : fX3_endStream  σ = some (v, σ')) : ∀ l : Launch, Sp l mX3_endStream 2 0 0 [.ref (A 3 0 0)] h (QV A v σ' ρ) X0 := by
  intro l
  refine Sp.of rfl rfl (lv := [(0, .ref (A 3 0 0))]) (Nat.le_of_ble_eq_true rfl) rfl (fun x hf hrm => ?_)
  rw [fX3_endStream.eq_1] at hr
  refine w_aload_n 0 dX3_endStream_0 rfl rfl rfl ?_
  refine g_X3_53 dX3_endStream_1 rfl (hz.o3 rfl) (hz.i192 rfl) ?_
  refine w_if_ne 41 dX3_endStream_4 rfl rfl (fun q4 => ?_) (fun q4 => ?_)
  · have hr := bf q4 hr
    refine w_aload_n 0 dX3_endStream_41 rfl rfl rfl ?_
    refine g_X3_53 dX3_endStream_42 rfl (hz.o3 rfl) (hz.i192 rfl) ?_
    refine w_if_ne 63 dX3_endStream_45 rfl rfl (fun q45 => ?_) (fun q45 => ?_)
    · have hr := bf q45 hr
      refine w_lv [(0, .ref (A 3 0 0))] [0] rfl ?_
      exact w_X3_endStream_63 hf hrm    _ _ hz  hr
    · have hr := bt q45 hr
      refine w_aload_n 0 dX3_endStream_48 rfl rfl rfl ?_
      have hv13 := hz.w195 (p := 0) (s := 0) rfl
      refine g_X3_25 dX3_endStream_49 rfl (hz.o3 rfl) (hz.r195 rfl) ?_
      refine g_X3_75 dX3_endStream_52 rfl (hz.o7 hv13) (hz.i449 hv13) ?_
      refine w_iconst 5 dX3_endStream_55 rfl rfl ?_
      refine w_icmp_ne 63 dX3_endStream_56 rfl rfl (fun q56 => ?_) (fun q56 => ?_)
      · have hr := bf q56 hr
        refine w_lv [(0, .ref (A 3 0 0))] [0] rfl ?_
        exact w_X3_endStream_63 hf hrm    _ _ hz  hr
      · have hr := bt q56 hr
        refine w_aload_n 0 dX3_endStream_59 rfl rfl rfl ?_
        obtain ⟨v14, σ15, e16, hr⟩ := bq_some hr
        refine c_X3_139 (As := []) (rest := []) (fun l => s_X3_addOtherColumns  hz e16 l) hrm dX3_endStream_60 rfl rfl (Nat.le_of_ble_eq_true rfl) (Nat.le_of_ble_eq_true rfl) (Nat.le_of_ble_eq_true rfl) (hz.o3 rfl) rfl (Nat.le_of_ble_eq_true rfl) (fun vr h2 hq => ?_) (fun E9 h9 hq => hq.elim)
        obtain ⟨rfl, hz⟩ := hq
        show wp _ _ 63 [(0, .ref (A 3 0 0))] [] _ _ _
        refine w_lv [(0, .ref (A 3 0 0))] [0] rfl ?_
        exact w_X3_endStream_63 hf hrm    _ _ hz  hr
  · have hr := bt q4 hr
    refine w_aload_n 0 dX3_endStream_7 rfl rfl rfl ?_
    have hv18 := hz.w195 (p := 0) (s := 0) rfl
    refine g_X3_25 dX3_endStream_8 rfl (hz.o3 rfl) (hz.r195 rfl) ?_
    refine g_X3_75 dX3_endStream_11 rfl (hz.o7 hv18) (hz.i449 hv18) ?_
    refine w_iconst 4 dX3_endStream_14 rfl rfl ?_
    refine w_icmp_ne 41 dX3_endStream_15 rfl rfl (fun q15 => ?_) (fun q15 => ?_)
    · have hr := bf q15 hr
      refine w_aload_n 0 dX3_endStream_41 rfl rfl rfl ?_
      refine g_X3_53 dX3_endStream_42 rfl (hz.o3 rfl) (hz.i192 rfl) ?_
      refine w_if_ne 63 dX3_endStream_45 rfl rfl (fun q45 => ?_) (fun q45 => ?_)
      · have hr := bf q45 hr
        refine w_lv [(0, .ref (A 3 0 0))] [0] rfl ?_
        exact w_X3_endStream_63 hf hrm    _ _ hz  hr
      · have hr := bt q45 hr
        refine w_aload_n 0 dX3_endStream_48 rfl rfl rfl ?_
        have hv19 := hz.w195 (p := 0) (s := 0) rfl
        refine g_X3_25 dX3_endStream_49 rfl (hz.o3 rfl) (hz.r195 rfl) ?_
        refine g_X3_75 dX3_endStream_52 rfl (hz.o7 hv19) (hz.i449 hv19) ?_
        refine w_iconst 5 dX3_endStream_55 rfl rfl ?_
        refine w_icmp_ne 63 dX3_endStream_56 rfl rfl (fun q56 => ?_) (fun q56 => ?_)
        · have hr := bf q56 hr
          refine w_lv [(0, .ref (A 3 0 0))] [0] rfl ?_
          exact w_X3_endStream_63 hf hrm    _ _ hz  hr
        · have hr := bt q56 hr
          refine w_aload_n 0 dX3_endStream_59 rfl rfl rfl ?_
          obtain ⟨v20, σ21, e22, hr⟩ := bq_some hr
          refine c_X3_139 (As := []) (rest := []) (fun l => s_X3_addOtherColumns  hz e22 l) hrm dX3_endStream_60 rfl rfl (Nat.le_of_ble_eq_true rfl) (Nat.le_of_ble_eq_true rfl) (Nat.le_of_ble_eq_true rfl) (hz.o3 rfl) rfl (Nat.le_of_ble_eq_true rfl) (fun vr h2 hq => ?_) (fun E9 h9 hq => hq.elim)
          obtain ⟨rfl, hz⟩ := hq
          show wp _ _ 63 [(0, .ref (A 3 0 0))] [] _ _ _
          refine w_lv [(0, .ref (A 3 0 0))] [0] rfl ?_
          exact w_X3_endStream_63 hf hrm    _ _ hz  hr
    · have hr := bt q15 hr
      refine w_aload_n 0 dX3_endStream_18 rfl rfl rfl ?_
      have hv24 := hz.w198 (p := 0) (s := 0) rfl
      refine g_X3_29 dX3_endStream_19 rfl (hz.o3 rfl) (hz.r198 rfl) ?_
      refine w_aload_n 0 dX3_endStream_22 rfl rfl rfl ?_
      have hv25 := hz.w199 (p := 0) (s := 0) rfl
      refine g_X3_32 dX3_endStream_23 rfl (hz.o3 rfl) (hz.r199 rfl) ?_
      obtain ⟨v26, σ27, e28, hr⟩ := bq_some hr
      refine c_X3_135 (As := [.ref (A 7 (zR σ 199 0 0 0).1 (zR σ 199 0 0 0).2)]) (rest := []) (fun l => s_X7_hasColumnsOf hv24 hv25 hz e28 l) hrm dX3_endStream_26 rfl rfl (Nat.le_of_ble_eq_true rfl) (Nat.le_of_ble_eq_true rfl) (Nat.le_of_ble_eq_true rfl) (hz.o7 hv24) rfl (Nat.le_of_ble_eq_true rfl) (fun vr h2 hq => ?_) (fun E9 h9 hq => hq.elim)
      obtain ⟨rfl, hz⟩ := hq
      show wp _ _ 29 [(0, .ref (A 3 0 0))] [.int v26] _ _ _
      refine w_if_ne 41 dX3_endStream_29 rfl rfl (fun q29 => ?_) (fun q29 => ?_)
      · have hr := bf q29 hr
        refine w_aload_n 0 dX3_endStream_41 rfl rfl rfl ?_
        refine g_X3_53 dX3_endStream_42 rfl (hz.o3 rfl) (hz.i192 rfl) ?_
        refine w_if_ne 63 dX3_endStream_45 rfl rfl (fun q45 => ?_) (fun q45 => ?_)
        · have hr := bf q45 hr
          refine w_lv [(0, .ref (A 3 0 0))] [0] rfl ?_
          exact w_X3_endStream_63 hf hrm    _ _ hz  hr
        · have hr := bt q45 hr
          refine w_aload_n 0 dX3_endStream_48 rfl rfl rfl ?_
          have hv30 := hz.w195 (p := 0) (s := 0) rfl
          refine g_X3_25 dX3_endStream_49 rfl (hz.o3 rfl) (hz.r195 rfl) ?_
          refine g_X3_75 dX3_endStream_52 rfl (hz.o7 hv30) (hz.i449 hv30) ?_
          refine w_iconst 5 dX3_endStream_55 rfl rfl ?_
          refine w_icmp_ne 63 dX3_endStream_56 rfl rfl (fun q56 => ?_) (fun q56 => ?_)
          · have hr := bf q56 hr
            refine w_lv [(0, .ref (A 3 0 0))] [0] rfl ?_
            exact w_X3_endStream_63 hf hrm    _ _ hz  hr
          · have hr := bt q56 hr
            refine w_aload_n 0 dX3_endStream_59 rfl rfl rfl ?_
            obtain ⟨v31, σ32, e33, hr⟩ := bq_some hr
            refine c_X3_139 (As := []) (rest := []) (fun l => s_X3_addOtherColumns  hz e33 l) hrm dX3_endStream_60 rfl rfl (Nat.le_of_ble_eq_true rfl) (Nat.le_of_ble_eq_true rfl) (Nat.le_of_ble_eq_true rfl) (hz.o3 rfl) rfl (Nat.le_of_ble_eq_true rfl) (fun vr h2 hq => ?_) (fun E9 h9 hq => hq.elim)
            obtain ⟨rfl, hz⟩ := hq
            show wp _ _ 63 [(0, .ref (A 3 0 0))] [] _ _ _
            refine w_lv [(0, .ref (A 3 0 0))] [0] rfl ?_
            exact w_X3_endStream_63 hf hrm    _ _ hz  hr
      · have hr := bt q29 hr
        refine w_aload_n 0 dX3_endStream_32 rfl rfl rfl ?_
        refine w_iconst 3 dX3_endStream_33 rfl rfl ?_
        refine w_aload_n 0 dX3_endStream_34 rfl rfl rfl ?_
        refine g_X3_78 dX3_endStream_35 rfl (hz.o3 rfl) (hz.i203 rfl) ?_
        obtain ⟨v35, σ36, e37, hr⟩ := bq_some hr
        refine c_X3_63 (As := [.int 3, .int (zI σ27 203 0 0 0)]) (rest := []) (fun l => s_X3_report  hz e37 l) hrm dX3_endStream_38 rfl rfl (Nat.le_of_ble_eq_true rfl) (Nat.le_of_ble_eq_true rfl) (Nat.le_of_ble_eq_true rfl) (hz.o3 rfl) rfl (Nat.le_of_ble_eq_true rfl) (fun vr h2 hq => ?_) (fun E9 h9 hq => hq.elim)
        obtain ⟨rfl, hz⟩ := hq
        show wp _ _ 41 [(0, .ref (A 3 0 0))] [] _ _ _
        refine w_aload_n 0 dX3_endStream_41 rfl rfl rfl ?_
        refine g_X3_53 dX3_endStream_42 rfl (hz.o3 rfl) (hz.i192 rfl) ?_
        refine w_if_ne 63 dX3_endStream_45 rfl rfl (fun q45 => ?_) (fun q45 => ?_)
        · have hr := bf q45 hr
          refine w_lv [(0, .ref (A 3 0 0))] [0] rfl ?_
          exact w_X3_endStream_63 hf hrm    _ _ hz  hr
        · have hr := bt q45 hr
          refine w_aload_n 0 dX3_endStream_48 rfl rfl rfl ?_
          have hv39 := hz.w195 (p := 0) (s := 0) rfl
          refine g_X3_25 dX3_endStream_49 rfl (hz.o3 rfl) (hz.r195 rfl) ?_
          refine g_X3_75 dX3_endStream_52 rfl (hz.o7 hv39) (hz.i449 hv39) ?_
          refine w_iconst 5 dX3_endStream_55 rfl rfl ?_
          refine w_icmp_ne 63 dX3_endStream_56 rfl rfl (fun q56 => ?_) (fun q56 => ?_)
          · have hr := bf q56 hr
            refine w_lv [(0, .ref (A 3 0 0))] [0] rfl ?_
            exact w_X3_endStream_63 hf hrm    _ _ hz  hr
          · have hr := bt q56 hr
            refine w_aload_n 0 dX3_endStream_59 rfl rfl rfl ?_
            obtain ⟨v40, σ41, e42, hr⟩ := bq_some hr
            refine c_X3_139 (As := []) (rest := []) (fun l => s_X3_addOtherColumns  hz e42 l) hrm dX3_endStream_60 rfl rfl (Nat.le_of_ble_eq_true rfl) (Nat.le_of_ble_eq_true rfl) (Nat.le_of_ble_eq_true rfl) (hz.o3 rfl) rfl (Nat.le_of_ble_eq_true rfl) (fun vr h2 hq => ?_) (fun E9 h9 hq => hq.elim)
            obtain ⟨rfl, hz⟩ := hq
            show wp _ _ 63 [(0, .ref (A 3 0 0))] [] _ _ _
            refine w_lv [(0, .ref (A 3 0 0))] [0] rfl ?_
            exact w_X3_endStream_63 hf hrm    _ _ hz  hr

