/-! LIFTED: 26.engine -/
noncomputable def fX1_inputOf (p1 : Nat) (s1 : Nat) (x2 : Int32) (σ : Zs) : Option ((Option (Nat × Nat)) × Zs) :=
  if gi x2 2 then if (zI σ 1476 p1 s1 (Int32.toNatClampNeg x2)) < 0 then (some (none, σ)) else (if (zI σ 321 ((zR σ 64 0 0 0).1) 0 0) ≤ (zI σ 1476 p1 s1 (Int32.toNatClampNeg x2)) then (some (none, σ)) else (if gi (zI σ 1476 p1 s1 (Int32.toNatClampNeg x2)) 12 then some (some ((zR σ 64 0 0 0).1, (Int32.toNatClampNeg (zI σ 1476 p1 s1 (Int32.toNatClampNeg x2)))), σ) else none)) else none

noncomputable def fX1_accept (x1 : Int32) (p2 : Nat) (s2 : Nat) (σ : Zs) : Option (Unit × Zs) :=
  if gi x1 12 then bq (fX8_add ((zR σ 64 0 0 0).1) (Int32.toNatClampNeg x1) p2 s2 σ) fun v4 σ5 => if v4 = 0 then (lt (sI σ5 67 0 0 0 ((zI σ5 67 0 0 0) + 1)) fun σ8 => some ((), σ8)) else (lt (sI σ5 70 0 0 0 ((zI σ5 70 0 0 0) + 1)) fun σ10 => some ((), σ10)) else none

noncomputable def fX1_hold (x1 : Int32) (x2 : Int32) (p3 : Nat) (s3 : Nat) (σ : Zs) : Option (Unit × Zs) :=
  if (zI σ 66 0 0 0) < 60 then (if gi (zI σ 66 0 0 0) 60 then bq (fX6_copyFrom ((zR σ 1089 0 0 (Int32.toNatClampNeg (zI σ 66 0 0 0))).1) ((zR σ 1089 0 0 (Int32.toNatClampNeg (zI σ 66 0 0 0))).2) p3 s3 σ) fun v3 σ4 => if gi (zI σ4 66 0 0 0) 60 then lt (sI σ4 387 ((zR σ4 1089 0 0 (Int32.toNatClampNeg (zI σ4 66 0 0 0))).1) ((zR σ4 1089 0 0 (Int32.toNatClampNeg (zI σ4 66 0 0 0))).2) 0 x1) fun σ9 => if gi (zI σ9 66 0 0 0) 60 then lt (sI σ9 388 ((zR σ9 1089 0 0 (Int32.toNatClampNeg (zI σ9 66 0 0 0))).1) ((zR σ9 1089 0 0 (Int32.toNatClampNeg (zI σ9 66 0 0 0))).2) 0 x2) fun σ13 => lt (sI σ13 66 0 0 0 ((zI σ13 66 0 0 0) + 1)) fun σ15 => some ((), σ15) else none else none else none) else (lt (sI σ 67 0 0 0 ((zI σ 67 0 0 0) + 1)) fun σ17 => some ((), σ17))

noncomputable def fX1_give_2 (x1 : Int32) (p2 : Nat) (s2 : Nat)  : Nat → Int32 → Zs → Option (Unit × Zs)
  | 0, _, _ => none
  | n + 1, y3, σ =>
    if (zI σ 323 ((zR σ 64 0 0 0).1) 0 0) ≤ y3 then (bq (fX1_accept x1 p2 s2 σ) fun v2 σ3 => some ((), σ3)) else (if gi y3 8 then if (zI σ 0 ((zR σ 64 0 0 0).1) (Int32.toNatClampNeg y3) 0) = x1 then (bq (fX5_reckon ((zR σ 64 0 0 0).1) (zI σ 2 ((zR σ 64 0 0 0).1) (Int32.toNatClampNeg y3) 0) (zI σ 3 ((zR σ 64 0 0 0).1) (Int32.toNatClampNeg y3) 0) p2 s2 σ) fun v10 σ11 => if ((lg_cmp v10 0) : Int32) = 0 then (lt (sI σ11 4 ((zR σ 64 0 0 0).1) (Int32.toNatClampNeg y3) 0 ((zI σ11 4 ((zR σ 64 0 0 0).1) (Int32.toNatClampNeg y3) 0) + 1)) fun σ14 => if (zI σ14 1 ((zR σ 64 0 0 0).1) (Int32.toNatClampNeg y3) 0) = 149 then (lt (sI σ14 68 0 0 0 1) fun σ20 => if (zI σ20 1 ((zR σ 64 0 0 0).1) (Int32.toNatClampNeg y3) 0) = 147 then (some ((), σ20)) else (bq (fX1_hold x1 y3 p2 s2 σ20) fun v22 σ23 => some ((), σ23))) else (if (zI σ14 1 ((zR σ 64 0 0 0).1) (Int32.toNatClampNeg y3) 0) = 147 then (some ((), σ14)) else (bq (fX1_hold x1 y3 p2 s2 σ14) fun v16 σ17 => some ((), σ17)))) else (fX1_give_2 x1 p2 s2  n (y3 + 1) σ11)) else (fX1_give_2 x1 p2 s2  n (y3 + 1) σ) else none)
noncomputable def fX1_give (x1 : Int32) (p2 : Nat) (s2 : Nat) (σ : Zs) : Option (Unit × Zs) :=
  fX1_give_2 x1 p2 s2  FU 0 σ

noncomputable def fX1_removeHeld_23 (x1 : Int32)  : Nat → Nat → Nat → Int32 → Zs → Option (Int32 × Zs)
  | 0, _, _, _, _ => none
  | n + 1, yp2, ys2, y3, σ =>
    if ((zI σ 66 0 0 0) - 1) ≤ y3 then (if gi ((zI σ 66 0 0 0) - 1) 60 then lt (sR σ 1089 0 0 (Int32.toNatClampNeg ((zI σ 66 0 0 0) - 1)) (yp2, ys2)) fun σ4 => lt (sI σ4 66 0 0 0 ((zI σ4 66 0 0 0) - 1)) fun σ6 => some (1, σ6) else none) else (if gi (y3 + 1) 60 then if gi y3 60 then lt (sR σ 1089 0 0 (Int32.toNatClampNeg y3) ((zR σ 1089 0 0 (Int32.toNatClampNeg (y3 + 1))).1, (zR σ 1089 0 0 (Int32.toNatClampNeg (y3 + 1))).2)) fun σ11 => fX1_removeHeld_23 x1  n yp2 ys2 (y3 + 1) σ11 else none else none)
noncomputable def fX1_removeHeld (x1 : Int32) (σ : Zs) : Option (Int32 × Zs) :=
  if x1 < 0 then (some (0, σ)) else (if x1 < (zI σ 66 0 0 0) then (if gi x1 60 then fX1_removeHeld_23 x1  FU ((zR σ 1089 0 0 (Int32.toNatClampNeg x1)).1) ((zR σ 1089 0 0 (Int32.toNatClampNeg x1)).2) x1 σ else none) else (some (0, σ)))

noncomputable def fX1_isFirst_90 (p1 : Nat) (s1 : Nat) (p2 : Nat) (s2 : Nat) (x3 : Int32)  (y4 : Int32) (σ : Zs) : Option (Int32 × Zs) :=
  if 200 ≤ x3 then (if y4 = 0 ∨ y4 = 1 then some (y4, σ) else none) else (if gi x3 200 then if y4 = 0 ∨ y4 = 1 then lt (sI σ 1487 p1 s1 (Int32.toNatClampNeg x3) y4) fun σ4 => if y4 = 0 ∨ y4 = 1 then some (y4, σ4) else none else none else none)
noncomputable def fX1_isFirst_6 (p1 : Nat) (s1 : Nat) (p2 : Nat) (s2 : Nat) (x3 : Int32)  : Nat → Int32 → Int32 → Zs → Option (Int32 × Zs)
  | 0, _, _, _ => none
  | n + 1, y4, y5, σ =>
    if x3 ≤ y5 then (fX1_isFirst_90 p1 s1 p2 s2 x3  y4 σ) else (if 200 ≤ y5 then (fX1_isFirst_90 p1 s1 p2 s2 x3  y4 σ) else (if gi y5 200 then if (zI σ 1487 p1 s1 (Int32.toNatClampNeg y5)) = 0 then (fX1_isFirst_6 p1 s1 p2 s2 x3  n y4 (y5 + 1) σ) else (bq (fX8_numberOf p2 s2 y5 (zI σ 453 p1 s1 0) σ) fun v8 σ9 => bq (fX6_numberAt 0 0 (zI σ9 453 p1 s1 0) σ9) fun v12 σ13 => if ((lg_cmp v8 v12) : Int32) = 0 then (bq (fX8_timeOf p2 s2 y5 σ13) fun v16 σ17 => if (zI σ17 455 p1 s1 0) < ((p_abs (v16 - (zI σ17 384 0 0 0))) : Int32) then (fX1_isFirst_6 p1 s1 p2 s2 x3  n y4 (y5 + 1) σ17) else (fX1_isFirst_6 p1 s1 p2 s2 x3  n 0 (y5 + 1) σ17)) else (fX1_isFirst_6 p1 s1 p2 s2 x3  n y4 (y5 + 1) σ13)) else none))
noncomputable def fX1_isFirst (p1 : Nat) (s1 : Nat) (p2 : Nat) (s2 : Nat) (x3 : Int32) (σ : Zs) : Option (Int32 × Zs) :=
  fX1_isFirst_6 p1 s1 p2 s2 x3  FU 1 0 σ

noncomputable def fX1_makeJoined_29 (p1 : Nat) (s1 : Nat) (p2 : Nat) (s2 : Nat) (p3 : Nat) (s3 : Nat)  : Nat → Int32 → Zs → Option (Unit × Zs)
  | 0, _, _ => none
  | n + 1, y4, σ =>
    if (zI σ 385 p3 s3 0) ≤ y4 then (some ((), σ)) else (if y4 = (zI σ 454 p1 s1 0) then (fX1_makeJoined_29 p1 s1 p2 s2 p3 s3  n (y4 + 1) σ) else (bq (fX6_numberAt p3 s3 y4 σ) fun v7 σ8 => bq (fX6_append 2 0 v7 σ8) fun v11 σ12 => fX1_makeJoined_29 p1 s1 p2 s2 p3 s3  n (y4 + 1) σ12))
noncomputable def fX1_makeJoined (p1 : Nat) (s1 : Nat) (p2 : Nat) (s2 : Nat) (p3 : Nat) (s3 : Nat) (σ : Zs) : Option (Unit × Zs) :=
  bq (fX6_copyFrom 2 0 p2 s2 σ) fun v1 σ2 => lt (sI σ2 384 2 0 0 (p_max (zI σ2 384 p2 s2 0) (zI σ2 384 p3 s3 0))) fun σ5 => fX1_makeJoined_29 p1 s1 p2 s2 p3 s3  FU 0 σ5

noncomputable def fX1_joinNewRow_173 (x1 : Int32) (p2 : Nat) (s2 : Nat) (x3 : Int32) (k89 : Nat → Nat → Int32 → Int32 → Int64 → Int32 → Zs → Option (Unit × Zs)) (yp4 : Nat) (ys4 : Nat) (y5 : Int32) (y6 : Int32) (y7 : Int64) (y9 : Int32) (zp0 : Nat) (zs0 : Nat) (zp1 : Nat) (zs1 : Nat) (σ : Zs) : Option (Unit × Zs) :=
  if x3 = 0 then (bq (fX1_makeJoined zp1 zs1 zp0 zs0 0 0 σ) fun v23 σ24 => bq (fX1_give x1 2 0 σ24) fun v27 σ28 => k89 yp4 ys4 y5 y6 y7 (y9 + 1) σ28) else (bq (fX1_makeJoined zp1 zs1 zp0 zs0 1 0 σ) fun v31 σ32 => bq (fX1_give x1 2 0 σ32) fun v35 σ36 => k89 yp4 ys4 y5 y6 y7 (y9 + 1) σ36)
noncomputable def fX1_joinNewRow_89 (x1 : Int32) (p2 : Nat) (s2 : Nat) (x3 : Int32)  : Nat → Nat → Nat → Int32 → Int32 → Int64 → Int32 → Zs → Option (Unit × Zs)
  | 0, _, _, _, _, _, _, _ => none
  | n + 1, yp4, ys4, y5, y6, y7, y9, σ =>
    if y5 ≤ y9 then (some ((), σ)) else (bq (fX8_numberOf yp4 ys4 y9 y6 σ) fun v11 σ12 => if ((lg_cmp v11 y7) : Int32) = 0 then (bq (fX8_timeOf yp4 ys4 y9 σ12) fun v15 σ16 => if (zI σ16 455 p2 s2 0) < ((p_abs (v15 - (zI σ16 384 0 0 0))) : Int32) then (fX1_joinNewRow_89 x1 p2 s2 x3  n yp4 ys4 y5 y6 y7 (y9 + 1) σ16) else (bq (fX8_copyTo yp4 ys4 y9 1 0 σ16) fun v19 σ20 => if x3 = 0 then (fX1_joinNewRow_173 x1 p2 s2 x3 (fun byp4 bys4 by5 by6 by7 by9 σb => fX1_joinNewRow_89 x1 p2 s2 x3  n byp4 bys4 by5 by6 by7 by9 σb) yp4 ys4 y5 y6 y7 y9 1 0 p2 s2 σ20) else (fX1_joinNewRow_173 x1 p2 s2 x3 (fun byp4 bys4 by5 by6 by7 by9 σb => fX1_joinNewRow_89 x1 p2 s2 x3  n byp4 bys4 by5 by6 by7 by9 σb) yp4 ys4 y5 y6 y7 y9 0 0 p2 s2 σ20))) else (fX1_joinNewRow_89 x1 p2 s2 x3  n yp4 ys4 y5 y6 y7 (y9 + 1) σ12))
noncomputable def fX1_joinNewRow_60 (x1 : Int32) (p2 : Nat) (s2 : Nat) (x3 : Int32)  (yp4 : Nat) (ys4 : Nat) (y5 : Int32) (z0 : Int32) (σ : Zs) : Option (Unit × Zs) :=
  if x3 = 0 then (bq (fX6_numberAt 0 0 (zI σ 454 p2 s2 0) σ) fun v7 σ8 => fX1_joinNewRow_89 x1 p2 s2 x3  FU yp4 ys4 y5 z0 v7 0 σ8) else (bq (fX6_numberAt 0 0 (zI σ 453 p2 s2 0) σ) fun v39 σ40 => fX1_joinNewRow_89 x1 p2 s2 x3  FU yp4 ys4 y5 z0 v39 0 σ40)
noncomputable def fX1_joinNewRow_11 (x1 : Int32) (p2 : Nat) (s2 : Nat) (x3 : Int32)  (z0 : Int32) (zp1 : Nat) (zs1 : Nat) (σ : Zs) : Option (Unit × Zs) :=
  bq (fX1_inputOf zp1 zs1 z0 σ) fun v1 σ2 => nn v1 (some ((), σ2)) fun u5 => if x3 = 0 then (if x3 = 0 then (fX1_joinNewRow_60 x1 p2 s2 x3  u5.1 u5.2 (zI σ2 512 u5.1 u5.2 0) (zI σ2 453 p2 s2 0) σ2) else (fX1_joinNewRow_60 x1 p2 s2 x3  u5.1 u5.2 (zI σ2 512 u5.1 u5.2 0) (zI σ2 454 p2 s2 0) σ2)) else (if gi 1 2 then if x3 = 0 then (fX1_joinNewRow_60 x1 p2 s2 x3  u5.1 u5.2 (zI σ2 1486 p2 s2 (Int32.toNatClampNeg 1)) (zI σ2 453 p2 s2 0) σ2) else (fX1_joinNewRow_60 x1 p2 s2 x3  u5.1 u5.2 (zI σ2 1486 p2 s2 (Int32.toNatClampNeg 1)) (zI σ2 454 p2 s2 0) σ2) else none)
noncomputable def fX1_joinNewRow (x1 : Int32) (p2 : Nat) (s2 : Nat) (x3 : Int32) (σ : Zs) : Option (Unit × Zs) :=
  if x3 = 0 then (fX1_joinNewRow_11 x1 p2 s2 x3  0 p2 s2 σ) else (fX1_joinNewRow_11 x1 p2 s2 x3  1 p2 s2 σ)

noncomputable def fX1_enterWindow_233 (x1 : Int32) (x2 : Int32)  (yp3 : Nat) (ys3 : Nat) (y5 : Int32) (yp6 : Nat) (ys6 : Nat) (y7 : Int32) (σ : Zs) : Option (Int32 × Zs) :=
  bq (fX10_copyTo yp6 ys6 y7 (zI σ 455 yp3 ys3 0) ((zI σ 450 yp3 ys3 0) - 2) 2 0 σ) fun v17 σ18 => if y5 = 0 then (if x2 = 0 then (some (0, σ18)) else (some (1, σ18))) else (some (1, σ18))
noncomputable def fX1_enterWindow_205 (x1 : Int32) (x2 : Int32) (k147 : Nat → Nat → Int32 → Nat → Nat → Int32 → Int32 → Zs → Option (Int32 × Zs)) (yp3 : Nat) (ys3 : Nat) (y5 : Int32) (yp6 : Nat) (ys6 : Nat) (y7 : Int32) (y8 : Int32) (z0 : Int64) (σ : Zs) : Option (Int32 × Zs) :=
  if gi y8 6 then bq (fX10_addTo yp6 ys6 y7 (y8 - 2) (zI σ 1483 yp3 ys3 (Int32.toNatClampNeg y8)) z0 σ) fun v30 σ31 => k147 yp3 ys3 y5 yp6 ys6 y7 (y8 + 1) σ31 else none
noncomputable def fX1_enterWindow_147 (x1 : Int32) (x2 : Int32)  : Nat → Nat → Nat → Int32 → Nat → Nat → Int32 → Int32 → Zs → Option (Int32 × Zs)
  | 0, _, _, _, _, _, _, _, _ => none
  | n + 1, yp3, ys3, y5, yp6, ys6, y7, y8, σ =>
    if (zI σ 450 yp3 ys3 0) ≤ y8 then (fX1_enterWindow_233 x1 x2  yp3 ys3 y5 yp6 ys6 y7 σ) else (if 6 ≤ y8 then (fX1_enterWindow_233 x1 x2  yp3 ys3 y5 yp6 ys6 y7 σ) else (if gi y8 6 then if (zI σ 1483 yp3 ys3 (Int32.toNatClampNeg y8)) = 151 then (fX1_enterWindow_205 x1 x2 (fun byp3 bys3 by5 byp6 bys6 by7 by8 σb => fX1_enterWindow_147 x1 x2  n byp3 bys3 by5 byp6 bys6 by7 by8 σb) yp3 ys3 y5 yp6 ys6 y7 y8 0 σ) else (if gi y8 6 then if gi y8 6 then bq (fX5_reckon ((zR σ 64 0 0 0).1) (zI σ 1481 yp3 ys3 (Int32.toNatClampNeg y8)) (zI σ 1482 yp3 ys3 (Int32.toNatClampNeg y8)) 0 0 σ) fun v25 σ26 => fX1_enterWindow_205 x1 x2 (fun byp3 bys3 by5 byp6 bys6 by7 by8 σb => fX1_enterWindow_147 x1 x2  n byp3 bys3 by5 byp6 bys6 by7 by8 σb) yp3 ys3 y5 yp6 ys6 y7 y8 v25 σ26 else none else none) else none))
noncomputable def fX1_enterWindow_90 (x1 : Int32) (x2 : Int32)  (yp3 : Nat) (ys3 : Nat) (y4 : Int32) (z0 : Int32) (σ : Zs) : Option (Int32 × Zs) :=
  bq (fX6_numberAt 0 0 (zI σ 453 yp3 ys3 0) σ) fun v5 σ6 => bq (fX10_placeFor yp3 ys3 v5 y4 z0 σ6) fun v9 σ10 => if 0 ≤ v9 then (bq (fX10_countRow yp3 ys3 v9 σ10) fun v13 σ14 => fX1_enterWindow_147 x1 x2  FU yp3 ys3 z0 yp3 ys3 v9 2 σ14) else (lt (sI σ10 67 0 0 0 ((zI σ10 67 0 0 0) + 1)) fun σ34 => some (0, σ34))
noncomputable def fX1_enterWindow (x1 : Int32) (x2 : Int32) (σ : Zs) : Option (Int32 × Zs) :=
  if gi x1 12 then if 0 < (zI σ 455 ((zR σ 64 0 0 0).1) (Int32.toNatClampNeg x1) 0) then (if ¬ ((zI σ 455 ((zR σ 64 0 0 0).1) (Int32.toNatClampNeg x1) 0) : Int32) = 0 then if x2 = 0 then (if (zI σ 461 ((zR σ 64 0 0 0).1) (Int32.toNatClampNeg x1) 0) < ((((zI σ 384 0 0 0) - ((zI σ 384 0 0 0) - (zI σ 384 0 0 0) / (zI σ 455 ((zR σ 64 0 0 0).1) (Int32.toNatClampNeg x1) 0) * (zI σ 455 ((zR σ 64 0 0 0).1) (Int32.toNatClampNeg x1) 0))) + (zI σ 455 ((zR σ 64 0 0 0).1) (Int32.toNatClampNeg x1) 0)) + (zI σ 456 ((zR σ 64 0 0 0).1) (Int32.toNatClampNeg x1) 0)) then (if (zI σ 461 ((zR σ 64 0 0 0).1) (Int32.toNatClampNeg x1) 0) < (((zI σ 384 0 0 0) - ((zI σ 384 0 0 0) - (zI σ 384 0 0 0) / (zI σ 455 ((zR σ 64 0 0 0).1) (Int32.toNatClampNeg x1) 0) * (zI σ 455 ((zR σ 64 0 0 0).1) (Int32.toNatClampNeg x1) 0))) + (zI σ 455 ((zR σ 64 0 0 0).1) (Int32.toNatClampNeg x1) 0)) then (fX1_enterWindow_90 x1 x2  ((zR σ 64 0 0 0).1) (Int32.toNatClampNeg x1) (((zI σ 384 0 0 0) - ((zI σ 384 0 0 0) - (zI σ 384 0 0 0) / (zI σ 455 ((zR σ 64 0 0 0).1) (Int32.toNatClampNeg x1) 0) * (zI σ 455 ((zR σ 64 0 0 0).1) (Int32.toNatClampNeg x1) 0))) + (zI σ 455 ((zR σ 64 0 0 0).1) (Int32.toNatClampNeg x1) 0)) 0 σ) else (fX1_enterWindow_90 x1 x2  ((zR σ 64 0 0 0).1) (Int32.toNatClampNeg x1) (((zI σ 384 0 0 0) - ((zI σ 384 0 0 0) - (zI σ 384 0 0 0) / (zI σ 455 ((zR σ 64 0 0 0).1) (Int32.toNatClampNeg x1) 0) * (zI σ 455 ((zR σ 64 0 0 0).1) (Int32.toNatClampNeg x1) 0))) + (zI σ 455 ((zR σ 64 0 0 0).1) (Int32.toNatClampNeg x1) 0)) 1 σ)) else (bq (fX1_hold x1 (-1) 0 0 σ) fun v36 σ37 => some (0, σ37))) else (if (zI σ 461 ((zR σ 64 0 0 0).1) (Int32.toNatClampNeg x1) 0) < (((zI σ 384 0 0 0) - ((zI σ 384 0 0 0) - (zI σ 384 0 0 0) / (zI σ 455 ((zR σ 64 0 0 0).1) (Int32.toNatClampNeg x1) 0) * (zI σ 455 ((zR σ 64 0 0 0).1) (Int32.toNatClampNeg x1) 0))) + (zI σ 455 ((zR σ 64 0 0 0).1) (Int32.toNatClampNeg x1) 0)) then (fX1_enterWindow_90 x1 x2  ((zR σ 64 0 0 0).1) (Int32.toNatClampNeg x1) (((zI σ 384 0 0 0) - ((zI σ 384 0 0 0) - (zI σ 384 0 0 0) / (zI σ 455 ((zR σ 64 0 0 0).1) (Int32.toNatClampNeg x1) 0) * (zI σ 455 ((zR σ 64 0 0 0).1) (Int32.toNatClampNeg x1) 0))) + (zI σ 455 ((zR σ 64 0 0 0).1) (Int32.toNatClampNeg x1) 0)) 0 σ) else (fX1_enterWindow_90 x1 x2  ((zR σ 64 0 0 0).1) (Int32.toNatClampNeg x1) (((zI σ 384 0 0 0) - ((zI σ 384 0 0 0) - (zI σ 384 0 0 0) / (zI σ 455 ((zR σ 64 0 0 0).1) (Int32.toNatClampNeg x1) 0) * (zI σ 455 ((zR σ 64 0 0 0).1) (Int32.toNatClampNeg x1) 0))) + (zI σ 455 ((zR σ 64 0 0 0).1) (Int32.toNatClampNeg x1) 0)) 1 σ)) else none) else (some (0, σ)) else none

noncomputable def fX1_comesOut_113 (x1 : Int32) (p2 : Nat) (s2 : Nat) (p3 : Nat) (s3 : Nat) (x4 : Int32)  : Nat → Int32 → Zs → Option (Int32 × Zs)
  | 0, _, _ => none
  | n + 1, y5, σ =>
    if (zI σ 450 p2 s2 0) ≤ y5 then (some (1, σ)) else (if 6 ≤ y5 then (some (1, σ)) else (if gi y5 6 then if gi y5 6 then bq (fX5_reckon ((zR σ 64 0 0 0).1) (zI σ 1481 p2 s2 (Int32.toNatClampNeg y5)) (zI σ 1482 p2 s2 (Int32.toNatClampNeg y5)) 0 0 σ) fun v19 σ20 => bq (fX6_append 2 0 v19 σ20) fun v23 σ24 => fX1_comesOut_113 x1 p2 s2 p3 s3 x4  n (y5 + 1) σ24 else none else none))
noncomputable def fX1_comesOut_186 (x1 : Int32) (p2 : Nat) (s2 : Nat) (p3 : Nat) (s3 : Nat) (x4 : Int32)  : Nat → Int32 → Zs → Option (Int32 × Zs)
  | 0, _, _ => none
  | n + 1, y5, σ =>
    if (zI σ 450 p2 s2 0) ≤ y5 then (some (1, σ)) else (if 6 ≤ y5 then (some (1, σ)) else (if gi y5 6 then bq (fX6_numberAt 0 0 (zI σ 1483 p2 s2 (Int32.toNatClampNeg y5)) σ) fun v32 σ33 => bq (fX6_append 2 0 v32 σ33) fun v36 σ37 => fX1_comesOut_186 x1 p2 s2 p3 s3 x4  n (y5 + 1) σ37 else none))
noncomputable def fX1_comesOut (x1 : Int32) (p2 : Nat) (s2 : Nat) (p3 : Nat) (s3 : Nat) (x4 : Int32) (σ : Zs) : Option (Int32 × Zs) :=
  if ((zI σ 449 p2 s2 0) : Int32) = 1 then (bq (fX6_copyFrom 2 0 0 0 σ) fun v1 σ2 => if gi 0 6 then if gi 0 6 then bq (fX5_reckon ((zR σ2 64 0 0 0).1) (zI σ2 1481 p2 s2 (Int32.toNatClampNeg 0)) (zI σ2 1482 p2 s2 (Int32.toNatClampNeg 0)) 0 0 σ2) fun v8 σ9 => if ((lg_cmp v8 0) : Int32) = 0 then (some (0, σ9)) else (some (1, σ9)) else none else none) else if ((zI σ 449 p2 s2 0) : Int32) = 2 then (bq (fX6_copyFrom 2 0 0 0 σ) fun v12 σ13 => fX1_comesOut_113 x1 p2 s2 p3 s3 x4  FU (zI σ13 385 0 0 0) σ13) else if ((zI σ 449 p2 s2 0) : Int32) = 3 then (bq (fX6_startAt 2 0 (zI σ 384 0 0 0) σ) fun v27 σ28 => fX1_comesOut_186 x1 p2 s2 p3 s3 x4  FU 0 σ28) else if ((zI σ 449 p2 s2 0) : Int32) = 4 then (bq (fX6_copyFrom 2 0 0 0 σ) fun v40 σ41 => some (1, σ41)) else if ((zI σ 449 p2 s2 0) : Int32) = 5 then (some (0, σ)) else if ((zI σ 449 p2 s2 0) : Int32) = 6 then (bq (fX6_copyFrom 2 0 0 0 σ) fun v44 σ45 => bq (fX1_isFirst p2 s2 p3 s3 x4 σ45) fun v48 σ49 => if v48 = 0 ∨ v48 = 1 then some (v48, σ49) else none) else if ((zI σ 449 p2 s2 0) : Int32) = 7 then (bq (fX1_enterWindow x1 0 σ) fun v53 σ54 => if v53 = 0 ∨ v53 = 1 then some (v53, σ54) else none) else (some (0, σ))

noncomputable def fX1_lookAtNewRows_22 (x1 : Int32) (p2 : Nat) (s2 : Nat) (x3 : Int32)  : Nat → Nat → Nat → Int32 → Zs → Option (Unit × Zs)
  | 0, _, _, _, _ => none
  | n + 1, yp4, ys4, y5, σ =>
    if (zI σ 512 yp4 ys4 0) ≤ y5 then (if gi x3 2 then lt (sI σ 1486 p2 s2 (Int32.toNatClampNeg x3) (zI σ 512 yp4 ys4 0)) fun σ9 => some ((), σ9) else none) else (bq (fX8_copyTo yp4 ys4 y5 0 0 σ) fun v11 σ12 => if (zI σ12 449 p2 s2 0) = 5 then (if x3 = 0 then (bq (fX1_joinNewRow x1 p2 s2 1 σ12) fun v27 σ28 => fX1_lookAtNewRows_22 x1 p2 s2 x3  n yp4 ys4 (y5 + 1) σ28) else (bq (fX1_joinNewRow x1 p2 s2 0 σ12) fun v23 σ24 => fX1_lookAtNewRows_22 x1 p2 s2 x3  n yp4 ys4 (y5 + 1) σ24)) else (bq (fX1_comesOut x1 p2 s2 yp4 ys4 y5 σ12) fun v15 σ16 => if v15 = 0 then (fX1_lookAtNewRows_22 x1 p2 s2 x3  n yp4 ys4 (y5 + 1) σ16) else (bq (fX1_give x1 2 0 σ16) fun v19 σ20 => fX1_lookAtNewRows_22 x1 p2 s2 x3  n yp4 ys4 (y5 + 1) σ20)))
noncomputable def fX1_lookAtNewRows (x1 : Int32) (p2 : Nat) (s2 : Nat) (x3 : Int32) (σ : Zs) : Option (Unit × Zs) :=
  bq (fX1_inputOf p2 s2 x3 σ) fun v1 σ2 => nn v1 (some ((), σ2)) fun u5 => if gi x3 2 then fX1_lookAtNewRows_22 x1 p2 s2 x3  FU u5.1 u5.2 (zI σ2 1486 p2 s2 (Int32.toNatClampNeg x3)) σ2 else none

noncomputable def fX1_leastWatermark (p1 : Nat) (s1 : Nat) (σ : Zs) : Option (Int32 × Zs) :=
  bq (fX1_inputOf p1 s1 0 σ) fun v1 σ2 => nn v1 (bq (fX1_inputOf p1 s1 1 σ2) fun v7 σ8 => nn v7 (some ((zI σ8 461 p1 s1 0), σ8)) fun u11 => some ((zI σ8 461 p1 s1 0), σ8)) fun u5 => bq (fX1_inputOf p1 s1 1 σ2) fun v13 σ14 => nn v13 (some ((zI σ14 461 u5.1 u5.2 0), σ14)) fun u17 => some ((p_min (zI σ14 461 u5.1 u5.2 0) (zI σ14 461 u17.1 u17.2 0)), σ14)

noncomputable def fX1_closeWindows_2 (x1 : Int32) (p2 : Nat) (s2 : Nat)  : Nat → Int32 → Zs → Option (Unit × Zs)
  | 0, _, _ => none
  | n + 1, y3, σ =>
    if 60 ≤ y3 then (bq (fX10_removeGone p2 s2 (zI σ 461 p2 s2 0) (zI σ 456 p2 s2 0) σ) fun v1 σ2 => some ((), σ2)) else (bq (fX10_closeNext p2 s2 (zI σ 461 p2 s2 0) σ) fun v5 σ6 => if 0 ≤ v5 then (bq (fX10_copyTo p2 s2 v5 (zI σ6 455 p2 s2 0) ((zI σ6 450 p2 s2 0) - 2) 2 0 σ6) fun v9 σ10 => bq (fX1_give x1 2 0 σ10) fun v13 σ14 => fX1_closeWindows_2 x1 p2 s2  n (y3 + 1) σ14) else (bq (fX10_removeGone p2 s2 (zI σ6 461 p2 s2 0) (zI σ6 456 p2 s2 0) σ6) fun v17 σ18 => some ((), σ18)))
noncomputable def fX1_closeWindows (x1 : Int32) (p2 : Nat) (s2 : Nat) (σ : Zs) : Option (Unit × Zs) :=
  fX1_closeWindows_2 x1 p2 s2  FU 0 σ

noncomputable def fX1_runSteps_2   : Nat → Int32 → Zs → Option (Unit × Zs)
  | 0, _, _ => none
  | n + 1, y1, σ =>
    if (zI σ 321 ((zR σ 64 0 0 0).1) 0 0) ≤ y1 then (some ((), σ)) else (if gi y1 12 then if (zI σ 449 ((zR σ 64 0 0 0).1) (Int32.toNatClampNeg y1) 0) = 0 then (fX1_runSteps_2   n (y1 + 1) σ) else (bq (fX1_lookAtNewRows y1 ((zR σ 64 0 0 0).1) (Int32.toNatClampNeg y1) 0 σ) fun v5 σ6 => bq (fX1_lookAtNewRows y1 ((zR σ 64 0 0 0).1) (Int32.toNatClampNeg y1) 1 σ6) fun v9 σ10 => bq (fX1_leastWatermark ((zR σ 64 0 0 0).1) (Int32.toNatClampNeg y1) σ10) fun v13 σ14 => lt (sI σ14 461 ((zR σ 64 0 0 0).1) (Int32.toNatClampNeg y1) 0 v13) fun σ17 => if (zI σ17 449 ((zR σ 64 0 0 0).1) (Int32.toNatClampNeg y1) 0) = 7 then (bq (fX1_closeWindows y1 ((zR σ 64 0 0 0).1) (Int32.toNatClampNeg y1) σ17) fun v19 σ20 => fX1_runSteps_2   n (y1 + 1) σ20) else (fX1_runSteps_2   n (y1 + 1) σ17)) else none)
noncomputable def fX1_runSteps  (σ : Zs) : Option (Unit × Zs) :=
  fX1_runSteps_2   FU 0 σ

noncomputable def fX1_doPush (s1 : Nat) (σ : Zs) : Option (Int32 × Zs) :=
  bq (fX5_streamNamed ((zR σ 64 0 0 0).1) (zJ σ 129 0 s1 0) σ) fun v2 σ3 => if (zI σ3 68 0 0 0) = 0 then (if 0 ≤ v2 then (if gi v2 12 then if (zI σ3 449 ((zR σ3 64 0 0 0).1) (Int32.toNatClampNeg v2) 0) = 0 then (if (zI σ3 450 ((zR σ3 64 0 0 0).1) (Int32.toNatClampNeg v2) 0) = (zI σ3 385 5 s1 0) then (lt (sI σ3 69 0 0 0 ((zI σ3 69 0 0 0) + 1)) fun σ9 => lt (sI σ9 461 ((zR σ3 64 0 0 0).1) (Int32.toNatClampNeg v2) 0 (p_max (zI σ9 461 ((zR σ3 64 0 0 0).1) (Int32.toNatClampNeg v2) 0) ((zI σ9 384 5 s1 0) - (zI σ9 455 ((zR σ3 64 0 0 0).1) (Int32.toNatClampNeg v2) 0)))) fun σ11 => bq (fX1_give v2 5 s1 σ11) fun v13 σ14 => some (1, σ14)) else (some (0, σ3))) else (some (0, σ3)) else none) else (some (0, σ3))) else (some (0, σ3))

noncomputable def fX1_doRelease (x1 : Int32) (σ : Zs) : Option (Int32 × Zs) :=
  if x1 < 0 then (some (0, σ)) else (if x1 < (zI σ 66 0 0 0) then (if gi x1 60 then bq (fX6_copyFrom 0 0 ((zR σ 1089 0 0 (Int32.toNatClampNeg x1)).1) ((zR σ 1089 0 0 (Int32.toNatClampNeg x1)).2) σ) fun v3 σ4 => if gi x1 60 then if gi x1 60 then bq (fX1_removeHeld x1 σ4) fun v11 σ12 => if (zI σ4 387 ((zR σ4 1089 0 0 (Int32.toNatClampNeg x1)).1) ((zR σ4 1089 0 0 (Int32.toNatClampNeg x1)).2) 0) < 0 then (some (1, σ12)) else (if (zI σ4 387 ((zR σ4 1089 0 0 (Int32.toNatClampNeg x1)).1) ((zR σ4 1089 0 0 (Int32.toNatClampNeg x1)).2) 0) < (zI σ12 321 ((zR σ12 64 0 0 0).1) 0 0) then (if (zI σ4 388 ((zR σ4 1089 0 0 (Int32.toNatClampNeg x1)).1) ((zR σ4 1089 0 0 (Int32.toNatClampNeg x1)).2) 0) = (-1) then (bq (fX1_enterWindow (zI σ4 387 ((zR σ4 1089 0 0 (Int32.toNatClampNeg x1)).1) ((zR σ4 1089 0 0 (Int32.toNatClampNeg x1)).2) 0) 1 σ12) fun v16 σ17 => if v16 = 0 then (some (1, σ17)) else (bq (fX1_give (zI σ4 387 ((zR σ4 1089 0 0 (Int32.toNatClampNeg x1)).1) ((zR σ4 1089 0 0 (Int32.toNatClampNeg x1)).2) 0) 2 0 σ17) fun v20 σ21 => some (1, σ21))) else (bq (fX1_accept (zI σ4 387 ((zR σ4 1089 0 0 (Int32.toNatClampNeg x1)).1) ((zR σ4 1089 0 0 (Int32.toNatClampNeg x1)).2) 0) 0 0 σ12) fun v24 σ25 => some (1, σ25))) else (some (1, σ12))) else none else none else none) else (some (0, σ)))

noncomputable def fX1_perform (s1 : Nat) (σ : Zs) : Option (Int32 × Zs) :=
  lt (sI σ 70 0 0 0 0) fun σ1 => if ((zI σ1 128 0 s1 0) : Int32) = 0 then (bq (fX1_doPush s1 σ1) fun v3 σ4 => if v3 = 0 ∨ v3 = 1 then some (v3, σ4) else none) else if ((zI σ1 128 0 s1 0) : Int32) = 1 then (bq (fX1_doRelease (zI σ1 131 0 s1 0) σ1) fun v8 σ9 => if v8 = 0 ∨ v8 = 1 then some (v8, σ9) else none) else if ((zI σ1 128 0 s1 0) : Int32) = 2 then (bq (fX1_removeHeld (zI σ1 131 0 s1 0) σ1) fun v13 σ14 => if v13 = 0 ∨ v13 = 1 then some (v13, σ14) else none) else (lt (sI σ1 68 0 0 0 0) fun σ18 => if (zI σ1 68 0 0 0) = 0 ∨ (zI σ1 68 0 0 0) = 1 then some ((zI σ1 68 0 0 0), σ18) else none)

noncomputable def fX1_start_38 (p1 : Nat)  : Nat → Int32 → Zs → Option (Unit × Zs)
  | 0, _, _ => none
  | n + 1, y2, σ =>
    if (zI σ 323 ((zR σ 64 0 0 0).1) 0 0) ≤ y2 then (lt (sI σ 66 0 0 0 0) fun σ5 => lt (sI σ5 67 0 0 0 0) fun σ7 => lt (sI σ7 68 0 0 0 0) fun σ9 => lt (sI σ9 69 0 0 0 0) fun σ11 => some ((), σ11)) else (if gi y2 8 then lt (sI σ 4 ((zR σ 64 0 0 0).1) (Int32.toNatClampNeg y2) 0 0) fun σ16 => fX1_start_38 p1  n (y2 + 1) σ16 else none)
noncomputable def fX1_start_7 (p1 : Nat)  : Nat → Int32 → Zs → Option (Unit × Zs)
  | 0, _, _ => none
  | n + 1, y2, σ =>
    if (zI σ 321 ((zR σ 64 0 0 0).1) 0 0) ≤ y2 then (fX1_start_38 p1  FU 0 σ) else (if gi y2 12 then bq (fX7_dropRows ((zR σ 64 0 0 0).1) (Int32.toNatClampNeg y2) σ) fun v21 σ22 => fX1_start_7 p1  n (y2 + 1) σ22 else none)
noncomputable def fX1_start (p1 : Nat) (σ : Zs) : Option (Unit × Zs) :=
  lt (sR σ 64 0 0 0 (p1, 0)) fun σ1 => fX1_start_7 p1  FU 0 σ1

set_option maxRecDepth 20000 in
set_option maxHeartbeats 4000000 in
theorem s_X1_inputOf {A : Nat → Nat → Nat → Nat} {h : Hp} {σ ρ σ' : Zs} {v : Option (Nat × Nat)} {p1 : Nat} {s1 : Nat} {x2 : Int32} (hV1 : vdb (A 16 0 0) 7 p1 s1 = true) (hz : Rp A h σ ρ) (hr : fX1_inputOf p1 s1 x2 σ = some (v, σ')) : ∀ l : Launch, Sp l mX1_inputOf 0 0 0 [.ref (A 1 0 0), .ref (A 7 p1 s1), .int x2] h ((QN 7) A v σ' ρ) X0 := by
  intro l
  refine Sp.of rfl rfl (lv := [(0, .ref (A 1 0 0)), (1, .ref (A 7 p1 s1)), (2, .int x2)]) (Nat.le_of_ble_eq_true rfl) rfl (fun x hf hrm => ?_)
  rw [fX1_inputOf.eq_1] at hr
  refine w_aload_n 1 dX1_inputOf_0 rfl rfl rfl ?_
  refine g_X1_210 dX1_inputOf_1 rfl (hz.o7 hV1) (hz.r452 hV1) ?_
  refine w_iload_n 2 dX1_inputOf_4 rfl rfl rfl ?_
  obtain ⟨g1, hr⟩ := gd hr
  refine w_iald dX1_inputOf_5 rfl (hz.k452 hV1) (gin (hz.n452 hV1) g1) (hz.x452 hV1) ?_
  refine w_istore_n [(3, .int (zI σ 1476 p1 s1 (Int32.toNatClampNeg x2))), (0, .ref (A 1 0 0)), (1, .ref (A 7 p1 s1)), (2, .int x2)] dX1_inputOf_6 rfl rfl (by decide) rfl ?_
  refine w_iload_n 0 dX1_inputOf_7 rfl rfl rfl ?_
  refine w_if_lt 34 dX1_inputOf_8 rfl rfl (fun q8 => ?_) (fun q8 => ?_)
  · have hr := bt q8 hr
    refine w_null dX1_inputOf_34 rfl ?_
    refine w_aret hf dX1_inputOf_35 rfl (Or.inl ⟨_, rfl⟩) (Or.inl rfl) (Nat.le_of_ble_eq_true rfl) (Nat.le_of_ble_eq_true rfl) ?_
    obtain ⟨rfl, rfl⟩ := ret_inj hr
    exact ⟨rfl, hz⟩
  · have hr := bf q8 hr
    refine w_iload_n 0 dX1_inputOf_11 rfl rfl rfl ?_
    refine w_aload_n 1 dX1_inputOf_12 rfl rfl rfl ?_
    have hv2 := hz.ww64 (p := 0) (s := 0) rfl
    refine g_X1_28 dX1_inputOf_13 rfl (hz.o1 rfl) (hz.rr64 rfl) ?_
    refine g_X1_32 dX1_inputOf_16 rfl (hz.o5 hv2) (hz.i321 hv2) ?_
    refine w_icmp_ge 34 dX1_inputOf_19 rfl rfl (fun q19 => ?_) (fun q19 => ?_)
    · have hr := bt q19 hr
      refine w_null dX1_inputOf_34 rfl ?_
      refine w_aret hf dX1_inputOf_35 rfl (Or.inl ⟨_, rfl⟩) (Or.inl rfl) (Nat.le_of_ble_eq_true rfl) (Nat.le_of_ble_eq_true rfl) ?_
      obtain ⟨rfl, rfl⟩ := ret_inj hr
      exact ⟨rfl, hz⟩
    · have hr := bf q19 hr
      refine w_aload_n 1 dX1_inputOf_22 rfl rfl rfl ?_
      have hv3 := hz.ww64 (p := 0) (s := 0) rfl
      refine g_X1_28 dX1_inputOf_23 rfl (hz.o1 rfl) (hz.rr64 rfl) ?_
      refine g_X1_38 dX1_inputOf_26 rfl (hz.o5 hv3) (hz.r320 hv3) ?_
      refine w_iload_n 0 dX1_inputOf_29 rfl rfl rfl ?_
      obtain ⟨g4, hr⟩ := gd hr
      have hv5 := vdb_320 (p := (zR σ 64 0 0 0).1) hv3 (gi_lt g4)
      refine w_aald 7 dX1_inputOf_30 rfl (by decide) (by decide) (fun _ => rfl) (hz.k320 hv3) (gin (hz.n320 hv3) g4) (hz.e320 hv3 (gi_lt g4)) ?_
      refine w_goto 35 dX1_inputOf_31 rfl ?_
      refine w_aret hf dX1_inputOf_35 rfl (Or.inl ⟨_, rfl⟩) (Or.inr ⟨_, rfl⟩) (Nat.le_of_ble_eq_true rfl) (Nat.le_of_ble_eq_true rfl) ?_
      obtain ⟨rfl, rfl⟩ := ret_inj hr
      exact ⟨⟨rfl, hv5⟩, hz⟩

set_option maxRecDepth 20000 in
set_option maxHeartbeats 4000000 in
theorem s_X1_accept {A : Nat → Nat → Nat → Nat} {h : Hp} {σ ρ σ' : Zs} {v : Unit} {x1 : Int32} {p2 : Nat} {s2 : Nat} (hV2 : vdb (A 16 0 0) 6 p2 s2 = true) (hz : Rp A h σ ρ) (hr : fX1_accept x1 p2 s2 σ = some (v, σ')) : ∀ l : Launch, Sp l mX1_accept 1 0 0 [.ref (A 1 0 0), .int x1, .ref (A 6 p2 s2)] h (QV A v σ' ρ) X0 := by
  intro l
  refine Sp.of rfl rfl (lv := [(0, .ref (A 1 0 0)), (1, .int x1), (2, .ref (A 6 p2 s2))]) (Nat.le_of_ble_eq_true rfl) rfl (fun x hf hrm => ?_)
  rw [fX1_accept.eq_1] at hr
  refine w_aload_n 0 dX1_accept_0 rfl rfl rfl ?_
  have hv1 := hz.ww64 (p := 0) (s := 0) rfl
  refine g_X1_28 dX1_accept_1 rfl (hz.o1 rfl) (hz.rr64 rfl) ?_
  refine g_X1_38 dX1_accept_4 rfl (hz.o5 hv1) (hz.r320 hv1) ?_
  refine w_iload_n 1 dX1_accept_7 rfl rfl rfl ?_
  obtain ⟨g2, hr⟩ := gd hr
  have hv3 := vdb_320 (p := (zR σ 64 0 0 0).1) hv1 (gi_lt g2)
  refine w_aald 7 dX1_accept_8 rfl (by decide) (by decide) (fun _ => rfl) (hz.k320 hv1) (gin (hz.n320 hv1) g2) (hz.e320 hv1 (gi_lt g2)) ?_
  refine g_X1_178 dX1_accept_9 rfl (hz.o7 hv3) (hz.r460 hv3) ?_
  refine w_aload_n 2 dX1_accept_12 rfl rfl rfl ?_
  obtain ⟨v4, σ5, e6, hr⟩ := bq_some hr
  refine c_X1_182 (As := [.ref (A 6 p2 s2)]) (rest := []) (fun l => s_X8_add hv3 hV2 hz e6 l) hrm dX1_accept_13 rfl rfl (Nat.le_of_ble_eq_true rfl) (Nat.le_of_ble_eq_true rfl) (Nat.le_of_ble_eq_true rfl) (hz.o8 hv3) rfl (Nat.le_of_ble_eq_true rfl) (fun vr h2 hq => ?_) (fun E9 h9 hq => hq.elim)
  obtain ⟨rfl, hz⟩ := hq
  show wp _ _ 16 [(0, .ref (A 1 0 0)), (1, .int x1), (2, .ref (A 6 p2 s2))] [.int v4] _ _ _
  refine w_if_eq 32 dX1_accept_16 rfl rfl (fun q16 => ?_) (fun q16 => ?_)
  · have hr := bt q16 hr
    refine w_aload_n 0 dX1_accept_32 rfl rfl rfl ?_
    refine w_dup dX1_accept_33 rfl rfl ?_
    refine g_X1_62 dX1_accept_34 rfl (hz.o1 rfl) (hz.i67 rfl) ?_
    refine w_iconst 1 dX1_accept_37 rfl rfl ?_
    refine w_iadd dX1_accept_38 rfl ?_
    refine p_X1_62 dX1_accept_39 rfl (hz.o1 rfl) ?_
    obtain ⟨σ8, e9, hr⟩ := lt_e hr
    have hz := (hz.s67 (v := ((zI σ5 67 0 0 0) + 1)) rfl).ts e9
    refine w_vret hf dX1_accept_42 rfl (Nat.le_of_ble_eq_true rfl) (Nat.le_of_ble_eq_true rfl) ?_
    obtain ⟨rfl, rfl⟩ := ret_inj hr
    exact ⟨rfl, hz⟩
  · have hr := bf q16 hr
    refine w_aload_n 0 dX1_accept_19 rfl rfl rfl ?_
    refine w_dup dX1_accept_20 rfl rfl ?_
    refine g_X1_72 dX1_accept_21 rfl (hz.o1 rfl) (hz.i70 rfl) ?_
    refine w_iconst 1 dX1_accept_24 rfl rfl ?_
    refine w_iadd dX1_accept_25 rfl ?_
    refine p_X1_72 dX1_accept_26 rfl (hz.o1 rfl) ?_
    obtain ⟨σ10, e11, hr⟩ := lt_e hr
    have hz := (hz.s70 (v := ((zI σ5 70 0 0 0) + 1)) rfl).ts e11
    refine w_goto 42 dX1_accept_29 rfl ?_
    refine w_vret hf dX1_accept_42 rfl (Nat.le_of_ble_eq_true rfl) (Nat.le_of_ble_eq_true rfl) ?_
    obtain ⟨rfl, rfl⟩ := ret_inj hr
    exact ⟨rfl, hz⟩

set_option maxRecDepth 20000 in
set_option maxHeartbeats 4000000 in
theorem s_X1_hold {A : Nat → Nat → Nat → Nat} {h : Hp} {σ ρ σ' : Zs} {v : Unit} {x1 : Int32} {x2 : Int32} {p3 : Nat} {s3 : Nat} (hV3 : vdb (A 16 0 0) 6 p3 s3 = true) (hz : Rp A h σ ρ) (hr : fX1_hold x1 x2 p3 s3 σ = some (v, σ')) : ∀ l : Launch, Sp l mX1_hold 1 0 0 [.ref (A 1 0 0), .int x1, .int x2, .ref (A 6 p3 s3)] h (QV A v σ' ρ) X0 := by
  intro l
  refine Sp.of rfl rfl (lv := [(0, .ref (A 1 0 0)), (1, .int x1), (2, .int x2), (3, .ref (A 6 p3 s3))]) (Nat.le_of_ble_eq_true rfl) rfl (fun x hf hrm => ?_)
  rw [fX1_hold.eq_1] at hr
  refine w_aload_n 0 dX1_hold_0 rfl rfl rfl ?_
  refine g_X1_59 dX1_hold_1 rfl (hz.o1 rfl) (hz.i66 rfl) ?_
  refine w_aload_n 0 dX1_hold_4 rfl rfl rfl ?_
  refine g_X1_11 dX1_hold_5 rfl (hz.o1 rfl) (hz.r65 rfl) ?_
  refine w_alen 6 dX1_hold_8 rfl (by decide) (by decide) (fun _ => rfl) (hz.k65 rfl) (v := 60) (by rw [hz.n65 rfl]; rfl) ?_
  refine w_icmp_lt 23 dX1_hold_9 rfl rfl (fun q9 => ?_) (fun q9 => ?_)
  · have hr := bt q9 hr
    refine w_aload_n 0 dX1_hold_23 rfl rfl rfl ?_
    refine g_X1_11 dX1_hold_24 rfl (hz.o1 rfl) (hz.r65 rfl) ?_
    refine w_aload_n 0 dX1_hold_27 rfl rfl rfl ?_
    refine g_X1_59 dX1_hold_28 rfl (hz.o1 rfl) (hz.i66 rfl) ?_
    obtain ⟨g1, hr⟩ := gd hr
    have hv2 := hz.we65 (gi_lt g1)
    refine w_aald 6 dX1_hold_31 rfl (by decide) (by decide) (fun _ => rfl) (hz.k65 rfl) (gin (hz.n65 rfl) g1) (hz.e65 (gi_lt g1)) ?_
    refine w_aload_n 3 dX1_hold_32 rfl rfl rfl ?_
    obtain ⟨v3, σ4, e5, hr⟩ := bq_some hr
    refine c_X1_143 (As := [.ref (A 6 p3 s3)]) (rest := []) (fun l => s_X6_copyFrom hv2 hV3 hz e5 l) hrm dX1_hold_33 rfl rfl (Nat.le_of_ble_eq_true rfl) (Nat.le_of_ble_eq_true rfl) (Nat.le_of_ble_eq_true rfl) (hz.o6 hv2) rfl (Nat.le_of_ble_eq_true rfl) (fun vr h2 hq => ?_) (fun E9 h9 hq => hq.elim)
    obtain ⟨rfl, hz⟩ := hq
    show wp _ _ 36 [(0, .ref (A 1 0 0)), (1, .int x1), (2, .int x2), (3, .ref (A 6 p3 s3))] [] _ _ _
    refine w_aload_n 0 dX1_hold_36 rfl rfl rfl ?_
    refine g_X1_11 dX1_hold_37 rfl (hz.o1 rfl) (hz.r65 rfl) ?_
    refine w_aload_n 0 dX1_hold_40 rfl rfl rfl ?_
    refine g_X1_59 dX1_hold_41 rfl (hz.o1 rfl) (hz.i66 rfl) ?_
    obtain ⟨g7, hr⟩ := gd hr
    have hv8 := hz.we65 (gi_lt g7)
    refine w_aald 6 dX1_hold_44 rfl (by decide) (by decide) (fun _ => rfl) (hz.k65 rfl) (gin (hz.n65 rfl) g7) (hz.e65 (gi_lt g7)) ?_
    refine w_iload_n 1 dX1_hold_45 rfl rfl rfl ?_
    refine p_X1_147 dX1_hold_46 rfl (hz.o6 hv8) ?_
    obtain ⟨σ9, e10, hr⟩ := lt_e hr
    have hz := (hz.s387 (v := x1) hv8).ts e10
    refine w_aload_n 0 dX1_hold_49 rfl rfl rfl ?_
    refine g_X1_11 dX1_hold_50 rfl (hz.o1 rfl) (hz.r65 rfl) ?_
    refine w_aload_n 0 dX1_hold_53 rfl rfl rfl ?_
    refine g_X1_59 dX1_hold_54 rfl (hz.o1 rfl) (hz.i66 rfl) ?_
    obtain ⟨g11, hr⟩ := gd hr
    have hv12 := hz.we65 (gi_lt g11)
    refine w_aald 6 dX1_hold_57 rfl (by decide) (by decide) (fun _ => rfl) (hz.k65 rfl) (gin (hz.n65 rfl) g11) (hz.e65 (gi_lt g11)) ?_
    refine w_iload_n 2 dX1_hold_58 rfl rfl rfl ?_
    refine p_X1_150 dX1_hold_59 rfl (hz.o6 hv12) ?_
    obtain ⟨σ13, e14, hr⟩ := lt_e hr
    have hz := (hz.s388 (v := x2) hv12).ts e14
    refine w_aload_n 0 dX1_hold_62 rfl rfl rfl ?_
    refine w_dup dX1_hold_63 rfl rfl ?_
    refine g_X1_59 dX1_hold_64 rfl (hz.o1 rfl) (hz.i66 rfl) ?_
    refine w_iconst 1 dX1_hold_67 rfl rfl ?_
    refine w_iadd dX1_hold_68 rfl ?_
    refine p_X1_59 dX1_hold_69 rfl (hz.o1 rfl) ?_
    obtain ⟨σ15, e16, hr⟩ := lt_e hr
    have hz := (hz.s66 (v := ((zI σ13 66 0 0 0) + 1)) rfl).ts e16
    refine w_vret hf dX1_hold_72 rfl (Nat.le_of_ble_eq_true rfl) (Nat.le_of_ble_eq_true rfl) ?_
    obtain ⟨rfl, rfl⟩ := ret_inj hr
    exact ⟨rfl, hz⟩
  · have hr := bf q9 hr
    refine w_aload_n 0 dX1_hold_12 rfl rfl rfl ?_
    refine w_dup dX1_hold_13 rfl rfl ?_
    refine g_X1_62 dX1_hold_14 rfl (hz.o1 rfl) (hz.i67 rfl) ?_
    refine w_iconst 1 dX1_hold_17 rfl rfl ?_
    refine w_iadd dX1_hold_18 rfl ?_
    refine p_X1_62 dX1_hold_19 rfl (hz.o1 rfl) ?_
    obtain ⟨σ17, e18, hr⟩ := lt_e hr
    have hz := (hz.s67 (v := ((zI σ 67 0 0 0) + 1)) rfl).ts e18
    refine w_vret hf dX1_hold_22 rfl (Nat.le_of_ble_eq_true rfl) (Nat.le_of_ble_eq_true rfl) ?_
    obtain ⟨rfl, rfl⟩ := ret_inj hr
    exact ⟨rfl, hz⟩

set_option maxRecDepth 20000 in
set_option maxHeartbeats 4000000 in
theorem w_X1_give_2 {A : Nat → Nat → Nat → Nat} {ρ σ' : Zs} {v : Unit} {x : Cxt} {x1 : Int32} {p2 : Nat} {s2 : Nat}  (hf : m_fin 0 0 (QV A v σ' ρ) X0 x) (hrm : m_rm 2 0 0 x) (hV2 : vdb (A 16 0 0) 6 p2 s2 = true) : ∀ (n : Nat) (y3 : Int32) (σ : Zs) (h : Hp), Rp A h σ ρ → fX1_give_2 x1 p2 s2  n y3 σ = some (v, σ') → wp x mX1_give 2 [(0, .ref (A 1 0 0)), (1, .int x1), (2, .ref (A 6 p2 s2)), (3, .int y3)] [] h 0 0
  | 0, _, σ, h => fun hz hr => by
    rw [fX1_give_2.eq_1] at hr
    exact nono hr
  | n + 1, y3, σ, h => fun hz hr => by
    rw [fX1_give_2.eq_2] at hr
    refine w_iload_n 3 dX1_give_2 rfl rfl rfl ?_
    refine w_aload_n 0 dX1_give_3 rfl rfl rfl ?_
    have hv1 := hz.ww64 (p := 0) (s := 0) rfl
    refine g_X1_28 dX1_give_4 rfl (hz.o1 rfl) (hz.rr64 rfl) ?_
    refine g_X1_47 dX1_give_7 rfl (hz.o5 hv1) (hz.i323 hv1) ?_
    refine w_icmp_ge 111 dX1_give_10 rfl rfl (fun q10 => ?_) (fun q10 => ?_)
    · have hr := bt q10 hr
      refine w_aload_n 0 dX1_give_111 rfl rfl rfl ?_
      refine w_iload_n 1 dX1_give_112 rfl rfl rfl ?_
      refine w_aload_n 2 dX1_give_113 rfl rfl rfl ?_
      obtain ⟨v2, σ3, e4, hr⟩ := bq_some hr
      refine c_X1_153 (As := [.int x1, .ref (A 6 p2 s2)]) (rest := []) (fun l => s_X1_accept hV2 hz e4 l) hrm dX1_give_114 rfl rfl (Nat.le_of_ble_eq_true rfl) (Nat.le_of_ble_eq_true rfl) (Nat.le_of_ble_eq_true rfl) (hz.o1 rfl) rfl (Nat.le_of_ble_eq_true rfl) (fun vr h2 hq => ?_) (fun E9 h9 hq => hq.elim)
      obtain ⟨rfl, hz⟩ := hq
      show wp _ _ 117 [(0, .ref (A 1 0 0)), (1, .int x1), (2, .ref (A 6 p2 s2)), (3, .int y3)] [] _ _ _
      refine w_vret hf dX1_give_117 rfl (Nat.le_of_ble_eq_true rfl) (Nat.le_of_ble_eq_true rfl) ?_
      obtain ⟨rfl, rfl⟩ := ret_inj hr
      exact ⟨rfl, hz⟩
    · have hr := bf q10 hr
      refine w_aload_n 0 dX1_give_13 rfl rfl rfl ?_
      have hv6 := hz.ww64 (p := 0) (s := 0) rfl
      refine g_X1_28 dX1_give_14 rfl (hz.o1 rfl) (hz.rr64 rfl) ?_
      refine g_X1_50 dX1_give_17 rfl (hz.o5 hv6) (hz.r322 hv6) ?_
      refine w_iload_n 3 dX1_give_20 rfl rfl rfl ?_
      obtain ⟨g7, hr⟩ := gd hr
      have hv8 := vdb_322 (p := (zR σ 64 0 0 0).1) hv6 (gi_lt g7)
      refine w_aald 4 dX1_give_21 rfl (by decide) (by decide) (fun _ => rfl) (hz.k322 hv6) (gin (hz.n322 hv6) g7) (hz.e322 hv6 (gi_lt g7)) ?_
      refine w_astore [(4, .ref (A 0 (zR σ 64 0 0 0).1 (Int32.toNatClampNeg y3))), (0, .ref (A 1 0 0)), (1, .int x1), (2, .ref (A 6 p2 s2)), (3, .int y3)] dX1_give_22 rfl (by decide) rfl ?_
      refine w_aload 0 dX1_give_24 rfl rfl ?_
      refine g_X1_160 dX1_give_26 rfl (hz.o0 hv8) (hz.i0 hv8) ?_
      refine w_iload_n 2 dX1_give_29 rfl rfl rfl ?_
      refine w_icmp_ne 105 dX1_give_30 rfl rfl (fun q30 => ?_) (fun q30 => ?_)
      · have hr := bf q30 hr
        refine w_iinc 4 (y3 + 1) [(3, .int (y3 + 1)), (4, .ref (A 0 (zR σ 64 0 0 0).1 (Int32.toNatClampNeg y3))), (0, .ref (A 1 0 0)), (1, .int x1), (2, .ref (A 6 p2 s2))] dX1_give_105 rfl rfl rfl (by decide) rfl ?_
        refine w_goto 2 dX1_give_108 rfl ?_
        refine w_lv [(0, .ref (A 1 0 0)), (1, .int x1), (2, .ref (A 6 p2 s2)), (3, .int (y3 + 1))] [2, 3, 4, 0] rfl ?_
        exact w_X1_give_2 hf hrm hV2  n (y3 + 1) _ _ hz  hr
      · have hr := bt q30 hr
        refine w_aload_n 1 dX1_give_33 rfl rfl rfl ?_
        have hv9 := hz.ww64 (p := 0) (s := 0) rfl
        refine g_X1_28 dX1_give_34 rfl (hz.o1 rfl) (hz.rr64 rfl) ?_
        refine w_aload 0 dX1_give_37 rfl rfl ?_
        refine g_X1_161 dX1_give_39 rfl (hz.o0 hv8) (hz.i2 hv8) ?_
        refine w_aload 0 dX1_give_42 rfl rfl ?_
        refine g_X1_164 dX1_give_44 rfl (hz.o0 hv8) (hz.i3 hv8) ?_
        refine w_aload_n 3 dX1_give_47 rfl rfl rfl ?_
        obtain ⟨v10, σ11, e12, hr⟩ := bq_some hr
        refine c_X1_167 (As := [.int (zI σ 2 ((zR σ 64 0 0 0).1) (Int32.toNatClampNeg y3) 0), .int (zI σ 3 ((zR σ 64 0 0 0).1) (Int32.toNatClampNeg y3) 0), .ref (A 6 p2 s2)]) (rest := []) (fun l => s_X5_reckon hv9 hV2 hz e12 l) hrm dX1_give_48 rfl rfl (Nat.le_of_ble_eq_true rfl) (Nat.le_of_ble_eq_true rfl) (Nat.le_of_ble_eq_true rfl) (hz.o5 hv9) rfl (Nat.le_of_ble_eq_true rfl) (fun vr h2 hq => ?_) (fun E9 h9 hq => hq.elim)
        obtain ⟨rfl, hz⟩ := hq
        show wp _ _ 51 [(4, .ref (A 0 (zR σ 64 0 0 0).1 (Int32.toNatClampNeg y3))), (0, .ref (A 1 0 0)), (1, .int x1), (2, .ref (A 6 p2 s2)), (3, .int y3)] [.long v10] _ _ _
        refine w_lconst 0 dX1_give_51 rfl rfl ?_
        refine w_lcmp dX1_give_52 rfl ?_
        refine w_if_eq 59 dX1_give_53 rfl rfl (fun q53 => ?_) (fun q53 => ?_)
        · have hr := bt q53 hr
          refine w_aload 0 dX1_give_59 rfl rfl ?_
          refine w_dup dX1_give_61 rfl rfl ?_
          refine g_X1_54 dX1_give_62 rfl (hz.o0 hv8) (hz.i4 hv8) ?_
          refine w_iconst 1 dX1_give_65 rfl rfl ?_
          refine w_iadd dX1_give_66 rfl ?_
          refine p_X1_54 dX1_give_67 rfl (hz.o0 hv8) ?_
          obtain ⟨σ14, e15, hr⟩ := lt_e hr
          have hz := (hz.s4 (v := ((zI σ11 4 ((zR σ 64 0 0 0).1) (Int32.toNatClampNeg y3) 0) + 1)) hv8).ts e15
          refine w_aload 0 dX1_give_70 rfl rfl ?_
          refine g_X1_171 dX1_give_72 rfl (hz.o0 hv8) (hz.i1 hv8) ?_
          refine w_sipush 149 dX1_give_75 rfl rfl ?_
          refine w_icmp_ne 86 dX1_give_78 rfl rfl (fun q78 => ?_) (fun q78 => ?_)
          · have hr := bf q78 hr
            refine w_aload 0 dX1_give_86 rfl rfl ?_
            refine g_X1_171 dX1_give_88 rfl (hz.o0 hv8) (hz.i1 hv8) ?_
            refine w_sipush 147 dX1_give_91 rfl rfl ?_
            refine w_icmp_eq 104 dX1_give_94 rfl rfl (fun q94 => ?_) (fun q94 => ?_)
            · have hr := bt q94 hr
              refine w_vret hf dX1_give_104 rfl (Nat.le_of_ble_eq_true rfl) (Nat.le_of_ble_eq_true rfl) ?_
              obtain ⟨rfl, rfl⟩ := ret_inj hr
              exact ⟨rfl, hz⟩
            · have hr := bf q94 hr
              refine w_aload_n 1 dX1_give_97 rfl rfl rfl ?_
              refine w_iload_n 2 dX1_give_98 rfl rfl rfl ?_
              refine w_iload_n 4 dX1_give_99 rfl rfl rfl ?_
              refine w_aload_n 3 dX1_give_100 rfl rfl rfl ?_
              obtain ⟨v16, σ17, e18, hr⟩ := bq_some hr
              refine c_X1_174 (As := [.int x1, .int y3, .ref (A 6 p2 s2)]) (rest := []) (fun l => s_X1_hold hV2 hz e18 l) hrm dX1_give_101 rfl rfl (Nat.le_of_ble_eq_true rfl) (Nat.le_of_ble_eq_true rfl) (Nat.le_of_ble_eq_true rfl) (hz.o1 rfl) rfl (Nat.le_of_ble_eq_true rfl) (fun vr h2 hq => ?_) (fun E9 h9 hq => hq.elim)
              obtain ⟨rfl, hz⟩ := hq
              show wp _ _ 104 [(4, .ref (A 0 (zR σ 64 0 0 0).1 (Int32.toNatClampNeg y3))), (0, .ref (A 1 0 0)), (1, .int x1), (2, .ref (A 6 p2 s2)), (3, .int y3)] [] _ _ _
              refine w_vret hf dX1_give_104 rfl (Nat.le_of_ble_eq_true rfl) (Nat.le_of_ble_eq_true rfl) ?_
              obtain ⟨rfl, rfl⟩ := ret_inj hr
              exact ⟨rfl, hz⟩
          · have hr := bt q78 hr
            refine w_aload_n 1 dX1_give_81 rfl rfl rfl ?_
            refine w_iconst 1 dX1_give_82 rfl rfl ?_
            refine p_X1_65 dX1_give_83 rfl (hz.o1 rfl) (Or.inr rfl) ?_
            obtain ⟨σ20, e21, hr⟩ := lt_e hr
            have hz := (hz.s68 (v := 1) rfl).ts e21
            refine w_aload 0 dX1_give_86 rfl rfl ?_
            refine g_X1_171 dX1_give_88 rfl (hz.o0 hv8) (hz.i1 hv8) ?_
            refine w_sipush 147 dX1_give_91 rfl rfl ?_
            refine w_icmp_eq 104 dX1_give_94 rfl rfl (fun q94 => ?_) (fun q94 => ?_)
            · have hr := bt q94 hr
              refine w_vret hf dX1_give_104 rfl (Nat.le_of_ble_eq_true rfl) (Nat.le_of_ble_eq_true rfl) ?_
              obtain ⟨rfl, rfl⟩ := ret_inj hr
              exact ⟨rfl, hz⟩
            · have hr := bf q94 hr
              refine w_aload_n 1 dX1_give_97 rfl rfl rfl ?_
              refine w_iload_n 2 dX1_give_98 rfl rfl rfl ?_
              refine w_iload_n 4 dX1_give_99 rfl rfl rfl ?_
              refine w_aload_n 3 dX1_give_100 rfl rfl rfl ?_
              obtain ⟨v22, σ23, e24, hr⟩ := bq_some hr
              refine c_X1_174 (As := [.int x1, .int y3, .ref (A 6 p2 s2)]) (rest := []) (fun l => s_X1_hold hV2 hz e24 l) hrm dX1_give_101 rfl rfl (Nat.le_of_ble_eq_true rfl) (Nat.le_of_ble_eq_true rfl) (Nat.le_of_ble_eq_true rfl) (hz.o1 rfl) rfl (Nat.le_of_ble_eq_true rfl) (fun vr h2 hq => ?_) (fun E9 h9 hq => hq.elim)
              obtain ⟨rfl, hz⟩ := hq
              show wp _ _ 104 [(4, .ref (A 0 (zR σ 64 0 0 0).1 (Int32.toNatClampNeg y3))), (0, .ref (A 1 0 0)), (1, .int x1), (2, .ref (A 6 p2 s2)), (3, .int y3)] [] _ _ _
              refine w_vret hf dX1_give_104 rfl (Nat.le_of_ble_eq_true rfl) (Nat.le_of_ble_eq_true rfl) ?_
              obtain ⟨rfl, rfl⟩ := ret_inj hr
              exact ⟨rfl, hz⟩
        · have hr := bf q53 hr
          refine w_goto 105 dX1_give_56 rfl ?_
          refine w_iinc 4 (y3 + 1) [(3, .int (y3 + 1)), (4, .ref (A 0 (zR σ 64 0 0 0).1 (Int32.toNatClampNeg y3))), (0, .ref (A 1 0 0)), (1, .int x1), (2, .ref (A 6 p2 s2))] dX1_give_105 rfl rfl rfl (by decide) rfl ?_
          refine w_goto 2 dX1_give_108 rfl ?_
          refine w_lv [(0, .ref (A 1 0 0)), (1, .int x1), (2, .ref (A 6 p2 s2)), (3, .int (y3 + 1))] [2, 3, 4, 0] rfl ?_
          exact w_X1_give_2 hf hrm hV2  n (y3 + 1) _ _ hz  hr
set_option maxRecDepth 20000 in
set_option maxHeartbeats 4000000 in
theorem s_X1_give {A : Nat → Nat → Nat → Nat} {h : Hp} {σ ρ σ' : Zs} {v : Unit} {x1 : Int32} {p2 : Nat} {s2 : Nat} (hV2 : vdb (A 16 0 0) 6 p2 s2 = true) (hz : Rp A h σ ρ) (hr : fX1_give x1 p2 s2 σ = some (v, σ')) : ∀ l : Launch, Sp l mX1_give 2 0 0 [.ref (A 1 0 0), .int x1, .ref (A 6 p2 s2)] h (QV A v σ' ρ) X0 := by
  intro l
  refine Sp.of rfl rfl (lv := [(0, .ref (A 1 0 0)), (1, .int x1), (2, .ref (A 6 p2 s2))]) (Nat.le_of_ble_eq_true rfl) rfl (fun x hf hrm => ?_)
  rw [fX1_give.eq_1] at hr
  refine w_iconst 0 dX1_give_0 rfl rfl ?_
  refine w_istore_n [(3, .int 0), (0, .ref (A 1 0 0)), (1, .int x1), (2, .ref (A 6 p2 s2))] dX1_give_1 rfl rfl (by decide) rfl ?_
  refine w_lv [(0, .ref (A 1 0 0)), (1, .int x1), (2, .ref (A 6 p2 s2)), (3, .int 0)] [1, 2, 3, 0] rfl ?_
  exact w_X1_give_2 hf hrm hV2  FU 0 _ _ hz  hr

set_option maxRecDepth 20000 in
set_option maxHeartbeats 4000000 in
theorem w_X1_removeHeld_23 {A : Nat → Nat → Nat → Nat} {ρ σ' : Zs} {v : Int32} {x : Cxt} {x1 : Int32}  (hf : m_fin 0 0 (QI A v σ' ρ) X0 x) (hrm : m_rm 0 0 0 x)  : ∀ (n : Nat) (yp2 : Nat) (ys2 : Nat) (y3 : Int32) (σ : Zs) (h : Hp), Rp A h σ ρ → vdb (A 16 0 0) 6 yp2 ys2 = true → fX1_removeHeld_23 x1  n yp2 ys2 y3 σ = some (v, σ') → wp x mX1_removeHeld 23 [(0, .ref (A 1 0 0)), (1, .int x1), (2, .ref (A 6 yp2 ys2)), (3, .int y3)] [] h 0 0
  | 0, _, _, _, σ, h => fun hz _ hr => by
    rw [fX1_removeHeld_23.eq_1] at hr
    exact nono hr
  | n + 1, yp2, ys2, y3, σ, h => fun hz hy2 hr => by
    rw [fX1_removeHeld_23.eq_2] at hr
    refine w_iload_n 3 dX1_removeHeld_23 rfl rfl rfl ?_
    refine w_aload_n 0 dX1_removeHeld_24 rfl rfl rfl ?_
    refine g_X1_59 dX1_removeHeld_25 rfl (hz.o1 rfl) (hz.i66 rfl) ?_
    refine w_iconst 1 dX1_removeHeld_28 rfl rfl ?_
    refine w_isub dX1_removeHeld_29 rfl ?_
    refine w_icmp_ge 53 dX1_removeHeld_30 rfl rfl (fun q30 => ?_) (fun q30 => ?_)
    · have hr := bt q30 hr
      refine w_aload_n 0 dX1_removeHeld_53 rfl rfl rfl ?_
      refine g_X1_11 dX1_removeHeld_54 rfl (hz.o1 rfl) (hz.r65 rfl) ?_
      refine w_aload_n 0 dX1_removeHeld_57 rfl rfl rfl ?_
      refine g_X1_59 dX1_removeHeld_58 rfl (hz.o1 rfl) (hz.i66 rfl) ?_
      refine w_iconst 1 dX1_removeHeld_61 rfl rfl ?_
      refine w_isub dX1_removeHeld_62 rfl ?_
      refine w_aload_n 2 dX1_removeHeld_63 rfl rfl rfl ?_
      obtain ⟨g3, hr⟩ := gd hr
      refine w_aast 6 dX1_removeHeld_64 rfl (by decide) (by decide) (fun _ => rfl) (hz.k65 rfl) (hz.o6 hy2) (by decide) rfl (gin (hz.n65 rfl) g3) ?_
      obtain ⟨σ4, e5, hr⟩ := lt_e hr
      have hz := (hz.uZ (gi_lt g3) hy2).ts e5
      refine w_aload_n 0 dX1_removeHeld_65 rfl rfl rfl ?_
      refine w_dup dX1_removeHeld_66 rfl rfl ?_
      refine g_X1_59 dX1_removeHeld_67 rfl (hz.o1 rfl) (hz.i66 rfl) ?_
      refine w_iconst 1 dX1_removeHeld_70 rfl rfl ?_
      refine w_isub dX1_removeHeld_71 rfl ?_
      refine p_X1_59 dX1_removeHeld_72 rfl (hz.o1 rfl) ?_
      obtain ⟨σ6, e7, hr⟩ := lt_e hr
      have hz := (hz.s66 (v := ((zI σ4 66 0 0 0) - 1)) rfl).ts e7
      refine w_iconst 1 dX1_removeHeld_75 rfl rfl ?_
      refine w_zret hf dX1_removeHeld_76 rfl rfl (Nat.le_of_ble_eq_true rfl) (Nat.le_of_ble_eq_true rfl) ?_
      obtain ⟨rfl, rfl⟩ := ret_inj hr
      exact ⟨rfl, hz⟩
    · have hr := bf q30 hr
      refine w_aload_n 0 dX1_removeHeld_33 rfl rfl rfl ?_
      refine g_X1_11 dX1_removeHeld_34 rfl (hz.o1 rfl) (hz.r65 rfl) ?_
      refine w_iload_n 3 dX1_removeHeld_37 rfl rfl rfl ?_
      refine w_aload_n 0 dX1_removeHeld_38 rfl rfl rfl ?_
      refine g_X1_11 dX1_removeHeld_39 rfl (hz.o1 rfl) (hz.r65 rfl) ?_
      refine w_iload_n 3 dX1_removeHeld_42 rfl rfl rfl ?_
      refine w_iconst 1 dX1_removeHeld_43 rfl rfl ?_
      refine w_iadd dX1_removeHeld_44 rfl ?_
      obtain ⟨g8, hr⟩ := gd hr
      have hv9 := hz.we65 (gi_lt g8)
      refine w_aald 6 dX1_removeHeld_45 rfl (by decide) (by decide) (fun _ => rfl) (hz.k65 rfl) (gin (hz.n65 rfl) g8) (hz.e65 (gi_lt g8)) ?_
      obtain ⟨g10, hr⟩ := gd hr
      refine w_aast 6 dX1_removeHeld_46 rfl (by decide) (by decide) (fun _ => rfl) (hz.k65 rfl) (hz.o6 hv9) (by decide) rfl (gin (hz.n65 rfl) g10) ?_
      obtain ⟨σ11, e12, hr⟩ := lt_e hr
      have hz := (hz.uZ (gi_lt g10) hv9).ts e12
      refine w_iinc 3 (y3 + 1) [(3, .int (y3 + 1)), (0, .ref (A 1 0 0)), (1, .int x1), (2, .ref (A 6 yp2 ys2))] dX1_removeHeld_47 rfl rfl rfl (by decide) rfl ?_
      refine w_goto 23 dX1_removeHeld_50 rfl ?_
      refine w_lv [(0, .ref (A 1 0 0)), (1, .int x1), (2, .ref (A 6 yp2 ys2)), (3, .int (y3 + 1))] [1, 2, 3, 0] rfl ?_
      exact w_X1_removeHeld_23 hf hrm   n yp2 ys2 (y3 + 1) _ _ hz hy2 hr
set_option maxRecDepth 20000 in
set_option maxHeartbeats 4000000 in
theorem s_X1_removeHeld {A : Nat → Nat → Nat → Nat} {h : Hp} {σ ρ σ' : Zs} {v : Int32} {x1 : Int32}  (hz : Rp A h σ ρ) (hr : fX1_removeHeld x1 σ = some (v, σ')) : ∀ l : Launch, Sp l mX1_removeHeld 0 0 0 [.ref (A 1 0 0), .int x1] h (QI A v σ' ρ) X0 := by
  intro l
  refine Sp.of rfl rfl (lv := [(0, .ref (A 1 0 0)), (1, .int x1)]) (Nat.le_of_ble_eq_true rfl) rfl (fun x hf hrm => ?_)
  rw [fX1_removeHeld.eq_1] at hr
  refine w_iload_n 1 dX1_removeHeld_0 rfl rfl rfl ?_
  refine w_if_lt 12 dX1_removeHeld_1 rfl rfl (fun q1 => ?_) (fun q1 => ?_)
  · have hr := bt q1 hr
    refine w_iconst 0 dX1_removeHeld_12 rfl rfl ?_
    refine w_zret hf dX1_removeHeld_13 rfl rfl (Nat.le_of_ble_eq_true rfl) (Nat.le_of_ble_eq_true rfl) ?_
    obtain ⟨rfl, rfl⟩ := ret_inj hr
    exact ⟨rfl, hz⟩
  · have hr := bf q1 hr
    refine w_iload_n 1 dX1_removeHeld_4 rfl rfl rfl ?_
    refine w_aload_n 0 dX1_removeHeld_5 rfl rfl rfl ?_
    refine g_X1_59 dX1_removeHeld_6 rfl (hz.o1 rfl) (hz.i66 rfl) ?_
    refine w_icmp_lt 14 dX1_removeHeld_9 rfl rfl (fun q9 => ?_) (fun q9 => ?_)
    · have hr := bt q9 hr
      refine w_aload_n 0 dX1_removeHeld_14 rfl rfl rfl ?_
      refine g_X1_11 dX1_removeHeld_15 rfl (hz.o1 rfl) (hz.r65 rfl) ?_
      refine w_iload_n 1 dX1_removeHeld_18 rfl rfl rfl ?_
      obtain ⟨g1, hr⟩ := gd hr
      have hv2 := hz.we65 (gi_lt g1)
      refine w_aald 6 dX1_removeHeld_19 rfl (by decide) (by decide) (fun _ => rfl) (hz.k65 rfl) (gin (hz.n65 rfl) g1) (hz.e65 (gi_lt g1)) ?_
      refine w_astore_n [(2, .ref (A 6 (zR σ 1089 0 0 (Int32.toNatClampNeg x1)).1 (zR σ 1089 0 0 (Int32.toNatClampNeg x1)).2)), (0, .ref (A 1 0 0)), (1, .int x1)] dX1_removeHeld_20 rfl rfl (by decide) rfl ?_
      refine w_iload_n 2 dX1_removeHeld_21 rfl rfl rfl ?_
      refine w_istore_n [(3, .int x1), (2, .ref (A 6 (zR σ 1089 0 0 (Int32.toNatClampNeg x1)).1 (zR σ 1089 0 0 (Int32.toNatClampNeg x1)).2)), (0, .ref (A 1 0 0)), (1, .int x1)] dX1_removeHeld_22 rfl rfl (by decide) rfl ?_
      refine w_lv [(0, .ref (A 1 0 0)), (1, .int x1), (2, .ref (A 6 (zR σ 1089 0 0 (Int32.toNatClampNeg x1)).1 (zR σ 1089 0 0 (Int32.toNatClampNeg x1)).2)), (3, .int x1)] [2, 3, 1, 0] rfl ?_
      exact w_X1_removeHeld_23 hf hrm   FU ((zR σ 1089 0 0 (Int32.toNatClampNeg x1)).1) ((zR σ 1089 0 0 (Int32.toNatClampNeg x1)).2) x1 _ _ hz hv2 hr
    · have hr := bf q9 hr
      refine w_iconst 0 dX1_removeHeld_12 rfl rfl ?_
      refine w_zret hf dX1_removeHeld_13 rfl rfl (Nat.le_of_ble_eq_true rfl) (Nat.le_of_ble_eq_true rfl) ?_
      obtain ⟨rfl, rfl⟩ := ret_inj hr
      exact ⟨rfl, hz⟩

set_option maxRecDepth 20000 in
set_option maxHeartbeats 4000000 in
theorem w_X1_isFirst_90 {A : Nat → Nat → Nat → Nat} {ρ σ' : Zs} {v : Int32} {x : Cxt} {p1 : Nat} {s1 : Nat} {p2 : Nat} {s2 : Nat} {x3 : Int32}  (hf : m_fin 0 0 (QI A v σ' ρ) X0 x) (hrm : m_rm 1 0 0 x) (hV1 : vdb (A 16 0 0) 7 p1 s1 = true) (hV2 : vdb (A 16 0 0) 8 p2 s2 = true) : ∀ (y4 : Int32) (σ : Zs) (h : Hp), Rp A h σ ρ → fX1_isFirst_90 p1 s1 p2 s2 x3  y4 σ = some (v, σ') → wp x mX1_isFirst 90 [(0, .ref (A 1 0 0)), (1, .ref (A 7 p1 s1)), (2, .ref (A 8 p2 s2)), (3, .int x3), (4, .int y4)] [] h 0 0 := by
  intro y4 σ h hz hr
  rw [fX1_isFirst_90.eq_1] at hr
  refine w_iload_n 3 dX1_isFirst_90 rfl rfl rfl ?_
  refine w_aload_n 1 dX1_isFirst_91 rfl rfl rfl ?_
  refine g_X1_238 dX1_isFirst_92 rfl (hz.o7 hV1) (hz.r463 hV1) ?_
  refine w_alen 3 dX1_isFirst_95 rfl (by decide) (by decide) (fun _ => rfl) (hz.k463 hV1) (v := 200) (by rw [hz.n463 hV1]; rfl) ?_
  refine w_icmp_ge 107 dX1_isFirst_96 rfl rfl (fun q96 => ?_) (fun q96 => ?_)
  · have hr := bt q96 hr
    refine w_iload 4 dX1_isFirst_107 rfl rfl ?_
    obtain ⟨g1, hr⟩ := gd hr
    refine w_zret hf dX1_isFirst_109 rfl (zr g1) (Nat.le_of_ble_eq_true rfl) (Nat.le_of_ble_eq_true rfl) ?_
    obtain ⟨rfl, rfl⟩ := ret_inj hr
    exact ⟨rfl, hz⟩
  · have hr := bf q96 hr
    refine w_aload_n 1 dX1_isFirst_99 rfl rfl rfl ?_
    refine g_X1_238 dX1_isFirst_100 rfl (hz.o7 hV1) (hz.r463 hV1) ?_
    refine w_iload_n 3 dX1_isFirst_103 rfl rfl rfl ?_
    refine w_iload 4 dX1_isFirst_104 rfl rfl ?_
    obtain ⟨g2, hr⟩ := gd hr
    obtain ⟨g3, hr⟩ := gd hr
    refine w_zast dX1_isFirst_106 rfl (hz.k463 hV1) (gin (hz.n463 hV1) g2) (zn g3) ?_
    obtain ⟨σ4, e5, hr⟩ := lt_e hr
    have hz := (hz.s463 (i := (Int32.toNatClampNeg x3)) (v := y4) hV1).ts e5
    refine w_iload 4 dX1_isFirst_107 rfl rfl ?_
    obtain ⟨g6, hr⟩ := gd hr
    refine w_zret hf dX1_isFirst_109 rfl (zr g6) (Nat.le_of_ble_eq_true rfl) (Nat.le_of_ble_eq_true rfl) ?_
    obtain ⟨rfl, rfl⟩ := ret_inj hr
    exact ⟨rfl, hz⟩
set_option maxRecDepth 20000 in
set_option maxHeartbeats 4000000 in
theorem w_X1_isFirst_6 {A : Nat → Nat → Nat → Nat} {ρ σ' : Zs} {v : Int32} {x : Cxt} {p1 : Nat} {s1 : Nat} {p2 : Nat} {s2 : Nat} {x3 : Int32}  (hf : m_fin 0 0 (QI A v σ' ρ) X0 x) (hrm : m_rm 1 0 0 x) (hV1 : vdb (A 16 0 0) 7 p1 s1 = true) (hV2 : vdb (A 16 0 0) 8 p2 s2 = true) : ∀ (n : Nat) (y4 : Int32) (y5 : Int32) (σ : Zs) (h : Hp), Rp A h σ ρ → fX1_isFirst_6 p1 s1 p2 s2 x3  n y4 y5 σ = some (v, σ') → wp x mX1_isFirst 6 [(0, .ref (A 1 0 0)), (1, .ref (A 7 p1 s1)), (2, .ref (A 8 p2 s2)), (3, .int x3), (4, .int y4), (5, .int y5)] [] h 0 0
  | 0, _, _, σ, h => fun hz hr => by
    rw [fX1_isFirst_6.eq_1] at hr
    exact nono hr
  | n + 1, y4, y5, σ, h => fun hz hr => by
    rw [fX1_isFirst_6.eq_2] at hr
    refine w_iload 5 dX1_isFirst_6 rfl rfl ?_
    refine w_iload_n 3 dX1_isFirst_8 rfl rfl rfl ?_
    refine w_icmp_ge 90 dX1_isFirst_9 rfl rfl (fun q9 => ?_) (fun q9 => ?_)
    · have hr := bt q9 hr
      refine w_lv [(0, .ref (A 1 0 0)), (1, .ref (A 7 p1 s1)), (2, .ref (A 8 p2 s2)), (3, .int x3), (4, .int y4)] [0, 1, 2, 3, 4] rfl ?_
      exact w_X1_isFirst_90 hf hrm hV1 hV2  y4 _ _ hz  hr
    · have hr := bf q9 hr
      refine w_iload 5 dX1_isFirst_12 rfl rfl ?_
      refine w_aload_n 1 dX1_isFirst_14 rfl rfl rfl ?_
      refine g_X1_238 dX1_isFirst_15 rfl (hz.o7 hV1) (hz.r463 hV1) ?_
      refine w_alen 3 dX1_isFirst_18 rfl (by decide) (by decide) (fun _ => rfl) (hz.k463 hV1) (v := 200) (by rw [hz.n463 hV1]; rfl) ?_
      refine w_icmp_ge 90 dX1_isFirst_19 rfl rfl (fun q19 => ?_) (fun q19 => ?_)
      · have hr := bt q19 hr
        refine w_lv [(0, .ref (A 1 0 0)), (1, .ref (A 7 p1 s1)), (2, .ref (A 8 p2 s2)), (3, .int x3), (4, .int y4)] [0, 1, 2, 3, 4] rfl ?_
        exact w_X1_isFirst_90 hf hrm hV1 hV2  y4 _ _ hz  hr
      · have hr := bf q19 hr
        refine w_aload_n 1 dX1_isFirst_22 rfl rfl rfl ?_
        refine g_X1_238 dX1_isFirst_23 rfl (hz.o7 hV1) (hz.r463 hV1) ?_
        refine w_iload 5 dX1_isFirst_26 rfl rfl ?_
        obtain ⟨g7, hr⟩ := gd hr
        refine w_zald dX1_isFirst_28 rfl (hz.k463 hV1) (gin (hz.n463 hV1) g7) (hz.x463 hV1) ?_
        refine w_if_eq 84 dX1_isFirst_29 rfl rfl (fun q29 => ?_) (fun q29 => ?_)
        · have hr := bt q29 hr
          refine w_iinc 5 (y5 + 1) [(5, .int (y5 + 1)), (0, .ref (A 1 0 0)), (1, .ref (A 7 p1 s1)), (2, .ref (A 8 p2 s2)), (3, .int x3), (4, .int y4)] dX1_isFirst_84 rfl rfl rfl (by decide) rfl ?_
          refine w_goto 6 dX1_isFirst_87 rfl ?_
          refine w_lv [(0, .ref (A 1 0 0)), (1, .ref (A 7 p1 s1)), (2, .ref (A 8 p2 s2)), (3, .int x3), (4, .int y4), (5, .int (y5 + 1))] [1, 2, 3, 4, 5, 0] rfl ?_
          exact w_X1_isFirst_6 hf hrm hV1 hV2  n y4 (y5 + 1) _ _ hz  hr
        · have hr := bf q29 hr
          refine w_aload_n 2 dX1_isFirst_32 rfl rfl rfl ?_
          refine w_iload 5 dX1_isFirst_33 rfl rfl ?_
          refine w_aload_n 1 dX1_isFirst_35 rfl rfl rfl ?_
          refine g_X1_242 dX1_isFirst_36 rfl (hz.o7 hV1) (hz.i453 hV1) ?_
          obtain ⟨v8, σ9, e10, hr⟩ := bq_some hr
          refine c_X1_245 (As := [.int y5, .int (zI σ 453 p1 s1 0)]) (rest := []) (fun l => s_X8_numberOf hV2 hz e10 l) hrm dX1_isFirst_39 rfl rfl (Nat.le_of_ble_eq_true rfl) (Nat.le_of_ble_eq_true rfl) (Nat.le_of_ble_eq_true rfl) (hz.o8 hV2) rfl (Nat.le_of_ble_eq_true rfl) (fun vr h2 hq => ?_) (fun E9 h9 hq => hq.elim)
          obtain ⟨rfl, hz⟩ := hq
          show wp _ _ 42 [(0, .ref (A 1 0 0)), (1, .ref (A 7 p1 s1)), (2, .ref (A 8 p2 s2)), (3, .int x3), (4, .int y4), (5, .int y5)] [.long v8] _ _ _
          refine w_aload_n 0 dX1_isFirst_42 rfl rfl rfl ?_
          refine g_X1_18 dX1_isFirst_43 rfl (hz.o1 rfl) (hz.r71 rfl) ?_
          refine w_aload_n 1 dX1_isFirst_46 rfl rfl rfl ?_
          refine g_X1_242 dX1_isFirst_47 rfl (hz.o7 hV1) (hz.i453 hV1) ?_
          obtain ⟨v12, σ13, e14, hr⟩ := bq_some hr
          refine c_X1_230 (As := [.int (zI σ9 453 p1 s1 0)]) (rest := [.long v8]) (fun l => s_X6_numberAt rfl hz e14 l) hrm dX1_isFirst_50 rfl rfl (Nat.le_of_ble_eq_true rfl) (Nat.le_of_ble_eq_true rfl) (Nat.le_of_ble_eq_true rfl) (hz.o6 rfl) rfl (Nat.le_of_ble_eq_true rfl) (fun vr h2 hq => ?_) (fun E9 h9 hq => hq.elim)
          obtain ⟨rfl, hz⟩ := hq
          show wp _ _ 53 [(0, .ref (A 1 0 0)), (1, .ref (A 7 p1 s1)), (2, .ref (A 8 p2 s2)), (3, .int x3), (4, .int y4), (5, .int y5)] [.long v12, .long v8] _ _ _
          refine w_lcmp dX1_isFirst_53 rfl ?_
          refine w_if_ne 84 dX1_isFirst_54 rfl rfl (fun q54 => ?_) (fun q54 => ?_)
          · have hr := bf q54 hr
            refine w_iinc 5 (y5 + 1) [(5, .int (y5 + 1)), (0, .ref (A 1 0 0)), (1, .ref (A 7 p1 s1)), (2, .ref (A 8 p2 s2)), (3, .int x3), (4, .int y4)] dX1_isFirst_84 rfl rfl rfl (by decide) rfl ?_
            refine w_goto 6 dX1_isFirst_87 rfl ?_
            refine w_lv [(0, .ref (A 1 0 0)), (1, .ref (A 7 p1 s1)), (2, .ref (A 8 p2 s2)), (3, .int x3), (4, .int y4), (5, .int (y5 + 1))] [1, 2, 3, 4, 5, 0] rfl ?_
            exact w_X1_isFirst_6 hf hrm hV1 hV2  n y4 (y5 + 1) _ _ hz  hr
          · have hr := bt q54 hr
            refine w_aload_n 2 dX1_isFirst_57 rfl rfl rfl ?_
            refine w_iload 5 dX1_isFirst_58 rfl rfl ?_
            obtain ⟨v16, σ17, e18, hr⟩ := bq_some hr
            refine c_X1_249 (As := [.int y5]) (rest := []) (fun l => s_X8_timeOf hV2 hz e18 l) hrm dX1_isFirst_60 rfl rfl (Nat.le_of_ble_eq_true rfl) (Nat.le_of_ble_eq_true rfl) (Nat.le_of_ble_eq_true rfl) (hz.o8 hV2) rfl (Nat.le_of_ble_eq_true rfl) (fun vr h2 hq => ?_) (fun E9 h9 hq => hq.elim)
            obtain ⟨rfl, hz⟩ := hq
            show wp _ _ 63 [(0, .ref (A 1 0 0)), (1, .ref (A 7 p1 s1)), (2, .ref (A 8 p2 s2)), (3, .int x3), (4, .int y4), (5, .int y5)] [.int v16] _ _ _
            refine w_aload_n 0 dX1_isFirst_63 rfl rfl rfl ?_
            refine g_X1_18 dX1_isFirst_64 rfl (hz.o1 rfl) (hz.r71 rfl) ?_
            refine g_X1_127 dX1_isFirst_67 rfl (hz.o6 rfl) (hz.i384 rfl) ?_
            refine w_isub dX1_isFirst_70 rfl ?_
            refine w_mabs hrm (by decide) dX1_isFirst_71 rfl ml_X1_253 (Nat.le_of_ble_eq_true rfl) (Nat.le_of_ble_eq_true rfl) (Nat.le_of_ble_eq_true rfl) ?_
            refine w_aload_n 1 dX1_isFirst_74 rfl rfl rfl ?_
            refine g_X1_130 dX1_isFirst_75 rfl (hz.o7 hV1) (hz.i455 hV1) ?_
            refine w_icmp_gt 84 dX1_isFirst_78 rfl rfl (fun q78 => ?_) (fun q78 => ?_)
            · have hr := bt q78 hr
              refine w_iinc 5 (y5 + 1) [(5, .int (y5 + 1)), (0, .ref (A 1 0 0)), (1, .ref (A 7 p1 s1)), (2, .ref (A 8 p2 s2)), (3, .int x3), (4, .int y4)] dX1_isFirst_84 rfl rfl rfl (by decide) rfl ?_
              refine w_goto 6 dX1_isFirst_87 rfl ?_
              refine w_lv [(0, .ref (A 1 0 0)), (1, .ref (A 7 p1 s1)), (2, .ref (A 8 p2 s2)), (3, .int x3), (4, .int y4), (5, .int (y5 + 1))] [1, 2, 3, 4, 5, 0] rfl ?_
              exact w_X1_isFirst_6 hf hrm hV1 hV2  n y4 (y5 + 1) _ _ hz  hr
            · have hr := bf q78 hr
              refine w_iconst 0 dX1_isFirst_81 rfl rfl ?_
              refine w_istore [(4, .int 0), (0, .ref (A 1 0 0)), (1, .ref (A 7 p1 s1)), (2, .ref (A 8 p2 s2)), (3, .int x3), (5, .int y5)] dX1_isFirst_82 rfl (by decide) rfl ?_
              refine w_iinc 5 (y5 + 1) [(5, .int (y5 + 1)), (4, .int 0), (0, .ref (A 1 0 0)), (1, .ref (A 7 p1 s1)), (2, .ref (A 8 p2 s2)), (3, .int x3)] dX1_isFirst_84 rfl rfl rfl (by decide) rfl ?_
              refine w_goto 6 dX1_isFirst_87 rfl ?_
              refine w_lv [(0, .ref (A 1 0 0)), (1, .ref (A 7 p1 s1)), (2, .ref (A 8 p2 s2)), (3, .int x3), (4, .int 0), (5, .int (y5 + 1))] [2, 3, 4, 5, 1, 0] rfl ?_
              exact w_X1_isFirst_6 hf hrm hV1 hV2  n 0 (y5 + 1) _ _ hz  hr
set_option maxRecDepth 20000 in
set_option maxHeartbeats 4000000 in
theorem s_X1_isFirst {A : Nat → Nat → Nat → Nat} {h : Hp} {σ ρ σ' : Zs} {v : Int32} {p1 : Nat} {s1 : Nat} {p2 : Nat} {s2 : Nat} {x3 : Int32} (hV1 : vdb (A 16 0 0) 7 p1 s1 = true) (hV2 : vdb (A 16 0 0) 8 p2 s2 = true) (hz : Rp A h σ ρ) (hr : fX1_isFirst p1 s1 p2 s2 x3 σ = some (v, σ')) : ∀ l : Launch, Sp l mX1_isFirst 1 0 0 [.ref (A 1 0 0), .ref (A 7 p1 s1), .ref (A 8 p2 s2), .int x3] h (QI A v σ' ρ) X0 := by
  intro l
  refine Sp.of rfl rfl (lv := [(0, .ref (A 1 0 0)), (1, .ref (A 7 p1 s1)), (2, .ref (A 8 p2 s2)), (3, .int x3)]) (Nat.le_of_ble_eq_true rfl) rfl (fun x hf hrm => ?_)
  rw [fX1_isFirst.eq_1] at hr
  refine w_iconst 1 dX1_isFirst_0 rfl rfl ?_
  refine w_istore [(4, .int 1), (0, .ref (A 1 0 0)), (1, .ref (A 7 p1 s1)), (2, .ref (A 8 p2 s2)), (3, .int x3)] dX1_isFirst_1 rfl (by decide) rfl ?_
  refine w_iconst 0 dX1_isFirst_3 rfl rfl ?_
  refine w_istore [(5, .int 0), (4, .int 1), (0, .ref (A 1 0 0)), (1, .ref (A 7 p1 s1)), (2, .ref (A 8 p2 s2)), (3, .int x3)] dX1_isFirst_4 rfl (by decide) rfl ?_
  refine w_lv [(0, .ref (A 1 0 0)), (1, .ref (A 7 p1 s1)), (2, .ref (A 8 p2 s2)), (3, .int x3), (4, .int 1), (5, .int 0)] [2, 3, 4, 5, 1, 0] rfl ?_
  exact w_X1_isFirst_6 hf hrm hV1 hV2  FU 1 0 _ _ hz  hr

set_option maxRecDepth 20000 in
set_option maxHeartbeats 4000000 in
theorem w_X1_makeJoined_29 {A : Nat → Nat → Nat → Nat} {ρ σ' : Zs} {v : Unit} {x : Cxt} {p1 : Nat} {s1 : Nat} {p2 : Nat} {s2 : Nat} {p3 : Nat} {s3 : Nat}  (hf : m_fin 0 0 (QV A v σ' ρ) X0 x) (hrm : m_rm 1 0 0 x) (hV1 : vdb (A 16 0 0) 7 p1 s1 = true) (hV2 : vdb (A 16 0 0) 6 p2 s2 = true) (hV3 : vdb (A 16 0 0) 6 p3 s3 = true) : ∀ (n : Nat) (y4 : Int32) (σ : Zs) (h : Hp), Rp A h σ ρ → fX1_makeJoined_29 p1 s1 p2 s2 p3 s3  n y4 σ = some (v, σ') → wp x mX1_makeJoined 29 [(0, .ref (A 1 0 0)), (1, .ref (A 7 p1 s1)), (2, .ref (A 6 p2 s2)), (3, .ref (A 6 p3 s3)), (4, .int y4)] [] h 0 0
  | 0, _, σ, h => fun hz hr => by
    rw [fX1_makeJoined_29.eq_1] at hr
    exact nono hr
  | n + 1, y4, σ, h => fun hz hr => by
    rw [fX1_makeJoined_29.eq_2] at hr
    refine w_iload 4 dX1_makeJoined_29 rfl rfl ?_
    refine w_aload_n 3 dX1_makeJoined_31 rfl rfl rfl ?_
    refine g_X1_126 dX1_makeJoined_32 rfl (hz.o6 hV3) (hz.i385 hV3) ?_
    refine w_icmp_ge 66 dX1_makeJoined_35 rfl rfl (fun q35 => ?_) (fun q35 => ?_)
    · have hr := bt q35 hr
      refine w_vret hf dX1_makeJoined_66 rfl (Nat.le_of_ble_eq_true rfl) (Nat.le_of_ble_eq_true rfl) ?_
      obtain ⟨rfl, rfl⟩ := ret_inj hr
      exact ⟨rfl, hz⟩
    · have hr := bf q35 hr
      refine w_iload 4 dX1_makeJoined_38 rfl rfl ?_
      refine w_aload_n 1 dX1_makeJoined_40 rfl rfl rfl ?_
      refine g_X1_256 dX1_makeJoined_41 rfl (hz.o7 hV1) (hz.i454 hV1) ?_
      refine w_icmp_eq 60 dX1_makeJoined_44 rfl rfl (fun q44 => ?_) (fun q44 => ?_)
      · have hr := bt q44 hr
        refine w_iinc 4 (y4 + 1) [(4, .int (y4 + 1)), (0, .ref (A 1 0 0)), (1, .ref (A 7 p1 s1)), (2, .ref (A 6 p2 s2)), (3, .ref (A 6 p3 s3))] dX1_makeJoined_60 rfl rfl rfl (by decide) rfl ?_
        refine w_goto 29 dX1_makeJoined_63 rfl ?_
        refine w_lv [(0, .ref (A 1 0 0)), (1, .ref (A 7 p1 s1)), (2, .ref (A 6 p2 s2)), (3, .ref (A 6 p3 s3)), (4, .int (y4 + 1))] [1, 2, 3, 4, 0] rfl ?_
        exact w_X1_makeJoined_29 hf hrm hV1 hV2 hV3  n (y4 + 1) _ _ hz  hr
      · have hr := bf q44 hr
        refine w_aload_n 0 dX1_makeJoined_47 rfl rfl rfl ?_
        refine g_X1_25 dX1_makeJoined_48 rfl (hz.o1 rfl) (hz.r73 rfl) ?_
        refine w_aload_n 3 dX1_makeJoined_51 rfl rfl rfl ?_
        refine w_iload 4 dX1_makeJoined_52 rfl rfl ?_
        obtain ⟨v7, σ8, e9, hr⟩ := bq_some hr
        refine c_X1_230 (As := [.int y4]) (rest := [.ref (A 6 2 0)]) (fun l => s_X6_numberAt hV3 hz e9 l) hrm dX1_makeJoined_54 rfl rfl (Nat.le_of_ble_eq_true rfl) (Nat.le_of_ble_eq_true rfl) (Nat.le_of_ble_eq_true rfl) (hz.o6 hV3) rfl (Nat.le_of_ble_eq_true rfl) (fun vr h2 hq => ?_) (fun E9 h9 hq => hq.elim)
        obtain ⟨rfl, hz⟩ := hq
        show wp _ _ 57 [(0, .ref (A 1 0 0)), (1, .ref (A 7 p1 s1)), (2, .ref (A 6 p2 s2)), (3, .ref (A 6 p3 s3)), (4, .int y4)] [.long v7, .ref (A 6 2 0)] _ _ _
        obtain ⟨v11, σ12, e13, hr⟩ := bq_some hr
        refine c_X1_219 (As := [.long v7]) (rest := []) (fun l => s_X6_append rfl hz e13 l) hrm dX1_makeJoined_57 rfl rfl (Nat.le_of_ble_eq_true rfl) (Nat.le_of_ble_eq_true rfl) (Nat.le_of_ble_eq_true rfl) (hz.o6 rfl) rfl (Nat.le_of_ble_eq_true rfl) (fun vr h2 hq => ?_) (fun E9 h9 hq => hq.elim)
        obtain ⟨rfl, hz⟩ := hq
        show wp _ _ 60 [(0, .ref (A 1 0 0)), (1, .ref (A 7 p1 s1)), (2, .ref (A 6 p2 s2)), (3, .ref (A 6 p3 s3)), (4, .int y4)] [] _ _ _
        refine w_iinc 4 (y4 + 1) [(4, .int (y4 + 1)), (0, .ref (A 1 0 0)), (1, .ref (A 7 p1 s1)), (2, .ref (A 6 p2 s2)), (3, .ref (A 6 p3 s3))] dX1_makeJoined_60 rfl rfl rfl (by decide) rfl ?_
        refine w_goto 29 dX1_makeJoined_63 rfl ?_
        refine w_lv [(0, .ref (A 1 0 0)), (1, .ref (A 7 p1 s1)), (2, .ref (A 6 p2 s2)), (3, .ref (A 6 p3 s3)), (4, .int (y4 + 1))] [1, 2, 3, 4, 0] rfl ?_
        exact w_X1_makeJoined_29 hf hrm hV1 hV2 hV3  n (y4 + 1) _ _ hz  hr
set_option maxRecDepth 20000 in
set_option maxHeartbeats 4000000 in
theorem s_X1_makeJoined {A : Nat → Nat → Nat → Nat} {h : Hp} {σ ρ σ' : Zs} {v : Unit} {p1 : Nat} {s1 : Nat} {p2 : Nat} {s2 : Nat} {p3 : Nat} {s3 : Nat} (hV1 : vdb (A 16 0 0) 7 p1 s1 = true) (hV2 : vdb (A 16 0 0) 6 p2 s2 = true) (hV3 : vdb (A 16 0 0) 6 p3 s3 = true) (hz : Rp A h σ ρ) (hr : fX1_makeJoined p1 s1 p2 s2 p3 s3 σ = some (v, σ')) : ∀ l : Launch, Sp l mX1_makeJoined 1 0 0 [.ref (A 1 0 0), .ref (A 7 p1 s1), .ref (A 6 p2 s2), .ref (A 6 p3 s3)] h (QV A v σ' ρ) X0 := by
  intro l
  refine Sp.of rfl rfl (lv := [(0, .ref (A 1 0 0)), (1, .ref (A 7 p1 s1)), (2, .ref (A 6 p2 s2)), (3, .ref (A 6 p3 s3))]) (Nat.le_of_ble_eq_true rfl) rfl (fun x hf hrm => ?_)
  rw [fX1_makeJoined.eq_1] at hr
  refine w_aload_n 0 dX1_makeJoined_0 rfl rfl rfl ?_
  refine g_X1_25 dX1_makeJoined_1 rfl (hz.o1 rfl) (hz.r73 rfl) ?_
  refine w_aload_n 2 dX1_makeJoined_4 rfl rfl rfl ?_
  obtain ⟨v1, σ2, e3, hr⟩ := bq_some hr
  refine c_X1_143 (As := [.ref (A 6 p2 s2)]) (rest := []) (fun l => s_X6_copyFrom rfl hV2 hz e3 l) hrm dX1_makeJoined_5 rfl rfl (Nat.le_of_ble_eq_true rfl) (Nat.le_of_ble_eq_true rfl) (Nat.le_of_ble_eq_true rfl) (hz.o6 rfl) rfl (Nat.le_of_ble_eq_true rfl) (fun vr h2 hq => ?_) (fun E9 h9 hq => hq.elim)
  obtain ⟨rfl, hz⟩ := hq
  show wp _ _ 8 [(0, .ref (A 1 0 0)), (1, .ref (A 7 p1 s1)), (2, .ref (A 6 p2 s2)), (3, .ref (A 6 p3 s3))] [] _ _ _
  refine w_aload_n 0 dX1_makeJoined_8 rfl rfl rfl ?_
  refine g_X1_25 dX1_makeJoined_9 rfl (hz.o1 rfl) (hz.r73 rfl) ?_
  refine w_aload_n 2 dX1_makeJoined_12 rfl rfl rfl ?_
  refine g_X1_127 dX1_makeJoined_13 rfl (hz.o6 hV2) (hz.i384 hV2) ?_
  refine w_aload_n 3 dX1_makeJoined_16 rfl rfl rfl ?_
  refine g_X1_127 dX1_makeJoined_17 rfl (hz.o6 hV3) (hz.i384 hV3) ?_
  refine w_mmax hrm (by decide) dX1_makeJoined_20 rfl ml_X1_133 (Nat.le_of_ble_eq_true rfl) (Nat.le_of_ble_eq_true rfl) (Nat.le_of_ble_eq_true rfl) ?_
  refine p_X1_127 dX1_makeJoined_23 rfl (hz.o6 rfl) ?_
  obtain ⟨σ5, e6, hr⟩ := lt_e hr
  have hz := (hz.s384 (v := (p_max (zI σ2 384 p2 s2 0) (zI σ2 384 p3 s3 0))) rfl).ts e6
  refine w_iconst 0 dX1_makeJoined_26 rfl rfl ?_
  refine w_istore [(4, .int 0), (0, .ref (A 1 0 0)), (1, .ref (A 7 p1 s1)), (2, .ref (A 6 p2 s2)), (3, .ref (A 6 p3 s3))] dX1_makeJoined_27 rfl (by decide) rfl ?_
  refine w_lv [(0, .ref (A 1 0 0)), (1, .ref (A 7 p1 s1)), (2, .ref (A 6 p2 s2)), (3, .ref (A 6 p3 s3)), (4, .int 0)] [1, 2, 3, 4, 0] rfl ?_
  exact w_X1_makeJoined_29 hf hrm hV1 hV2 hV3  FU 0 _ _ hz  hr

set_option maxRecDepth 20000 in
set_option maxHeartbeats 4000000 in
theorem w_X1_joinNewRow_173 {A : Nat → Nat → Nat → Nat} {ρ σ' : Zs} {v : Unit} {x : Cxt} {x1 : Int32} {p2 : Nat} {s2 : Nat} {x3 : Int32} {k89 : Nat → Nat → Int32 → Int32 → Int64 → Int32 → Zs → Option (Unit × Zs)}  (hf : m_fin 0 0 (QV A v σ' ρ) X0 x) (hrm : m_rm 3 0 0 x) (hV2 : vdb (A 16 0 0) 7 p2 s2 = true) (hk89 : ∀ (yp4 : Nat) (ys4 : Nat) (y5 : Int32) (y6 : Int32) (y7 : Int64) (y9 : Int32) (σ : Zs) (h : Hp), Rp A h σ ρ → vdb (A 16 0 0) 7 yp4 ys4 = true → k89 yp4 ys4 y5 y6 y7 y9 σ = some (v, σ') → wp x mX1_joinNewRow 89 [(0, .ref (A 1 0 0)), (1, .int x1), (2, .ref (A 7 p2 s2)), (3, .int x3), (4, .ref (A 7 yp4 ys4)), (5, .int y5), (6, .int y6), (7, .long y7), (9, .int y9)] [] h 0 0) : ∀ (yp4 : Nat) (ys4 : Nat) (y5 : Int32) (y6 : Int32) (y7 : Int64) (y9 : Int32) (zp0 : Nat) (zs0 : Nat) (zp1 : Nat) (zs1 : Nat) (σ : Zs) (h : Hp), Rp A h σ ρ → vdb (A 16 0 0) 7 yp4 ys4 = true → vdb (A 16 0 0) 6 zp0 zs0 = true → vdb (A 16 0 0) 7 zp1 zs1 = true → fX1_joinNewRow_173 x1 p2 s2 x3 k89 yp4 ys4 y5 y6 y7 y9 zp0 zs0 zp1 zs1 σ = some (v, σ') → wp x mX1_joinNewRow 173 [(0, .ref (A 1 0 0)), (1, .int x1), (2, .ref (A 7 p2 s2)), (3, .int x3), (4, .ref (A 7 yp4 ys4)), (5, .int y5), (6, .int y6), (7, .long y7), (9, .int y9)] [.ref (A 6 zp0 zs0), .ref (A 7 zp1 zs1), .ref (A 1 0 0)] h 0 0 := by
  intro yp4 ys4 y5 y6 y7 y9 zp0 zs0 zp1 zs1 σ h hz hy4 hz0 hz1 hr
  rw [fX1_joinNewRow_173.eq_1] at hr
  refine w_iload_n 3 dX1_joinNewRow_173 rfl rfl rfl ?_
  refine w_if_eq 184 dX1_joinNewRow_174 rfl rfl (fun q174 => ?_) (fun q174 => ?_)
  · have hr := bt q174 hr
    refine w_aload_n 0 dX1_joinNewRow_184 rfl rfl rfl ?_
    refine g_X1_18 dX1_joinNewRow_185 rfl (hz.o1 rfl) (hz.r71 rfl) ?_
    obtain ⟨v23, σ24, e25, hr⟩ := bq_some hr
    refine c_X1_259 (As := [.ref (A 7 zp1 zs1), .ref (A 6 zp0 zs0), .ref (A 6 0 0)]) (rest := []) (fun l => s_X1_makeJoined hz1 hz0 rfl hz e25 l) hrm dX1_joinNewRow_188 rfl rfl (Nat.le_of_ble_eq_true rfl) (Nat.le_of_ble_eq_true rfl) (Nat.le_of_ble_eq_true rfl) (hz.o1 rfl) rfl (Nat.le_of_ble_eq_true rfl) (fun vr h2 hq => ?_) (fun E9 h9 hq => hq.elim)
    obtain ⟨rfl, hz⟩ := hq
    show wp _ _ 191 [(0, .ref (A 1 0 0)), (1, .int x1), (2, .ref (A 7 p2 s2)), (3, .int x3), (4, .ref (A 7 yp4 ys4)), (5, .int y5), (6, .int y6), (7, .long y7), (9, .int y9)] [] _ _ _
    refine w_aload_n 0 dX1_joinNewRow_191 rfl rfl rfl ?_
    refine w_iload_n 1 dX1_joinNewRow_192 rfl rfl rfl ?_
    refine w_aload_n 0 dX1_joinNewRow_193 rfl rfl rfl ?_
    refine g_X1_25 dX1_joinNewRow_194 rfl (hz.o1 rfl) (hz.r73 rfl) ?_
    obtain ⟨v27, σ28, e29, hr⟩ := bq_some hr
    refine c_X1_139 (As := [.int x1, .ref (A 6 2 0)]) (rest := []) (fun l => s_X1_give rfl hz e29 l) hrm dX1_joinNewRow_197 rfl rfl (Nat.le_of_ble_eq_true rfl) (Nat.le_of_ble_eq_true rfl) (Nat.le_of_ble_eq_true rfl) (hz.o1 rfl) rfl (Nat.le_of_ble_eq_true rfl) (fun vr h2 hq => ?_) (fun E9 h9 hq => hq.elim)
    obtain ⟨rfl, hz⟩ := hq
    show wp _ _ 200 [(0, .ref (A 1 0 0)), (1, .int x1), (2, .ref (A 7 p2 s2)), (3, .int x3), (4, .ref (A 7 yp4 ys4)), (5, .int y5), (6, .int y6), (7, .long y7), (9, .int y9)] [] _ _ _
    refine w_iinc 8 (y9 + 1) [(9, .int (y9 + 1)), (0, .ref (A 1 0 0)), (1, .int x1), (2, .ref (A 7 p2 s2)), (3, .int x3), (4, .ref (A 7 yp4 ys4)), (5, .int y5), (6, .int y6), (7, .long y7)] dX1_joinNewRow_200 rfl rfl rfl (by decide) rfl ?_
    refine w_goto 89 dX1_joinNewRow_203 rfl ?_
    refine w_lv [(0, .ref (A 1 0 0)), (1, .int x1), (2, .ref (A 7 p2 s2)), (3, .int x3), (4, .ref (A 7 yp4 ys4)), (5, .int y5), (6, .int y6), (7, .long y7), (9, .int (y9 + 1))] [1, 2, 3, 4, 5, 6, 7, 8, 0] rfl ?_
    exact hk89 yp4 ys4 y5 y6 y7 (y9 + 1) _ _ hz hy4 hr
  · have hr := bf q174 hr
    refine w_aload_n 0 dX1_joinNewRow_177 rfl rfl rfl ?_
    refine g_X1_22 dX1_joinNewRow_178 rfl (hz.o1 rfl) (hz.r72 rfl) ?_
    refine w_goto 188 dX1_joinNewRow_181 rfl ?_
    obtain ⟨v31, σ32, e33, hr⟩ := bq_some hr
    refine c_X1_259 (As := [.ref (A 7 zp1 zs1), .ref (A 6 zp0 zs0), .ref (A 6 1 0)]) (rest := []) (fun l => s_X1_makeJoined hz1 hz0 rfl hz e33 l) hrm dX1_joinNewRow_188 rfl rfl (Nat.le_of_ble_eq_true rfl) (Nat.le_of_ble_eq_true rfl) (Nat.le_of_ble_eq_true rfl) (hz.o1 rfl) rfl (Nat.le_of_ble_eq_true rfl) (fun vr h2 hq => ?_) (fun E9 h9 hq => hq.elim)
    obtain ⟨rfl, hz⟩ := hq
    show wp _ _ 191 [(0, .ref (A 1 0 0)), (1, .int x1), (2, .ref (A 7 p2 s2)), (3, .int x3), (4, .ref (A 7 yp4 ys4)), (5, .int y5), (6, .int y6), (7, .long y7), (9, .int y9)] [] _ _ _
    refine w_aload_n 0 dX1_joinNewRow_191 rfl rfl rfl ?_
    refine w_iload_n 1 dX1_joinNewRow_192 rfl rfl rfl ?_
    refine w_aload_n 0 dX1_joinNewRow_193 rfl rfl rfl ?_
    refine g_X1_25 dX1_joinNewRow_194 rfl (hz.o1 rfl) (hz.r73 rfl) ?_
    obtain ⟨v35, σ36, e37, hr⟩ := bq_some hr
    refine c_X1_139 (As := [.int x1, .ref (A 6 2 0)]) (rest := []) (fun l => s_X1_give rfl hz e37 l) hrm dX1_joinNewRow_197 rfl rfl (Nat.le_of_ble_eq_true rfl) (Nat.le_of_ble_eq_true rfl) (Nat.le_of_ble_eq_true rfl) (hz.o1 rfl) rfl (Nat.le_of_ble_eq_true rfl) (fun vr h2 hq => ?_) (fun E9 h9 hq => hq.elim)
    obtain ⟨rfl, hz⟩ := hq
    show wp _ _ 200 [(0, .ref (A 1 0 0)), (1, .int x1), (2, .ref (A 7 p2 s2)), (3, .int x3), (4, .ref (A 7 yp4 ys4)), (5, .int y5), (6, .int y6), (7, .long y7), (9, .int y9)] [] _ _ _
    refine w_iinc 8 (y9 + 1) [(9, .int (y9 + 1)), (0, .ref (A 1 0 0)), (1, .int x1), (2, .ref (A 7 p2 s2)), (3, .int x3), (4, .ref (A 7 yp4 ys4)), (5, .int y5), (6, .int y6), (7, .long y7)] dX1_joinNewRow_200 rfl rfl rfl (by decide) rfl ?_
    refine w_goto 89 dX1_joinNewRow_203 rfl ?_
    refine w_lv [(0, .ref (A 1 0 0)), (1, .int x1), (2, .ref (A 7 p2 s2)), (3, .int x3), (4, .ref (A 7 yp4 ys4)), (5, .int y5), (6, .int y6), (7, .long y7), (9, .int (y9 + 1))] [1, 2, 3, 4, 5, 6, 7, 8, 0] rfl ?_
    exact hk89 yp4 ys4 y5 y6 y7 (y9 + 1) _ _ hz hy4 hr
set_option maxRecDepth 20000 in
set_option maxHeartbeats 4000000 in
theorem w_X1_joinNewRow_89 {A : Nat → Nat → Nat → Nat} {ρ σ' : Zs} {v : Unit} {x : Cxt} {x1 : Int32} {p2 : Nat} {s2 : Nat} {x3 : Int32}  (hf : m_fin 0 0 (QV A v σ' ρ) X0 x) (hrm : m_rm 3 0 0 x) (hV2 : vdb (A 16 0 0) 7 p2 s2 = true) : ∀ (n : Nat) (yp4 : Nat) (ys4 : Nat) (y5 : Int32) (y6 : Int32) (y7 : Int64) (y9 : Int32) (σ : Zs) (h : Hp), Rp A h σ ρ → vdb (A 16 0 0) 7 yp4 ys4 = true → fX1_joinNewRow_89 x1 p2 s2 x3  n yp4 ys4 y5 y6 y7 y9 σ = some (v, σ') → wp x mX1_joinNewRow 89 [(0, .ref (A 1 0 0)), (1, .int x1), (2, .ref (A 7 p2 s2)), (3, .int x3), (4, .ref (A 7 yp4 ys4)), (5, .int y5), (6, .int y6), (7, .long y7), (9, .int y9)] [] h 0 0
  | 0, _, _, _, _, _, _, σ, h => fun hz _ hr => by
    rw [fX1_joinNewRow_89.eq_1] at hr
    exact nono hr
  | n + 1, yp4, ys4, y5, y6, y7, y9, σ, h => fun hz hy4 hr => by
    rw [fX1_joinNewRow_89.eq_2] at hr
    refine w_iload 8 dX1_joinNewRow_89 rfl rfl ?_
    refine w_iload 5 dX1_joinNewRow_91 rfl rfl ?_
    refine w_icmp_ge 206 dX1_joinNewRow_93 rfl rfl (fun q93 => ?_) (fun q93 => ?_)
    · have hr := bt q93 hr
      refine w_vret hf dX1_joinNewRow_206 rfl (Nat.le_of_ble_eq_true rfl) (Nat.le_of_ble_eq_true rfl) ?_
      obtain ⟨rfl, rfl⟩ := ret_inj hr
      exact ⟨rfl, hz⟩
    · have hr := bf q93 hr
      refine w_aload 4 dX1_joinNewRow_96 rfl rfl ?_
      refine g_X1_178 dX1_joinNewRow_98 rfl (hz.o7 hy4) (hz.r460 hy4) ?_
      refine w_iload 8 dX1_joinNewRow_101 rfl rfl ?_
      refine w_iload 6 dX1_joinNewRow_103 rfl rfl ?_
      obtain ⟨v11, σ12, e13, hr⟩ := bq_some hr
      refine c_X1_245 (As := [.int y9, .int y6]) (rest := []) (fun l => s_X8_numberOf hy4 hz e13 l) hrm dX1_joinNewRow_105 rfl rfl (Nat.le_of_ble_eq_true rfl) (Nat.le_of_ble_eq_true rfl) (Nat.le_of_ble_eq_true rfl) (hz.o8 hy4) rfl (Nat.le_of_ble_eq_true rfl) (fun vr h2 hq => ?_) (fun E9 h9 hq => hq.elim)
      obtain ⟨rfl, hz⟩ := hq
      show wp _ _ 108 [(0, .ref (A 1 0 0)), (1, .int x1), (2, .ref (A 7 p2 s2)), (3, .int x3), (4, .ref (A 7 yp4 ys4)), (5, .int y5), (6, .int y6), (7, .long y7), (9, .int y9)] [.long v11] _ _ _
      refine w_lload 7 dX1_joinNewRow_108 rfl rfl ?_
      refine w_lcmp dX1_joinNewRow_110 rfl ?_
      refine w_if_ne 200 dX1_joinNewRow_111 rfl rfl (fun q111 => ?_) (fun q111 => ?_)
      · have hr := bf q111 hr
        refine w_iinc 8 (y9 + 1) [(9, .int (y9 + 1)), (0, .ref (A 1 0 0)), (1, .int x1), (2, .ref (A 7 p2 s2)), (3, .int x3), (4, .ref (A 7 yp4 ys4)), (5, .int y5), (6, .int y6), (7, .long y7)] dX1_joinNewRow_200 rfl rfl rfl (by decide) rfl ?_
        refine w_goto 89 dX1_joinNewRow_203 rfl ?_
        refine w_lv [(0, .ref (A 1 0 0)), (1, .int x1), (2, .ref (A 7 p2 s2)), (3, .int x3), (4, .ref (A 7 yp4 ys4)), (5, .int y5), (6, .int y6), (7, .long y7), (9, .int (y9 + 1))] [1, 2, 3, 4, 5, 6, 7, 8, 0] rfl ?_
        exact w_X1_joinNewRow_89 hf hrm hV2  n yp4 ys4 y5 y6 y7 (y9 + 1) _ _ hz hy4 hr
      · have hr := bt q111 hr
        refine w_aload 4 dX1_joinNewRow_114 rfl rfl ?_
        refine g_X1_178 dX1_joinNewRow_116 rfl (hz.o7 hy4) (hz.r460 hy4) ?_
        refine w_iload 8 dX1_joinNewRow_119 rfl rfl ?_
        obtain ⟨v15, σ16, e17, hr⟩ := bq_some hr
        refine c_X1_249 (As := [.int y9]) (rest := []) (fun l => s_X8_timeOf hy4 hz e17 l) hrm dX1_joinNewRow_121 rfl rfl (Nat.le_of_ble_eq_true rfl) (Nat.le_of_ble_eq_true rfl) (Nat.le_of_ble_eq_true rfl) (hz.o8 hy4) rfl (Nat.le_of_ble_eq_true rfl) (fun vr h2 hq => ?_) (fun E9 h9 hq => hq.elim)
        obtain ⟨rfl, hz⟩ := hq
        show wp _ _ 124 [(0, .ref (A 1 0 0)), (1, .int x1), (2, .ref (A 7 p2 s2)), (3, .int x3), (4, .ref (A 7 yp4 ys4)), (5, .int y5), (6, .int y6), (7, .long y7), (9, .int y9)] [.int v15] _ _ _
        refine w_aload_n 0 dX1_joinNewRow_124 rfl rfl rfl ?_
        refine g_X1_18 dX1_joinNewRow_125 rfl (hz.o1 rfl) (hz.r71 rfl) ?_
        refine g_X1_127 dX1_joinNewRow_128 rfl (hz.o6 rfl) (hz.i384 rfl) ?_
        refine w_isub dX1_joinNewRow_131 rfl ?_
        refine w_mabs hrm (by decide) dX1_joinNewRow_132 rfl ml_X1_253 (Nat.le_of_ble_eq_true rfl) (Nat.le_of_ble_eq_true rfl) (Nat.le_of_ble_eq_true rfl) ?_
        refine w_aload_n 2 dX1_joinNewRow_135 rfl rfl rfl ?_
        refine g_X1_130 dX1_joinNewRow_136 rfl (hz.o7 hV2) (hz.i455 hV2) ?_
        refine w_icmp_gt 200 dX1_joinNewRow_139 rfl rfl (fun q139 => ?_) (fun q139 => ?_)
        · have hr := bt q139 hr
          refine w_iinc 8 (y9 + 1) [(9, .int (y9 + 1)), (0, .ref (A 1 0 0)), (1, .int x1), (2, .ref (A 7 p2 s2)), (3, .int x3), (4, .ref (A 7 yp4 ys4)), (5, .int y5), (6, .int y6), (7, .long y7)] dX1_joinNewRow_200 rfl rfl rfl (by decide) rfl ?_
          refine w_goto 89 dX1_joinNewRow_203 rfl ?_
          refine w_lv [(0, .ref (A 1 0 0)), (1, .int x1), (2, .ref (A 7 p2 s2)), (3, .int x3), (4, .ref (A 7 yp4 ys4)), (5, .int y5), (6, .int y6), (7, .long y7), (9, .int (y9 + 1))] [1, 2, 3, 4, 5, 6, 7, 8, 0] rfl ?_
          exact w_X1_joinNewRow_89 hf hrm hV2  n yp4 ys4 y5 y6 y7 (y9 + 1) _ _ hz hy4 hr
        · have hr := bf q139 hr
          refine w_aload 4 dX1_joinNewRow_142 rfl rfl ?_
          refine g_X1_178 dX1_joinNewRow_144 rfl (hz.o7 hy4) (hz.r460 hy4) ?_
          refine w_iload 8 dX1_joinNewRow_147 rfl rfl ?_
          refine w_aload_n 0 dX1_joinNewRow_149 rfl rfl rfl ?_
          refine g_X1_22 dX1_joinNewRow_150 rfl (hz.o1 rfl) (hz.r72 rfl) ?_
          obtain ⟨v19, σ20, e21, hr⟩ := bq_some hr
          refine c_X1_199 (As := [.int y9, .ref (A 6 1 0)]) (rest := []) (fun l => s_X8_copyTo hy4 rfl hz e21 l) hrm dX1_joinNewRow_153 rfl rfl (Nat.le_of_ble_eq_true rfl) (Nat.le_of_ble_eq_true rfl) (Nat.le_of_ble_eq_true rfl) (hz.o8 hy4) rfl (Nat.le_of_ble_eq_true rfl) (fun vr h2 hq => ?_) (fun E9 h9 hq => hq.elim)
          obtain ⟨rfl, hz⟩ := hq
          show wp _ _ 156 [(0, .ref (A 1 0 0)), (1, .int x1), (2, .ref (A 7 p2 s2)), (3, .int x3), (4, .ref (A 7 yp4 ys4)), (5, .int y5), (6, .int y6), (7, .long y7), (9, .int y9)] [] _ _ _
          refine w_aload_n 0 dX1_joinNewRow_156 rfl rfl rfl ?_
          refine w_aload_n 2 dX1_joinNewRow_157 rfl rfl rfl ?_
          refine w_iload_n 3 dX1_joinNewRow_158 rfl rfl rfl ?_
          refine w_if_eq 169 dX1_joinNewRow_159 rfl rfl (fun q159 => ?_) (fun q159 => ?_)
          · have hr := bt q159 hr
            refine w_aload_n 0 dX1_joinNewRow_169 rfl rfl rfl ?_
            refine g_X1_22 dX1_joinNewRow_170 rfl (hz.o1 rfl) (hz.r72 rfl) ?_
            refine w_lv [(0, .ref (A 1 0 0)), (1, .int x1), (2, .ref (A 7 p2 s2)), (3, .int x3), (4, .ref (A 7 yp4 ys4)), (5, .int y5), (6, .int y6), (7, .long y7), (9, .int y9)] [0, 1, 2, 3, 4, 5, 6, 7, 8] rfl ?_
            exact w_X1_joinNewRow_173 hf hrm hV2 (fun byp4 bys4 by5 by6 by7 by9 zb hb hzb qhy4 hrb => w_X1_joinNewRow_89 hf hrm hV2  n byp4 bys4 by5 by6 by7 by9 zb hb hzb qhy4 hrb) yp4 ys4 y5 y6 y7 y9 1 0 p2 s2 _ _ hz hy4 rfl hV2 hr
          · have hr := bf q159 hr
            refine w_aload_n 0 dX1_joinNewRow_162 rfl rfl rfl ?_
            refine g_X1_18 dX1_joinNewRow_163 rfl (hz.o1 rfl) (hz.r71 rfl) ?_
            refine w_goto 173 dX1_joinNewRow_166 rfl ?_
            refine w_lv [(0, .ref (A 1 0 0)), (1, .int x1), (2, .ref (A 7 p2 s2)), (3, .int x3), (4, .ref (A 7 yp4 ys4)), (5, .int y5), (6, .int y6), (7, .long y7), (9, .int y9)] [0, 1, 2, 3, 4, 5, 6, 7, 8] rfl ?_
            exact w_X1_joinNewRow_173 hf hrm hV2 (fun byp4 bys4 by5 by6 by7 by9 zb hb hzb qhy4 hrb => w_X1_joinNewRow_89 hf hrm hV2  n byp4 bys4 by5 by6 by7 by9 zb hb hzb qhy4 hrb) yp4 ys4 y5 y6 y7 y9 0 0 p2 s2 _ _ hz hy4 rfl hV2 hr
set_option maxRecDepth 20000 in
set_option maxHeartbeats 4000000 in
theorem w_X1_joinNewRow_60 {A : Nat → Nat → Nat → Nat} {ρ σ' : Zs} {v : Unit} {x : Cxt} {x1 : Int32} {p2 : Nat} {s2 : Nat} {x3 : Int32}  (hf : m_fin 0 0 (QV A v σ' ρ) X0 x) (hrm : m_rm 3 0 0 x) (hV2 : vdb (A 16 0 0) 7 p2 s2 = true) : ∀ (yp4 : Nat) (ys4 : Nat) (y5 : Int32) (z0 : Int32) (σ : Zs) (h : Hp), Rp A h σ ρ → vdb (A 16 0 0) 7 yp4 ys4 = true → fX1_joinNewRow_60 x1 p2 s2 x3  yp4 ys4 y5 z0 σ = some (v, σ') → wp x mX1_joinNewRow 60 [(0, .ref (A 1 0 0)), (1, .int x1), (2, .ref (A 7 p2 s2)), (3, .int x3), (4, .ref (A 7 yp4 ys4)), (5, .int y5)] [.int z0] h 0 0 := by
  intro yp4 ys4 y5 z0 σ h hz hy4 hr
  rw [fX1_joinNewRow_60.eq_1] at hr
  refine w_istore [(6, .int z0), (0, .ref (A 1 0 0)), (1, .int x1), (2, .ref (A 7 p2 s2)), (3, .int x3), (4, .ref (A 7 yp4 ys4)), (5, .int y5)] dX1_joinNewRow_60 rfl (by decide) rfl ?_
  refine w_aload_n 1 dX1_joinNewRow_62 rfl rfl rfl ?_
  refine g_X1_18 dX1_joinNewRow_63 rfl (hz.o1 rfl) (hz.r71 rfl) ?_
  refine w_iload_n 4 dX1_joinNewRow_66 rfl rfl rfl ?_
  refine w_if_eq 77 dX1_joinNewRow_67 rfl rfl (fun q67 => ?_) (fun q67 => ?_)
  · have hr := bt q67 hr
    refine w_aload_n 3 dX1_joinNewRow_77 rfl rfl rfl ?_
    refine g_X1_256 dX1_joinNewRow_78 rfl (hz.o7 hV2) (hz.i454 hV2) ?_
    obtain ⟨v7, σ8, e9, hr⟩ := bq_some hr
    refine c_X1_230 (As := [.int (zI σ 454 p2 s2 0)]) (rest := []) (fun l => s_X6_numberAt rfl hz e9 l) hrm dX1_joinNewRow_81 rfl rfl (Nat.le_of_ble_eq_true rfl) (Nat.le_of_ble_eq_true rfl) (Nat.le_of_ble_eq_true rfl) (hz.o6 rfl) rfl (Nat.le_of_ble_eq_true rfl) (fun vr h2 hq => ?_) (fun E9 h9 hq => hq.elim)
    obtain ⟨rfl, hz⟩ := hq
    show wp _ _ 84 [(6, .int z0), (0, .ref (A 1 0 0)), (1, .int x1), (2, .ref (A 7 p2 s2)), (3, .int x3), (4, .ref (A 7 yp4 ys4)), (5, .int y5)] [.long v7] _ _ _
    refine w_lstore [(7, .long v7), (6, .int z0), (0, .ref (A 1 0 0)), (1, .int x1), (2, .ref (A 7 p2 s2)), (3, .int x3), (4, .ref (A 7 yp4 ys4)), (5, .int y5)] dX1_joinNewRow_84 rfl (by decide) rfl ?_
    refine w_iconst 0 dX1_joinNewRow_86 rfl rfl ?_
    refine w_istore [(9, .int 0), (7, .long v7), (6, .int z0), (0, .ref (A 1 0 0)), (1, .int x1), (2, .ref (A 7 p2 s2)), (3, .int x3), (4, .ref (A 7 yp4 ys4)), (5, .int y5)] dX1_joinNewRow_87 rfl (by decide) rfl ?_
    refine w_lv [(0, .ref (A 1 0 0)), (1, .int x1), (2, .ref (A 7 p2 s2)), (3, .int x3), (4, .ref (A 7 yp4 ys4)), (5, .int y5), (6, .int z0), (7, .long v7), (9, .int 0)] [3, 4, 5, 6, 7, 8, 2, 1, 0] rfl ?_
    exact w_X1_joinNewRow_89 hf hrm hV2  FU yp4 ys4 y5 z0 v7 0 _ _ hz hy4 hr
  · have hr := bf q67 hr
    refine w_aload_n 3 dX1_joinNewRow_70 rfl rfl rfl ?_
    refine g_X1_242 dX1_joinNewRow_71 rfl (hz.o7 hV2) (hz.i453 hV2) ?_
    refine w_goto 81 dX1_joinNewRow_74 rfl ?_
    obtain ⟨v39, σ40, e41, hr⟩ := bq_some hr
    refine c_X1_230 (As := [.int (zI σ 453 p2 s2 0)]) (rest := []) (fun l => s_X6_numberAt rfl hz e41 l) hrm dX1_joinNewRow_81 rfl rfl (Nat.le_of_ble_eq_true rfl) (Nat.le_of_ble_eq_true rfl) (Nat.le_of_ble_eq_true rfl) (hz.o6 rfl) rfl (Nat.le_of_ble_eq_true rfl) (fun vr h2 hq => ?_) (fun E9 h9 hq => hq.elim)
    obtain ⟨rfl, hz⟩ := hq
    show wp _ _ 84 [(6, .int z0), (0, .ref (A 1 0 0)), (1, .int x1), (2, .ref (A 7 p2 s2)), (3, .int x3), (4, .ref (A 7 yp4 ys4)), (5, .int y5)] [.long v39] _ _ _
    refine w_lstore [(7, .long v39), (6, .int z0), (0, .ref (A 1 0 0)), (1, .int x1), (2, .ref (A 7 p2 s2)), (3, .int x3), (4, .ref (A 7 yp4 ys4)), (5, .int y5)] dX1_joinNewRow_84 rfl (by decide) rfl ?_
    refine w_iconst 0 dX1_joinNewRow_86 rfl rfl ?_
    refine w_istore [(9, .int 0), (7, .long v39), (6, .int z0), (0, .ref (A 1 0 0)), (1, .int x1), (2, .ref (A 7 p2 s2)), (3, .int x3), (4, .ref (A 7 yp4 ys4)), (5, .int y5)] dX1_joinNewRow_87 rfl (by decide) rfl ?_
    refine w_lv [(0, .ref (A 1 0 0)), (1, .int x1), (2, .ref (A 7 p2 s2)), (3, .int x3), (4, .ref (A 7 yp4 ys4)), (5, .int y5), (6, .int z0), (7, .long v39), (9, .int 0)] [3, 4, 5, 6, 7, 8, 2, 1, 0] rfl ?_
    exact w_X1_joinNewRow_89 hf hrm hV2  FU yp4 ys4 y5 z0 v39 0 _ _ hz hy4 hr
set_option maxRecDepth 20000 in
set_option maxHeartbeats 4000000 in
theorem w_X1_joinNewRow_11 {A : Nat → Nat → Nat → Nat} {ρ σ' : Zs} {v : Unit} {x : Cxt} {x1 : Int32} {p2 : Nat} {s2 : Nat} {x3 : Int32}  (hf : m_fin 0 0 (QV A v σ' ρ) X0 x) (hrm : m_rm 3 0 0 x) (hV2 : vdb (A 16 0 0) 7 p2 s2 = true) : ∀ (z0 : Int32) (zp1 : Nat) (zs1 : Nat) (σ : Zs) (h : Hp), Rp A h σ ρ → vdb (A 16 0 0) 7 zp1 zs1 = true → fX1_joinNewRow_11 x1 p2 s2 x3  z0 zp1 zs1 σ = some (v, σ') → wp x mX1_joinNewRow 11 [(0, .ref (A 1 0 0)), (1, .int x1), (2, .ref (A 7 p2 s2)), (3, .int x3)] [.int z0, .ref (A 7 zp1 zs1), .ref (A 1 0 0)] h 0 0 := by
  intro z0 zp1 zs1 σ h hz hz1 hr
  rw [fX1_joinNewRow_11.eq_1] at hr
  obtain ⟨v1, σ2, e3, hr⟩ := bq_some hr
  refine c_X1_188 (As := [.ref (A 7 zp1 zs1), .int z0]) (rest := []) (fun l => s_X1_inputOf hz1 hz e3 l) hrm dX1_joinNewRow_11 rfl rfl (Nat.le_of_ble_eq_true rfl) (Nat.le_of_ble_eq_true rfl) (Nat.le_of_ble_eq_true rfl) (hz.o1 rfl) rfl (Nat.le_of_ble_eq_true rfl) (fun vr h2 hq => ?_) (fun E9 h9 hq => hq.elim)
  rcases v1 with _ | u5
  · obtain ⟨rfl, hz⟩ := hq
    have hr := nn_n hr
    show wp _ _ 14 [(0, .ref (A 1 0 0)), (1, .int x1), (2, .ref (A 7 p2 s2)), (3, .int x3)] [.null] _ _ _
    refine w_astoreN [(4, .null), (0, .ref (A 1 0 0)), (1, .int x1), (2, .ref (A 7 p2 s2)), (3, .int x3)] dX1_joinNewRow_14 rfl (by decide) rfl ?_
    refine w_aloadN 0 dX1_joinNewRow_16 rfl rfl ?_
    refine w_ifnonnullN dX1_joinNewRow_18 rfl ?_
    refine w_vret hf dX1_joinNewRow_21 rfl (Nat.le_of_ble_eq_true rfl) (Nat.le_of_ble_eq_true rfl) ?_
    obtain ⟨rfl, rfl⟩ := ret_inj hr
    exact ⟨rfl, hz⟩
  · obtain ⟨⟨rfl, hv6⟩, hz⟩ := hq
    have hr := nn_s hr
    show wp _ _ 14 [(0, .ref (A 1 0 0)), (1, .int x1), (2, .ref (A 7 p2 s2)), (3, .int x3)] [.ref (A 7 u5.1 u5.2)] _ _ _
    refine w_astore [(4, .ref (A 7 u5.1 u5.2)), (0, .ref (A 1 0 0)), (1, .int x1), (2, .ref (A 7 p2 s2)), (3, .int x3)] dX1_joinNewRow_14 rfl (by decide) rfl ?_
    refine w_aload 0 dX1_joinNewRow_16 rfl rfl ?_
    refine w_ifnonnull 22 dX1_joinNewRow_18 rfl ?_
    refine w_iload_n 4 dX1_joinNewRow_22 rfl rfl rfl ?_
    refine w_if_eq 35 dX1_joinNewRow_23 rfl rfl (fun q23 => ?_) (fun q23 => ?_)
    · have hr := bt q23 hr
      refine w_aload 0 dX1_joinNewRow_35 rfl rfl ?_
      refine g_X1_178 dX1_joinNewRow_37 rfl (hz.o7 hv6) (hz.r460 hv6) ?_
      refine g_X1_196 dX1_joinNewRow_40 rfl (hz.o8 hv6) (hz.i512 hv6) ?_
      refine w_istore [(5, .int (zI σ2 512 u5.1 u5.2 0)), (4, .ref (A 7 u5.1 u5.2)), (0, .ref (A 1 0 0)), (1, .int x1), (2, .ref (A 7 p2 s2)), (3, .int x3)] dX1_joinNewRow_43 rfl (by decide) rfl ?_
      refine w_iload_n 5 dX1_joinNewRow_45 rfl rfl rfl ?_
      refine w_if_eq 56 dX1_joinNewRow_46 rfl rfl (fun q46 => ?_) (fun q46 => ?_)
      · have hr := bt q46 hr
        refine w_aload_n 4 dX1_joinNewRow_56 rfl rfl rfl ?_
        refine g_X1_242 dX1_joinNewRow_57 rfl (hz.o7 hV2) (hz.i453 hV2) ?_
        refine w_lv [(0, .ref (A 1 0 0)), (1, .int x1), (2, .ref (A 7 p2 s2)), (3, .int x3), (4, .ref (A 7 u5.1 u5.2)), (5, .int (zI σ2 512 u5.1 u5.2 0))] [2, 3, 4, 5, 1, 0] rfl ?_
        exact w_X1_joinNewRow_60 hf hrm hV2  u5.1 u5.2 (zI σ2 512 u5.1 u5.2 0) (zI σ2 453 p2 s2 0) _ _ hz hv6 hr
      · have hr := bf q46 hr
        refine w_aload_n 4 dX1_joinNewRow_49 rfl rfl rfl ?_
        refine g_X1_256 dX1_joinNewRow_50 rfl (hz.o7 hV2) (hz.i454 hV2) ?_
        refine w_goto 60 dX1_joinNewRow_53 rfl ?_
        refine w_lv [(0, .ref (A 1 0 0)), (1, .int x1), (2, .ref (A 7 p2 s2)), (3, .int x3), (4, .ref (A 7 u5.1 u5.2)), (5, .int (zI σ2 512 u5.1 u5.2 0))] [2, 3, 4, 5, 1, 0] rfl ?_
        exact w_X1_joinNewRow_60 hf hrm hV2  u5.1 u5.2 (zI σ2 512 u5.1 u5.2 0) (zI σ2 454 p2 s2 0) _ _ hz hv6 hr
    · have hr := bf q23 hr
      refine w_aload_n 3 dX1_joinNewRow_26 rfl rfl rfl ?_
      refine g_X1_192 dX1_joinNewRow_27 rfl (hz.o7 hV2) (hz.r462 hV2) ?_
      refine w_iconst 1 dX1_joinNewRow_30 rfl rfl ?_
      obtain ⟨g43, hr⟩ := gd hr
      refine w_iald dX1_joinNewRow_31 rfl (hz.k462 hV2) (gin (hz.n462 hV2) g43) (hz.x462 hV2) ?_
      refine w_goto 43 dX1_joinNewRow_32 rfl ?_
      refine w_istore [(5, .int (zI σ2 1486 p2 s2 (Int32.toNatClampNeg 1))), (4, .ref (A 7 u5.1 u5.2)), (0, .ref (A 1 0 0)), (1, .int x1), (2, .ref (A 7 p2 s2)), (3, .int x3)] dX1_joinNewRow_43 rfl (by decide) rfl ?_
      refine w_iload_n 5 dX1_joinNewRow_45 rfl rfl rfl ?_
      refine w_if_eq 56 dX1_joinNewRow_46 rfl rfl (fun q46 => ?_) (fun q46 => ?_)
      · have hr := bt q46 hr
        refine w_aload_n 4 dX1_joinNewRow_56 rfl rfl rfl ?_
        refine g_X1_242 dX1_joinNewRow_57 rfl (hz.o7 hV2) (hz.i453 hV2) ?_
        refine w_lv [(0, .ref (A 1 0 0)), (1, .int x1), (2, .ref (A 7 p2 s2)), (3, .int x3), (4, .ref (A 7 u5.1 u5.2)), (5, .int (zI σ2 1486 p2 s2 (Int32.toNatClampNeg 1)))] [2, 3, 4, 5, 1, 0] rfl ?_
        exact w_X1_joinNewRow_60 hf hrm hV2  u5.1 u5.2 (zI σ2 1486 p2 s2 (Int32.toNatClampNeg 1)) (zI σ2 453 p2 s2 0) _ _ hz hv6 hr
      · have hr := bf q46 hr
        refine w_aload_n 4 dX1_joinNewRow_49 rfl rfl rfl ?_
        refine g_X1_256 dX1_joinNewRow_50 rfl (hz.o7 hV2) (hz.i454 hV2) ?_
        refine w_goto 60 dX1_joinNewRow_53 rfl ?_
        refine w_lv [(0, .ref (A 1 0 0)), (1, .int x1), (2, .ref (A 7 p2 s2)), (3, .int x3), (4, .ref (A 7 u5.1 u5.2)), (5, .int (zI σ2 1486 p2 s2 (Int32.toNatClampNeg 1)))] [2, 3, 4, 5, 1, 0] rfl ?_
        exact w_X1_joinNewRow_60 hf hrm hV2  u5.1 u5.2 (zI σ2 1486 p2 s2 (Int32.toNatClampNeg 1)) (zI σ2 454 p2 s2 0) _ _ hz hv6 hr
set_option maxRecDepth 20000 in
set_option maxHeartbeats 4000000 in
theorem s_X1_joinNewRow {A : Nat → Nat → Nat → Nat} {h : Hp} {σ ρ σ' : Zs} {v : Unit} {x1 : Int32} {p2 : Nat} {s2 : Nat} {x3 : Int32} (hV2 : vdb (A 16 0 0) 7 p2 s2 = true) (hz : Rp A h σ ρ) (hr : fX1_joinNewRow x1 p2 s2 x3 σ = some (v, σ')) : ∀ l : Launch, Sp l mX1_joinNewRow 3 0 0 [.ref (A 1 0 0), .int x1, .ref (A 7 p2 s2), .int x3] h (QV A v σ' ρ) X0 := by
  intro l
  refine Sp.of rfl rfl (lv := [(0, .ref (A 1 0 0)), (1, .int x1), (2, .ref (A 7 p2 s2)), (3, .int x3)]) (Nat.le_of_ble_eq_true rfl) rfl (fun x hf hrm => ?_)
  rw [fX1_joinNewRow.eq_1] at hr
  refine w_aload_n 0 dX1_joinNewRow_0 rfl rfl rfl ?_
  refine w_aload_n 2 dX1_joinNewRow_1 rfl rfl rfl ?_
  refine w_iload_n 3 dX1_joinNewRow_2 rfl rfl rfl ?_
  refine w_if_eq 10 dX1_joinNewRow_3 rfl rfl (fun q3 => ?_) (fun q3 => ?_)
  · have hr := bt q3 hr
    refine w_iconst 0 dX1_joinNewRow_10 rfl rfl ?_
    refine w_lv [(0, .ref (A 1 0 0)), (1, .int x1), (2, .ref (A 7 p2 s2)), (3, .int x3)] [0, 1, 2, 3] rfl ?_
    exact w_X1_joinNewRow_11 hf hrm hV2  0 p2 s2 _ _ hz hV2 hr
  · have hr := bf q3 hr
    refine w_iconst 1 dX1_joinNewRow_6 rfl rfl ?_
    refine w_goto 11 dX1_joinNewRow_7 rfl ?_
    refine w_lv [(0, .ref (A 1 0 0)), (1, .int x1), (2, .ref (A 7 p2 s2)), (3, .int x3)] [0, 1, 2, 3] rfl ?_
    exact w_X1_joinNewRow_11 hf hrm hV2  1 p2 s2 _ _ hz hV2 hr

set_option maxRecDepth 20000 in
set_option maxHeartbeats 4000000 in
theorem w_X1_enterWindow_233 {A : Nat → Nat → Nat → Nat} {ρ σ' : Zs} {v : Int32} {x : Cxt} {x1 : Int32} {x2 : Int32}  (hf : m_fin 0 0 (QI A v σ' ρ) X0 x) (hrm : m_rm 2 0 0 x)  : ∀ (yp3 : Nat) (ys3 : Nat) (y5 : Int32) (yp6 : Nat) (ys6 : Nat) (y7 : Int32) (σ : Zs) (h : Hp), Rp A h σ ρ → vdb (A 16 0 0) 7 yp3 ys3 = true → vdb (A 16 0 0) 10 yp6 ys6 = true → fX1_enterWindow_233 x1 x2  yp3 ys3 y5 yp6 ys6 y7 σ = some (v, σ') → wp x mX1_enterWindow 233 [(0, .ref (A 1 0 0)), (1, .int x1), (2, .int x2), (3, .ref (A 7 yp3 ys3)), (5, .int y5), (6, .ref (A 10 yp6 ys6)), (7, .int y7)] [] h 0 0 := by
  intro yp3 ys3 y5 yp6 ys6 y7 σ h hz hy3 hy6 hr
  rw [fX1_enterWindow_233.eq_1] at hr
  refine w_aload 5 dX1_enterWindow_233 rfl rfl ?_
  refine w_iload 6 dX1_enterWindow_235 rfl rfl ?_
  refine w_aload_n 3 dX1_enterWindow_237 rfl rfl rfl ?_
  refine g_X1_130 dX1_enterWindow_238 rfl (hz.o7 hy3) (hz.i455 hy3) ?_
  refine w_aload_n 3 dX1_enterWindow_241 rfl rfl rfl ?_
  refine g_X1_120 dX1_enterWindow_242 rfl (hz.o7 hy3) (hz.i450 hy3) ?_
  refine w_iconst 2 dX1_enterWindow_245 rfl rfl ?_
  refine w_isub dX1_enterWindow_246 rfl ?_
  refine w_aload_n 0 dX1_enterWindow_247 rfl rfl rfl ?_
  refine g_X1_25 dX1_enterWindow_248 rfl (hz.o1 rfl) (hz.r73 rfl) ?_
  obtain ⟨v17, σ18, e19, hr⟩ := bq_some hr
  refine c_X1_283 (As := [.int y7, .int (zI σ 455 yp3 ys3 0), .int ((zI σ 450 yp3 ys3 0) - 2), .ref (A 6 2 0)]) (rest := []) (fun l => s_X10_copyTo hy6 rfl hz e19 l) hrm dX1_enterWindow_251 rfl rfl (Nat.le_of_ble_eq_true rfl) (Nat.le_of_ble_eq_true rfl) (Nat.le_of_ble_eq_true rfl) (hz.o10 hy6) rfl (Nat.le_of_ble_eq_true rfl) (fun vr h2 hq => ?_) (fun E9 h9 hq => hq.elim)
  obtain ⟨rfl, hz⟩ := hq
  show wp _ _ 254 [(0, .ref (A 1 0 0)), (1, .int x1), (2, .int x2), (3, .ref (A 7 yp3 ys3)), (5, .int y5), (6, .ref (A 10 yp6 ys6)), (7, .int y7)] [] _ _ _
  refine w_iload 4 dX1_enterWindow_254 rfl rfl ?_
  refine w_if_ne 263 dX1_enterWindow_256 rfl rfl (fun q256 => ?_) (fun q256 => ?_)
  · have hr := bf q256 hr
    refine w_iconst 1 dX1_enterWindow_263 rfl rfl ?_
    refine w_goto 268 dX1_enterWindow_264 rfl ?_
    refine w_zret hf dX1_enterWindow_268 rfl rfl (Nat.le_of_ble_eq_true rfl) (Nat.le_of_ble_eq_true rfl) ?_
    obtain ⟨rfl, rfl⟩ := ret_inj hr
    exact ⟨rfl, hz⟩
  · have hr := bt q256 hr
    refine w_iload_n 2 dX1_enterWindow_259 rfl rfl rfl ?_
    refine w_if_eq 267 dX1_enterWindow_260 rfl rfl (fun q260 => ?_) (fun q260 => ?_)
    · have hr := bt q260 hr
      refine w_iconst 0 dX1_enterWindow_267 rfl rfl ?_
      refine w_zret hf dX1_enterWindow_268 rfl rfl (Nat.le_of_ble_eq_true rfl) (Nat.le_of_ble_eq_true rfl) ?_
      obtain ⟨rfl, rfl⟩ := ret_inj hr
      exact ⟨rfl, hz⟩
    · have hr := bf q260 hr
      refine w_iconst 1 dX1_enterWindow_263 rfl rfl ?_
      refine w_goto 268 dX1_enterWindow_264 rfl ?_
      refine w_zret hf dX1_enterWindow_268 rfl rfl (Nat.le_of_ble_eq_true rfl) (Nat.le_of_ble_eq_true rfl) ?_
      obtain ⟨rfl, rfl⟩ := ret_inj hr
      exact ⟨rfl, hz⟩
set_option maxRecDepth 20000 in
set_option maxHeartbeats 4000000 in
theorem w_X1_enterWindow_205 {A : Nat → Nat → Nat → Nat} {ρ σ' : Zs} {v : Int32} {x : Cxt} {x1 : Int32} {x2 : Int32} {k147 : Nat → Nat → Int32 → Nat → Nat → Int32 → Int32 → Zs → Option (Int32 × Zs)}  (hf : m_fin 0 0 (QI A v σ' ρ) X0 x) (hrm : m_rm 2 0 0 x)  (hk147 : ∀ (yp3 : Nat) (ys3 : Nat) (y5 : Int32) (yp6 : Nat) (ys6 : Nat) (y7 : Int32) (y8 : Int32) (σ : Zs) (h : Hp), Rp A h σ ρ → vdb (A 16 0 0) 7 yp3 ys3 = true → vdb (A 16 0 0) 10 yp6 ys6 = true → k147 yp3 ys3 y5 yp6 ys6 y7 y8 σ = some (v, σ') → wp x mX1_enterWindow 147 [(0, .ref (A 1 0 0)), (1, .int x1), (2, .int x2), (3, .ref (A 7 yp3 ys3)), (5, .int y5), (6, .ref (A 10 yp6 ys6)), (7, .int y7), (8, .int y8)] [] h 0 0) : ∀ (yp3 : Nat) (ys3 : Nat) (y5 : Int32) (yp6 : Nat) (ys6 : Nat) (y7 : Int32) (y8 : Int32) (z0 : Int64) (σ : Zs) (h : Hp), Rp A h σ ρ → vdb (A 16 0 0) 7 yp3 ys3 = true → vdb (A 16 0 0) 10 yp6 ys6 = true → fX1_enterWindow_205 x1 x2 k147 yp3 ys3 y5 yp6 ys6 y7 y8 z0 σ = some (v, σ') → wp x mX1_enterWindow 205 [(0, .ref (A 1 0 0)), (1, .int x1), (2, .int x2), (3, .ref (A 7 yp3 ys3)), (5, .int y5), (6, .ref (A 10 yp6 ys6)), (7, .int y7), (8, .int y8)] [.long z0] h 0 0 := by
  intro yp3 ys3 y5 yp6 ys6 y7 y8 z0 σ h hz hy3 hy6 hr
  rw [fX1_enterWindow_205.eq_1] at hr
  refine w_lstore [(9, .long z0), (0, .ref (A 1 0 0)), (1, .int x1), (2, .int x2), (3, .ref (A 7 yp3 ys3)), (5, .int y5), (6, .ref (A 10 yp6 ys6)), (7, .int y7), (8, .int y8)] dX1_enterWindow_205 rfl (by decide) rfl ?_
  refine w_aload 6 dX1_enterWindow_207 rfl rfl ?_
  refine w_iload 7 dX1_enterWindow_209 rfl rfl ?_
  refine w_iload 8 dX1_enterWindow_211 rfl rfl ?_
  refine w_iconst 2 dX1_enterWindow_213 rfl rfl ?_
  refine w_isub dX1_enterWindow_214 rfl ?_
  refine w_aload_n 4 dX1_enterWindow_215 rfl rfl rfl ?_
  refine g_X1_227 dX1_enterWindow_216 rfl (hz.o7 hy3) (hz.r459 hy3) ?_
  refine w_iload 8 dX1_enterWindow_219 rfl rfl ?_
  obtain ⟨g29, hr⟩ := gd hr
  refine w_iald dX1_enterWindow_221 rfl (hz.k459 hy3) (gin (hz.n459 hy3) g29) (hz.x459 hy3) ?_
  refine w_lload 0 dX1_enterWindow_222 rfl rfl ?_
  obtain ⟨v30, σ31, e32, hr⟩ := bq_some hr
  refine c_X1_279 (As := [.int y7, .int (y8 - 2), .int (zI σ 1483 yp3 ys3 (Int32.toNatClampNeg y8)), .long z0]) (rest := []) (fun l => s_X10_addTo hy6 hz e32 l) hrm dX1_enterWindow_224 rfl rfl (Nat.le_of_ble_eq_true rfl) (Nat.le_of_ble_eq_true rfl) (Nat.le_of_ble_eq_true rfl) (hz.o10 hy6) rfl (Nat.le_of_ble_eq_true rfl) (fun vr h2 hq => ?_) (fun E9 h9 hq => hq.elim)
  obtain ⟨rfl, hz⟩ := hq
  show wp _ _ 227 [(9, .long z0), (0, .ref (A 1 0 0)), (1, .int x1), (2, .int x2), (3, .ref (A 7 yp3 ys3)), (5, .int y5), (6, .ref (A 10 yp6 ys6)), (7, .int y7), (8, .int y8)] [] _ _ _
  refine w_iinc 8 (y8 + 1) [(8, .int (y8 + 1)), (9, .long z0), (0, .ref (A 1 0 0)), (1, .int x1), (2, .int x2), (3, .ref (A 7 yp3 ys3)), (5, .int y5), (6, .ref (A 10 yp6 ys6)), (7, .int y7)] dX1_enterWindow_227 rfl rfl rfl (by decide) rfl ?_
  refine w_goto 147 dX1_enterWindow_230 rfl ?_
  refine w_lv [(0, .ref (A 1 0 0)), (1, .int x1), (2, .int x2), (3, .ref (A 7 yp3 ys3)), (5, .int y5), (6, .ref (A 10 yp6 ys6)), (7, .int y7), (8, .int (y8 + 1))] [2, 3, 4, 5, 6, 7, 8, 0] rfl ?_
  exact hk147 yp3 ys3 y5 yp6 ys6 y7 (y8 + 1) _ _ hz hy3 hy6 hr
set_option maxRecDepth 20000 in
set_option maxHeartbeats 4000000 in
theorem w_X1_enterWindow_147 {A : Nat → Nat → Nat → Nat} {ρ σ' : Zs} {v : Int32} {x : Cxt} {x1 : Int32} {x2 : Int32}  (hf : m_fin 0 0 (QI A v σ' ρ) X0 x) (hrm : m_rm 2 0 0 x)  : ∀ (n : Nat) (yp3 : Nat) (ys3 : Nat) (y5 : Int32) (yp6 : Nat) (ys6 : Nat) (y7 : Int32) (y8 : Int32) (σ : Zs) (h : Hp), Rp A h σ ρ → vdb (A 16 0 0) 7 yp3 ys3 = true → vdb (A 16 0 0) 10 yp6 ys6 = true → fX1_enterWindow_147 x1 x2  n yp3 ys3 y5 yp6 ys6 y7 y8 σ = some (v, σ') → wp x mX1_enterWindow 147 [(0, .ref (A 1 0 0)), (1, .int x1), (2, .int x2), (3, .ref (A 7 yp3 ys3)), (5, .int y5), (6, .ref (A 10 yp6 ys6)), (7, .int y7), (8, .int y8)] [] h 0 0
  | 0, _, _, _, _, _, _, _, σ, h => fun hz _ _ hr => by
    rw [fX1_enterWindow_147.eq_1] at hr
    exact nono hr
  | n + 1, yp3, ys3, y5, yp6, ys6, y7, y8, σ, h => fun hz hy3 hy6 hr => by
    rw [fX1_enterWindow_147.eq_2] at hr
    refine w_iload 7 dX1_enterWindow_147 rfl rfl ?_
    refine w_aload_n 3 dX1_enterWindow_149 rfl rfl rfl ?_
    refine g_X1_120 dX1_enterWindow_150 rfl (hz.o7 hy3) (hz.i450 hy3) ?_
    refine w_icmp_ge 233 dX1_enterWindow_153 rfl rfl (fun q153 => ?_) (fun q153 => ?_)
    · have hr := bt q153 hr
      refine w_lv [(0, .ref (A 1 0 0)), (1, .int x1), (2, .int x2), (3, .ref (A 7 yp3 ys3)), (5, .int y5), (6, .ref (A 10 yp6 ys6)), (7, .int y7)] [0, 1, 2, 3, 4, 5, 6] rfl ?_
      exact w_X1_enterWindow_233 hf hrm   yp3 ys3 y5 yp6 ys6 y7 _ _ hz hy3 hy6 hr
    · have hr := bf q153 hr
      refine w_iload 7 dX1_enterWindow_156 rfl rfl ?_
      refine w_bipush 6 dX1_enterWindow_158 rfl rfl ?_
      refine w_icmp_ge 233 dX1_enterWindow_160 rfl rfl (fun q160 => ?_) (fun q160 => ?_)
      · have hr := bt q160 hr
        refine w_lv [(0, .ref (A 1 0 0)), (1, .int x1), (2, .int x2), (3, .ref (A 7 yp3 ys3)), (5, .int y5), (6, .ref (A 10 yp6 ys6)), (7, .int y7)] [0, 1, 2, 3, 4, 5, 6] rfl ?_
        exact w_X1_enterWindow_233 hf hrm   yp3 ys3 y5 yp6 ys6 y7 _ _ hz hy3 hy6 hr
      · have hr := bf q160 hr
        refine w_aload_n 3 dX1_enterWindow_163 rfl rfl rfl ?_
        refine g_X1_227 dX1_enterWindow_164 rfl (hz.o7 hy3) (hz.r459 hy3) ?_
        refine w_iload 7 dX1_enterWindow_167 rfl rfl ?_
        obtain ⟨g21, hr⟩ := gd hr
        refine w_iald dX1_enterWindow_169 rfl (hz.k459 hy3) (gin (hz.n459 hy3) g21) (hz.x459 hy3) ?_
        refine w_sipush 151 dX1_enterWindow_170 rfl rfl ?_
        refine w_icmp_ne 180 dX1_enterWindow_173 rfl rfl (fun q173 => ?_) (fun q173 => ?_)
        · have hr := bf q173 hr
          refine w_aload_n 0 dX1_enterWindow_180 rfl rfl rfl ?_
          have hv22 := hz.ww64 (p := 0) (s := 0) rfl
          refine g_X1_28 dX1_enterWindow_181 rfl (hz.o1 rfl) (hz.rr64 rfl) ?_
          refine w_aload_n 3 dX1_enterWindow_184 rfl rfl rfl ?_
          refine g_X1_213 dX1_enterWindow_185 rfl (hz.o7 hy3) (hz.r457 hy3) ?_
          refine w_iload 7 dX1_enterWindow_188 rfl rfl ?_
          obtain ⟨g23, hr⟩ := gd hr
          refine w_iald dX1_enterWindow_190 rfl (hz.k457 hy3) (gin (hz.n457 hy3) g23) (hz.x457 hy3) ?_
          refine w_aload_n 3 dX1_enterWindow_191 rfl rfl rfl ?_
          refine g_X1_216 dX1_enterWindow_192 rfl (hz.o7 hy3) (hz.r458 hy3) ?_
          refine w_iload 7 dX1_enterWindow_195 rfl rfl ?_
          obtain ⟨g24, hr⟩ := gd hr
          refine w_iald dX1_enterWindow_197 rfl (hz.k458 hy3) (gin (hz.n458 hy3) g24) (hz.x458 hy3) ?_
          refine w_aload_n 0 dX1_enterWindow_198 rfl rfl rfl ?_
          refine g_X1_18 dX1_enterWindow_199 rfl (hz.o1 rfl) (hz.r71 rfl) ?_
          obtain ⟨v25, σ26, e27, hr⟩ := bq_some hr
          refine c_X1_167 (As := [.int (zI σ 1481 yp3 ys3 (Int32.toNatClampNeg y8)), .int (zI σ 1482 yp3 ys3 (Int32.toNatClampNeg y8)), .ref (A 6 0 0)]) (rest := []) (fun l => s_X5_reckon hv22 rfl hz e27 l) hrm dX1_enterWindow_202 rfl rfl (Nat.le_of_ble_eq_true rfl) (Nat.le_of_ble_eq_true rfl) (Nat.le_of_ble_eq_true rfl) (hz.o5 hv22) rfl (Nat.le_of_ble_eq_true rfl) (fun vr h2 hq => ?_) (fun E9 h9 hq => hq.elim)
          obtain ⟨rfl, hz⟩ := hq
          show wp _ _ 205 [(0, .ref (A 1 0 0)), (1, .int x1), (2, .int x2), (3, .ref (A 7 yp3 ys3)), (5, .int y5), (6, .ref (A 10 yp6 ys6)), (7, .int y7), (8, .int y8)] [.long v25] _ _ _
          refine w_lv [(0, .ref (A 1 0 0)), (1, .int x1), (2, .int x2), (3, .ref (A 7 yp3 ys3)), (5, .int y5), (6, .ref (A 10 yp6 ys6)), (7, .int y7), (8, .int y8)] [0, 1, 2, 3, 4, 5, 6, 7] rfl ?_
          exact w_X1_enterWindow_205 hf hrm  (fun byp3 bys3 by5 byp6 bys6 by7 by8 zb hb hzb qhy3 qhy6 hrb => w_X1_enterWindow_147 hf hrm   n byp3 bys3 by5 byp6 bys6 by7 by8 zb hb hzb qhy3 qhy6 hrb) yp3 ys3 y5 yp6 ys6 y7 y8 v25 _ _ hz hy3 hy6 hr
        · have hr := bt q173 hr
          refine w_lconst 0 dX1_enterWindow_176 rfl rfl ?_
          refine w_goto 205 dX1_enterWindow_177 rfl ?_
          refine w_lv [(0, .ref (A 1 0 0)), (1, .int x1), (2, .int x2), (3, .ref (A 7 yp3 ys3)), (5, .int y5), (6, .ref (A 10 yp6 ys6)), (7, .int y7), (8, .int y8)] [0, 1, 2, 3, 4, 5, 6, 7] rfl ?_
          exact w_X1_enterWindow_205 hf hrm  (fun byp3 bys3 by5 byp6 bys6 by7 by8 zb hb hzb qhy3 qhy6 hrb => w_X1_enterWindow_147 hf hrm   n byp3 bys3 by5 byp6 bys6 by7 by8 zb hb hzb qhy3 qhy6 hrb) yp3 ys3 y5 yp6 ys6 y7 y8 0 _ _ hz hy3 hy6 hr
set_option maxRecDepth 20000 in
set_option maxHeartbeats 4000000 in
theorem w_X1_enterWindow_90 {A : Nat → Nat → Nat → Nat} {ρ σ' : Zs} {v : Int32} {x : Cxt} {x1 : Int32} {x2 : Int32}  (hf : m_fin 0 0 (QI A v σ' ρ) X0 x) (hrm : m_rm 2 0 0 x)  : ∀ (yp3 : Nat) (ys3 : Nat) (y4 : Int32) (z0 : Int32) (σ : Zs) (h : Hp), Rp A h σ ρ → vdb (A 16 0 0) 7 yp3 ys3 = true → fX1_enterWindow_90 x1 x2  yp3 ys3 y4 z0 σ = some (v, σ') → wp x mX1_enterWindow 90 [(0, .ref (A 1 0 0)), (1, .int x1), (2, .int x2), (3, .ref (A 7 yp3 ys3)), (4, .int y4)] [.int z0] h 0 0 := by
  intro yp3 ys3 y4 z0 σ h hz hy3 hr
  rw [fX1_enterWindow_90.eq_1] at hr
  refine w_istore [(5, .int z0), (0, .ref (A 1 0 0)), (1, .int x1), (2, .int x2), (3, .ref (A 7 yp3 ys3)), (4, .int y4)] dX1_enterWindow_90 rfl (by decide) rfl ?_
  refine w_aload_n 4 dX1_enterWindow_92 rfl rfl rfl ?_
  refine g_X1_266 dX1_enterWindow_93 rfl (hz.o7 hy3) (hz.r464 hy3) ?_
  refine w_astore [(6, .ref (A 10 yp3 ys3)), (5, .int z0), (0, .ref (A 1 0 0)), (1, .int x1), (2, .int x2), (3, .ref (A 7 yp3 ys3)), (4, .int y4)] dX1_enterWindow_96 rfl (by decide) rfl ?_
  refine w_aload 0 dX1_enterWindow_98 rfl rfl ?_
  refine w_aload_n 2 dX1_enterWindow_100 rfl rfl rfl ?_
  refine g_X1_18 dX1_enterWindow_101 rfl (hz.o1 rfl) (hz.r71 rfl) ?_
  refine w_aload_n 5 dX1_enterWindow_104 rfl rfl rfl ?_
  refine g_X1_242 dX1_enterWindow_105 rfl (hz.o7 hy3) (hz.i453 hy3) ?_
  obtain ⟨v5, σ6, e7, hr⟩ := bq_some hr
  refine c_X1_230 (As := [.int (zI σ 453 yp3 ys3 0)]) (rest := [.ref (A 10 yp3 ys3)]) (fun l => s_X6_numberAt rfl hz e7 l) hrm dX1_enterWindow_108 rfl rfl (Nat.le_of_ble_eq_true rfl) (Nat.le_of_ble_eq_true rfl) (Nat.le_of_ble_eq_true rfl) (hz.o6 rfl) rfl (Nat.le_of_ble_eq_true rfl) (fun vr h2 hq => ?_) (fun E9 h9 hq => hq.elim)
  obtain ⟨rfl, hz⟩ := hq
  show wp _ _ 111 [(6, .ref (A 10 yp3 ys3)), (5, .int z0), (0, .ref (A 1 0 0)), (1, .int x1), (2, .int x2), (3, .ref (A 7 yp3 ys3)), (4, .int y4)] [.long v5, .ref (A 10 yp3 ys3)] _ _ _
  refine w_iload 6 dX1_enterWindow_111 rfl rfl ?_
  refine w_iload 1 dX1_enterWindow_113 rfl rfl ?_
  obtain ⟨v9, σ10, e11, hr⟩ := bq_some hr
  refine c_X1_270 (As := [.long v5, .int y4, .int z0]) (rest := []) (fun l => s_X10_placeFor hy3 hz e11 l) hrm dX1_enterWindow_115 rfl rfl (Nat.le_of_ble_eq_true rfl) (Nat.le_of_ble_eq_true rfl) (Nat.le_of_ble_eq_true rfl) (hz.o10 hy3) rfl (Nat.le_of_ble_eq_true rfl) (fun vr h2 hq => ?_) (fun E9 h9 hq => hq.elim)
  obtain ⟨rfl, hz⟩ := hq
  show wp _ _ 118 [(6, .ref (A 10 yp3 ys3)), (5, .int z0), (0, .ref (A 1 0 0)), (1, .int x1), (2, .int x2), (3, .ref (A 7 yp3 ys3)), (4, .int y4)] [.int v9] _ _ _
  refine w_istore [(7, .int v9), (6, .ref (A 10 yp3 ys3)), (5, .int z0), (0, .ref (A 1 0 0)), (1, .int x1), (2, .int x2), (3, .ref (A 7 yp3 ys3)), (4, .int y4)] dX1_enterWindow_118 rfl (by decide) rfl ?_
  refine w_iload 0 dX1_enterWindow_120 rfl rfl ?_
  refine w_if_ge 137 dX1_enterWindow_122 rfl rfl (fun q122 => ?_) (fun q122 => ?_)
  · have hr := bt q122 hr
    refine w_aload 1 dX1_enterWindow_137 rfl rfl ?_
    refine w_iload 0 dX1_enterWindow_139 rfl rfl ?_
    obtain ⟨v13, σ14, e15, hr⟩ := bq_some hr
    refine c_X1_276 (As := [.int v9]) (rest := []) (fun l => s_X10_countRow hy3 hz e15 l) hrm dX1_enterWindow_141 rfl rfl (Nat.le_of_ble_eq_true rfl) (Nat.le_of_ble_eq_true rfl) (Nat.le_of_ble_eq_true rfl) (hz.o10 hy3) rfl (Nat.le_of_ble_eq_true rfl) (fun vr h2 hq => ?_) (fun E9 h9 hq => hq.elim)
    obtain ⟨rfl, hz⟩ := hq
    show wp _ _ 144 [(7, .int v9), (6, .ref (A 10 yp3 ys3)), (5, .int z0), (0, .ref (A 1 0 0)), (1, .int x1), (2, .int x2), (3, .ref (A 7 yp3 ys3)), (4, .int y4)] [] _ _ _
    refine w_iconst 2 dX1_enterWindow_144 rfl rfl ?_
    refine w_istore [(8, .int 2), (7, .int v9), (6, .ref (A 10 yp3 ys3)), (5, .int z0), (0, .ref (A 1 0 0)), (1, .int x1), (2, .int x2), (3, .ref (A 7 yp3 ys3)), (4, .int y4)] dX1_enterWindow_145 rfl (by decide) rfl ?_
    refine w_lv [(0, .ref (A 1 0 0)), (1, .int x1), (2, .int x2), (3, .ref (A 7 yp3 ys3)), (5, .int z0), (6, .ref (A 10 yp3 ys3)), (7, .int v9), (8, .int 2)] [4, 5, 6, 7, 3, 2, 1, 0] rfl ?_
    exact w_X1_enterWindow_147 hf hrm   FU yp3 ys3 z0 yp3 ys3 v9 2 _ _ hz hy3 hy3 hr
  · have hr := bf q122 hr
    refine w_aload_n 3 dX1_enterWindow_125 rfl rfl rfl ?_
    refine w_dup dX1_enterWindow_126 rfl rfl ?_
    refine g_X1_62 dX1_enterWindow_127 rfl (hz.o1 rfl) (hz.i67 rfl) ?_
    refine w_iconst 1 dX1_enterWindow_130 rfl rfl ?_
    refine w_iadd dX1_enterWindow_131 rfl ?_
    refine p_X1_62 dX1_enterWindow_132 rfl (hz.o1 rfl) ?_
    obtain ⟨σ34, e35, hr⟩ := lt_e hr
    have hz := (hz.s67 (v := ((zI σ10 67 0 0 0) + 1)) rfl).ts e35
    refine w_iconst 0 dX1_enterWindow_135 rfl rfl ?_
    refine w_zret hf dX1_enterWindow_136 rfl rfl (Nat.le_of_ble_eq_true rfl) (Nat.le_of_ble_eq_true rfl) ?_
    obtain ⟨rfl, rfl⟩ := ret_inj hr
    exact ⟨rfl, hz⟩
set_option maxRecDepth 20000 in
set_option maxHeartbeats 4000000 in
theorem s_X1_enterWindow {A : Nat → Nat → Nat → Nat} {h : Hp} {σ ρ σ' : Zs} {v : Int32} {x1 : Int32} {x2 : Int32}  (hz : Rp A h σ ρ) (hr : fX1_enterWindow x1 x2 σ = some (v, σ')) : ∀ l : Launch, Sp l mX1_enterWindow 2 0 0 [.ref (A 1 0 0), .int x1, .int x2] h (QI A v σ' ρ) X0 := by
  intro l
  refine Sp.of rfl rfl (lv := [(0, .ref (A 1 0 0)), (1, .int x1), (2, .int x2)]) (Nat.le_of_ble_eq_true rfl) rfl (fun x hf hrm => ?_)
  rw [fX1_enterWindow.eq_1] at hr
  refine w_aload_n 0 dX1_enterWindow_0 rfl rfl rfl ?_
  have hv1 := hz.ww64 (p := 0) (s := 0) rfl
  refine g_X1_28 dX1_enterWindow_1 rfl (hz.o1 rfl) (hz.rr64 rfl) ?_
  refine g_X1_38 dX1_enterWindow_4 rfl (hz.o5 hv1) (hz.r320 hv1) ?_
  refine w_iload_n 1 dX1_enterWindow_7 rfl rfl rfl ?_
  obtain ⟨g2, hr⟩ := gd hr
  have hv3 := vdb_320 (p := (zR σ 64 0 0 0).1) hv1 (gi_lt g2)
  refine w_aald 7 dX1_enterWindow_8 rfl (by decide) (by decide) (fun _ => rfl) (hz.k320 hv1) (gin (hz.n320 hv1) g2) (hz.e320 hv1 (gi_lt g2)) ?_
  refine w_astore_n [(3, .ref (A 7 (zR σ 64 0 0 0).1 (Int32.toNatClampNeg x1))), (0, .ref (A 1 0 0)), (1, .int x1), (2, .int x2)] dX1_enterWindow_9 rfl rfl (by decide) rfl ?_
  refine w_aload_n 0 dX1_enterWindow_10 rfl rfl rfl ?_
  refine g_X1_130 dX1_enterWindow_11 rfl (hz.o7 hv3) (hz.i455 hv3) ?_
  refine w_if_gt 19 dX1_enterWindow_14 rfl rfl (fun q14 => ?_) (fun q14 => ?_)
  · have hr := bt q14 hr
    refine w_aload_n 1 dX1_enterWindow_19 rfl rfl rfl ?_
    refine g_X1_18 dX1_enterWindow_20 rfl (hz.o1 rfl) (hz.r71 rfl) ?_
    refine g_X1_127 dX1_enterWindow_23 rfl (hz.o6 rfl) (hz.i384 rfl) ?_
    refine w_aload_n 1 dX1_enterWindow_26 rfl rfl rfl ?_
    refine g_X1_18 dX1_enterWindow_27 rfl (hz.o1 rfl) (hz.r71 rfl) ?_
    refine g_X1_127 dX1_enterWindow_30 rfl (hz.o6 rfl) (hz.i384 rfl) ?_
    refine w_aload_n 0 dX1_enterWindow_33 rfl rfl rfl ?_
    refine g_X1_130 dX1_enterWindow_34 rfl (hz.o7 hv3) (hz.i455 hv3) ?_
    obtain ⟨g4, hr⟩ := gd hr
    refine w_irem dX1_enterWindow_37 rfl g4 ?_
    refine w_isub dX1_enterWindow_38 rfl ?_
    refine w_aload_n 0 dX1_enterWindow_39 rfl rfl rfl ?_
    refine g_X1_130 dX1_enterWindow_40 rfl (hz.o7 hv3) (hz.i455 hv3) ?_
    refine w_iadd dX1_enterWindow_43 rfl ?_
    refine w_istore [(4, .int (((zI σ 384 0 0 0) - ((zI σ 384 0 0 0) - (zI σ 384 0 0 0) / (zI σ 455 ((zR σ 64 0 0 0).1) (Int32.toNatClampNeg x1) 0) * (zI σ 455 ((zR σ 64 0 0 0).1) (Int32.toNatClampNeg x1) 0))) + (zI σ 455 ((zR σ 64 0 0 0).1) (Int32.toNatClampNeg x1) 0))), (3, .ref (A 7 (zR σ 64 0 0 0).1 (Int32.toNatClampNeg x1))), (0, .ref (A 1 0 0)), (1, .int x1), (2, .int x2)] dX1_enterWindow_44 rfl (by decide) rfl ?_
    refine w_iload_n 4 dX1_enterWindow_46 rfl rfl rfl ?_
    refine w_if_ne 76 dX1_enterWindow_47 rfl rfl (fun q47 => ?_) (fun q47 => ?_)
    · have hr := bf q47 hr
      refine w_aload_n 1 dX1_enterWindow_76 rfl rfl rfl ?_
      refine g_X1_105 dX1_enterWindow_77 rfl (hz.o7 hv3) (hz.i461 hv3) ?_
      refine w_iload 0 dX1_enterWindow_80 rfl rfl ?_
      refine w_icmp_lt 89 dX1_enterWindow_82 rfl rfl (fun q82 => ?_) (fun q82 => ?_)
      · have hr := bt q82 hr
        refine w_iconst 0 dX1_enterWindow_89 rfl rfl ?_
        refine w_lv [(0, .ref (A 1 0 0)), (1, .int x1), (2, .int x2), (3, .ref (A 7 (zR σ 64 0 0 0).1 (Int32.toNatClampNeg x1))), (4, .int (((zI σ 384 0 0 0) - ((zI σ 384 0 0 0) - (zI σ 384 0 0 0) / (zI σ 455 ((zR σ 64 0 0 0).1) (Int32.toNatClampNeg x1) 0) * (zI σ 455 ((zR σ 64 0 0 0).1) (Int32.toNatClampNeg x1) 0))) + (zI σ 455 ((zR σ 64 0 0 0).1) (Int32.toNatClampNeg x1) 0)))] [2, 3, 4, 1, 0] rfl ?_
        exact w_X1_enterWindow_90 hf hrm   ((zR σ 64 0 0 0).1) (Int32.toNatClampNeg x1) (((zI σ 384 0 0 0) - ((zI σ 384 0 0 0) - (zI σ 384 0 0 0) / (zI σ 455 ((zR σ 64 0 0 0).1) (Int32.toNatClampNeg x1) 0) * (zI σ 455 ((zR σ 64 0 0 0).1) (Int32.toNatClampNeg x1) 0))) + (zI σ 455 ((zR σ 64 0 0 0).1) (Int32.toNatClampNeg x1) 0)) 0 _ _ hz hv3 hr
      · have hr := bf q82 hr
        refine w_iconst 1 dX1_enterWindow_85 rfl rfl ?_
        refine w_goto 90 dX1_enterWindow_86 rfl ?_
        refine w_lv [(0, .ref (A 1 0 0)), (1, .int x1), (2, .int x2), (3, .ref (A 7 (zR σ 64 0 0 0).1 (Int32.toNatClampNeg x1))), (4, .int (((zI σ 384 0 0 0) - ((zI σ 384 0 0 0) - (zI σ 384 0 0 0) / (zI σ 455 ((zR σ 64 0 0 0).1) (Int32.toNatClampNeg x1) 0) * (zI σ 455 ((zR σ 64 0 0 0).1) (Int32.toNatClampNeg x1) 0))) + (zI σ 455 ((zR σ 64 0 0 0).1) (Int32.toNatClampNeg x1) 0)))] [2, 3, 4, 1, 0] rfl ?_
        exact w_X1_enterWindow_90 hf hrm   ((zR σ 64 0 0 0).1) (Int32.toNatClampNeg x1) (((zI σ 384 0 0 0) - ((zI σ 384 0 0 0) - (zI σ 384 0 0 0) / (zI σ 455 ((zR σ 64 0 0 0).1) (Int32.toNatClampNeg x1) 0) * (zI σ 455 ((zR σ 64 0 0 0).1) (Int32.toNatClampNeg x1) 0))) + (zI σ 455 ((zR σ 64 0 0 0).1) (Int32.toNatClampNeg x1) 0)) 1 _ _ hz hv3 hr
    · have hr := bt q47 hr
      refine w_aload_n 1 dX1_enterWindow_50 rfl rfl rfl ?_
      refine g_X1_105 dX1_enterWindow_51 rfl (hz.o7 hv3) (hz.i461 hv3) ?_
      refine w_iload 0 dX1_enterWindow_54 rfl rfl ?_
      refine w_aload_n 1 dX1_enterWindow_56 rfl rfl rfl ?_
      refine g_X1_263 dX1_enterWindow_57 rfl (hz.o7 hv3) (hz.i456 hv3) ?_
      refine w_iadd dX1_enterWindow_60 rfl ?_
      refine w_icmp_lt 76 dX1_enterWindow_61 rfl rfl (fun q61 => ?_) (fun q61 => ?_)
      · have hr := bt q61 hr
        refine w_aload_n 1 dX1_enterWindow_76 rfl rfl rfl ?_
        refine g_X1_105 dX1_enterWindow_77 rfl (hz.o7 hv3) (hz.i461 hv3) ?_
        refine w_iload 0 dX1_enterWindow_80 rfl rfl ?_
        refine w_icmp_lt 89 dX1_enterWindow_82 rfl rfl (fun q82 => ?_) (fun q82 => ?_)
        · have hr := bt q82 hr
          refine w_iconst 0 dX1_enterWindow_89 rfl rfl ?_
          refine w_lv [(0, .ref (A 1 0 0)), (1, .int x1), (2, .int x2), (3, .ref (A 7 (zR σ 64 0 0 0).1 (Int32.toNatClampNeg x1))), (4, .int (((zI σ 384 0 0 0) - ((zI σ 384 0 0 0) - (zI σ 384 0 0 0) / (zI σ 455 ((zR σ 64 0 0 0).1) (Int32.toNatClampNeg x1) 0) * (zI σ 455 ((zR σ 64 0 0 0).1) (Int32.toNatClampNeg x1) 0))) + (zI σ 455 ((zR σ 64 0 0 0).1) (Int32.toNatClampNeg x1) 0)))] [2, 3, 4, 1, 0] rfl ?_
          exact w_X1_enterWindow_90 hf hrm   ((zR σ 64 0 0 0).1) (Int32.toNatClampNeg x1) (((zI σ 384 0 0 0) - ((zI σ 384 0 0 0) - (zI σ 384 0 0 0) / (zI σ 455 ((zR σ 64 0 0 0).1) (Int32.toNatClampNeg x1) 0) * (zI σ 455 ((zR σ 64 0 0 0).1) (Int32.toNatClampNeg x1) 0))) + (zI σ 455 ((zR σ 64 0 0 0).1) (Int32.toNatClampNeg x1) 0)) 0 _ _ hz hv3 hr
        · have hr := bf q82 hr
          refine w_iconst 1 dX1_enterWindow_85 rfl rfl ?_
          refine w_goto 90 dX1_enterWindow_86 rfl ?_
          refine w_lv [(0, .ref (A 1 0 0)), (1, .int x1), (2, .int x2), (3, .ref (A 7 (zR σ 64 0 0 0).1 (Int32.toNatClampNeg x1))), (4, .int (((zI σ 384 0 0 0) - ((zI σ 384 0 0 0) - (zI σ 384 0 0 0) / (zI σ 455 ((zR σ 64 0 0 0).1) (Int32.toNatClampNeg x1) 0) * (zI σ 455 ((zR σ 64 0 0 0).1) (Int32.toNatClampNeg x1) 0))) + (zI σ 455 ((zR σ 64 0 0 0).1) (Int32.toNatClampNeg x1) 0)))] [2, 3, 4, 1, 0] rfl ?_
          exact w_X1_enterWindow_90 hf hrm   ((zR σ 64 0 0 0).1) (Int32.toNatClampNeg x1) (((zI σ 384 0 0 0) - ((zI σ 384 0 0 0) - (zI σ 384 0 0 0) / (zI σ 455 ((zR σ 64 0 0 0).1) (Int32.toNatClampNeg x1) 0) * (zI σ 455 ((zR σ 64 0 0 0).1) (Int32.toNatClampNeg x1) 0))) + (zI σ 455 ((zR σ 64 0 0 0).1) (Int32.toNatClampNeg x1) 0)) 1 _ _ hz hv3 hr
      · have hr := bf q61 hr
        refine w_aload_n 2 dX1_enterWindow_64 rfl rfl rfl ?_
        refine w_iload_n 3 dX1_enterWindow_65 rfl rfl rfl ?_
        refine w_iconst (-1) dX1_enterWindow_66 rfl rfl ?_
        refine w_aload_n 2 dX1_enterWindow_67 rfl rfl rfl ?_
        refine g_X1_18 dX1_enterWindow_68 rfl (hz.o1 rfl) (hz.r71 rfl) ?_
        obtain ⟨v36, σ37, e38, hr⟩ := bq_some hr
        refine c_X1_174 (As := [.int x1, .int (-1), .ref (A 6 0 0)]) (rest := []) (fun l => s_X1_hold rfl hz e38 l) hrm dX1_enterWindow_71 rfl rfl (Nat.le_of_ble_eq_true rfl) (Nat.le_of_ble_eq_true rfl) (Nat.le_of_ble_eq_true rfl) (hz.o1 rfl) rfl (Nat.le_of_ble_eq_true rfl) (fun vr h2 hq => ?_) (fun E9 h9 hq => hq.elim)
        obtain ⟨rfl, hz⟩ := hq
        show wp _ _ 74 [(4, .int (((zI σ 384 0 0 0) - ((zI σ 384 0 0 0) - (zI σ 384 0 0 0) / (zI σ 455 ((zR σ 64 0 0 0).1) (Int32.toNatClampNeg x1) 0) * (zI σ 455 ((zR σ 64 0 0 0).1) (Int32.toNatClampNeg x1) 0))) + (zI σ 455 ((zR σ 64 0 0 0).1) (Int32.toNatClampNeg x1) 0))), (3, .ref (A 7 (zR σ 64 0 0 0).1 (Int32.toNatClampNeg x1))), (0, .ref (A 1 0 0)), (1, .int x1), (2, .int x2)] [] _ _ _
        refine w_iconst 0 dX1_enterWindow_74 rfl rfl ?_
        refine w_zret hf dX1_enterWindow_75 rfl rfl (Nat.le_of_ble_eq_true rfl) (Nat.le_of_ble_eq_true rfl) ?_
        obtain ⟨rfl, rfl⟩ := ret_inj hr
        exact ⟨rfl, hz⟩
  · have hr := bf q14 hr
    refine w_iconst 0 dX1_enterWindow_17 rfl rfl ?_
    refine w_zret hf dX1_enterWindow_18 rfl rfl (Nat.le_of_ble_eq_true rfl) (Nat.le_of_ble_eq_true rfl) ?_
    obtain ⟨rfl, rfl⟩ := ret_inj hr
    exact ⟨rfl, hz⟩

set_option maxRecDepth 20000 in
set_option maxHeartbeats 4000000 in
theorem w_X1_comesOut_113 {A : Nat → Nat → Nat → Nat} {ρ σ' : Zs} {v : Int32} {x : Cxt} {x1 : Int32} {p2 : Nat} {s2 : Nat} {p3 : Nat} {s3 : Nat} {x4 : Int32}  (hf : m_fin 0 0 (QI A v σ' ρ) X0 x) (hrm : m_rm 3 0 0 x) (hV2 : vdb (A 16 0 0) 7 p2 s2 = true) (hV3 : vdb (A 16 0 0) 8 p3 s3 = true) : ∀ (n : Nat) (y5 : Int32) (σ : Zs) (h : Hp), Rp A h σ ρ → fX1_comesOut_113 x1 p2 s2 p3 s3 x4  n y5 σ = some (v, σ') → wp x mX1_comesOut 113 [(0, .ref (A 1 0 0)), (1, .int x1), (2, .ref (A 7 p2 s2)), (3, .ref (A 8 p3 s3)), (4, .int x4), (5, .int y5)] [] h 0 0
  | 0, _, σ, h => fun hz hr => by
    rw [fX1_comesOut_113.eq_1] at hr
    exact nono hr
  | n + 1, y5, σ, h => fun hz hr => by
    rw [fX1_comesOut_113.eq_2] at hr
    refine w_iload 5 dX1_comesOut_113 rfl rfl ?_
    refine w_aload_n 2 dX1_comesOut_115 rfl rfl rfl ?_
    refine g_X1_120 dX1_comesOut_116 rfl (hz.o7 hV2) (hz.i450 hV2) ?_
    refine w_icmp_ge 167 dX1_comesOut_119 rfl rfl (fun q119 => ?_) (fun q119 => ?_)
    · have hr := bt q119 hr
      refine w_iconst 1 dX1_comesOut_167 rfl rfl ?_
      refine w_zret hf dX1_comesOut_168 rfl rfl (Nat.le_of_ble_eq_true rfl) (Nat.le_of_ble_eq_true rfl) ?_
      obtain ⟨rfl, rfl⟩ := ret_inj hr
      exact ⟨rfl, hz⟩
    · have hr := bf q119 hr
      refine w_iload 5 dX1_comesOut_122 rfl rfl ?_
      refine w_bipush 6 dX1_comesOut_124 rfl rfl ?_
      refine w_icmp_ge 167 dX1_comesOut_126 rfl rfl (fun q126 => ?_) (fun q126 => ?_)
      · have hr := bt q126 hr
        refine w_iconst 1 dX1_comesOut_167 rfl rfl ?_
        refine w_zret hf dX1_comesOut_168 rfl rfl (Nat.le_of_ble_eq_true rfl) (Nat.le_of_ble_eq_true rfl) ?_
        obtain ⟨rfl, rfl⟩ := ret_inj hr
        exact ⟨rfl, hz⟩
      · have hr := bf q126 hr
        refine w_aload_n 0 dX1_comesOut_129 rfl rfl rfl ?_
        refine g_X1_25 dX1_comesOut_130 rfl (hz.o1 rfl) (hz.r73 rfl) ?_
        refine w_aload_n 0 dX1_comesOut_133 rfl rfl rfl ?_
        have hv16 := hz.ww64 (p := 0) (s := 0) rfl
        refine g_X1_28 dX1_comesOut_134 rfl (hz.o1 rfl) (hz.rr64 rfl) ?_
        refine w_aload_n 2 dX1_comesOut_137 rfl rfl rfl ?_
        refine g_X1_213 dX1_comesOut_138 rfl (hz.o7 hV2) (hz.r457 hV2) ?_
        refine w_iload 5 dX1_comesOut_141 rfl rfl ?_
        obtain ⟨g17, hr⟩ := gd hr
        refine w_iald dX1_comesOut_143 rfl (hz.k457 hV2) (gin (hz.n457 hV2) g17) (hz.x457 hV2) ?_
        refine w_aload_n 2 dX1_comesOut_144 rfl rfl rfl ?_
        refine g_X1_216 dX1_comesOut_145 rfl (hz.o7 hV2) (hz.r458 hV2) ?_
        refine w_iload 5 dX1_comesOut_148 rfl rfl ?_
        obtain ⟨g18, hr⟩ := gd hr
        refine w_iald dX1_comesOut_150 rfl (hz.k458 hV2) (gin (hz.n458 hV2) g18) (hz.x458 hV2) ?_
        refine w_aload_n 0 dX1_comesOut_151 rfl rfl rfl ?_
        refine g_X1_18 dX1_comesOut_152 rfl (hz.o1 rfl) (hz.r71 rfl) ?_
        obtain ⟨v19, σ20, e21, hr⟩ := bq_some hr
        refine c_X1_167 (As := [.int (zI σ 1481 p2 s2 (Int32.toNatClampNeg y5)), .int (zI σ 1482 p2 s2 (Int32.toNatClampNeg y5)), .ref (A 6 0 0)]) (rest := [.ref (A 6 2 0)]) (fun l => s_X5_reckon hv16 rfl hz e21 l) hrm dX1_comesOut_155 rfl rfl (Nat.le_of_ble_eq_true rfl) (Nat.le_of_ble_eq_true rfl) (Nat.le_of_ble_eq_true rfl) (hz.o5 hv16) rfl (Nat.le_of_ble_eq_true rfl) (fun vr h2 hq => ?_) (fun E9 h9 hq => hq.elim)
        obtain ⟨rfl, hz⟩ := hq
        show wp _ _ 158 [(0, .ref (A 1 0 0)), (1, .int x1), (2, .ref (A 7 p2 s2)), (3, .ref (A 8 p3 s3)), (4, .int x4), (5, .int y5)] [.long v19, .ref (A 6 2 0)] _ _ _
        obtain ⟨v23, σ24, e25, hr⟩ := bq_some hr
        refine c_X1_219 (As := [.long v19]) (rest := []) (fun l => s_X6_append rfl hz e25 l) hrm dX1_comesOut_158 rfl rfl (Nat.le_of_ble_eq_true rfl) (Nat.le_of_ble_eq_true rfl) (Nat.le_of_ble_eq_true rfl) (hz.o6 rfl) rfl (Nat.le_of_ble_eq_true rfl) (fun vr h2 hq => ?_) (fun E9 h9 hq => hq.elim)
        obtain ⟨rfl, hz⟩ := hq
        show wp _ _ 161 [(0, .ref (A 1 0 0)), (1, .int x1), (2, .ref (A 7 p2 s2)), (3, .ref (A 8 p3 s3)), (4, .int x4), (5, .int y5)] [] _ _ _
        refine w_iinc 5 (y5 + 1) [(5, .int (y5 + 1)), (0, .ref (A 1 0 0)), (1, .int x1), (2, .ref (A 7 p2 s2)), (3, .ref (A 8 p3 s3)), (4, .int x4)] dX1_comesOut_161 rfl rfl rfl (by decide) rfl ?_
        refine w_goto 113 dX1_comesOut_164 rfl ?_
        refine w_lv [(0, .ref (A 1 0 0)), (1, .int x1), (2, .ref (A 7 p2 s2)), (3, .ref (A 8 p3 s3)), (4, .int x4), (5, .int (y5 + 1))] [1, 2, 3, 4, 5, 0] rfl ?_
        exact w_X1_comesOut_113 hf hrm hV2 hV3  n (y5 + 1) _ _ hz  hr
set_option maxRecDepth 20000 in
set_option maxHeartbeats 4000000 in
theorem w_X1_comesOut_186 {A : Nat → Nat → Nat → Nat} {ρ σ' : Zs} {v : Int32} {x : Cxt} {x1 : Int32} {p2 : Nat} {s2 : Nat} {p3 : Nat} {s3 : Nat} {x4 : Int32}  (hf : m_fin 0 0 (QI A v σ' ρ) X0 x) (hrm : m_rm 3 0 0 x) (hV2 : vdb (A 16 0 0) 7 p2 s2 = true) (hV3 : vdb (A 16 0 0) 8 p3 s3 = true) : ∀ (n : Nat) (y5 : Int32) (σ : Zs) (h : Hp), Rp A h σ ρ → fX1_comesOut_186 x1 p2 s2 p3 s3 x4  n y5 σ = some (v, σ') → wp x mX1_comesOut 186 [(0, .ref (A 1 0 0)), (1, .int x1), (2, .ref (A 7 p2 s2)), (3, .ref (A 8 p3 s3)), (4, .int x4), (5, .int y5)] [] h 0 0
  | 0, _, σ, h => fun hz hr => by
    rw [fX1_comesOut_186.eq_1] at hr
    exact nono hr
  | n + 1, y5, σ, h => fun hz hr => by
    rw [fX1_comesOut_186.eq_2] at hr
    refine w_iload 5 dX1_comesOut_186 rfl rfl ?_
    refine w_aload_n 2 dX1_comesOut_188 rfl rfl rfl ?_
    refine g_X1_120 dX1_comesOut_189 rfl (hz.o7 hV2) (hz.i450 hV2) ?_
    refine w_icmp_ge 229 dX1_comesOut_192 rfl rfl (fun q192 => ?_) (fun q192 => ?_)
    · have hr := bt q192 hr
      refine w_iconst 1 dX1_comesOut_229 rfl rfl ?_
      refine w_zret hf dX1_comesOut_230 rfl rfl (Nat.le_of_ble_eq_true rfl) (Nat.le_of_ble_eq_true rfl) ?_
      obtain ⟨rfl, rfl⟩ := ret_inj hr
      exact ⟨rfl, hz⟩
    · have hr := bf q192 hr
      refine w_iload 5 dX1_comesOut_195 rfl rfl ?_
      refine w_bipush 6 dX1_comesOut_197 rfl rfl ?_
      refine w_icmp_ge 229 dX1_comesOut_199 rfl rfl (fun q199 => ?_) (fun q199 => ?_)
      · have hr := bt q199 hr
        refine w_iconst 1 dX1_comesOut_229 rfl rfl ?_
        refine w_zret hf dX1_comesOut_230 rfl rfl (Nat.le_of_ble_eq_true rfl) (Nat.le_of_ble_eq_true rfl) ?_
        obtain ⟨rfl, rfl⟩ := ret_inj hr
        exact ⟨rfl, hz⟩
      · have hr := bf q199 hr
        refine w_aload_n 0 dX1_comesOut_202 rfl rfl rfl ?_
        refine g_X1_25 dX1_comesOut_203 rfl (hz.o1 rfl) (hz.r73 rfl) ?_
        refine w_aload_n 0 dX1_comesOut_206 rfl rfl rfl ?_
        refine g_X1_18 dX1_comesOut_207 rfl (hz.o1 rfl) (hz.r71 rfl) ?_
        refine w_aload_n 2 dX1_comesOut_210 rfl rfl rfl ?_
        refine g_X1_227 dX1_comesOut_211 rfl (hz.o7 hV2) (hz.r459 hV2) ?_
        refine w_iload 5 dX1_comesOut_214 rfl rfl ?_
        obtain ⟨g31, hr⟩ := gd hr
        refine w_iald dX1_comesOut_216 rfl (hz.k459 hV2) (gin (hz.n459 hV2) g31) (hz.x459 hV2) ?_
        obtain ⟨v32, σ33, e34, hr⟩ := bq_some hr
        refine c_X1_230 (As := [.int (zI σ 1483 p2 s2 (Int32.toNatClampNeg y5))]) (rest := [.ref (A 6 2 0)]) (fun l => s_X6_numberAt rfl hz e34 l) hrm dX1_comesOut_217 rfl rfl (Nat.le_of_ble_eq_true rfl) (Nat.le_of_ble_eq_true rfl) (Nat.le_of_ble_eq_true rfl) (hz.o6 rfl) rfl (Nat.le_of_ble_eq_true rfl) (fun vr h2 hq => ?_) (fun E9 h9 hq => hq.elim)
        obtain ⟨rfl, hz⟩ := hq
        show wp _ _ 220 [(0, .ref (A 1 0 0)), (1, .int x1), (2, .ref (A 7 p2 s2)), (3, .ref (A 8 p3 s3)), (4, .int x4), (5, .int y5)] [.long v32, .ref (A 6 2 0)] _ _ _
        obtain ⟨v36, σ37, e38, hr⟩ := bq_some hr
        refine c_X1_219 (As := [.long v32]) (rest := []) (fun l => s_X6_append rfl hz e38 l) hrm dX1_comesOut_220 rfl rfl (Nat.le_of_ble_eq_true rfl) (Nat.le_of_ble_eq_true rfl) (Nat.le_of_ble_eq_true rfl) (hz.o6 rfl) rfl (Nat.le_of_ble_eq_true rfl) (fun vr h2 hq => ?_) (fun E9 h9 hq => hq.elim)
        obtain ⟨rfl, hz⟩ := hq
        show wp _ _ 223 [(0, .ref (A 1 0 0)), (1, .int x1), (2, .ref (A 7 p2 s2)), (3, .ref (A 8 p3 s3)), (4, .int x4), (5, .int y5)] [] _ _ _
        refine w_iinc 5 (y5 + 1) [(5, .int (y5 + 1)), (0, .ref (A 1 0 0)), (1, .int x1), (2, .ref (A 7 p2 s2)), (3, .ref (A 8 p3 s3)), (4, .int x4)] dX1_comesOut_223 rfl rfl rfl (by decide) rfl ?_
        refine w_goto 186 dX1_comesOut_226 rfl ?_
        refine w_lv [(0, .ref (A 1 0 0)), (1, .int x1), (2, .ref (A 7 p2 s2)), (3, .ref (A 8 p3 s3)), (4, .int x4), (5, .int (y5 + 1))] [1, 2, 3, 4, 5, 0] rfl ?_
        exact w_X1_comesOut_186 hf hrm hV2 hV3  n (y5 + 1) _ _ hz  hr
set_option maxRecDepth 20000 in
set_option maxHeartbeats 4000000 in
theorem s_X1_comesOut {A : Nat → Nat → Nat → Nat} {h : Hp} {σ ρ σ' : Zs} {v : Int32} {x1 : Int32} {p2 : Nat} {s2 : Nat} {p3 : Nat} {s3 : Nat} {x4 : Int32} (hV2 : vdb (A 16 0 0) 7 p2 s2 = true) (hV3 : vdb (A 16 0 0) 8 p3 s3 = true) (hz : Rp A h σ ρ) (hr : fX1_comesOut x1 p2 s2 p3 s3 x4 σ = some (v, σ')) : ∀ l : Launch, Sp l mX1_comesOut 3 0 0 [.ref (A 1 0 0), .int x1, .ref (A 7 p2 s2), .ref (A 8 p3 s3), .int x4] h (QI A v σ' ρ) X0 := by
  intro l
  refine Sp.of rfl rfl (lv := [(0, .ref (A 1 0 0)), (1, .int x1), (2, .ref (A 7 p2 s2)), (3, .ref (A 8 p3 s3)), (4, .int x4)]) (Nat.le_of_ble_eq_true rfl) rfl (fun x hf hrm => ?_)
  rw [fX1_comesOut.eq_1] at hr
  refine w_aload_n 2 dX1_comesOut_0 rfl rfl rfl ?_
  refine g_X1_94 dX1_comesOut_1 rfl (hz.o7 hV2) (hz.i449 hV2) ?_
  by_cases q4_0 : ((zI σ 449 p2 s2 0) : Int32) = 1
  · have hr := bt q4_0 hr
    refine w_tableIn 48 dX1_comesOut_4 (by rw [q4_0]; decide) (by rw [q4_0]; decide) (by rw [q4_0]; rfl) rfl ?_
    refine w_aload_n 0 dX1_comesOut_48 rfl rfl rfl ?_
    refine g_X1_25 dX1_comesOut_49 rfl (hz.o1 rfl) (hz.r73 rfl) ?_
    refine w_aload_n 0 dX1_comesOut_52 rfl rfl rfl ?_
    refine g_X1_18 dX1_comesOut_53 rfl (hz.o1 rfl) (hz.r71 rfl) ?_
    obtain ⟨v1, σ2, e3, hr⟩ := bq_some hr
    refine c_X1_143 (As := [.ref (A 6 0 0)]) (rest := []) (fun l => s_X6_copyFrom rfl rfl hz e3 l) hrm dX1_comesOut_56 rfl rfl (Nat.le_of_ble_eq_true rfl) (Nat.le_of_ble_eq_true rfl) (Nat.le_of_ble_eq_true rfl) (hz.o6 rfl) rfl (Nat.le_of_ble_eq_true rfl) (fun vr h2 hq => ?_) (fun E9 h9 hq => hq.elim)
    obtain ⟨rfl, hz⟩ := hq
    show wp _ _ 59 [(0, .ref (A 1 0 0)), (1, .int x1), (2, .ref (A 7 p2 s2)), (3, .ref (A 8 p3 s3)), (4, .int x4)] [] _ _ _
    refine w_aload_n 0 dX1_comesOut_59 rfl rfl rfl ?_
    have hv5 := hz.ww64 (p := 0) (s := 0) rfl
    refine g_X1_28 dX1_comesOut_60 rfl (hz.o1 rfl) (hz.rr64 rfl) ?_
    refine w_aload_n 2 dX1_comesOut_63 rfl rfl rfl ?_
    refine g_X1_213 dX1_comesOut_64 rfl (hz.o7 hV2) (hz.r457 hV2) ?_
    refine w_iconst 0 dX1_comesOut_67 rfl rfl ?_
    obtain ⟨g6, hr⟩ := gd hr
    refine w_iald dX1_comesOut_68 rfl (hz.k457 hV2) (gin (hz.n457 hV2) g6) (hz.x457 hV2) ?_
    refine w_aload_n 2 dX1_comesOut_69 rfl rfl rfl ?_
    refine g_X1_216 dX1_comesOut_70 rfl (hz.o7 hV2) (hz.r458 hV2) ?_
    refine w_iconst 0 dX1_comesOut_73 rfl rfl ?_
    obtain ⟨g7, hr⟩ := gd hr
    refine w_iald dX1_comesOut_74 rfl (hz.k458 hV2) (gin (hz.n458 hV2) g7) (hz.x458 hV2) ?_
    refine w_aload_n 0 dX1_comesOut_75 rfl rfl rfl ?_
    refine g_X1_18 dX1_comesOut_76 rfl (hz.o1 rfl) (hz.r71 rfl) ?_
    obtain ⟨v8, σ9, e10, hr⟩ := bq_some hr
    refine c_X1_167 (As := [.int (zI σ2 1481 p2 s2 (Int32.toNatClampNeg 0)), .int (zI σ2 1482 p2 s2 (Int32.toNatClampNeg 0)), .ref (A 6 0 0)]) (rest := []) (fun l => s_X5_reckon hv5 rfl hz e10 l) hrm dX1_comesOut_79 rfl rfl (Nat.le_of_ble_eq_true rfl) (Nat.le_of_ble_eq_true rfl) (Nat.le_of_ble_eq_true rfl) (hz.o5 hv5) rfl (Nat.le_of_ble_eq_true rfl) (fun vr h2 hq => ?_) (fun E9 h9 hq => hq.elim)
    obtain ⟨rfl, hz⟩ := hq
    show wp _ _ 82 [(0, .ref (A 1 0 0)), (1, .int x1), (2, .ref (A 7 p2 s2)), (3, .ref (A 8 p3 s3)), (4, .int x4)] [.long v8] _ _ _
    refine w_lconst 0 dX1_comesOut_82 rfl rfl ?_
    refine w_lcmp dX1_comesOut_83 rfl ?_
    refine w_if_eq 91 dX1_comesOut_84 rfl rfl (fun q84 => ?_) (fun q84 => ?_)
    · have hr := bt q84 hr
      refine w_iconst 0 dX1_comesOut_91 rfl rfl ?_
      refine w_zret hf dX1_comesOut_92 rfl rfl (Nat.le_of_ble_eq_true rfl) (Nat.le_of_ble_eq_true rfl) ?_
      obtain ⟨rfl, rfl⟩ := ret_inj hr
      exact ⟨rfl, hz⟩
    · have hr := bf q84 hr
      refine w_iconst 1 dX1_comesOut_87 rfl rfl ?_
      refine w_goto 92 dX1_comesOut_88 rfl ?_
      refine w_zret hf dX1_comesOut_92 rfl rfl (Nat.le_of_ble_eq_true rfl) (Nat.le_of_ble_eq_true rfl) ?_
      obtain ⟨rfl, rfl⟩ := ret_inj hr
      exact ⟨rfl, hz⟩
  have hr := bf q4_0 hr
  by_cases q4_1 : ((zI σ 449 p2 s2 0) : Int32) = 2
  · have hr := bt q4_1 hr
    refine w_tableIn 93 dX1_comesOut_4 (by rw [q4_1]; decide) (by rw [q4_1]; decide) (by rw [q4_1]; rfl) rfl ?_
    refine w_aload_n 0 dX1_comesOut_93 rfl rfl rfl ?_
    refine g_X1_25 dX1_comesOut_94 rfl (hz.o1 rfl) (hz.r73 rfl) ?_
    refine w_aload_n 0 dX1_comesOut_97 rfl rfl rfl ?_
    refine g_X1_18 dX1_comesOut_98 rfl (hz.o1 rfl) (hz.r71 rfl) ?_
    obtain ⟨v12, σ13, e14, hr⟩ := bq_some hr
    refine c_X1_143 (As := [.ref (A 6 0 0)]) (rest := []) (fun l => s_X6_copyFrom rfl rfl hz e14 l) hrm dX1_comesOut_101 rfl rfl (Nat.le_of_ble_eq_true rfl) (Nat.le_of_ble_eq_true rfl) (Nat.le_of_ble_eq_true rfl) (hz.o6 rfl) rfl (Nat.le_of_ble_eq_true rfl) (fun vr h2 hq => ?_) (fun E9 h9 hq => hq.elim)
    obtain ⟨rfl, hz⟩ := hq
    show wp _ _ 104 [(0, .ref (A 1 0 0)), (1, .int x1), (2, .ref (A 7 p2 s2)), (3, .ref (A 8 p3 s3)), (4, .int x4)] [] _ _ _
    refine w_aload_n 0 dX1_comesOut_104 rfl rfl rfl ?_
    refine g_X1_18 dX1_comesOut_105 rfl (hz.o1 rfl) (hz.r71 rfl) ?_
    refine g_X1_126 dX1_comesOut_108 rfl (hz.o6 rfl) (hz.i385 rfl) ?_
    refine w_istore [(5, .int (zI σ13 385 0 0 0)), (0, .ref (A 1 0 0)), (1, .int x1), (2, .ref (A 7 p2 s2)), (3, .ref (A 8 p3 s3)), (4, .int x4)] dX1_comesOut_111 rfl (by decide) rfl ?_
    refine w_lv [(0, .ref (A 1 0 0)), (1, .int x1), (2, .ref (A 7 p2 s2)), (3, .ref (A 8 p3 s3)), (4, .int x4), (5, .int (zI σ13 385 0 0 0))] [1, 2, 3, 4, 5, 0] rfl ?_
    exact w_X1_comesOut_113 hf hrm hV2 hV3  FU (zI σ13 385 0 0 0) _ _ hz  hr
  have hr := bf q4_1 hr
  by_cases q4_2 : ((zI σ 449 p2 s2 0) : Int32) = 3
  · have hr := bt q4_2 hr
    refine w_tableIn 169 dX1_comesOut_4 (by rw [q4_2]; decide) (by rw [q4_2]; decide) (by rw [q4_2]; rfl) rfl ?_
    refine w_aload_n 0 dX1_comesOut_169 rfl rfl rfl ?_
    refine g_X1_25 dX1_comesOut_170 rfl (hz.o1 rfl) (hz.r73 rfl) ?_
    refine w_aload_n 0 dX1_comesOut_173 rfl rfl rfl ?_
    refine g_X1_18 dX1_comesOut_174 rfl (hz.o1 rfl) (hz.r71 rfl) ?_
    refine g_X1_127 dX1_comesOut_177 rfl (hz.o6 rfl) (hz.i384 rfl) ?_
    obtain ⟨v27, σ28, e29, hr⟩ := bq_some hr
    refine c_X1_223 (As := [.int (zI σ 384 0 0 0)]) (rest := []) (fun l => s_X6_startAt rfl hz e29 l) hrm dX1_comesOut_180 rfl rfl (Nat.le_of_ble_eq_true rfl) (Nat.le_of_ble_eq_true rfl) (Nat.le_of_ble_eq_true rfl) (hz.o6 rfl) rfl (Nat.le_of_ble_eq_true rfl) (fun vr h2 hq => ?_) (fun E9 h9 hq => hq.elim)
    obtain ⟨rfl, hz⟩ := hq
    show wp _ _ 183 [(0, .ref (A 1 0 0)), (1, .int x1), (2, .ref (A 7 p2 s2)), (3, .ref (A 8 p3 s3)), (4, .int x4)] [] _ _ _
    refine w_iconst 0 dX1_comesOut_183 rfl rfl ?_
    refine w_istore [(5, .int 0), (0, .ref (A 1 0 0)), (1, .int x1), (2, .ref (A 7 p2 s2)), (3, .ref (A 8 p3 s3)), (4, .int x4)] dX1_comesOut_184 rfl (by decide) rfl ?_
    refine w_lv [(0, .ref (A 1 0 0)), (1, .int x1), (2, .ref (A 7 p2 s2)), (3, .ref (A 8 p3 s3)), (4, .int x4), (5, .int 0)] [1, 2, 3, 4, 5, 0] rfl ?_
    exact w_X1_comesOut_186 hf hrm hV2 hV3  FU 0 _ _ hz  hr
  have hr := bf q4_2 hr
  by_cases q4_3 : ((zI σ 449 p2 s2 0) : Int32) = 4
  · have hr := bt q4_3 hr
    refine w_tableIn 231 dX1_comesOut_4 (by rw [q4_3]; decide) (by rw [q4_3]; decide) (by rw [q4_3]; rfl) rfl ?_
    refine w_aload_n 0 dX1_comesOut_231 rfl rfl rfl ?_
    refine g_X1_25 dX1_comesOut_232 rfl (hz.o1 rfl) (hz.r73 rfl) ?_
    refine w_aload_n 0 dX1_comesOut_235 rfl rfl rfl ?_
    refine g_X1_18 dX1_comesOut_236 rfl (hz.o1 rfl) (hz.r71 rfl) ?_
    obtain ⟨v40, σ41, e42, hr⟩ := bq_some hr
    refine c_X1_143 (As := [.ref (A 6 0 0)]) (rest := []) (fun l => s_X6_copyFrom rfl rfl hz e42 l) hrm dX1_comesOut_239 rfl rfl (Nat.le_of_ble_eq_true rfl) (Nat.le_of_ble_eq_true rfl) (Nat.le_of_ble_eq_true rfl) (hz.o6 rfl) rfl (Nat.le_of_ble_eq_true rfl) (fun vr h2 hq => ?_) (fun E9 h9 hq => hq.elim)
    obtain ⟨rfl, hz⟩ := hq
    show wp _ _ 242 [(0, .ref (A 1 0 0)), (1, .int x1), (2, .ref (A 7 p2 s2)), (3, .ref (A 8 p3 s3)), (4, .int x4)] [] _ _ _
    refine w_iconst 1 dX1_comesOut_242 rfl rfl ?_
    refine w_zret hf dX1_comesOut_243 rfl rfl (Nat.le_of_ble_eq_true rfl) (Nat.le_of_ble_eq_true rfl) ?_
    obtain ⟨rfl, rfl⟩ := ret_inj hr
    exact ⟨rfl, hz⟩
  have hr := bf q4_3 hr
  by_cases q4_4 : ((zI σ 449 p2 s2 0) : Int32) = 5
  · have hr := bt q4_4 hr
    refine w_tableIn 271 dX1_comesOut_4 (by rw [q4_4]; decide) (by rw [q4_4]; decide) (by rw [q4_4]; rfl) rfl ?_
    refine w_iconst 0 dX1_comesOut_271 rfl rfl ?_
    refine w_zret hf dX1_comesOut_272 rfl rfl (Nat.le_of_ble_eq_true rfl) (Nat.le_of_ble_eq_true rfl) ?_
    obtain ⟨rfl, rfl⟩ := ret_inj hr
    exact ⟨rfl, hz⟩
  have hr := bf q4_4 hr
  by_cases q4_5 : ((zI σ 449 p2 s2 0) : Int32) = 6
  · have hr := bt q4_5 hr
    refine w_tableIn 244 dX1_comesOut_4 (by rw [q4_5]; decide) (by rw [q4_5]; decide) (by rw [q4_5]; rfl) rfl ?_
    refine w_aload_n 0 dX1_comesOut_244 rfl rfl rfl ?_
    refine g_X1_25 dX1_comesOut_245 rfl (hz.o1 rfl) (hz.r73 rfl) ?_
    refine w_aload_n 0 dX1_comesOut_248 rfl rfl rfl ?_
    refine g_X1_18 dX1_comesOut_249 rfl (hz.o1 rfl) (hz.r71 rfl) ?_
    obtain ⟨v44, σ45, e46, hr⟩ := bq_some hr
    refine c_X1_143 (As := [.ref (A 6 0 0)]) (rest := []) (fun l => s_X6_copyFrom rfl rfl hz e46 l) hrm dX1_comesOut_252 rfl rfl (Nat.le_of_ble_eq_true rfl) (Nat.le_of_ble_eq_true rfl) (Nat.le_of_ble_eq_true rfl) (hz.o6 rfl) rfl (Nat.le_of_ble_eq_true rfl) (fun vr h2 hq => ?_) (fun E9 h9 hq => hq.elim)
    obtain ⟨rfl, hz⟩ := hq
    show wp _ _ 255 [(0, .ref (A 1 0 0)), (1, .int x1), (2, .ref (A 7 p2 s2)), (3, .ref (A 8 p3 s3)), (4, .int x4)] [] _ _ _
    refine w_aload_n 0 dX1_comesOut_255 rfl rfl rfl ?_
    refine w_aload_n 2 dX1_comesOut_256 rfl rfl rfl ?_
    refine w_aload_n 3 dX1_comesOut_257 rfl rfl rfl ?_
    refine w_iload 4 dX1_comesOut_258 rfl rfl ?_
    obtain ⟨v48, σ49, e50, hr⟩ := bq_some hr
    refine c_X1_234 (As := [.ref (A 7 p2 s2), .ref (A 8 p3 s3), .int x4]) (rest := []) (fun l => s_X1_isFirst hV2 hV3 hz e50 l) hrm dX1_comesOut_260 rfl rfl (Nat.le_of_ble_eq_true rfl) (Nat.le_of_ble_eq_true rfl) (Nat.le_of_ble_eq_true rfl) (hz.o1 rfl) rfl (Nat.le_of_ble_eq_true rfl) (fun vr h2 hq => ?_) (fun E9 h9 hq => hq.elim)
    obtain ⟨rfl, hz⟩ := hq
    show wp _ _ 263 [(0, .ref (A 1 0 0)), (1, .int x1), (2, .ref (A 7 p2 s2)), (3, .ref (A 8 p3 s3)), (4, .int x4)] [.int v48] _ _ _
    obtain ⟨g52, hr⟩ := gd hr
    refine w_zret hf dX1_comesOut_263 rfl (zr g52) (Nat.le_of_ble_eq_true rfl) (Nat.le_of_ble_eq_true rfl) ?_
    obtain ⟨rfl, rfl⟩ := ret_inj hr
    exact ⟨rfl, hz⟩
  have hr := bf q4_5 hr
  by_cases q4_6 : ((zI σ 449 p2 s2 0) : Int32) = 7
  · have hr := bt q4_6 hr
    refine w_tableIn 264 dX1_comesOut_4 (by rw [q4_6]; decide) (by rw [q4_6]; decide) (by rw [q4_6]; rfl) rfl ?_
    refine w_aload_n 0 dX1_comesOut_264 rfl rfl rfl ?_
    refine w_iload_n 1 dX1_comesOut_265 rfl rfl rfl ?_
    refine w_iconst 0 dX1_comesOut_266 rfl rfl ?_
    obtain ⟨v53, σ54, e55, hr⟩ := bq_some hr
    refine c_X1_156 (As := [.int x1, .int 0]) (rest := []) (fun l => s_X1_enterWindow  hz e55 l) hrm dX1_comesOut_267 rfl rfl (Nat.le_of_ble_eq_true rfl) (Nat.le_of_ble_eq_true rfl) (Nat.le_of_ble_eq_true rfl) (hz.o1 rfl) rfl (Nat.le_of_ble_eq_true rfl) (fun vr h2 hq => ?_) (fun E9 h9 hq => hq.elim)
    obtain ⟨rfl, hz⟩ := hq
    show wp _ _ 270 [(0, .ref (A 1 0 0)), (1, .int x1), (2, .ref (A 7 p2 s2)), (3, .ref (A 8 p3 s3)), (4, .int x4)] [.int v53] _ _ _
    obtain ⟨g57, hr⟩ := gd hr
    refine w_zret hf dX1_comesOut_270 rfl (zr g57) (Nat.le_of_ble_eq_true rfl) (Nat.le_of_ble_eq_true rfl) ?_
    obtain ⟨rfl, rfl⟩ := ret_inj hr
    exact ⟨rfl, hz⟩
  have hr := bf q4_6 hr
  refine w_tableOut 271 dX1_comesOut_4 (tabout 1 7 (fun k h1 h2 => by
        intro e
        have h3 : k = 1 ∨ k = 2 ∨ k = 3 ∨ k = 4 ∨ k = 5 ∨ k = 6 ∨ k = 7 := by omega
        rcases h3 with h3 | h3 | h3 | h3 | h3 | h3 | h3 <;> subst h3 <;> contradiction)) rfl ?_
  refine w_iconst 0 dX1_comesOut_271 rfl rfl ?_
  refine w_zret hf dX1_comesOut_272 rfl rfl (Nat.le_of_ble_eq_true rfl) (Nat.le_of_ble_eq_true rfl) ?_
  obtain ⟨rfl, rfl⟩ := ret_inj hr
  exact ⟨rfl, hz⟩

set_option maxRecDepth 20000 in
set_option maxHeartbeats 4000000 in
theorem w_X1_lookAtNewRows_22 {A : Nat → Nat → Nat → Nat} {ρ σ' : Zs} {v : Unit} {x : Cxt} {x1 : Int32} {p2 : Nat} {s2 : Nat} {x3 : Int32}  (hf : m_fin 0 0 (QV A v σ' ρ) X0 x) (hrm : m_rm 4 0 0 x) (hV2 : vdb (A 16 0 0) 7 p2 s2 = true) : ∀ (n : Nat) (yp4 : Nat) (ys4 : Nat) (y5 : Int32) (σ : Zs) (h : Hp), Rp A h σ ρ → vdb (A 16 0 0) 7 yp4 ys4 = true → fX1_lookAtNewRows_22 x1 p2 s2 x3  n yp4 ys4 y5 σ = some (v, σ') → wp x mX1_lookAtNewRows 22 [(0, .ref (A 1 0 0)), (1, .int x1), (2, .ref (A 7 p2 s2)), (3, .int x3), (4, .ref (A 7 yp4 ys4)), (5, .int y5)] [] h 0 0
  | 0, _, _, _, σ, h => fun hz _ hr => by
    rw [fX1_lookAtNewRows_22.eq_1] at hr
    exact nono hr
  | n + 1, yp4, ys4, y5, σ, h => fun hz hy4 hr => by
    rw [fX1_lookAtNewRows_22.eq_2] at hr
    refine w_iload 5 dX1_lookAtNewRows_22 rfl rfl ?_
    refine w_aload 4 dX1_lookAtNewRows_24 rfl rfl ?_
    refine g_X1_178 dX1_lookAtNewRows_26 rfl (hz.o7 hy4) (hz.r460 hy4) ?_
    refine g_X1_196 dX1_lookAtNewRows_29 rfl (hz.o8 hy4) (hz.i512 hy4) ?_
    refine w_icmp_ge 106 dX1_lookAtNewRows_32 rfl rfl (fun q32 => ?_) (fun q32 => ?_)
    · have hr := bt q32 hr
      refine w_aload_n 2 dX1_lookAtNewRows_106 rfl rfl rfl ?_
      refine g_X1_192 dX1_lookAtNewRows_107 rfl (hz.o7 hV2) (hz.r462 hV2) ?_
      refine w_iload_n 3 dX1_lookAtNewRows_110 rfl rfl rfl ?_
      refine w_aload 4 dX1_lookAtNewRows_111 rfl rfl ?_
      refine g_X1_178 dX1_lookAtNewRows_113 rfl (hz.o7 hy4) (hz.r460 hy4) ?_
      refine g_X1_196 dX1_lookAtNewRows_116 rfl (hz.o8 hy4) (hz.i512 hy4) ?_
      obtain ⟨g8, hr⟩ := gd hr
      refine w_iast dX1_lookAtNewRows_119 rfl (hz.k462 hV2) (gin (hz.n462 hV2) g8) ?_
      obtain ⟨σ9, e10, hr⟩ := lt_e hr
      have hz := (hz.s462 (i := (Int32.toNatClampNeg x3)) (v := (zI σ 512 yp4 ys4 0)) hV2).ts e10
      refine w_vret hf dX1_lookAtNewRows_120 rfl (Nat.le_of_ble_eq_true rfl) (Nat.le_of_ble_eq_true rfl) ?_
      obtain ⟨rfl, rfl⟩ := ret_inj hr
      exact ⟨rfl, hz⟩
    · have hr := bf q32 hr
      refine w_aload 4 dX1_lookAtNewRows_35 rfl rfl ?_
      refine g_X1_178 dX1_lookAtNewRows_37 rfl (hz.o7 hy4) (hz.r460 hy4) ?_
      refine w_iload 5 dX1_lookAtNewRows_40 rfl rfl ?_
      refine w_aload_n 0 dX1_lookAtNewRows_42 rfl rfl rfl ?_
      refine g_X1_18 dX1_lookAtNewRows_43 rfl (hz.o1 rfl) (hz.r71 rfl) ?_
      obtain ⟨v11, σ12, e13, hr⟩ := bq_some hr
      refine c_X1_199 (As := [.int y5, .ref (A 6 0 0)]) (rest := []) (fun l => s_X8_copyTo hy4 rfl hz e13 l) hrm dX1_lookAtNewRows_46 rfl rfl (Nat.le_of_ble_eq_true rfl) (Nat.le_of_ble_eq_true rfl) (Nat.le_of_ble_eq_true rfl) (hz.o8 hy4) rfl (Nat.le_of_ble_eq_true rfl) (fun vr h2 hq => ?_) (fun E9 h9 hq => hq.elim)
      obtain ⟨rfl, hz⟩ := hq
      show wp _ _ 49 [(0, .ref (A 1 0 0)), (1, .int x1), (2, .ref (A 7 p2 s2)), (3, .int x3), (4, .ref (A 7 yp4 ys4)), (5, .int y5)] [] _ _ _
      refine w_aload_n 2 dX1_lookAtNewRows_49 rfl rfl rfl ?_
      refine g_X1_94 dX1_lookAtNewRows_50 rfl (hz.o7 hV2) (hz.i449 hV2) ?_
      refine w_iconst 5 dX1_lookAtNewRows_53 rfl rfl ?_
      refine w_icmp_ne 75 dX1_lookAtNewRows_54 rfl rfl (fun q54 => ?_) (fun q54 => ?_)
      · have hr := bf q54 hr
        refine w_aload_n 0 dX1_lookAtNewRows_75 rfl rfl rfl ?_
        refine w_iload_n 1 dX1_lookAtNewRows_76 rfl rfl rfl ?_
        refine w_aload_n 2 dX1_lookAtNewRows_77 rfl rfl rfl ?_
        refine w_aload 4 dX1_lookAtNewRows_78 rfl rfl ?_
        refine g_X1_178 dX1_lookAtNewRows_80 rfl (hz.o7 hy4) (hz.r460 hy4) ?_
        refine w_iload 5 dX1_lookAtNewRows_83 rfl rfl ?_
        obtain ⟨v15, σ16, e17, hr⟩ := bq_some hr
        refine c_X1_206 (As := [.int x1, .ref (A 7 p2 s2), .ref (A 8 yp4 ys4), .int y5]) (rest := []) (fun l => s_X1_comesOut hV2 hy4 hz e17 l) hrm dX1_lookAtNewRows_85 rfl rfl (Nat.le_of_ble_eq_true rfl) (Nat.le_of_ble_eq_true rfl) (Nat.le_of_ble_eq_true rfl) (hz.o1 rfl) rfl (Nat.le_of_ble_eq_true rfl) (fun vr h2 hq => ?_) (fun E9 h9 hq => hq.elim)
        obtain ⟨rfl, hz⟩ := hq
        show wp _ _ 88 [(0, .ref (A 1 0 0)), (1, .int x1), (2, .ref (A 7 p2 s2)), (3, .int x3), (4, .ref (A 7 yp4 ys4)), (5, .int y5)] [.int v15] _ _ _
        refine w_if_eq 100 dX1_lookAtNewRows_88 rfl rfl (fun q88 => ?_) (fun q88 => ?_)
        · have hr := bt q88 hr
          refine w_iinc 5 (y5 + 1) [(5, .int (y5 + 1)), (0, .ref (A 1 0 0)), (1, .int x1), (2, .ref (A 7 p2 s2)), (3, .int x3), (4, .ref (A 7 yp4 ys4))] dX1_lookAtNewRows_100 rfl rfl rfl (by decide) rfl ?_
          refine w_goto 22 dX1_lookAtNewRows_103 rfl ?_
          refine w_lv [(0, .ref (A 1 0 0)), (1, .int x1), (2, .ref (A 7 p2 s2)), (3, .int x3), (4, .ref (A 7 yp4 ys4)), (5, .int (y5 + 1))] [1, 2, 3, 4, 5, 0] rfl ?_
          exact w_X1_lookAtNewRows_22 hf hrm hV2  n yp4 ys4 (y5 + 1) _ _ hz hy4 hr
        · have hr := bf q88 hr
          refine w_aload_n 0 dX1_lookAtNewRows_91 rfl rfl rfl ?_
          refine w_iload_n 1 dX1_lookAtNewRows_92 rfl rfl rfl ?_
          refine w_aload_n 0 dX1_lookAtNewRows_93 rfl rfl rfl ?_
          refine g_X1_25 dX1_lookAtNewRows_94 rfl (hz.o1 rfl) (hz.r73 rfl) ?_
          obtain ⟨v19, σ20, e21, hr⟩ := bq_some hr
          refine c_X1_139 (As := [.int x1, .ref (A 6 2 0)]) (rest := []) (fun l => s_X1_give rfl hz e21 l) hrm dX1_lookAtNewRows_97 rfl rfl (Nat.le_of_ble_eq_true rfl) (Nat.le_of_ble_eq_true rfl) (Nat.le_of_ble_eq_true rfl) (hz.o1 rfl) rfl (Nat.le_of_ble_eq_true rfl) (fun vr h2 hq => ?_) (fun E9 h9 hq => hq.elim)
          obtain ⟨rfl, hz⟩ := hq
          show wp _ _ 100 [(0, .ref (A 1 0 0)), (1, .int x1), (2, .ref (A 7 p2 s2)), (3, .int x3), (4, .ref (A 7 yp4 ys4)), (5, .int y5)] [] _ _ _
          refine w_iinc 5 (y5 + 1) [(5, .int (y5 + 1)), (0, .ref (A 1 0 0)), (1, .int x1), (2, .ref (A 7 p2 s2)), (3, .int x3), (4, .ref (A 7 yp4 ys4))] dX1_lookAtNewRows_100 rfl rfl rfl (by decide) rfl ?_
          refine w_goto 22 dX1_lookAtNewRows_103 rfl ?_
          refine w_lv [(0, .ref (A 1 0 0)), (1, .int x1), (2, .ref (A 7 p2 s2)), (3, .int x3), (4, .ref (A 7 yp4 ys4)), (5, .int (y5 + 1))] [1, 2, 3, 4, 5, 0] rfl ?_
          exact w_X1_lookAtNewRows_22 hf hrm hV2  n yp4 ys4 (y5 + 1) _ _ hz hy4 hr
      · have hr := bt q54 hr
        refine w_aload_n 0 dX1_lookAtNewRows_57 rfl rfl rfl ?_
        refine w_iload_n 1 dX1_lookAtNewRows_58 rfl rfl rfl ?_
        refine w_aload_n 2 dX1_lookAtNewRows_59 rfl rfl rfl ?_
        refine w_iload_n 3 dX1_lookAtNewRows_60 rfl rfl rfl ?_
        refine w_if_ne 68 dX1_lookAtNewRows_61 rfl rfl (fun q61 => ?_) (fun q61 => ?_)
        · have hr := bf q61 hr
          refine w_iconst 0 dX1_lookAtNewRows_68 rfl rfl ?_
          obtain ⟨v23, σ24, e25, hr⟩ := bq_some hr
          refine c_X1_202 (As := [.int x1, .ref (A 7 p2 s2), .int 0]) (rest := []) (fun l => s_X1_joinNewRow hV2 hz e25 l) hrm dX1_lookAtNewRows_69 rfl rfl (Nat.le_of_ble_eq_true rfl) (Nat.le_of_ble_eq_true rfl) (Nat.le_of_ble_eq_true rfl) (hz.o1 rfl) rfl (Nat.le_of_ble_eq_true rfl) (fun vr h2 hq => ?_) (fun E9 h9 hq => hq.elim)
          obtain ⟨rfl, hz⟩ := hq
          show wp _ _ 72 [(0, .ref (A 1 0 0)), (1, .int x1), (2, .ref (A 7 p2 s2)), (3, .int x3), (4, .ref (A 7 yp4 ys4)), (5, .int y5)] [] _ _ _
          refine w_goto 100 dX1_lookAtNewRows_72 rfl ?_
          refine w_iinc 5 (y5 + 1) [(5, .int (y5 + 1)), (0, .ref (A 1 0 0)), (1, .int x1), (2, .ref (A 7 p2 s2)), (3, .int x3), (4, .ref (A 7 yp4 ys4))] dX1_lookAtNewRows_100 rfl rfl rfl (by decide) rfl ?_
          refine w_goto 22 dX1_lookAtNewRows_103 rfl ?_
          refine w_lv [(0, .ref (A 1 0 0)), (1, .int x1), (2, .ref (A 7 p2 s2)), (3, .int x3), (4, .ref (A 7 yp4 ys4)), (5, .int (y5 + 1))] [1, 2, 3, 4, 5, 0] rfl ?_
          exact w_X1_lookAtNewRows_22 hf hrm hV2  n yp4 ys4 (y5 + 1) _ _ hz hy4 hr
        · have hr := bt q61 hr
          refine w_iconst 1 dX1_lookAtNewRows_64 rfl rfl ?_
          refine w_goto 69 dX1_lookAtNewRows_65 rfl ?_
          obtain ⟨v27, σ28, e29, hr⟩ := bq_some hr
          refine c_X1_202 (As := [.int x1, .ref (A 7 p2 s2), .int 1]) (rest := []) (fun l => s_X1_joinNewRow hV2 hz e29 l) hrm dX1_lookAtNewRows_69 rfl rfl (Nat.le_of_ble_eq_true rfl) (Nat.le_of_ble_eq_true rfl) (Nat.le_of_ble_eq_true rfl) (hz.o1 rfl) rfl (Nat.le_of_ble_eq_true rfl) (fun vr h2 hq => ?_) (fun E9 h9 hq => hq.elim)
          obtain ⟨rfl, hz⟩ := hq
          show wp _ _ 72 [(0, .ref (A 1 0 0)), (1, .int x1), (2, .ref (A 7 p2 s2)), (3, .int x3), (4, .ref (A 7 yp4 ys4)), (5, .int y5)] [] _ _ _
          refine w_goto 100 dX1_lookAtNewRows_72 rfl ?_
          refine w_iinc 5 (y5 + 1) [(5, .int (y5 + 1)), (0, .ref (A 1 0 0)), (1, .int x1), (2, .ref (A 7 p2 s2)), (3, .int x3), (4, .ref (A 7 yp4 ys4))] dX1_lookAtNewRows_100 rfl rfl rfl (by decide) rfl ?_
          refine w_goto 22 dX1_lookAtNewRows_103 rfl ?_
          refine w_lv [(0, .ref (A 1 0 0)), (1, .int x1), (2, .ref (A 7 p2 s2)), (3, .int x3), (4, .ref (A 7 yp4 ys4)), (5, .int (y5 + 1))] [1, 2, 3, 4, 5, 0] rfl ?_
          exact w_X1_lookAtNewRows_22 hf hrm hV2  n yp4 ys4 (y5 + 1) _ _ hz hy4 hr
set_option maxRecDepth 20000 in
set_option maxHeartbeats 4000000 in
theorem s_X1_lookAtNewRows {A : Nat → Nat → Nat → Nat} {h : Hp} {σ ρ σ' : Zs} {v : Unit} {x1 : Int32} {p2 : Nat} {s2 : Nat} {x3 : Int32} (hV2 : vdb (A 16 0 0) 7 p2 s2 = true) (hz : Rp A h σ ρ) (hr : fX1_lookAtNewRows x1 p2 s2 x3 σ = some (v, σ')) : ∀ l : Launch, Sp l mX1_lookAtNewRows 4 0 0 [.ref (A 1 0 0), .int x1, .ref (A 7 p2 s2), .int x3] h (QV A v σ' ρ) X0 := by
  intro l
  refine Sp.of rfl rfl (lv := [(0, .ref (A 1 0 0)), (1, .int x1), (2, .ref (A 7 p2 s2)), (3, .int x3)]) (Nat.le_of_ble_eq_true rfl) rfl (fun x hf hrm => ?_)
  rw [fX1_lookAtNewRows.eq_1] at hr
  refine w_aload_n 0 dX1_lookAtNewRows_0 rfl rfl rfl ?_
  refine w_aload_n 2 dX1_lookAtNewRows_1 rfl rfl rfl ?_
  refine w_iload_n 3 dX1_lookAtNewRows_2 rfl rfl rfl ?_
  obtain ⟨v1, σ2, e3, hr⟩ := bq_some hr
  refine c_X1_188 (As := [.ref (A 7 p2 s2), .int x3]) (rest := []) (fun l => s_X1_inputOf hV2 hz e3 l) hrm dX1_lookAtNewRows_3 rfl rfl (Nat.le_of_ble_eq_true rfl) (Nat.le_of_ble_eq_true rfl) (Nat.le_of_ble_eq_true rfl) (hz.o1 rfl) rfl (Nat.le_of_ble_eq_true rfl) (fun vr h2 hq => ?_) (fun E9 h9 hq => hq.elim)
  rcases v1 with _ | u5
  · obtain ⟨rfl, hz⟩ := hq
    have hr := nn_n hr
    show wp _ _ 6 [(0, .ref (A 1 0 0)), (1, .int x1), (2, .ref (A 7 p2 s2)), (3, .int x3)] [.null] _ _ _
    refine w_astoreN [(4, .null), (0, .ref (A 1 0 0)), (1, .int x1), (2, .ref (A 7 p2 s2)), (3, .int x3)] dX1_lookAtNewRows_6 rfl (by decide) rfl ?_
    refine w_aloadN 0 dX1_lookAtNewRows_8 rfl rfl ?_
    refine w_ifnonnullN dX1_lookAtNewRows_10 rfl ?_
    refine w_vret hf dX1_lookAtNewRows_13 rfl (Nat.le_of_ble_eq_true rfl) (Nat.le_of_ble_eq_true rfl) ?_
    obtain ⟨rfl, rfl⟩ := ret_inj hr
    exact ⟨rfl, hz⟩
  · obtain ⟨⟨rfl, hv6⟩, hz⟩ := hq
    have hr := nn_s hr
    show wp _ _ 6 [(0, .ref (A 1 0 0)), (1, .int x1), (2, .ref (A 7 p2 s2)), (3, .int x3)] [.ref (A 7 u5.1 u5.2)] _ _ _
    refine w_astore [(4, .ref (A 7 u5.1 u5.2)), (0, .ref (A 1 0 0)), (1, .int x1), (2, .ref (A 7 p2 s2)), (3, .int x3)] dX1_lookAtNewRows_6 rfl (by decide) rfl ?_
    refine w_aload 0 dX1_lookAtNewRows_8 rfl rfl ?_
    refine w_ifnonnull 14 dX1_lookAtNewRows_10 rfl ?_
    refine w_aload_n 3 dX1_lookAtNewRows_14 rfl rfl rfl ?_
    refine g_X1_192 dX1_lookAtNewRows_15 rfl (hz.o7 hV2) (hz.r462 hV2) ?_
    refine w_iload_n 4 dX1_lookAtNewRows_18 rfl rfl rfl ?_
    obtain ⟨g7, hr⟩ := gd hr
    refine w_iald dX1_lookAtNewRows_19 rfl (hz.k462 hV2) (gin (hz.n462 hV2) g7) (hz.x462 hV2) ?_
    refine w_istore [(5, .int (zI σ2 1486 p2 s2 (Int32.toNatClampNeg x3))), (4, .ref (A 7 u5.1 u5.2)), (0, .ref (A 1 0 0)), (1, .int x1), (2, .ref (A 7 p2 s2)), (3, .int x3)] dX1_lookAtNewRows_20 rfl (by decide) rfl ?_
    refine w_lv [(0, .ref (A 1 0 0)), (1, .int x1), (2, .ref (A 7 p2 s2)), (3, .int x3), (4, .ref (A 7 u5.1 u5.2)), (5, .int (zI σ2 1486 p2 s2 (Int32.toNatClampNeg x3)))] [2, 3, 4, 5, 1, 0] rfl ?_
    exact w_X1_lookAtNewRows_22 hf hrm hV2  FU u5.1 u5.2 (zI σ2 1486 p2 s2 (Int32.toNatClampNeg x3)) _ _ hz hv6 hr

set_option maxRecDepth 20000 in
set_option maxHeartbeats 4000000 in
theorem s_X1_leastWatermark {A : Nat → Nat → Nat → Nat} {h : Hp} {σ ρ σ' : Zs} {v : Int32} {p1 : Nat} {s1 : Nat} (hV1 : vdb (A 16 0 0) 7 p1 s1 = true) (hz : Rp A h σ ρ) (hr : fX1_leastWatermark p1 s1 σ = some (v, σ')) : ∀ l : Launch, Sp l mX1_leastWatermark 1 0 0 [.ref (A 1 0 0), .ref (A 7 p1 s1)] h (QI A v σ' ρ) X0 := by
  intro l
  refine Sp.of rfl rfl (lv := [(0, .ref (A 1 0 0)), (1, .ref (A 7 p1 s1))]) (Nat.le_of_ble_eq_true rfl) rfl (fun x hf hrm => ?_)
  rw [fX1_leastWatermark.eq_1] at hr
  refine w_aload_n 0 dX1_leastWatermark_0 rfl rfl rfl ?_
  refine w_aload_n 1 dX1_leastWatermark_1 rfl rfl rfl ?_
  refine w_iconst 0 dX1_leastWatermark_2 rfl rfl ?_
  obtain ⟨v1, σ2, e3, hr⟩ := bq_some hr
  refine c_X1_188 (As := [.ref (A 7 p1 s1), .int 0]) (rest := []) (fun l => s_X1_inputOf hV1 hz e3 l) hrm dX1_leastWatermark_3 rfl rfl (Nat.le_of_ble_eq_true rfl) (Nat.le_of_ble_eq_true rfl) (Nat.le_of_ble_eq_true rfl) (hz.o1 rfl) rfl (Nat.le_of_ble_eq_true rfl) (fun vr h2 hq => ?_) (fun E9 h9 hq => hq.elim)
  rcases v1 with _ | u5
  · obtain ⟨rfl, hz⟩ := hq
    have hr := nn_n hr
    show wp _ _ 6 [(0, .ref (A 1 0 0)), (1, .ref (A 7 p1 s1))] [.null] _ _ _
    refine w_astore_nN [(2, .null), (0, .ref (A 1 0 0)), (1, .ref (A 7 p1 s1))] dX1_leastWatermark_6 rfl rfl (by decide) rfl ?_
    refine w_aload_n 1 dX1_leastWatermark_7 rfl rfl rfl ?_
    refine w_aload_n 2 dX1_leastWatermark_8 rfl rfl rfl ?_
    refine w_iconst 1 dX1_leastWatermark_9 rfl rfl ?_
    obtain ⟨v7, σ8, e9, hr⟩ := bq_some hr
    refine c_X1_188 (As := [.ref (A 7 p1 s1), .int 1]) (rest := []) (fun l => s_X1_inputOf hV1 hz e9 l) hrm dX1_leastWatermark_10 rfl rfl (Nat.le_of_ble_eq_true rfl) (Nat.le_of_ble_eq_true rfl) (Nat.le_of_ble_eq_true rfl) (hz.o1 rfl) rfl (Nat.le_of_ble_eq_true rfl) (fun vr h2 hq => ?_) (fun E9 h9 hq => hq.elim)
    rcases v7 with _ | u11
    · obtain ⟨rfl, hz⟩ := hq
      have hr := nn_n hr
      show wp _ _ 13 [(2, .null), (0, .ref (A 1 0 0)), (1, .ref (A 7 p1 s1))] [.null] _ _ _
      refine w_astore_nN [(3, .null), (2, .null), (0, .ref (A 1 0 0)), (1, .ref (A 7 p1 s1))] dX1_leastWatermark_13 rfl rfl (by decide) rfl ?_
      refine w_aload_nN 1 dX1_leastWatermark_14 rfl rfl rfl ?_
      refine w_ifnonnullN dX1_leastWatermark_15 rfl ?_
      refine w_aload_n 3 dX1_leastWatermark_18 rfl rfl rfl ?_
      refine g_X1_105 dX1_leastWatermark_19 rfl (hz.o7 hV1) (hz.i461 hV1) ?_
      refine w_iret hf dX1_leastWatermark_22 rfl (Nat.le_of_ble_eq_true rfl) (Nat.le_of_ble_eq_true rfl) ?_
      obtain ⟨rfl, rfl⟩ := ret_inj hr
      exact ⟨rfl, hz⟩
    · obtain ⟨⟨rfl, hv12⟩, hz⟩ := hq
      have hr := nn_s hr
      show wp _ _ 13 [(2, .null), (0, .ref (A 1 0 0)), (1, .ref (A 7 p1 s1))] [.ref (A 7 u11.1 u11.2)] _ _ _
      refine w_astore_n [(3, .ref (A 7 u11.1 u11.2)), (2, .null), (0, .ref (A 1 0 0)), (1, .ref (A 7 p1 s1))] dX1_leastWatermark_13 rfl rfl (by decide) rfl ?_
      refine w_aload_nN 1 dX1_leastWatermark_14 rfl rfl rfl ?_
      refine w_ifnonnullN dX1_leastWatermark_15 rfl ?_
      refine w_aload_n 3 dX1_leastWatermark_18 rfl rfl rfl ?_
      refine g_X1_105 dX1_leastWatermark_19 rfl (hz.o7 hV1) (hz.i461 hV1) ?_
      refine w_iret hf dX1_leastWatermark_22 rfl (Nat.le_of_ble_eq_true rfl) (Nat.le_of_ble_eq_true rfl) ?_
      obtain ⟨rfl, rfl⟩ := ret_inj hr
      exact ⟨rfl, hz⟩
  · obtain ⟨⟨rfl, hv6⟩, hz⟩ := hq
    have hr := nn_s hr
    show wp _ _ 6 [(0, .ref (A 1 0 0)), (1, .ref (A 7 p1 s1))] [.ref (A 7 u5.1 u5.2)] _ _ _
    refine w_astore_n [(2, .ref (A 7 u5.1 u5.2)), (0, .ref (A 1 0 0)), (1, .ref (A 7 p1 s1))] dX1_leastWatermark_6 rfl rfl (by decide) rfl ?_
    refine w_aload_n 1 dX1_leastWatermark_7 rfl rfl rfl ?_
    refine w_aload_n 2 dX1_leastWatermark_8 rfl rfl rfl ?_
    refine w_iconst 1 dX1_leastWatermark_9 rfl rfl ?_
    obtain ⟨v13, σ14, e15, hr⟩ := bq_some hr
    refine c_X1_188 (As := [.ref (A 7 p1 s1), .int 1]) (rest := []) (fun l => s_X1_inputOf hV1 hz e15 l) hrm dX1_leastWatermark_10 rfl rfl (Nat.le_of_ble_eq_true rfl) (Nat.le_of_ble_eq_true rfl) (Nat.le_of_ble_eq_true rfl) (hz.o1 rfl) rfl (Nat.le_of_ble_eq_true rfl) (fun vr h2 hq => ?_) (fun E9 h9 hq => hq.elim)
    rcases v13 with _ | u17
    · obtain ⟨rfl, hz⟩ := hq
      have hr := nn_n hr
      show wp _ _ 13 [(2, .ref (A 7 u5.1 u5.2)), (0, .ref (A 1 0 0)), (1, .ref (A 7 p1 s1))] [.null] _ _ _
      refine w_astore_nN [(3, .null), (2, .ref (A 7 u5.1 u5.2)), (0, .ref (A 1 0 0)), (1, .ref (A 7 p1 s1))] dX1_leastWatermark_13 rfl rfl (by decide) rfl ?_
      refine w_aload_n 1 dX1_leastWatermark_14 rfl rfl rfl ?_
      refine w_ifnonnull 23 dX1_leastWatermark_15 rfl ?_
      refine w_aload_nN 0 dX1_leastWatermark_23 rfl rfl rfl ?_
      refine w_ifnonnullN dX1_leastWatermark_24 rfl ?_
      refine w_aload_n 1 dX1_leastWatermark_27 rfl rfl rfl ?_
      refine g_X1_105 dX1_leastWatermark_28 rfl (hz.o7 hv6) (hz.i461 hv6) ?_
      refine w_goto 45 dX1_leastWatermark_31 rfl ?_
      refine w_iret hf dX1_leastWatermark_45 rfl (Nat.le_of_ble_eq_true rfl) (Nat.le_of_ble_eq_true rfl) ?_
      obtain ⟨rfl, rfl⟩ := ret_inj hr
      exact ⟨rfl, hz⟩
    · obtain ⟨⟨rfl, hv18⟩, hz⟩ := hq
      have hr := nn_s hr
      show wp _ _ 13 [(2, .ref (A 7 u5.1 u5.2)), (0, .ref (A 1 0 0)), (1, .ref (A 7 p1 s1))] [.ref (A 7 u17.1 u17.2)] _ _ _
      refine w_astore_n [(3, .ref (A 7 u17.1 u17.2)), (2, .ref (A 7 u5.1 u5.2)), (0, .ref (A 1 0 0)), (1, .ref (A 7 p1 s1))] dX1_leastWatermark_13 rfl rfl (by decide) rfl ?_
      refine w_aload_n 1 dX1_leastWatermark_14 rfl rfl rfl ?_
      refine w_ifnonnull 23 dX1_leastWatermark_15 rfl ?_
      refine w_aload_n 0 dX1_leastWatermark_23 rfl rfl rfl ?_
      refine w_ifnonnull 34 dX1_leastWatermark_24 rfl ?_
      refine w_aload_n 1 dX1_leastWatermark_34 rfl rfl rfl ?_
      refine g_X1_105 dX1_leastWatermark_35 rfl (hz.o7 hv6) (hz.i461 hv6) ?_
      refine w_aload_n 0 dX1_leastWatermark_38 rfl rfl rfl ?_
      refine g_X1_105 dX1_leastWatermark_39 rfl (hz.o7 hv18) (hz.i461 hv18) ?_
      refine w_mmin hrm (by decide) dX1_leastWatermark_42 rfl ml_X1_286 (Nat.le_of_ble_eq_true rfl) (Nat.le_of_ble_eq_true rfl) (Nat.le_of_ble_eq_true rfl) ?_
      refine w_iret hf dX1_leastWatermark_45 rfl (Nat.le_of_ble_eq_true rfl) (Nat.le_of_ble_eq_true rfl) ?_
      obtain ⟨rfl, rfl⟩ := ret_inj hr
      exact ⟨rfl, hz⟩

set_option maxRecDepth 20000 in
set_option maxHeartbeats 4000000 in
theorem w_X1_closeWindows_2 {A : Nat → Nat → Nat → Nat} {ρ σ' : Zs} {v : Unit} {x : Cxt} {x1 : Int32} {p2 : Nat} {s2 : Nat}  (hf : m_fin 0 0 (QV A v σ' ρ) X0 x) (hrm : m_rm 3 0 0 x) (hV2 : vdb (A 16 0 0) 7 p2 s2 = true) : ∀ (n : Nat) (y3 : Int32) (σ : Zs) (h : Hp), Rp A h σ ρ → fX1_closeWindows_2 x1 p2 s2  n y3 σ = some (v, σ') → wp x mX1_closeWindows 2 [(0, .ref (A 1 0 0)), (1, .int x1), (2, .ref (A 7 p2 s2)), (3, .int y3)] [] h 0 0
  | 0, _, σ, h => fun hz hr => by
    rw [fX1_closeWindows_2.eq_1] at hr
    exact nono hr
  | n + 1, y3, σ, h => fun hz hr => by
    rw [fX1_closeWindows_2.eq_2] at hr
    refine w_iload_n 3 dX1_closeWindows_2 rfl rfl rfl ?_
    refine w_bipush 60 dX1_closeWindows_3 rfl rfl ?_
    refine w_icmp_ge 67 dX1_closeWindows_5 rfl rfl (fun q5 => ?_) (fun q5 => ?_)
    · have hr := bt q5 hr
      refine w_aload_n 2 dX1_closeWindows_67 rfl rfl rfl ?_
      refine g_X1_266 dX1_closeWindows_68 rfl (hz.o7 hV2) (hz.r464 hV2) ?_
      refine w_aload_n 2 dX1_closeWindows_71 rfl rfl rfl ?_
      refine g_X1_105 dX1_closeWindows_72 rfl (hz.o7 hV2) (hz.i461 hV2) ?_
      refine w_aload_n 2 dX1_closeWindows_75 rfl rfl rfl ?_
      refine g_X1_263 dX1_closeWindows_76 rfl (hz.o7 hV2) (hz.i456 hV2) ?_
      obtain ⟨v1, σ2, e3, hr⟩ := bq_some hr
      refine c_X1_292 (As := [.int (zI σ 461 p2 s2 0), .int (zI σ 456 p2 s2 0)]) (rest := []) (fun l => s_X10_removeGone hV2 hz e3 l) hrm dX1_closeWindows_79 rfl rfl (Nat.le_of_ble_eq_true rfl) (Nat.le_of_ble_eq_true rfl) (Nat.le_of_ble_eq_true rfl) (hz.o10 hV2) rfl (Nat.le_of_ble_eq_true rfl) (fun vr h2 hq => ?_) (fun E9 h9 hq => hq.elim)
      obtain ⟨rfl, hz⟩ := hq
      show wp _ _ 82 [(0, .ref (A 1 0 0)), (1, .int x1), (2, .ref (A 7 p2 s2)), (3, .int y3)] [] _ _ _
      refine w_vret hf dX1_closeWindows_82 rfl (Nat.le_of_ble_eq_true rfl) (Nat.le_of_ble_eq_true rfl) ?_
      obtain ⟨rfl, rfl⟩ := ret_inj hr
      exact ⟨rfl, hz⟩
    · have hr := bf q5 hr
      refine w_aload_n 2 dX1_closeWindows_8 rfl rfl rfl ?_
      refine g_X1_266 dX1_closeWindows_9 rfl (hz.o7 hV2) (hz.r464 hV2) ?_
      refine w_aload_n 2 dX1_closeWindows_12 rfl rfl rfl ?_
      refine g_X1_105 dX1_closeWindows_13 rfl (hz.o7 hV2) (hz.i461 hV2) ?_
      obtain ⟨v5, σ6, e7, hr⟩ := bq_some hr
      refine c_X1_289 (As := [.int (zI σ 461 p2 s2 0)]) (rest := []) (fun l => s_X10_closeNext hV2 hz e7 l) hrm dX1_closeWindows_16 rfl rfl (Nat.le_of_ble_eq_true rfl) (Nat.le_of_ble_eq_true rfl) (Nat.le_of_ble_eq_true rfl) (hz.o10 hV2) rfl (Nat.le_of_ble_eq_true rfl) (fun vr h2 hq => ?_) (fun E9 h9 hq => hq.elim)
      obtain ⟨rfl, hz⟩ := hq
      show wp _ _ 19 [(0, .ref (A 1 0 0)), (1, .int x1), (2, .ref (A 7 p2 s2)), (3, .int y3)] [.int v5] _ _ _
      refine w_istore [(4, .int v5), (0, .ref (A 1 0 0)), (1, .int x1), (2, .ref (A 7 p2 s2)), (3, .int y3)] dX1_closeWindows_19 rfl (by decide) rfl ?_
      refine w_iload 0 dX1_closeWindows_21 rfl rfl ?_
      refine w_if_ge 29 dX1_closeWindows_23 rfl rfl (fun q23 => ?_) (fun q23 => ?_)
      · have hr := bt q23 hr
        refine w_aload_n 3 dX1_closeWindows_29 rfl rfl rfl ?_
        refine g_X1_266 dX1_closeWindows_30 rfl (hz.o7 hV2) (hz.r464 hV2) ?_
        refine w_iload 0 dX1_closeWindows_33 rfl rfl ?_
        refine w_aload_n 3 dX1_closeWindows_35 rfl rfl rfl ?_
        refine g_X1_130 dX1_closeWindows_36 rfl (hz.o7 hV2) (hz.i455 hV2) ?_
        refine w_aload_n 3 dX1_closeWindows_39 rfl rfl rfl ?_
        refine g_X1_120 dX1_closeWindows_40 rfl (hz.o7 hV2) (hz.i450 hV2) ?_
        refine w_iconst 2 dX1_closeWindows_43 rfl rfl ?_
        refine w_isub dX1_closeWindows_44 rfl ?_
        refine w_aload_n 1 dX1_closeWindows_45 rfl rfl rfl ?_
        refine g_X1_25 dX1_closeWindows_46 rfl (hz.o1 rfl) (hz.r73 rfl) ?_
        obtain ⟨v9, σ10, e11, hr⟩ := bq_some hr
        refine c_X1_283 (As := [.int v5, .int (zI σ6 455 p2 s2 0), .int ((zI σ6 450 p2 s2 0) - 2), .ref (A 6 2 0)]) (rest := []) (fun l => s_X10_copyTo hV2 rfl hz e11 l) hrm dX1_closeWindows_49 rfl rfl (Nat.le_of_ble_eq_true rfl) (Nat.le_of_ble_eq_true rfl) (Nat.le_of_ble_eq_true rfl) (hz.o10 hV2) rfl (Nat.le_of_ble_eq_true rfl) (fun vr h2 hq => ?_) (fun E9 h9 hq => hq.elim)
        obtain ⟨rfl, hz⟩ := hq
        show wp _ _ 52 [(4, .int v5), (0, .ref (A 1 0 0)), (1, .int x1), (2, .ref (A 7 p2 s2)), (3, .int y3)] [] _ _ _
        refine w_aload_n 1 dX1_closeWindows_52 rfl rfl rfl ?_
        refine w_iload_n 2 dX1_closeWindows_53 rfl rfl rfl ?_
        refine w_aload_n 1 dX1_closeWindows_54 rfl rfl rfl ?_
        refine g_X1_25 dX1_closeWindows_55 rfl (hz.o1 rfl) (hz.r73 rfl) ?_
        obtain ⟨v13, σ14, e15, hr⟩ := bq_some hr
        refine c_X1_139 (As := [.int x1, .ref (A 6 2 0)]) (rest := []) (fun l => s_X1_give rfl hz e15 l) hrm dX1_closeWindows_58 rfl rfl (Nat.le_of_ble_eq_true rfl) (Nat.le_of_ble_eq_true rfl) (Nat.le_of_ble_eq_true rfl) (hz.o1 rfl) rfl (Nat.le_of_ble_eq_true rfl) (fun vr h2 hq => ?_) (fun E9 h9 hq => hq.elim)
        obtain ⟨rfl, hz⟩ := hq
        show wp _ _ 61 [(4, .int v5), (0, .ref (A 1 0 0)), (1, .int x1), (2, .ref (A 7 p2 s2)), (3, .int y3)] [] _ _ _
        refine w_iinc 4 (y3 + 1) [(3, .int (y3 + 1)), (4, .int v5), (0, .ref (A 1 0 0)), (1, .int x1), (2, .ref (A 7 p2 s2))] dX1_closeWindows_61 rfl rfl rfl (by decide) rfl ?_
        refine w_goto 2 dX1_closeWindows_64 rfl ?_
        refine w_lv [(0, .ref (A 1 0 0)), (1, .int x1), (2, .ref (A 7 p2 s2)), (3, .int (y3 + 1))] [2, 3, 4, 0] rfl ?_
        exact w_X1_closeWindows_2 hf hrm hV2  n (y3 + 1) _ _ hz  hr
      · have hr := bf q23 hr
        refine w_goto 67 dX1_closeWindows_26 rfl ?_
        refine w_aload_n 3 dX1_closeWindows_67 rfl rfl rfl ?_
        refine g_X1_266 dX1_closeWindows_68 rfl (hz.o7 hV2) (hz.r464 hV2) ?_
        refine w_aload_n 3 dX1_closeWindows_71 rfl rfl rfl ?_
        refine g_X1_105 dX1_closeWindows_72 rfl (hz.o7 hV2) (hz.i461 hV2) ?_
        refine w_aload_n 3 dX1_closeWindows_75 rfl rfl rfl ?_
        refine g_X1_263 dX1_closeWindows_76 rfl (hz.o7 hV2) (hz.i456 hV2) ?_
        obtain ⟨v17, σ18, e19, hr⟩ := bq_some hr
        refine c_X1_292 (As := [.int (zI σ6 461 p2 s2 0), .int (zI σ6 456 p2 s2 0)]) (rest := []) (fun l => s_X10_removeGone hV2 hz e19 l) hrm dX1_closeWindows_79 rfl rfl (Nat.le_of_ble_eq_true rfl) (Nat.le_of_ble_eq_true rfl) (Nat.le_of_ble_eq_true rfl) (hz.o10 hV2) rfl (Nat.le_of_ble_eq_true rfl) (fun vr h2 hq => ?_) (fun E9 h9 hq => hq.elim)
        obtain ⟨rfl, hz⟩ := hq
        show wp _ _ 82 [(4, .int v5), (0, .ref (A 1 0 0)), (1, .int x1), (2, .ref (A 7 p2 s2)), (3, .int y3)] [] _ _ _
        refine w_vret hf dX1_closeWindows_82 rfl (Nat.le_of_ble_eq_true rfl) (Nat.le_of_ble_eq_true rfl) ?_
        obtain ⟨rfl, rfl⟩ := ret_inj hr
        exact ⟨rfl, hz⟩
set_option maxRecDepth 20000 in
set_option maxHeartbeats 4000000 in
theorem s_X1_closeWindows {A : Nat → Nat → Nat → Nat} {h : Hp} {σ ρ σ' : Zs} {v : Unit} {x1 : Int32} {p2 : Nat} {s2 : Nat} (hV2 : vdb (A 16 0 0) 7 p2 s2 = true) (hz : Rp A h σ ρ) (hr : fX1_closeWindows x1 p2 s2 σ = some (v, σ')) : ∀ l : Launch, Sp l mX1_closeWindows 3 0 0 [.ref (A 1 0 0), .int x1, .ref (A 7 p2 s2)] h (QV A v σ' ρ) X0 := by
  intro l
  refine Sp.of rfl rfl (lv := [(0, .ref (A 1 0 0)), (1, .int x1), (2, .ref (A 7 p2 s2))]) (Nat.le_of_ble_eq_true rfl) rfl (fun x hf hrm => ?_)
  rw [fX1_closeWindows.eq_1] at hr
  refine w_iconst 0 dX1_closeWindows_0 rfl rfl ?_
  refine w_istore_n [(3, .int 0), (0, .ref (A 1 0 0)), (1, .int x1), (2, .ref (A 7 p2 s2))] dX1_closeWindows_1 rfl rfl (by decide) rfl ?_
  refine w_lv [(0, .ref (A 1 0 0)), (1, .int x1), (2, .ref (A 7 p2 s2)), (3, .int 0)] [1, 2, 3, 0] rfl ?_
  exact w_X1_closeWindows_2 hf hrm hV2  FU 0 _ _ hz  hr

set_option maxRecDepth 20000 in
set_option maxHeartbeats 4000000 in
theorem w_X1_runSteps_2 {A : Nat → Nat → Nat → Nat} {ρ σ' : Zs} {v : Unit} {x : Cxt}   (hf : m_fin 0 0 (QV A v σ' ρ) X0 x) (hrm : m_rm 5 0 0 x)  : ∀ (n : Nat) (y1 : Int32) (σ : Zs) (h : Hp), Rp A h σ ρ → fX1_runSteps_2   n y1 σ = some (v, σ') → wp x mX1_runSteps 2 [(0, .ref (A 1 0 0)), (1, .int y1)] [] h 0 0
  | 0, _, σ, h => fun hz hr => by
    rw [fX1_runSteps_2.eq_1] at hr
    exact nono hr
  | n + 1, y1, σ, h => fun hz hr => by
    rw [fX1_runSteps_2.eq_2] at hr
    refine w_iload_n 1 dX1_runSteps_2 rfl rfl rfl ?_
    refine w_aload_n 0 dX1_runSteps_3 rfl rfl rfl ?_
    have hv1 := hz.ww64 (p := 0) (s := 0) rfl
    refine g_X1_28 dX1_runSteps_4 rfl (hz.o1 rfl) (hz.rr64 rfl) ?_
    refine g_X1_32 dX1_runSteps_7 rfl (hz.o5 hv1) (hz.i321 hv1) ?_
    refine w_icmp_ge 77 dX1_runSteps_10 rfl rfl (fun q10 => ?_) (fun q10 => ?_)
    · have hr := bt q10 hr
      refine w_vret hf dX1_runSteps_77 rfl (Nat.le_of_ble_eq_true rfl) (Nat.le_of_ble_eq_true rfl) ?_
      obtain ⟨rfl, rfl⟩ := ret_inj hr
      exact ⟨rfl, hz⟩
    · have hr := bf q10 hr
      refine w_aload_n 0 dX1_runSteps_13 rfl rfl rfl ?_
      have hv2 := hz.ww64 (p := 0) (s := 0) rfl
      refine g_X1_28 dX1_runSteps_14 rfl (hz.o1 rfl) (hz.rr64 rfl) ?_
      refine g_X1_38 dX1_runSteps_17 rfl (hz.o5 hv2) (hz.r320 hv2) ?_
      refine w_iload_n 1 dX1_runSteps_20 rfl rfl rfl ?_
      obtain ⟨g3, hr⟩ := gd hr
      have hv4 := vdb_320 (p := (zR σ 64 0 0 0).1) hv2 (gi_lt g3)
      refine w_aald 7 dX1_runSteps_21 rfl (by decide) (by decide) (fun _ => rfl) (hz.k320 hv2) (gin (hz.n320 hv2) g3) (hz.e320 hv2 (gi_lt g3)) ?_
      refine w_astore_n [(2, .ref (A 7 (zR σ 64 0 0 0).1 (Int32.toNatClampNeg y1))), (0, .ref (A 1 0 0)), (1, .int y1)] dX1_runSteps_22 rfl rfl (by decide) rfl ?_
      refine w_aload_n 0 dX1_runSteps_23 rfl rfl rfl ?_
      refine g_X1_94 dX1_runSteps_24 rfl (hz.o7 hv4) (hz.i449 hv4) ?_
      refine w_if_ne 33 dX1_runSteps_27 rfl rfl (fun q27 => ?_) (fun q27 => ?_)
      · have hr := bf q27 hr
        refine w_aload_n 1 dX1_runSteps_33 rfl rfl rfl ?_
        refine w_iload_n 2 dX1_runSteps_34 rfl rfl rfl ?_
        refine w_aload_n 0 dX1_runSteps_35 rfl rfl rfl ?_
        refine w_iconst 0 dX1_runSteps_36 rfl rfl ?_
        obtain ⟨v5, σ6, e7, hr⟩ := bq_some hr
        refine c_X1_97 (As := [.int y1, .ref (A 7 (zR σ 64 0 0 0).1 (Int32.toNatClampNeg y1)), .int 0]) (rest := []) (fun l => s_X1_lookAtNewRows hv4 hz e7 l) hrm dX1_runSteps_37 rfl rfl (Nat.le_of_ble_eq_true rfl) (Nat.le_of_ble_eq_true rfl) (Nat.le_of_ble_eq_true rfl) (hz.o1 rfl) rfl (Nat.le_of_ble_eq_true rfl) (fun vr h2 hq => ?_) (fun E9 h9 hq => hq.elim)
        obtain ⟨rfl, hz⟩ := hq
        show wp _ _ 40 [(2, .ref (A 7 (zR σ 64 0 0 0).1 (Int32.toNatClampNeg y1))), (0, .ref (A 1 0 0)), (1, .int y1)] [] _ _ _
        refine w_aload_n 1 dX1_runSteps_40 rfl rfl rfl ?_
        refine w_iload_n 2 dX1_runSteps_41 rfl rfl rfl ?_
        refine w_aload_n 0 dX1_runSteps_42 rfl rfl rfl ?_
        refine w_iconst 1 dX1_runSteps_43 rfl rfl ?_
        obtain ⟨v9, σ10, e11, hr⟩ := bq_some hr
        refine c_X1_97 (As := [.int y1, .ref (A 7 (zR σ 64 0 0 0).1 (Int32.toNatClampNeg y1)), .int 1]) (rest := []) (fun l => s_X1_lookAtNewRows hv4 hz e11 l) hrm dX1_runSteps_44 rfl rfl (Nat.le_of_ble_eq_true rfl) (Nat.le_of_ble_eq_true rfl) (Nat.le_of_ble_eq_true rfl) (hz.o1 rfl) rfl (Nat.le_of_ble_eq_true rfl) (fun vr h2 hq => ?_) (fun E9 h9 hq => hq.elim)
        obtain ⟨rfl, hz⟩ := hq
        show wp _ _ 47 [(2, .ref (A 7 (zR σ 64 0 0 0).1 (Int32.toNatClampNeg y1))), (0, .ref (A 1 0 0)), (1, .int y1)] [] _ _ _
        refine w_aload_n 0 dX1_runSteps_47 rfl rfl rfl ?_
        refine w_aload_n 1 dX1_runSteps_48 rfl rfl rfl ?_
        refine w_aload_n 0 dX1_runSteps_49 rfl rfl rfl ?_
        obtain ⟨v13, σ14, e15, hr⟩ := bq_some hr
        refine c_X1_101 (As := [.ref (A 7 (zR σ 64 0 0 0).1 (Int32.toNatClampNeg y1))]) (rest := [.ref (A 7 (zR σ 64 0 0 0).1 (Int32.toNatClampNeg y1))]) (fun l => s_X1_leastWatermark hv4 hz e15 l) hrm dX1_runSteps_50 rfl rfl (Nat.le_of_ble_eq_true rfl) (Nat.le_of_ble_eq_true rfl) (Nat.le_of_ble_eq_true rfl) (hz.o1 rfl) rfl (Nat.le_of_ble_eq_true rfl) (fun vr h2 hq => ?_) (fun E9 h9 hq => hq.elim)
        obtain ⟨rfl, hz⟩ := hq
        show wp _ _ 53 [(2, .ref (A 7 (zR σ 64 0 0 0).1 (Int32.toNatClampNeg y1))), (0, .ref (A 1 0 0)), (1, .int y1)] [.int v13, .ref (A 7 (zR σ 64 0 0 0).1 (Int32.toNatClampNeg y1))] _ _ _
        refine p_X1_105 dX1_runSteps_53 rfl (hz.o7 hv4) ?_
        obtain ⟨σ17, e18, hr⟩ := lt_e hr
        have hz := (hz.s461 (v := v13) hv4).ts e18
        refine w_aload_n 0 dX1_runSteps_56 rfl rfl rfl ?_
        refine g_X1_94 dX1_runSteps_57 rfl (hz.o7 hv4) (hz.i449 hv4) ?_
        refine w_bipush 7 dX1_runSteps_60 rfl rfl ?_
        refine w_icmp_ne 71 dX1_runSteps_62 rfl rfl (fun q62 => ?_) (fun q62 => ?_)
        · have hr := bf q62 hr
          refine w_iinc 2 (y1 + 1) [(1, .int (y1 + 1)), (2, .ref (A 7 (zR σ 64 0 0 0).1 (Int32.toNatClampNeg y1))), (0, .ref (A 1 0 0))] dX1_runSteps_71 rfl rfl rfl (by decide) rfl ?_
          refine w_goto 2 dX1_runSteps_74 rfl ?_
          refine w_lv [(0, .ref (A 1 0 0)), (1, .int (y1 + 1))] [2, 0] rfl ?_
          exact w_X1_runSteps_2 hf hrm   n (y1 + 1) _ _ hz  hr
        · have hr := bt q62 hr
          refine w_aload_n 1 dX1_runSteps_65 rfl rfl rfl ?_
          refine w_iload_n 2 dX1_runSteps_66 rfl rfl rfl ?_
          refine w_aload_n 0 dX1_runSteps_67 rfl rfl rfl ?_
          obtain ⟨v19, σ20, e21, hr⟩ := bq_some hr
          refine c_X1_108 (As := [.int y1, .ref (A 7 (zR σ 64 0 0 0).1 (Int32.toNatClampNeg y1))]) (rest := []) (fun l => s_X1_closeWindows hv4 hz e21 l) hrm dX1_runSteps_68 rfl rfl (Nat.le_of_ble_eq_true rfl) (Nat.le_of_ble_eq_true rfl) (Nat.le_of_ble_eq_true rfl) (hz.o1 rfl) rfl (Nat.le_of_ble_eq_true rfl) (fun vr h2 hq => ?_) (fun E9 h9 hq => hq.elim)
          obtain ⟨rfl, hz⟩ := hq
          show wp _ _ 71 [(2, .ref (A 7 (zR σ 64 0 0 0).1 (Int32.toNatClampNeg y1))), (0, .ref (A 1 0 0)), (1, .int y1)] [] _ _ _
          refine w_iinc 2 (y1 + 1) [(1, .int (y1 + 1)), (2, .ref (A 7 (zR σ 64 0 0 0).1 (Int32.toNatClampNeg y1))), (0, .ref (A 1 0 0))] dX1_runSteps_71 rfl rfl rfl (by decide) rfl ?_
          refine w_goto 2 dX1_runSteps_74 rfl ?_
          refine w_lv [(0, .ref (A 1 0 0)), (1, .int (y1 + 1))] [2, 0] rfl ?_
          exact w_X1_runSteps_2 hf hrm   n (y1 + 1) _ _ hz  hr
      · have hr := bt q27 hr
        refine w_goto 71 dX1_runSteps_30 rfl ?_
        refine w_iinc 2 (y1 + 1) [(1, .int (y1 + 1)), (2, .ref (A 7 (zR σ 64 0 0 0).1 (Int32.toNatClampNeg y1))), (0, .ref (A 1 0 0))] dX1_runSteps_71 rfl rfl rfl (by decide) rfl ?_
        refine w_goto 2 dX1_runSteps_74 rfl ?_
        refine w_lv [(0, .ref (A 1 0 0)), (1, .int (y1 + 1))] [2, 0] rfl ?_
        exact w_X1_runSteps_2 hf hrm   n (y1 + 1) _ _ hz  hr
set_option maxRecDepth 20000 in
set_option maxHeartbeats 4000000 in
theorem s_X1_runSteps {A : Nat → Nat → Nat → Nat} {h : Hp} {σ ρ σ' : Zs} {v : Unit}   (hz : Rp A h σ ρ) (hr : fX1_runSteps  σ = some (v, σ')) : ∀ l : Launch, Sp l mX1_runSteps 5 0 0 [.ref (A 1 0 0)] h (QV A v σ' ρ) X0 := by
  intro l
  refine Sp.of rfl rfl (lv := [(0, .ref (A 1 0 0))]) (Nat.le_of_ble_eq_true rfl) rfl (fun x hf hrm => ?_)
  rw [fX1_runSteps.eq_1] at hr
  refine w_iconst 0 dX1_runSteps_0 rfl rfl ?_
  refine w_istore_n [(1, .int 0), (0, .ref (A 1 0 0))] dX1_runSteps_1 rfl rfl (by decide) rfl ?_
  refine w_lv [(0, .ref (A 1 0 0)), (1, .int 0)] [1, 0] rfl ?_
  exact w_X1_runSteps_2 hf hrm   FU 0 _ _ hz  hr

set_option maxRecDepth 20000 in
set_option maxHeartbeats 4000000 in
theorem s_X1_doPush {A : Nat → Nat → Nat → Nat} {h : Hp} {σ ρ σ' : Zs} {v : Int32} {s1 : Nat} (hV1 : vdb (A 16 0 0) 2 0 s1 = true) (hz : Rp A h σ ρ) (hr : fX1_doPush s1 σ = some (v, σ')) : ∀ l : Launch, Sp l mX1_doPush 3 0 0 [.ref (A 1 0 0), .ref (A 2 0 s1)] h (QI A v σ' ρ) X0 := by
  intro l
  refine Sp.of rfl rfl (lv := [(0, .ref (A 1 0 0)), (1, .ref (A 2 0 s1))]) (Nat.le_of_ble_eq_true rfl) rfl (fun x hf hrm => ?_)
  rw [fX1_doPush.eq_1] at hr
  refine w_aload_n 0 dX1_doPush_0 rfl rfl rfl ?_
  have hv1 := hz.ww64 (p := 0) (s := 0) rfl
  refine g_X1_28 dX1_doPush_1 rfl (hz.o1 rfl) (hz.rr64 rfl) ?_
  refine w_aload_n 1 dX1_doPush_4 rfl rfl rfl ?_
  refine g_X1_112 dX1_doPush_5 rfl (hz.o2 hV1) (hz.i129 hV1) ?_
  obtain ⟨v2, σ3, e4, hr⟩ := bq_some hr
  refine c_X1_116 (As := [.long (zJ σ 129 0 s1 0)]) (rest := []) (fun l => s_X5_streamNamed hv1 hz e4 l) hrm dX1_doPush_8 rfl rfl (Nat.le_of_ble_eq_true rfl) (Nat.le_of_ble_eq_true rfl) (Nat.le_of_ble_eq_true rfl) (hz.o5 hv1) rfl (Nat.le_of_ble_eq_true rfl) (fun vr h2 hq => ?_) (fun E9 h9 hq => hq.elim)
  obtain ⟨rfl, hz⟩ := hq
  show wp _ _ 11 [(0, .ref (A 1 0 0)), (1, .ref (A 2 0 s1))] [.int v2] _ _ _
  refine w_istore_n [(2, .int v2), (0, .ref (A 1 0 0)), (1, .ref (A 2 0 s1))] dX1_doPush_11 rfl rfl (by decide) rfl ?_
  refine w_aload_n 1 dX1_doPush_12 rfl rfl rfl ?_
  refine g_X1_65 dX1_doPush_13 rfl (hz.o1 rfl) (hz.i68 rfl) ?_
  refine w_if_ne 23 dX1_doPush_16 rfl rfl (fun q16 => ?_) (fun q16 => ?_)
  · have hr := bf q16 hr
    refine w_iconst 0 dX1_doPush_23 rfl rfl ?_
    refine w_zret hf dX1_doPush_24 rfl rfl (Nat.le_of_ble_eq_true rfl) (Nat.le_of_ble_eq_true rfl) ?_
    obtain ⟨rfl, rfl⟩ := ret_inj hr
    exact ⟨rfl, hz⟩
  · have hr := bt q16 hr
    refine w_iload_n 0 dX1_doPush_19 rfl rfl rfl ?_
    refine w_if_ge 25 dX1_doPush_20 rfl rfl (fun q20 => ?_) (fun q20 => ?_)
    · have hr := bt q20 hr
      refine w_aload_n 1 dX1_doPush_25 rfl rfl rfl ?_
      have hv6 := hz.ww64 (p := 0) (s := 0) rfl
      refine g_X1_28 dX1_doPush_26 rfl (hz.o1 rfl) (hz.rr64 rfl) ?_
      refine g_X1_38 dX1_doPush_29 rfl (hz.o5 hv6) (hz.r320 hv6) ?_
      refine w_iload_n 0 dX1_doPush_32 rfl rfl rfl ?_
      obtain ⟨g7, hr⟩ := gd hr
      have hv8 := vdb_320 (p := (zR σ3 64 0 0 0).1) hv6 (gi_lt g7)
      refine w_aald 7 dX1_doPush_33 rfl (by decide) (by decide) (fun _ => rfl) (hz.k320 hv6) (gin (hz.n320 hv6) g7) (hz.e320 hv6 (gi_lt g7)) ?_
      refine w_astore_n [(3, .ref (A 7 (zR σ3 64 0 0 0).1 (Int32.toNatClampNeg v2))), (2, .int v2), (0, .ref (A 1 0 0)), (1, .ref (A 2 0 s1))] dX1_doPush_34 rfl rfl (by decide) rfl ?_
      refine w_aload_n 0 dX1_doPush_35 rfl rfl rfl ?_
      refine g_X1_94 dX1_doPush_36 rfl (hz.o7 hv8) (hz.i449 hv8) ?_
      refine w_if_ne 56 dX1_doPush_39 rfl rfl (fun q39 => ?_) (fun q39 => ?_)
      · have hr := bf q39 hr
        refine w_iconst 0 dX1_doPush_56 rfl rfl ?_
        refine w_zret hf dX1_doPush_57 rfl rfl (Nat.le_of_ble_eq_true rfl) (Nat.le_of_ble_eq_true rfl) ?_
        obtain ⟨rfl, rfl⟩ := ret_inj hr
        exact ⟨rfl, hz⟩
      · have hr := bt q39 hr
        refine w_aload_n 0 dX1_doPush_42 rfl rfl rfl ?_
        refine g_X1_120 dX1_doPush_43 rfl (hz.o7 hv8) (hz.i450 hv8) ?_
        refine w_aload_n 3 dX1_doPush_46 rfl rfl rfl ?_
        refine g_X1_123 dX1_doPush_47 rfl (hz.o2 hV1) (hz.r130 hV1) ?_
        refine g_X1_126 dX1_doPush_50 rfl (hz.o6 (vdb_e hV1)) (hz.i385 (vdb_e hV1)) ?_
        refine w_icmp_eq 58 dX1_doPush_53 rfl rfl (fun q53 => ?_) (fun q53 => ?_)
        · have hr := bt q53 hr
          refine w_aload_n 2 dX1_doPush_58 rfl rfl rfl ?_
          refine w_dup dX1_doPush_59 rfl rfl ?_
          refine g_X1_69 dX1_doPush_60 rfl (hz.o1 rfl) (hz.i69 rfl) ?_
          refine w_iconst 1 dX1_doPush_63 rfl rfl ?_
          refine w_iadd dX1_doPush_64 rfl ?_
          refine p_X1_69 dX1_doPush_65 rfl (hz.o1 rfl) ?_
          obtain ⟨σ9, e10, hr⟩ := lt_e hr
          have hz := (hz.s69 (v := ((zI σ3 69 0 0 0) + 1)) rfl).ts e10
          refine w_aload_n 0 dX1_doPush_68 rfl rfl rfl ?_
          refine w_aload_n 0 dX1_doPush_69 rfl rfl rfl ?_
          refine g_X1_105 dX1_doPush_70 rfl (hz.o7 hv8) (hz.i461 hv8) ?_
          refine w_aload_n 3 dX1_doPush_73 rfl rfl rfl ?_
          refine g_X1_123 dX1_doPush_74 rfl (hz.o2 hV1) (hz.r130 hV1) ?_
          refine g_X1_127 dX1_doPush_77 rfl (hz.o6 (vdb_e hV1)) (hz.i384 (vdb_e hV1)) ?_
          refine w_aload_n 0 dX1_doPush_80 rfl rfl rfl ?_
          refine g_X1_130 dX1_doPush_81 rfl (hz.o7 hv8) (hz.i455 hv8) ?_
          refine w_isub dX1_doPush_84 rfl ?_
          refine w_mmax hrm (by decide) dX1_doPush_85 rfl ml_X1_133 (Nat.le_of_ble_eq_true rfl) (Nat.le_of_ble_eq_true rfl) (Nat.le_of_ble_eq_true rfl) ?_
          refine p_X1_105 dX1_doPush_88 rfl (hz.o7 hv8) ?_
          obtain ⟨σ11, e12, hr⟩ := lt_e hr
          have hz := (hz.s461 (v := (p_max (zI σ9 461 ((zR σ3 64 0 0 0).1) (Int32.toNatClampNeg v2) 0) ((zI σ9 384 5 s1 0) - (zI σ9 455 ((zR σ3 64 0 0 0).1) (Int32.toNatClampNeg v2) 0)))) hv8).ts e12
          refine w_aload_n 2 dX1_doPush_91 rfl rfl rfl ?_
          refine w_iload_n 1 dX1_doPush_92 rfl rfl rfl ?_
          refine w_aload_n 3 dX1_doPush_93 rfl rfl rfl ?_
          refine g_X1_123 dX1_doPush_94 rfl (hz.o2 hV1) (hz.r130 hV1) ?_
          obtain ⟨v13, σ14, e15, hr⟩ := bq_some hr
          refine c_X1_139 (As := [.int v2, .ref (A 6 5 s1)]) (rest := []) (fun l => s_X1_give (vdb_e hV1) hz e15 l) hrm dX1_doPush_97 rfl rfl (Nat.le_of_ble_eq_true rfl) (Nat.le_of_ble_eq_true rfl) (Nat.le_of_ble_eq_true rfl) (hz.o1 rfl) rfl (Nat.le_of_ble_eq_true rfl) (fun vr h2 hq => ?_) (fun E9 h9 hq => hq.elim)
          obtain ⟨rfl, hz⟩ := hq
          show wp _ _ 100 [(3, .ref (A 7 (zR σ3 64 0 0 0).1 (Int32.toNatClampNeg v2))), (2, .int v2), (0, .ref (A 1 0 0)), (1, .ref (A 2 0 s1))] [] _ _ _
          refine w_iconst 1 dX1_doPush_100 rfl rfl ?_
          refine w_zret hf dX1_doPush_101 rfl rfl (Nat.le_of_ble_eq_true rfl) (Nat.le_of_ble_eq_true rfl) ?_
          obtain ⟨rfl, rfl⟩ := ret_inj hr
          exact ⟨rfl, hz⟩
        · have hr := bf q53 hr
          refine w_iconst 0 dX1_doPush_56 rfl rfl ?_
          refine w_zret hf dX1_doPush_57 rfl rfl (Nat.le_of_ble_eq_true rfl) (Nat.le_of_ble_eq_true rfl) ?_
          obtain ⟨rfl, rfl⟩ := ret_inj hr
          exact ⟨rfl, hz⟩
    · have hr := bf q20 hr
      refine w_iconst 0 dX1_doPush_23 rfl rfl ?_
      refine w_zret hf dX1_doPush_24 rfl rfl (Nat.le_of_ble_eq_true rfl) (Nat.le_of_ble_eq_true rfl) ?_
      obtain ⟨rfl, rfl⟩ := ret_inj hr
      exact ⟨rfl, hz⟩

set_option maxRecDepth 20000 in
set_option maxHeartbeats 4000000 in
theorem s_X1_doRelease {A : Nat → Nat → Nat → Nat} {h : Hp} {σ ρ σ' : Zs} {v : Int32} {x1 : Int32}  (hz : Rp A h σ ρ) (hr : fX1_doRelease x1 σ = some (v, σ')) : ∀ l : Launch, Sp l mX1_doRelease 3 0 0 [.ref (A 1 0 0), .int x1] h (QI A v σ' ρ) X0 := by
  intro l
  refine Sp.of rfl rfl (lv := [(0, .ref (A 1 0 0)), (1, .int x1)]) (Nat.le_of_ble_eq_true rfl) rfl (fun x hf hrm => ?_)
  rw [fX1_doRelease.eq_1] at hr
  refine w_iload_n 1 dX1_doRelease_0 rfl rfl rfl ?_
  refine w_if_lt 12 dX1_doRelease_1 rfl rfl (fun q1 => ?_) (fun q1 => ?_)
  · have hr := bt q1 hr
    refine w_iconst 0 dX1_doRelease_12 rfl rfl ?_
    refine w_zret hf dX1_doRelease_13 rfl rfl (Nat.le_of_ble_eq_true rfl) (Nat.le_of_ble_eq_true rfl) ?_
    obtain ⟨rfl, rfl⟩ := ret_inj hr
    exact ⟨rfl, hz⟩
  · have hr := bf q1 hr
    refine w_iload_n 1 dX1_doRelease_4 rfl rfl rfl ?_
    refine w_aload_n 0 dX1_doRelease_5 rfl rfl rfl ?_
    refine g_X1_59 dX1_doRelease_6 rfl (hz.o1 rfl) (hz.i66 rfl) ?_
    refine w_icmp_lt 14 dX1_doRelease_9 rfl rfl (fun q9 => ?_) (fun q9 => ?_)
    · have hr := bt q9 hr
      refine w_aload_n 0 dX1_doRelease_14 rfl rfl rfl ?_
      refine g_X1_18 dX1_doRelease_15 rfl (hz.o1 rfl) (hz.r71 rfl) ?_
      refine w_aload_n 0 dX1_doRelease_18 rfl rfl rfl ?_
      refine g_X1_11 dX1_doRelease_19 rfl (hz.o1 rfl) (hz.r65 rfl) ?_
      refine w_iload_n 1 dX1_doRelease_22 rfl rfl rfl ?_
      obtain ⟨g1, hr⟩ := gd hr
      have hv2 := hz.we65 (gi_lt g1)
      refine w_aald 6 dX1_doRelease_23 rfl (by decide) (by decide) (fun _ => rfl) (hz.k65 rfl) (gin (hz.n65 rfl) g1) (hz.e65 (gi_lt g1)) ?_
      obtain ⟨v3, σ4, e5, hr⟩ := bq_some hr
      refine c_X1_143 (As := [.ref (A 6 (zR σ 1089 0 0 (Int32.toNatClampNeg x1)).1 (zR σ 1089 0 0 (Int32.toNatClampNeg x1)).2)]) (rest := []) (fun l => s_X6_copyFrom rfl hv2 hz e5 l) hrm dX1_doRelease_24 rfl rfl (Nat.le_of_ble_eq_true rfl) (Nat.le_of_ble_eq_true rfl) (Nat.le_of_ble_eq_true rfl) (hz.o6 rfl) rfl (Nat.le_of_ble_eq_true rfl) (fun vr h2 hq => ?_) (fun E9 h9 hq => hq.elim)
      obtain ⟨rfl, hz⟩ := hq
      show wp _ _ 27 [(0, .ref (A 1 0 0)), (1, .int x1)] [] _ _ _
      refine w_aload_n 0 dX1_doRelease_27 rfl rfl rfl ?_
      refine g_X1_11 dX1_doRelease_28 rfl (hz.o1 rfl) (hz.r65 rfl) ?_
      refine w_iload_n 1 dX1_doRelease_31 rfl rfl rfl ?_
      obtain ⟨g7, hr⟩ := gd hr
      have hv8 := hz.we65 (gi_lt g7)
      refine w_aald 6 dX1_doRelease_32 rfl (by decide) (by decide) (fun _ => rfl) (hz.k65 rfl) (gin (hz.n65 rfl) g7) (hz.e65 (gi_lt g7)) ?_
      refine g_X1_147 dX1_doRelease_33 rfl (hz.o6 hv8) (hz.i387 hv8) ?_
      refine w_istore_n [(2, .int (zI σ4 387 ((zR σ4 1089 0 0 (Int32.toNatClampNeg x1)).1) ((zR σ4 1089 0 0 (Int32.toNatClampNeg x1)).2) 0)), (0, .ref (A 1 0 0)), (1, .int x1)] dX1_doRelease_36 rfl rfl (by decide) rfl ?_
      refine w_aload_n 1 dX1_doRelease_37 rfl rfl rfl ?_
      refine g_X1_11 dX1_doRelease_38 rfl (hz.o1 rfl) (hz.r65 rfl) ?_
      refine w_iload_n 2 dX1_doRelease_41 rfl rfl rfl ?_
      obtain ⟨g9, hr⟩ := gd hr
      have hv10 := hz.we65 (gi_lt g9)
      refine w_aald 6 dX1_doRelease_42 rfl (by decide) (by decide) (fun _ => rfl) (hz.k65 rfl) (gin (hz.n65 rfl) g9) (hz.e65 (gi_lt g9)) ?_
      refine g_X1_150 dX1_doRelease_43 rfl (hz.o6 hv10) (hz.i388 hv10) ?_
      refine w_istore_n [(3, .int (zI σ4 388 ((zR σ4 1089 0 0 (Int32.toNatClampNeg x1)).1) ((zR σ4 1089 0 0 (Int32.toNatClampNeg x1)).2) 0)), (2, .int (zI σ4 387 ((zR σ4 1089 0 0 (Int32.toNatClampNeg x1)).1) ((zR σ4 1089 0 0 (Int32.toNatClampNeg x1)).2) 0)), (0, .ref (A 1 0 0)), (1, .int x1)] dX1_doRelease_46 rfl rfl (by decide) rfl ?_
      refine w_aload_n 2 dX1_doRelease_47 rfl rfl rfl ?_
      refine w_iload_n 3 dX1_doRelease_48 rfl rfl rfl ?_
      obtain ⟨v11, σ12, e13, hr⟩ := bq_some hr
      refine c_X1_91 (As := [.int x1]) (rest := []) (fun l => s_X1_removeHeld  hz e13 l) hrm dX1_doRelease_49 rfl rfl (Nat.le_of_ble_eq_true rfl) (Nat.le_of_ble_eq_true rfl) (Nat.le_of_ble_eq_true rfl) (hz.o1 rfl) rfl (Nat.le_of_ble_eq_true rfl) (fun vr h2 hq => ?_) (fun E9 h9 hq => hq.elim)
      obtain ⟨rfl, hz⟩ := hq
      show wp _ _ 52 [(3, .int (zI σ4 388 ((zR σ4 1089 0 0 (Int32.toNatClampNeg x1)).1) ((zR σ4 1089 0 0 (Int32.toNatClampNeg x1)).2) 0)), (2, .int (zI σ4 387 ((zR σ4 1089 0 0 (Int32.toNatClampNeg x1)).1) ((zR σ4 1089 0 0 (Int32.toNatClampNeg x1)).2) 0)), (0, .ref (A 1 0 0)), (1, .int x1)] [.int v11] _ _ _
      refine w_pop dX1_doRelease_52 rfl rfl ?_
      refine w_iload_n 1 dX1_doRelease_53 rfl rfl rfl ?_
      refine w_if_lt 68 dX1_doRelease_54 rfl rfl (fun q54 => ?_) (fun q54 => ?_)
      · have hr := bt q54 hr
        refine w_iconst 1 dX1_doRelease_68 rfl rfl ?_
        refine w_zret hf dX1_doRelease_69 rfl rfl (Nat.le_of_ble_eq_true rfl) (Nat.le_of_ble_eq_true rfl) ?_
        obtain ⟨rfl, rfl⟩ := ret_inj hr
        exact ⟨rfl, hz⟩
      · have hr := bf q54 hr
        refine w_iload_n 1 dX1_doRelease_57 rfl rfl rfl ?_
        refine w_aload_n 2 dX1_doRelease_58 rfl rfl rfl ?_
        have hv15 := hz.ww64 (p := 0) (s := 0) rfl
        refine g_X1_28 dX1_doRelease_59 rfl (hz.o1 rfl) (hz.rr64 rfl) ?_
        refine g_X1_32 dX1_doRelease_62 rfl (hz.o5 hv15) (hz.i321 hv15) ?_
        refine w_icmp_lt 70 dX1_doRelease_65 rfl rfl (fun q65 => ?_) (fun q65 => ?_)
        · have hr := bt q65 hr
          refine w_iload_n 0 dX1_doRelease_70 rfl rfl rfl ?_
          refine w_iconst (-1) dX1_doRelease_71 rfl rfl ?_
          refine w_icmp_eq 87 dX1_doRelease_72 rfl rfl (fun q72 => ?_) (fun q72 => ?_)
          · have hr := bt q72 hr
            refine w_aload_n 2 dX1_doRelease_87 rfl rfl rfl ?_
            refine w_iload_n 1 dX1_doRelease_88 rfl rfl rfl ?_
            refine w_iconst 1 dX1_doRelease_89 rfl rfl ?_
            obtain ⟨v16, σ17, e18, hr⟩ := bq_some hr
            refine c_X1_156 (As := [.int (zI σ4 387 ((zR σ4 1089 0 0 (Int32.toNatClampNeg x1)).1) ((zR σ4 1089 0 0 (Int32.toNatClampNeg x1)).2) 0), .int 1]) (rest := []) (fun l => s_X1_enterWindow  hz e18 l) hrm dX1_doRelease_90 rfl rfl (Nat.le_of_ble_eq_true rfl) (Nat.le_of_ble_eq_true rfl) (Nat.le_of_ble_eq_true rfl) (hz.o1 rfl) rfl (Nat.le_of_ble_eq_true rfl) (fun vr h2 hq => ?_) (fun E9 h9 hq => hq.elim)
            obtain ⟨rfl, hz⟩ := hq
            show wp _ _ 93 [(3, .int (zI σ4 388 ((zR σ4 1089 0 0 (Int32.toNatClampNeg x1)).1) ((zR σ4 1089 0 0 (Int32.toNatClampNeg x1)).2) 0)), (2, .int (zI σ4 387 ((zR σ4 1089 0 0 (Int32.toNatClampNeg x1)).1) ((zR σ4 1089 0 0 (Int32.toNatClampNeg x1)).2) 0)), (0, .ref (A 1 0 0)), (1, .int x1)] [.int v16] _ _ _
            refine w_if_eq 105 dX1_doRelease_93 rfl rfl (fun q93 => ?_) (fun q93 => ?_)
            · have hr := bt q93 hr
              refine w_iconst 1 dX1_doRelease_105 rfl rfl ?_
              refine w_zret hf dX1_doRelease_106 rfl rfl (Nat.le_of_ble_eq_true rfl) (Nat.le_of_ble_eq_true rfl) ?_
              obtain ⟨rfl, rfl⟩ := ret_inj hr
              exact ⟨rfl, hz⟩
            · have hr := bf q93 hr
              refine w_aload_n 2 dX1_doRelease_96 rfl rfl rfl ?_
              refine w_iload_n 1 dX1_doRelease_97 rfl rfl rfl ?_
              refine w_aload_n 2 dX1_doRelease_98 rfl rfl rfl ?_
              refine g_X1_25 dX1_doRelease_99 rfl (hz.o1 rfl) (hz.r73 rfl) ?_
              obtain ⟨v20, σ21, e22, hr⟩ := bq_some hr
              refine c_X1_139 (As := [.int (zI σ4 387 ((zR σ4 1089 0 0 (Int32.toNatClampNeg x1)).1) ((zR σ4 1089 0 0 (Int32.toNatClampNeg x1)).2) 0), .ref (A 6 2 0)]) (rest := []) (fun l => s_X1_give rfl hz e22 l) hrm dX1_doRelease_102 rfl rfl (Nat.le_of_ble_eq_true rfl) (Nat.le_of_ble_eq_true rfl) (Nat.le_of_ble_eq_true rfl) (hz.o1 rfl) rfl (Nat.le_of_ble_eq_true rfl) (fun vr h2 hq => ?_) (fun E9 h9 hq => hq.elim)
              obtain ⟨rfl, hz⟩ := hq
              show wp _ _ 105 [(3, .int (zI σ4 388 ((zR σ4 1089 0 0 (Int32.toNatClampNeg x1)).1) ((zR σ4 1089 0 0 (Int32.toNatClampNeg x1)).2) 0)), (2, .int (zI σ4 387 ((zR σ4 1089 0 0 (Int32.toNatClampNeg x1)).1) ((zR σ4 1089 0 0 (Int32.toNatClampNeg x1)).2) 0)), (0, .ref (A 1 0 0)), (1, .int x1)] [] _ _ _
              refine w_iconst 1 dX1_doRelease_105 rfl rfl ?_
              refine w_zret hf dX1_doRelease_106 rfl rfl (Nat.le_of_ble_eq_true rfl) (Nat.le_of_ble_eq_true rfl) ?_
              obtain ⟨rfl, rfl⟩ := ret_inj hr
              exact ⟨rfl, hz⟩
          · have hr := bf q72 hr
            refine w_aload_n 2 dX1_doRelease_75 rfl rfl rfl ?_
            refine w_iload_n 1 dX1_doRelease_76 rfl rfl rfl ?_
            refine w_aload_n 2 dX1_doRelease_77 rfl rfl rfl ?_
            refine g_X1_18 dX1_doRelease_78 rfl (hz.o1 rfl) (hz.r71 rfl) ?_
            obtain ⟨v24, σ25, e26, hr⟩ := bq_some hr
            refine c_X1_153 (As := [.int (zI σ4 387 ((zR σ4 1089 0 0 (Int32.toNatClampNeg x1)).1) ((zR σ4 1089 0 0 (Int32.toNatClampNeg x1)).2) 0), .ref (A 6 0 0)]) (rest := []) (fun l => s_X1_accept rfl hz e26 l) hrm dX1_doRelease_81 rfl rfl (Nat.le_of_ble_eq_true rfl) (Nat.le_of_ble_eq_true rfl) (Nat.le_of_ble_eq_true rfl) (hz.o1 rfl) rfl (Nat.le_of_ble_eq_true rfl) (fun vr h2 hq => ?_) (fun E9 h9 hq => hq.elim)
            obtain ⟨rfl, hz⟩ := hq
            show wp _ _ 84 [(3, .int (zI σ4 388 ((zR σ4 1089 0 0 (Int32.toNatClampNeg x1)).1) ((zR σ4 1089 0 0 (Int32.toNatClampNeg x1)).2) 0)), (2, .int (zI σ4 387 ((zR σ4 1089 0 0 (Int32.toNatClampNeg x1)).1) ((zR σ4 1089 0 0 (Int32.toNatClampNeg x1)).2) 0)), (0, .ref (A 1 0 0)), (1, .int x1)] [] _ _ _
            refine w_goto 105 dX1_doRelease_84 rfl ?_
            refine w_iconst 1 dX1_doRelease_105 rfl rfl ?_
            refine w_zret hf dX1_doRelease_106 rfl rfl (Nat.le_of_ble_eq_true rfl) (Nat.le_of_ble_eq_true rfl) ?_
            obtain ⟨rfl, rfl⟩ := ret_inj hr
            exact ⟨rfl, hz⟩
        · have hr := bf q65 hr
          refine w_iconst 1 dX1_doRelease_68 rfl rfl ?_
          refine w_zret hf dX1_doRelease_69 rfl rfl (Nat.le_of_ble_eq_true rfl) (Nat.le_of_ble_eq_true rfl) ?_
          obtain ⟨rfl, rfl⟩ := ret_inj hr
          exact ⟨rfl, hz⟩
    · have hr := bf q9 hr
      refine w_iconst 0 dX1_doRelease_12 rfl rfl ?_
      refine w_zret hf dX1_doRelease_13 rfl rfl (Nat.le_of_ble_eq_true rfl) (Nat.le_of_ble_eq_true rfl) ?_
      obtain ⟨rfl, rfl⟩ := ret_inj hr
      exact ⟨rfl, hz⟩

set_option maxRecDepth 20000 in
set_option maxHeartbeats 4000000 in
theorem s_X1_perform {A : Nat → Nat → Nat → Nat} {h : Hp} {σ ρ σ' : Zs} {v : Int32} {s1 : Nat} (hV1 : vdb (A 16 0 0) 2 0 s1 = true) (hz : Rp A h σ ρ) (hr : fX1_perform s1 σ = some (v, σ')) : ∀ l : Launch, Sp l mX1_perform 4 0 0 [.ref (A 1 0 0), .ref (A 2 0 s1)] h (QI A v σ' ρ) X0 := by
  intro l
  refine Sp.of rfl rfl (lv := [(0, .ref (A 1 0 0)), (1, .ref (A 2 0 s1))]) (Nat.le_of_ble_eq_true rfl) rfl (fun x hf hrm => ?_)
  rw [fX1_perform.eq_1] at hr
  refine w_aload_n 0 dX1_perform_0 rfl rfl rfl ?_
  refine w_iconst 0 dX1_perform_1 rfl rfl ?_
  refine p_X1_72 dX1_perform_2 rfl (hz.o1 rfl) ?_
  obtain ⟨σ1, e2, hr⟩ := lt_e hr
  have hz := (hz.s70 (v := 0) rfl).ts e2
  refine w_aload_n 1 dX1_perform_5 rfl rfl rfl ?_
  refine g_X1_75 dX1_perform_6 rfl (hz.o2 hV1) (hz.i128 hV1) ?_
  by_cases q9_0 : ((zI σ1 128 0 s1 0) : Int32) = 0
  · have hr := bt q9_0 hr
    refine w_tableIn 36 dX1_perform_9 (by rw [q9_0]; decide) (by rw [q9_0]; decide) (by rw [q9_0]; rfl) rfl ?_
    refine w_aload_n 0 dX1_perform_36 rfl rfl rfl ?_
    refine w_aload_n 1 dX1_perform_37 rfl rfl rfl ?_
    obtain ⟨v3, σ4, e5, hr⟩ := bq_some hr
    refine c_X1_80 (As := [.ref (A 2 0 s1)]) (rest := []) (fun l => s_X1_doPush hV1 hz e5 l) hrm dX1_perform_38 rfl rfl (Nat.le_of_ble_eq_true rfl) (Nat.le_of_ble_eq_true rfl) (Nat.le_of_ble_eq_true rfl) (hz.o1 rfl) rfl (Nat.le_of_ble_eq_true rfl) (fun vr h2 hq => ?_) (fun E9 h9 hq => hq.elim)
    obtain ⟨rfl, hz⟩ := hq
    show wp _ _ 41 [(0, .ref (A 1 0 0)), (1, .ref (A 2 0 s1))] [.int v3] _ _ _
    obtain ⟨g7, hr⟩ := gd hr
    refine w_zret hf dX1_perform_41 rfl (zr g7) (Nat.le_of_ble_eq_true rfl) (Nat.le_of_ble_eq_true rfl) ?_
    obtain ⟨rfl, rfl⟩ := ret_inj hr
    exact ⟨rfl, hz⟩
  have hr := bf q9_0 hr
  by_cases q9_1 : ((zI σ1 128 0 s1 0) : Int32) = 1
  · have hr := bt q9_1 hr
    refine w_tableIn 42 dX1_perform_9 (by rw [q9_1]; decide) (by rw [q9_1]; decide) (by rw [q9_1]; rfl) rfl ?_
    refine w_aload_n 0 dX1_perform_42 rfl rfl rfl ?_
    refine w_aload_n 1 dX1_perform_43 rfl rfl rfl ?_
    refine g_X1_84 dX1_perform_44 rfl (hz.o2 hV1) (hz.i131 hV1) ?_
    obtain ⟨v8, σ9, e10, hr⟩ := bq_some hr
    refine c_X1_87 (As := [.int (zI σ1 131 0 s1 0)]) (rest := []) (fun l => s_X1_doRelease  hz e10 l) hrm dX1_perform_47 rfl rfl (Nat.le_of_ble_eq_true rfl) (Nat.le_of_ble_eq_true rfl) (Nat.le_of_ble_eq_true rfl) (hz.o1 rfl) rfl (Nat.le_of_ble_eq_true rfl) (fun vr h2 hq => ?_) (fun E9 h9 hq => hq.elim)
    obtain ⟨rfl, hz⟩ := hq
    show wp _ _ 50 [(0, .ref (A 1 0 0)), (1, .ref (A 2 0 s1))] [.int v8] _ _ _
    obtain ⟨g12, hr⟩ := gd hr
    refine w_zret hf dX1_perform_50 rfl (zr g12) (Nat.le_of_ble_eq_true rfl) (Nat.le_of_ble_eq_true rfl) ?_
    obtain ⟨rfl, rfl⟩ := ret_inj hr
    exact ⟨rfl, hz⟩
  have hr := bf q9_1 hr
  by_cases q9_2 : ((zI σ1 128 0 s1 0) : Int32) = 2
  · have hr := bt q9_2 hr
    refine w_tableIn 51 dX1_perform_9 (by rw [q9_2]; decide) (by rw [q9_2]; decide) (by rw [q9_2]; rfl) rfl ?_
    refine w_aload_n 0 dX1_perform_51 rfl rfl rfl ?_
    refine w_aload_n 1 dX1_perform_52 rfl rfl rfl ?_
    refine g_X1_84 dX1_perform_53 rfl (hz.o2 hV1) (hz.i131 hV1) ?_
    obtain ⟨v13, σ14, e15, hr⟩ := bq_some hr
    refine c_X1_91 (As := [.int (zI σ1 131 0 s1 0)]) (rest := []) (fun l => s_X1_removeHeld  hz e15 l) hrm dX1_perform_56 rfl rfl (Nat.le_of_ble_eq_true rfl) (Nat.le_of_ble_eq_true rfl) (Nat.le_of_ble_eq_true rfl) (hz.o1 rfl) rfl (Nat.le_of_ble_eq_true rfl) (fun vr h2 hq => ?_) (fun E9 h9 hq => hq.elim)
    obtain ⟨rfl, hz⟩ := hq
    show wp _ _ 59 [(0, .ref (A 1 0 0)), (1, .ref (A 2 0 s1))] [.int v13] _ _ _
    obtain ⟨g17, hr⟩ := gd hr
    refine w_zret hf dX1_perform_59 rfl (zr g17) (Nat.le_of_ble_eq_true rfl) (Nat.le_of_ble_eq_true rfl) ?_
    obtain ⟨rfl, rfl⟩ := ret_inj hr
    exact ⟨rfl, hz⟩
  have hr := bf q9_2 hr
  refine w_tableOut 60 dX1_perform_9 (tabout 0 2 (fun k h1 h2 => by
        intro e
        have h3 : k = 0 ∨ k = 1 ∨ k = 2 := by omega
        rcases h3 with h3 | h3 | h3 <;> subst h3 <;> contradiction)) rfl ?_
  refine w_aload_n 0 dX1_perform_60 rfl rfl rfl ?_
  refine g_X1_65 dX1_perform_61 rfl (hz.o1 rfl) (hz.i68 rfl) ?_
  refine w_istore_n [(2, .int (zI σ1 68 0 0 0)), (0, .ref (A 1 0 0)), (1, .ref (A 2 0 s1))] dX1_perform_64 rfl rfl (by decide) rfl ?_
  refine w_aload_n 1 dX1_perform_65 rfl rfl rfl ?_
  refine w_iconst 0 dX1_perform_66 rfl rfl ?_
  refine p_X1_65 dX1_perform_67 rfl (hz.o1 rfl) (Or.inl rfl) ?_
  obtain ⟨σ18, e19, hr⟩ := lt_e hr
  have hz := (hz.s68 (v := 0) rfl).ts e19
  refine w_iload_n 0 dX1_perform_70 rfl rfl rfl ?_
  obtain ⟨g20, hr⟩ := gd hr
  refine w_zret hf dX1_perform_71 rfl (zr g20) (Nat.le_of_ble_eq_true rfl) (Nat.le_of_ble_eq_true rfl) ?_
  obtain ⟨rfl, rfl⟩ := ret_inj hr
  exact ⟨rfl, hz⟩

set_option maxRecDepth 20000 in
set_option maxHeartbeats 4000000 in
theorem w_X1_start_38 {A : Nat → Nat → Nat → Nat} {ρ σ' : Zs} {v : Unit} {x : Cxt} {p1 : Nat}  (hf : m_fin 0 0 (QV A v σ' ρ) X0 x) (hrm : m_rm 2 0 0 x) (hV1 : vdb (A 16 0 0) 5 p1 0 = true) : ∀ (n : Nat) (y2 : Int32) (σ : Zs) (h : Hp), Rp A h σ ρ → fX1_start_38 p1  n y2 σ = some (v, σ') → wp x mX1_start 38 [(0, .ref (A 1 0 0)), (1, .ref (A 5 p1 0)), (2, .int y2)] [] h 0 0
  | 0, _, σ, h => fun hz hr => by
    rw [fX1_start_38.eq_1] at hr
    exact nono hr
  | n + 1, y2, σ, h => fun hz hr => by
    rw [fX1_start_38.eq_2] at hr
    refine w_iload_n 2 dX1_start_38 rfl rfl rfl ?_
    refine w_aload_n 0 dX1_start_39 rfl rfl rfl ?_
    have hv4 := hz.ww64 (p := 0) (s := 0) rfl
    refine g_X1_28 dX1_start_40 rfl (hz.o1 rfl) (hz.rr64 rfl) ?_
    refine g_X1_47 dX1_start_43 rfl (hz.o5 hv4) (hz.i323 hv4) ?_
    refine w_icmp_ge 68 dX1_start_46 rfl rfl (fun q46 => ?_) (fun q46 => ?_)
    · have hr := bt q46 hr
      refine w_aload_n 0 dX1_start_68 rfl rfl rfl ?_
      refine w_iconst 0 dX1_start_69 rfl rfl ?_
      refine p_X1_59 dX1_start_70 rfl (hz.o1 rfl) ?_
      obtain ⟨σ5, e6, hr⟩ := lt_e hr
      have hz := (hz.s66 (v := 0) rfl).ts e6
      refine w_aload_n 0 dX1_start_73 rfl rfl rfl ?_
      refine w_iconst 0 dX1_start_74 rfl rfl ?_
      refine p_X1_62 dX1_start_75 rfl (hz.o1 rfl) ?_
      obtain ⟨σ7, e8, hr⟩ := lt_e hr
      have hz := (hz.s67 (v := 0) rfl).ts e8
      refine w_aload_n 0 dX1_start_78 rfl rfl rfl ?_
      refine w_iconst 0 dX1_start_79 rfl rfl ?_
      refine p_X1_65 dX1_start_80 rfl (hz.o1 rfl) (Or.inl rfl) ?_
      obtain ⟨σ9, e10, hr⟩ := lt_e hr
      have hz := (hz.s68 (v := 0) rfl).ts e10
      refine w_aload_n 0 dX1_start_83 rfl rfl rfl ?_
      refine w_iconst 0 dX1_start_84 rfl rfl ?_
      refine p_X1_69 dX1_start_85 rfl (hz.o1 rfl) ?_
      obtain ⟨σ11, e12, hr⟩ := lt_e hr
      have hz := (hz.s69 (v := 0) rfl).ts e12
      refine w_vret hf dX1_start_88 rfl (Nat.le_of_ble_eq_true rfl) (Nat.le_of_ble_eq_true rfl) ?_
      obtain ⟨rfl, rfl⟩ := ret_inj hr
      exact ⟨rfl, hz⟩
    · have hr := bf q46 hr
      refine w_aload_n 0 dX1_start_49 rfl rfl rfl ?_
      have hv13 := hz.ww64 (p := 0) (s := 0) rfl
      refine g_X1_28 dX1_start_50 rfl (hz.o1 rfl) (hz.rr64 rfl) ?_
      refine g_X1_50 dX1_start_53 rfl (hz.o5 hv13) (hz.r322 hv13) ?_
      refine w_iload_n 2 dX1_start_56 rfl rfl rfl ?_
      obtain ⟨g14, hr⟩ := gd hr
      have hv15 := vdb_322 (p := (zR σ 64 0 0 0).1) hv13 (gi_lt g14)
      refine w_aald 4 dX1_start_57 rfl (by decide) (by decide) (fun _ => rfl) (hz.k322 hv13) (gin (hz.n322 hv13) g14) (hz.e322 hv13 (gi_lt g14)) ?_
      refine w_iconst 0 dX1_start_58 rfl rfl ?_
      refine p_X1_54 dX1_start_59 rfl (hz.o0 hv15) ?_
      obtain ⟨σ16, e17, hr⟩ := lt_e hr
      have hz := (hz.s4 (v := 0) hv15).ts e17
      refine w_iinc 2 (y2 + 1) [(2, .int (y2 + 1)), (0, .ref (A 1 0 0)), (1, .ref (A 5 p1 0))] dX1_start_62 rfl rfl rfl (by decide) rfl ?_
      refine w_goto 38 dX1_start_65 rfl ?_
      refine w_lv [(0, .ref (A 1 0 0)), (1, .ref (A 5 p1 0)), (2, .int (y2 + 1))] [1, 2, 0] rfl ?_
      exact w_X1_start_38 hf hrm hV1  n (y2 + 1) _ _ hz  hr
set_option maxRecDepth 20000 in
set_option maxHeartbeats 4000000 in
theorem w_X1_start_7 {A : Nat → Nat → Nat → Nat} {ρ σ' : Zs} {v : Unit} {x : Cxt} {p1 : Nat}  (hf : m_fin 0 0 (QV A v σ' ρ) X0 x) (hrm : m_rm 2 0 0 x) (hV1 : vdb (A 16 0 0) 5 p1 0 = true) : ∀ (n : Nat) (y2 : Int32) (σ : Zs) (h : Hp), Rp A h σ ρ → fX1_start_7 p1  n y2 σ = some (v, σ') → wp x mX1_start 7 [(0, .ref (A 1 0 0)), (1, .ref (A 5 p1 0)), (2, .int y2)] [] h 0 0
  | 0, _, σ, h => fun hz hr => by
    rw [fX1_start_7.eq_1] at hr
    exact nono hr
  | n + 1, y2, σ, h => fun hz hr => by
    rw [fX1_start_7.eq_2] at hr
    refine w_iload_n 2 dX1_start_7 rfl rfl rfl ?_
    refine w_aload_n 0 dX1_start_8 rfl rfl rfl ?_
    have hv3 := hz.ww64 (p := 0) (s := 0) rfl
    refine g_X1_28 dX1_start_9 rfl (hz.o1 rfl) (hz.rr64 rfl) ?_
    refine g_X1_32 dX1_start_12 rfl (hz.o5 hv3) (hz.i321 hv3) ?_
    refine w_icmp_ge 36 dX1_start_15 rfl rfl (fun q15 => ?_) (fun q15 => ?_)
    · have hr := bt q15 hr
      refine w_iconst 0 dX1_start_36 rfl rfl ?_
      refine w_istore_n [(2, .int 0), (0, .ref (A 1 0 0)), (1, .ref (A 5 p1 0))] dX1_start_37 rfl rfl (by decide) rfl ?_
      refine w_lv [(0, .ref (A 1 0 0)), (1, .ref (A 5 p1 0)), (2, .int 0)] [1, 2, 0] rfl ?_
      exact w_X1_start_38 hf hrm hV1  FU 0 _ _ hz  hr
    · have hr := bf q15 hr
      refine w_aload_n 0 dX1_start_18 rfl rfl rfl ?_
      have hv18 := hz.ww64 (p := 0) (s := 0) rfl
      refine g_X1_28 dX1_start_19 rfl (hz.o1 rfl) (hz.rr64 rfl) ?_
      refine g_X1_38 dX1_start_22 rfl (hz.o5 hv18) (hz.r320 hv18) ?_
      refine w_iload_n 2 dX1_start_25 rfl rfl rfl ?_
      obtain ⟨g19, hr⟩ := gd hr
      have hv20 := vdb_320 (p := (zR σ 64 0 0 0).1) hv18 (gi_lt g19)
      refine w_aald 7 dX1_start_26 rfl (by decide) (by decide) (fun _ => rfl) (hz.k320 hv18) (gin (hz.n320 hv18) g19) (hz.e320 hv18 (gi_lt g19)) ?_
      obtain ⟨v21, σ22, e23, hr⟩ := bq_some hr
      refine c_X1_42 (As := []) (rest := []) (fun l => s_X7_dropRows hv20 hz e23 l) hrm dX1_start_27 rfl rfl (Nat.le_of_ble_eq_true rfl) (Nat.le_of_ble_eq_true rfl) (Nat.le_of_ble_eq_true rfl) (hz.o7 hv20) rfl (Nat.le_of_ble_eq_true rfl) (fun vr h2 hq => ?_) (fun E9 h9 hq => hq.elim)
      obtain ⟨rfl, hz⟩ := hq
      show wp _ _ 30 [(0, .ref (A 1 0 0)), (1, .ref (A 5 p1 0)), (2, .int y2)] [] _ _ _
      refine w_iinc 2 (y2 + 1) [(2, .int (y2 + 1)), (0, .ref (A 1 0 0)), (1, .ref (A 5 p1 0))] dX1_start_30 rfl rfl rfl (by decide) rfl ?_
      refine w_goto 7 dX1_start_33 rfl ?_
      refine w_lv [(0, .ref (A 1 0 0)), (1, .ref (A 5 p1 0)), (2, .int (y2 + 1))] [1, 2, 0] rfl ?_
      exact w_X1_start_7 hf hrm hV1  n (y2 + 1) _ _ hz  hr
set_option maxRecDepth 20000 in
set_option maxHeartbeats 4000000 in
theorem s_X1_start {A : Nat → Nat → Nat → Nat} {h : Hp} {σ ρ σ' : Zs} {v : Unit} {p1 : Nat} (hV1 : vdb (A 16 0 0) 5 p1 0 = true) (hz : Rp A h σ ρ) (hr : fX1_start p1 σ = some (v, σ')) : ∀ l : Launch, Sp l mX1_start 2 0 0 [.ref (A 1 0 0), .ref (A 5 p1 0)] h (QV A v σ' ρ) X0 := by
  intro l
  refine Sp.of rfl rfl (lv := [(0, .ref (A 1 0 0)), (1, .ref (A 5 p1 0))]) (Nat.le_of_ble_eq_true rfl) rfl (fun x hf hrm => ?_)
  rw [fX1_start.eq_1] at hr
  refine w_aload_n 0 dX1_start_0 rfl rfl rfl ?_
  refine w_aload_n 1 dX1_start_1 rfl rfl rfl ?_
  refine p_X1_28 dX1_start_2 rfl (hz.o1 rfl) ?_
  obtain ⟨σ1, e2, hr⟩ := lt_e hr
  have hz := (hz.s64 rfl hV1).ts e2
  refine w_iconst 0 dX1_start_5 rfl rfl ?_
  refine w_istore_n [(2, .int 0), (0, .ref (A 1 0 0)), (1, .ref (A 5 p1 0))] dX1_start_6 rfl rfl (by decide) rfl ?_
  refine w_lv [(0, .ref (A 1 0 0)), (1, .ref (A 5 p1 0)), (2, .int 0)] [1, 2, 0] rfl ?_
  exact w_X1_start_7 hf hrm hV1  FU 0 _ _ hz  hr

