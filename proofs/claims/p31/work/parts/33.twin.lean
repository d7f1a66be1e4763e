/-! THE TWINS: the class's functions, over the overlay -/
noncomputable def tX8_clear (p : Nat) (s : Nat) (x1 : Int32) (σ : Ts) : Option (Unit × Ts) :=
  ltT (uI σ 512 p s 0 0) fun σ1 => ltT (uI σ1 513 p s 0 x1) fun σ3 => some ((), σ3)
noncomputable def tX10_clear (p : Nat) (s : Nat) (σ : Ts) : Option (Unit × Ts) :=
  ltT (uI σ 640 p s 0 0) fun σ1 => some ((), σ1)
noncomputable def tX7_clear (p : Nat) (s : Nat) (σ : Ts) : Option (Unit × Ts) :=
  ltT (uI σ 449 p s 0 0) fun σ1 => if gi 0 2 then ltT (uI σ1 1476 p s (Int32.toNatClampNeg 0) (-1)) fun σ4 => if gi 1 2 then ltT (uI σ4 1476 p s (Int32.toNatClampNeg 1) (-1)) fun σ7 => ltT (uI σ7 453 p s 0 0) fun σ9 => ltT (uI σ9 454 p s 0 0) fun σ11 => ltT (uI σ11 455 p s 0 0) fun σ13 => ltT (uI σ13 456 p s 0 0) fun σ15 => some ((), σ15) else none else none
noncomputable def tX7_setColumns_2 (p : Nat) (s : Nat) (x2 : Int32)  : Nat → Int32 → Ts → Option (Unit × Ts)
  | 0, _, _ => none
  | n + 1, y3, σ =>
    if x2 ≤ y3 then (ltT (uI σ 450 p s 0 x2) fun σ1 => some ((), σ1)) else (if 1500 ≤ y3 then (ltT (uI σ 450 p s 0 x2) fun σ3 => some ((), σ3)) else (if 6 ≤ y3 then (ltT (uI σ 450 p s 0 x2) fun σ5 => some ((), σ5)) else (if gi y3 1500 then if gi y3 6 then ltT (uJ σ 1475 p s (Int32.toNatClampNeg y3) (zJ (uz σ) 1224 0 0 (Int32.toNatClampNeg y3))) fun σ9 => tX7_setColumns_2 p s x2  n (y3 + 1) σ9 else none else none)))
noncomputable def tX7_setColumns (p : Nat) (s : Nat) (x2 : Int32) (σ : Ts) : Option (Unit × Ts) :=
  tX7_setColumns_2 p s x2  FU 0 σ
noncomputable def tX7_copyColumns_2 (p : Nat) (s : Nat)  : Nat → Int32 → Ts → Option (Int32 × Ts)
  | 0, _, _ => none
  | n + 1, y2, σ =>
    if (zI (uz σ) 450 p s 0) ≤ y2 then (some ((zI (uz σ) 450 p s 0), σ)) else (if 1500 ≤ y2 then (some ((zI (uz σ) 450 p s 0), σ)) else (if 6 ≤ y2 then (some ((zI (uz σ) 450 p s 0), σ)) else (if gi y2 6 then if gi y2 1500 then ltT (uJ σ 1224 0 0 (Int32.toNatClampNeg y2) (zJ (uz σ) 1475 p s (Int32.toNatClampNeg y2))) fun σ3 => tX7_copyColumns_2 p s  n (y2 + 1) σ3 else none else none)))
noncomputable def tX7_copyColumns (p : Nat) (s : Nat) (σ : Ts) : Option (Int32 × Ts) :=
  tX7_copyColumns_2 p s  FU 0 σ
noncomputable def tX7_columnNamed_2 (p : Nat) (s : Nat) (x1 : Int64)  : Nat → Int32 → Ts → Option (Int32 × Ts)
  | 0, _, _ => none
  | n + 1, y3, σ =>
    if (zI (uz σ) 450 p s 0) ≤ y3 then (some ((-1), σ)) else (if 6 ≤ y3 then (some ((-1), σ)) else (if gi y3 6 then if ((lg_cmp (zJ (uz σ) 1475 p s (Int32.toNatClampNeg y3)) x1) : Int32) = 0 then (some (y3, σ)) else (tX7_columnNamed_2 p s x1  n (y3 + 1) σ) else none))
noncomputable def tX7_columnNamed (p : Nat) (s : Nat) (x1 : Int64) (σ : Ts) : Option (Int32 × Ts) :=
  tX7_columnNamed_2 p s x1  FU 0 σ
noncomputable def tX7_columnAt (p : Nat) (s : Nat) (x1 : Int32) (σ : Ts) : Option (Int64 × Ts) :=
  if x1 < 0 then (some (0, σ)) else (if 6 ≤ x1 then (some (0, σ)) else (if gi x1 6 then some ((zJ (uz σ) 1475 p s (Int32.toNatClampNeg x1)), σ) else none))
noncomputable def tX7_hasColumnsOf_15 (p : Nat) (s : Nat) (p1 : Nat) (s1 : Nat)  : Nat → Int32 → Ts → Option (Int32 × Ts)
  | 0, _, _ => none
  | n + 1, y2, σ =>
    if (zI (uz σ) 450 p s 0) ≤ y2 then (some (1, σ)) else (if 6 ≤ y2 then (some (1, σ)) else (if gi y2 6 then if gi y2 6 then if ((lg_cmp (zJ (uz σ) 1475 p s (Int32.toNatClampNeg y2)) (zJ (uz σ) 1475 p1 s1 (Int32.toNatClampNeg y2))) : Int32) = 0 then (tX7_hasColumnsOf_15 p s p1 s1  n (y2 + 1) σ) else (some (0, σ)) else none else none))
noncomputable def tX7_hasColumnsOf (p : Nat) (s : Nat) (p1 : Nat) (s1 : Nat) (σ : Ts) : Option (Int32 × Ts) :=
  if (zI (uz σ) 450 p s 0) = (zI (uz σ) 450 p1 s1 0) then (tX7_hasColumnsOf_15 p s p1 s1  FU 0 σ) else (some (0, σ))
noncomputable def tX7_setPart (p : Nat) (s : Nat) (x1 : Int32) (x2 : Int32) (σ : Ts) : Option (Unit × Ts) :=
  if x1 < 0 then (some ((), σ)) else (if 6 ≤ x1 then (some ((), σ)) else (if gi x1 6 then ltT (uI σ 1483 p s (Int32.toNatClampNeg x1) x2) fun σ2 => some ((), σ2) else none))
noncomputable def tX7_setCode (p : Nat) (s : Nat) (x1 : Int32) (x2 : Int32) (x3 : Int32) (σ : Ts) : Option (Unit × Ts) :=
  if x1 < 0 then (some ((), σ)) else (if 6 ≤ x1 then (some ((), σ)) else (if gi x1 6 then ltT (uI σ 1481 p s (Int32.toNatClampNeg x1) x2) fun σ2 => if gi x1 6 then ltT (uI σ2 1482 p s (Int32.toNatClampNeg x1) x3) fun σ5 => some ((), σ5) else none else none))
noncomputable def tX7_dropRows (p : Nat) (s : Nat) (σ : Ts) : Option (Unit × Ts) :=
  bqT (tX8_clear p s (zI (uz σ) 450 p s 0) σ) fun v1 σ2 => ltT (uI σ2 461 p s 0 (-1)) fun σ5 => if gi 0 2 then ltT (uI σ5 1486 p s (Int32.toNatClampNeg 0) 0) fun σ8 => if gi 1 2 then ltT (uI σ8 1486 p s (Int32.toNatClampNeg 1) 0) fun σ11 => bqT (tX10_clear p s σ11) fun v13 σ14 => some ((), σ14) else none else none
noncomputable def tX5_streamNamed_2 (p : Nat) (x1 : Int64)  : Nat → Int32 → Ts → Option (Int32 × Ts)
  | 0, _, _ => none
  | n + 1, y3, σ =>
    if (zI (uz σ) 321 p 0 0) ≤ y3 then (some ((-1), σ)) else (if 12 ≤ y3 then (some ((-1), σ)) else (if gi y3 12 then if ((lg_cmp (zJ (uz σ) 448 p (Int32.toNatClampNeg y3) 0) x1) : Int32) = 0 then (some (y3, σ)) else (tX5_streamNamed_2 p x1  n (y3 + 1) σ) else none))
noncomputable def tX5_streamNamed (p : Nat) (x1 : Int64) (σ : Ts) : Option (Int32 × Ts) :=
  tX5_streamNamed_2 p x1  FU 0 σ
noncomputable def tX5_emit (p : Nat) (x1 : Int32) (x2 : Int64) (σ : Ts) : Option (Unit × Ts) :=
  if 1500 ≤ (zI (uz σ) 326 p 0 0) then (some ((), σ)) else (if gi (zI (uz σ) 326 p 0 0) 1500 then ltT (uI σ 1348 p 0 (Int32.toNatClampNeg (zI (uz σ) 326 p 0 0)) x1) fun σ2 => if gi (zI (uz σ2) 326 p 0 0) 1500 then ltT (uJ σ2 1349 p 0 (Int32.toNatClampNeg (zI (uz σ2) 326 p 0 0)) x2) fun σ5 => ltT (uI σ5 326 p 0 0 ((zI (uz σ5) 326 p 0 0) + 1)) fun σ7 => some ((), σ7) else none else none)
noncomputable def tX1_start_38 (p1 : Nat)  : Nat → Int32 → Ts → Option (Unit × Ts)
  | 0, _, _ => none
  | n + 1, y2, σ =>
    if (zI (uz σ) 323 ((zR (uz σ) 64 0 0 0).1) 0 0) ≤ y2 then (ltT (uI σ 66 0 0 0 0) fun σ5 => ltT (uI σ5 67 0 0 0 0) fun σ7 => ltT (uI σ7 68 0 0 0 0) fun σ9 => ltT (uI σ9 69 0 0 0 0) fun σ11 => some ((), σ11)) else (if gi y2 8 then ltT (uI σ 4 ((zR (uz σ) 64 0 0 0).1) (Int32.toNatClampNeg y2) 0 0) fun σ16 => tX1_start_38 p1  n (y2 + 1) σ16 else none)
noncomputable def tX1_start_7 (p1 : Nat)  : Nat → Int32 → Ts → Option (Unit × Ts)
  | 0, _, _ => none
  | n + 1, y2, σ =>
    if (zI (uz σ) 321 ((zR (uz σ) 64 0 0 0).1) 0 0) ≤ y2 then (tX1_start_38 p1  FU 0 σ) else (if gi y2 12 then bqT (tX7_dropRows ((zR (uz σ) 64 0 0 0).1) (Int32.toNatClampNeg y2) σ) fun v21 σ22 => tX1_start_7 p1  n (y2 + 1) σ22 else none)
noncomputable def tX1_start (p1 : Nat) (σ : Ts) : Option (Unit × Ts) :=
  ltT (uR σ 64 0 0 0 (p1, 0)) fun σ1 => tX1_start_7 p1  FU 0 σ1
noncomputable def tX11_isLetter (x0 : Int32) (σ : Ts) : Option (Int32 × Ts) :=
  if x0 < 97 then (some (0, σ)) else (if 122 < x0 then (some (0, σ)) else (some (1, σ)))
noncomputable def tX11_isDigit (x0 : Int32) (σ : Ts) : Option (Int32 × Ts) :=
  if x0 < 48 then (some (0, σ)) else (if 57 < x0 then (some (0, σ)) else (some (1, σ)))
noncomputable def tX11_isWordByte (x0 : Int32) (σ : Ts) : Option (Int32 × Ts) :=
  bqT (tX11_isLetter x0 σ) fun v1 σ2 => if v1 = 0 then (bqT (tX11_isDigit x0 σ2) fun v5 σ6 => if v5 = 0 then (some (0, σ6)) else (some (1, σ6))) else (some (1, σ2))
noncomputable def tX9_addToken (x1 : Int32) (x2 : Int32) (x3 : Int64) (σ : Ts) : Option (Unit × Ts) :=
  if 1501 ≤ (zI (uz σ) 580 0 0 0) then (some ((), σ)) else (if gi (zI (uz σ) 580 0 0 0) 1501 then ltT (uI σ 1600 0 0 (Int32.toNatClampNeg (zI (uz σ) 580 0 0 0)) x1) fun σ2 => if gi (zI (uz σ2) 580 0 0 0) 1501 then ltT (uI σ2 1601 0 0 (Int32.toNatClampNeg (zI (uz σ2) 580 0 0 0)) x2) fun σ5 => if gi (zI (uz σ5) 580 0 0 0) 1501 then ltT (uJ σ5 1602 0 0 (Int32.toNatClampNeg (zI (uz σ5) 580 0 0 0)) x3) fun σ8 => ltT (uI σ8 580 0 0 0 ((zI (uz σ8) 580 0 0 0) + 1)) fun σ10 => some ((), σ10) else none else none else none)
noncomputable def tX9_scanWord_47 (x2 : Int32) (x3 : Int32)  : Nat → Int32 → Int64 → Int32 → Int32 → Ts → Option (Int32 × Ts)
  | 0, _, _, _, _, _ => none
  | n + 1, y4, y5, y7, y8, σ =>
    if 32 ≤ y8 then (if ((y4 - x3) : Int32) ≤ 8 then (bqT (tX9_addToken y7 x3 y5 σ) fun v1 σ2 => some (y4, σ2)) else (bqT (tX9_addToken 1 x3 y5 σ) fun v5 σ6 => some (y4, σ6))) else (if gi y8 32 then if ((lg_cmp (zJ (uz σ) 1603 0 0 (Int32.toNatClampNeg y8)) y5) : Int32) = 0 then (tX9_scanWord_47 x2 x3  n y4 y5 (128 + y8) (y8 + 1) σ) else (tX9_scanWord_47 x2 x3  n y4 y5 y7 (y8 + 1) σ) else none)
noncomputable def tX9_scanWord_6 (x2 : Int32) (x3 : Int32)  : Nat → Int32 → Int64 → Ts → Option (Int32 × Ts)
  | 0, _, _, _ => none
  | n + 1, y4, y5, σ =>
    if x2 ≤ y4 then (tX9_scanWord_47 x2 x3  FU y4 y5 2 0 σ) else (if gi y4 1500 then bqT (tX11_isWordByte (zI (uz σ) 1728 0 0 (Int32.toNatClampNeg y4)) σ) fun v11 σ12 => if v11 = 0 then (tX9_scanWord_47 x2 x3  FU y4 y5 2 0 σ12) else (if gi y4 1500 then tX9_scanWord_6 x2 x3  n (y4 + 1) ((y5 <<< ((8 : Int32).toInt64 &&& 63)) ||| (((zI (uz σ12) 1728 0 0 (Int32.toNatClampNeg y4)) : Int32).toInt64)) σ12 else none) else none)
noncomputable def tX9_scanWord (x2 : Int32) (x3 : Int32) (σ : Ts) : Option (Int32 × Ts) :=
  tX9_scanWord_6 x2 x3  FU x3 0 σ
noncomputable def tX9_scanNumber_45 (x2 : Int32) (x3 : Int32)  (y4 : Int32) (y5 : Int64) (σ : Ts) : Option (Int32 × Ts) :=
  if ((y4 - x3) : Int32) ≤ 9 then (bqT (tX9_addToken 3 x3 y5 σ) fun v1 σ2 => some (y4, σ2)) else (bqT (tX9_addToken 1 x3 y5 σ) fun v5 σ6 => some (y4, σ6))
noncomputable def tX9_scanNumber_6 (x2 : Int32) (x3 : Int32)  : Nat → Int32 → Int64 → Ts → Option (Int32 × Ts)
  | 0, _, _, _ => none
  | n + 1, y4, y5, σ =>
    if x2 ≤ y4 then (tX9_scanNumber_45 x2 x3  y4 y5 σ) else (if gi y4 1500 then bqT (tX11_isDigit (zI (uz σ) 1728 0 0 (Int32.toNatClampNeg y4)) σ) fun v10 σ11 => if v10 = 0 then (tX9_scanNumber_45 x2 x3  y4 y5 σ11) else (if gi y4 1500 then tX9_scanNumber_6 x2 x3  n (y4 + 1) ((y5 * 10) + ((((zI (uz σ11) 1728 0 0 (Int32.toNatClampNeg y4)) - 48) : Int32).toInt64)) σ11 else none) else none)
noncomputable def tX9_scanNumber (x2 : Int32) (x3 : Int32) (σ : Ts) : Option (Int32 × Ts) :=
  tX9_scanNumber_6 x2 x3  FU x3 0 σ
noncomputable def tX9_scanToken_63 (x2 : Int32) (x3 : Int32)  (y4 : Int32) (z0 : Int32) (σ : Ts) : Option (Int32 × Ts) :=
  if (((y4 * 256) + z0) : Int32) = 15421 then (bqT (tX9_addToken ((y4 * 256) + z0) x3 0 σ) fun v12 σ13 => some ((x3 + 2), σ13)) else (if (((y4 * 256) + z0) : Int32) = 15933 then (bqT (tX9_addToken ((y4 * 256) + z0) x3 0 σ) fun v16 σ17 => some ((x3 + 2), σ17)) else (if (((y4 * 256) + z0) : Int32) = 15422 then (bqT (tX9_addToken ((y4 * 256) + z0) x3 0 σ) fun v28 σ29 => some ((x3 + 2), σ29)) else (if ((tx_ix 1 (((y4 : Int32).toUInt32 % 65536).toInt32)) : Int32) < 0 then (bqT (tX9_addToken 1 x3 0 σ) fun v20 σ21 => some ((x3 + 1), σ21)) else (bqT (tX9_addToken y4 x3 0 σ) fun v24 σ25 => some ((x3 + 1), σ25)))))
noncomputable def tX9_scanToken (x2 : Int32) (x3 : Int32) (σ : Ts) : Option (Int32 × Ts) :=
  if gi x3 1500 then bqT (tX11_isLetter (zI (uz σ) 1728 0 0 (Int32.toNatClampNeg x3)) σ) fun v2 σ3 => if v2 = 0 then (if gi x3 1500 then bqT (tX11_isDigit (zI (uz σ3) 1728 0 0 (Int32.toNatClampNeg x3)) σ3) fun v7 σ8 => if v7 = 0 then (if gi x3 1500 then if x2 ≤ ((x3 + 1) : Int32) then (tX9_scanToken_63 x2 x3  ((zI (uz σ8) 1728 0 0 (Int32.toNatClampNeg x3)) &&& 255) 0 σ8) else (if gi (x3 + 1) 1500 then tX9_scanToken_63 x2 x3  ((zI (uz σ8) 1728 0 0 (Int32.toNatClampNeg x3)) &&& 255) ((zI (uz σ8) 1728 0 0 (Int32.toNatClampNeg (x3 + 1))) &&& 255) σ8 else none) else none) else (bqT (tX9_scanNumber x2 x3 σ8) fun v33 σ34 => some (v33, σ34)) else none) else (bqT (tX9_scanWord x2 x3 σ3) fun v37 σ38 => some (v37, σ38)) else none
noncomputable def tX9_scan_18 (x2 : Int32)  : Nat → Int32 → Int32 → Int32 → Ts → Option (Unit × Ts)
  | 0, _, _, _, _ => none
  | n + 1, y3, y4, y5, σ =>
    if y3 ≤ y5 then (bqT (tX9_addToken 0 y3 0 σ) fun v3 σ4 => some ((), σ4)) else (if y5 < y4 then (tX9_scan_18 x2  n y3 y4 (y5 + 1) σ) else (if gi y5 1500 then if (zI (uz σ) 1728 0 0 (Int32.toNatClampNeg y5)) = 32 then (tX9_scan_18 x2  n y3 y4 (y5 + 1) σ) else (if gi y5 1500 then if (zI (uz σ) 1728 0 0 (Int32.toNatClampNeg y5)) = 10 then (tX9_scan_18 x2  n y3 y4 (y5 + 1) σ) else (bqT (tX9_scanToken y3 y5 σ) fun v9 σ10 => tX9_scan_18 x2  n y3 v9 (y5 + 1) σ10) else none) else none))
noncomputable def tX9_scan (x2 : Int32) (σ : Ts) : Option (Unit × Ts) :=
  ltT (uI σ 580 0 0 0 0) fun σ1 => tX9_scan_18 x2  FU (p_min x2 1500) 0 0 σ1
noncomputable def tX3_report (x1 : Int32) (x2 : Int32) (σ : Ts) : Option (Unit × Ts) :=
  if (zI (uz σ) 192 0 0 0) = 0 then (ltT (uI σ 192 0 0 0 x1) fun σ1 => ltT (uI σ1 193 0 0 0 x2) fun σ3 => some ((), σ3)) else (some ((), σ))
noncomputable def tX3_begin (p1 : Nat) (σ : Ts) : Option (Unit × Ts) :=
  ltT (uR σ 194 0 0 0 (p1, 0)) fun σ1 => ltT (uI σ1 321 ((zR (uz σ1) 194 0 0 0).1) 0 0 0) fun σ4 => ltT (uI σ4 323 ((zR (uz σ4) 194 0 0 0).1) 0 0 0) fun σ7 => ltT (uI σ7 326 ((zR (uz σ7) 194 0 0 0).1) 0 0 0) fun σ10 => ltT (uI σ10 192 0 0 0 0) fun σ12 => ltT (uI σ12 193 0 0 0 (-1)) fun σ14 => some ((), σ14)
noncomputable def tX3_startStream (x1 : Int32) (σ : Ts) : Option (Unit × Ts) :=
  if (zI (uz σ) 192 0 0 0) = 0 then (ltT (uI σ 197 0 0 0 0) fun σ1 => if (zI (uz σ1) 321 ((zR (uz σ1) 194 0 0 0).1) 0 0) < 12 then (if gi (zI (uz σ1) 321 ((zR (uz σ1) 194 0 0 0).1) 0 0) 12 then ltT (uR σ1 195 0 0 0 ((zR (uz σ1) 194 0 0 0).1, (Int32.toNatClampNeg (zI (uz σ1) 321 ((zR (uz σ1) 194 0 0 0).1) 0 0)))) fun σ8 => bqT (tX7_clear ((zR (uz σ8) 195 0 0 0).1) ((zR (uz σ8) 195 0 0 0).2) σ8) fun v11 σ12 => ltT (uI σ12 201 0 0 0 0) fun σ15 => some ((), σ15) else none) else (bqT (tX3_report 4 x1 σ1) fun v17 σ18 => some ((), σ18))) else (some ((), σ))
noncomputable def tX3_startCheck (x1 : Int32) (σ : Ts) : Option (Unit × Ts) :=
  if (zI (uz σ) 192 0 0 0) = 0 then (ltT (uI σ 197 0 0 0 1) fun σ1 => if (zI (uz σ1) 323 ((zR (uz σ1) 194 0 0 0).1) 0 0) < 8 then (if gi (zI (uz σ1) 323 ((zR (uz σ1) 194 0 0 0).1) 0 0) 8 then ltT (uR σ1 196 0 0 0 ((zR (uz σ1) 194 0 0 0).1, (Int32.toNatClampNeg (zI (uz σ1) 323 ((zR (uz σ1) 194 0 0 0).1) 0 0)))) fun σ8 => some ((), σ8) else none) else (bqT (tX3_report 4 x1 σ1) fun v10 σ11 => some ((), σ11))) else (some ((), σ))
noncomputable def tX3_startWork (x1 : Int32) (x2 : Int32) (σ : Ts) : Option (Unit × Ts) :=
  if (zI (uz σ) 192 0 0 0) = 0 then (ltT (uI σ 449 ((zR (uz σ) 195 0 0 0).1) ((zR (uz σ) 195 0 0 0).2) 0 x1) fun σ2 => ltT (uI σ2 203 0 0 0 x2) fun σ4 => some ((), σ4)) else (some ((), σ))
noncomputable def tX3_addColumn_38 (x1 : Int64)   (σ : Ts) : Option (Int32 × Ts) :=
  if 1500 ≤ (zI (uz σ) 201 0 0 0) then (some (1, σ)) else (if gi (zI (uz σ) 201 0 0 0) 1500 then ltT (uJ σ 1224 0 0 (Int32.toNatClampNeg (zI (uz σ) 201 0 0 0)) x1) fun σ2 => ltT (uI σ2 201 0 0 0 ((zI (uz σ2) 201 0 0 0) + 1)) fun σ4 => some (1, σ4) else none)
noncomputable def tX3_addColumn_2 (x1 : Int64)  : Nat → Int32 → Ts → Option (Int32 × Ts)
  | 0, _, _ => none
  | n + 1, y3, σ =>
    if (zI (uz σ) 201 0 0 0) ≤ y3 then (tX3_addColumn_38 x1   σ) else (if 1500 ≤ y3 then (tX3_addColumn_38 x1   σ) else (if gi y3 1500 then if ((lg_cmp (zJ (uz σ) 1224 0 0 (Int32.toNatClampNeg y3)) x1) : Int32) = 0 then (some (0, σ)) else (tX3_addColumn_2 x1  n (y3 + 1) σ) else none))
noncomputable def tX3_addColumn (x1 : Int64) (σ : Ts) : Option (Int32 × Ts) :=
  tX3_addColumn_2 x1  FU 0 σ
noncomputable def tX3_nameColumn (x1 : Int64) (x3 : Int32) (σ : Ts) : Option (Unit × Ts) :=
  bqT (tX3_addColumn x1 σ) fun v1 σ2 => if v1 = 0 then (bqT (tX3_report 5 x3 σ2) fun v5 σ6 => some ((), σ6)) else (some ((), σ2))
noncomputable def tX3_nameStream (x1 : Int64) (x3 : Int32) (σ : Ts) : Option (Unit × Ts) :=
  bqT (tX5_streamNamed ((zR (uz σ) 194 0 0 0).1) x1 σ) fun v2 σ3 => if v2 < 0 then (ltT (uJ σ3 448 ((zR (uz σ3) 195 0 0 0).1) ((zR (uz σ3) 195 0 0 0).2) 0 x1) fun σ7 => ltT (uI σ7 202 0 0 0 x3) fun σ9 => some ((), σ9)) else (bqT (tX3_report 5 x3 σ3) fun v11 σ12 => ltT (uJ σ12 448 ((zR (uz σ12) 195 0 0 0).1) ((zR (uz σ12) 195 0 0 0).2) 0 x1) fun σ16 => ltT (uI σ16 202 0 0 0 x3) fun σ18 => some ((), σ18))
noncomputable def tX3_setFirstInput (x1 : Int64) (x3 : Int32) (σ : Ts) : Option (Unit × Ts) :=
  bqT (tX5_streamNamed ((zR (uz σ) 194 0 0 0).1) x1 σ) fun v2 σ3 => if 0 ≤ v2 then (if gi v2 12 then ltT (uR σ3 198 0 0 0 ((zR (uz σ3) 194 0 0 0).1, (Int32.toNatClampNeg v2))) fun σ9 => if (zI (uz σ9) 197 0 0 0) = 0 then (if gi 0 2 then ltT (uI σ9 1476 ((zR (uz σ9) 195 0 0 0).1) ((zR (uz σ9) 195 0 0 0).2) (Int32.toNatClampNeg 0) v2) fun σ13 => if (zI (uz σ13) 449 ((zR (uz σ13) 195 0 0 0).1) ((zR (uz σ13) 195 0 0 0).2) 0) = 3 then (some ((), σ13)) else (if (zI (uz σ13) 449 ((zR (uz σ13) 195 0 0 0).1) ((zR (uz σ13) 195 0 0 0).2) 0) = 7 then (some ((), σ13)) else (bqT (tX7_copyColumns ((zR (uz σ13) 198 0 0 0).1) ((zR (uz σ13) 198 0 0 0).2) σ13) fun v18 σ19 => ltT (uI σ19 201 0 0 0 v18) fun σ22 => some ((), σ22))) else none) else (ltT (uI σ9 0 ((zR (uz σ9) 196 0 0 0).1) ((zR (uz σ9) 196 0 0 0).2) 0 v2) fun σ25 => some ((), σ25)) else none) else (bqT (tX3_report 2 x3 σ3) fun v27 σ28 => some ((), σ28))
noncomputable def tX3_setSecondInput (x1 : Int64) (x3 : Int32) (σ : Ts) : Option (Unit × Ts) :=
  bqT (tX5_streamNamed ((zR (uz σ) 194 0 0 0).1) x1 σ) fun v2 σ3 => if 0 ≤ v2 then (if gi v2 12 then ltT (uR σ3 199 0 0 0 ((zR (uz σ3) 194 0 0 0).1, (Int32.toNatClampNeg v2))) fun σ9 => if gi 1 2 then ltT (uI σ9 1476 ((zR (uz σ9) 195 0 0 0).1) ((zR (uz σ9) 195 0 0 0).2) (Int32.toNatClampNeg 1) v2) fun σ13 => ltT (uI σ13 204 0 0 0 x3) fun σ15 => some ((), σ15) else none else none) else (bqT (tX3_report 2 x3 σ3) fun v17 σ18 => some ((), σ18))
noncomputable def tX3_setKey_48 (x1 : Int64) (x3 : Int32)  (z0 : Int32) (zp1 : Nat) (zs1 : Nat) (σ : Ts) : Option (Unit × Ts) :=
  ltT (uI σ 454 zp1 zs1 0 z0) fun σ12 => if (zI (uz σ12) 453 ((zR (uz σ12) 195 0 0 0).1) ((zR (uz σ12) 195 0 0 0).2) 0) < 0 then (bqT (tX3_report 2 x3 σ12) fun v15 σ16 => some ((), σ16)) else (if 0 ≤ (zI (uz σ12) 454 ((zR (uz σ12) 195 0 0 0).1) ((zR (uz σ12) 195 0 0 0).2) 0) then (if (zI (uz σ12) 449 ((zR (uz σ12) 195 0 0 0).1) ((zR (uz σ12) 195 0 0 0).2) 0) = 7 then (bqT (tX3_addColumn x1 σ12) fun v21 σ22 => if v21 = 0 then (bqT (tX3_report 5 x3 σ22) fun v25 σ26 => some ((), σ26)) else (bqT (tX3_addColumn 422608071022 σ22) fun v29 σ30 => if v29 = 0 then (bqT (tX3_report 5 x3 σ30) fun v33 σ34 => some ((), σ34)) else (some ((), σ30)))) else (some ((), σ12))) else (bqT (tX3_report 2 x3 σ12) fun v37 σ38 => some ((), σ38)))
noncomputable def tX3_setKey (x1 : Int64) (x3 : Int32) (σ : Ts) : Option (Unit × Ts) :=
  bqT (tX7_columnNamed ((zR (uz σ) 198 0 0 0).1) ((zR (uz σ) 198 0 0 0).2) x1 σ) fun v3 σ4 => ltT (uI σ4 453 ((zR (uz σ) 195 0 0 0).1) ((zR (uz σ) 195 0 0 0).2) 0 v3) fun σ7 => if (zI (uz σ7) 449 ((zR (uz σ7) 195 0 0 0).1) ((zR (uz σ7) 195 0 0 0).2) 0) = 5 then (bqT (tX7_columnNamed ((zR (uz σ7) 199 0 0 0).1) ((zR (uz σ7) 199 0 0 0).2) x1 σ7) fun v42 σ43 => tX3_setKey_48 x1 x3  v42 ((zR (uz σ7) 195 0 0 0).1) ((zR (uz σ7) 195 0 0 0).2) σ43) else (tX3_setKey_48 x1 x3  (zI (uz σ7) 453 ((zR (uz σ7) 195 0 0 0).1) ((zR (uz σ7) 195 0 0 0).2) 0) ((zR (uz σ7) 195 0 0 0).1) ((zR (uz σ7) 195 0 0 0).2) σ7)
noncomputable def tX3_pickColumn (x1 : Int64) (x3 : Int32) (σ : Ts) : Option (Unit × Ts) :=
  bqT (tX7_columnNamed ((zR (uz σ) 198 0 0 0).1) ((zR (uz σ) 198 0 0 0).2) x1 σ) fun v2 σ3 => if 0 ≤ v2 then (bqT (tX3_addColumn x1 σ3) fun v6 σ7 => if v6 = 0 then (bqT (tX3_report 5 x3 σ7) fun v10 σ11 => some ((), σ11)) else (bqT (tX7_setPart ((zR (uz σ7) 195 0 0 0).1) ((zR (uz σ7) 195 0 0 0).2) ((zI (uz σ7) 201 0 0 0) - 1) v2 σ7) fun v15 σ16 => some ((), σ16))) else (bqT (tX3_report 2 x3 σ3) fun v19 σ20 => some ((), σ20))
noncomputable def tX3_lookAtName (x1 : Int32) (x2 : Int64) (x4 : Int32) (σ : Ts) : Option (Unit × Ts) :=
  if (zI (uz σ) 192 0 0 0) = 0 then (if (x1 : Int32) = 0 then (bqT (tX3_nameStream x2 x4 σ) fun v1 σ2 => some ((), σ2)) else if (x1 : Int32) = 1 then (bqT (tX3_nameColumn x2 x4 σ) fun v5 σ6 => some ((), σ6)) else if (x1 : Int32) = 2 then (bqT (tX3_setFirstInput x2 x4 σ) fun v9 σ10 => some ((), σ10)) else if (x1 : Int32) = 3 then (bqT (tX3_setSecondInput x2 x4 σ) fun v13 σ14 => some ((), σ14)) else if (x1 : Int32) = 4 then (bqT (tX3_setKey x2 x4 σ) fun v17 σ18 => some ((), σ18)) else if (x1 : Int32) = 5 then (bqT (tX3_pickColumn x2 x4 σ) fun v21 σ22 => some ((), σ22)) else (some ((), σ))) else (some ((), σ))
noncomputable def tX3_lookAtRange_20 (x1 : Int32) (x2 : Int64) (x4 : Int32)  (z0 : Int64) (σ : Ts) : Option (Unit × Ts) :=
  if ((lg_cmp x2 z0) : Int32) < 0 then (bqT (tX3_report 6 x4 σ) fun v1 σ2 => some ((), σ2)) else (if ((lg_cmp x2 1000) : Int32) ≤ 0 then (if x1 = 144 then (ltT (uI σ 456 ((zR (uz σ) 195 0 0 0).1) ((zR (uz σ) 195 0 0 0).2) 0 ((x2 : Int64).toInt32)) fun σ9 => some ((), σ9)) else (ltT (uI σ 455 ((zR (uz σ) 195 0 0 0).1) ((zR (uz σ) 195 0 0 0).2) 0 ((x2 : Int64).toInt32)) fun σ6 => some ((), σ6))) else (bqT (tX3_report 6 x4 σ) fun v11 σ12 => some ((), σ12)))
noncomputable def tX3_lookAtRange (x1 : Int32) (x2 : Int64) (x4 : Int32) (σ : Ts) : Option (Unit × Ts) :=
  if (zI (uz σ) 192 0 0 0) = 0 then (if x1 = 143 then (tX3_lookAtRange_20 x1 x2 x4  1 σ) else (tX3_lookAtRange_20 x1 x2 x4  0 σ)) else (some ((), σ))
noncomputable def tX3_setTotal (x1 : Int32) (σ : Ts) : Option (Unit × Ts) :=
  if (zI (uz σ) 192 0 0 0) = 0 then (bqT (tX7_setPart ((zR (uz σ) 195 0 0 0).1) ((zR (uz σ) 195 0 0 0).2) ((zI (uz σ) 201 0 0 0) - 1) x1 σ) fun v2 σ3 => some ((), σ3)) else (some ((), σ))
noncomputable def tX3_startExpression  (σ : Ts) : Option (Unit × Ts) :=
  ltT (uI σ 205 0 0 0 (zI (uz σ) 326 ((zR (uz σ) 194 0 0 0).1) 0 0)) fun σ2 => some ((), σ2)
noncomputable def tX3_endExpression  (σ : Ts) : Option (Unit × Ts) :=
  if (zI (uz σ) 192 0 0 0) = 0 then (if (zI (uz σ) 197 0 0 0) = 0 then (if (zI (uz σ) 449 ((zR (uz σ) 195 0 0 0).1) ((zR (uz σ) 195 0 0 0).2) 0) = 1 then (bqT (tX7_setCode ((zR (uz σ) 195 0 0 0).1) ((zR (uz σ) 195 0 0 0).2) 0 (zI (uz σ) 205 0 0 0) (zI (uz σ) 326 ((zR (uz σ) 194 0 0 0).1) 0 0) σ) fun v10 σ11 => some ((), σ11)) else (bqT (tX7_setCode ((zR (uz σ) 195 0 0 0).1) ((zR (uz σ) 195 0 0 0).2) ((zI (uz σ) 201 0 0 0) - 1) (zI (uz σ) 205 0 0 0) (zI (uz σ) 326 ((zR (uz σ) 194 0 0 0).1) 0 0) σ) fun v4 σ5 => some ((), σ5))) else (ltT (uI σ 2 ((zR (uz σ) 196 0 0 0).1) ((zR (uz σ) 196 0 0 0).2) 0 (zI (uz σ) 205 0 0 0)) fun σ15 => ltT (uI σ15 3 ((zR (uz σ15) 196 0 0 0).1) ((zR (uz σ15) 196 0 0 0).2) 0 (zI (uz σ15) 326 ((zR (uz σ15) 194 0 0 0).1) 0 0)) fun σ19 => some ((), σ19))) else (some ((), σ))
noncomputable def tX3_emit (x1 : Int32) (x2 : Int64) (σ : Ts) : Option (Unit × Ts) :=
  if (zI (uz σ) 192 0 0 0) = 0 then (bqT (tX5_emit ((zR (uz σ) 194 0 0 0).1) x1 x2 σ) fun v2 σ3 => some ((), σ3)) else (some ((), σ))
noncomputable def tX3_useColumn (x1 : Int64) (x3 : Int32) (σ : Ts) : Option (Unit × Ts) :=
  if (zI (uz σ) 192 0 0 0) = 0 then (bqT (tX7_columnNamed ((zR (uz σ) 198 0 0 0).1) ((zR (uz σ) 198 0 0 0).2) x1 σ) fun v2 σ3 => if 0 ≤ v2 then (bqT (tX5_emit ((zR (uz σ3) 194 0 0 0).1) 2 ((v2 : Int32).toInt64) σ3) fun v7 σ8 => some ((), σ8)) else (bqT (tX3_report 2 x3 σ3) fun v11 σ12 => some ((), σ12))) else (some ((), σ))
noncomputable def tX3_endFunction_21 (x1 : Int32) (x2 : Int32) (x3 : Int32)  (z0 : Int32) (z1 : Int32) (σ : Ts) : Option (Unit × Ts) :=
  if z1 = z0 then (bqT (tX5_emit ((zR (uz σ) 194 0 0 0).1) x1 0 σ) fun v2 σ3 => some ((), σ3)) else (bqT (tX3_report 3 x3 σ) fun v6 σ7 => some ((), σ7))
noncomputable def tX3_endFunction (x1 : Int32) (x2 : Int32) (x3 : Int32) (σ : Ts) : Option (Unit × Ts) :=
  if (zI (uz σ) 192 0 0 0) = 0 then (if x1 = 159 then (tX3_endFunction_21 x1 x2 x3  1 x2 σ) else (tX3_endFunction_21 x1 x2 x3  2 x2 σ)) else (some ((), σ))
noncomputable def tX3_endCheck (x1 : Int32) (σ : Ts) : Option (Unit × Ts) :=
  if (zI (uz σ) 192 0 0 0) = 0 then (ltT (uI σ 1 ((zR (uz σ) 196 0 0 0).1) ((zR (uz σ) 196 0 0 0).2) 0 x1) fun σ2 => ltT (uI σ2 323 ((zR (uz σ2) 194 0 0 0).1) 0 0 ((zI (uz σ2) 323 ((zR (uz σ2) 194 0 0 0).1) 0 0) + 1)) fun σ5 => some ((), σ5)) else (some ((), σ))
noncomputable def tX3_addOtherColumns_2   : Nat → Int32 → Ts → Option (Unit × Ts)
  | 0, _, _ => none
  | n + 1, y1, σ =>
    if (zI (uz σ) 450 ((zR (uz σ) 199 0 0 0).1) ((zR (uz σ) 199 0 0 0).2) 0) ≤ y1 then (some ((), σ)) else (if y1 = (zI (uz σ) 454 ((zR (uz σ) 195 0 0 0).1) ((zR (uz σ) 195 0 0 0).2) 0) then (tX3_addOtherColumns_2   n (y1 + 1) σ) else (bqT (tX7_columnAt ((zR (uz σ) 199 0 0 0).1) ((zR (uz σ) 199 0 0 0).2) y1 σ) fun v4 σ5 => bqT (tX3_addColumn v4 σ5) fun v8 σ9 => if v8 = 0 then (bqT (tX3_report 5 (zI (uz σ9) 204 0 0 0) σ9) fun v12 σ13 => tX3_addOtherColumns_2   n (y1 + 1) σ13) else (tX3_addOtherColumns_2   n (y1 + 1) σ9)))
noncomputable def tX3_addOtherColumns  (σ : Ts) : Option (Unit × Ts) :=
  tX3_addOtherColumns_2   FU 0 σ
noncomputable def tX3_endStream_88    (σ : Ts) : Option (Unit × Ts) :=
  if (zI (uz σ) 192 0 0 0) = 0 then (bqT (tX7_setColumns ((zR (uz σ) 195 0 0 0).1) ((zR (uz σ) 195 0 0 0).2) (zI (uz σ) 201 0 0 0) σ) fun v2 σ3 => ltT (uI σ3 321 ((zR (uz σ3) 194 0 0 0).1) 0 0 ((zI (uz σ3) 321 ((zR (uz σ3) 194 0 0 0).1) 0 0) + 1)) fun σ7 => some ((), σ7)) else (some ((), σ))
noncomputable def tX3_endStream_63    (σ : Ts) : Option (Unit × Ts) :=
  if (zI (uz σ) 192 0 0 0) = 0 then (if (zI (uz σ) 201 0 0 0) ≤ 6 then (tX3_endStream_88    σ) else (bqT (tX3_report 4 (zI (uz σ) 202 0 0 0) σ) fun v9 σ10 => tX3_endStream_88    σ10)) else (tX3_endStream_88    σ)
noncomputable def tX3_endStream  (σ : Ts) : Option (Unit × Ts) :=
  if (zI (uz σ) 192 0 0 0) = 0 then (if (zI (uz σ) 449 ((zR (uz σ) 195 0 0 0).1) ((zR (uz σ) 195 0 0 0).2) 0) = 4 then (bqT (tX7_hasColumnsOf ((zR (uz σ) 198 0 0 0).1) ((zR (uz σ) 198 0 0 0).2) ((zR (uz σ) 199 0 0 0).1) ((zR (uz σ) 199 0 0 0).2) σ) fun v26 σ27 => if v26 = 0 then (bqT (tX3_report 3 (zI (uz σ27) 203 0 0 0) σ27) fun v35 σ36 => if (zI (uz σ36) 192 0 0 0) = 0 then (if (zI (uz σ36) 449 ((zR (uz σ36) 195 0 0 0).1) ((zR (uz σ36) 195 0 0 0).2) 0) = 5 then (bqT (tX3_addOtherColumns  σ36) fun v40 σ41 => tX3_endStream_63    σ41) else (tX3_endStream_63    σ36)) else (tX3_endStream_63    σ36)) else (if (zI (uz σ27) 192 0 0 0) = 0 then (if (zI (uz σ27) 449 ((zR (uz σ27) 195 0 0 0).1) ((zR (uz σ27) 195 0 0 0).2) 0) = 5 then (bqT (tX3_addOtherColumns  σ27) fun v31 σ32 => tX3_endStream_63    σ32) else (tX3_endStream_63    σ27)) else (tX3_endStream_63    σ27))) else (if (zI (uz σ) 192 0 0 0) = 0 then (if (zI (uz σ) 449 ((zR (uz σ) 195 0 0 0).1) ((zR (uz σ) 195 0 0 0).2) 0) = 5 then (bqT (tX3_addOtherColumns  σ) fun v20 σ21 => tX3_endStream_63    σ21) else (tX3_endStream_63    σ)) else (tX3_endStream_63    σ))) else (if (zI (uz σ) 192 0 0 0) = 0 then (if (zI (uz σ) 449 ((zR (uz σ) 195 0 0 0).1) ((zR (uz σ) 195 0 0 0).2) 0) = 5 then (bqT (tX3_addOtherColumns  σ) fun v14 σ15 => tX3_endStream_63    σ15) else (tX3_endStream_63    σ)) else (tX3_endStream_63    σ))
noncomputable def tX4_fail  (σ : Ts) : Option (Unit × Ts) :=
  if 0 ≤ (zI (uz σ) 258 0 0 0) then (ltT (uI σ 260 0 0 0 1) fun σ1 => some ((), σ1)) else (ltT (uI σ 258 0 0 0 (zI (uz σ) 261 0 0 0)) fun σ3 => ltT (uI σ3 260 0 0 0 1) fun σ5 => some ((), σ5))
noncomputable def tX4_advance  (σ : Ts) : Option (Unit × Ts) :=
  if 0 ≤ (zI (uz σ) 258 0 0 0) then (some ((), σ)) else (if (((zI (uz σ) 259 0 0 0) + 1) : Int32) < 0 then (some ((), σ)) else (if (((zI (uz σ) 259 0 0 0) + 1) : Int32) < (zI (uz σ) 580 0 0 0) then (ltT (uI σ 259 0 0 0 ((zI (uz σ) 259 0 0 0) + 1)) fun σ1 => if gi (zI (uz σ1) 259 0 0 0) 1501 then ltT (uI σ1 260 0 0 0 (zI (uz σ1) 1600 0 0 (Int32.toNatClampNeg (zI (uz σ1) 259 0 0 0)))) fun σ4 => if gi (zI (uz σ4) 259 0 0 0) 1501 then ltT (uI σ4 261 0 0 0 (zI (uz σ4) 1601 0 0 (Int32.toNatClampNeg (zI (uz σ4) 259 0 0 0)))) fun σ7 => if gi (zI (uz σ7) 259 0 0 0) 1501 then ltT (uJ σ7 262 0 0 0 (zJ (uz σ7) 1602 0 0 (Int32.toNatClampNeg (zI (uz σ7) 259 0 0 0)))) fun σ10 => some ((), σ10) else none else none else none) else (some ((), σ))))
noncomputable def tX4_take (x1 : Int32) (σ : Ts) : Option (Unit × Ts) :=
  if (zI (uz σ) 260 0 0 0) = x1 then (bqT (tX4_advance  σ) fun v5 σ6 => some ((), σ6)) else (bqT (tX4_fail  σ) fun v1 σ2 => some ((), σ2))
noncomputable def tX4_takeInExpression (x1 : Int32) (x2 : Int32) (σ : Ts) : Option (Int32 × Ts) :=
  if (zI (uz σ) 260 0 0 0) = x1 then (if 60 ≤ (zI (uz σ) 263 0 0 0) then (bqT (tX4_fail  σ) fun v5 σ6 => some (0, σ6)) else (if x2 ≤ 8 then (ltT (uI σ 263 0 0 0 ((zI (uz σ) 263 0 0 0) + 1)) fun σ9 => bqT (tX4_advance  σ9) fun v11 σ12 => some (1, σ12)) else (bqT (tX4_fail  σ) fun v15 σ16 => some (0, σ16)))) else (bqT (tX4_fail  σ) fun v1 σ2 => some (0, σ2))
noncomputable def tX4_takeComma (x1 : Int32) (σ : Ts) : Option (Unit × Ts) :=
  if x1 ≤ 0 then (some ((), σ)) else (bqT (tX4_take 44 σ) fun v1 σ2 => some ((), σ2))
noncomputable def tX4_takeName (x1 : Int32) (σ : Ts) : Option (Unit × Ts) :=
  if (zI (uz σ) 260 0 0 0) = 2 then (bqT (tX3_lookAtName x1 (zJ (uz σ) 262 0 0 0) (zI (uz σ) 261 0 0 0) σ) fun v5 σ6 => bqT (tX4_take 2 σ6) fun v9 σ10 => some ((), σ10)) else (bqT (tX4_take 2 σ) fun v1 σ2 => some ((), σ2))
noncomputable def tX4_takeRange (x1 : Int32) (σ : Ts) : Option (Unit × Ts) :=
  bqT (tX4_take x1 σ) fun v1 σ2 => if (zI (uz σ2) 260 0 0 0) = 3 then (bqT (tX3_lookAtRange x1 (zJ (uz σ2) 262 0 0 0) (zI (uz σ2) 261 0 0 0) σ2) fun v9 σ10 => bqT (tX4_take 3 σ10) fun v13 σ14 => some ((), σ14)) else (bqT (tX4_take 3 σ2) fun v5 σ6 => some ((), σ6))
noncomputable def tX4_takeNames_8 (x1 : Int32)  : Nat → Int32 → Ts → Option (Unit × Ts)
  | 0, _, _ => none
  | n + 1, y2, σ =>
    if 1500 ≤ y2 then (bqT (tX4_take 41 σ) fun v5 σ6 => some ((), σ6)) else (if y2 = 0 then (bqT (tX4_takeComma y2 σ) fun v9 σ10 => bqT (tX4_takeName x1 σ10) fun v13 σ14 => tX4_takeNames_8 x1  n (y2 + 1) σ14) else (if (zI (uz σ) 260 0 0 0) = 44 then (bqT (tX4_takeComma y2 σ) fun v21 σ22 => bqT (tX4_takeName x1 σ22) fun v25 σ26 => tX4_takeNames_8 x1  n (y2 + 1) σ26) else (bqT (tX4_take 41 σ) fun v17 σ18 => some ((), σ18))))
noncomputable def tX4_takeNames (x1 : Int32) (σ : Ts) : Option (Unit × Ts) :=
  bqT (tX4_take 40 σ) fun v1 σ2 => tX4_takeNames_8 x1  FU 0 σ2
noncomputable def tX4_secondInput  (σ : Ts) : Option (Unit × Ts) :=
  bqT (tX4_take 44 σ) fun v1 σ2 => bqT (tX4_takeName 3 σ2) fun v5 σ6 => some ((), σ6)
noncomputable def tX4_kindOfWork (x0 : Int32) (σ : Ts) : Option (Int32 × Ts) :=
  if (x0 : Int32) = 131 then (some (1, σ)) else if (x0 : Int32) = 132 then (some (0, σ)) else if (x0 : Int32) = 133 then (some (2, σ)) else if (x0 : Int32) = 134 then (some (0, σ)) else if (x0 : Int32) = 135 then (some (3, σ)) else if (x0 : Int32) = 136 then (some (4, σ)) else if (x0 : Int32) = 137 then (some (5, σ)) else if (x0 : Int32) = 138 then (some (0, σ)) else if (x0 : Int32) = 139 then (some (0, σ)) else if (x0 : Int32) = 140 then (some (6, σ)) else if (x0 : Int32) = 141 then (some (0, σ)) else if (x0 : Int32) = 142 then (some (7, σ)) else (some (0, σ))
noncomputable def tX4_takeTotal  (σ : Ts) : Option (Int32 × Ts) :=
  if (zI (uz σ) 260 0 0 0) = 151 then (bqT (tX3_setTotal (zI (uz σ) 260 0 0 0) σ) fun v1 σ2 => bqT (tX4_take (zI (uz σ) 260 0 0 0) σ2) fun v5 σ6 => some ((zI (uz σ) 260 0 0 0), σ6)) else (if (zI (uz σ) 260 0 0 0) = 150 then (bqT (tX3_setTotal (zI (uz σ) 260 0 0 0) σ) fun v9 σ10 => bqT (tX4_take (zI (uz σ) 260 0 0 0) σ10) fun v13 σ14 => some ((zI (uz σ) 260 0 0 0), σ14)) else (if (zI (uz σ) 260 0 0 0) = 152 then (bqT (tX3_setTotal (zI (uz σ) 260 0 0 0) σ) fun v17 σ18 => bqT (tX4_take (zI (uz σ) 260 0 0 0) σ18) fun v21 σ22 => some ((zI (uz σ) 260 0 0 0), σ22)) else (if (zI (uz σ) 260 0 0 0) = 153 then (bqT (tX3_setTotal (zI (uz σ) 260 0 0 0) σ) fun v25 σ26 => bqT (tX4_take (zI (uz σ) 260 0 0 0) σ26) fun v29 σ30 => some ((zI (uz σ) 260 0 0 0), σ30)) else (if (zI (uz σ) 260 0 0 0) = 154 then (bqT (tX3_setTotal (zI (uz σ) 260 0 0 0) σ) fun v37 σ38 => bqT (tX4_take (zI (uz σ) 260 0 0 0) σ38) fun v41 σ42 => some ((zI (uz σ) 260 0 0 0), σ42)) else (bqT (tX4_fail  σ) fun v33 σ34 => some ((zI (uz σ) 260 0 0 0), σ34))))))
noncomputable def tX4_function_38 (x1 : Int32) (x2 : Int32) (kE : Int32 → Ts → Option (Unit × Ts))  : Nat → Int32 → Int32 → Int32 → Ts → Option (Unit × Ts)
  | 0, _, _, _, _ => none
  | n + 1, y3, y4, y5, σ =>
    if 60 ≤ y5 then (bqT (tX4_takeInExpression 41 x2 σ) fun v13 σ14 => bqT (tX3_endFunction x1 y4 y3 σ14) fun v17 σ18 => some ((), σ18)) else (if (zI (uz σ) 260 0 0 0) = 44 then (bqT (tX4_takeInExpression 44 (x2 + 1) σ) fun v29 σ30 => bqT (kE (x2 + 1) σ30) fun v33 σ34 => tX4_function_38 x1 x2 kE  n y3 (y4 + 1) (y5 + 1) σ34) else (bqT (tX4_takeInExpression 41 x2 σ) fun v21 σ22 => bqT (tX3_endFunction x1 y4 y3 σ22) fun v25 σ26 => some ((), σ26)))
noncomputable def tX4_function (x1 : Int32) (x2 : Int32) (kE : Int32 → Ts → Option (Unit × Ts)) (σ : Ts) : Option (Unit × Ts) :=
  bqT (tX4_takeInExpression x1 x2 σ) fun v1 σ2 => bqT (tX4_takeInExpression 40 (x2 + 1) σ2) fun v5 σ6 => if v5 = 0 then (some ((), σ6)) else (bqT (kE (x2 + 1) σ6) fun v9 σ10 => tX4_function_38 x1 x2 kE  FU (zI (uz σ) 261 0 0 0) 1 0 σ10)
noncomputable def tX4_factor (x1 : Int32) (kE : Int32 → Ts → Option (Unit × Ts)) (kF : Int32 → Ts → Option (Unit × Ts)) (σ : Ts) : Option (Unit × Ts) :=
  if ((zI (uz σ) 260 0 0 0) : Int32) = 2 then (bqT (tX3_useColumn (zJ (uz σ) 262 0 0 0) (zI (uz σ) 261 0 0 0) σ) fun v1 σ2 => bqT (tX4_takeInExpression (zI (uz σ) 260 0 0 0) x1 σ2) fun v5 σ6 => some ((), σ6)) else if ((zI (uz σ) 260 0 0 0) : Int32) = 3 then (bqT (tX3_emit (zI (uz σ) 260 0 0 0) (zJ (uz σ) 262 0 0 0) σ) fun v9 σ10 => bqT (tX4_takeInExpression (zI (uz σ) 260 0 0 0) x1 σ10) fun v13 σ14 => some ((), σ14)) else if ((zI (uz σ) 260 0 0 0) : Int32) = 40 then (bqT (tX4_takeInExpression 40 (x1 + 1) σ) fun v17 σ18 => if v17 = 0 then (some ((), σ18)) else (bqT (kE (x1 + 1) σ18) fun v21 σ22 => bqT (tX4_takeInExpression 41 x1 σ22) fun v25 σ26 => some ((), σ26))) else if ((zI (uz σ) 260 0 0 0) : Int32) = 45 then (bqT (tX4_takeInExpression (zI (uz σ) 260 0 0 0) (x1 + 1) σ) fun v29 σ30 => if v29 = 0 then (some ((), σ30)) else (bqT (kF (x1 + 1) σ30) fun v33 σ34 => if (zI (uz σ) 260 0 0 0) = 45 then (bqT (tX3_emit 160 0 σ34) fun v41 σ42 => some ((), σ42)) else (bqT (tX3_emit 158 0 σ34) fun v37 σ38 => some ((), σ38)))) else if ((zI (uz σ) 260 0 0 0) : Int32) = 152 then (bqT (tX4_function (zI (uz σ) 260 0 0 0) x1 kE σ) fun v45 σ46 => some ((), σ46)) else if ((zI (uz σ) 260 0 0 0) : Int32) = 153 then (bqT (tX4_function (zI (uz σ) 260 0 0 0) x1 kE σ) fun v49 σ50 => some ((), σ50)) else if ((zI (uz σ) 260 0 0 0) : Int32) = 155 then (bqT (tX3_emit (zI (uz σ) 260 0 0 0) (zJ (uz σ) 262 0 0 0) σ) fun v53 σ54 => bqT (tX4_takeInExpression (zI (uz σ) 260 0 0 0) x1 σ54) fun v57 σ58 => some ((), σ58)) else if ((zI (uz σ) 260 0 0 0) : Int32) = 158 then (bqT (tX4_takeInExpression (zI (uz σ) 260 0 0 0) (x1 + 1) σ) fun v61 σ62 => if v61 = 0 then (some ((), σ62)) else (bqT (kF (x1 + 1) σ62) fun v65 σ66 => if (zI (uz σ) 260 0 0 0) = 45 then (bqT (tX3_emit 160 0 σ66) fun v73 σ74 => some ((), σ74)) else (bqT (tX3_emit 158 0 σ66) fun v69 σ70 => some ((), σ70)))) else if ((zI (uz σ) 260 0 0 0) : Int32) = 159 then (bqT (tX4_function (zI (uz σ) 260 0 0 0) x1 kE σ) fun v77 σ78 => some ((), σ78)) else (bqT (tX4_fail  σ) fun v81 σ82 => some ((), σ82))
noncomputable def tX4_product_40 (x1 : Int32) (kF : Int32 → Ts → Option (Unit × Ts)) (k7 : Int32 → Ts → Option (Unit × Ts)) (y2 : Int32) (σ : Ts) : Option (Unit × Ts) :=
  bqT (tX4_takeInExpression (zI (uz σ) 260 0 0 0) x1 σ) fun v5 σ6 => bqT (kF x1 σ6) fun v9 σ10 => bqT (tX3_emit (zI (uz σ) 260 0 0 0) 0 σ10) fun v13 σ14 => k7 (y2 + 1) σ14
noncomputable def tX4_product_7 (x1 : Int32) (kF : Int32 → Ts → Option (Unit × Ts))  : Nat → Int32 → Ts → Option (Unit × Ts)
  | 0, _, _ => none
  | n + 1, y2, σ =>
    if 60 ≤ y2 then (some ((), σ)) else (if (zI (uz σ) 260 0 0 0) = 42 then (tX4_product_40 x1 kF (fun by2 σb => tX4_product_7 x1 kF  n by2 σb) y2 σ) else (if (zI (uz σ) 260 0 0 0) = 47 then (tX4_product_40 x1 kF (fun by2 σb => tX4_product_7 x1 kF  n by2 σb) y2 σ) else (if (zI (uz σ) 260 0 0 0) = 37 then (tX4_product_40 x1 kF (fun by2 σb => tX4_product_7 x1 kF  n by2 σb) y2 σ) else (some ((), σ)))))
noncomputable def tX4_product (x1 : Int32) (kF : Int32 → Ts → Option (Unit × Ts)) (σ : Ts) : Option (Unit × Ts) :=
  bqT (kF x1 σ) fun v1 σ2 => tX4_product_7 x1 kF  FU 0 σ2
noncomputable def tX4_sum_31 (x1 : Int32) (kF : Int32 → Ts → Option (Unit × Ts)) (k7 : Int32 → Ts → Option (Unit × Ts)) (y2 : Int32) (σ : Ts) : Option (Unit × Ts) :=
  bqT (tX4_takeInExpression (zI (uz σ) 260 0 0 0) x1 σ) fun v5 σ6 => bqT (tX4_product x1 kF σ6) fun v9 σ10 => bqT (tX3_emit (zI (uz σ) 260 0 0 0) 0 σ10) fun v13 σ14 => k7 (y2 + 1) σ14
noncomputable def tX4_sum_7 (x1 : Int32) (kF : Int32 → Ts → Option (Unit × Ts))  : Nat → Int32 → Ts → Option (Unit × Ts)
  | 0, _, _ => none
  | n + 1, y2, σ =>
    if 60 ≤ y2 then (some ((), σ)) else (if (zI (uz σ) 260 0 0 0) = 43 then (tX4_sum_31 x1 kF (fun by2 σb => tX4_sum_7 x1 kF  n by2 σb) y2 σ) else (if (zI (uz σ) 260 0 0 0) = 45 then (tX4_sum_31 x1 kF (fun by2 σb => tX4_sum_7 x1 kF  n by2 σb) y2 σ) else (some ((), σ))))
noncomputable def tX4_sum (x1 : Int32) (kF : Int32 → Ts → Option (Unit × Ts)) (σ : Ts) : Option (Unit × Ts) :=
  bqT (tX4_product x1 kF σ) fun v1 σ2 => tX4_sum_7 x1 kF  FU 0 σ2
noncomputable def tX4_relation_49 (x1 : Int32) (kF : Int32 → Ts → Option (Unit × Ts))  (y2 : Int32) (σ : Ts) : Option (Unit × Ts) :=
  bqT (tX4_takeInExpression y2 x1 σ) fun v5 σ6 => bqT (tX4_sum x1 kF σ6) fun v9 σ10 => bqT (tX3_emit y2 0 σ10) fun v13 σ14 => some ((), σ14)
noncomputable def tX4_relation (x1 : Int32) (kF : Int32 → Ts → Option (Unit × Ts)) (σ : Ts) : Option (Unit × Ts) :=
  bqT (tX4_sum x1 kF σ) fun v1 σ2 => if (zI (uz σ2) 260 0 0 0) = 61 then (tX4_relation_49 x1 kF  (zI (uz σ2) 260 0 0 0) σ2) else (if (zI (uz σ2) 260 0 0 0) = 60 then (tX4_relation_49 x1 kF  (zI (uz σ2) 260 0 0 0) σ2) else (if (zI (uz σ2) 260 0 0 0) = 62 then (tX4_relation_49 x1 kF  (zI (uz σ2) 260 0 0 0) σ2) else (if (zI (uz σ2) 260 0 0 0) = 15422 then (tX4_relation_49 x1 kF  (zI (uz σ2) 260 0 0 0) σ2) else (if (zI (uz σ2) 260 0 0 0) = 15421 then (tX4_relation_49 x1 kF  (zI (uz σ2) 260 0 0 0) σ2) else (if (zI (uz σ2) 260 0 0 0) = 15933 then (tX4_relation_49 x1 kF  (zI (uz σ2) 260 0 0 0) σ2) else (some ((), σ2)))))))
noncomputable def tX4_both_7 (x1 : Int32) (kF : Int32 → Ts → Option (Unit × Ts))  : Nat → Int32 → Ts → Option (Unit × Ts)
  | 0, _, _ => none
  | n + 1, y2, σ =>
    if 60 ≤ y2 then (some ((), σ)) else (if (zI (uz σ) 260 0 0 0) = 156 then (bqT (tX4_takeInExpression 156 x1 σ) fun v5 σ6 => bqT (tX4_relation x1 kF σ6) fun v9 σ10 => bqT (tX3_emit 156 0 σ10) fun v13 σ14 => tX4_both_7 x1 kF  n (y2 + 1) σ14) else (some ((), σ)))
noncomputable def tX4_both (x1 : Int32) (kF : Int32 → Ts → Option (Unit × Ts)) (σ : Ts) : Option (Unit × Ts) :=
  bqT (tX4_relation x1 kF σ) fun v1 σ2 => tX4_both_7 x1 kF  FU 0 σ2
noncomputable def tX4_expression_7 (x1 : Int32) (kF : Int32 → Ts → Option (Unit × Ts))  : Nat → Int32 → Ts → Option (Unit × Ts)
  | 0, _, _ => none
  | n + 1, y2, σ =>
    if 60 ≤ y2 then (some ((), σ)) else (if (zI (uz σ) 260 0 0 0) = 157 then (bqT (tX4_takeInExpression 157 x1 σ) fun v5 σ6 => bqT (tX4_both x1 kF σ6) fun v9 σ10 => bqT (tX3_emit 157 0 σ10) fun v13 σ14 => tX4_expression_7 x1 kF  n (y2 + 1) σ14) else (some ((), σ)))
noncomputable def tX4_expression (x1 : Int32) (kF : Int32 → Ts → Option (Unit × Ts)) (σ : Ts) : Option (Unit × Ts) :=
  bqT (tX4_both x1 kF σ) fun v1 σ2 => tX4_expression_7 x1 kF  FU 0 σ2
noncomputable def tpfac : Nat → Int32 → Ts → Option (Unit × Ts)
  | 0, _, _ => none
  | n + 1, d, z => tX4_factor d (fun d z => tX4_expression d (tpfac n) z) (tpfac n) z
noncomputable def tX4_expression' (d : Int32) (z : Ts) : Option (Unit × Ts) := tX4_expression d (tpfac 10) z
noncomputable def tX4_wholeExpression  (σ : Ts) : Option (Unit × Ts) :=
  ltT (uI σ 263 0 0 0 0) fun σ1 => bqT (tX3_startExpression  σ1) fun v3 σ4 => bqT (tX4_expression' 0 σ4) fun v7 σ8 => bqT (tX3_endExpression  σ8) fun v11 σ12 => some ((), σ12)
noncomputable def tX4_newColumns_29  (k9 : Int32 → Ts → Option (Unit × Ts)) (y1 : Int32) (σ : Ts) : Option (Unit × Ts) :=
  bqT (tX4_takeComma y1 σ) fun v5 σ6 => bqT (tX4_takeName 1 σ6) fun v9 σ10 => bqT (tX4_take 61 σ10) fun v13 σ14 => bqT (tX4_wholeExpression  σ14) fun v17 σ18 => k9 (y1 + 1) σ18
noncomputable def tX4_newColumns_9   : Nat → Int32 → Ts → Option (Unit × Ts)
  | 0, _, _ => none
  | n + 1, y1, σ =>
    if 1500 ≤ y1 then (some ((), σ)) else (if y1 = 0 then (tX4_newColumns_29  (fun by1 σb => tX4_newColumns_9   n by1 σb) y1 σ) else (if (zI (uz σ) 260 0 0 0) = 44 then (tX4_newColumns_29  (fun by1 σb => tX4_newColumns_9   n by1 σb) y1 σ) else (some ((), σ))))
noncomputable def tX4_newColumns  (σ : Ts) : Option (Unit × Ts) :=
  bqT (tX4_take 134 σ) fun v1 σ2 => tX4_newColumns_9   FU 0 σ2
noncomputable def tX4_window_64  (k44 : Int32 → Ts → Option (Unit × Ts)) (y1 : Int32) (σ : Ts) : Option (Unit × Ts) :=
  bqT (tX4_takeComma y1 σ) fun v21 σ22 => bqT (tX4_takeName 1 σ22) fun v25 σ26 => bqT (tX4_take 61 σ26) fun v29 σ30 => bqT (tX4_takeTotal  σ30) fun v33 σ34 => if v33 = 151 then (k44 (y1 + 1) σ34) else (bqT (tX4_wholeExpression  σ34) fun v37 σ38 => k44 (y1 + 1) σ38)
noncomputable def tX4_window_44   : Nat → Int32 → Ts → Option (Unit × Ts)
  | 0, _, _ => none
  | n + 1, y1, σ =>
    if 1500 ≤ y1 then (bqT (tX4_take 41 σ) fun v17 σ18 => some ((), σ18)) else (if y1 = 0 then (tX4_window_64  (fun by1 σb => tX4_window_44   n by1 σb) y1 σ) else (if (zI (uz σ) 260 0 0 0) = 44 then (tX4_window_64  (fun by1 σb => tX4_window_44   n by1 σb) y1 σ) else (bqT (tX4_take 41 σ) fun v41 σ42 => some ((), σ42))))
noncomputable def tX4_window  (σ : Ts) : Option (Unit × Ts) :=
  bqT (tX4_take 141 σ) fun v1 σ2 => bqT (tX4_takeName 4 σ2) fun v5 σ6 => bqT (tX4_takeRange 143 σ6) fun v9 σ10 => if (zI (uz σ10) 260 0 0 0) = 144 then (bqT (tX4_takeRange 144 σ10) fun v45 σ46 => bqT (tX4_take 40 σ46) fun v49 σ50 => tX4_window_44   FU 0 σ50) else (bqT (tX4_take 40 σ10) fun v13 σ14 => tX4_window_44   FU 0 σ14)
noncomputable def tX4_source  (σ : Ts) : Option (Unit × Ts) :=
  bqT (tX3_startStream (zI (uz σ) 261 0 0 0) σ) fun v1 σ2 => bqT (tX3_startWork 0 (zI (uz σ2) 261 0 0 0) σ2) fun v5 σ6 => bqT (tX4_take 128 σ6) fun v9 σ10 => bqT (tX4_takeName 0 σ10) fun v13 σ14 => bqT (tX4_takeNames 1 σ14) fun v17 σ18 => if (zI (uz σ18) 260 0 0 0) = 129 then (bqT (tX4_takeRange 129 σ18) fun v25 σ26 => bqT (tX3_endStream  σ26) fun v29 σ30 => some ((), σ30)) else (bqT (tX3_endStream  σ18) fun v21 σ22 => some ((), σ22))
noncomputable def tX4_check  (σ : Ts) : Option (Unit × Ts) :=
  bqT (tX3_startCheck (zI (uz σ) 261 0 0 0) σ) fun v1 σ2 => bqT (tX4_take 145 σ2) fun v5 σ6 => bqT (tX4_takeName 2 σ6) fun v9 σ10 => bqT (tX4_take 58 σ10) fun v13 σ14 => bqT (tX4_wholeExpression  σ14) fun v17 σ18 => bqT (tX4_take 146 σ18) fun v21 σ22 => if (zI (uz σ22) 260 0 0 0) = 147 then (bqT (tX4_take (zI (uz σ22) 260 0 0 0) σ22) fun v25 σ26 => bqT (tX3_endCheck (zI (uz σ22) 260 0 0 0) σ26) fun v29 σ30 => some ((), σ30)) else (if (zI (uz σ22) 260 0 0 0) = 148 then (bqT (tX4_take (zI (uz σ22) 260 0 0 0) σ22) fun v33 σ34 => bqT (tX3_endCheck (zI (uz σ22) 260 0 0 0) σ34) fun v37 σ38 => some ((), σ38)) else (if (zI (uz σ22) 260 0 0 0) = 149 then (bqT (tX4_take (zI (uz σ22) 260 0 0 0) σ22) fun v45 σ46 => bqT (tX3_endCheck (zI (uz σ22) 260 0 0 0) σ46) fun v49 σ50 => some ((), σ50)) else (bqT (tX4_fail  σ22) fun v41 σ42 => some ((), σ42))))
noncomputable def tX4_step_45   (y1 : Int32) (σ : Ts) : Option (Unit × Ts) :=
  bqT (tX4_kindOfWork y1 σ) fun v21 σ22 => bqT (tX3_startWork v21 (zI (uz σ22) 261 0 0 0) σ22) fun v25 σ26 => bqT (tX4_take y1 σ26) fun v29 σ30 => bqT (tX4_takeName 2 σ30) fun v33 σ34 => if (y1 : Int32) = 131 then (bqT (tX4_take 132 σ34) fun v37 σ38 => bqT (tX4_wholeExpression  σ38) fun v41 σ42 => bqT (tX3_endStream  σ42) fun v45 σ46 => some ((), σ46)) else if (y1 : Int32) = 132 then (bqT (tX3_endStream  σ34) fun v49 σ50 => some ((), σ50)) else if (y1 : Int32) = 133 then (bqT (tX4_newColumns  σ34) fun v53 σ54 => bqT (tX3_endStream  σ54) fun v57 σ58 => some ((), σ58)) else if (y1 : Int32) = 134 then (bqT (tX3_endStream  σ34) fun v61 σ62 => some ((), σ62)) else if (y1 : Int32) = 135 then (bqT (tX4_takeNames 5 σ34) fun v65 σ66 => bqT (tX3_endStream  σ66) fun v69 σ70 => some ((), σ70)) else if (y1 : Int32) = 136 then (bqT (tX4_secondInput  σ34) fun v73 σ74 => bqT (tX3_endStream  σ74) fun v77 σ78 => some ((), σ78)) else if (y1 : Int32) = 137 then (bqT (tX4_secondInput  σ34) fun v81 σ82 => bqT (tX4_take 138 σ82) fun v85 σ86 => bqT (tX4_takeName 4 σ86) fun v89 σ90 => bqT (tX4_takeRange 139 σ90) fun v93 σ94 => bqT (tX3_endStream  σ94) fun v97 σ98 => some ((), σ98)) else if (y1 : Int32) = 138 then (bqT (tX3_endStream  σ34) fun v101 σ102 => some ((), σ102)) else if (y1 : Int32) = 139 then (bqT (tX3_endStream  σ34) fun v105 σ106 => some ((), σ106)) else if (y1 : Int32) = 140 then (bqT (tX4_take 141 σ34) fun v109 σ110 => bqT (tX4_takeName 4 σ110) fun v113 σ114 => bqT (tX4_takeRange 139 σ114) fun v117 σ118 => bqT (tX3_endStream  σ118) fun v121 σ122 => some ((), σ122)) else if (y1 : Int32) = 141 then (bqT (tX3_endStream  σ34) fun v125 σ126 => some ((), σ126)) else if (y1 : Int32) = 142 then (bqT (tX4_window  σ34) fun v129 σ130 => bqT (tX3_endStream  σ130) fun v133 σ134 => some ((), σ134)) else (bqT (tX3_endStream  σ34) fun v137 σ138 => some ((), σ138))
noncomputable def tX4_step  (σ : Ts) : Option (Unit × Ts) :=
  bqT (tX3_startStream (zI (uz σ) 261 0 0 0) σ) fun v1 σ2 => bqT (tX4_take 130 σ2) fun v5 σ6 => bqT (tX4_takeName 0 σ6) fun v9 σ10 => bqT (tX4_take 61 σ10) fun v13 σ14 => bqT (tX4_kindOfWork (zI (uz σ14) 260 0 0 0) σ14) fun v17 σ18 => if v17 = 0 then (bqT (tX4_fail  σ18) fun v141 σ142 => tX4_step_45   (zI (uz σ14) 260 0 0 0) σ142) else (tX4_step_45   (zI (uz σ14) 260 0 0 0) σ18)
noncomputable def tX4_parse_41  (k16 : Int32 → Ts → Option (Int32 × Ts)) (y1 : Int32) (σ : Ts) : Option (Int32 × Ts) :=
  if ((zI (uz σ) 260 0 0 0) : Int32) = 128 then (bqT (tX4_source  σ) fun v9 σ10 => k16 (y1 + 1) σ10) else if ((zI (uz σ) 260 0 0 0) : Int32) = 130 then (bqT (tX4_step  σ) fun v13 σ14 => k16 (y1 + 1) σ14) else if ((zI (uz σ) 260 0 0 0) : Int32) = 145 then (bqT (tX4_check  σ) fun v17 σ18 => k16 (y1 + 1) σ18) else (bqT (tX4_fail  σ) fun v21 σ22 => k16 (y1 + 1) σ22)
noncomputable def tX4_parse_16   : Nat → Int32 → Ts → Option (Int32 × Ts)
  | 0, _, _ => none
  | n + 1, y1, σ =>
    if 1500 ≤ y1 then (some ((zI (uz σ) 258 0 0 0), σ)) else (if 0 ≤ (zI (uz σ) 258 0 0 0) then (some ((zI (uz σ) 258 0 0 0), σ)) else (if y1 = 0 then (tX4_parse_41  (fun by1 σb => tX4_parse_16   n by1 σb) y1 σ) else (if (zI (uz σ) 260 0 0 0) = 0 then (some ((zI (uz σ) 258 0 0 0), σ)) else (tX4_parse_41  (fun by1 σb => tX4_parse_16   n by1 σb) y1 σ))))
noncomputable def tX4_parse  (σ : Ts) : Option (Int32 × Ts) :=
  ltT (uI σ 258 0 0 0 (-1)) fun σ1 => ltT (uI σ1 259 0 0 0 (-1)) fun σ3 => bqT (tX4_advance  σ3) fun v5 σ6 => tX4_parse_16   FU 0 σ6
noncomputable def tX11_appendBytes_3 (x1 : Int32)  : Nat → Int32 → Ts → Option (Unit × Ts)
  | 0, _, _ => none
  | n + 1, y2, σ =>
    if y2 < 0 then (some ((), σ)) else (if 1500 ≤ (zI (uz σ) 705 0 0 0) then (tX11_appendBytes_3 x1  n (y2 + (-8)) σ) else (if gi (zI (uz σ) 705 0 0 0) 1500 then ltT (uI σ 1728 0 0 (Int32.toNatClampNeg (zI (uz σ) 705 0 0 0)) (vp_nar .byte (((x1 >>> (y2 &&& 31)) : Int32).toInt8.toInt32))) fun σ2 => ltT (uI σ2 705 0 0 0 ((zI (uz σ2) 705 0 0 0) + 1)) fun σ4 => tX11_appendBytes_3 x1  n (y2 + (-8)) σ4 else none))
noncomputable def tX11_appendBytes (x1 : Int32) (σ : Ts) : Option (Unit × Ts) :=
  tX11_appendBytes_3 x1  FU 24 σ
noncomputable def tX11_feed (x1 : Int32) (x2 : Int32) (x3 : Int32) (x4 : Int32) (x5 : Int32) (σ : Ts) : Option ((Except String (Int32)) × Ts) :=
  if (zI (uz σ) 705 0 0 0) ≤ 1480 then (bqT (tX11_appendBytes x1 σ) fun v1 σ2 => bqT (tX11_appendBytes x2 σ2) fun v5 σ6 => bqT (tX11_appendBytes x3 σ6) fun v9 σ10 => bqT (tX11_appendBytes x4 σ10) fun v13 σ14 => bqT (tX11_appendBytes x5 σ14) fun v17 σ18 => some (.ok (zI (uz σ18) 705 0 0 0), σ18)) else (some (.error "java/lang/IllegalStateException", σ))
noncomputable def tX11_trim (x1 : Int32) (σ : Ts) : Option ((Except String (Int32)) × Ts) :=
  if x1 < 0 then (some (.error "java/lang/IllegalArgumentException", σ)) else (if x1 ≤ (zI (uz σ) 705 0 0 0) then (ltT (uI σ 705 0 0 0 x1) fun σ1 => some (.ok x1, σ1)) else (some (.error "java/lang/IllegalArgumentException", σ)))
noncomputable def tX11_takeSpareProgram  (σ : Ts) : Option (Unit × Ts) :=
  ltT (uR σ 708 0 0 0 ((zR (uz σ) 707 0 0 0).1, 0)) fun σ3 => ltT (uR σ3 707 0 0 0 ((zR (uz σ3) 709 0 0 0).1, 0)) fun σ6 => ltT (uR σ6 709 0 0 0 ((zR (uz σ) 708 0 0 0).1, 0)) fun σ8 => ltT (uI σ8 718 0 0 0 0) fun σ10 => bqT (tX1_start ((zR (uz σ10) 707 0 0 0).1) σ10) fun v13 σ14 => some ((), σ14)
noncomputable def tX11_compile  (σ : Ts) : Option (Int32 × Ts) :=
  bqT (tX9_scan (zI (uz σ) 705 0 0 0) σ) fun v1 σ2 => ltT (uI σ2 705 0 0 0 0) fun σ5 => bqT (tX3_begin ((zR (uz σ5) 709 0 0 0).1) σ5) fun v8 σ9 => bqT (tX4_parse  σ9) fun v12 σ13 => if v12 < 0 then (ltT (uI σ13 712 0 0 0 (zI (uz σ13) 193 0 0 0)) fun σ16 => if (zI (uz σ16) 192 0 0 0) = 0 then (bqT (tX11_takeSpareProgram  σ16) fun v18 σ19 => some ((zI (uz σ19) 192 0 0 0), σ19)) else (some ((zI (uz σ16) 192 0 0 0), σ16))) else (ltT (uI σ13 712 0 0 0 v12) fun σ22 => some (1, σ22))
