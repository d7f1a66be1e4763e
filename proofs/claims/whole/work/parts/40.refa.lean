/-! LIFTED: 40.refa -/
noncomputable def fX14_thrown  (ρ : Zs) : Option (Int32 × Zs) :=
  some ((zI ρ 896 0 0 0), ρ)

noncomputable def fX14_fail (x1 : Int32) (ρ : Zs) : Option (Int32 × Zs) :=
  lt (sI ρ 896 0 0 0 x1) fun ρ1 => some (0, ρ1)

noncomputable def fX14_isIn (x0 : Int64) (x2 : Int64) (x4 : Int64) (ρ : Zs) : Option (Int32 × Zs) :=
  if ((lg_cmp x0 x2) : Int32) < 0 then (some (0, ρ)) else (if 0 < ((lg_cmp x0 x4) : Int32) then (some (0, ρ)) else (some (1, ρ)))

noncomputable def fX14_indexOf_3 (c0 : Nat) (p0 : Nat) (s0 : Nat) (n0 : Nat) (x1 : Int32) (x2 : Int32) (x3 : Int64)  : Nat → Int32 → Zs → Option (Int32 × Zs)
  | 0, _, _ => none
  | n + 1, y5, ρ =>
    if x2 ≤ y5 then (some ((-1), ρ)) else (if gi (x1 + y5) n0 then if ((lg_cmp (zJ ρ c0 p0 s0 (Int32.toNatClampNeg (x1 + y5))) x3) : Int32) = 0 then (some (y5, ρ)) else (fX14_indexOf_3 c0 p0 s0 n0 x1 x2 x3  n (y5 + 1) ρ) else none)
noncomputable def fX14_indexOf (c0 : Nat) (p0 : Nat) (s0 : Nat) (n0 : Nat) (x1 : Int32) (x2 : Int32) (x3 : Int64) (ρ : Zs) : Option (Int32 × Zs) :=
  fX14_indexOf_3 c0 p0 s0 n0 x1 x2 x3  FU 0 ρ

noncomputable def fX14_isLetter (x0 : Int32) (ρ : Zs) : Option (Int32 × Zs) :=
  bq (fX14_isIn ((x0 : Int32).toInt64) 97 122 ρ) fun v1 ρ2 => if v1 = 0 ∨ v1 = 1 then some (v1, ρ2) else none

noncomputable def fX14_isDigit (x0 : Int32) (ρ : Zs) : Option (Int32 × Zs) :=
  bq (fX14_isIn ((x0 : Int32).toInt64) 48 57 ρ) fun v1 ρ2 => if v1 = 0 ∨ v1 = 1 then some (v1, ρ2) else none

noncomputable def fX14_byteAt (x1 : Int32) (ρ : Zs) : Option (Int32 × Zs) :=
  if (zI ρ 900 0 0 0) ≤ x1 then (some ((-1), ρ)) else (if gi x1 1500 then some ((zI ρ 1923 0 0 (Int32.toNatClampNeg x1)), ρ) else none)

noncomputable def fX14_four_3 (x1 : Int32)  : Nat → Int32 → Zs → Option (Unit × Zs)
  | 0, _, _ => none
  | n + 1, y2, ρ =>
    if y2 < 0 then (some ((), ρ)) else (if gi (zI ρ 900 0 0 0) 1500 then lt (sI ρ 1923 0 0 (Int32.toNatClampNeg (zI ρ 900 0 0 0)) ((x1 >>> (y2 &&& 31)) &&& 255)) fun ρ2 => lt (sI ρ2 900 0 0 0 ((zI ρ2 900 0 0 0) + 1)) fun ρ4 => fX14_four_3 x1  n (y2 + (-8)) ρ4 else none)
noncomputable def fX14_four (x1 : Int32) (ρ : Zs) : Option (Unit × Zs) :=
  fX14_four_3 x1  FU 24 ρ

noncomputable def fX14_feed (x1 : Int32) (x2 : Int32) (x3 : Int32) (x4 : Int32) (x5 : Int32) (ρ : Zs) : Option (Int32 × Zs) :=
  lt (sI ρ 896 0 0 0 0) fun ρ1 => if (((zI ρ1 900 0 0 0) + 20) : Int32) ≤ 1500 then (bq (fX14_four x1 ρ1) fun v3 ρ4 => bq (fX14_four x2 ρ4) fun v7 ρ8 => bq (fX14_four x3 ρ8) fun v11 ρ12 => bq (fX14_four x4 ρ12) fun v15 ρ16 => bq (fX14_four x5 ρ16) fun v19 ρ20 => some ((zI ρ20 900 0 0 0), ρ20)) else (bq (fX14_fail 1 ρ1) fun v23 ρ24 => some (v23, ρ24))

noncomputable def fX14_trim (x1 : Int32) (ρ : Zs) : Option (Int32 × Zs) :=
  lt (sI ρ 896 0 0 0 0) fun ρ1 => bq (fX14_isIn ((x1 : Int32).toInt64) 0 (((zI ρ1 900 0 0 0) : Int32).toInt64) ρ1) fun v3 ρ4 => if v3 = 0 then (bq (fX14_fail 1 ρ4) fun v9 ρ10 => some (v9, ρ10)) else (lt (sI ρ4 900 0 0 0 x1) fun ρ7 => some (x1, ρ7))

noncomputable def fX14_token (x1 : Int32) (x2 : Int32) (x3 : Int64) (ρ : Zs) : Option (Unit × Zs) :=
  if gi (zI ρ 901 0 0 0) 1501 then lt (sI ρ 1926 0 0 (Int32.toNatClampNeg (zI ρ 901 0 0 0)) x1) fun ρ2 => if gi (zI ρ2 901 0 0 0) 1501 then lt (sI ρ2 1927 0 0 (Int32.toNatClampNeg (zI ρ2 901 0 0 0)) x2) fun ρ5 => if gi (zI ρ5 901 0 0 0) 1501 then lt (sJ ρ5 1928 0 0 (Int32.toNatClampNeg (zI ρ5 901 0 0 0)) x3) fun ρ8 => lt (sI ρ8 901 0 0 0 ((zI ρ8 901 0 0 0) + 1)) fun ρ10 => some ((), ρ10) else none else none else none

noncomputable def fX14_symbol_114 (x1 : Int32)  (y4 : Int32) (z0 : Int32) (ρ : Zs) : Option (Int32 × Zs) :=
  bq (fX14_token z0 x1 0 ρ) fun v9 ρ10 => if y4 = 0 then (some ((x1 + 1), ρ10)) else (some ((x1 + 2), ρ10))
noncomputable def fX14_symbol_89 (x1 : Int32)  (y4 : Int32) (z0 : Int32) (ρ : Zs) : Option (Int32 × Zs) :=
  bq (fX14_token z0 x1 0 ρ) fun v13 ρ14 => if y4 = 0 then (some ((x1 + 1), ρ14)) else (some ((x1 + 2), ρ14))
noncomputable def fX14_symbol_49 (x1 : Int32)  (y2 : Int32) (y3 : Int32) (z0 : Int32) (ρ : Zs) : Option (Int32 × Zs) :=
  if z0 = 0 then (if 0 ≤ ((tx_ix 1 y2) : Int32) then (fX14_symbol_114 x1  z0 (100 + (tx_ix 1 y2)) ρ) else (fX14_symbol_114 x1  z0 203 ρ)) else (if y2 = 62 then (fX14_symbol_89 x1  z0 113 ρ) else (if y3 = 61 then (fX14_symbol_89 x1  z0 112 ρ) else (fX14_symbol_89 x1  z0 114 ρ)))
noncomputable def fX14_symbol_26 (x1 : Int32)  (y2 : Int32) (y3 : Int32) (ρ : Zs) : Option (Int32 × Zs) :=
  if y3 = 61 then (fX14_symbol_49 x1  y2 y3 1 ρ) else (if y2 = 60 then (if y3 = 62 then (fX14_symbol_49 x1  y2 y3 1 ρ) else (fX14_symbol_49 x1  y2 y3 0 ρ)) else (fX14_symbol_49 x1  y2 y3 0 ρ))
noncomputable def fX14_symbol (x1 : Int32) (ρ : Zs) : Option (Int32 × Zs) :=
  bq (fX14_byteAt x1 ρ) fun v1 ρ2 => bq (fX14_byteAt (x1 + 1) ρ2) fun v5 ρ6 => if v1 = 60 then (fX14_symbol_26 x1  v1 v5 ρ6) else (if v1 = 62 then (fX14_symbol_26 x1  v1 v5 ρ6) else (if v1 = 60 then (if v5 = 62 then (fX14_symbol_49 x1  v1 v5 1 ρ6) else (fX14_symbol_49 x1  v1 v5 0 ρ6)) else (fX14_symbol_49 x1  v1 v5 0 ρ6)))

noncomputable def fX14_cutTokens_199  (k7 : Int32 → Zs → Option (Unit × Zs)) : Nat → Int32 → Int32 → Int64 → Zs → Option (Unit × Zs)
  | 0, _, _, _, _ => none
  | n + 1, y1, y3, y4, ρ =>
    bq (fX14_byteAt y1 ρ) fun v27 ρ28 => bq (fX14_isDigit v27 ρ28) fun v31 ρ32 => if v31 = 0 then (if ((y1 - y3) : Int32) ≤ 9 then (bq (fX14_token 201 y3 y4 ρ32) fun v35 ρ36 => k7 y1 ρ36) else (bq (fX14_token 203 y3 y4 ρ32) fun v39 ρ40 => k7 y1 ρ40)) else (if 9 ≤ ((y1 - y3) : Int32) then (fX14_cutTokens_199  k7 n (y1 + 1) y3 0 ρ32) else (bq (fX14_byteAt y1 ρ32) fun v43 ρ44 => fX14_cutTokens_199  k7 n (y1 + 1) y3 (((10 * y4) + ((v43 : Int32).toInt64)) - 48) ρ44))
noncomputable def fX14_cutTokens_95  (k7 : Int32 → Zs → Option (Unit × Zs)) : Nat → Int32 → Int32 → Int64 → Zs → Option (Unit × Zs)
  | 0, _, _, _, _ => none
  | n + 1, y1, y3, y4, ρ =>
    bq (fX14_byteAt y1 ρ) fun v47 ρ48 => bq (fX14_isLetter v47 ρ48) fun v51 ρ52 => if v51 = 0 then (bq (fX14_byteAt y1 ρ52) fun v59 ρ60 => bq (fX14_isDigit v59 ρ60) fun v63 ρ64 => if v63 = 0 then (bq (fX14_indexOf 1921 0 0 32 0 32 y4 ρ64) fun v67 ρ68 => if ((y1 - y3) : Int32) ≤ 8 then (if v67 = (-1) then (bq (fX14_token 200 y3 y4 ρ68) fun v75 ρ76 => k7 y1 ρ76) else (bq (fX14_token v67 y3 y4 ρ68) fun v71 ρ72 => k7 y1 ρ72)) else (bq (fX14_token 203 y3 y4 ρ68) fun v79 ρ80 => k7 y1 ρ80)) else (bq (fX14_byteAt y1 ρ64) fun v83 ρ84 => fX14_cutTokens_95  k7 n (y1 + 1) y3 ((y4 <<< ((8 : Int32).toInt64 &&& 63)) ||| ((v83 : Int32).toInt64)) ρ84)) else (bq (fX14_byteAt y1 ρ52) fun v55 ρ56 => fX14_cutTokens_95  k7 n (y1 + 1) y3 ((y4 <<< ((8 : Int32).toInt64 &&& 63)) ||| ((v55 : Int32).toInt64)) ρ56)
noncomputable def fX14_cutTokens_31  (k7 : Int32 → Zs → Option (Unit × Zs)) : Nat → Int32 → Zs → Option (Unit × Zs)
  | 0, _, _ => none
  | n + 1, y1, ρ =>
    bq (fX14_byteAt y1 ρ) fun v3 ρ4 => if v3 = 32 then (fX14_cutTokens_31  k7 n (y1 + 1) ρ4) else (bq (fX14_byteAt y1 ρ4) fun v7 ρ8 => if v7 = 10 then (fX14_cutTokens_31  k7 n (y1 + 1) ρ8) else (bq (fX14_byteAt y1 ρ8) fun v11 ρ12 => if v11 = (-1) then (bq (fX14_token 202 (zI ρ12 900 0 0 0) 0 ρ12) fun v87 ρ88 => k7 y1 ρ88) else (bq (fX14_isLetter v11 ρ12) fun v15 ρ16 => if v15 = 0 then (bq (fX14_isDigit v11 ρ16) fun v19 ρ20 => if v19 = 0 then (bq (fX14_symbol y1 ρ20) fun v23 ρ24 => k7 v23 ρ24) else (fX14_cutTokens_199  k7 FU y1 y1 0 ρ20)) else (fX14_cutTokens_95  k7 FU y1 y1 0 ρ16))))
noncomputable def fX14_cutTokens_7   : Nat → Int32 → Zs → Option (Unit × Zs)
  | 0, _, _ => none
  | n + 1, y1, ρ =>
    if (zI ρ 901 0 0 0) = 0 then (fX14_cutTokens_31  (fun by1 ρb => fX14_cutTokens_7   n by1 ρb) FU y1 ρ) else (if gi ((zI ρ 901 0 0 0) - 1) 1501 then if 202 ≤ (zI ρ 1926 0 0 (Int32.toNatClampNeg ((zI ρ 901 0 0 0) - 1))) then (some ((), ρ)) else (fX14_cutTokens_31  (fun by1 ρb => fX14_cutTokens_7   n by1 ρb) FU y1 ρ) else none)
noncomputable def fX14_cutTokens  (ρ : Zs) : Option (Unit × Zs) :=
  lt (sI ρ 901 0 0 0 0) fun ρ1 => fX14_cutTokens_7   FU 0 ρ1

noncomputable def fX14_is (x1 : Int32) (ρ : Zs) : Option (Int32 × Zs) :=
  if gi (zI ρ 905 0 0 0) 1501 then if (zI ρ 1926 0 0 (Int32.toNatClampNeg (zI ρ 905 0 0 0))) = x1 then (some (1, ρ)) else (some (0, ρ)) else none

noncomputable def fX14_emit (x1 : Int32) (x2 : Int64) (ρ : Zs) : Option (Unit × Zs) :=
  if (zI ρ 906 0 0 0) = 0 then (some ((), ρ)) else (if (zR ρ 909 0 0 0).2 = 0 then if (zR ρ 909 0 0 0).2 = 0 then if gi (zI ρ 785 ((zR ρ 909 0 0 0).1) 0 0) 3000 then lt (sI ρ 1810 ((zR ρ 909 0 0 0).1) 0 (Int32.toNatClampNeg (zI ρ 785 ((zR ρ 909 0 0 0).1) 0 0)) x1) fun ρ6 => if (zR ρ6 909 0 0 0).2 = 0 then if (zR ρ6 909 0 0 0).2 = 0 then if gi (zI ρ6 785 ((zR ρ6 909 0 0 0).1) 0 0) 3000 then lt (sJ ρ6 1811 ((zR ρ6 909 0 0 0).1) 0 (Int32.toNatClampNeg (zI ρ6 785 ((zR ρ6 909 0 0 0).1) 0 0)) x2) fun ρ13 => if (zR ρ13 909 0 0 0).2 = 0 then lt (sI ρ13 785 ((zR ρ13 909 0 0 0).1) 0 0 ((zI ρ13 785 ((zR ρ13 909 0 0 0).1) 0 0) + 1)) fun ρ17 => some ((), ρ17) else none else none else none else none else none else none else none)

noncomputable def fX14_columnOf (x1 : Int32) (x2 : Int64) (ρ : Zs) : Option (Int32 × Zs) :=
  if (zR ρ 909 0 0 0).2 = 0 then if (zR ρ 909 0 0 0).2 = 0 then if gi x1 12 then bq (fX14_indexOf 1796 ((zR ρ 909 0 0 0).1) 0 72 (6 * x1) (zI ρ 1795 ((zR ρ 909 0 0 0).1) 0 (Int32.toNatClampNeg x1)) x2 ρ) fun v6 ρ7 => some (v6, ρ7) else none else none else none

noncomputable def fX14_streamOf (x1 : Int64) (ρ : Zs) : Option (Int32 × Zs) :=
  if (zR ρ 909 0 0 0).2 = 0 then if (zR ρ 909 0 0 0).2 = 0 then bq (fX14_indexOf 1793 ((zR ρ 909 0 0 0).1) 0 12 0 (zI ρ 768 ((zR ρ 909 0 0 0).1) 0 0) x1 ρ) fun v5 ρ6 => some (v5, ρ6) else none else none

noncomputable def fX14_say (x1 : Int64) (x3 : Int32) (x4 : Int32) (ρ : Zs) : Option (Unit × Zs) :=
  if (zI ρ 906 0 0 0) = 0 then (some ((), ρ)) else (if gi (zI ρ 911 0 0 0) 1500 then lt (sJ ρ 1936 0 0 (Int32.toNatClampNeg (zI ρ 911 0 0 0)) x1) fun ρ2 => if gi (zI ρ2 911 0 0 0) 1500 then lt (sI ρ2 1937 0 0 (Int32.toNatClampNeg (zI ρ2 911 0 0 0)) x3) fun ρ5 => if gi (zI ρ5 911 0 0 0) 1500 then lt (sI ρ5 1938 0 0 (Int32.toNatClampNeg (zI ρ5 911 0 0 0)) x4) fun ρ8 => lt (sI ρ8 911 0 0 0 ((zI ρ8 911 0 0 0) + 1)) fun ρ10 => some ((), ρ10) else none else none else none)

noncomputable def fX14_sayAll_2 (x1 : Int32) (x2 : Int32)  : Nat → Int32 → Zs → Option (Unit × Zs)
  | 0, _, _ => none
  | n + 1, y3, ρ =>
    if (zI ρ 906 0 0 0) = 0 then (some ((), ρ)) else (if (zR ρ 909 0 0 0).2 = 0 then if gi x1 12 then if (zI ρ 1795 ((zR ρ 909 0 0 0).1) 0 (Int32.toNatClampNeg x1)) ≤ y3 then (some ((), ρ)) else (if y3 = x2 then (fX14_sayAll_2 x1 x2  n (y3 + 1) ρ) else (if (zR ρ 909 0 0 0).2 = 0 then if gi ((6 * x1) + y3) 72 then bq (fX14_say (zJ ρ 1796 ((zR ρ 909 0 0 0).1) 0 (Int32.toNatClampNeg ((6 * x1) + y3))) y3 0 ρ) fun v7 ρ8 => fX14_sayAll_2 x1 x2  n (y3 + 1) ρ8 else none else none)) else none else none)
noncomputable def fX14_sayAll (x1 : Int32) (x2 : Int32) (ρ : Zs) : Option (Unit × Zs) :=
  fX14_sayAll_2 x1 x2  FU 0 ρ

noncomputable def fX14_errorAt  (ρ : Zs) : Option (Int32 × Zs) :=
  lt (sI ρ 896 0 0 0 0) fun ρ1 => some ((zI ρ1 915 0 0 0), ρ1)

noncomputable def fX14_find_93   (y1 : Int64) (y3 : Int32) (ρ : Zs) : Option (Int32 × Zs) :=
  lt (sI ρ 900 0 0 0 0) fun ρ7 => if y3 = 0 then (some ((-1), ρ7)) else (bq (fX14_indexOf 1793 ((zR ρ7 898 0 0 0).1) 0 12 0 (zI ρ7 768 ((zR ρ7 898 0 0 0).1) 0 0) y1 ρ7) fun v11 ρ12 => some (v11, ρ12))
noncomputable def fX14_find_72  (k23 : Int64 → Int32 → Int32 → Zs → Option (Int32 × Zs)) (y1 : Int64) (y4 : Int32) (z0 : Int32) (ρ : Zs) : Option (Int32 × Zs) :=
  if gi y4 1500 then k23 ((y1 <<< ((8 : Int32).toInt64 &&& 63)) ||| (((zI ρ 1923 0 0 (Int32.toNatClampNeg y4)) : Int32).toInt64)) z0 (y4 + 1) ρ else none
noncomputable def fX14_find_23   : Nat → Int64 → Int32 → Int32 → Zs → Option (Int32 × Zs)
  | 0, _, _, _, _ => none
  | n + 1, y1, y3, y4, ρ =>
    if (zI ρ 900 0 0 0) ≤ y4 then (fX14_find_93   y1 y3 ρ) else (if y3 = 0 then (fX14_find_93   y1 y3 ρ) else (if gi y4 1500 then bq (fX14_isLetter (zI ρ 1923 0 0 (Int32.toNatClampNeg y4)) ρ) fun v16 ρ17 => if v16 = 0 then (if gi y4 1500 then bq (fX14_isDigit (zI ρ17 1923 0 0 (Int32.toNatClampNeg y4)) ρ17) fun v22 ρ23 => if v22 = 0 then (fX14_find_72  (fun by1 by3 by4 ρb => fX14_find_23   n by1 by3 by4 ρb) y1 y4 0 ρ23) else (if y4 ≤ 0 then (fX14_find_72  (fun by1 by3 by4 ρb => fX14_find_23   n by1 by3 by4 ρb) y1 y4 0 ρ23) else (fX14_find_72  (fun by1 by3 by4 ρb => fX14_find_23   n by1 by3 by4 ρb) y1 y4 1 ρ23)) else none) else (fX14_find_72  (fun by1 by3 by4 ρb => fX14_find_23   n by1 by3 by4 ρb) y1 y4 1 ρ17) else none))
noncomputable def fX14_find  (ρ : Zs) : Option (Int32 × Zs) :=
  lt (sI ρ 896 0 0 0 0) fun ρ1 => bq (fX14_isIn (((zI ρ1 900 0 0 0) : Int32).toInt64) 1 8 ρ1) fun v3 ρ4 => fX14_find_23   FU 0 v3 0 ρ4

noncomputable def fX14_counted (x1 : Int32) (ρ : Zs) : Option (Int32 × Zs) :=
  if x1 = 0 then (some ((zI ρ 768 ((zR ρ 898 0 0 0).1) 0 0), ρ)) else (if x1 = 1 then (some ((zI ρ 781 ((zR ρ 898 0 0 0).1) 0 0), ρ)) else (if x1 = 2 then (some ((zI ρ 900 0 0 0), ρ)) else (if x1 = 3 then (some ((zI ρ 940 0 0 0), ρ)) else (if x1 = 4 then (some ((zI ρ 946 0 0 0), ρ)) else (some ((zI ρ 923 0 0 0), ρ))))))

noncomputable def fX14_count (x1 : Int32) (ρ : Zs) : Option (Int32 × Zs) :=
  lt (sI ρ 896 0 0 0 0) fun ρ1 => bq (fX14_isIn ((x1 : Int32).toInt64) 0 5 ρ1) fun v3 ρ4 => if v3 = 0 then (bq (fX14_fail 1 ρ4) fun v7 ρ8 => some (v7, ρ8)) else (bq (fX14_counted x1 ρ4) fun v11 ρ12 => some (v11, ρ12))

noncomputable def fX14_isStream (x1 : Int32) (ρ : Zs) : Option (Int32 × Zs) :=
  bq (fX14_isIn ((x1 : Int32).toInt64) 0 ((((zI ρ 768 ((zR ρ 898 0 0 0).1) 0 0) - 1) : Int32).toInt64) ρ) fun v2 ρ3 => if v2 = 0 ∨ v2 = 1 then some (v2, ρ3) else none

noncomputable def fX14_stream (x1 : Int32) (x2 : Int32) (ρ : Zs) : Option (Int32 × Zs) :=
  lt (sI ρ 896 0 0 0 0) fun ρ1 => bq (fX14_isStream x1 ρ1) fun v3 ρ4 => if v3 = 0 then (bq (fX14_fail 1 ρ4) fun v7 ρ8 => some (v7, ρ8)) else (bq (fX14_isIn ((x2 : Int32).toInt64) 0 3 ρ4) fun v11 ρ12 => if v11 = 0 then (bq (fX14_fail 1 ρ12) fun v23 ρ24 => some (v23, ρ24)) else (if x2 = 0 then (if gi x1 12 then some ((zI ρ12 1794 ((zR ρ12 898 0 0 0).1) 0 (Int32.toNatClampNeg x1)), ρ12) else none) else (if x2 = 1 then (if gi x1 12 then some ((zI ρ12 1795 ((zR ρ12 898 0 0 0).1) 0 (Int32.toNatClampNeg x1)), ρ12) else none) else (if x2 = 2 then (if gi x1 12 then some ((zI ρ12 1797 ((zR ρ12 898 0 0 0).1) 0 (Int32.toNatClampNeg x1)), ρ12) else none) else (if gi x1 12 then some ((zI ρ12 1798 ((zR ρ12 898 0 0 0).1) 0 (Int32.toNatClampNeg x1)), ρ12) else none)))))

noncomputable def fX14_value (x1 : Int64) (ρ : Zs) : Option (Int32 × Zs) :=
  lt (sI ρ 896 0 0 0 0) fun ρ1 => if (zI ρ1 948 0 0 0) = 6 then (bq (fX14_fail 1 ρ1) fun v8 ρ9 => some (v8, ρ9)) else (if gi (zI ρ1 948 0 0 0) 6 then lt (sJ ρ1 1973 0 0 (Int32.toNatClampNeg (zI ρ1 948 0 0 0)) x1) fun ρ4 => lt (sI ρ4 948 0 0 0 ((zI ρ4 948 0 0 0) + 1)) fun ρ6 => some ((zI ρ6 948 0 0 0), ρ6) else none)

noncomputable def fX14_forget  (ρ : Zs) : Option (Int32 × Zs) :=
  lt (sI ρ 896 0 0 0 0) fun ρ1 => lt (sI ρ1 948 0 0 0 0) fun ρ3 => some ((zI ρ1 948 0 0 0), ρ3)

noncomputable def fX14_isHeld (x1 : Int32) (ρ : Zs) : Option (Int32 × Zs) :=
  bq (fX14_isIn ((x1 : Int32).toInt64) 0 ((((zI ρ 923 0 0 0) - 1) : Int32).toInt64) ρ) fun v1 ρ2 => if v1 = 0 ∨ v1 = 1 then some (v1, ρ2) else none

noncomputable def fX14_heldTold (x1 : Int32) (x2 : Int32) (ρ : Zs) : Option (Int32 × Zs) :=
  if x2 = 0 then (if gi x1 60 then some ((zI ρ 1948 0 0 (Int32.toNatClampNeg x1)), ρ) else none) else (if x2 = 1 then (if gi x1 60 then some ((zI ρ 1949 0 0 (Int32.toNatClampNeg x1)), ρ) else none) else (if gi (7 * x1) 420 then some ((((zJ ρ 1950 0 0 (Int32.toNatClampNeg (7 * x1))) : Int64).toInt32), ρ) else none))

noncomputable def fX14_held (x1 : Int32) (x2 : Int32) (ρ : Zs) : Option (Int32 × Zs) :=
  lt (sI ρ 896 0 0 0 0) fun ρ1 => bq (fX14_isHeld x1 ρ1) fun v3 ρ4 => if v3 = 0 then (bq (fX14_fail 1 ρ4) fun v7 ρ8 => some (v7, ρ8)) else (bq (fX14_isIn ((x2 : Int32).toInt64) 0 2 ρ4) fun v11 ρ12 => if v11 = 0 then (bq (fX14_fail 1 ρ12) fun v15 ρ16 => some (v15, ρ16)) else (bq (fX14_heldTold x1 x2 ρ12) fun v19 ρ20 => some (v19, ρ20)))

noncomputable def fX14_heldColumns (x1 : Int32) (ρ : Zs) : Option (Int32 × Zs) :=
  if gi x1 60 then if (zI ρ 1949 0 0 (Int32.toNatClampNeg x1)) = (-1) then (if gi x1 60 then if gi (zI ρ 1948 0 0 (Int32.toNatClampNeg x1)) 12 then if gi (zI ρ 1797 ((zR ρ 898 0 0 0).1) 0 (Int32.toNatClampNeg (zI ρ 1948 0 0 (Int32.toNatClampNeg x1)))) 12 then some ((zI ρ 1795 ((zR ρ 898 0 0 0).1) 0 (Int32.toNatClampNeg (zI ρ 1797 ((zR ρ 898 0 0 0).1) 0 (Int32.toNatClampNeg (zI ρ 1948 0 0 (Int32.toNatClampNeg x1)))))), ρ) else none else none else none) else (if gi x1 60 then if gi (zI ρ 1948 0 0 (Int32.toNatClampNeg x1)) 12 then some ((zI ρ 1795 ((zR ρ 898 0 0 0).1) 0 (Int32.toNatClampNeg (zI ρ 1948 0 0 (Int32.toNatClampNeg x1)))), ρ) else none else none) else none

noncomputable def fX14_heldValue_31 (x1 : Int32) (x2 : Int32)  (z0 : Int32) (ρ : Zs) : Option (Int64 × Zs) :=
  lt (sI ρ 896 0 0 0 z0) fun ρ5 => if (zI ρ5 896 0 0 0) = 0 then (if gi (((7 * x1) + 1) + x2) 420 then some ((zJ ρ5 1950 0 0 (Int32.toNatClampNeg (((7 * x1) + 1) + x2))), ρ5) else none) else (some (0, ρ5))
noncomputable def fX14_heldValue (x1 : Int32) (x2 : Int32) (ρ : Zs) : Option (Int64 × Zs) :=
  bq (fX14_isHeld x1 ρ) fun v1 ρ2 => if v1 = 0 then (fX14_heldValue_31 x1 x2  1 ρ2) else (bq (fX14_heldColumns x1 ρ2) fun v8 ρ9 => bq (fX14_isIn ((x2 : Int32).toInt64) 0 (((v8 - 1) : Int32).toInt64) ρ9) fun v12 ρ13 => if v12 = 0 then (fX14_heldValue_31 x1 x2  1 ρ13) else (fX14_heldValue_31 x1 x2  0 ρ13))

noncomputable def fX14_broken (x1 : Int32) (ρ : Zs) : Option (Int32 × Zs) :=
  lt (sI ρ 896 0 0 0 0) fun ρ1 => bq (fX14_isIn ((x1 : Int32).toInt64) 0 ((((zI ρ1 781 ((zR ρ1 898 0 0 0).1) 0 0) - 1) : Int32).toInt64) ρ1) fun v4 ρ5 => if v4 = 0 then (bq (fX14_fail 1 ρ5) fun v8 ρ9 => some (v8, ρ9)) else (if gi x1 8 then some ((zI ρ5 1951 0 0 (Int32.toNatClampNeg x1)), ρ5) else none)

noncomputable def fX14_lost  (ρ : Zs) : Option (Int32 × Zs) :=
  lt (sI ρ 896 0 0 0 0) fun ρ1 => some ((zI ρ1 928 0 0 0), ρ1)

noncomputable def fX14_isStopped  (ρ : Zs) : Option (Int32 × Zs) :=
  lt (sI ρ 896 0 0 0 0) fun ρ1 => if (zI ρ1 929 0 0 0) = 0 ∨ (zI ρ1 929 0 0 0) = 1 then some ((zI ρ1 929 0 0 0), ρ1) else none

noncomputable def fX14_write (x1 : Int32) (x2 : Int32) (ρ : Zs) : Option (Unit × Zs) :=
  if gi (zI ρ 940 0 0 0) 200 then lt (sI ρ 1965 0 0 (Int32.toNatClampNeg (zI ρ 940 0 0 0)) x1) fun ρ2 => if gi (zI ρ2 940 0 0 0) 200 then lt (sI ρ2 1966 0 0 (Int32.toNatClampNeg (zI ρ2 940 0 0 0)) x2) fun ρ5 => lt (sI ρ5 940 0 0 0 ((zI ρ5 940 0 0 0) + 1)) fun ρ7 => some ((), ρ7) else none else none

noncomputable def fX14_go  (ρ : Zs) : Option (Int32 × Zs) :=
  lt (sI ρ 896 0 0 0 0) fun ρ1 => if (zI ρ1 929 0 0 0) = 0 then (bq (fX14_fail 1 ρ1) fun v3 ρ4 => some (v3, ρ4)) else (if (zI ρ1 940 0 0 0) = 200 then (bq (fX14_fail 1 ρ1) fun v13 ρ14 => some (v13, ρ14)) else (bq (fX14_write 3 0 ρ1) fun v7 ρ8 => lt (sI ρ8 929 0 0 0 0) fun ρ11 => some ((zI ρ11 923 0 0 0), ρ11)))

noncomputable def fX14_mark  (ρ : Zs) : Option (Int32 × Zs) :=
  lt (sI ρ 896 0 0 0 0) fun ρ1 => if (zI ρ1 768 ((zR ρ1 898 0 0 0).1) 0 0) = 0 then (bq (fX14_fail 1 ρ1) fun v4 ρ5 => some (v4, ρ5)) else (if (zI ρ1 946 0 0 0) = 8 then (bq (fX14_fail 1 ρ1) fun v13 ρ14 => some (v13, ρ14)) else (if gi (zI ρ1 946 0 0 0) 8 then lt (sI ρ1 1971 0 0 (Int32.toNatClampNeg (zI ρ1 946 0 0 0)) (zI ρ1 940 0 0 0)) fun ρ9 => lt (sI ρ9 946 0 0 0 ((zI ρ9 946 0 0 0) + 1)) fun ρ11 => some (((zI ρ11 946 0 0 0) - 1), ρ11) else none))

noncomputable def fX14_rows (x1 : Int32) (ρ : Zs) : Option (Int32 × Zs) :=
  lt (sI ρ 896 0 0 0 0) fun ρ1 => bq (fX14_isStream x1 ρ1) fun v3 ρ4 => if v3 = 0 then (bq (fX14_fail 1 ρ4) fun v7 ρ8 => some (v7, ρ8)) else (if gi x1 12 then some ((zI ρ4 1941 0 0 (Int32.toNatClampNeg x1)), ρ4) else none)

noncomputable def fX14_rowAt (x0 : Int32) (x1 : Int32) (ρ : Zs) : Option (Int32 × Zs) :=
  some ((((200 * x0) + x1) * 7), ρ)

noncomputable def fX14_cell_55 (x1 : Int32) (x2 : Int32) (x3 : Int32)  (z0 : Int32) (ρ : Zs) : Option (Int64 × Zs) :=
  lt (sI ρ 896 0 0 0 z0) fun ρ5 => if (zI ρ5 896 0 0 0) = 0 then (bq (fX14_rowAt x1 x2 ρ5) fun v7 ρ8 => if gi ((v7 + 1) + x3) 16800 then some ((zJ ρ8 1940 0 0 (Int32.toNatClampNeg ((v7 + 1) + x3))), ρ8) else none) else (some (0, ρ5))
noncomputable def fX14_cell (x1 : Int32) (x2 : Int32) (x3 : Int32) (ρ : Zs) : Option (Int64 × Zs) :=
  bq (fX14_isStream x1 ρ) fun v1 ρ2 => if v1 = 0 then (fX14_cell_55 x1 x2 x3  1 ρ2) else (if gi x1 12 then bq (fX14_isIn ((x2 : Int32).toInt64) 0 ((((zI ρ2 1941 0 0 (Int32.toNatClampNeg x1)) - 1) : Int32).toInt64) ρ2) fun v13 ρ14 => if v13 = 0 then (fX14_cell_55 x1 x2 x3  1 ρ14) else (if gi x1 12 then bq (fX14_isIn ((x3 : Int32).toInt64) (-1) ((((zI ρ14 1795 ((zR ρ14 898 0 0 0).1) 0 (Int32.toNatClampNeg x1)) - 1) : Int32).toInt64) ρ14) fun v19 ρ20 => if v19 = 0 then (fX14_cell_55 x1 x2 x3  1 ρ20) else (fX14_cell_55 x1 x2 x3  0 ρ20) else none) else none)

noncomputable def fX14_watermark (x1 : Int32) (ρ : Zs) : Option (Int32 × Zs) :=
  lt (sI ρ 896 0 0 0 0) fun ρ1 => bq (fX14_isStream x1 ρ1) fun v3 ρ4 => if v3 = 0 then (bq (fX14_fail 1 ρ4) fun v7 ρ8 => some (v7, ρ8)) else (if gi x1 12 then some ((zI ρ4 1942 0 0 (Int32.toNatClampNeg x1)), ρ4) else none)

noncomputable def fX14_windows_24 (x1 : Int32) (x2 : Int32)  : Nat → Int32 → Int32 → Zs → Option (Int32 × Zs)
  | 0, _, _, _ => none
  | n + 1, y3, y4, ρ =>
    if gi x1 12 then if (zI ρ 1958 0 0 (Int32.toNatClampNeg x1)) ≤ y4 then (some (y3, ρ)) else (if gi ((60 * x1) + y4) 720 then if (zI ρ 1961 0 0 (Int32.toNatClampNeg ((60 * x1) + y4))) = x2 then (fX14_windows_24 x1 x2  n (y3 + 1) (y4 + 1) ρ) else (fX14_windows_24 x1 x2  n (y3 + 0) (y4 + 1) ρ) else none) else none
noncomputable def fX14_windows (x1 : Int32) (x2 : Int32) (ρ : Zs) : Option (Int32 × Zs) :=
  lt (sI ρ 896 0 0 0 0) fun ρ1 => bq (fX14_isStream x1 ρ1) fun v3 ρ4 => if v3 = 0 then (bq (fX14_fail 1 ρ4) fun v9 ρ10 => some (v9, ρ10)) else (fX14_windows_24 x1 x2  FU 0 0 ρ4)

noncomputable def fX14_taken_9   : Nat → Int32 → Int32 → Zs → Option (UInt64 × Zs)
  | 0, _, _, _ => none
  | n + 1, y1, y2, ρ =>
    if (zI ρ 768 ((zR ρ 898 0 0 0).1) 0 0) ≤ y2 then (if (zI ρ 931 0 0 0) = 0 then (some (FP.dconst1, ρ)) else (if n64 (FP.ddiv (FP.i2d (y1)) (FP.i2d ((zI ρ 931 0 0 0)))) then some ((FP.ddiv (FP.i2d (y1)) (FP.i2d ((zI ρ 931 0 0 0)))), ρ) else none)) else (if gi y2 12 then if (zI ρ 1794 ((zR ρ 898 0 0 0).1) 0 (Int32.toNatClampNeg y2)) = 0 then (if gi y2 12 then fX14_taken_9   n (y1 + (zI ρ 1941 0 0 (Int32.toNatClampNeg y2))) (y2 + 1) ρ else none) else (fX14_taken_9   n (y1 + 0) (y2 + 1) ρ) else none)
noncomputable def fX14_taken  (ρ : Zs) : Option (UInt64 × Zs) :=
  lt (sI ρ 896 0 0 0 0) fun ρ1 => fX14_taken_9   FU 0 0 ρ1

noncomputable def fX14_digest_217  (k176 : Int64 → Int32 → Zs → Option (Int64 × Zs)) : Nat → Int64 → Int32 → Int32 → Zs → Option (Int64 × Zs)
  | 0, _, _, _, _ => none
  | n + 1, y1, y3, y4, ρ =>
    bq (fX14_heldColumns y3 ρ) fun v4 ρ5 => if v4 ≤ y4 then (k176 y1 (y3 + 1) ρ5) else (if gi (((7 * y3) + 1) + y4) 420 then fX14_digest_217  k176 n ((y1 * 31) + (zJ ρ5 1950 0 0 (Int32.toNatClampNeg (((7 * y3) + 1) + y4)))) y3 (y4 + 1) ρ5 else none)
noncomputable def fX14_digest_187  (k176 : Int64 → Int32 → Zs → Option (Int64 × Zs)) : Nat → Int64 → Int32 → Int32 → Zs → Option (Int64 × Zs)
  | 0, _, _, _, _ => none
  | n + 1, y1, y3, y4, ρ =>
    if 3 ≤ y4 then (fX14_digest_217  k176 FU y1 y3 0 ρ) else (bq (fX14_heldTold y3 y4 ρ) fun v9 ρ10 => fX14_digest_187  k176 n ((y1 * 31) + ((v9 : Int32).toInt64)) y3 (y4 + 1) ρ10)
noncomputable def fX14_digest_176   : Nat → Int64 → Int32 → Zs → Option (Int64 × Zs)
  | 0, _, _, _ => none
  | n + 1, y1, y3, ρ =>
    if (zI ρ 923 0 0 0) ≤ y3 then (some (y1, ρ)) else (fX14_digest_187  (fun by1 by3 ρb => fX14_digest_176   n by1 by3 ρb) FU y1 y3 0 ρ)
noncomputable def fX14_digest_121  (k67 : Int64 → Int32 → Zs → Option (Int64 × Zs)) (k107 : Int64 → Int32 → Int32 → Zs → Option (Int64 × Zs)) : Nat → Int64 → Int32 → Int32 → Int32 → Zs → Option (Int64 × Zs)
  | 0, _, _, _, _, _ => none
  | n + 1, y1, y3, y4, y5, ρ =>
    if gi y3 12 then if (zI ρ 1795 ((zR ρ 898 0 0 0).1) 0 (Int32.toNatClampNeg y3)) < y5 then (k107 y1 y3 (y4 + 1) ρ) else (bq (fX14_rowAt y3 y4 ρ) fun v18 ρ19 => if gi (v18 + y5) 16800 then fX14_digest_121  k67 k107 n ((y1 * 31) + (zJ ρ19 1940 0 0 (Int32.toNatClampNeg (v18 + y5)))) y3 y4 (y5 + 1) ρ19 else none) else none
noncomputable def fX14_digest_107  (k67 : Int64 → Int32 → Zs → Option (Int64 × Zs)) : Nat → Int64 → Int32 → Int32 → Zs → Option (Int64 × Zs)
  | 0, _, _, _, _ => none
  | n + 1, y1, y3, y4, ρ =>
    if gi y3 12 then if (zI ρ 1941 0 0 (Int32.toNatClampNeg y3)) ≤ y4 then (k67 y1 (y3 + 1) ρ) else (fX14_digest_121  k67 (fun by1 by3 by4 ρb => fX14_digest_107  k67 n by1 by3 by4 ρb) FU y1 y3 y4 0 ρ) else none
noncomputable def fX14_digest_67   : Nat → Int64 → Int32 → Zs → Option (Int64 × Zs)
  | 0, _, _, _ => none
  | n + 1, y1, y3, ρ =>
    if (zI ρ 768 ((zR ρ 898 0 0 0).1) 0 0) ≤ y3 then (fX14_digest_176   FU y1 0 ρ) else (if gi y3 12 then if gi y3 12 then fX14_digest_107  (fun by1 by3 ρb => fX14_digest_67   n by1 by3 ρb) FU ((((y1 * 31) + (((zI ρ 1942 0 0 (Int32.toNatClampNeg y3)) : Int32).toInt64)) * 31) + (((zI ρ 1941 0 0 (Int32.toNatClampNeg y3)) : Int32).toInt64)) y3 0 ρ else none else none)
noncomputable def fX14_digest_11   : Nat → Int64 → Int32 → Zs → Option (Int64 × Zs)
  | 0, _, _, _ => none
  | n + 1, y1, y3, ρ =>
    if 6 ≤ y3 then (if (zI ρ 929 0 0 0) = 0 then (fX14_digest_67   FU ((((y1 * 31) + 0) * 31) + (((zI ρ 928 0 0 0) : Int32).toInt64)) 0 ρ) else (fX14_digest_67   FU ((((y1 * 31) + 1) * 31) + (((zI ρ 928 0 0 0) : Int32).toInt64)) 0 ρ)) else (bq (fX14_counted y3 ρ) fun v23 ρ24 => fX14_digest_11   n ((y1 * 31) + ((v23 : Int32).toInt64)) (y3 + 1) ρ24)
noncomputable def fX14_digest  (ρ : Zs) : Option (Int64 × Zs) :=
  lt (sI ρ 896 0 0 0 0) fun ρ1 => fX14_digest_11   FU 281 0 ρ1

noncomputable def fX14_changed_184 (x1 : Int32) (k73 : Int32 → Int32 → Int32 → Zs → Option (Int32 × Zs)) (y2 : Int32) (y3 : Int32) (y4 : Int32) (y5 : Int32) (ρ : Zs) : Option (Int32 × Zs) :=
  if y5 = 0 then (k73 y2 (y3 + 1) (y4 + 1) ρ) else (k73 y2 (y3 + 0) (y4 + 1) ρ)
noncomputable def fX14_changed_123 (x1 : Int32) (k73 : Int32 → Int32 → Int32 → Zs → Option (Int32 × Zs)) : Nat → Int32 → Int32 → Int32 → Int32 → Int32 → Zs → Option (Int32 × Zs)
  | 0, _, _, _, _, _, _ => none
  | n + 1, y2, y3, y4, y5, y6, ρ =>
    if gi y2 12 then if (zI ρ 1976 0 0 (Int32.toNatClampNeg y2)) < y6 then (fX14_changed_184 x1 k73 y2 y3 y4 y5 ρ) else (if y5 = 0 then (fX14_changed_184 x1 k73 y2 y3 y4 y5 ρ) else (bq (fX14_rowAt x1 y4 ρ) fun v21 ρ22 => if gi (v21 + y6) 16800 then bq (fX14_rowAt y2 y4 ρ22) fun v26 ρ27 => if gi (v26 + y6) 16800 then if ((lg_cmp (zJ ρ22 1940 0 0 (Int32.toNatClampNeg (v21 + y6))) (zJ ρ27 1978 0 0 (Int32.toNatClampNeg (v26 + y6)))) : Int32) = 0 then (fX14_changed_123 x1 k73 n y2 y3 y4 1 (y6 + 1) ρ27) else (fX14_changed_123 x1 k73 n y2 y3 y4 0 (y6 + 1) ρ27) else none else none)) else none
noncomputable def fX14_changed_73 (x1 : Int32)  : Nat → Int32 → Int32 → Int32 → Zs → Option (Int32 × Zs)
  | 0, _, _, _, _ => none
  | n + 1, y2, y3, y4, ρ =>
    if gi x1 12 then if (zI ρ 1941 0 0 (Int32.toNatClampNeg x1)) ≤ y4 then (some (y3, ρ)) else (if gi y2 12 then if (zI ρ 1977 0 0 (Int32.toNatClampNeg y2)) ≤ y4 then (some (y3, ρ)) else (if gi x1 12 then if gi y2 12 then if (zI ρ 1795 ((zR ρ 898 0 0 0).1) 0 (Int32.toNatClampNeg x1)) = (zI ρ 1976 0 0 (Int32.toNatClampNeg y2)) then (fX14_changed_123 x1 (fun by2 by3 by4 ρb => fX14_changed_73 x1  n by2 by3 by4 ρb) FU y2 y3 y4 1 0 ρ) else (fX14_changed_123 x1 (fun by2 by3 by4 ρb => fX14_changed_73 x1  n by2 by3 by4 ρb) FU y2 y3 y4 0 0 ρ) else none else none) else none) else none
noncomputable def fX14_changed (x1 : Int32) (ρ : Zs) : Option (Int32 × Zs) :=
  lt (sI ρ 896 0 0 0 0) fun ρ1 => bq (fX14_isStream x1 ρ1) fun v3 ρ4 => if v3 = 0 then (bq (fX14_fail 1 ρ4) fun v32 ρ33 => some (v32, ρ33)) else (if gi x1 12 then bq (fX14_indexOf 1975 0 0 12 0 (zI ρ4 950 0 0 0) (zJ ρ4 1793 ((zR ρ4 898 0 0 0).1) 0 (Int32.toNatClampNeg x1)) ρ4) fun v9 ρ10 => if v9 = (-1) then (if gi x1 12 then some ((zI ρ10 1941 0 0 (Int32.toNatClampNeg x1)), ρ10) else none) else (if gi x1 12 then if gi v9 12 then fX14_changed_73 x1  FU v9 (p_abs ((zI ρ10 1941 0 0 (Int32.toNatClampNeg x1)) - (zI ρ10 1977 0 0 (Int32.toNatClampNeg v9)))) 0 ρ10 else none else none) else none)

noncomputable def fX14_keepOld_13   : Nat → Int32 → Zs → Option (Unit × Zs)
  | 0, _, _ => none
  | n + 1, y1, ρ =>
    if (zI ρ 950 0 0 0) ≤ y1 then (if gcp 0 0 16800 16800 16800 then lt (sC ρ 1940 0 0 1978 0 0 (Int32.toNatClampNeg 0) (Int32.toNatClampNeg 0) (Int32.toNatClampNeg 16800)) fun ρ5 => some ((), ρ5) else none) else (if gi y1 12 then if gi y1 12 then lt (sJ ρ 1975 0 0 (Int32.toNatClampNeg y1) (zJ ρ 1793 ((zR ρ 898 0 0 0).1) 0 (Int32.toNatClampNeg y1))) fun ρ10 => if gi y1 12 then if gi y1 12 then lt (sI ρ10 1976 0 0 (Int32.toNatClampNeg y1) (zI ρ10 1795 ((zR ρ10 898 0 0 0).1) 0 (Int32.toNatClampNeg y1))) fun ρ15 => if gi y1 12 then if gi y1 12 then lt (sI ρ15 1977 0 0 (Int32.toNatClampNeg y1) (zI ρ15 1941 0 0 (Int32.toNatClampNeg y1))) fun ρ19 => fX14_keepOld_13   n (y1 + 1) ρ19 else none else none else none else none else none else none)
noncomputable def fX14_keepOld  (ρ : Zs) : Option (Unit × Zs) :=
  lt (sI ρ 950 0 0 0 (zI ρ 768 ((zR ρ 898 0 0 0).1) 0 0)) fun ρ2 => fX14_keepOld_13   FU 0 ρ2

noncomputable def fX14_empty_63   : Nat → Int32 → Zs → Option (Unit × Zs)
  | 0, _, _ => none
  | n + 1, y1, ρ =>
    if 8 ≤ y1 then (lt (sI ρ 928 0 0 0 0) fun ρ3 => lt (sI ρ3 929 0 0 0 0) fun ρ5 => lt (sI ρ5 931 0 0 0 0) fun ρ7 => some ((), ρ7)) else (if gi y1 8 then lt (sI ρ 1951 0 0 (Int32.toNatClampNeg y1) 0) fun ρ10 => fX14_empty_63   n (y1 + 1) ρ10 else none)
noncomputable def fX14_empty_2   : Nat → Int32 → Zs → Option (Unit × Zs)
  | 0, _, _ => none
  | n + 1, y1, ρ =>
    if 12 ≤ y1 then (lt (sI ρ 923 0 0 0 0) fun ρ1 => fX14_empty_63   FU 0 ρ1) else (if gi y1 12 then lt (sI ρ 1941 0 0 (Int32.toNatClampNeg y1) 0) fun ρ13 => if gi y1 12 then lt (sI ρ13 1942 0 0 (Int32.toNatClampNeg y1) (-1)) fun ρ16 => if gi y1 12 then lt (sI ρ16 1943 0 0 (Int32.toNatClampNeg y1) 0) fun ρ19 => if gi y1 12 then lt (sI ρ19 1944 0 0 (Int32.toNatClampNeg y1) 0) fun ρ22 => if gi y1 12 then lt (sI ρ22 1946 0 0 (Int32.toNatClampNeg y1) 0) fun ρ25 => if gi y1 12 then lt (sI ρ25 1958 0 0 (Int32.toNatClampNeg y1) 0) fun ρ28 => fX14_empty_2   n (y1 + 1) ρ28 else none else none else none else none else none else none)
noncomputable def fX14_empty  (ρ : Zs) : Option (Unit × Zs) :=
  fX14_empty_2   FU 0 ρ

set_option maxRecDepth 20000 in
set_option maxHeartbeats 4000000 in
theorem s_X14_thrown {A : Nat → Nat → Nat → Nat} {h : Hp} {σ ρ ρ' : Zs} {v : Int32}   (hz : Rp A h σ ρ) (hr : fX14_thrown  ρ = some (v, ρ')) : ∀ l : Launch, Sp l mX14_thrown 0 0 0 [.ref (A 14 0 0)] h (QI A v σ ρ') X0 := by
  intro l
  refine Sp.of rfl rfl (lv := [(0, .ref (A 14 0 0))]) (Nat.le_of_ble_eq_true rfl) rfl (fun x hf hrm => ?_)
  rw [fX14_thrown.eq_1] at hr
  refine w_aload_n 0 dX14_thrown_0 rfl rfl rfl ?_
  refine g_X14_149 dX14_thrown_1 rfl (hz.o14 rfl) (hz.i896 rfl) ?_
  refine w_iret hf dX14_thrown_4 rfl (Nat.le_of_ble_eq_true rfl) (Nat.le_of_ble_eq_true rfl) ?_
  obtain ⟨rfl, rfl⟩ := ret_inj hr
  exact ⟨rfl, hz⟩

set_option maxRecDepth 20000 in
set_option maxHeartbeats 4000000 in
theorem s_X14_fail {A : Nat → Nat → Nat → Nat} {h : Hp} {σ ρ ρ' : Zs} {v : Int32} {x1 : Int32}  (hz : Rp A h σ ρ) (hr : fX14_fail x1 ρ = some (v, ρ')) : ∀ l : Launch, Sp l mX14_fail 0 0 0 [.ref (A 14 0 0), .int x1] h (QI A v σ ρ') X0 := by
  intro l
  refine Sp.of rfl rfl (lv := [(0, .ref (A 14 0 0)), (1, .int x1)]) (Nat.le_of_ble_eq_true rfl) rfl (fun x hf hrm => ?_)
  rw [fX14_fail.eq_1] at hr
  refine w_aload_n 0 dX14_fail_0 rfl rfl rfl ?_
  refine w_iload_n 1 dX14_fail_1 rfl rfl rfl ?_
  refine p_X14_149 dX14_fail_2 rfl (hz.o14 rfl) ?_
  obtain ⟨ρ1, e2, hr⟩ := lt_e hr
  have hz := (hz.s896 (v := x1) rfl).tr e2
  refine w_iconst 0 dX14_fail_5 rfl rfl ?_
  refine w_iret hf dX14_fail_6 rfl (Nat.le_of_ble_eq_true rfl) (Nat.le_of_ble_eq_true rfl) ?_
  obtain ⟨rfl, rfl⟩ := ret_inj hr
  exact ⟨rfl, hz⟩

set_option maxRecDepth 20000 in
set_option maxHeartbeats 4000000 in
theorem s_X14_isIn {A : Nat → Nat → Nat → Nat} {h : Hp} {σ ρ ρ' : Zs} {v : Int32} {x0 : Int64} {x2 : Int64} {x4 : Int64}  (hz : Rp A h σ ρ) (hr : fX14_isIn x0 x2 x4 ρ = some (v, ρ')) : ∀ l : Launch, Sp l mX14_isIn 0 0 0 [.long x0, .long x2, .long x4] h (QI A v σ ρ') X0 := by
  intro l
  refine Sp.of rfl rfl (lv := [(0, .long x0), (2, .long x2), (4, .long x4)]) (Nat.le_of_ble_eq_true rfl) rfl (fun x hf hrm => ?_)
  rw [fX14_isIn.eq_1] at hr
  refine w_lload_n 0 dX14_isIn_0 rfl rfl rfl ?_
  refine w_lload_n 1 dX14_isIn_1 rfl rfl rfl ?_
  refine w_lcmp dX14_isIn_2 rfl ?_
  refine w_if_lt 17 dX14_isIn_3 rfl rfl (fun q3 => ?_) (fun q3 => ?_)
  · have hr := bt q3 hr
    refine w_iconst 0 dX14_isIn_17 rfl rfl ?_
    refine w_zret hf dX14_isIn_18 rfl rfl (Nat.le_of_ble_eq_true rfl) (Nat.le_of_ble_eq_true rfl) ?_
    obtain ⟨rfl, rfl⟩ := ret_inj hr
    exact ⟨rfl, hz⟩
  · have hr := bf q3 hr
    refine w_lload_n 0 dX14_isIn_6 rfl rfl rfl ?_
    refine w_lload 2 dX14_isIn_7 rfl rfl ?_
    refine w_lcmp dX14_isIn_9 rfl ?_
    refine w_if_gt 17 dX14_isIn_10 rfl rfl (fun q10 => ?_) (fun q10 => ?_)
    · have hr := bt q10 hr
      refine w_iconst 0 dX14_isIn_17 rfl rfl ?_
      refine w_zret hf dX14_isIn_18 rfl rfl (Nat.le_of_ble_eq_true rfl) (Nat.le_of_ble_eq_true rfl) ?_
      obtain ⟨rfl, rfl⟩ := ret_inj hr
      exact ⟨rfl, hz⟩
    · have hr := bf q10 hr
      refine w_iconst 1 dX14_isIn_13 rfl rfl ?_
      refine w_goto 18 dX14_isIn_14 rfl ?_
      refine w_zret hf dX14_isIn_18 rfl rfl (Nat.le_of_ble_eq_true rfl) (Nat.le_of_ble_eq_true rfl) ?_
      obtain ⟨rfl, rfl⟩ := ret_inj hr
      exact ⟨rfl, hz⟩

set_option maxRecDepth 20000 in
set_option maxHeartbeats 4000000 in
theorem w_X14_indexOf_3 {A : Nat → Nat → Nat → Nat} {σ ρ' : Zs} {v : Int32} {x : Cxt} {c0 : Nat} {p0 : Nat} {s0 : Nat} {n0 : Nat} {x1 : Int32} {x2 : Int32} {x3 : Int64}  (hf : m_fin 0 0 (QI A v σ ρ') X0 x) (hrm : m_rm 0 0 0 x) (hg0 : aok (A 16 0 0) c0 p0 s0 21 n0 = true) (hr0 : isr c0 = true) : ∀ (n : Nat) (y5 : Int32) (ρ : Zs) (h : Hp), Rp A h σ ρ → fX14_indexOf_3 c0 p0 s0 n0 x1 x2 x3  n y5 ρ = some (v, ρ') → wp x mX14_indexOf 3 [(0, .ref (A c0 p0 s0)), (1, .int x1), (2, .int x2), (3, .long x3), (5, .int y5)] [] h 0 0
  | 0, _, ρ, h => fun hz hr => by
    rw [fX14_indexOf_3.eq_1] at hr
    exact nono hr
  | n + 1, y5, ρ, h => fun hz hr => by
    rw [fX14_indexOf_3.eq_2] at hr
    refine w_iload 4 dX14_indexOf_3 rfl rfl ?_
    refine w_iload_n 2 dX14_indexOf_5 rfl rfl rfl ?_
    refine w_icmp_ge 29 dX14_indexOf_6 rfl rfl (fun q6 => ?_) (fun q6 => ?_)
    · have hr := bt q6 hr
      refine w_iconst (-1) dX14_indexOf_29 rfl rfl ?_
      refine w_iret hf dX14_indexOf_30 rfl (Nat.le_of_ble_eq_true rfl) (Nat.le_of_ble_eq_true rfl) ?_
      obtain ⟨rfl, rfl⟩ := ret_inj hr
      exact ⟨rfl, hz⟩
    · have hr := bf q6 hr
      refine w_aload_n 0 dX14_indexOf_9 rfl rfl rfl ?_
      refine w_iload_n 1 dX14_indexOf_10 rfl rfl rfl ?_
      refine w_iload 4 dX14_indexOf_11 rfl rfl ?_
      refine w_iadd dX14_indexOf_13 rfl ?_
      obtain ⟨g1, hr⟩ := gd hr
      refine w_lald dX14_indexOf_14 rfl (hz.gk hg0) (gin (hz.gn hg0) g1) (hz.gyr hg0 hr0) ?_
      refine w_lload_n 3 dX14_indexOf_15 rfl rfl rfl ?_
      refine w_lcmp dX14_indexOf_16 rfl ?_
      refine w_if_ne 23 dX14_indexOf_17 rfl rfl (fun q17 => ?_) (fun q17 => ?_)
      · have hr := bf q17 hr
        refine w_iinc 4 (y5 + 1) [(5, .int (y5 + 1)), (0, .ref (A c0 p0 s0)), (1, .int x1), (2, .int x2), (3, .long x3)] dX14_indexOf_23 rfl rfl rfl (by decide) rfl ?_
        refine w_goto 3 dX14_indexOf_26 rfl ?_
        refine w_lv [(0, .ref (A c0 p0 s0)), (1, .int x1), (2, .int x2), (3, .long x3), (5, .int (y5 + 1))] [1, 2, 3, 4, 0] rfl ?_
        exact w_X14_indexOf_3 hf hrm hg0 hr0  n (y5 + 1) _ _ hz  hr
      · have hr := bt q17 hr
        refine w_iload 4 dX14_indexOf_20 rfl rfl ?_
        refine w_iret hf dX14_indexOf_22 rfl (Nat.le_of_ble_eq_true rfl) (Nat.le_of_ble_eq_true rfl) ?_
        obtain ⟨rfl, rfl⟩ := ret_inj hr
        exact ⟨rfl, hz⟩
set_option maxRecDepth 20000 in
set_option maxHeartbeats 4000000 in
theorem s_X14_indexOf {A : Nat → Nat → Nat → Nat} {h : Hp} {σ ρ ρ' : Zs} {v : Int32} {c0 : Nat} {p0 : Nat} {s0 : Nat} {n0 : Nat} {x1 : Int32} {x2 : Int32} {x3 : Int64} (hg0 : aok (A 16 0 0) c0 p0 s0 21 n0 = true) (hr0 : isr c0 = true) (hz : Rp A h σ ρ) (hr : fX14_indexOf c0 p0 s0 n0 x1 x2 x3 ρ = some (v, ρ')) : ∀ l : Launch, Sp l mX14_indexOf 0 0 0 [.ref (A c0 p0 s0), .int x1, .int x2, .long x3] h (QI A v σ ρ') X0 := by
  intro l
  refine Sp.of rfl rfl (lv := [(0, .ref (A c0 p0 s0)), (1, .int x1), (2, .int x2), (3, .long x3)]) (Nat.le_of_ble_eq_true rfl) rfl (fun x hf hrm => ?_)
  rw [fX14_indexOf.eq_1] at hr
  refine w_iconst 0 dX14_indexOf_0 rfl rfl ?_
  refine w_istore [(5, .int 0), (0, .ref (A c0 p0 s0)), (1, .int x1), (2, .int x2), (3, .long x3)] dX14_indexOf_1 rfl (by decide) rfl ?_
  refine w_lv [(0, .ref (A c0 p0 s0)), (1, .int x1), (2, .int x2), (3, .long x3), (5, .int 0)] [1, 2, 3, 4, 0] rfl ?_
  exact w_X14_indexOf_3 hf hrm hg0 hr0  FU 0 _ _ hz  hr

set_option maxRecDepth 20000 in
set_option maxHeartbeats 4000000 in
theorem s_X14_isLetter {A : Nat → Nat → Nat → Nat} {h : Hp} {σ ρ ρ' : Zs} {v : Int32} {x0 : Int32}  (hz : Rp A h σ ρ) (hr : fX14_isLetter x0 ρ = some (v, ρ')) : ∀ l : Launch, Sp l mX14_isLetter 1 0 0 [.int x0] h (QI A v σ ρ') X0 := by
  intro l
  refine Sp.of rfl rfl (lv := [(0, .int x0)]) (Nat.le_of_ble_eq_true rfl) rfl (fun x hf hrm => ?_)
  rw [fX14_isLetter.eq_1] at hr
  refine w_iload_n 0 dX14_isLetter_0 rfl rfl rfl ?_
  refine w_i2l dX14_isLetter_1 rfl ?_
  refine w_ldc2 dX14_isLetter_2 rfl k_X14_167 ?_
  refine w_ldc2 dX14_isLetter_5 rfl k_X14_169 ?_
  obtain ⟨v1, ρ2, e3, hr⟩ := bq_some hr
  refine c_X14_163 (b := 0) (As := [.long ((x0 : Int32).toInt64), .long 97, .long 122]) (rest := []) (fun l => s_X14_isIn  hz e3 l) hrm dX14_isLetter_8 rfl rfl (Nat.le_of_ble_eq_true rfl) (Nat.le_of_ble_eq_true rfl) (Nat.le_of_ble_eq_true rfl) rfl (Nat.le_of_ble_eq_true rfl) (fun vr h2 hq => ?_) (fun E9 h9 hq => hq.elim)
  obtain ⟨rfl, hz⟩ := hq
  show wp _ _ 11 [(0, .int x0)] [.int v1] _ _ _
  obtain ⟨g5, hr⟩ := gd hr
  refine w_zret hf dX14_isLetter_11 rfl (zr g5) (Nat.le_of_ble_eq_true rfl) (Nat.le_of_ble_eq_true rfl) ?_
  obtain ⟨rfl, rfl⟩ := ret_inj hr
  exact ⟨rfl, hz⟩

set_option maxRecDepth 20000 in
set_option maxHeartbeats 4000000 in
theorem s_X14_isDigit {A : Nat → Nat → Nat → Nat} {h : Hp} {σ ρ ρ' : Zs} {v : Int32} {x0 : Int32}  (hz : Rp A h σ ρ) (hr : fX14_isDigit x0 ρ = some (v, ρ')) : ∀ l : Launch, Sp l mX14_isDigit 1 0 0 [.int x0] h (QI A v σ ρ') X0 := by
  intro l
  refine Sp.of rfl rfl (lv := [(0, .int x0)]) (Nat.le_of_ble_eq_true rfl) rfl (fun x hf hrm => ?_)
  rw [fX14_isDigit.eq_1] at hr
  refine w_iload_n 0 dX14_isDigit_0 rfl rfl rfl ?_
  refine w_i2l dX14_isDigit_1 rfl ?_
  refine w_ldc2 dX14_isDigit_2 rfl k_X14_171 ?_
  refine w_ldc2 dX14_isDigit_5 rfl k_X14_173 ?_
  obtain ⟨v1, ρ2, e3, hr⟩ := bq_some hr
  refine c_X14_163 (b := 0) (As := [.long ((x0 : Int32).toInt64), .long 48, .long 57]) (rest := []) (fun l => s_X14_isIn  hz e3 l) hrm dX14_isDigit_8 rfl rfl (Nat.le_of_ble_eq_true rfl) (Nat.le_of_ble_eq_true rfl) (Nat.le_of_ble_eq_true rfl) rfl (Nat.le_of_ble_eq_true rfl) (fun vr h2 hq => ?_) (fun E9 h9 hq => hq.elim)
  obtain ⟨rfl, hz⟩ := hq
  show wp _ _ 11 [(0, .int x0)] [.int v1] _ _ _
  obtain ⟨g5, hr⟩ := gd hr
  refine w_zret hf dX14_isDigit_11 rfl (zr g5) (Nat.le_of_ble_eq_true rfl) (Nat.le_of_ble_eq_true rfl) ?_
  obtain ⟨rfl, rfl⟩ := ret_inj hr
  exact ⟨rfl, hz⟩

set_option maxRecDepth 20000 in
set_option maxHeartbeats 4000000 in
theorem s_X14_byteAt {A : Nat → Nat → Nat → Nat} {h : Hp} {σ ρ ρ' : Zs} {v : Int32} {x1 : Int32}  (hz : Rp A h σ ρ) (hr : fX14_byteAt x1 ρ = some (v, ρ')) : ∀ l : Launch, Sp l mX14_byteAt 0 0 0 [.ref (A 14 0 0), .int x1] h (QI A v σ ρ') X0 := by
  intro l
  refine Sp.of rfl rfl (lv := [(0, .ref (A 14 0 0)), (1, .int x1)]) (Nat.le_of_ble_eq_true rfl) rfl (fun x hf hrm => ?_)
  rw [fX14_byteAt.eq_1] at hr
  refine w_iload_n 1 dX14_byteAt_0 rfl rfl rfl ?_
  refine w_aload_n 0 dX14_byteAt_1 rfl rfl rfl ?_
  refine g_X14_152 dX14_byteAt_2 rfl (hz.o14 rfl) (hz.i900 rfl) ?_
  refine w_icmp_ge 17 dX14_byteAt_5 rfl rfl (fun q5 => ?_) (fun q5 => ?_)
  · have hr := bt q5 hr
    refine w_iconst (-1) dX14_byteAt_17 rfl rfl ?_
    refine w_iret hf dX14_byteAt_18 rfl (Nat.le_of_ble_eq_true rfl) (Nat.le_of_ble_eq_true rfl) ?_
    obtain ⟨rfl, rfl⟩ := ret_inj hr
    exact ⟨rfl, hz⟩
  · have hr := bf q5 hr
    refine w_aload_n 0 dX14_byteAt_8 rfl rfl rfl ?_
    refine g_X14_20 dX14_byteAt_9 rfl (hz.o14 rfl) (hz.r899 rfl) ?_
    refine w_iload_n 1 dX14_byteAt_12 rfl rfl rfl ?_
    obtain ⟨g1, hr⟩ := gd hr
    refine w_iald dX14_byteAt_13 rfl (hz.k899 rfl) (gin (hz.n899 rfl) g1) (hz.x899 rfl) ?_
    refine w_goto 18 dX14_byteAt_14 rfl ?_
    refine w_iret hf dX14_byteAt_18 rfl (Nat.le_of_ble_eq_true rfl) (Nat.le_of_ble_eq_true rfl) ?_
    obtain ⟨rfl, rfl⟩ := ret_inj hr
    exact ⟨rfl, hz⟩

set_option maxRecDepth 20000 in
set_option maxHeartbeats 4000000 in
theorem w_X14_four_3 {A : Nat → Nat → Nat → Nat} {σ ρ' : Zs} {v : Unit} {x : Cxt} {x1 : Int32}  (hf : m_fin 0 0 (QV A v σ ρ') X0 x) (hrm : m_rm 0 0 0 x)  : ∀ (n : Nat) (y2 : Int32) (ρ : Zs) (h : Hp), Rp A h σ ρ → fX14_four_3 x1  n y2 ρ = some (v, ρ') → wp x mX14_four 3 [(0, .ref (A 14 0 0)), (1, .int x1), (2, .int y2)] [] h 0 0
  | 0, _, ρ, h => fun hz hr => by
    rw [fX14_four_3.eq_1] at hr
    exact nono hr
  | n + 1, y2, ρ, h => fun hz hr => by
    rw [fX14_four_3.eq_2] at hr
    refine w_iload_n 2 dX14_four_3 rfl rfl rfl ?_
    refine w_if_lt 39 dX14_four_4 rfl rfl (fun q4 => ?_) (fun q4 => ?_)
    · have hr := bt q4 hr
      refine w_vret hf dX14_four_39 rfl (Nat.le_of_ble_eq_true rfl) (Nat.le_of_ble_eq_true rfl) ?_
      obtain ⟨rfl, rfl⟩ := ret_inj hr
      exact ⟨rfl, hz⟩
    · have hr := bf q4 hr
      refine w_aload_n 0 dX14_four_7 rfl rfl rfl ?_
      refine g_X14_20 dX14_four_8 rfl (hz.o14 rfl) (hz.r899 rfl) ?_
      refine w_aload_n 0 dX14_four_11 rfl rfl rfl ?_
      refine g_X14_152 dX14_four_12 rfl (hz.o14 rfl) (hz.i900 rfl) ?_
      refine w_iload_n 1 dX14_four_15 rfl rfl rfl ?_
      refine w_iload_n 2 dX14_four_16 rfl rfl rfl ?_
      refine w_ishr dX14_four_17 rfl ?_
      refine w_sipush 255 dX14_four_18 rfl rfl ?_
      refine w_iand dX14_four_21 rfl ?_
      obtain ⟨g1, hr⟩ := gd hr
      refine w_iast dX14_four_22 rfl (hz.k899 rfl) (gin (hz.n899 rfl) g1) ?_
      obtain ⟨ρ2, e3, hr⟩ := lt_e hr
      have hz := (hz.s899 (i := (Int32.toNatClampNeg (zI ρ 900 0 0 0))) (v := ((x1 >>> (y2 &&& 31)) &&& 255)) rfl).tr e3
      refine w_aload_n 0 dX14_four_23 rfl rfl rfl ?_
      refine w_dup dX14_four_24 rfl rfl ?_
      refine g_X14_152 dX14_four_25 rfl (hz.o14 rfl) (hz.i900 rfl) ?_
      refine w_iconst 1 dX14_four_28 rfl rfl ?_
      refine w_iadd dX14_four_29 rfl ?_
      refine p_X14_152 dX14_four_30 rfl (hz.o14 rfl) ?_
      obtain ⟨ρ4, e5, hr⟩ := lt_e hr
      have hz := (hz.s900 (v := ((zI ρ2 900 0 0 0) + 1)) rfl).tr e5
      refine w_iinc 2 (y2 + (-8)) [(2, .int (y2 + (-8))), (0, .ref (A 14 0 0)), (1, .int x1)] dX14_four_33 rfl rfl rfl (by decide) rfl ?_
      refine w_goto 3 dX14_four_36 rfl ?_
      refine w_lv [(0, .ref (A 14 0 0)), (1, .int x1), (2, .int (y2 + (-8)))] [1, 2, 0] rfl ?_
      exact w_X14_four_3 hf hrm   n (y2 + (-8)) _ _ hz  hr
set_option maxRecDepth 20000 in
set_option maxHeartbeats 4000000 in
theorem s_X14_four {A : Nat → Nat → Nat → Nat} {h : Hp} {σ ρ ρ' : Zs} {v : Unit} {x1 : Int32}  (hz : Rp A h σ ρ) (hr : fX14_four x1 ρ = some (v, ρ')) : ∀ l : Launch, Sp l mX14_four 0 0 0 [.ref (A 14 0 0), .int x1] h (QV A v σ ρ') X0 := by
  intro l
  refine Sp.of rfl rfl (lv := [(0, .ref (A 14 0 0)), (1, .int x1)]) (Nat.le_of_ble_eq_true rfl) rfl (fun x hf hrm => ?_)
  rw [fX14_four.eq_1] at hr
  refine w_bipush 24 dX14_four_0 rfl rfl ?_
  refine w_istore_n [(2, .int 24), (0, .ref (A 14 0 0)), (1, .int x1)] dX14_four_2 rfl rfl (by decide) rfl ?_
  refine w_lv [(0, .ref (A 14 0 0)), (1, .int x1), (2, .int 24)] [1, 2, 0] rfl ?_
  exact w_X14_four_3 hf hrm   FU 24 _ _ hz  hr

set_option maxRecDepth 20000 in
set_option maxHeartbeats 4000000 in
theorem s_X14_feed {A : Nat → Nat → Nat → Nat} {h : Hp} {σ ρ ρ' : Zs} {v : Int32} {x1 : Int32} {x2 : Int32} {x3 : Int32} {x4 : Int32} {x5 : Int32}  (hz : Rp A h σ ρ) (hr : fX14_feed x1 x2 x3 x4 x5 ρ = some (v, ρ')) : ∀ l : Launch, Sp l mX14_feed 1 0 0 [.ref (A 14 0 0), .int x1, .int x2, .int x3, .int x4, .int x5] h (QI A v σ ρ') X0 := by
  intro l
  refine Sp.of rfl rfl (lv := [(0, .ref (A 14 0 0)), (1, .int x1), (2, .int x2), (3, .int x3), (4, .int x4), (5, .int x5)]) (Nat.le_of_ble_eq_true rfl) rfl (fun x hf hrm => ?_)
  rw [fX14_feed.eq_1] at hr
  refine w_aload_n 0 dX14_feed_0 rfl rfl rfl ?_
  refine w_iconst 0 dX14_feed_1 rfl rfl ?_
  refine p_X14_149 dX14_feed_2 rfl (hz.o14 rfl) ?_
  obtain ⟨ρ1, e2, hr⟩ := lt_e hr
  have hz := (hz.s896 (v := 0) rfl).tr e2
  refine w_aload_n 0 dX14_feed_5 rfl rfl rfl ?_
  refine g_X14_152 dX14_feed_6 rfl (hz.o14 rfl) (hz.i900 rfl) ?_
  refine w_bipush 20 dX14_feed_9 rfl rfl ?_
  refine w_iadd dX14_feed_11 rfl ?_
  refine w_sipush 1500 dX14_feed_12 rfl rfl ?_
  refine w_icmp_le 24 dX14_feed_15 rfl rfl (fun q15 => ?_) (fun q15 => ?_)
  · have hr := bt q15 hr
    refine w_aload_n 0 dX14_feed_24 rfl rfl rfl ?_
    refine w_iload_n 1 dX14_feed_25 rfl rfl rfl ?_
    obtain ⟨v3, ρ4, e5, hr⟩ := bq_some hr
    refine c_X14_159 (As := [.int x1]) (rest := []) (fun l => s_X14_four  hz e5 l) hrm dX14_feed_26 rfl rfl (Nat.le_of_ble_eq_true rfl) (Nat.le_of_ble_eq_true rfl) (Nat.le_of_ble_eq_true rfl) (hz.o14 rfl) rfl (Nat.le_of_ble_eq_true rfl) (fun vr h2 hq => ?_) (fun E9 h9 hq => hq.elim)
    obtain ⟨rfl, hz⟩ := hq
    show wp _ _ 29 [(0, .ref (A 14 0 0)), (1, .int x1), (2, .int x2), (3, .int x3), (4, .int x4), (5, .int x5)] [] _ _ _
    refine w_aload_n 0 dX14_feed_29 rfl rfl rfl ?_
    refine w_iload_n 2 dX14_feed_30 rfl rfl rfl ?_
    obtain ⟨v7, ρ8, e9, hr⟩ := bq_some hr
    refine c_X14_159 (As := [.int x2]) (rest := []) (fun l => s_X14_four  hz e9 l) hrm dX14_feed_31 rfl rfl (Nat.le_of_ble_eq_true rfl) (Nat.le_of_ble_eq_true rfl) (Nat.le_of_ble_eq_true rfl) (hz.o14 rfl) rfl (Nat.le_of_ble_eq_true rfl) (fun vr h2 hq => ?_) (fun E9 h9 hq => hq.elim)
    obtain ⟨rfl, hz⟩ := hq
    show wp _ _ 34 [(0, .ref (A 14 0 0)), (1, .int x1), (2, .int x2), (3, .int x3), (4, .int x4), (5, .int x5)] [] _ _ _
    refine w_aload_n 0 dX14_feed_34 rfl rfl rfl ?_
    refine w_iload_n 3 dX14_feed_35 rfl rfl rfl ?_
    obtain ⟨v11, ρ12, e13, hr⟩ := bq_some hr
    refine c_X14_159 (As := [.int x3]) (rest := []) (fun l => s_X14_four  hz e13 l) hrm dX14_feed_36 rfl rfl (Nat.le_of_ble_eq_true rfl) (Nat.le_of_ble_eq_true rfl) (Nat.le_of_ble_eq_true rfl) (hz.o14 rfl) rfl (Nat.le_of_ble_eq_true rfl) (fun vr h2 hq => ?_) (fun E9 h9 hq => hq.elim)
    obtain ⟨rfl, hz⟩ := hq
    show wp _ _ 39 [(0, .ref (A 14 0 0)), (1, .int x1), (2, .int x2), (3, .int x3), (4, .int x4), (5, .int x5)] [] _ _ _
    refine w_aload_n 0 dX14_feed_39 rfl rfl rfl ?_
    refine w_iload 4 dX14_feed_40 rfl rfl ?_
    obtain ⟨v15, ρ16, e17, hr⟩ := bq_some hr
    refine c_X14_159 (As := [.int x4]) (rest := []) (fun l => s_X14_four  hz e17 l) hrm dX14_feed_42 rfl rfl (Nat.le_of_ble_eq_true rfl) (Nat.le_of_ble_eq_true rfl) (Nat.le_of_ble_eq_true rfl) (hz.o14 rfl) rfl (Nat.le_of_ble_eq_true rfl) (fun vr h2 hq => ?_) (fun E9 h9 hq => hq.elim)
    obtain ⟨rfl, hz⟩ := hq
    show wp _ _ 45 [(0, .ref (A 14 0 0)), (1, .int x1), (2, .int x2), (3, .int x3), (4, .int x4), (5, .int x5)] [] _ _ _
    refine w_aload_n 0 dX14_feed_45 rfl rfl rfl ?_
    refine w_iload 5 dX14_feed_46 rfl rfl ?_
    obtain ⟨v19, ρ20, e21, hr⟩ := bq_some hr
    refine c_X14_159 (As := [.int x5]) (rest := []) (fun l => s_X14_four  hz e21 l) hrm dX14_feed_48 rfl rfl (Nat.le_of_ble_eq_true rfl) (Nat.le_of_ble_eq_true rfl) (Nat.le_of_ble_eq_true rfl) (hz.o14 rfl) rfl (Nat.le_of_ble_eq_true rfl) (fun vr h2 hq => ?_) (fun E9 h9 hq => hq.elim)
    obtain ⟨rfl, hz⟩ := hq
    show wp _ _ 51 [(0, .ref (A 14 0 0)), (1, .int x1), (2, .int x2), (3, .int x3), (4, .int x4), (5, .int x5)] [] _ _ _
    refine w_aload_n 0 dX14_feed_51 rfl rfl rfl ?_
    refine g_X14_152 dX14_feed_52 rfl (hz.o14 rfl) (hz.i900 rfl) ?_
    refine w_iret hf dX14_feed_55 rfl (Nat.le_of_ble_eq_true rfl) (Nat.le_of_ble_eq_true rfl) ?_
    obtain ⟨rfl, rfl⟩ := ret_inj hr
    exact ⟨rfl, hz⟩
  · have hr := bf q15 hr
    refine w_aload_n 0 dX14_feed_18 rfl rfl rfl ?_
    refine w_iconst 1 dX14_feed_19 rfl rfl ?_
    obtain ⟨v23, ρ24, e25, hr⟩ := bq_some hr
    refine c_X14_155 (As := [.int 1]) (rest := []) (fun l => s_X14_fail  hz e25 l) hrm dX14_feed_20 rfl rfl (Nat.le_of_ble_eq_true rfl) (Nat.le_of_ble_eq_true rfl) (Nat.le_of_ble_eq_true rfl) (hz.o14 rfl) rfl (Nat.le_of_ble_eq_true rfl) (fun vr h2 hq => ?_) (fun E9 h9 hq => hq.elim)
    obtain ⟨rfl, hz⟩ := hq
    show wp _ _ 23 [(0, .ref (A 14 0 0)), (1, .int x1), (2, .int x2), (3, .int x3), (4, .int x4), (5, .int x5)] [.int v23] _ _ _
    refine w_iret hf dX14_feed_23 rfl (Nat.le_of_ble_eq_true rfl) (Nat.le_of_ble_eq_true rfl) ?_
    obtain ⟨rfl, rfl⟩ := ret_inj hr
    exact ⟨rfl, hz⟩

set_option maxRecDepth 20000 in
set_option maxHeartbeats 4000000 in
theorem s_X14_trim {A : Nat → Nat → Nat → Nat} {h : Hp} {σ ρ ρ' : Zs} {v : Int32} {x1 : Int32}  (hz : Rp A h σ ρ) (hr : fX14_trim x1 ρ = some (v, ρ')) : ∀ l : Launch, Sp l mX14_trim 1 0 0 [.ref (A 14 0 0), .int x1] h (QI A v σ ρ') X0 := by
  intro l
  refine Sp.of rfl rfl (lv := [(0, .ref (A 14 0 0)), (1, .int x1)]) (Nat.le_of_ble_eq_true rfl) rfl (fun x hf hrm => ?_)
  rw [fX14_trim.eq_1] at hr
  refine w_aload_n 0 dX14_trim_0 rfl rfl rfl ?_
  refine w_iconst 0 dX14_trim_1 rfl rfl ?_
  refine p_X14_149 dX14_trim_2 rfl (hz.o14 rfl) ?_
  obtain ⟨ρ1, e2, hr⟩ := lt_e hr
  have hz := (hz.s896 (v := 0) rfl).tr e2
  refine w_iload_n 1 dX14_trim_5 rfl rfl rfl ?_
  refine w_i2l dX14_trim_6 rfl ?_
  refine w_lconst 0 dX14_trim_7 rfl rfl ?_
  refine w_aload_n 0 dX14_trim_8 rfl rfl rfl ?_
  refine g_X14_152 dX14_trim_9 rfl (hz.o14 rfl) (hz.i900 rfl) ?_
  refine w_i2l dX14_trim_12 rfl ?_
  obtain ⟨v3, ρ4, e5, hr⟩ := bq_some hr
  refine c_X14_163 (b := 0) (As := [.long ((x1 : Int32).toInt64), .long 0, .long (((zI ρ1 900 0 0 0) : Int32).toInt64)]) (rest := []) (fun l => s_X14_isIn  hz e5 l) hrm dX14_trim_13 rfl rfl (Nat.le_of_ble_eq_true rfl) (Nat.le_of_ble_eq_true rfl) (Nat.le_of_ble_eq_true rfl) rfl (Nat.le_of_ble_eq_true rfl) (fun vr h2 hq => ?_) (fun E9 h9 hq => hq.elim)
  obtain ⟨rfl, hz⟩ := hq
  show wp _ _ 16 [(0, .ref (A 14 0 0)), (1, .int x1)] [.int v3] _ _ _
  refine w_if_ne 25 dX14_trim_16 rfl rfl (fun q16 => ?_) (fun q16 => ?_)
  · have hr := bf q16 hr
    refine w_aload_n 0 dX14_trim_25 rfl rfl rfl ?_
    refine w_iload_n 1 dX14_trim_26 rfl rfl rfl ?_
    refine p_X14_152 dX14_trim_27 rfl (hz.o14 rfl) ?_
    obtain ⟨ρ7, e8, hr⟩ := lt_e hr
    have hz := (hz.s900 (v := x1) rfl).tr e8
    refine w_iload_n 1 dX14_trim_30 rfl rfl rfl ?_
    refine w_iret hf dX14_trim_31 rfl (Nat.le_of_ble_eq_true rfl) (Nat.le_of_ble_eq_true rfl) ?_
    obtain ⟨rfl, rfl⟩ := ret_inj hr
    exact ⟨rfl, hz⟩
  · have hr := bt q16 hr
    refine w_aload_n 0 dX14_trim_19 rfl rfl rfl ?_
    refine w_iconst 1 dX14_trim_20 rfl rfl ?_
    obtain ⟨v9, ρ10, e11, hr⟩ := bq_some hr
    refine c_X14_155 (As := [.int 1]) (rest := []) (fun l => s_X14_fail  hz e11 l) hrm dX14_trim_21 rfl rfl (Nat.le_of_ble_eq_true rfl) (Nat.le_of_ble_eq_true rfl) (Nat.le_of_ble_eq_true rfl) (hz.o14 rfl) rfl (Nat.le_of_ble_eq_true rfl) (fun vr h2 hq => ?_) (fun E9 h9 hq => hq.elim)
    obtain ⟨rfl, hz⟩ := hq
    show wp _ _ 24 [(0, .ref (A 14 0 0)), (1, .int x1)] [.int v9] _ _ _
    refine w_iret hf dX14_trim_24 rfl (Nat.le_of_ble_eq_true rfl) (Nat.le_of_ble_eq_true rfl) ?_
    obtain ⟨rfl, rfl⟩ := ret_inj hr
    exact ⟨rfl, hz⟩

set_option maxRecDepth 20000 in
set_option maxHeartbeats 4000000 in
theorem s_X14_token {A : Nat → Nat → Nat → Nat} {h : Hp} {σ ρ ρ' : Zs} {v : Unit} {x1 : Int32} {x2 : Int32} {x3 : Int64}  (hz : Rp A h σ ρ) (hr : fX14_token x1 x2 x3 ρ = some (v, ρ')) : ∀ l : Launch, Sp l mX14_token 0 0 0 [.ref (A 14 0 0), .int x1, .int x2, .long x3] h (QV A v σ ρ') X0 := by
  intro l
  refine Sp.of rfl rfl (lv := [(0, .ref (A 14 0 0)), (1, .int x1), (2, .int x2), (3, .long x3)]) (Nat.le_of_ble_eq_true rfl) rfl (fun x hf hrm => ?_)
  rw [fX14_token.eq_1] at hr
  refine w_aload_n 0 dX14_token_0 rfl rfl rfl ?_
  refine g_X14_24 dX14_token_1 rfl (hz.o14 rfl) (hz.r902 rfl) ?_
  refine w_aload_n 0 dX14_token_4 rfl rfl rfl ?_
  refine g_X14_175 dX14_token_5 rfl (hz.o14 rfl) (hz.i901 rfl) ?_
  refine w_iload_n 1 dX14_token_8 rfl rfl rfl ?_
  obtain ⟨g1, hr⟩ := gd hr
  refine w_iast dX14_token_9 rfl (hz.k902 rfl) (gin (hz.n902 rfl) g1) ?_
  obtain ⟨ρ2, e3, hr⟩ := lt_e hr
  have hz := (hz.s902 (i := (Int32.toNatClampNeg (zI ρ 901 0 0 0))) (v := x1) rfl).tr e3
  refine w_aload_n 0 dX14_token_10 rfl rfl rfl ?_
  refine g_X14_27 dX14_token_11 rfl (hz.o14 rfl) (hz.r903 rfl) ?_
  refine w_aload_n 0 dX14_token_14 rfl rfl rfl ?_
  refine g_X14_175 dX14_token_15 rfl (hz.o14 rfl) (hz.i901 rfl) ?_
  refine w_iload_n 2 dX14_token_18 rfl rfl rfl ?_
  obtain ⟨g4, hr⟩ := gd hr
  refine w_iast dX14_token_19 rfl (hz.k903 rfl) (gin (hz.n903 rfl) g4) ?_
  obtain ⟨ρ5, e6, hr⟩ := lt_e hr
  have hz := (hz.s903 (i := (Int32.toNatClampNeg (zI ρ2 901 0 0 0))) (v := x2) rfl).tr e6
  refine w_aload_n 0 dX14_token_20 rfl rfl rfl ?_
  refine g_X14_30 dX14_token_21 rfl (hz.o14 rfl) (hz.r904 rfl) ?_
  refine w_aload_n 0 dX14_token_24 rfl rfl rfl ?_
  refine g_X14_175 dX14_token_25 rfl (hz.o14 rfl) (hz.i901 rfl) ?_
  refine w_lload_n 3 dX14_token_28 rfl rfl rfl ?_
  obtain ⟨g7, hr⟩ := gd hr
  refine w_last dX14_token_29 rfl (hz.k904 rfl) (gin (hz.n904 rfl) g7) ?_
  obtain ⟨ρ8, e9, hr⟩ := lt_e hr
  have hz := (hz.s904 (i := (Int32.toNatClampNeg (zI ρ5 901 0 0 0))) (v := x3) rfl).tr e9
  refine w_aload_n 0 dX14_token_30 rfl rfl rfl ?_
  refine w_dup dX14_token_31 rfl rfl ?_
  refine g_X14_175 dX14_token_32 rfl (hz.o14 rfl) (hz.i901 rfl) ?_
  refine w_iconst 1 dX14_token_35 rfl rfl ?_
  refine w_iadd dX14_token_36 rfl ?_
  refine p_X14_175 dX14_token_37 rfl (hz.o14 rfl) ?_
  obtain ⟨ρ10, e11, hr⟩ := lt_e hr
  have hz := (hz.s901 (v := ((zI ρ8 901 0 0 0) + 1)) rfl).tr e11
  refine w_vret hf dX14_token_40 rfl (Nat.le_of_ble_eq_true rfl) (Nat.le_of_ble_eq_true rfl) ?_
  obtain ⟨rfl, rfl⟩ := ret_inj hr
  exact ⟨rfl, hz⟩

set_option maxRecDepth 20000 in
set_option maxHeartbeats 4000000 in
theorem w_X14_symbol_114 {A : Nat → Nat → Nat → Nat} {σ ρ' : Zs} {v : Int32} {x : Cxt} {x1 : Int32}  (hf : m_fin 0 0 (QI A v σ ρ') X0 x) (hrm : m_rm 10 0 0 x)  : ∀ (y4 : Int32) (z0 : Int32) (ρ : Zs) (h : Hp), Rp A h σ ρ → fX14_symbol_114 x1  y4 z0 ρ = some (v, ρ') → wp x mX14_symbol 114 [(0, .ref (A 14 0 0)), (1, .int x1), (4, .int y4)] [.int z0, .ref (A 14 0 0)] h 0 0 := by
  intro y4 z0 ρ h hz hr
  rw [fX14_symbol_114.eq_1] at hr
  refine w_iload_n 1 dX14_symbol_114 rfl rfl rfl ?_
  refine w_lconst 0 dX14_symbol_115 rfl rfl ?_
  obtain ⟨v9, ρ10, e11, hr⟩ := bq_some hr
  refine c_X14_181 (As := [.int z0, .int x1, .long 0]) (rest := []) (fun l => s_X14_token  hz e11 l) hrm dX14_symbol_116 rfl rfl (Nat.le_of_ble_eq_true rfl) (Nat.le_of_ble_eq_true rfl) (Nat.le_of_ble_eq_true rfl) (hz.o14 rfl) rfl (Nat.le_of_ble_eq_true rfl) (fun vr h2 hq => ?_) (fun E9 h9 hq => hq.elim)
  obtain ⟨rfl, hz⟩ := hq
  show wp _ _ 119 [(0, .ref (A 14 0 0)), (1, .int x1), (4, .int y4)] [] _ _ _
  refine w_iload 2 dX14_symbol_119 rfl rfl ?_
  refine w_if_eq 130 dX14_symbol_121 rfl rfl (fun q121 => ?_) (fun q121 => ?_)
  · have hr := bt q121 hr
    refine w_iload_n 1 dX14_symbol_130 rfl rfl rfl ?_
    refine w_iconst 1 dX14_symbol_131 rfl rfl ?_
    refine w_iadd dX14_symbol_132 rfl ?_
    refine w_iret hf dX14_symbol_133 rfl (Nat.le_of_ble_eq_true rfl) (Nat.le_of_ble_eq_true rfl) ?_
    obtain ⟨rfl, rfl⟩ := ret_inj hr
    exact ⟨rfl, hz⟩
  · have hr := bf q121 hr
    refine w_iload_n 1 dX14_symbol_124 rfl rfl rfl ?_
    refine w_iconst 2 dX14_symbol_125 rfl rfl ?_
    refine w_iadd dX14_symbol_126 rfl ?_
    refine w_goto 133 dX14_symbol_127 rfl ?_
    refine w_iret hf dX14_symbol_133 rfl (Nat.le_of_ble_eq_true rfl) (Nat.le_of_ble_eq_true rfl) ?_
    obtain ⟨rfl, rfl⟩ := ret_inj hr
    exact ⟨rfl, hz⟩
set_option maxRecDepth 20000 in
set_option maxHeartbeats 4000000 in
theorem w_X14_symbol_89 {A : Nat → Nat → Nat → Nat} {σ ρ' : Zs} {v : Int32} {x : Cxt} {x1 : Int32}  (hf : m_fin 0 0 (QI A v σ ρ') X0 x) (hrm : m_rm 10 0 0 x)  : ∀ (y4 : Int32) (z0 : Int32) (ρ : Zs) (h : Hp), Rp A h σ ρ → fX14_symbol_89 x1  y4 z0 ρ = some (v, ρ') → wp x mX14_symbol 89 [(0, .ref (A 14 0 0)), (1, .int x1), (4, .int y4)] [.int z0, .ref (A 14 0 0)] h 0 0 := by
  intro y4 z0 ρ h hz hr
  rw [fX14_symbol_89.eq_1] at hr
  refine w_iload_n 1 dX14_symbol_89 rfl rfl rfl ?_
  refine w_lconst 0 dX14_symbol_90 rfl rfl ?_
  obtain ⟨v13, ρ14, e15, hr⟩ := bq_some hr
  refine c_X14_181 (As := [.int z0, .int x1, .long 0]) (rest := []) (fun l => s_X14_token  hz e15 l) hrm dX14_symbol_91 rfl rfl (Nat.le_of_ble_eq_true rfl) (Nat.le_of_ble_eq_true rfl) (Nat.le_of_ble_eq_true rfl) (hz.o14 rfl) rfl (Nat.le_of_ble_eq_true rfl) (fun vr h2 hq => ?_) (fun E9 h9 hq => hq.elim)
  obtain ⟨rfl, hz⟩ := hq
  show wp _ _ 94 [(0, .ref (A 14 0 0)), (1, .int x1), (4, .int y4)] [] _ _ _
  refine w_goto 119 dX14_symbol_94 rfl ?_
  refine w_iload 2 dX14_symbol_119 rfl rfl ?_
  refine w_if_eq 130 dX14_symbol_121 rfl rfl (fun q121 => ?_) (fun q121 => ?_)
  · have hr := bt q121 hr
    refine w_iload_n 1 dX14_symbol_130 rfl rfl rfl ?_
    refine w_iconst 1 dX14_symbol_131 rfl rfl ?_
    refine w_iadd dX14_symbol_132 rfl ?_
    refine w_iret hf dX14_symbol_133 rfl (Nat.le_of_ble_eq_true rfl) (Nat.le_of_ble_eq_true rfl) ?_
    obtain ⟨rfl, rfl⟩ := ret_inj hr
    exact ⟨rfl, hz⟩
  · have hr := bf q121 hr
    refine w_iload_n 1 dX14_symbol_124 rfl rfl rfl ?_
    refine w_iconst 2 dX14_symbol_125 rfl rfl ?_
    refine w_iadd dX14_symbol_126 rfl ?_
    refine w_goto 133 dX14_symbol_127 rfl ?_
    refine w_iret hf dX14_symbol_133 rfl (Nat.le_of_ble_eq_true rfl) (Nat.le_of_ble_eq_true rfl) ?_
    obtain ⟨rfl, rfl⟩ := ret_inj hr
    exact ⟨rfl, hz⟩
set_option maxRecDepth 20000 in
set_option maxHeartbeats 4000000 in
theorem w_X14_symbol_49 {A : Nat → Nat → Nat → Nat} {σ ρ' : Zs} {v : Int32} {x : Cxt} {x1 : Int32}  (hf : m_fin 0 0 (QI A v σ ρ') X0 x) (hrm : m_rm 10 0 0 x)  : ∀ (y2 : Int32) (y3 : Int32) (z0 : Int32) (ρ : Zs) (h : Hp), Rp A h σ ρ → fX14_symbol_49 x1  y2 y3 z0 ρ = some (v, ρ') → wp x mX14_symbol 49 [(0, .ref (A 14 0 0)), (1, .int x1), (2, .int y2), (3, .int y3)] [.int z0] h 0 0 := by
  intro y2 y3 z0 ρ h hz hr
  rw [fX14_symbol_49.eq_1] at hr
  refine w_istore [(4, .int z0), (0, .ref (A 14 0 0)), (1, .int x1), (2, .int y2), (3, .int y3)] dX14_symbol_49 rfl (by decide) rfl ?_
  refine w_ldcS (i := 1) dX14_symbol_51 rfl (fun ok => ok.2.2.2) ?_
  refine w_iload_n 3 dX14_symbol_53 rfl rfl rfl ?_
  refine w_tx_ix (i := 1) hrm (by decide) dX14_symbol_54 rfl ml_X14_202 (by decide)  (Nat.le_of_ble_eq_true rfl) (Nat.le_of_ble_eq_true rfl) (Nat.le_of_ble_eq_true rfl) ?_
  refine w_istore [(5, .int (tx_ix 1 y2)), (4, .int z0), (0, .ref (A 14 0 0)), (1, .int x1), (2, .int y2), (3, .int y3)] dX14_symbol_57 rfl (by decide) rfl ?_
  refine w_iload 1 dX14_symbol_59 rfl rfl ?_
  refine w_if_eq 97 dX14_symbol_61 rfl rfl (fun q61 => ?_) (fun q61 => ?_)
  · have hr := bt q61 hr
    refine w_aload_n 2 dX14_symbol_97 rfl rfl rfl ?_
    refine w_iload 0 dX14_symbol_98 rfl rfl ?_
    refine w_if_ge 109 dX14_symbol_100 rfl rfl (fun q100 => ?_) (fun q100 => ?_)
    · have hr := bt q100 hr
      refine w_bipush 100 dX14_symbol_109 rfl rfl ?_
      refine w_iload 0 dX14_symbol_111 rfl rfl ?_
      refine w_iadd dX14_symbol_113 rfl ?_
      refine w_lv [(0, .ref (A 14 0 0)), (1, .int x1), (4, .int z0)] [2, 3, 1] rfl ?_
      exact w_X14_symbol_114 hf hrm   z0 (100 + (tx_ix 1 y2)) _ _ hz  hr
    · have hr := bf q100 hr
      refine w_sipush 203 dX14_symbol_103 rfl rfl ?_
      refine w_goto 114 dX14_symbol_106 rfl ?_
      refine w_lv [(0, .ref (A 14 0 0)), (1, .int x1), (4, .int z0)] [2, 3, 1] rfl ?_
      exact w_X14_symbol_114 hf hrm   z0 203 _ _ hz  hr
  · have hr := bf q61 hr
    refine w_aload_n 2 dX14_symbol_64 rfl rfl rfl ?_
    refine w_iload_n 4 dX14_symbol_65 rfl rfl rfl ?_
    refine w_bipush 62 dX14_symbol_66 rfl rfl ?_
    refine w_icmp_ne 76 dX14_symbol_68 rfl rfl (fun q68 => ?_) (fun q68 => ?_)
    · have hr := bf q68 hr
      refine w_iload_n 5 dX14_symbol_76 rfl rfl rfl ?_
      refine w_bipush 61 dX14_symbol_77 rfl rfl ?_
      refine w_icmp_ne 87 dX14_symbol_79 rfl rfl (fun q79 => ?_) (fun q79 => ?_)
      · have hr := bf q79 hr
        refine w_bipush 114 dX14_symbol_87 rfl rfl ?_
        refine w_lv [(0, .ref (A 14 0 0)), (1, .int x1), (4, .int z0)] [2, 3, 1] rfl ?_
        exact w_X14_symbol_89 hf hrm   z0 114 _ _ hz  hr
      · have hr := bt q79 hr
        refine w_bipush 112 dX14_symbol_82 rfl rfl ?_
        refine w_goto 89 dX14_symbol_84 rfl ?_
        refine w_lv [(0, .ref (A 14 0 0)), (1, .int x1), (4, .int z0)] [2, 3, 1] rfl ?_
        exact w_X14_symbol_89 hf hrm   z0 112 _ _ hz  hr
    · have hr := bt q68 hr
      refine w_bipush 113 dX14_symbol_71 rfl rfl ?_
      refine w_goto 89 dX14_symbol_73 rfl ?_
      refine w_lv [(0, .ref (A 14 0 0)), (1, .int x1), (4, .int z0)] [2, 3, 1] rfl ?_
      exact w_X14_symbol_89 hf hrm   z0 113 _ _ hz  hr
set_option maxRecDepth 20000 in
set_option maxHeartbeats 4000000 in
theorem w_X14_symbol_26 {A : Nat → Nat → Nat → Nat} {σ ρ' : Zs} {v : Int32} {x : Cxt} {x1 : Int32}  (hf : m_fin 0 0 (QI A v σ ρ') X0 x) (hrm : m_rm 10 0 0 x)  : ∀ (y2 : Int32) (y3 : Int32) (ρ : Zs) (h : Hp), Rp A h σ ρ → fX14_symbol_26 x1  y2 y3 ρ = some (v, ρ') → wp x mX14_symbol 26 [(0, .ref (A 14 0 0)), (1, .int x1), (2, .int y2), (3, .int y3)] [] h 0 0 := by
  intro y2 y3 ρ h hz hr
  rw [fX14_symbol_26.eq_1] at hr
  refine w_iload_n 3 dX14_symbol_26 rfl rfl rfl ?_
  refine w_bipush 61 dX14_symbol_27 rfl rfl ?_
  refine w_icmp_eq 44 dX14_symbol_29 rfl rfl (fun q29 => ?_) (fun q29 => ?_)
  · have hr := bt q29 hr
    refine w_iconst 1 dX14_symbol_44 rfl rfl ?_
    refine w_goto 49 dX14_symbol_45 rfl ?_
    refine w_lv [(0, .ref (A 14 0 0)), (1, .int x1), (2, .int y2), (3, .int y3)] [0, 1, 2, 3] rfl ?_
    exact w_X14_symbol_49 hf hrm   y2 y3 1 _ _ hz  hr
  · have hr := bf q29 hr
    refine w_iload_n 2 dX14_symbol_32 rfl rfl rfl ?_
    refine w_bipush 60 dX14_symbol_33 rfl rfl ?_
    refine w_icmp_ne 48 dX14_symbol_35 rfl rfl (fun q35 => ?_) (fun q35 => ?_)
    · have hr := bf q35 hr
      refine w_iconst 0 dX14_symbol_48 rfl rfl ?_
      refine w_lv [(0, .ref (A 14 0 0)), (1, .int x1), (2, .int y2), (3, .int y3)] [0, 1, 2, 3] rfl ?_
      exact w_X14_symbol_49 hf hrm   y2 y3 0 _ _ hz  hr
    · have hr := bt q35 hr
      refine w_iload_n 3 dX14_symbol_38 rfl rfl rfl ?_
      refine w_bipush 62 dX14_symbol_39 rfl rfl ?_
      refine w_icmp_ne 48 dX14_symbol_41 rfl rfl (fun q41 => ?_) (fun q41 => ?_)
      · have hr := bf q41 hr
        refine w_iconst 0 dX14_symbol_48 rfl rfl ?_
        refine w_lv [(0, .ref (A 14 0 0)), (1, .int x1), (2, .int y2), (3, .int y3)] [0, 1, 2, 3] rfl ?_
        exact w_X14_symbol_49 hf hrm   y2 y3 0 _ _ hz  hr
      · have hr := bt q41 hr
        refine w_iconst 1 dX14_symbol_44 rfl rfl ?_
        refine w_goto 49 dX14_symbol_45 rfl ?_
        refine w_lv [(0, .ref (A 14 0 0)), (1, .int x1), (2, .int y2), (3, .int y3)] [0, 1, 2, 3] rfl ?_
        exact w_X14_symbol_49 hf hrm   y2 y3 1 _ _ hz  hr
set_option maxRecDepth 20000 in
set_option maxHeartbeats 4000000 in
theorem s_X14_symbol {A : Nat → Nat → Nat → Nat} {h : Hp} {σ ρ ρ' : Zs} {v : Int32} {x1 : Int32}  (hz : Rp A h σ ρ) (hr : fX14_symbol x1 ρ = some (v, ρ')) : ∀ l : Launch, Sp l mX14_symbol 10 0 0 [.ref (A 14 0 0), .int x1] h (QI A v σ ρ') X0 := by
  intro l
  refine Sp.of rfl rfl (lv := [(0, .ref (A 14 0 0)), (1, .int x1)]) (Nat.le_of_ble_eq_true rfl) rfl (fun x hf hrm => ?_)
  rw [fX14_symbol.eq_1] at hr
  refine w_aload_n 0 dX14_symbol_0 rfl rfl rfl ?_
  refine w_iload_n 1 dX14_symbol_1 rfl rfl rfl ?_
  obtain ⟨v1, ρ2, e3, hr⟩ := bq_some hr
  refine c_X14_178 (As := [.int x1]) (rest := []) (fun l => s_X14_byteAt  hz e3 l) hrm dX14_symbol_2 rfl rfl (Nat.le_of_ble_eq_true rfl) (Nat.le_of_ble_eq_true rfl) (Nat.le_of_ble_eq_true rfl) (hz.o14 rfl) rfl (Nat.le_of_ble_eq_true rfl) (fun vr h2 hq => ?_) (fun E9 h9 hq => hq.elim)
  obtain ⟨rfl, hz⟩ := hq
  show wp _ _ 5 [(0, .ref (A 14 0 0)), (1, .int x1)] [.int v1] _ _ _
  refine w_istore_n [(2, .int v1), (0, .ref (A 14 0 0)), (1, .int x1)] dX14_symbol_5 rfl rfl (by decide) rfl ?_
  refine w_aload_n 1 dX14_symbol_6 rfl rfl rfl ?_
  refine w_iload_n 2 dX14_symbol_7 rfl rfl rfl ?_
  refine w_iconst 1 dX14_symbol_8 rfl rfl ?_
  refine w_iadd dX14_symbol_9 rfl ?_
  obtain ⟨v5, ρ6, e7, hr⟩ := bq_some hr
  refine c_X14_178 (As := [.int (x1 + 1)]) (rest := []) (fun l => s_X14_byteAt  hz e7 l) hrm dX14_symbol_10 rfl rfl (Nat.le_of_ble_eq_true rfl) (Nat.le_of_ble_eq_true rfl) (Nat.le_of_ble_eq_true rfl) (hz.o14 rfl) rfl (Nat.le_of_ble_eq_true rfl) (fun vr h2 hq => ?_) (fun E9 h9 hq => hq.elim)
  obtain ⟨rfl, hz⟩ := hq
  show wp _ _ 13 [(2, .int v1), (0, .ref (A 14 0 0)), (1, .int x1)] [.int v5] _ _ _
  refine w_istore_n [(3, .int v5), (2, .int v1), (0, .ref (A 14 0 0)), (1, .int x1)] dX14_symbol_13 rfl rfl (by decide) rfl ?_
  refine w_iload_n 1 dX14_symbol_14 rfl rfl rfl ?_
  refine w_bipush 60 dX14_symbol_15 rfl rfl ?_
  refine w_icmp_eq 26 dX14_symbol_17 rfl rfl (fun q17 => ?_) (fun q17 => ?_)
  · have hr := bt q17 hr
    refine w_lv [(0, .ref (A 14 0 0)), (1, .int x1), (2, .int v1), (3, .int v5)] [2, 3, 1, 0] rfl ?_
    exact w_X14_symbol_26 hf hrm   v1 v5 _ _ hz  hr
  · have hr := bf q17 hr
    refine w_iload_n 1 dX14_symbol_20 rfl rfl rfl ?_
    refine w_bipush 62 dX14_symbol_21 rfl rfl ?_
    refine w_icmp_ne 32 dX14_symbol_23 rfl rfl (fun q23 => ?_) (fun q23 => ?_)
    · have hr := bf q23 hr
      refine w_iload_n 1 dX14_symbol_32 rfl rfl rfl ?_
      refine w_bipush 60 dX14_symbol_33 rfl rfl ?_
      refine w_icmp_ne 48 dX14_symbol_35 rfl rfl (fun q35 => ?_) (fun q35 => ?_)
      · have hr := bf q35 hr
        refine w_iconst 0 dX14_symbol_48 rfl rfl ?_
        refine w_lv [(0, .ref (A 14 0 0)), (1, .int x1), (2, .int v1), (3, .int v5)] [2, 3, 1, 0] rfl ?_
        exact w_X14_symbol_49 hf hrm   v1 v5 0 _ _ hz  hr
      · have hr := bt q35 hr
        refine w_iload_n 0 dX14_symbol_38 rfl rfl rfl ?_
        refine w_bipush 62 dX14_symbol_39 rfl rfl ?_
        refine w_icmp_ne 48 dX14_symbol_41 rfl rfl (fun q41 => ?_) (fun q41 => ?_)
        · have hr := bf q41 hr
          refine w_iconst 0 dX14_symbol_48 rfl rfl ?_
          refine w_lv [(0, .ref (A 14 0 0)), (1, .int x1), (2, .int v1), (3, .int v5)] [2, 3, 1, 0] rfl ?_
          exact w_X14_symbol_49 hf hrm   v1 v5 0 _ _ hz  hr
        · have hr := bt q41 hr
          refine w_iconst 1 dX14_symbol_44 rfl rfl ?_
          refine w_goto 49 dX14_symbol_45 rfl ?_
          refine w_lv [(0, .ref (A 14 0 0)), (1, .int x1), (2, .int v1), (3, .int v5)] [2, 3, 1, 0] rfl ?_
          exact w_X14_symbol_49 hf hrm   v1 v5 1 _ _ hz  hr
    · have hr := bt q23 hr
      refine w_lv [(0, .ref (A 14 0 0)), (1, .int x1), (2, .int v1), (3, .int v5)] [2, 3, 1, 0] rfl ?_
      exact w_X14_symbol_26 hf hrm   v1 v5 _ _ hz  hr

set_option maxRecDepth 20000 in
set_option maxHeartbeats 4000000 in
theorem w_X14_cutTokens_199 {A : Nat → Nat → Nat → Nat} {σ ρ' : Zs} {v : Unit} {x : Cxt}  {k7 : Int32 → Zs → Option (Unit × Zs)}  (hf : m_fin 0 0 (QV A v σ ρ') X0 x) (hrm : m_rm 11 0 0 x)  (hk7 : ∀ (y1 : Int32) (ρ : Zs) (h : Hp), Rp A h σ ρ → k7 y1 ρ = some (v, ρ') → wp x mX14_cutTokens 7 [(0, .ref (A 14 0 0)), (1, .int y1)] [] h 0 0) : ∀ (n : Nat) (y1 : Int32) (y3 : Int32) (y4 : Int64) (ρ : Zs) (h : Hp), Rp A h σ ρ → fX14_cutTokens_199  k7 n y1 y3 y4 ρ = some (v, ρ') → wp x mX14_cutTokens 199 [(0, .ref (A 14 0 0)), (1, .int y1), (3, .int y3), (4, .long y4)] [] h 0 0
  | 0, _, _, _, ρ, h => fun hz hr => by
    rw [fX14_cutTokens_199.eq_1] at hr
    exact nono hr
  | n + 1, y1, y3, y4, ρ, h => fun hz hr => by
    rw [fX14_cutTokens_199.eq_2] at hr
    refine w_aload_n 0 dX14_cutTokens_199 rfl rfl rfl ?_
    refine w_iload_n 1 dX14_cutTokens_200 rfl rfl rfl ?_
    obtain ⟨v27, ρ28, e29, hr⟩ := bq_some hr
    refine c_X14_178 (As := [.int y1]) (rest := []) (fun l => s_X14_byteAt  hz e29 l) hrm dX14_cutTokens_201 rfl rfl (Nat.le_of_ble_eq_true rfl) (Nat.le_of_ble_eq_true rfl) (Nat.le_of_ble_eq_true rfl) (hz.o14 rfl) rfl (Nat.le_of_ble_eq_true rfl) (fun vr h2 hq => ?_) (fun E9 h9 hq => hq.elim)
    obtain ⟨rfl, hz⟩ := hq
    show wp _ _ 204 [(0, .ref (A 14 0 0)), (1, .int y1), (3, .int y3), (4, .long y4)] [.int v27] _ _ _
    obtain ⟨v31, ρ32, e33, hr⟩ := bq_some hr
    refine c_X14_189 (b := 0) (As := [.int v27]) (rest := []) (fun l => s_X14_isDigit  hz e33 l) hrm dX14_cutTokens_204 rfl rfl (Nat.le_of_ble_eq_true rfl) (Nat.le_of_ble_eq_true rfl) (Nat.le_of_ble_eq_true rfl) rfl (Nat.le_of_ble_eq_true rfl) (fun vr h2 hq => ?_) (fun E9 h9 hq => hq.elim)
    obtain ⟨rfl, hz⟩ := hq
    show wp _ _ 207 [(0, .ref (A 14 0 0)), (1, .int y1), (3, .int y3), (4, .long y4)] [.int v31] _ _ _
    refine w_if_eq 247 dX14_cutTokens_207 rfl rfl (fun q207 => ?_) (fun q207 => ?_)
    · have hr := bt q207 hr
      refine w_aload_n 0 dX14_cutTokens_247 rfl rfl rfl ?_
      refine w_iload_n 1 dX14_cutTokens_248 rfl rfl rfl ?_
      refine w_iload_n 2 dX14_cutTokens_249 rfl rfl rfl ?_
      refine w_isub dX14_cutTokens_250 rfl ?_
      refine w_bipush 9 dX14_cutTokens_251 rfl rfl ?_
      refine w_icmp_le 262 dX14_cutTokens_253 rfl rfl (fun q253 => ?_) (fun q253 => ?_)
      · have hr := bt q253 hr
        refine w_sipush 201 dX14_cutTokens_262 rfl rfl ?_
        refine w_iload_n 2 dX14_cutTokens_265 rfl rfl rfl ?_
        refine w_lload 3 dX14_cutTokens_266 rfl rfl ?_
        obtain ⟨v35, ρ36, e37, hr⟩ := bq_some hr
        refine c_X14_181 (As := [.int 201, .int y3, .long y4]) (rest := []) (fun l => s_X14_token  hz e37 l) hrm dX14_cutTokens_268 rfl rfl (Nat.le_of_ble_eq_true rfl) (Nat.le_of_ble_eq_true rfl) (Nat.le_of_ble_eq_true rfl) (hz.o14 rfl) rfl (Nat.le_of_ble_eq_true rfl) (fun vr h2 hq => ?_) (fun E9 h9 hq => hq.elim)
        obtain ⟨rfl, hz⟩ := hq
        show wp _ _ 271 [(0, .ref (A 14 0 0)), (1, .int y1), (3, .int y3), (4, .long y4)] [] _ _ _
        refine w_goto 280 dX14_cutTokens_271 rfl ?_
        refine w_goto 7 dX14_cutTokens_280 rfl ?_
        refine w_lv [(0, .ref (A 14 0 0)), (1, .int y1)] [0, 1] rfl ?_
        exact hk7 y1 _ _ hz  hr
      · have hr := bf q253 hr
        refine w_sipush 203 dX14_cutTokens_256 rfl rfl ?_
        refine w_goto 265 dX14_cutTokens_259 rfl ?_
        refine w_iload_n 2 dX14_cutTokens_265 rfl rfl rfl ?_
        refine w_lload 3 dX14_cutTokens_266 rfl rfl ?_
        obtain ⟨v39, ρ40, e41, hr⟩ := bq_some hr
        refine c_X14_181 (As := [.int 203, .int y3, .long y4]) (rest := []) (fun l => s_X14_token  hz e41 l) hrm dX14_cutTokens_268 rfl rfl (Nat.le_of_ble_eq_true rfl) (Nat.le_of_ble_eq_true rfl) (Nat.le_of_ble_eq_true rfl) (hz.o14 rfl) rfl (Nat.le_of_ble_eq_true rfl) (fun vr h2 hq => ?_) (fun E9 h9 hq => hq.elim)
        obtain ⟨rfl, hz⟩ := hq
        show wp _ _ 271 [(0, .ref (A 14 0 0)), (1, .int y1), (3, .int y3), (4, .long y4)] [] _ _ _
        refine w_goto 280 dX14_cutTokens_271 rfl ?_
        refine w_goto 7 dX14_cutTokens_280 rfl ?_
        refine w_lv [(0, .ref (A 14 0 0)), (1, .int y1)] [0, 1] rfl ?_
        exact hk7 y1 _ _ hz  hr
    · have hr := bf q207 hr
      refine w_iload_n 1 dX14_cutTokens_210 rfl rfl rfl ?_
      refine w_iload_n 2 dX14_cutTokens_211 rfl rfl rfl ?_
      refine w_isub dX14_cutTokens_212 rfl ?_
      refine w_bipush 9 dX14_cutTokens_213 rfl rfl ?_
      refine w_icmp_ge 238 dX14_cutTokens_215 rfl rfl (fun q215 => ?_) (fun q215 => ?_)
      · have hr := bt q215 hr
        refine w_lconst 0 dX14_cutTokens_238 rfl rfl ?_
        refine w_lstore [(4, .long 0), (0, .ref (A 14 0 0)), (1, .int y1), (3, .int y3)] dX14_cutTokens_239 rfl (by decide) rfl ?_
        refine w_iinc 2 (y1 + 1) [(1, .int (y1 + 1)), (4, .long 0), (0, .ref (A 14 0 0)), (3, .int y3)] dX14_cutTokens_241 rfl rfl rfl (by decide) rfl ?_
        refine w_goto 199 dX14_cutTokens_244 rfl ?_
        refine w_lv [(0, .ref (A 14 0 0)), (1, .int (y1 + 1)), (3, .int y3), (4, .long 0)] [2, 0, 3, 1] rfl ?_
        exact w_X14_cutTokens_199 hf hrm  hk7 n (y1 + 1) y3 0 _ _ hz  hr
      · have hr := bf q215 hr
        refine w_ldc2 dX14_cutTokens_218 rfl k_X14_195 ?_
        refine w_lload 3 dX14_cutTokens_221 rfl rfl ?_
        refine w_lmul dX14_cutTokens_223 rfl ?_
        refine w_aload_n 0 dX14_cutTokens_224 rfl rfl rfl ?_
        refine w_iload_n 1 dX14_cutTokens_225 rfl rfl rfl ?_
        obtain ⟨v43, ρ44, e45, hr⟩ := bq_some hr
        refine c_X14_178 (As := [.int y1]) (rest := [.long (10 * y4)]) (fun l => s_X14_byteAt  hz e45 l) hrm dX14_cutTokens_226 rfl rfl (Nat.le_of_ble_eq_true rfl) (Nat.le_of_ble_eq_true rfl) (Nat.le_of_ble_eq_true rfl) (hz.o14 rfl) rfl (Nat.le_of_ble_eq_true rfl) (fun vr h2 hq => ?_) (fun E9 h9 hq => hq.elim)
        obtain ⟨rfl, hz⟩ := hq
        show wp _ _ 229 [(0, .ref (A 14 0 0)), (1, .int y1), (3, .int y3), (4, .long y4)] [.int v43, .long (10 * y4)] _ _ _
        refine w_i2l dX14_cutTokens_229 rfl ?_
        refine w_ladd dX14_cutTokens_230 rfl ?_
        refine w_ldc2 dX14_cutTokens_231 rfl k_X14_171 ?_
        refine w_lsub dX14_cutTokens_234 rfl ?_
        refine w_goto 239 dX14_cutTokens_235 rfl ?_
        refine w_lstore [(4, .long (((10 * y4) + ((v43 : Int32).toInt64)) - 48)), (0, .ref (A 14 0 0)), (1, .int y1), (3, .int y3)] dX14_cutTokens_239 rfl (by decide) rfl ?_
        refine w_iinc 2 (y1 + 1) [(1, .int (y1 + 1)), (4, .long (((10 * y4) + ((v43 : Int32).toInt64)) - 48)), (0, .ref (A 14 0 0)), (3, .int y3)] dX14_cutTokens_241 rfl rfl rfl (by decide) rfl ?_
        refine w_goto 199 dX14_cutTokens_244 rfl ?_
        refine w_lv [(0, .ref (A 14 0 0)), (1, .int (y1 + 1)), (3, .int y3), (4, .long (((10 * y4) + ((v43 : Int32).toInt64)) - 48))] [2, 0, 3, 1] rfl ?_
        exact w_X14_cutTokens_199 hf hrm  hk7 n (y1 + 1) y3 (((10 * y4) + ((v43 : Int32).toInt64)) - 48) _ _ hz  hr
set_option maxRecDepth 20000 in
set_option maxHeartbeats 4000000 in
theorem w_X14_cutTokens_95 {A : Nat → Nat → Nat → Nat} {σ ρ' : Zs} {v : Unit} {x : Cxt}  {k7 : Int32 → Zs → Option (Unit × Zs)}  (hf : m_fin 0 0 (QV A v σ ρ') X0 x) (hrm : m_rm 11 0 0 x)  (hk7 : ∀ (y1 : Int32) (ρ : Zs) (h : Hp), Rp A h σ ρ → k7 y1 ρ = some (v, ρ') → wp x mX14_cutTokens 7 [(0, .ref (A 14 0 0)), (1, .int y1)] [] h 0 0) : ∀ (n : Nat) (y1 : Int32) (y3 : Int32) (y4 : Int64) (ρ : Zs) (h : Hp), Rp A h σ ρ → fX14_cutTokens_95  k7 n y1 y3 y4 ρ = some (v, ρ') → wp x mX14_cutTokens 95 [(0, .ref (A 14 0 0)), (1, .int y1), (3, .int y3), (4, .long y4)] [] h 0 0
  | 0, _, _, _, ρ, h => fun hz hr => by
    rw [fX14_cutTokens_95.eq_1] at hr
    exact nono hr
  | n + 1, y1, y3, y4, ρ, h => fun hz hr => by
    rw [fX14_cutTokens_95.eq_2] at hr
    refine w_aload_n 0 dX14_cutTokens_95 rfl rfl rfl ?_
    refine w_iload_n 1 dX14_cutTokens_96 rfl rfl rfl ?_
    obtain ⟨v47, ρ48, e49, hr⟩ := bq_some hr
    refine c_X14_178 (As := [.int y1]) (rest := []) (fun l => s_X14_byteAt  hz e49 l) hrm dX14_cutTokens_97 rfl rfl (Nat.le_of_ble_eq_true rfl) (Nat.le_of_ble_eq_true rfl) (Nat.le_of_ble_eq_true rfl) (hz.o14 rfl) rfl (Nat.le_of_ble_eq_true rfl) (fun vr h2 hq => ?_) (fun E9 h9 hq => hq.elim)
    obtain ⟨rfl, hz⟩ := hq
    show wp _ _ 100 [(0, .ref (A 14 0 0)), (1, .int y1), (3, .int y3), (4, .long y4)] [.int v47] _ _ _
    obtain ⟨v51, ρ52, e53, hr⟩ := bq_some hr
    refine c_X14_185 (b := 0) (As := [.int v47]) (rest := []) (fun l => s_X14_isLetter  hz e53 l) hrm dX14_cutTokens_100 rfl rfl (Nat.le_of_ble_eq_true rfl) (Nat.le_of_ble_eq_true rfl) (Nat.le_of_ble_eq_true rfl) rfl (Nat.le_of_ble_eq_true rfl) (fun vr h2 hq => ?_) (fun E9 h9 hq => hq.elim)
    obtain ⟨rfl, hz⟩ := hq
    show wp _ _ 103 [(0, .ref (A 14 0 0)), (1, .int y1), (3, .int y3), (4, .long y4)] [.int v51] _ _ _
    refine w_if_ne 117 dX14_cutTokens_103 rfl rfl (fun q103 => ?_) (fun q103 => ?_)
    · have hr := bf q103 hr
      refine w_lload 3 dX14_cutTokens_117 rfl rfl ?_
      refine w_bipush 8 dX14_cutTokens_119 rfl rfl ?_
      refine w_lshl dX14_cutTokens_121 rfl ?_
      refine w_aload_n 0 dX14_cutTokens_122 rfl rfl rfl ?_
      refine w_iload_n 1 dX14_cutTokens_123 rfl rfl rfl ?_
      obtain ⟨v55, ρ56, e57, hr⟩ := bq_some hr
      refine c_X14_178 (As := [.int y1]) (rest := [.long (y4 <<< ((8 : Int32).toInt64 &&& 63))]) (fun l => s_X14_byteAt  hz e57 l) hrm dX14_cutTokens_124 rfl rfl (Nat.le_of_ble_eq_true rfl) (Nat.le_of_ble_eq_true rfl) (Nat.le_of_ble_eq_true rfl) (hz.o14 rfl) rfl (Nat.le_of_ble_eq_true rfl) (fun vr h2 hq => ?_) (fun E9 h9 hq => hq.elim)
      obtain ⟨rfl, hz⟩ := hq
      show wp _ _ 127 [(0, .ref (A 14 0 0)), (1, .int y1), (3, .int y3), (4, .long y4)] [.int v55, .long (y4 <<< ((8 : Int32).toInt64 &&& 63))] _ _ _
      refine w_i2l dX14_cutTokens_127 rfl ?_
      refine w_lor dX14_cutTokens_128 rfl ?_
      refine w_lstore [(4, .long ((y4 <<< ((8 : Int32).toInt64 &&& 63)) ||| ((v55 : Int32).toInt64))), (0, .ref (A 14 0 0)), (1, .int y1), (3, .int y3)] dX14_cutTokens_129 rfl (by decide) rfl ?_
      refine w_iinc 2 (y1 + 1) [(1, .int (y1 + 1)), (4, .long ((y4 <<< ((8 : Int32).toInt64 &&& 63)) ||| ((v55 : Int32).toInt64))), (0, .ref (A 14 0 0)), (3, .int y3)] dX14_cutTokens_131 rfl rfl rfl (by decide) rfl ?_
      refine w_goto 95 dX14_cutTokens_134 rfl ?_
      refine w_lv [(0, .ref (A 14 0 0)), (1, .int (y1 + 1)), (3, .int y3), (4, .long ((y4 <<< ((8 : Int32).toInt64 &&& 63)) ||| ((v55 : Int32).toInt64)))] [2, 0, 3, 1] rfl ?_
      exact w_X14_cutTokens_95 hf hrm  hk7 n (y1 + 1) y3 ((y4 <<< ((8 : Int32).toInt64 &&& 63)) ||| ((v55 : Int32).toInt64)) _ _ hz  hr
    · have hr := bt q103 hr
      refine w_aload_n 0 dX14_cutTokens_106 rfl rfl rfl ?_
      refine w_iload_n 1 dX14_cutTokens_107 rfl rfl rfl ?_
      obtain ⟨v59, ρ60, e61, hr⟩ := bq_some hr
      refine c_X14_178 (As := [.int y1]) (rest := []) (fun l => s_X14_byteAt  hz e61 l) hrm dX14_cutTokens_108 rfl rfl (Nat.le_of_ble_eq_true rfl) (Nat.le_of_ble_eq_true rfl) (Nat.le_of_ble_eq_true rfl) (hz.o14 rfl) rfl (Nat.le_of_ble_eq_true rfl) (fun vr h2 hq => ?_) (fun E9 h9 hq => hq.elim)
      obtain ⟨rfl, hz⟩ := hq
      show wp _ _ 111 [(0, .ref (A 14 0 0)), (1, .int y1), (3, .int y3), (4, .long y4)] [.int v59] _ _ _
      obtain ⟨v63, ρ64, e65, hr⟩ := bq_some hr
      refine c_X14_189 (b := 0) (As := [.int v59]) (rest := []) (fun l => s_X14_isDigit  hz e65 l) hrm dX14_cutTokens_111 rfl rfl (Nat.le_of_ble_eq_true rfl) (Nat.le_of_ble_eq_true rfl) (Nat.le_of_ble_eq_true rfl) rfl (Nat.le_of_ble_eq_true rfl) (fun vr h2 hq => ?_) (fun E9 h9 hq => hq.elim)
      obtain ⟨rfl, hz⟩ := hq
      show wp _ _ 114 [(0, .ref (A 14 0 0)), (1, .int y1), (3, .int y3), (4, .long y4)] [.int v63] _ _ _
      refine w_if_eq 137 dX14_cutTokens_114 rfl rfl (fun q114 => ?_) (fun q114 => ?_)
      · have hr := bt q114 hr
        refine w_aload_n 0 dX14_cutTokens_137 rfl rfl rfl ?_
        refine g_X14_9 dX14_cutTokens_138 rfl (hz.o14 rfl) (hz.r897 rfl) ?_
        refine w_iconst 0 dX14_cutTokens_141 rfl rfl ?_
        refine w_aload_n 0 dX14_cutTokens_142 rfl rfl rfl ?_
        refine g_X14_9 dX14_cutTokens_143 rfl (hz.o14 rfl) (hz.r897 rfl) ?_
        refine w_alen 1 dX14_cutTokens_146 rfl (by decide) (by decide) (fun _ => rfl) (hz.k897 rfl) (v := 32) (by rw [hz.n897 rfl]; rfl) ?_
        refine w_lload 3 dX14_cutTokens_147 rfl rfl ?_
        obtain ⟨v67, ρ68, e69, hr⟩ := bq_some hr
        refine c_X14_192 (b := 0) (As := [.ref (A 1921 0 0), .int 0, .int 32, .long y4]) (rest := []) (fun l => s_X14_indexOf (aok_897 rfl) rfl hz e69 l) hrm dX14_cutTokens_149 rfl rfl (Nat.le_of_ble_eq_true rfl) (Nat.le_of_ble_eq_true rfl) (Nat.le_of_ble_eq_true rfl) rfl (Nat.le_of_ble_eq_true rfl) (fun vr h2 hq => ?_) (fun E9 h9 hq => hq.elim)
        obtain ⟨rfl, hz⟩ := hq
        show wp _ _ 152 [(0, .ref (A 14 0 0)), (1, .int y1), (3, .int y3), (4, .long y4)] [.int v67] _ _ _
        refine w_istore [(6, .int v67), (0, .ref (A 14 0 0)), (1, .int y1), (3, .int y3), (4, .long y4)] dX14_cutTokens_152 rfl (by decide) rfl ?_
        refine w_aload_n 1 dX14_cutTokens_154 rfl rfl rfl ?_
        refine w_iload_n 2 dX14_cutTokens_155 rfl rfl rfl ?_
        refine w_iload_n 3 dX14_cutTokens_156 rfl rfl rfl ?_
        refine w_isub dX14_cutTokens_157 rfl ?_
        refine w_bipush 8 dX14_cutTokens_158 rfl rfl ?_
        refine w_icmp_le 169 dX14_cutTokens_160 rfl rfl (fun q160 => ?_) (fun q160 => ?_)
        · have hr := bt q160 hr
          refine w_iload 0 dX14_cutTokens_169 rfl rfl ?_
          refine w_iconst (-1) dX14_cutTokens_171 rfl rfl ?_
          refine w_icmp_ne 181 dX14_cutTokens_172 rfl rfl (fun q172 => ?_) (fun q172 => ?_)
          · have hr := bf q172 hr
            refine w_iload 0 dX14_cutTokens_181 rfl rfl ?_
            refine w_iload_n 3 dX14_cutTokens_183 rfl rfl rfl ?_
            refine w_lload 4 dX14_cutTokens_184 rfl rfl ?_
            obtain ⟨v71, ρ72, e73, hr⟩ := bq_some hr
            refine c_X14_181 (As := [.int v67, .int y3, .long y4]) (rest := []) (fun l => s_X14_token  hz e73 l) hrm dX14_cutTokens_186 rfl rfl (Nat.le_of_ble_eq_true rfl) (Nat.le_of_ble_eq_true rfl) (Nat.le_of_ble_eq_true rfl) (hz.o14 rfl) rfl (Nat.le_of_ble_eq_true rfl) (fun vr h2 hq => ?_) (fun E9 h9 hq => hq.elim)
            obtain ⟨rfl, hz⟩ := hq
            show wp _ _ 189 [(6, .int v67), (0, .ref (A 14 0 0)), (1, .int y1), (3, .int y3), (4, .long y4)] [] _ _ _
            refine w_goto 280 dX14_cutTokens_189 rfl ?_
            refine w_goto 7 dX14_cutTokens_280 rfl ?_
            refine w_lv [(0, .ref (A 14 0 0)), (1, .int y1)] [1, 2] rfl ?_
            exact hk7 y1 _ _ hz  hr
          · have hr := bt q172 hr
            refine w_sipush 200 dX14_cutTokens_175 rfl rfl ?_
            refine w_goto 183 dX14_cutTokens_178 rfl ?_
            refine w_iload_n 3 dX14_cutTokens_183 rfl rfl rfl ?_
            refine w_lload 4 dX14_cutTokens_184 rfl rfl ?_
            obtain ⟨v75, ρ76, e77, hr⟩ := bq_some hr
            refine c_X14_181 (As := [.int 200, .int y3, .long y4]) (rest := []) (fun l => s_X14_token  hz e77 l) hrm dX14_cutTokens_186 rfl rfl (Nat.le_of_ble_eq_true rfl) (Nat.le_of_ble_eq_true rfl) (Nat.le_of_ble_eq_true rfl) (hz.o14 rfl) rfl (Nat.le_of_ble_eq_true rfl) (fun vr h2 hq => ?_) (fun E9 h9 hq => hq.elim)
            obtain ⟨rfl, hz⟩ := hq
            show wp _ _ 189 [(6, .int v67), (0, .ref (A 14 0 0)), (1, .int y1), (3, .int y3), (4, .long y4)] [] _ _ _
            refine w_goto 280 dX14_cutTokens_189 rfl ?_
            refine w_goto 7 dX14_cutTokens_280 rfl ?_
            refine w_lv [(0, .ref (A 14 0 0)), (1, .int y1)] [1, 2] rfl ?_
            exact hk7 y1 _ _ hz  hr
        · have hr := bf q160 hr
          refine w_sipush 203 dX14_cutTokens_163 rfl rfl ?_
          refine w_goto 183 dX14_cutTokens_166 rfl ?_
          refine w_iload_n 3 dX14_cutTokens_183 rfl rfl rfl ?_
          refine w_lload 4 dX14_cutTokens_184 rfl rfl ?_
          obtain ⟨v79, ρ80, e81, hr⟩ := bq_some hr
          refine c_X14_181 (As := [.int 203, .int y3, .long y4]) (rest := []) (fun l => s_X14_token  hz e81 l) hrm dX14_cutTokens_186 rfl rfl (Nat.le_of_ble_eq_true rfl) (Nat.le_of_ble_eq_true rfl) (Nat.le_of_ble_eq_true rfl) (hz.o14 rfl) rfl (Nat.le_of_ble_eq_true rfl) (fun vr h2 hq => ?_) (fun E9 h9 hq => hq.elim)
          obtain ⟨rfl, hz⟩ := hq
          show wp _ _ 189 [(6, .int v67), (0, .ref (A 14 0 0)), (1, .int y1), (3, .int y3), (4, .long y4)] [] _ _ _
          refine w_goto 280 dX14_cutTokens_189 rfl ?_
          refine w_goto 7 dX14_cutTokens_280 rfl ?_
          refine w_lv [(0, .ref (A 14 0 0)), (1, .int y1)] [1, 2] rfl ?_
          exact hk7 y1 _ _ hz  hr
      · have hr := bf q114 hr
        refine w_lload 3 dX14_cutTokens_117 rfl rfl ?_
        refine w_bipush 8 dX14_cutTokens_119 rfl rfl ?_
        refine w_lshl dX14_cutTokens_121 rfl ?_
        refine w_aload_n 0 dX14_cutTokens_122 rfl rfl rfl ?_
        refine w_iload_n 1 dX14_cutTokens_123 rfl rfl rfl ?_
        obtain ⟨v83, ρ84, e85, hr⟩ := bq_some hr
        refine c_X14_178 (As := [.int y1]) (rest := [.long (y4 <<< ((8 : Int32).toInt64 &&& 63))]) (fun l => s_X14_byteAt  hz e85 l) hrm dX14_cutTokens_124 rfl rfl (Nat.le_of_ble_eq_true rfl) (Nat.le_of_ble_eq_true rfl) (Nat.le_of_ble_eq_true rfl) (hz.o14 rfl) rfl (Nat.le_of_ble_eq_true rfl) (fun vr h2 hq => ?_) (fun E9 h9 hq => hq.elim)
        obtain ⟨rfl, hz⟩ := hq
        show wp _ _ 127 [(0, .ref (A 14 0 0)), (1, .int y1), (3, .int y3), (4, .long y4)] [.int v83, .long (y4 <<< ((8 : Int32).toInt64 &&& 63))] _ _ _
        refine w_i2l dX14_cutTokens_127 rfl ?_
        refine w_lor dX14_cutTokens_128 rfl ?_
        refine w_lstore [(4, .long ((y4 <<< ((8 : Int32).toInt64 &&& 63)) ||| ((v83 : Int32).toInt64))), (0, .ref (A 14 0 0)), (1, .int y1), (3, .int y3)] dX14_cutTokens_129 rfl (by decide) rfl ?_
        refine w_iinc 2 (y1 + 1) [(1, .int (y1 + 1)), (4, .long ((y4 <<< ((8 : Int32).toInt64 &&& 63)) ||| ((v83 : Int32).toInt64))), (0, .ref (A 14 0 0)), (3, .int y3)] dX14_cutTokens_131 rfl rfl rfl (by decide) rfl ?_
        refine w_goto 95 dX14_cutTokens_134 rfl ?_
        refine w_lv [(0, .ref (A 14 0 0)), (1, .int (y1 + 1)), (3, .int y3), (4, .long ((y4 <<< ((8 : Int32).toInt64 &&& 63)) ||| ((v83 : Int32).toInt64)))] [2, 0, 3, 1] rfl ?_
        exact w_X14_cutTokens_95 hf hrm  hk7 n (y1 + 1) y3 ((y4 <<< ((8 : Int32).toInt64 &&& 63)) ||| ((v83 : Int32).toInt64)) _ _ hz  hr
set_option maxRecDepth 20000 in
set_option maxHeartbeats 4000000 in
theorem w_X14_cutTokens_31 {A : Nat → Nat → Nat → Nat} {σ ρ' : Zs} {v : Unit} {x : Cxt}  {k7 : Int32 → Zs → Option (Unit × Zs)}  (hf : m_fin 0 0 (QV A v σ ρ') X0 x) (hrm : m_rm 11 0 0 x)  (hk7 : ∀ (y1 : Int32) (ρ : Zs) (h : Hp), Rp A h σ ρ → k7 y1 ρ = some (v, ρ') → wp x mX14_cutTokens 7 [(0, .ref (A 14 0 0)), (1, .int y1)] [] h 0 0) : ∀ (n : Nat) (y1 : Int32) (ρ : Zs) (h : Hp), Rp A h σ ρ → fX14_cutTokens_31  k7 n y1 ρ = some (v, ρ') → wp x mX14_cutTokens 31 [(0, .ref (A 14 0 0)), (1, .int y1)] [] h 0 0
  | 0, _, ρ, h => fun hz hr => by
    rw [fX14_cutTokens_31.eq_1] at hr
    exact nono hr
  | n + 1, y1, ρ, h => fun hz hr => by
    rw [fX14_cutTokens_31.eq_2] at hr
    refine w_aload_n 0 dX14_cutTokens_31 rfl rfl rfl ?_
    refine w_iload_n 1 dX14_cutTokens_32 rfl rfl rfl ?_
    obtain ⟨v3, ρ4, e5, hr⟩ := bq_some hr
    refine c_X14_178 (As := [.int y1]) (rest := []) (fun l => s_X14_byteAt  hz e5 l) hrm dX14_cutTokens_33 rfl rfl (Nat.le_of_ble_eq_true rfl) (Nat.le_of_ble_eq_true rfl) (Nat.le_of_ble_eq_true rfl) (hz.o14 rfl) rfl (Nat.le_of_ble_eq_true rfl) (fun vr h2 hq => ?_) (fun E9 h9 hq => hq.elim)
    obtain ⟨rfl, hz⟩ := hq
    show wp _ _ 36 [(0, .ref (A 14 0 0)), (1, .int y1)] [.int v3] _ _ _
    refine w_bipush 32 dX14_cutTokens_36 rfl rfl ?_
    refine w_icmp_eq 51 dX14_cutTokens_38 rfl rfl (fun q38 => ?_) (fun q38 => ?_)
    · have hr := bt q38 hr
      refine w_iinc 1 (y1 + 1) [(1, .int (y1 + 1)), (0, .ref (A 14 0 0))] dX14_cutTokens_51 rfl rfl rfl (by decide) rfl ?_
      refine w_goto 31 dX14_cutTokens_54 rfl ?_
      refine w_lv [(0, .ref (A 14 0 0)), (1, .int (y1 + 1))] [1, 0] rfl ?_
      exact w_X14_cutTokens_31 hf hrm  hk7 n (y1 + 1) _ _ hz  hr
    · have hr := bf q38 hr
      refine w_aload_n 0 dX14_cutTokens_41 rfl rfl rfl ?_
      refine w_iload_n 1 dX14_cutTokens_42 rfl rfl rfl ?_
      obtain ⟨v7, ρ8, e9, hr⟩ := bq_some hr
      refine c_X14_178 (As := [.int y1]) (rest := []) (fun l => s_X14_byteAt  hz e9 l) hrm dX14_cutTokens_43 rfl rfl (Nat.le_of_ble_eq_true rfl) (Nat.le_of_ble_eq_true rfl) (Nat.le_of_ble_eq_true rfl) (hz.o14 rfl) rfl (Nat.le_of_ble_eq_true rfl) (fun vr h2 hq => ?_) (fun E9 h9 hq => hq.elim)
      obtain ⟨rfl, hz⟩ := hq
      show wp _ _ 46 [(0, .ref (A 14 0 0)), (1, .int y1)] [.int v7] _ _ _
      refine w_bipush 10 dX14_cutTokens_46 rfl rfl ?_
      refine w_icmp_ne 57 dX14_cutTokens_48 rfl rfl (fun q48 => ?_) (fun q48 => ?_)
      · have hr := bf q48 hr
        refine w_aload_n 0 dX14_cutTokens_57 rfl rfl rfl ?_
        refine w_iload_n 1 dX14_cutTokens_58 rfl rfl rfl ?_
        obtain ⟨v11, ρ12, e13, hr⟩ := bq_some hr
        refine c_X14_178 (As := [.int y1]) (rest := []) (fun l => s_X14_byteAt  hz e13 l) hrm dX14_cutTokens_59 rfl rfl (Nat.le_of_ble_eq_true rfl) (Nat.le_of_ble_eq_true rfl) (Nat.le_of_ble_eq_true rfl) (hz.o14 rfl) rfl (Nat.le_of_ble_eq_true rfl) (fun vr h2 hq => ?_) (fun E9 h9 hq => hq.elim)
        obtain ⟨rfl, hz⟩ := hq
        show wp _ _ 62 [(0, .ref (A 14 0 0)), (1, .int y1)] [.int v11] _ _ _
        refine w_istore_n [(2, .int v11), (0, .ref (A 14 0 0)), (1, .int y1)] dX14_cutTokens_62 rfl rfl (by decide) rfl ?_
        refine w_iload_n 2 dX14_cutTokens_63 rfl rfl rfl ?_
        refine w_istore_n [(3, .int y1), (2, .int v11), (0, .ref (A 14 0 0)), (1, .int y1)] dX14_cutTokens_64 rfl rfl (by decide) rfl ?_
        refine w_lconst 0 dX14_cutTokens_65 rfl rfl ?_
        refine w_lstore [(4, .long 0), (3, .int y1), (2, .int v11), (0, .ref (A 14 0 0)), (1, .int y1)] dX14_cutTokens_66 rfl (by decide) rfl ?_
        refine w_iload_n 2 dX14_cutTokens_68 rfl rfl rfl ?_
        refine w_iconst (-1) dX14_cutTokens_69 rfl rfl ?_
        refine w_icmp_ne 88 dX14_cutTokens_70 rfl rfl (fun q70 => ?_) (fun q70 => ?_)
        · have hr := bf q70 hr
          refine w_iload_n 2 dX14_cutTokens_88 rfl rfl rfl ?_
          obtain ⟨v15, ρ16, e17, hr⟩ := bq_some hr
          refine c_X14_185 (b := 0) (As := [.int v11]) (rest := []) (fun l => s_X14_isLetter  hz e17 l) hrm dX14_cutTokens_89 rfl rfl (Nat.le_of_ble_eq_true rfl) (Nat.le_of_ble_eq_true rfl) (Nat.le_of_ble_eq_true rfl) rfl (Nat.le_of_ble_eq_true rfl) (fun vr h2 hq => ?_) (fun E9 h9 hq => hq.elim)
          obtain ⟨rfl, hz⟩ := hq
          show wp _ _ 92 [(4, .long 0), (3, .int y1), (2, .int v11), (0, .ref (A 14 0 0)), (1, .int y1)] [.int v15] _ _ _
          refine w_if_eq 192 dX14_cutTokens_92 rfl rfl (fun q92 => ?_) (fun q92 => ?_)
          · have hr := bt q92 hr
            refine w_iload_n 2 dX14_cutTokens_192 rfl rfl rfl ?_
            obtain ⟨v19, ρ20, e21, hr⟩ := bq_some hr
            refine c_X14_189 (b := 0) (As := [.int v11]) (rest := []) (fun l => s_X14_isDigit  hz e21 l) hrm dX14_cutTokens_193 rfl rfl (Nat.le_of_ble_eq_true rfl) (Nat.le_of_ble_eq_true rfl) (Nat.le_of_ble_eq_true rfl) rfl (Nat.le_of_ble_eq_true rfl) (fun vr h2 hq => ?_) (fun E9 h9 hq => hq.elim)
            obtain ⟨rfl, hz⟩ := hq
            show wp _ _ 196 [(4, .long 0), (3, .int y1), (2, .int v11), (0, .ref (A 14 0 0)), (1, .int y1)] [.int v19] _ _ _
            refine w_if_eq 274 dX14_cutTokens_196 rfl rfl (fun q196 => ?_) (fun q196 => ?_)
            · have hr := bt q196 hr
              refine w_aload_n 3 dX14_cutTokens_274 rfl rfl rfl ?_
              refine w_iload_n 4 dX14_cutTokens_275 rfl rfl rfl ?_
              obtain ⟨v23, ρ24, e25, hr⟩ := bq_some hr
              refine c_X14_197 (As := [.int y1]) (rest := []) (fun l => s_X14_symbol  hz e25 l) hrm dX14_cutTokens_276 rfl rfl (Nat.le_of_ble_eq_true rfl) (Nat.le_of_ble_eq_true rfl) (Nat.le_of_ble_eq_true rfl) (hz.o14 rfl) rfl (Nat.le_of_ble_eq_true rfl) (fun vr h2 hq => ?_) (fun E9 h9 hq => hq.elim)
              obtain ⟨rfl, hz⟩ := hq
              show wp _ _ 279 [(4, .long 0), (3, .int y1), (2, .int v11), (0, .ref (A 14 0 0)), (1, .int y1)] [.int v23] _ _ _
              refine w_istore_n [(1, .int v23), (4, .long 0), (3, .int y1), (2, .int v11), (0, .ref (A 14 0 0))] dX14_cutTokens_279 rfl rfl (by decide) rfl ?_
              refine w_goto 7 dX14_cutTokens_280 rfl ?_
              refine w_lv [(0, .ref (A 14 0 0)), (1, .int v23)] [4, 0] rfl ?_
              exact hk7 v23 _ _ hz  hr
            · have hr := bf q196 hr
              refine w_lv [(0, .ref (A 14 0 0)), (1, .int y1), (3, .int y1), (4, .long 0)] [3, 4, 1, 0] rfl ?_
              exact w_X14_cutTokens_199 hf hrm  hk7 FU y1 y1 0 _ _ hz  hr
          · have hr := bf q92 hr
            refine w_lv [(0, .ref (A 14 0 0)), (1, .int y1), (3, .int y1), (4, .long 0)] [3, 4, 1, 0] rfl ?_
            exact w_X14_cutTokens_95 hf hrm  hk7 FU y1 y1 0 _ _ hz  hr
        · have hr := bt q70 hr
          refine w_aload_n 3 dX14_cutTokens_73 rfl rfl rfl ?_
          refine w_sipush 202 dX14_cutTokens_74 rfl rfl ?_
          refine w_aload_n 3 dX14_cutTokens_77 rfl rfl rfl ?_
          refine g_X14_152 dX14_cutTokens_78 rfl (hz.o14 rfl) (hz.i900 rfl) ?_
          refine w_lconst 0 dX14_cutTokens_81 rfl rfl ?_
          obtain ⟨v87, ρ88, e89, hr⟩ := bq_some hr
          refine c_X14_181 (As := [.int 202, .int (zI ρ12 900 0 0 0), .long 0]) (rest := []) (fun l => s_X14_token  hz e89 l) hrm dX14_cutTokens_82 rfl rfl (Nat.le_of_ble_eq_true rfl) (Nat.le_of_ble_eq_true rfl) (Nat.le_of_ble_eq_true rfl) (hz.o14 rfl) rfl (Nat.le_of_ble_eq_true rfl) (fun vr h2 hq => ?_) (fun E9 h9 hq => hq.elim)
          obtain ⟨rfl, hz⟩ := hq
          show wp _ _ 85 [(4, .long 0), (3, .int y1), (2, .int v11), (0, .ref (A 14 0 0)), (1, .int y1)] [] _ _ _
          refine w_goto 280 dX14_cutTokens_85 rfl ?_
          refine w_goto 7 dX14_cutTokens_280 rfl ?_
          refine w_lv [(0, .ref (A 14 0 0)), (1, .int y1)] [3, 4] rfl ?_
          exact hk7 y1 _ _ hz  hr
      · have hr := bt q48 hr
        refine w_iinc 1 (y1 + 1) [(1, .int (y1 + 1)), (0, .ref (A 14 0 0))] dX14_cutTokens_51 rfl rfl rfl (by decide) rfl ?_
        refine w_goto 31 dX14_cutTokens_54 rfl ?_
        refine w_lv [(0, .ref (A 14 0 0)), (1, .int (y1 + 1))] [1, 0] rfl ?_
        exact w_X14_cutTokens_31 hf hrm  hk7 n (y1 + 1) _ _ hz  hr
set_option maxRecDepth 20000 in
set_option maxHeartbeats 4000000 in
theorem w_X14_cutTokens_7 {A : Nat → Nat → Nat → Nat} {σ ρ' : Zs} {v : Unit} {x : Cxt}   (hf : m_fin 0 0 (QV A v σ ρ') X0 x) (hrm : m_rm 11 0 0 x)  : ∀ (n : Nat) (y1 : Int32) (ρ : Zs) (h : Hp), Rp A h σ ρ → fX14_cutTokens_7   n y1 ρ = some (v, ρ') → wp x mX14_cutTokens 7 [(0, .ref (A 14 0 0)), (1, .int y1)] [] h 0 0
  | 0, _, ρ, h => fun hz hr => by
    rw [fX14_cutTokens_7.eq_1] at hr
    exact nono hr
  | n + 1, y1, ρ, h => fun hz hr => by
    rw [fX14_cutTokens_7.eq_2] at hr
    refine w_aload_n 0 dX14_cutTokens_7 rfl rfl rfl ?_
    refine g_X14_175 dX14_cutTokens_8 rfl (hz.o14 rfl) (hz.i901 rfl) ?_
    refine w_if_eq 31 dX14_cutTokens_11 rfl rfl (fun q11 => ?_) (fun q11 => ?_)
    · have hr := bt q11 hr
      refine w_lv [(0, .ref (A 14 0 0)), (1, .int y1)] [0, 1] rfl ?_
      exact w_X14_cutTokens_31 hf hrm  (fun by1 zb hb hzb  hrb => w_X14_cutTokens_7 hf hrm   n by1 zb hb hzb  hrb) FU y1 _ _ hz  hr
    · have hr := bf q11 hr
      refine w_aload_n 0 dX14_cutTokens_14 rfl rfl rfl ?_
      refine g_X14_24 dX14_cutTokens_15 rfl (hz.o14 rfl) (hz.r902 rfl) ?_
      refine w_aload_n 0 dX14_cutTokens_18 rfl rfl rfl ?_
      refine g_X14_175 dX14_cutTokens_19 rfl (hz.o14 rfl) (hz.i901 rfl) ?_
      refine w_iconst 1 dX14_cutTokens_22 rfl rfl ?_
      refine w_isub dX14_cutTokens_23 rfl ?_
      obtain ⟨g91, hr⟩ := gd hr
      refine w_iald dX14_cutTokens_24 rfl (hz.k902 rfl) (gin (hz.n902 rfl) g91) (hz.x902 rfl) ?_
      refine w_sipush 202 dX14_cutTokens_25 rfl rfl ?_
      refine w_icmp_ge 283 dX14_cutTokens_28 rfl rfl (fun q28 => ?_) (fun q28 => ?_)
      · have hr := bt q28 hr
        refine w_vret hf dX14_cutTokens_283 rfl (Nat.le_of_ble_eq_true rfl) (Nat.le_of_ble_eq_true rfl) ?_
        obtain ⟨rfl, rfl⟩ := ret_inj hr
        exact ⟨rfl, hz⟩
      · have hr := bf q28 hr
        refine w_lv [(0, .ref (A 14 0 0)), (1, .int y1)] [0, 1] rfl ?_
        exact w_X14_cutTokens_31 hf hrm  (fun by1 zb hb hzb  hrb => w_X14_cutTokens_7 hf hrm   n by1 zb hb hzb  hrb) FU y1 _ _ hz  hr
set_option maxRecDepth 20000 in
set_option maxHeartbeats 4000000 in
theorem s_X14_cutTokens {A : Nat → Nat → Nat → Nat} {h : Hp} {σ ρ ρ' : Zs} {v : Unit}   (hz : Rp A h σ ρ) (hr : fX14_cutTokens  ρ = some (v, ρ')) : ∀ l : Launch, Sp l mX14_cutTokens 11 0 0 [.ref (A 14 0 0)] h (QV A v σ ρ') X0 := by
  intro l
  refine Sp.of rfl rfl (lv := [(0, .ref (A 14 0 0))]) (Nat.le_of_ble_eq_true rfl) rfl (fun x hf hrm => ?_)
  rw [fX14_cutTokens.eq_1] at hr
  refine w_aload_n 0 dX14_cutTokens_0 rfl rfl rfl ?_
  refine w_iconst 0 dX14_cutTokens_1 rfl rfl ?_
  refine p_X14_175 dX14_cutTokens_2 rfl (hz.o14 rfl) ?_
  obtain ⟨ρ1, e2, hr⟩ := lt_e hr
  have hz := (hz.s901 (v := 0) rfl).tr e2
  refine w_iconst 0 dX14_cutTokens_5 rfl rfl ?_
  refine w_istore_n [(1, .int 0), (0, .ref (A 14 0 0))] dX14_cutTokens_6 rfl rfl (by decide) rfl ?_
  refine w_lv [(0, .ref (A 14 0 0)), (1, .int 0)] [1, 0] rfl ?_
  exact w_X14_cutTokens_7 hf hrm   FU 0 _ _ hz  hr

set_option maxRecDepth 20000 in
set_option maxHeartbeats 4000000 in
theorem s_X14_is {A : Nat → Nat → Nat → Nat} {h : Hp} {σ ρ ρ' : Zs} {v : Int32} {x1 : Int32}  (hz : Rp A h σ ρ) (hr : fX14_is x1 ρ = some (v, ρ')) : ∀ l : Launch, Sp l mX14_is 0 0 0 [.ref (A 14 0 0), .int x1] h (QI A v σ ρ') X0 := by
  intro l
  refine Sp.of rfl rfl (lv := [(0, .ref (A 14 0 0)), (1, .int x1)]) (Nat.le_of_ble_eq_true rfl) rfl (fun x hf hrm => ?_)
  rw [fX14_is.eq_1] at hr
  refine w_aload_n 0 dX14_is_0 rfl rfl rfl ?_
  refine g_X14_24 dX14_is_1 rfl (hz.o14 rfl) (hz.r902 rfl) ?_
  refine w_aload_n 0 dX14_is_4 rfl rfl rfl ?_
  refine g_X14_204 dX14_is_5 rfl (hz.o14 rfl) (hz.i905 rfl) ?_
  obtain ⟨g1, hr⟩ := gd hr
  refine w_iald dX14_is_8 rfl (hz.k902 rfl) (gin (hz.n902 rfl) g1) (hz.x902 rfl) ?_
  refine w_iload_n 1 dX14_is_9 rfl rfl rfl ?_
  refine w_icmp_ne 17 dX14_is_10 rfl rfl (fun q10 => ?_) (fun q10 => ?_)
  · have hr := bf q10 hr
    refine w_iconst 0 dX14_is_17 rfl rfl ?_
    refine w_zret hf dX14_is_18 rfl rfl (Nat.le_of_ble_eq_true rfl) (Nat.le_of_ble_eq_true rfl) ?_
    obtain ⟨rfl, rfl⟩ := ret_inj hr
    exact ⟨rfl, hz⟩
  · have hr := bt q10 hr
    refine w_iconst 1 dX14_is_13 rfl rfl ?_
    refine w_goto 18 dX14_is_14 rfl ?_
    refine w_zret hf dX14_is_18 rfl rfl (Nat.le_of_ble_eq_true rfl) (Nat.le_of_ble_eq_true rfl) ?_
    obtain ⟨rfl, rfl⟩ := ret_inj hr
    exact ⟨rfl, hz⟩

set_option maxRecDepth 20000 in
set_option maxHeartbeats 4000000 in
theorem s_X14_emit {A : Nat → Nat → Nat → Nat} {h : Hp} {σ ρ ρ' : Zs} {v : Unit} {x1 : Int32} {x2 : Int64}  (hz : Rp A h σ ρ) (hr : fX14_emit x1 x2 ρ = some (v, ρ')) : ∀ l : Launch, Sp l mX14_emit 0 0 0 [.ref (A 14 0 0), .int x1, .long x2] h (QV A v σ ρ') X0 := by
  intro l
  refine Sp.of rfl rfl (lv := [(0, .ref (A 14 0 0)), (1, .int x1), (2, .long x2)]) (Nat.le_of_ble_eq_true rfl) rfl (fun x hf hrm => ?_)
  rw [fX14_emit.eq_1] at hr
  refine w_aload_n 0 dX14_emit_0 rfl rfl rfl ?_
  refine g_X14_212 dX14_emit_1 rfl (hz.o14 rfl) (hz.i906 rfl) ?_
  refine w_if_ne 8 dX14_emit_4 rfl rfl (fun q4 => ?_) (fun q4 => ?_)
  · have hr := bf q4 hr
    refine w_aload_n 0 dX14_emit_8 rfl rfl rfl ?_
    obtain ⟨g2, hr⟩ := gd hr
    have hv1 := hz.ww909 (p := 0) (s := 0) rfl g2
    refine g_X14_232 dX14_emit_9 rfl (hz.o14 rfl) (hz.rr909 rfl g2) ?_
    refine g_X14_235 dX14_emit_12 rfl (hz.o12 hv1) (hz.r786 hv1) ?_
    refine w_aload_n 0 dX14_emit_15 rfl rfl rfl ?_
    obtain ⟨g4, hr⟩ := gd hr
    have hv3 := hz.ww909 (p := 0) (s := 0) rfl g4
    refine g_X14_232 dX14_emit_16 rfl (hz.o14 rfl) (hz.rr909 rfl g4) ?_
    refine g_X14_238 dX14_emit_19 rfl (hz.o12 hv3) (hz.i785 hv3) ?_
    refine w_iload_n 1 dX14_emit_22 rfl rfl rfl ?_
    obtain ⟨g5, hr⟩ := gd hr
    refine w_iast dX14_emit_23 rfl (hz.k786 hv1) (gin (hz.n786 hv1) g5) ?_
    obtain ⟨ρ6, e7, hr⟩ := lt_e hr
    have hz := (hz.s786 (i := (Int32.toNatClampNeg (zI ρ 785 ((zR ρ 909 0 0 0).1) 0 0))) (v := x1) hv1).tr e7
    refine w_aload_n 0 dX14_emit_24 rfl rfl rfl ?_
    obtain ⟨g9, hr⟩ := gd hr
    have hv8 := hz.ww909 (p := 0) (s := 0) rfl g9
    refine g_X14_232 dX14_emit_25 rfl (hz.o14 rfl) (hz.rr909 rfl g9) ?_
    refine g_X14_241 dX14_emit_28 rfl (hz.o12 hv8) (hz.r787 hv8) ?_
    refine w_aload_n 0 dX14_emit_31 rfl rfl rfl ?_
    obtain ⟨g11, hr⟩ := gd hr
    have hv10 := hz.ww909 (p := 0) (s := 0) rfl g11
    refine g_X14_232 dX14_emit_32 rfl (hz.o14 rfl) (hz.rr909 rfl g11) ?_
    refine g_X14_238 dX14_emit_35 rfl (hz.o12 hv10) (hz.i785 hv10) ?_
    refine w_lload_n 2 dX14_emit_38 rfl rfl rfl ?_
    obtain ⟨g12, hr⟩ := gd hr
    refine w_last dX14_emit_39 rfl (hz.k787 hv8) (gin (hz.n787 hv8) g12) ?_
    obtain ⟨ρ13, e14, hr⟩ := lt_e hr
    have hz := (hz.s787 (i := (Int32.toNatClampNeg (zI ρ6 785 ((zR ρ6 909 0 0 0).1) 0 0))) (v := x2) hv8).tr e14
    refine w_aload_n 0 dX14_emit_40 rfl rfl rfl ?_
    obtain ⟨g16, hr⟩ := gd hr
    have hv15 := hz.ww909 (p := 0) (s := 0) rfl g16
    refine g_X14_232 dX14_emit_41 rfl (hz.o14 rfl) (hz.rr909 rfl g16) ?_
    refine w_dup dX14_emit_44 rfl rfl ?_
    refine g_X14_238 dX14_emit_45 rfl (hz.o12 hv15) (hz.i785 hv15) ?_
    refine w_iconst 1 dX14_emit_48 rfl rfl ?_
    refine w_iadd dX14_emit_49 rfl ?_
    refine p_X14_238 dX14_emit_50 rfl (hz.o12 hv15) ?_
    obtain ⟨ρ17, e18, hr⟩ := lt_e hr
    have hz := (hz.s785 (v := ((zI ρ13 785 ((zR ρ13 909 0 0 0).1) 0 0) + 1)) hv15).tr e18
    refine w_vret hf dX14_emit_53 rfl (Nat.le_of_ble_eq_true rfl) (Nat.le_of_ble_eq_true rfl) ?_
    obtain ⟨rfl, rfl⟩ := ret_inj hr
    exact ⟨rfl, hz⟩
  · have hr := bt q4 hr
    refine w_vret hf dX14_emit_7 rfl (Nat.le_of_ble_eq_true rfl) (Nat.le_of_ble_eq_true rfl) ?_
    obtain ⟨rfl, rfl⟩ := ret_inj hr
    exact ⟨rfl, hz⟩

set_option maxRecDepth 20000 in
set_option maxHeartbeats 4000000 in
theorem s_X14_columnOf {A : Nat → Nat → Nat → Nat} {h : Hp} {σ ρ ρ' : Zs} {v : Int32} {x1 : Int32} {x2 : Int64}  (hz : Rp A h σ ρ) (hr : fX14_columnOf x1 x2 ρ = some (v, ρ')) : ∀ l : Launch, Sp l mX14_columnOf 1 0 0 [.ref (A 14 0 0), .int x1, .long x2] h (QI A v σ ρ') X0 := by
  intro l
  refine Sp.of rfl rfl (lv := [(0, .ref (A 14 0 0)), (1, .int x1), (2, .long x2)]) (Nat.le_of_ble_eq_true rfl) rfl (fun x hf hrm => ?_)
  rw [fX14_columnOf.eq_1] at hr
  refine w_aload_n 0 dX14_columnOf_0 rfl rfl rfl ?_
  obtain ⟨g2, hr⟩ := gd hr
  have hv1 := hz.ww909 (p := 0) (s := 0) rfl g2
  refine g_X14_232 dX14_columnOf_1 rfl (hz.o14 rfl) (hz.rr909 rfl g2) ?_
  refine g_X14_289 dX14_columnOf_4 rfl (hz.o12 hv1) (hz.r772 hv1) ?_
  refine w_bipush 6 dX14_columnOf_7 rfl rfl ?_
  refine w_iload_n 1 dX14_columnOf_9 rfl rfl rfl ?_
  refine w_imul dX14_columnOf_10 rfl ?_
  refine w_aload_n 0 dX14_columnOf_11 rfl rfl rfl ?_
  obtain ⟨g4, hr⟩ := gd hr
  have hv3 := hz.ww909 (p := 0) (s := 0) rfl g4
  refine g_X14_232 dX14_columnOf_12 rfl (hz.o14 rfl) (hz.rr909 rfl g4) ?_
  refine g_X14_292 dX14_columnOf_15 rfl (hz.o12 hv3) (hz.r771 hv3) ?_
  refine w_iload_n 1 dX14_columnOf_18 rfl rfl rfl ?_
  obtain ⟨g5, hr⟩ := gd hr
  refine w_iald dX14_columnOf_19 rfl (hz.k771 hv3) (gin (hz.n771 hv3) g5) (hz.x771 hv3) ?_
  refine w_lload_n 2 dX14_columnOf_20 rfl rfl rfl ?_
  obtain ⟨v6, ρ7, e8, hr⟩ := bq_some hr
  refine c_X14_192 (b := 0) (As := [.ref (A 1796 (zR ρ 909 0 0 0).1 0), .int (6 * x1), .int (zI ρ 1795 ((zR ρ 909 0 0 0).1) 0 (Int32.toNatClampNeg x1)), .long x2]) (rest := []) (fun l => s_X14_indexOf (aok_772 hv1) rfl hz e8 l) hrm dX14_columnOf_21 rfl rfl (Nat.le_of_ble_eq_true rfl) (Nat.le_of_ble_eq_true rfl) (Nat.le_of_ble_eq_true rfl) rfl (Nat.le_of_ble_eq_true rfl) (fun vr h2 hq => ?_) (fun E9 h9 hq => hq.elim)
  obtain ⟨rfl, hz⟩ := hq
  show wp _ _ 24 [(0, .ref (A 14 0 0)), (1, .int x1), (2, .long x2)] [.int v6] _ _ _
  refine w_iret hf dX14_columnOf_24 rfl (Nat.le_of_ble_eq_true rfl) (Nat.le_of_ble_eq_true rfl) ?_
  obtain ⟨rfl, rfl⟩ := ret_inj hr
  exact ⟨rfl, hz⟩

set_option maxRecDepth 20000 in
set_option maxHeartbeats 4000000 in
theorem s_X14_streamOf {A : Nat → Nat → Nat → Nat} {h : Hp} {σ ρ ρ' : Zs} {v : Int32} {x1 : Int64}  (hz : Rp A h σ ρ) (hr : fX14_streamOf x1 ρ = some (v, ρ')) : ∀ l : Launch, Sp l mX14_streamOf 1 0 0 [.ref (A 14 0 0), .long x1] h (QI A v σ ρ') X0 := by
  intro l
  refine Sp.of rfl rfl (lv := [(0, .ref (A 14 0 0)), (1, .long x1)]) (Nat.le_of_ble_eq_true rfl) rfl (fun x hf hrm => ?_)
  rw [fX14_streamOf.eq_1] at hr
  refine w_aload_n 0 dX14_streamOf_0 rfl rfl rfl ?_
  obtain ⟨g2, hr⟩ := gd hr
  have hv1 := hz.ww909 (p := 0) (s := 0) rfl g2
  refine g_X14_232 dX14_streamOf_1 rfl (hz.o14 rfl) (hz.rr909 rfl g2) ?_
  refine g_X14_295 dX14_streamOf_4 rfl (hz.o12 hv1) (hz.r769 hv1) ?_
  refine w_iconst 0 dX14_streamOf_7 rfl rfl ?_
  refine w_aload_n 0 dX14_streamOf_8 rfl rfl rfl ?_
  obtain ⟨g4, hr⟩ := gd hr
  have hv3 := hz.ww909 (p := 0) (s := 0) rfl g4
  refine g_X14_232 dX14_streamOf_9 rfl (hz.o14 rfl) (hz.rr909 rfl g4) ?_
  refine g_X14_298 dX14_streamOf_12 rfl (hz.o12 hv3) (hz.i768 hv3) ?_
  refine w_lload_n 1 dX14_streamOf_15 rfl rfl rfl ?_
  obtain ⟨v5, ρ6, e7, hr⟩ := bq_some hr
  refine c_X14_192 (b := 0) (As := [.ref (A 1793 (zR ρ 909 0 0 0).1 0), .int 0, .int (zI ρ 768 ((zR ρ 909 0 0 0).1) 0 0), .long x1]) (rest := []) (fun l => s_X14_indexOf (aok_769 hv1) rfl hz e7 l) hrm dX14_streamOf_16 rfl rfl (Nat.le_of_ble_eq_true rfl) (Nat.le_of_ble_eq_true rfl) (Nat.le_of_ble_eq_true rfl) rfl (Nat.le_of_ble_eq_true rfl) (fun vr h2 hq => ?_) (fun E9 h9 hq => hq.elim)
  obtain ⟨rfl, hz⟩ := hq
  show wp _ _ 19 [(0, .ref (A 14 0 0)), (1, .long x1)] [.int v5] _ _ _
  refine w_iret hf dX14_streamOf_19 rfl (Nat.le_of_ble_eq_true rfl) (Nat.le_of_ble_eq_true rfl) ?_
  obtain ⟨rfl, rfl⟩ := ret_inj hr
  exact ⟨rfl, hz⟩

set_option maxRecDepth 20000 in
set_option maxHeartbeats 4000000 in
theorem s_X14_say {A : Nat → Nat → Nat → Nat} {h : Hp} {σ ρ ρ' : Zs} {v : Unit} {x1 : Int64} {x3 : Int32} {x4 : Int32}  (hz : Rp A h σ ρ) (hr : fX14_say x1 x3 x4 ρ = some (v, ρ')) : ∀ l : Launch, Sp l mX14_say 0 0 0 [.ref (A 14 0 0), .long x1, .int x3, .int x4] h (QV A v σ ρ') X0 := by
  intro l
  refine Sp.of rfl rfl (lv := [(0, .ref (A 14 0 0)), (1, .long x1), (3, .int x3), (4, .int x4)]) (Nat.le_of_ble_eq_true rfl) rfl (fun x hf hrm => ?_)
  rw [fX14_say.eq_1] at hr
  refine w_aload_n 0 dX14_say_0 rfl rfl rfl ?_
  refine g_X14_212 dX14_say_1 rfl (hz.o14 rfl) (hz.i906 rfl) ?_
  refine w_if_ne 8 dX14_say_4 rfl rfl (fun q4 => ?_) (fun q4 => ?_)
  · have hr := bf q4 hr
    refine w_aload_n 0 dX14_say_8 rfl rfl rfl ?_
    refine g_X14_33 dX14_say_9 rfl (hz.o14 rfl) (hz.r912 rfl) ?_
    refine w_aload_n 0 dX14_say_12 rfl rfl rfl ?_
    refine g_X14_313 dX14_say_13 rfl (hz.o14 rfl) (hz.i911 rfl) ?_
    refine w_lload_n 1 dX14_say_16 rfl rfl rfl ?_
    obtain ⟨g1, hr⟩ := gd hr
    refine w_last dX14_say_17 rfl (hz.k912 rfl) (gin (hz.n912 rfl) g1) ?_
    obtain ⟨ρ2, e3, hr⟩ := lt_e hr
    have hz := (hz.s912 (i := (Int32.toNatClampNeg (zI ρ 911 0 0 0))) (v := x1) rfl).tr e3
    refine w_aload_n 0 dX14_say_18 rfl rfl rfl ?_
    refine g_X14_36 dX14_say_19 rfl (hz.o14 rfl) (hz.r913 rfl) ?_
    refine w_aload_n 0 dX14_say_22 rfl rfl rfl ?_
    refine g_X14_313 dX14_say_23 rfl (hz.o14 rfl) (hz.i911 rfl) ?_
    refine w_iload_n 2 dX14_say_26 rfl rfl rfl ?_
    obtain ⟨g4, hr⟩ := gd hr
    refine w_iast dX14_say_27 rfl (hz.k913 rfl) (gin (hz.n913 rfl) g4) ?_
    obtain ⟨ρ5, e6, hr⟩ := lt_e hr
    have hz := (hz.s913 (i := (Int32.toNatClampNeg (zI ρ2 911 0 0 0))) (v := x3) rfl).tr e6
    refine w_aload_n 0 dX14_say_28 rfl rfl rfl ?_
    refine g_X14_39 dX14_say_29 rfl (hz.o14 rfl) (hz.r914 rfl) ?_
    refine w_aload_n 0 dX14_say_32 rfl rfl rfl ?_
    refine g_X14_313 dX14_say_33 rfl (hz.o14 rfl) (hz.i911 rfl) ?_
    refine w_iload 3 dX14_say_36 rfl rfl ?_
    obtain ⟨g7, hr⟩ := gd hr
    refine w_iast dX14_say_38 rfl (hz.k914 rfl) (gin (hz.n914 rfl) g7) ?_
    obtain ⟨ρ8, e9, hr⟩ := lt_e hr
    have hz := (hz.s914 (i := (Int32.toNatClampNeg (zI ρ5 911 0 0 0))) (v := x4) rfl).tr e9
    refine w_aload_n 0 dX14_say_39 rfl rfl rfl ?_
    refine w_dup dX14_say_40 rfl rfl ?_
    refine g_X14_313 dX14_say_41 rfl (hz.o14 rfl) (hz.i911 rfl) ?_
    refine w_iconst 1 dX14_say_44 rfl rfl ?_
    refine w_iadd dX14_say_45 rfl ?_
    refine p_X14_313 dX14_say_46 rfl (hz.o14 rfl) ?_
    obtain ⟨ρ10, e11, hr⟩ := lt_e hr
    have hz := (hz.s911 (v := ((zI ρ8 911 0 0 0) + 1)) rfl).tr e11
    refine w_vret hf dX14_say_49 rfl (Nat.le_of_ble_eq_true rfl) (Nat.le_of_ble_eq_true rfl) ?_
    obtain ⟨rfl, rfl⟩ := ret_inj hr
    exact ⟨rfl, hz⟩
  · have hr := bt q4 hr
    refine w_vret hf dX14_say_7 rfl (Nat.le_of_ble_eq_true rfl) (Nat.le_of_ble_eq_true rfl) ?_
    obtain ⟨rfl, rfl⟩ := ret_inj hr
    exact ⟨rfl, hz⟩

set_option maxRecDepth 20000 in
set_option maxHeartbeats 4000000 in
theorem w_X14_sayAll_2 {A : Nat → Nat → Nat → Nat} {σ ρ' : Zs} {v : Unit} {x : Cxt} {x1 : Int32} {x2 : Int32}  (hf : m_fin 0 0 (QV A v σ ρ') X0 x) (hrm : m_rm 1 0 0 x)  : ∀ (n : Nat) (y3 : Int32) (ρ : Zs) (h : Hp), Rp A h σ ρ → fX14_sayAll_2 x1 x2  n y3 ρ = some (v, ρ') → wp x mX14_sayAll 2 [(0, .ref (A 14 0 0)), (1, .int x1), (2, .int x2), (3, .int y3)] [] h 0 0
  | 0, _, ρ, h => fun hz hr => by
    rw [fX14_sayAll_2.eq_1] at hr
    exact nono hr
  | n + 1, y3, ρ, h => fun hz hr => by
    rw [fX14_sayAll_2.eq_2] at hr
    refine w_aload_n 0 dX14_sayAll_2 rfl rfl rfl ?_
    refine g_X14_212 dX14_sayAll_3 rfl (hz.o14 rfl) (hz.i906 rfl) ?_
    refine w_if_eq 53 dX14_sayAll_6 rfl rfl (fun q6 => ?_) (fun q6 => ?_)
    · have hr := bt q6 hr
      refine w_vret hf dX14_sayAll_53 rfl (Nat.le_of_ble_eq_true rfl) (Nat.le_of_ble_eq_true rfl) ?_
      obtain ⟨rfl, rfl⟩ := ret_inj hr
      exact ⟨rfl, hz⟩
    · have hr := bf q6 hr
      refine w_iload_n 3 dX14_sayAll_9 rfl rfl rfl ?_
      refine w_aload_n 0 dX14_sayAll_10 rfl rfl rfl ?_
      obtain ⟨g2, hr⟩ := gd hr
      have hv1 := hz.ww909 (p := 0) (s := 0) rfl g2
      refine g_X14_232 dX14_sayAll_11 rfl (hz.o14 rfl) (hz.rr909 rfl g2) ?_
      refine g_X14_292 dX14_sayAll_14 rfl (hz.o12 hv1) (hz.r771 hv1) ?_
      refine w_iload_n 1 dX14_sayAll_17 rfl rfl rfl ?_
      obtain ⟨g3, hr⟩ := gd hr
      refine w_iald dX14_sayAll_18 rfl (hz.k771 hv1) (gin (hz.n771 hv1) g3) (hz.x771 hv1) ?_
      refine w_icmp_ge 53 dX14_sayAll_19 rfl rfl (fun q19 => ?_) (fun q19 => ?_)
      · have hr := bt q19 hr
        refine w_vret hf dX14_sayAll_53 rfl (Nat.le_of_ble_eq_true rfl) (Nat.le_of_ble_eq_true rfl) ?_
        obtain ⟨rfl, rfl⟩ := ret_inj hr
        exact ⟨rfl, hz⟩
      · have hr := bf q19 hr
        refine w_iload_n 3 dX14_sayAll_22 rfl rfl rfl ?_
        refine w_iload_n 2 dX14_sayAll_23 rfl rfl rfl ?_
        refine w_icmp_eq 47 dX14_sayAll_24 rfl rfl (fun q24 => ?_) (fun q24 => ?_)
        · have hr := bt q24 hr
          refine w_iinc 3 (y3 + 1) [(3, .int (y3 + 1)), (0, .ref (A 14 0 0)), (1, .int x1), (2, .int x2)] dX14_sayAll_47 rfl rfl rfl (by decide) rfl ?_
          refine w_goto 2 dX14_sayAll_50 rfl ?_
          refine w_lv [(0, .ref (A 14 0 0)), (1, .int x1), (2, .int x2), (3, .int (y3 + 1))] [1, 2, 3, 0] rfl ?_
          exact w_X14_sayAll_2 hf hrm   n (y3 + 1) _ _ hz  hr
        · have hr := bf q24 hr
          refine w_aload_n 0 dX14_sayAll_27 rfl rfl rfl ?_
          refine w_aload_n 0 dX14_sayAll_28 rfl rfl rfl ?_
          obtain ⟨g5, hr⟩ := gd hr
          have hv4 := hz.ww909 (p := 0) (s := 0) rfl g5
          refine g_X14_232 dX14_sayAll_29 rfl (hz.o14 rfl) (hz.rr909 rfl g5) ?_
          refine g_X14_289 dX14_sayAll_32 rfl (hz.o12 hv4) (hz.r772 hv4) ?_
          refine w_bipush 6 dX14_sayAll_35 rfl rfl ?_
          refine w_iload_n 1 dX14_sayAll_37 rfl rfl rfl ?_
          refine w_imul dX14_sayAll_38 rfl ?_
          refine w_iload_n 3 dX14_sayAll_39 rfl rfl rfl ?_
          refine w_iadd dX14_sayAll_40 rfl ?_
          obtain ⟨g6, hr⟩ := gd hr
          refine w_lald dX14_sayAll_41 rfl (hz.k772 hv4) (gin (hz.n772 hv4) g6) (hz.x772 hv4) ?_
          refine w_iload_n 3 dX14_sayAll_42 rfl rfl rfl ?_
          refine w_iconst 0 dX14_sayAll_43 rfl rfl ?_
          obtain ⟨v7, ρ8, e9, hr⟩ := bq_some hr
          refine c_X14_316 (As := [.long (zJ ρ 1796 ((zR ρ 909 0 0 0).1) 0 (Int32.toNatClampNeg ((6 * x1) + y3))), .int y3, .int 0]) (rest := []) (fun l => s_X14_say  hz e9 l) hrm dX14_sayAll_44 rfl rfl (Nat.le_of_ble_eq_true rfl) (Nat.le_of_ble_eq_true rfl) (Nat.le_of_ble_eq_true rfl) (hz.o14 rfl) rfl (Nat.le_of_ble_eq_true rfl) (fun vr h2 hq => ?_) (fun E9 h9 hq => hq.elim)
          obtain ⟨rfl, hz⟩ := hq
          show wp _ _ 47 [(0, .ref (A 14 0 0)), (1, .int x1), (2, .int x2), (3, .int y3)] [] _ _ _
          refine w_iinc 3 (y3 + 1) [(3, .int (y3 + 1)), (0, .ref (A 14 0 0)), (1, .int x1), (2, .int x2)] dX14_sayAll_47 rfl rfl rfl (by decide) rfl ?_
          refine w_goto 2 dX14_sayAll_50 rfl ?_
          refine w_lv [(0, .ref (A 14 0 0)), (1, .int x1), (2, .int x2), (3, .int (y3 + 1))] [1, 2, 3, 0] rfl ?_
          exact w_X14_sayAll_2 hf hrm   n (y3 + 1) _ _ hz  hr
set_option maxRecDepth 20000 in
set_option maxHeartbeats 4000000 in
theorem s_X14_sayAll {A : Nat → Nat → Nat → Nat} {h : Hp} {σ ρ ρ' : Zs} {v : Unit} {x1 : Int32} {x2 : Int32}  (hz : Rp A h σ ρ) (hr : fX14_sayAll x1 x2 ρ = some (v, ρ')) : ∀ l : Launch, Sp l mX14_sayAll 1 0 0 [.ref (A 14 0 0), .int x1, .int x2] h (QV A v σ ρ') X0 := by
  intro l
  refine Sp.of rfl rfl (lv := [(0, .ref (A 14 0 0)), (1, .int x1), (2, .int x2)]) (Nat.le_of_ble_eq_true rfl) rfl (fun x hf hrm => ?_)
  rw [fX14_sayAll.eq_1] at hr
  refine w_iconst 0 dX14_sayAll_0 rfl rfl ?_
  refine w_istore_n [(3, .int 0), (0, .ref (A 14 0 0)), (1, .int x1), (2, .int x2)] dX14_sayAll_1 rfl rfl (by decide) rfl ?_
  refine w_lv [(0, .ref (A 14 0 0)), (1, .int x1), (2, .int x2), (3, .int 0)] [1, 2, 3, 0] rfl ?_
  exact w_X14_sayAll_2 hf hrm   FU 0 _ _ hz  hr

set_option maxRecDepth 20000 in
set_option maxHeartbeats 4000000 in
theorem s_X14_errorAt {A : Nat → Nat → Nat → Nat} {h : Hp} {σ ρ ρ' : Zs} {v : Int32}   (hz : Rp A h σ ρ) (hr : fX14_errorAt  ρ = some (v, ρ')) : ∀ l : Launch, Sp l mX14_errorAt 0 0 0 [.ref (A 14 0 0)] h (QI A v σ ρ') X0 := by
  intro l
  refine Sp.of rfl rfl (lv := [(0, .ref (A 14 0 0))]) (Nat.le_of_ble_eq_true rfl) rfl (fun x hf hrm => ?_)
  rw [fX14_errorAt.eq_1] at hr
  refine w_aload_n 0 dX14_errorAt_0 rfl rfl rfl ?_
  refine w_iconst 0 dX14_errorAt_1 rfl rfl ?_
  refine p_X14_149 dX14_errorAt_2 rfl (hz.o14 rfl) ?_
  obtain ⟨ρ1, e2, hr⟩ := lt_e hr
  have hz := (hz.s896 (v := 0) rfl).tr e2
  refine w_aload_n 0 dX14_errorAt_5 rfl rfl rfl ?_
  refine g_X14_42 dX14_errorAt_6 rfl (hz.o14 rfl) (hz.i915 rfl) ?_
  refine w_iret hf dX14_errorAt_9 rfl (Nat.le_of_ble_eq_true rfl) (Nat.le_of_ble_eq_true rfl) ?_
  obtain ⟨rfl, rfl⟩ := ret_inj hr
  exact ⟨rfl, hz⟩

set_option maxRecDepth 20000 in
set_option maxHeartbeats 4000000 in
theorem w_X14_find_93 {A : Nat → Nat → Nat → Nat} {σ ρ' : Zs} {v : Int32} {x : Cxt}   (hf : m_fin 0 0 (QI A v σ ρ') X0 x) (hrm : m_rm 2 0 0 x)  : ∀ (y1 : Int64) (y3 : Int32) (ρ : Zs) (h : Hp), Rp A h σ ρ → fX14_find_93   y1 y3 ρ = some (v, ρ') → wp x mX14_find 93 [(0, .ref (A 14 0 0)), (1, .long y1), (3, .int y3)] [] h 0 0 := by
  intro y1 y3 ρ h hz hr
  rw [fX14_find_93.eq_1] at hr
  refine w_aload_n 0 dX14_find_93 rfl rfl rfl ?_
  refine w_iconst 0 dX14_find_94 rfl rfl ?_
  refine p_X14_152 dX14_find_95 rfl (hz.o14 rfl) ?_
  obtain ⟨ρ7, e8, hr⟩ := lt_e hr
  have hz := (hz.s900 (v := 0) rfl).tr e8
  refine w_iload_n 2 dX14_find_98 rfl rfl rfl ?_
  refine w_if_eq 124 dX14_find_99 rfl rfl (fun q99 => ?_) (fun q99 => ?_)
  · have hr := bt q99 hr
    refine w_iconst (-1) dX14_find_124 rfl rfl ?_
    refine w_iret hf dX14_find_125 rfl (Nat.le_of_ble_eq_true rfl) (Nat.le_of_ble_eq_true rfl) ?_
    obtain ⟨rfl, rfl⟩ := ret_inj hr
    exact ⟨rfl, hz⟩
  · have hr := bf q99 hr
    refine w_aload_n 0 dX14_find_102 rfl rfl rfl ?_
    have hv9 := hz.ww898 (p := 0) (s := 0) rfl
    refine g_X14_16 dX14_find_103 rfl (hz.o14 rfl) (hz.rr898 rfl) ?_
    refine g_X14_295 dX14_find_106 rfl (hz.o12 hv9) (hz.r769 hv9) ?_
    refine w_iconst 0 dX14_find_109 rfl rfl ?_
    refine w_aload_n 0 dX14_find_110 rfl rfl rfl ?_
    have hv10 := hz.ww898 (p := 0) (s := 0) rfl
    refine g_X14_16 dX14_find_111 rfl (hz.o14 rfl) (hz.rr898 rfl) ?_
    refine g_X14_298 dX14_find_114 rfl (hz.o12 hv10) (hz.i768 hv10) ?_
    refine w_lload_n 1 dX14_find_117 rfl rfl rfl ?_
    obtain ⟨v11, ρ12, e13, hr⟩ := bq_some hr
    refine c_X14_192 (b := 0) (As := [.ref (A 1793 (zR ρ7 898 0 0 0).1 0), .int 0, .int (zI ρ7 768 ((zR ρ7 898 0 0 0).1) 0 0), .long y1]) (rest := []) (fun l => s_X14_indexOf (aok_769 hv9) rfl hz e13 l) hrm dX14_find_118 rfl rfl (Nat.le_of_ble_eq_true rfl) (Nat.le_of_ble_eq_true rfl) (Nat.le_of_ble_eq_true rfl) rfl (Nat.le_of_ble_eq_true rfl) (fun vr h2 hq => ?_) (fun E9 h9 hq => hq.elim)
    obtain ⟨rfl, hz⟩ := hq
    show wp _ _ 121 [(0, .ref (A 14 0 0)), (1, .long y1), (3, .int y3)] [.int v11] _ _ _
    refine w_goto 125 dX14_find_121 rfl ?_
    refine w_iret hf dX14_find_125 rfl (Nat.le_of_ble_eq_true rfl) (Nat.le_of_ble_eq_true rfl) ?_
    obtain ⟨rfl, rfl⟩ := ret_inj hr
    exact ⟨rfl, hz⟩
set_option maxRecDepth 20000 in
set_option maxHeartbeats 4000000 in
theorem w_X14_find_72 {A : Nat → Nat → Nat → Nat} {σ ρ' : Zs} {v : Int32} {x : Cxt}  {k23 : Int64 → Int32 → Int32 → Zs → Option (Int32 × Zs)}  (hf : m_fin 0 0 (QI A v σ ρ') X0 x) (hrm : m_rm 2 0 0 x)  (hk23 : ∀ (y1 : Int64) (y3 : Int32) (y4 : Int32) (ρ : Zs) (h : Hp), Rp A h σ ρ → k23 y1 y3 y4 ρ = some (v, ρ') → wp x mX14_find 23 [(0, .ref (A 14 0 0)), (1, .long y1), (3, .int y3), (4, .int y4)] [] h 0 0) : ∀ (y1 : Int64) (y4 : Int32) (z0 : Int32) (ρ : Zs) (h : Hp), Rp A h σ ρ → fX14_find_72  k23 y1 y4 z0 ρ = some (v, ρ') → wp x mX14_find 72 [(0, .ref (A 14 0 0)), (1, .long y1), (4, .int y4)] [.int z0] h 0 0 := by
  intro y1 y4 z0 ρ h hz hr
  rw [fX14_find_72.eq_1] at hr
  refine w_istore_n [(3, .int z0), (0, .ref (A 14 0 0)), (1, .long y1), (4, .int y4)] dX14_find_72 rfl rfl (by decide) rfl ?_
  refine w_lload_n 2 dX14_find_73 rfl rfl rfl ?_
  refine w_bipush 8 dX14_find_74 rfl rfl ?_
  refine w_lshl dX14_find_76 rfl ?_
  refine w_aload_n 1 dX14_find_77 rfl rfl rfl ?_
  refine g_X14_20 dX14_find_78 rfl (hz.o14 rfl) (hz.r899 rfl) ?_
  refine w_iload 3 dX14_find_81 rfl rfl ?_
  obtain ⟨g20, hr⟩ := gd hr
  refine w_iald dX14_find_83 rfl (hz.k899 rfl) (gin (hz.n899 rfl) g20) (hz.x899 rfl) ?_
  refine w_i2l dX14_find_84 rfl ?_
  refine w_lor dX14_find_85 rfl ?_
  refine w_lstore_n [(1, .long ((y1 <<< ((8 : Int32).toInt64 &&& 63)) ||| (((zI ρ 1923 0 0 (Int32.toNatClampNeg y4)) : Int32).toInt64))), (3, .int z0), (0, .ref (A 14 0 0)), (4, .int y4)] dX14_find_86 rfl rfl (by decide) rfl ?_
  refine w_iinc 3 (y4 + 1) [(4, .int (y4 + 1)), (1, .long ((y1 <<< ((8 : Int32).toInt64 &&& 63)) ||| (((zI ρ 1923 0 0 (Int32.toNatClampNeg y4)) : Int32).toInt64))), (3, .int z0), (0, .ref (A 14 0 0))] dX14_find_87 rfl rfl rfl (by decide) rfl ?_
  refine w_goto 23 dX14_find_90 rfl ?_
  refine w_lv [(0, .ref (A 14 0 0)), (1, .long ((y1 <<< ((8 : Int32).toInt64 &&& 63)) ||| (((zI ρ 1923 0 0 (Int32.toNatClampNeg y4)) : Int32).toInt64))), (3, .int z0), (4, .int (y4 + 1))] [3, 1, 2, 0] rfl ?_
  exact hk23 ((y1 <<< ((8 : Int32).toInt64 &&& 63)) ||| (((zI ρ 1923 0 0 (Int32.toNatClampNeg y4)) : Int32).toInt64)) z0 (y4 + 1) _ _ hz  hr
set_option maxRecDepth 20000 in
set_option maxHeartbeats 4000000 in
theorem w_X14_find_23 {A : Nat → Nat → Nat → Nat} {σ ρ' : Zs} {v : Int32} {x : Cxt}   (hf : m_fin 0 0 (QI A v σ ρ') X0 x) (hrm : m_rm 2 0 0 x)  : ∀ (n : Nat) (y1 : Int64) (y3 : Int32) (y4 : Int32) (ρ : Zs) (h : Hp), Rp A h σ ρ → fX14_find_23   n y1 y3 y4 ρ = some (v, ρ') → wp x mX14_find 23 [(0, .ref (A 14 0 0)), (1, .long y1), (3, .int y3), (4, .int y4)] [] h 0 0
  | 0, _, _, _, ρ, h => fun hz hr => by
    rw [fX14_find_23.eq_1] at hr
    exact nono hr
  | n + 1, y1, y3, y4, ρ, h => fun hz hr => by
    rw [fX14_find_23.eq_2] at hr
    refine w_iload 3 dX14_find_23 rfl rfl ?_
    refine w_aload_n 0 dX14_find_25 rfl rfl rfl ?_
    refine g_X14_152 dX14_find_26 rfl (hz.o14 rfl) (hz.i900 rfl) ?_
    refine w_icmp_ge 93 dX14_find_29 rfl rfl (fun q29 => ?_) (fun q29 => ?_)
    · have hr := bt q29 hr
      refine w_lv [(0, .ref (A 14 0 0)), (1, .long y1), (3, .int y3)] [0, 1, 2] rfl ?_
      exact w_X14_find_93 hf hrm   y1 y3 _ _ hz  hr
    · have hr := bf q29 hr
      refine w_iload_n 2 dX14_find_32 rfl rfl rfl ?_
      refine w_if_eq 93 dX14_find_33 rfl rfl (fun q33 => ?_) (fun q33 => ?_)
      · have hr := bt q33 hr
        refine w_lv [(0, .ref (A 14 0 0)), (1, .long y1), (3, .int y3)] [0, 1, 2] rfl ?_
        exact w_X14_find_93 hf hrm   y1 y3 _ _ hz  hr
      · have hr := bf q33 hr
        refine w_aload_n 0 dX14_find_36 rfl rfl rfl ?_
        refine g_X14_20 dX14_find_37 rfl (hz.o14 rfl) (hz.r899 rfl) ?_
        refine w_iload 3 dX14_find_40 rfl rfl ?_
        obtain ⟨g15, hr⟩ := gd hr
        refine w_iald dX14_find_42 rfl (hz.k899 rfl) (gin (hz.n899 rfl) g15) (hz.x899 rfl) ?_
        obtain ⟨v16, ρ17, e18, hr⟩ := bq_some hr
        refine c_X14_185 (b := 0) (As := [.int (zI ρ 1923 0 0 (Int32.toNatClampNeg y4))]) (rest := []) (fun l => s_X14_isLetter  hz e18 l) hrm dX14_find_43 rfl rfl (Nat.le_of_ble_eq_true rfl) (Nat.le_of_ble_eq_true rfl) (Nat.le_of_ble_eq_true rfl) rfl (Nat.le_of_ble_eq_true rfl) (fun vr h2 hq => ?_) (fun E9 h9 hq => hq.elim)
        obtain ⟨rfl, hz⟩ := hq
        show wp _ _ 46 [(0, .ref (A 14 0 0)), (1, .long y1), (3, .int y3), (4, .int y4)] [.int v16] _ _ _
        refine w_if_ne 67 dX14_find_46 rfl rfl (fun q46 => ?_) (fun q46 => ?_)
        · have hr := bf q46 hr
          refine w_iconst 1 dX14_find_67 rfl rfl ?_
          refine w_goto 72 dX14_find_68 rfl ?_
          refine w_lv [(0, .ref (A 14 0 0)), (1, .long y1), (4, .int y4)] [0, 1, 3] rfl ?_
          exact w_X14_find_72 hf hrm  (fun by1 by3 by4 zb hb hzb  hrb => w_X14_find_23 hf hrm   n by1 by3 by4 zb hb hzb  hrb) y1 y4 1 _ _ hz  hr
        · have hr := bt q46 hr
          refine w_aload_n 0 dX14_find_49 rfl rfl rfl ?_
          refine g_X14_20 dX14_find_50 rfl (hz.o14 rfl) (hz.r899 rfl) ?_
          refine w_iload 3 dX14_find_53 rfl rfl ?_
          obtain ⟨g21, hr⟩ := gd hr
          refine w_iald dX14_find_55 rfl (hz.k899 rfl) (gin (hz.n899 rfl) g21) (hz.x899 rfl) ?_
          obtain ⟨v22, ρ23, e24, hr⟩ := bq_some hr
          refine c_X14_189 (b := 0) (As := [.int (zI ρ17 1923 0 0 (Int32.toNatClampNeg y4))]) (rest := []) (fun l => s_X14_isDigit  hz e24 l) hrm dX14_find_56 rfl rfl (Nat.le_of_ble_eq_true rfl) (Nat.le_of_ble_eq_true rfl) (Nat.le_of_ble_eq_true rfl) rfl (Nat.le_of_ble_eq_true rfl) (fun vr h2 hq => ?_) (fun E9 h9 hq => hq.elim)
          obtain ⟨rfl, hz⟩ := hq
          show wp _ _ 59 [(0, .ref (A 14 0 0)), (1, .long y1), (3, .int y3), (4, .int y4)] [.int v22] _ _ _
          refine w_if_eq 71 dX14_find_59 rfl rfl (fun q59 => ?_) (fun q59 => ?_)
          · have hr := bt q59 hr
            refine w_iconst 0 dX14_find_71 rfl rfl ?_
            refine w_lv [(0, .ref (A 14 0 0)), (1, .long y1), (4, .int y4)] [0, 1, 3] rfl ?_
            exact w_X14_find_72 hf hrm  (fun by1 by3 by4 zb hb hzb  hrb => w_X14_find_23 hf hrm   n by1 by3 by4 zb hb hzb  hrb) y1 y4 0 _ _ hz  hr
          · have hr := bf q59 hr
            refine w_iload 3 dX14_find_62 rfl rfl ?_
            refine w_if_le 71 dX14_find_64 rfl rfl (fun q64 => ?_) (fun q64 => ?_)
            · have hr := bt q64 hr
              refine w_iconst 0 dX14_find_71 rfl rfl ?_
              refine w_lv [(0, .ref (A 14 0 0)), (1, .long y1), (4, .int y4)] [0, 1, 3] rfl ?_
              exact w_X14_find_72 hf hrm  (fun by1 by3 by4 zb hb hzb  hrb => w_X14_find_23 hf hrm   n by1 by3 by4 zb hb hzb  hrb) y1 y4 0 _ _ hz  hr
            · have hr := bf q64 hr
              refine w_iconst 1 dX14_find_67 rfl rfl ?_
              refine w_goto 72 dX14_find_68 rfl ?_
              refine w_lv [(0, .ref (A 14 0 0)), (1, .long y1), (4, .int y4)] [0, 1, 3] rfl ?_
              exact w_X14_find_72 hf hrm  (fun by1 by3 by4 zb hb hzb  hrb => w_X14_find_23 hf hrm   n by1 by3 by4 zb hb hzb  hrb) y1 y4 1 _ _ hz  hr
set_option maxRecDepth 20000 in
set_option maxHeartbeats 4000000 in
theorem s_X14_find {A : Nat → Nat → Nat → Nat} {h : Hp} {σ ρ ρ' : Zs} {v : Int32}   (hz : Rp A h σ ρ) (hr : fX14_find  ρ = some (v, ρ')) : ∀ l : Launch, Sp l mX14_find 2 0 0 [.ref (A 14 0 0)] h (QI A v σ ρ') X0 := by
  intro l
  refine Sp.of rfl rfl (lv := [(0, .ref (A 14 0 0))]) (Nat.le_of_ble_eq_true rfl) rfl (fun x hf hrm => ?_)
  rw [fX14_find.eq_1] at hr
  refine w_aload_n 0 dX14_find_0 rfl rfl rfl ?_
  refine w_iconst 0 dX14_find_1 rfl rfl ?_
  refine p_X14_149 dX14_find_2 rfl (hz.o14 rfl) ?_
  obtain ⟨ρ1, e2, hr⟩ := lt_e hr
  have hz := (hz.s896 (v := 0) rfl).tr e2
  refine w_lconst 0 dX14_find_5 rfl rfl ?_
  refine w_lstore_n [(1, .long 0), (0, .ref (A 14 0 0))] dX14_find_6 rfl rfl (by decide) rfl ?_
  refine w_aload_n 1 dX14_find_7 rfl rfl rfl ?_
  refine g_X14_152 dX14_find_8 rfl (hz.o14 rfl) (hz.i900 rfl) ?_
  refine w_i2l dX14_find_11 rfl ?_
  refine w_lconst 1 dX14_find_12 rfl rfl ?_
  refine w_ldc2 dX14_find_13 rfl k_X14_435 ?_
  obtain ⟨v3, ρ4, e5, hr⟩ := bq_some hr
  refine c_X14_163 (b := 0) (As := [.long (((zI ρ1 900 0 0 0) : Int32).toInt64), .long 1, .long 8]) (rest := []) (fun l => s_X14_isIn  hz e5 l) hrm dX14_find_16 rfl rfl (Nat.le_of_ble_eq_true rfl) (Nat.le_of_ble_eq_true rfl) (Nat.le_of_ble_eq_true rfl) rfl (Nat.le_of_ble_eq_true rfl) (fun vr h2 hq => ?_) (fun E9 h9 hq => hq.elim)
  obtain ⟨rfl, hz⟩ := hq
  show wp _ _ 19 [(1, .long 0), (0, .ref (A 14 0 0))] [.int v3] _ _ _
  refine w_istore_n [(3, .int v3), (1, .long 0), (0, .ref (A 14 0 0))] dX14_find_19 rfl rfl (by decide) rfl ?_
  refine w_iconst 0 dX14_find_20 rfl rfl ?_
  refine w_istore [(4, .int 0), (3, .int v3), (1, .long 0), (0, .ref (A 14 0 0))] dX14_find_21 rfl (by decide) rfl ?_
  refine w_lv [(0, .ref (A 14 0 0)), (1, .long 0), (3, .int v3), (4, .int 0)] [3, 2, 1, 0] rfl ?_
  exact w_X14_find_23 hf hrm   FU 0 v3 0 _ _ hz  hr

set_option maxRecDepth 20000 in
set_option maxHeartbeats 4000000 in
theorem s_X14_counted {A : Nat → Nat → Nat → Nat} {h : Hp} {σ ρ ρ' : Zs} {v : Int32} {x1 : Int32}  (hz : Rp A h σ ρ) (hr : fX14_counted x1 ρ = some (v, ρ')) : ∀ l : Launch, Sp l mX14_counted 0 0 0 [.ref (A 14 0 0), .int x1] h (QI A v σ ρ') X0 := by
  intro l
  refine Sp.of rfl rfl (lv := [(0, .ref (A 14 0 0)), (1, .int x1)]) (Nat.le_of_ble_eq_true rfl) rfl (fun x hf hrm => ?_)
  rw [fX14_counted.eq_1] at hr
  refine w_iload_n 1 dX14_counted_0 rfl rfl rfl ?_
  refine w_if_ne 14 dX14_counted_1 rfl rfl (fun q1 => ?_) (fun q1 => ?_)
  · have hr := bf q1 hr
    refine w_iload_n 1 dX14_counted_14 rfl rfl rfl ?_
    refine w_iconst 1 dX14_counted_15 rfl rfl ?_
    refine w_icmp_ne 29 dX14_counted_16 rfl rfl (fun q16 => ?_) (fun q16 => ?_)
    · have hr := bf q16 hr
      refine w_iload_n 1 dX14_counted_29 rfl rfl rfl ?_
      refine w_iconst 2 dX14_counted_30 rfl rfl ?_
      refine w_icmp_ne 41 dX14_counted_31 rfl rfl (fun q31 => ?_) (fun q31 => ?_)
      · have hr := bf q31 hr
        refine w_iload_n 1 dX14_counted_41 rfl rfl rfl ?_
        refine w_iconst 3 dX14_counted_42 rfl rfl ?_
        refine w_icmp_ne 53 dX14_counted_43 rfl rfl (fun q43 => ?_) (fun q43 => ?_)
        · have hr := bf q43 hr
          refine w_iload_n 1 dX14_counted_53 rfl rfl rfl ?_
          refine w_iconst 4 dX14_counted_54 rfl rfl ?_
          refine w_icmp_ne 65 dX14_counted_55 rfl rfl (fun q55 => ?_) (fun q55 => ?_)
          · have hr := bf q55 hr
            refine w_aload_n 0 dX14_counted_65 rfl rfl rfl ?_
            refine g_X14_440 dX14_counted_66 rfl (hz.o14 rfl) (hz.i923 rfl) ?_
            refine w_iret hf dX14_counted_69 rfl (Nat.le_of_ble_eq_true rfl) (Nat.le_of_ble_eq_true rfl) ?_
            obtain ⟨rfl, rfl⟩ := ret_inj hr
            exact ⟨rfl, hz⟩
          · have hr := bt q55 hr
            refine w_aload_n 0 dX14_counted_58 rfl rfl rfl ?_
            refine g_X14_423 dX14_counted_59 rfl (hz.o14 rfl) (hz.i946 rfl) ?_
            refine w_goto 69 dX14_counted_62 rfl ?_
            refine w_iret hf dX14_counted_69 rfl (Nat.le_of_ble_eq_true rfl) (Nat.le_of_ble_eq_true rfl) ?_
            obtain ⟨rfl, rfl⟩ := ret_inj hr
            exact ⟨rfl, hz⟩
        · have hr := bt q43 hr
          refine w_aload_n 0 dX14_counted_46 rfl rfl rfl ?_
          refine g_X14_437 dX14_counted_47 rfl (hz.o14 rfl) (hz.i940 rfl) ?_
          refine w_goto 69 dX14_counted_50 rfl ?_
          refine w_iret hf dX14_counted_69 rfl (Nat.le_of_ble_eq_true rfl) (Nat.le_of_ble_eq_true rfl) ?_
          obtain ⟨rfl, rfl⟩ := ret_inj hr
          exact ⟨rfl, hz⟩
      · have hr := bt q31 hr
        refine w_aload_n 0 dX14_counted_34 rfl rfl rfl ?_
        refine g_X14_152 dX14_counted_35 rfl (hz.o14 rfl) (hz.i900 rfl) ?_
        refine w_goto 69 dX14_counted_38 rfl ?_
        refine w_iret hf dX14_counted_69 rfl (Nat.le_of_ble_eq_true rfl) (Nat.le_of_ble_eq_true rfl) ?_
        obtain ⟨rfl, rfl⟩ := ret_inj hr
        exact ⟨rfl, hz⟩
    · have hr := bt q16 hr
      refine w_aload_n 0 dX14_counted_19 rfl rfl rfl ?_
      have hv1 := hz.ww898 (p := 0) (s := 0) rfl
      refine g_X14_16 dX14_counted_20 rfl (hz.o14 rfl) (hz.rr898 rfl) ?_
      refine g_X14_341 dX14_counted_23 rfl (hz.o12 hv1) (hz.i781 hv1) ?_
      refine w_goto 69 dX14_counted_26 rfl ?_
      refine w_iret hf dX14_counted_69 rfl (Nat.le_of_ble_eq_true rfl) (Nat.le_of_ble_eq_true rfl) ?_
      obtain ⟨rfl, rfl⟩ := ret_inj hr
      exact ⟨rfl, hz⟩
  · have hr := bt q1 hr
    refine w_aload_n 0 dX14_counted_4 rfl rfl rfl ?_
    have hv2 := hz.ww898 (p := 0) (s := 0) rfl
    refine g_X14_16 dX14_counted_5 rfl (hz.o14 rfl) (hz.rr898 rfl) ?_
    refine g_X14_298 dX14_counted_8 rfl (hz.o12 hv2) (hz.i768 hv2) ?_
    refine w_goto 69 dX14_counted_11 rfl ?_
    refine w_iret hf dX14_counted_69 rfl (Nat.le_of_ble_eq_true rfl) (Nat.le_of_ble_eq_true rfl) ?_
    obtain ⟨rfl, rfl⟩ := ret_inj hr
    exact ⟨rfl, hz⟩

set_option maxRecDepth 20000 in
set_option maxHeartbeats 4000000 in
theorem s_X14_count {A : Nat → Nat → Nat → Nat} {h : Hp} {σ ρ ρ' : Zs} {v : Int32} {x1 : Int32}  (hz : Rp A h σ ρ) (hr : fX14_count x1 ρ = some (v, ρ')) : ∀ l : Launch, Sp l mX14_count 1 0 0 [.ref (A 14 0 0), .int x1] h (QI A v σ ρ') X0 := by
  intro l
  refine Sp.of rfl rfl (lv := [(0, .ref (A 14 0 0)), (1, .int x1)]) (Nat.le_of_ble_eq_true rfl) rfl (fun x hf hrm => ?_)
  rw [fX14_count.eq_1] at hr
  refine w_aload_n 0 dX14_count_0 rfl rfl rfl ?_
  refine w_iconst 0 dX14_count_1 rfl rfl ?_
  refine p_X14_149 dX14_count_2 rfl (hz.o14 rfl) ?_
  obtain ⟨ρ1, e2, hr⟩ := lt_e hr
  have hz := (hz.s896 (v := 0) rfl).tr e2
  refine w_iload_n 1 dX14_count_5 rfl rfl rfl ?_
  refine w_i2l dX14_count_6 rfl ?_
  refine w_lconst 0 dX14_count_7 rfl rfl ?_
  refine w_ldc2 dX14_count_8 rfl k_X14_443 ?_
  obtain ⟨v3, ρ4, e5, hr⟩ := bq_some hr
  refine c_X14_163 (b := 0) (As := [.long ((x1 : Int32).toInt64), .long 0, .long 5]) (rest := []) (fun l => s_X14_isIn  hz e5 l) hrm dX14_count_11 rfl rfl (Nat.le_of_ble_eq_true rfl) (Nat.le_of_ble_eq_true rfl) (Nat.le_of_ble_eq_true rfl) rfl (Nat.le_of_ble_eq_true rfl) (fun vr h2 hq => ?_) (fun E9 h9 hq => hq.elim)
  obtain ⟨rfl, hz⟩ := hq
  show wp _ _ 14 [(0, .ref (A 14 0 0)), (1, .int x1)] [.int v3] _ _ _
  refine w_if_eq 25 dX14_count_14 rfl rfl (fun q14 => ?_) (fun q14 => ?_)
  · have hr := bt q14 hr
    refine w_aload_n 0 dX14_count_25 rfl rfl rfl ?_
    refine w_iconst 1 dX14_count_26 rfl rfl ?_
    obtain ⟨v7, ρ8, e9, hr⟩ := bq_some hr
    refine c_X14_155 (As := [.int 1]) (rest := []) (fun l => s_X14_fail  hz e9 l) hrm dX14_count_27 rfl rfl (Nat.le_of_ble_eq_true rfl) (Nat.le_of_ble_eq_true rfl) (Nat.le_of_ble_eq_true rfl) (hz.o14 rfl) rfl (Nat.le_of_ble_eq_true rfl) (fun vr h2 hq => ?_) (fun E9 h9 hq => hq.elim)
    obtain ⟨rfl, hz⟩ := hq
    show wp _ _ 30 [(0, .ref (A 14 0 0)), (1, .int x1)] [.int v7] _ _ _
    refine w_iret hf dX14_count_30 rfl (Nat.le_of_ble_eq_true rfl) (Nat.le_of_ble_eq_true rfl) ?_
    obtain ⟨rfl, rfl⟩ := ret_inj hr
    exact ⟨rfl, hz⟩
  · have hr := bf q14 hr
    refine w_aload_n 0 dX14_count_17 rfl rfl rfl ?_
    refine w_iload_n 1 dX14_count_18 rfl rfl rfl ?_
    obtain ⟨v11, ρ12, e13, hr⟩ := bq_some hr
    refine c_X14_445 (As := [.int x1]) (rest := []) (fun l => s_X14_counted  hz e13 l) hrm dX14_count_19 rfl rfl (Nat.le_of_ble_eq_true rfl) (Nat.le_of_ble_eq_true rfl) (Nat.le_of_ble_eq_true rfl) (hz.o14 rfl) rfl (Nat.le_of_ble_eq_true rfl) (fun vr h2 hq => ?_) (fun E9 h9 hq => hq.elim)
    obtain ⟨rfl, hz⟩ := hq
    show wp _ _ 22 [(0, .ref (A 14 0 0)), (1, .int x1)] [.int v11] _ _ _
    refine w_goto 30 dX14_count_22 rfl ?_
    refine w_iret hf dX14_count_30 rfl (Nat.le_of_ble_eq_true rfl) (Nat.le_of_ble_eq_true rfl) ?_
    obtain ⟨rfl, rfl⟩ := ret_inj hr
    exact ⟨rfl, hz⟩

set_option maxRecDepth 20000 in
set_option maxHeartbeats 4000000 in
theorem s_X14_isStream {A : Nat → Nat → Nat → Nat} {h : Hp} {σ ρ ρ' : Zs} {v : Int32} {x1 : Int32}  (hz : Rp A h σ ρ) (hr : fX14_isStream x1 ρ = some (v, ρ')) : ∀ l : Launch, Sp l mX14_isStream 1 0 0 [.ref (A 14 0 0), .int x1] h (QI A v σ ρ') X0 := by
  intro l
  refine Sp.of rfl rfl (lv := [(0, .ref (A 14 0 0)), (1, .int x1)]) (Nat.le_of_ble_eq_true rfl) rfl (fun x hf hrm => ?_)
  rw [fX14_isStream.eq_1] at hr
  refine w_iload_n 1 dX14_isStream_0 rfl rfl rfl ?_
  refine w_i2l dX14_isStream_1 rfl ?_
  refine w_lconst 0 dX14_isStream_2 rfl rfl ?_
  refine w_aload_n 0 dX14_isStream_3 rfl rfl rfl ?_
  have hv1 := hz.ww898 (p := 0) (s := 0) rfl
  refine g_X14_16 dX14_isStream_4 rfl (hz.o14 rfl) (hz.rr898 rfl) ?_
  refine g_X14_298 dX14_isStream_7 rfl (hz.o12 hv1) (hz.i768 hv1) ?_
  refine w_iconst 1 dX14_isStream_10 rfl rfl ?_
  refine w_isub dX14_isStream_11 rfl ?_
  refine w_i2l dX14_isStream_12 rfl ?_
  obtain ⟨v2, ρ3, e4, hr⟩ := bq_some hr
  refine c_X14_163 (b := 0) (As := [.long ((x1 : Int32).toInt64), .long 0, .long ((((zI ρ 768 ((zR ρ 898 0 0 0).1) 0 0) - 1) : Int32).toInt64)]) (rest := []) (fun l => s_X14_isIn  hz e4 l) hrm dX14_isStream_13 rfl rfl (Nat.le_of_ble_eq_true rfl) (Nat.le_of_ble_eq_true rfl) (Nat.le_of_ble_eq_true rfl) rfl (Nat.le_of_ble_eq_true rfl) (fun vr h2 hq => ?_) (fun E9 h9 hq => hq.elim)
  obtain ⟨rfl, hz⟩ := hq
  show wp _ _ 16 [(0, .ref (A 14 0 0)), (1, .int x1)] [.int v2] _ _ _
  obtain ⟨g6, hr⟩ := gd hr
  refine w_zret hf dX14_isStream_16 rfl (zr g6) (Nat.le_of_ble_eq_true rfl) (Nat.le_of_ble_eq_true rfl) ?_
  obtain ⟨rfl, rfl⟩ := ret_inj hr
  exact ⟨rfl, hz⟩

set_option maxRecDepth 20000 in
set_option maxHeartbeats 4000000 in
theorem s_X14_stream {A : Nat → Nat → Nat → Nat} {h : Hp} {σ ρ ρ' : Zs} {v : Int32} {x1 : Int32} {x2 : Int32}  (hz : Rp A h σ ρ) (hr : fX14_stream x1 x2 ρ = some (v, ρ')) : ∀ l : Launch, Sp l mX14_stream 2 0 0 [.ref (A 14 0 0), .int x1, .int x2] h (QI A v σ ρ') X0 := by
  intro l
  refine Sp.of rfl rfl (lv := [(0, .ref (A 14 0 0)), (1, .int x1), (2, .int x2)]) (Nat.le_of_ble_eq_true rfl) rfl (fun x hf hrm => ?_)
  rw [fX14_stream.eq_1] at hr
  refine w_aload_n 0 dX14_stream_0 rfl rfl rfl ?_
  refine w_iconst 0 dX14_stream_1 rfl rfl ?_
  refine p_X14_149 dX14_stream_2 rfl (hz.o14 rfl) ?_
  obtain ⟨ρ1, e2, hr⟩ := lt_e hr
  have hz := (hz.s896 (v := 0) rfl).tr e2
  refine w_aload_n 0 dX14_stream_5 rfl rfl rfl ?_
  refine w_iload_n 1 dX14_stream_6 rfl rfl rfl ?_
  obtain ⟨v3, ρ4, e5, hr⟩ := bq_some hr
  refine c_X14_448 (As := [.int x1]) (rest := []) (fun l => s_X14_isStream  hz e5 l) hrm dX14_stream_7 rfl rfl (Nat.le_of_ble_eq_true rfl) (Nat.le_of_ble_eq_true rfl) (Nat.le_of_ble_eq_true rfl) (hz.o14 rfl) rfl (Nat.le_of_ble_eq_true rfl) (fun vr h2 hq => ?_) (fun E9 h9 hq => hq.elim)
  obtain ⟨rfl, hz⟩ := hq
  show wp _ _ 10 [(0, .ref (A 14 0 0)), (1, .int x1), (2, .int x2)] [.int v3] _ _ _
  refine w_if_eq 25 dX14_stream_10 rfl rfl (fun q10 => ?_) (fun q10 => ?_)
  · have hr := bt q10 hr
    refine w_aload_n 0 dX14_stream_25 rfl rfl rfl ?_
    refine w_iconst 1 dX14_stream_26 rfl rfl ?_
    obtain ⟨v7, ρ8, e9, hr⟩ := bq_some hr
    refine c_X14_155 (As := [.int 1]) (rest := []) (fun l => s_X14_fail  hz e9 l) hrm dX14_stream_27 rfl rfl (Nat.le_of_ble_eq_true rfl) (Nat.le_of_ble_eq_true rfl) (Nat.le_of_ble_eq_true rfl) (hz.o14 rfl) rfl (Nat.le_of_ble_eq_true rfl) (fun vr h2 hq => ?_) (fun E9 h9 hq => hq.elim)
    obtain ⟨rfl, hz⟩ := hq
    show wp _ _ 30 [(0, .ref (A 14 0 0)), (1, .int x1), (2, .int x2)] [.int v7] _ _ _
    refine w_iret hf dX14_stream_30 rfl (Nat.le_of_ble_eq_true rfl) (Nat.le_of_ble_eq_true rfl) ?_
    obtain ⟨rfl, rfl⟩ := ret_inj hr
    exact ⟨rfl, hz⟩
  · have hr := bf q10 hr
    refine w_iload_n 2 dX14_stream_13 rfl rfl rfl ?_
    refine w_i2l dX14_stream_14 rfl ?_
    refine w_lconst 0 dX14_stream_15 rfl rfl ?_
    refine w_ldc2 dX14_stream_16 rfl k_X14_451 ?_
    obtain ⟨v11, ρ12, e13, hr⟩ := bq_some hr
    refine c_X14_163 (b := 0) (As := [.long ((x2 : Int32).toInt64), .long 0, .long 3]) (rest := []) (fun l => s_X14_isIn  hz e13 l) hrm dX14_stream_19 rfl rfl (Nat.le_of_ble_eq_true rfl) (Nat.le_of_ble_eq_true rfl) (Nat.le_of_ble_eq_true rfl) rfl (Nat.le_of_ble_eq_true rfl) (fun vr h2 hq => ?_) (fun E9 h9 hq => hq.elim)
    obtain ⟨rfl, hz⟩ := hq
    show wp _ _ 22 [(0, .ref (A 14 0 0)), (1, .int x1), (2, .int x2)] [.int v11] _ _ _
    refine w_if_ne 31 dX14_stream_22 rfl rfl (fun q22 => ?_) (fun q22 => ?_)
    · have hr := bf q22 hr
      refine w_iload_n 2 dX14_stream_31 rfl rfl rfl ?_
      refine w_if_ne 47 dX14_stream_32 rfl rfl (fun q32 => ?_) (fun q32 => ?_)
      · have hr := bf q32 hr
        refine w_iload_n 2 dX14_stream_47 rfl rfl rfl ?_
        refine w_iconst 1 dX14_stream_48 rfl rfl ?_
        refine w_icmp_ne 64 dX14_stream_49 rfl rfl (fun q49 => ?_) (fun q49 => ?_)
        · have hr := bf q49 hr
          refine w_iload_n 2 dX14_stream_64 rfl rfl rfl ?_
          refine w_iconst 2 dX14_stream_65 rfl rfl ?_
          refine w_icmp_ne 81 dX14_stream_66 rfl rfl (fun q66 => ?_) (fun q66 => ?_)
          · have hr := bf q66 hr
            refine w_aload_n 0 dX14_stream_81 rfl rfl rfl ?_
            have hv15 := hz.ww898 (p := 0) (s := 0) rfl
            refine g_X14_16 dX14_stream_82 rfl (hz.o14 rfl) (hz.rr898 rfl) ?_
            refine g_X14_326 dX14_stream_85 rfl (hz.o12 hv15) (hz.r774 hv15) ?_
            refine w_iload_n 1 dX14_stream_88 rfl rfl rfl ?_
            obtain ⟨g16, hr⟩ := gd hr
            refine w_iald dX14_stream_89 rfl (hz.k774 hv15) (gin (hz.n774 hv15) g16) (hz.x774 hv15) ?_
            refine w_iret hf dX14_stream_90 rfl (Nat.le_of_ble_eq_true rfl) (Nat.le_of_ble_eq_true rfl) ?_
            obtain ⟨rfl, rfl⟩ := ret_inj hr
            exact ⟨rfl, hz⟩
          · have hr := bt q66 hr
            refine w_aload_n 0 dX14_stream_69 rfl rfl rfl ?_
            have hv17 := hz.ww898 (p := 0) (s := 0) rfl
            refine g_X14_16 dX14_stream_70 rfl (hz.o14 rfl) (hz.rr898 rfl) ?_
            refine g_X14_323 dX14_stream_73 rfl (hz.o12 hv17) (hz.r773 hv17) ?_
            refine w_iload_n 1 dX14_stream_76 rfl rfl rfl ?_
            obtain ⟨g18, hr⟩ := gd hr
            refine w_iald dX14_stream_77 rfl (hz.k773 hv17) (gin (hz.n773 hv17) g18) (hz.x773 hv17) ?_
            refine w_goto 90 dX14_stream_78 rfl ?_
            refine w_iret hf dX14_stream_90 rfl (Nat.le_of_ble_eq_true rfl) (Nat.le_of_ble_eq_true rfl) ?_
            obtain ⟨rfl, rfl⟩ := ret_inj hr
            exact ⟨rfl, hz⟩
        · have hr := bt q49 hr
          refine w_aload_n 0 dX14_stream_52 rfl rfl rfl ?_
          have hv19 := hz.ww898 (p := 0) (s := 0) rfl
          refine g_X14_16 dX14_stream_53 rfl (hz.o14 rfl) (hz.rr898 rfl) ?_
          refine g_X14_292 dX14_stream_56 rfl (hz.o12 hv19) (hz.r771 hv19) ?_
          refine w_iload_n 1 dX14_stream_59 rfl rfl rfl ?_
          obtain ⟨g20, hr⟩ := gd hr
          refine w_iald dX14_stream_60 rfl (hz.k771 hv19) (gin (hz.n771 hv19) g20) (hz.x771 hv19) ?_
          refine w_goto 90 dX14_stream_61 rfl ?_
          refine w_iret hf dX14_stream_90 rfl (Nat.le_of_ble_eq_true rfl) (Nat.le_of_ble_eq_true rfl) ?_
          obtain ⟨rfl, rfl⟩ := ret_inj hr
          exact ⟨rfl, hz⟩
      · have hr := bt q32 hr
        refine w_aload_n 0 dX14_stream_35 rfl rfl rfl ?_
        have hv21 := hz.ww898 (p := 0) (s := 0) rfl
        refine g_X14_16 dX14_stream_36 rfl (hz.o14 rfl) (hz.rr898 rfl) ?_
        refine g_X14_368 dX14_stream_39 rfl (hz.o12 hv21) (hz.r770 hv21) ?_
        refine w_iload_n 1 dX14_stream_42 rfl rfl rfl ?_
        obtain ⟨g22, hr⟩ := gd hr
        refine w_iald dX14_stream_43 rfl (hz.k770 hv21) (gin (hz.n770 hv21) g22) (hz.x770 hv21) ?_
        refine w_goto 90 dX14_stream_44 rfl ?_
        refine w_iret hf dX14_stream_90 rfl (Nat.le_of_ble_eq_true rfl) (Nat.le_of_ble_eq_true rfl) ?_
        obtain ⟨rfl, rfl⟩ := ret_inj hr
        exact ⟨rfl, hz⟩
    · have hr := bt q22 hr
      refine w_aload_n 0 dX14_stream_25 rfl rfl rfl ?_
      refine w_iconst 1 dX14_stream_26 rfl rfl ?_
      obtain ⟨v23, ρ24, e25, hr⟩ := bq_some hr
      refine c_X14_155 (As := [.int 1]) (rest := []) (fun l => s_X14_fail  hz e25 l) hrm dX14_stream_27 rfl rfl (Nat.le_of_ble_eq_true rfl) (Nat.le_of_ble_eq_true rfl) (Nat.le_of_ble_eq_true rfl) (hz.o14 rfl) rfl (Nat.le_of_ble_eq_true rfl) (fun vr h2 hq => ?_) (fun E9 h9 hq => hq.elim)
      obtain ⟨rfl, hz⟩ := hq
      show wp _ _ 30 [(0, .ref (A 14 0 0)), (1, .int x1), (2, .int x2)] [.int v23] _ _ _
      refine w_iret hf dX14_stream_30 rfl (Nat.le_of_ble_eq_true rfl) (Nat.le_of_ble_eq_true rfl) ?_
      obtain ⟨rfl, rfl⟩ := ret_inj hr
      exact ⟨rfl, hz⟩

set_option maxRecDepth 20000 in
set_option maxHeartbeats 4000000 in
theorem s_X14_value {A : Nat → Nat → Nat → Nat} {h : Hp} {σ ρ ρ' : Zs} {v : Int32} {x1 : Int64}  (hz : Rp A h σ ρ) (hr : fX14_value x1 ρ = some (v, ρ')) : ∀ l : Launch, Sp l mX14_value 1 0 0 [.ref (A 14 0 0), .long x1] h (QI A v σ ρ') X0 := by
  intro l
  refine Sp.of rfl rfl (lv := [(0, .ref (A 14 0 0)), (1, .long x1)]) (Nat.le_of_ble_eq_true rfl) rfl (fun x hf hrm => ?_)
  rw [fX14_value.eq_1] at hr
  refine w_aload_n 0 dX14_value_0 rfl rfl rfl ?_
  refine w_iconst 0 dX14_value_1 rfl rfl ?_
  refine p_X14_149 dX14_value_2 rfl (hz.o14 rfl) ?_
  obtain ⟨ρ1, e2, hr⟩ := lt_e hr
  have hz := (hz.s896 (v := 0) rfl).tr e2
  refine w_aload_n 0 dX14_value_5 rfl rfl rfl ?_
  refine g_X14_547 dX14_value_6 rfl (hz.o14 rfl) (hz.i948 rfl) ?_
  refine w_bipush 6 dX14_value_9 rfl rfl ?_
  refine w_icmp_ne 20 dX14_value_11 rfl rfl (fun q11 => ?_) (fun q11 => ?_)
  · have hr := bf q11 hr
    refine w_aload_n 0 dX14_value_20 rfl rfl rfl ?_
    refine g_X14_122 dX14_value_21 rfl (hz.o14 rfl) (hz.r949 rfl) ?_
    refine w_aload_n 0 dX14_value_24 rfl rfl rfl ?_
    refine g_X14_547 dX14_value_25 rfl (hz.o14 rfl) (hz.i948 rfl) ?_
    refine w_lload_n 1 dX14_value_28 rfl rfl rfl ?_
    obtain ⟨g3, hr⟩ := gd hr
    refine w_last dX14_value_29 rfl (hz.k949 rfl) (gin (hz.n949 rfl) g3) ?_
    obtain ⟨ρ4, e5, hr⟩ := lt_e hr
    have hz := (hz.s949 (i := (Int32.toNatClampNeg (zI ρ1 948 0 0 0))) (v := x1) rfl).tr e5
    refine w_aload_n 0 dX14_value_30 rfl rfl rfl ?_
    refine w_dup dX14_value_31 rfl rfl ?_
    refine g_X14_547 dX14_value_32 rfl (hz.o14 rfl) (hz.i948 rfl) ?_
    refine w_iconst 1 dX14_value_35 rfl rfl ?_
    refine w_iadd dX14_value_36 rfl ?_
    refine p_X14_547 dX14_value_37 rfl (hz.o14 rfl) ?_
    obtain ⟨ρ6, e7, hr⟩ := lt_e hr
    have hz := (hz.s948 (v := ((zI ρ4 948 0 0 0) + 1)) rfl).tr e7
    refine w_aload_n 0 dX14_value_40 rfl rfl rfl ?_
    refine g_X14_547 dX14_value_41 rfl (hz.o14 rfl) (hz.i948 rfl) ?_
    refine w_iret hf dX14_value_44 rfl (Nat.le_of_ble_eq_true rfl) (Nat.le_of_ble_eq_true rfl) ?_
    obtain ⟨rfl, rfl⟩ := ret_inj hr
    exact ⟨rfl, hz⟩
  · have hr := bt q11 hr
    refine w_aload_n 0 dX14_value_14 rfl rfl rfl ?_
    refine w_iconst 1 dX14_value_15 rfl rfl ?_
    obtain ⟨v8, ρ9, e10, hr⟩ := bq_some hr
    refine c_X14_155 (As := [.int 1]) (rest := []) (fun l => s_X14_fail  hz e10 l) hrm dX14_value_16 rfl rfl (Nat.le_of_ble_eq_true rfl) (Nat.le_of_ble_eq_true rfl) (Nat.le_of_ble_eq_true rfl) (hz.o14 rfl) rfl (Nat.le_of_ble_eq_true rfl) (fun vr h2 hq => ?_) (fun E9 h9 hq => hq.elim)
    obtain ⟨rfl, hz⟩ := hq
    show wp _ _ 19 [(0, .ref (A 14 0 0)), (1, .long x1)] [.int v8] _ _ _
    refine w_iret hf dX14_value_19 rfl (Nat.le_of_ble_eq_true rfl) (Nat.le_of_ble_eq_true rfl) ?_
    obtain ⟨rfl, rfl⟩ := ret_inj hr
    exact ⟨rfl, hz⟩

set_option maxRecDepth 20000 in
set_option maxHeartbeats 4000000 in
theorem s_X14_forget {A : Nat → Nat → Nat → Nat} {h : Hp} {σ ρ ρ' : Zs} {v : Int32}   (hz : Rp A h σ ρ) (hr : fX14_forget  ρ = some (v, ρ')) : ∀ l : Launch, Sp l mX14_forget 0 0 0 [.ref (A 14 0 0)] h (QI A v σ ρ') X0 := by
  intro l
  refine Sp.of rfl rfl (lv := [(0, .ref (A 14 0 0))]) (Nat.le_of_ble_eq_true rfl) rfl (fun x hf hrm => ?_)
  rw [fX14_forget.eq_1] at hr
  refine w_aload_n 0 dX14_forget_0 rfl rfl rfl ?_
  refine w_iconst 0 dX14_forget_1 rfl rfl ?_
  refine p_X14_149 dX14_forget_2 rfl (hz.o14 rfl) ?_
  obtain ⟨ρ1, e2, hr⟩ := lt_e hr
  have hz := (hz.s896 (v := 0) rfl).tr e2
  refine w_aload_n 0 dX14_forget_5 rfl rfl rfl ?_
  refine g_X14_547 dX14_forget_6 rfl (hz.o14 rfl) (hz.i948 rfl) ?_
  refine w_istore_n [(1, .int (zI ρ1 948 0 0 0)), (0, .ref (A 14 0 0))] dX14_forget_9 rfl rfl (by decide) rfl ?_
  refine w_aload_n 1 dX14_forget_10 rfl rfl rfl ?_
  refine w_iconst 0 dX14_forget_11 rfl rfl ?_
  refine p_X14_547 dX14_forget_12 rfl (hz.o14 rfl) ?_
  obtain ⟨ρ3, e4, hr⟩ := lt_e hr
  have hz := (hz.s948 (v := 0) rfl).tr e4
  refine w_iload_n 0 dX14_forget_15 rfl rfl rfl ?_
  refine w_iret hf dX14_forget_16 rfl (Nat.le_of_ble_eq_true rfl) (Nat.le_of_ble_eq_true rfl) ?_
  obtain ⟨rfl, rfl⟩ := ret_inj hr
  exact ⟨rfl, hz⟩

set_option maxRecDepth 20000 in
set_option maxHeartbeats 4000000 in
theorem s_X14_isHeld {A : Nat → Nat → Nat → Nat} {h : Hp} {σ ρ ρ' : Zs} {v : Int32} {x1 : Int32}  (hz : Rp A h σ ρ) (hr : fX14_isHeld x1 ρ = some (v, ρ')) : ∀ l : Launch, Sp l mX14_isHeld 1 0 0 [.ref (A 14 0 0), .int x1] h (QI A v σ ρ') X0 := by
  intro l
  refine Sp.of rfl rfl (lv := [(0, .ref (A 14 0 0)), (1, .int x1)]) (Nat.le_of_ble_eq_true rfl) rfl (fun x hf hrm => ?_)
  rw [fX14_isHeld.eq_1] at hr
  refine w_iload_n 1 dX14_isHeld_0 rfl rfl rfl ?_
  refine w_i2l dX14_isHeld_1 rfl ?_
  refine w_lconst 0 dX14_isHeld_2 rfl rfl ?_
  refine w_aload_n 0 dX14_isHeld_3 rfl rfl rfl ?_
  refine g_X14_440 dX14_isHeld_4 rfl (hz.o14 rfl) (hz.i923 rfl) ?_
  refine w_iconst 1 dX14_isHeld_7 rfl rfl ?_
  refine w_isub dX14_isHeld_8 rfl ?_
  refine w_i2l dX14_isHeld_9 rfl ?_
  obtain ⟨v1, ρ2, e3, hr⟩ := bq_some hr
  refine c_X14_163 (b := 0) (As := [.long ((x1 : Int32).toInt64), .long 0, .long ((((zI ρ 923 0 0 0) - 1) : Int32).toInt64)]) (rest := []) (fun l => s_X14_isIn  hz e3 l) hrm dX14_isHeld_10 rfl rfl (Nat.le_of_ble_eq_true rfl) (Nat.le_of_ble_eq_true rfl) (Nat.le_of_ble_eq_true rfl) rfl (Nat.le_of_ble_eq_true rfl) (fun vr h2 hq => ?_) (fun E9 h9 hq => hq.elim)
  obtain ⟨rfl, hz⟩ := hq
  show wp _ _ 13 [(0, .ref (A 14 0 0)), (1, .int x1)] [.int v1] _ _ _
  obtain ⟨g5, hr⟩ := gd hr
  refine w_zret hf dX14_isHeld_13 rfl (zr g5) (Nat.le_of_ble_eq_true rfl) (Nat.le_of_ble_eq_true rfl) ?_
  obtain ⟨rfl, rfl⟩ := ret_inj hr
  exact ⟨rfl, hz⟩

set_option maxRecDepth 20000 in
set_option maxHeartbeats 4000000 in
theorem s_X14_heldTold {A : Nat → Nat → Nat → Nat} {h : Hp} {σ ρ ρ' : Zs} {v : Int32} {x1 : Int32} {x2 : Int32}  (hz : Rp A h σ ρ) (hr : fX14_heldTold x1 x2 ρ = some (v, ρ')) : ∀ l : Launch, Sp l mX14_heldTold 0 0 0 [.ref (A 14 0 0), .int x1, .int x2] h (QI A v σ ρ') X0 := by
  intro l
  refine Sp.of rfl rfl (lv := [(0, .ref (A 14 0 0)), (1, .int x1), (2, .int x2)]) (Nat.le_of_ble_eq_true rfl) rfl (fun x hf hrm => ?_)
  rw [fX14_heldTold.eq_1] at hr
  refine w_iload_n 2 dX14_heldTold_0 rfl rfl rfl ?_
  refine w_if_ne 13 dX14_heldTold_1 rfl rfl (fun q1 => ?_) (fun q1 => ?_)
  · have hr := bf q1 hr
    refine w_iload_n 2 dX14_heldTold_13 rfl rfl rfl ?_
    refine w_iconst 1 dX14_heldTold_14 rfl rfl ?_
    refine w_icmp_ne 27 dX14_heldTold_15 rfl rfl (fun q15 => ?_) (fun q15 => ?_)
    · have hr := bf q15 hr
      refine w_aload_n 0 dX14_heldTold_27 rfl rfl rfl ?_
      refine g_X14_73 dX14_heldTold_28 rfl (hz.o14 rfl) (hz.r926 rfl) ?_
      refine w_bipush 7 dX14_heldTold_31 rfl rfl ?_
      refine w_iload_n 1 dX14_heldTold_33 rfl rfl rfl ?_
      refine w_imul dX14_heldTold_34 rfl ?_
      obtain ⟨g1, hr⟩ := gd hr
      refine w_lald dX14_heldTold_35 rfl (hz.k926 rfl) (gin (hz.n926 rfl) g1) (hz.x926 rfl) ?_
      refine w_l2i dX14_heldTold_36 rfl ?_
      refine w_iret hf dX14_heldTold_37 rfl (Nat.le_of_ble_eq_true rfl) (Nat.le_of_ble_eq_true rfl) ?_
      obtain ⟨rfl, rfl⟩ := ret_inj hr
      exact ⟨rfl, hz⟩
    · have hr := bt q15 hr
      refine w_aload_n 0 dX14_heldTold_18 rfl rfl rfl ?_
      refine g_X14_70 dX14_heldTold_19 rfl (hz.o14 rfl) (hz.r925 rfl) ?_
      refine w_iload_n 1 dX14_heldTold_22 rfl rfl rfl ?_
      obtain ⟨g2, hr⟩ := gd hr
      refine w_iald dX14_heldTold_23 rfl (hz.k925 rfl) (gin (hz.n925 rfl) g2) (hz.x925 rfl) ?_
      refine w_goto 37 dX14_heldTold_24 rfl ?_
      refine w_iret hf dX14_heldTold_37 rfl (Nat.le_of_ble_eq_true rfl) (Nat.le_of_ble_eq_true rfl) ?_
      obtain ⟨rfl, rfl⟩ := ret_inj hr
      exact ⟨rfl, hz⟩
  · have hr := bt q1 hr
    refine w_aload_n 0 dX14_heldTold_4 rfl rfl rfl ?_
    refine g_X14_67 dX14_heldTold_5 rfl (hz.o14 rfl) (hz.r924 rfl) ?_
    refine w_iload_n 1 dX14_heldTold_8 rfl rfl rfl ?_
    obtain ⟨g3, hr⟩ := gd hr
    refine w_iald dX14_heldTold_9 rfl (hz.k924 rfl) (gin (hz.n924 rfl) g3) (hz.x924 rfl) ?_
    refine w_goto 37 dX14_heldTold_10 rfl ?_
    refine w_iret hf dX14_heldTold_37 rfl (Nat.le_of_ble_eq_true rfl) (Nat.le_of_ble_eq_true rfl) ?_
    obtain ⟨rfl, rfl⟩ := ret_inj hr
    exact ⟨rfl, hz⟩

set_option maxRecDepth 20000 in
set_option maxHeartbeats 4000000 in
theorem s_X14_held {A : Nat → Nat → Nat → Nat} {h : Hp} {σ ρ ρ' : Zs} {v : Int32} {x1 : Int32} {x2 : Int32}  (hz : Rp A h σ ρ) (hr : fX14_held x1 x2 ρ = some (v, ρ')) : ∀ l : Launch, Sp l mX14_held 2 0 0 [.ref (A 14 0 0), .int x1, .int x2] h (QI A v σ ρ') X0 := by
  intro l
  refine Sp.of rfl rfl (lv := [(0, .ref (A 14 0 0)), (1, .int x1), (2, .int x2)]) (Nat.le_of_ble_eq_true rfl) rfl (fun x hf hrm => ?_)
  rw [fX14_held.eq_1] at hr
  refine w_aload_n 0 dX14_held_0 rfl rfl rfl ?_
  refine w_iconst 0 dX14_held_1 rfl rfl ?_
  refine p_X14_149 dX14_held_2 rfl (hz.o14 rfl) ?_
  obtain ⟨ρ1, e2, hr⟩ := lt_e hr
  have hz := (hz.s896 (v := 0) rfl).tr e2
  refine w_aload_n 0 dX14_held_5 rfl rfl rfl ?_
  refine w_iload_n 1 dX14_held_6 rfl rfl rfl ?_
  obtain ⟨v3, ρ4, e5, hr⟩ := bq_some hr
  refine c_X14_566 (As := [.int x1]) (rest := []) (fun l => s_X14_isHeld  hz e5 l) hrm dX14_held_7 rfl rfl (Nat.le_of_ble_eq_true rfl) (Nat.le_of_ble_eq_true rfl) (Nat.le_of_ble_eq_true rfl) (hz.o14 rfl) rfl (Nat.le_of_ble_eq_true rfl) (fun vr h2 hq => ?_) (fun E9 h9 hq => hq.elim)
  obtain ⟨rfl, hz⟩ := hq
  show wp _ _ 10 [(0, .ref (A 14 0 0)), (1, .int x1), (2, .int x2)] [.int v3] _ _ _
  refine w_if_eq 34 dX14_held_10 rfl rfl (fun q10 => ?_) (fun q10 => ?_)
  · have hr := bt q10 hr
    refine w_aload_n 0 dX14_held_34 rfl rfl rfl ?_
    refine w_iconst 1 dX14_held_35 rfl rfl ?_
    obtain ⟨v7, ρ8, e9, hr⟩ := bq_some hr
    refine c_X14_155 (As := [.int 1]) (rest := []) (fun l => s_X14_fail  hz e9 l) hrm dX14_held_36 rfl rfl (Nat.le_of_ble_eq_true rfl) (Nat.le_of_ble_eq_true rfl) (Nat.le_of_ble_eq_true rfl) (hz.o14 rfl) rfl (Nat.le_of_ble_eq_true rfl) (fun vr h2 hq => ?_) (fun E9 h9 hq => hq.elim)
    obtain ⟨rfl, hz⟩ := hq
    show wp _ _ 39 [(0, .ref (A 14 0 0)), (1, .int x1), (2, .int x2)] [.int v7] _ _ _
    refine w_iret hf dX14_held_39 rfl (Nat.le_of_ble_eq_true rfl) (Nat.le_of_ble_eq_true rfl) ?_
    obtain ⟨rfl, rfl⟩ := ret_inj hr
    exact ⟨rfl, hz⟩
  · have hr := bf q10 hr
    refine w_iload_n 2 dX14_held_13 rfl rfl rfl ?_
    refine w_i2l dX14_held_14 rfl ?_
    refine w_lconst 0 dX14_held_15 rfl rfl ?_
    refine w_ldc2 dX14_held_16 rfl k_X14_569 ?_
    obtain ⟨v11, ρ12, e13, hr⟩ := bq_some hr
    refine c_X14_163 (b := 0) (As := [.long ((x2 : Int32).toInt64), .long 0, .long 2]) (rest := []) (fun l => s_X14_isIn  hz e13 l) hrm dX14_held_19 rfl rfl (Nat.le_of_ble_eq_true rfl) (Nat.le_of_ble_eq_true rfl) (Nat.le_of_ble_eq_true rfl) rfl (Nat.le_of_ble_eq_true rfl) (fun vr h2 hq => ?_) (fun E9 h9 hq => hq.elim)
    obtain ⟨rfl, hz⟩ := hq
    show wp _ _ 22 [(0, .ref (A 14 0 0)), (1, .int x1), (2, .int x2)] [.int v11] _ _ _
    refine w_if_eq 34 dX14_held_22 rfl rfl (fun q22 => ?_) (fun q22 => ?_)
    · have hr := bt q22 hr
      refine w_aload_n 0 dX14_held_34 rfl rfl rfl ?_
      refine w_iconst 1 dX14_held_35 rfl rfl ?_
      obtain ⟨v15, ρ16, e17, hr⟩ := bq_some hr
      refine c_X14_155 (As := [.int 1]) (rest := []) (fun l => s_X14_fail  hz e17 l) hrm dX14_held_36 rfl rfl (Nat.le_of_ble_eq_true rfl) (Nat.le_of_ble_eq_true rfl) (Nat.le_of_ble_eq_true rfl) (hz.o14 rfl) rfl (Nat.le_of_ble_eq_true rfl) (fun vr h2 hq => ?_) (fun E9 h9 hq => hq.elim)
      obtain ⟨rfl, hz⟩ := hq
      show wp _ _ 39 [(0, .ref (A 14 0 0)), (1, .int x1), (2, .int x2)] [.int v15] _ _ _
      refine w_iret hf dX14_held_39 rfl (Nat.le_of_ble_eq_true rfl) (Nat.le_of_ble_eq_true rfl) ?_
      obtain ⟨rfl, rfl⟩ := ret_inj hr
      exact ⟨rfl, hz⟩
    · have hr := bf q22 hr
      refine w_aload_n 0 dX14_held_25 rfl rfl rfl ?_
      refine w_iload_n 1 dX14_held_26 rfl rfl rfl ?_
      refine w_iload_n 2 dX14_held_27 rfl rfl rfl ?_
      obtain ⟨v19, ρ20, e21, hr⟩ := bq_some hr
      refine c_X14_571 (As := [.int x1, .int x2]) (rest := []) (fun l => s_X14_heldTold  hz e21 l) hrm dX14_held_28 rfl rfl (Nat.le_of_ble_eq_true rfl) (Nat.le_of_ble_eq_true rfl) (Nat.le_of_ble_eq_true rfl) (hz.o14 rfl) rfl (Nat.le_of_ble_eq_true rfl) (fun vr h2 hq => ?_) (fun E9 h9 hq => hq.elim)
      obtain ⟨rfl, hz⟩ := hq
      show wp _ _ 31 [(0, .ref (A 14 0 0)), (1, .int x1), (2, .int x2)] [.int v19] _ _ _
      refine w_goto 39 dX14_held_31 rfl ?_
      refine w_iret hf dX14_held_39 rfl (Nat.le_of_ble_eq_true rfl) (Nat.le_of_ble_eq_true rfl) ?_
      obtain ⟨rfl, rfl⟩ := ret_inj hr
      exact ⟨rfl, hz⟩

set_option maxRecDepth 20000 in
set_option maxHeartbeats 4000000 in
theorem s_X14_heldColumns {A : Nat → Nat → Nat → Nat} {h : Hp} {σ ρ ρ' : Zs} {v : Int32} {x1 : Int32}  (hz : Rp A h σ ρ) (hr : fX14_heldColumns x1 ρ = some (v, ρ')) : ∀ l : Launch, Sp l mX14_heldColumns 0 0 0 [.ref (A 14 0 0), .int x1] h (QI A v σ ρ') X0 := by
  intro l
  refine Sp.of rfl rfl (lv := [(0, .ref (A 14 0 0)), (1, .int x1)]) (Nat.le_of_ble_eq_true rfl) rfl (fun x hf hrm => ?_)
  rw [fX14_heldColumns.eq_1] at hr
  refine w_aload_n 0 dX14_heldColumns_0 rfl rfl rfl ?_
  have hv1 := hz.ww898 (p := 0) (s := 0) rfl
  refine g_X14_16 dX14_heldColumns_1 rfl (hz.o14 rfl) (hz.rr898 rfl) ?_
  refine g_X14_292 dX14_heldColumns_4 rfl (hz.o12 hv1) (hz.r771 hv1) ?_
  refine w_aload_n 0 dX14_heldColumns_7 rfl rfl rfl ?_
  refine g_X14_70 dX14_heldColumns_8 rfl (hz.o14 rfl) (hz.r925 rfl) ?_
  refine w_iload_n 1 dX14_heldColumns_11 rfl rfl rfl ?_
  obtain ⟨g2, hr⟩ := gd hr
  refine w_iald dX14_heldColumns_12 rfl (hz.k925 rfl) (gin (hz.n925 rfl) g2) (hz.x925 rfl) ?_
  refine w_iconst (-1) dX14_heldColumns_13 rfl rfl ?_
  refine w_icmp_ne 34 dX14_heldColumns_14 rfl rfl (fun q14 => ?_) (fun q14 => ?_)
  · have hr := bf q14 hr
    refine w_aload_n 0 dX14_heldColumns_34 rfl rfl rfl ?_
    refine g_X14_67 dX14_heldColumns_35 rfl (hz.o14 rfl) (hz.r924 rfl) ?_
    refine w_iload_n 1 dX14_heldColumns_38 rfl rfl rfl ?_
    obtain ⟨g3, hr⟩ := gd hr
    refine w_iald dX14_heldColumns_39 rfl (hz.k924 rfl) (gin (hz.n924 rfl) g3) (hz.x924 rfl) ?_
    obtain ⟨g4, hr⟩ := gd hr
    refine w_iald dX14_heldColumns_40 rfl (hz.k771 hv1) (gin (hz.n771 hv1) g4) (hz.x771 hv1) ?_
    refine w_iret hf dX14_heldColumns_41 rfl (Nat.le_of_ble_eq_true rfl) (Nat.le_of_ble_eq_true rfl) ?_
    obtain ⟨rfl, rfl⟩ := ret_inj hr
    exact ⟨rfl, hz⟩
  · have hr := bt q14 hr
    refine w_aload_n 0 dX14_heldColumns_17 rfl rfl rfl ?_
    have hv5 := hz.ww898 (p := 0) (s := 0) rfl
    refine g_X14_16 dX14_heldColumns_18 rfl (hz.o14 rfl) (hz.rr898 rfl) ?_
    refine g_X14_323 dX14_heldColumns_21 rfl (hz.o12 hv5) (hz.r773 hv5) ?_
    refine w_aload_n 0 dX14_heldColumns_24 rfl rfl rfl ?_
    refine g_X14_67 dX14_heldColumns_25 rfl (hz.o14 rfl) (hz.r924 rfl) ?_
    refine w_iload_n 1 dX14_heldColumns_28 rfl rfl rfl ?_
    obtain ⟨g6, hr⟩ := gd hr
    refine w_iald dX14_heldColumns_29 rfl (hz.k924 rfl) (gin (hz.n924 rfl) g6) (hz.x924 rfl) ?_
    obtain ⟨g7, hr⟩ := gd hr
    refine w_iald dX14_heldColumns_30 rfl (hz.k773 hv5) (gin (hz.n773 hv5) g7) (hz.x773 hv5) ?_
    refine w_goto 40 dX14_heldColumns_31 rfl ?_
    obtain ⟨g8, hr⟩ := gd hr
    refine w_iald dX14_heldColumns_40 rfl (hz.k771 hv1) (gin (hz.n771 hv1) g8) (hz.x771 hv1) ?_
    refine w_iret hf dX14_heldColumns_41 rfl (Nat.le_of_ble_eq_true rfl) (Nat.le_of_ble_eq_true rfl) ?_
    obtain ⟨rfl, rfl⟩ := ret_inj hr
    exact ⟨rfl, hz⟩

set_option maxRecDepth 20000 in
set_option maxHeartbeats 4000000 in
theorem w_X14_heldValue_31 {A : Nat → Nat → Nat → Nat} {σ ρ' : Zs} {v : Int64} {x : Cxt} {x1 : Int32} {x2 : Int32}  (hf : m_fin 0 0 (QJ A v σ ρ') X0 x) (hrm : m_rm 2 0 0 x)  : ∀ (z0 : Int32) (ρ : Zs) (h : Hp), Rp A h σ ρ → fX14_heldValue_31 x1 x2  z0 ρ = some (v, ρ') → wp x mX14_heldValue 31 [(0, .ref (A 14 0 0)), (1, .int x1), (2, .int x2)] [.int z0, .ref (A 14 0 0)] h 0 0 := by
  intro z0 ρ h hz hr
  rw [fX14_heldValue_31.eq_1] at hr
  refine p_X14_149 dX14_heldValue_31 rfl (hz.o14 rfl) ?_
  obtain ⟨ρ5, e6, hr⟩ := lt_e hr
  have hz := (hz.s896 (v := z0) rfl).tr e6
  refine w_aload_n 0 dX14_heldValue_34 rfl rfl rfl ?_
  refine g_X14_149 dX14_heldValue_35 rfl (hz.o14 rfl) (hz.i896 rfl) ?_
  refine w_if_ne 57 dX14_heldValue_38 rfl rfl (fun q38 => ?_) (fun q38 => ?_)
  · have hr := bf q38 hr
    refine w_lconst 0 dX14_heldValue_57 rfl rfl ?_
    refine w_lret hf dX14_heldValue_58 rfl (Nat.le_of_ble_eq_true rfl) (Nat.le_of_ble_eq_true rfl) ?_
    obtain ⟨rfl, rfl⟩ := ret_inj hr
    exact ⟨rfl, hz⟩
  · have hr := bt q38 hr
    refine w_aload_n 0 dX14_heldValue_41 rfl rfl rfl ?_
    refine g_X14_73 dX14_heldValue_42 rfl (hz.o14 rfl) (hz.r926 rfl) ?_
    refine w_bipush 7 dX14_heldValue_45 rfl rfl ?_
    refine w_iload_n 1 dX14_heldValue_47 rfl rfl rfl ?_
    refine w_imul dX14_heldValue_48 rfl ?_
    refine w_iconst 1 dX14_heldValue_49 rfl rfl ?_
    refine w_iadd dX14_heldValue_50 rfl ?_
    refine w_iload_n 2 dX14_heldValue_51 rfl rfl rfl ?_
    refine w_iadd dX14_heldValue_52 rfl ?_
    obtain ⟨g7, hr⟩ := gd hr
    refine w_lald dX14_heldValue_53 rfl (hz.k926 rfl) (gin (hz.n926 rfl) g7) (hz.x926 rfl) ?_
    refine w_goto 58 dX14_heldValue_54 rfl ?_
    refine w_lret hf dX14_heldValue_58 rfl (Nat.le_of_ble_eq_true rfl) (Nat.le_of_ble_eq_true rfl) ?_
    obtain ⟨rfl, rfl⟩ := ret_inj hr
    exact ⟨rfl, hz⟩
set_option maxRecDepth 20000 in
set_option maxHeartbeats 4000000 in
theorem s_X14_heldValue {A : Nat → Nat → Nat → Nat} {h : Hp} {σ ρ ρ' : Zs} {v : Int64} {x1 : Int32} {x2 : Int32}  (hz : Rp A h σ ρ) (hr : fX14_heldValue x1 x2 ρ = some (v, ρ')) : ∀ l : Launch, Sp l mX14_heldValue 2 0 0 [.ref (A 14 0 0), .int x1, .int x2] h (QJ A v σ ρ') X0 := by
  intro l
  refine Sp.of rfl rfl (lv := [(0, .ref (A 14 0 0)), (1, .int x1), (2, .int x2)]) (Nat.le_of_ble_eq_true rfl) rfl (fun x hf hrm => ?_)
  rw [fX14_heldValue.eq_1] at hr
  refine w_aload_n 0 dX14_heldValue_0 rfl rfl rfl ?_
  refine w_aload_n 0 dX14_heldValue_1 rfl rfl rfl ?_
  refine w_iload_n 1 dX14_heldValue_2 rfl rfl rfl ?_
  obtain ⟨v1, ρ2, e3, hr⟩ := bq_some hr
  refine c_X14_566 (As := [.int x1]) (rest := [.ref (A 14 0 0)]) (fun l => s_X14_isHeld  hz e3 l) hrm dX14_heldValue_3 rfl rfl (Nat.le_of_ble_eq_true rfl) (Nat.le_of_ble_eq_true rfl) (Nat.le_of_ble_eq_true rfl) (hz.o14 rfl) rfl (Nat.le_of_ble_eq_true rfl) (fun vr h2 hq => ?_) (fun E9 h9 hq => hq.elim)
  obtain ⟨rfl, hz⟩ := hq
  show wp _ _ 6 [(0, .ref (A 14 0 0)), (1, .int x1), (2, .int x2)] [.int v1, .ref (A 14 0 0)] _ _ _
  refine w_if_eq 30 dX14_heldValue_6 rfl rfl (fun q6 => ?_) (fun q6 => ?_)
  · have hr := bt q6 hr
    refine w_iconst 1 dX14_heldValue_30 rfl rfl ?_
    refine w_lv [(0, .ref (A 14 0 0)), (1, .int x1), (2, .int x2)] [0, 1, 2] rfl ?_
    exact w_X14_heldValue_31 hf hrm   1 _ _ hz  hr
  · have hr := bf q6 hr
    refine w_iload_n 2 dX14_heldValue_9 rfl rfl rfl ?_
    refine w_i2l dX14_heldValue_10 rfl ?_
    refine w_lconst 0 dX14_heldValue_11 rfl rfl ?_
    refine w_aload_n 0 dX14_heldValue_12 rfl rfl rfl ?_
    refine w_iload_n 1 dX14_heldValue_13 rfl rfl rfl ?_
    obtain ⟨v8, ρ9, e10, hr⟩ := bq_some hr
    refine c_X14_574 (As := [.int x1]) (rest := [.long 0, .long ((x2 : Int32).toInt64), .ref (A 14 0 0)]) (fun l => s_X14_heldColumns  hz e10 l) hrm dX14_heldValue_14 rfl rfl (Nat.le_of_ble_eq_true rfl) (Nat.le_of_ble_eq_true rfl) (Nat.le_of_ble_eq_true rfl) (hz.o14 rfl) rfl (Nat.le_of_ble_eq_true rfl) (fun vr h2 hq => ?_) (fun E9 h9 hq => hq.elim)
    obtain ⟨rfl, hz⟩ := hq
    show wp _ _ 17 [(0, .ref (A 14 0 0)), (1, .int x1), (2, .int x2)] [.int v8, .long 0, .long ((x2 : Int32).toInt64), .ref (A 14 0 0)] _ _ _
    refine w_iconst 1 dX14_heldValue_17 rfl rfl ?_
    refine w_isub dX14_heldValue_18 rfl ?_
    refine w_i2l dX14_heldValue_19 rfl ?_
    obtain ⟨v12, ρ13, e14, hr⟩ := bq_some hr
    refine c_X14_163 (b := 0) (As := [.long ((x2 : Int32).toInt64), .long 0, .long (((v8 - 1) : Int32).toInt64)]) (rest := [.ref (A 14 0 0)]) (fun l => s_X14_isIn  hz e14 l) hrm dX14_heldValue_20 rfl rfl (Nat.le_of_ble_eq_true rfl) (Nat.le_of_ble_eq_true rfl) (Nat.le_of_ble_eq_true rfl) rfl (Nat.le_of_ble_eq_true rfl) (fun vr h2 hq => ?_) (fun E9 h9 hq => hq.elim)
    obtain ⟨rfl, hz⟩ := hq
    show wp _ _ 23 [(0, .ref (A 14 0 0)), (1, .int x1), (2, .int x2)] [.int v12, .ref (A 14 0 0)] _ _ _
    refine w_if_eq 30 dX14_heldValue_23 rfl rfl (fun q23 => ?_) (fun q23 => ?_)
    · have hr := bt q23 hr
      refine w_iconst 1 dX14_heldValue_30 rfl rfl ?_
      refine w_lv [(0, .ref (A 14 0 0)), (1, .int x1), (2, .int x2)] [0, 1, 2] rfl ?_
      exact w_X14_heldValue_31 hf hrm   1 _ _ hz  hr
    · have hr := bf q23 hr
      refine w_iconst 0 dX14_heldValue_26 rfl rfl ?_
      refine w_goto 31 dX14_heldValue_27 rfl ?_
      refine w_lv [(0, .ref (A 14 0 0)), (1, .int x1), (2, .int x2)] [0, 1, 2] rfl ?_
      exact w_X14_heldValue_31 hf hrm   0 _ _ hz  hr

set_option maxRecDepth 20000 in
set_option maxHeartbeats 4000000 in
theorem s_X14_broken {A : Nat → Nat → Nat → Nat} {h : Hp} {σ ρ ρ' : Zs} {v : Int32} {x1 : Int32}  (hz : Rp A h σ ρ) (hr : fX14_broken x1 ρ = some (v, ρ')) : ∀ l : Launch, Sp l mX14_broken 1 0 0 [.ref (A 14 0 0), .int x1] h (QI A v σ ρ') X0 := by
  intro l
  refine Sp.of rfl rfl (lv := [(0, .ref (A 14 0 0)), (1, .int x1)]) (Nat.le_of_ble_eq_true rfl) rfl (fun x hf hrm => ?_)
  rw [fX14_broken.eq_1] at hr
  refine w_aload_n 0 dX14_broken_0 rfl rfl rfl ?_
  refine w_iconst 0 dX14_broken_1 rfl rfl ?_
  refine p_X14_149 dX14_broken_2 rfl (hz.o14 rfl) ?_
  obtain ⟨ρ1, e2, hr⟩ := lt_e hr
  have hz := (hz.s896 (v := 0) rfl).tr e2
  refine w_iload_n 1 dX14_broken_5 rfl rfl rfl ?_
  refine w_i2l dX14_broken_6 rfl ?_
  refine w_lconst 0 dX14_broken_7 rfl rfl ?_
  refine w_aload_n 0 dX14_broken_8 rfl rfl rfl ?_
  have hv3 := hz.ww898 (p := 0) (s := 0) rfl
  refine g_X14_16 dX14_broken_9 rfl (hz.o14 rfl) (hz.rr898 rfl) ?_
  refine g_X14_341 dX14_broken_12 rfl (hz.o12 hv3) (hz.i781 hv3) ?_
  refine w_iconst 1 dX14_broken_15 rfl rfl ?_
  refine w_isub dX14_broken_16 rfl ?_
  refine w_i2l dX14_broken_17 rfl ?_
  obtain ⟨v4, ρ5, e6, hr⟩ := bq_some hr
  refine c_X14_163 (b := 0) (As := [.long ((x1 : Int32).toInt64), .long 0, .long ((((zI ρ1 781 ((zR ρ1 898 0 0 0).1) 0 0) - 1) : Int32).toInt64)]) (rest := []) (fun l => s_X14_isIn  hz e6 l) hrm dX14_broken_18 rfl rfl (Nat.le_of_ble_eq_true rfl) (Nat.le_of_ble_eq_true rfl) (Nat.le_of_ble_eq_true rfl) rfl (Nat.le_of_ble_eq_true rfl) (fun vr h2 hq => ?_) (fun E9 h9 hq => hq.elim)
  obtain ⟨rfl, hz⟩ := hq
  show wp _ _ 21 [(0, .ref (A 14 0 0)), (1, .int x1)] [.int v4] _ _ _
  refine w_if_eq 33 dX14_broken_21 rfl rfl (fun q21 => ?_) (fun q21 => ?_)
  · have hr := bt q21 hr
    refine w_aload_n 0 dX14_broken_33 rfl rfl rfl ?_
    refine w_iconst 1 dX14_broken_34 rfl rfl ?_
    obtain ⟨v8, ρ9, e10, hr⟩ := bq_some hr
    refine c_X14_155 (As := [.int 1]) (rest := []) (fun l => s_X14_fail  hz e10 l) hrm dX14_broken_35 rfl rfl (Nat.le_of_ble_eq_true rfl) (Nat.le_of_ble_eq_true rfl) (Nat.le_of_ble_eq_true rfl) (hz.o14 rfl) rfl (Nat.le_of_ble_eq_true rfl) (fun vr h2 hq => ?_) (fun E9 h9 hq => hq.elim)
    obtain ⟨rfl, hz⟩ := hq
    show wp _ _ 38 [(0, .ref (A 14 0 0)), (1, .int x1)] [.int v8] _ _ _
    refine w_iret hf dX14_broken_38 rfl (Nat.le_of_ble_eq_true rfl) (Nat.le_of_ble_eq_true rfl) ?_
    obtain ⟨rfl, rfl⟩ := ret_inj hr
    exact ⟨rfl, hz⟩
  · have hr := bf q21 hr
    refine w_aload_n 0 dX14_broken_24 rfl rfl rfl ?_
    refine g_X14_76 dX14_broken_25 rfl (hz.o14 rfl) (hz.r927 rfl) ?_
    refine w_iload_n 1 dX14_broken_28 rfl rfl rfl ?_
    obtain ⟨g12, hr⟩ := gd hr
    refine w_iald dX14_broken_29 rfl (hz.k927 rfl) (gin (hz.n927 rfl) g12) (hz.x927 rfl) ?_
    refine w_goto 38 dX14_broken_30 rfl ?_
    refine w_iret hf dX14_broken_38 rfl (Nat.le_of_ble_eq_true rfl) (Nat.le_of_ble_eq_true rfl) ?_
    obtain ⟨rfl, rfl⟩ := ret_inj hr
    exact ⟨rfl, hz⟩

set_option maxRecDepth 20000 in
set_option maxHeartbeats 4000000 in
theorem s_X14_lost {A : Nat → Nat → Nat → Nat} {h : Hp} {σ ρ ρ' : Zs} {v : Int32}   (hz : Rp A h σ ρ) (hr : fX14_lost  ρ = some (v, ρ')) : ∀ l : Launch, Sp l mX14_lost 0 0 0 [.ref (A 14 0 0)] h (QI A v σ ρ') X0 := by
  intro l
  refine Sp.of rfl rfl (lv := [(0, .ref (A 14 0 0))]) (Nat.le_of_ble_eq_true rfl) rfl (fun x hf hrm => ?_)
  rw [fX14_lost.eq_1] at hr
  refine w_aload_n 0 dX14_lost_0 rfl rfl rfl ?_
  refine w_iconst 0 dX14_lost_1 rfl rfl ?_
  refine p_X14_149 dX14_lost_2 rfl (hz.o14 rfl) ?_
  obtain ⟨ρ1, e2, hr⟩ := lt_e hr
  have hz := (hz.s896 (v := 0) rfl).tr e2
  refine w_aload_n 0 dX14_lost_5 rfl rfl rfl ?_
  refine g_X14_453 dX14_lost_6 rfl (hz.o14 rfl) (hz.i928 rfl) ?_
  refine w_iret hf dX14_lost_9 rfl (Nat.le_of_ble_eq_true rfl) (Nat.le_of_ble_eq_true rfl) ?_
  obtain ⟨rfl, rfl⟩ := ret_inj hr
  exact ⟨rfl, hz⟩

set_option maxRecDepth 20000 in
set_option maxHeartbeats 4000000 in
theorem s_X14_isStopped {A : Nat → Nat → Nat → Nat} {h : Hp} {σ ρ ρ' : Zs} {v : Int32}   (hz : Rp A h σ ρ) (hr : fX14_isStopped  ρ = some (v, ρ')) : ∀ l : Launch, Sp l mX14_isStopped 0 0 0 [.ref (A 14 0 0)] h (QI A v σ ρ') X0 := by
  intro l
  refine Sp.of rfl rfl (lv := [(0, .ref (A 14 0 0))]) (Nat.le_of_ble_eq_true rfl) rfl (fun x hf hrm => ?_)
  rw [fX14_isStopped.eq_1] at hr
  refine w_aload_n 0 dX14_isStopped_0 rfl rfl rfl ?_
  refine w_iconst 0 dX14_isStopped_1 rfl rfl ?_
  refine p_X14_149 dX14_isStopped_2 rfl (hz.o14 rfl) ?_
  obtain ⟨ρ1, e2, hr⟩ := lt_e hr
  have hz := (hz.s896 (v := 0) rfl).tr e2
  refine w_aload_n 0 dX14_isStopped_5 rfl rfl rfl ?_
  refine g_X14_456 dX14_isStopped_6 rfl (hz.o14 rfl) (hz.i929 rfl) ?_
  obtain ⟨g3, hr⟩ := gd hr
  refine w_zret hf dX14_isStopped_9 rfl (zr g3) (Nat.le_of_ble_eq_true rfl) (Nat.le_of_ble_eq_true rfl) ?_
  obtain ⟨rfl, rfl⟩ := ret_inj hr
  exact ⟨rfl, hz⟩

set_option maxRecDepth 20000 in
set_option maxHeartbeats 4000000 in
theorem s_X14_write {A : Nat → Nat → Nat → Nat} {h : Hp} {σ ρ ρ' : Zs} {v : Unit} {x1 : Int32} {x2 : Int32}  (hz : Rp A h σ ρ) (hr : fX14_write x1 x2 ρ = some (v, ρ')) : ∀ l : Launch, Sp l mX14_write 0 0 0 [.ref (A 14 0 0), .int x1, .int x2] h (QV A v σ ρ') X0 := by
  intro l
  refine Sp.of rfl rfl (lv := [(0, .ref (A 14 0 0)), (1, .int x1), (2, .int x2)]) (Nat.le_of_ble_eq_true rfl) rfl (fun x hf hrm => ?_)
  rw [fX14_write.eq_1] at hr
  refine w_aload_n 0 dX14_write_0 rfl rfl rfl ?_
  refine g_X14_104 dX14_write_1 rfl (hz.o14 rfl) (hz.r941 rfl) ?_
  refine w_aload_n 0 dX14_write_4 rfl rfl rfl ?_
  refine g_X14_437 dX14_write_5 rfl (hz.o14 rfl) (hz.i940 rfl) ?_
  refine w_iload_n 1 dX14_write_8 rfl rfl rfl ?_
  obtain ⟨g1, hr⟩ := gd hr
  refine w_iast dX14_write_9 rfl (hz.k941 rfl) (gin (hz.n941 rfl) g1) ?_
  obtain ⟨ρ2, e3, hr⟩ := lt_e hr
  have hz := (hz.s941 (i := (Int32.toNatClampNeg (zI ρ 940 0 0 0))) (v := x1) rfl).tr e3
  refine w_aload_n 0 dX14_write_10 rfl rfl rfl ?_
  refine g_X14_107 dX14_write_11 rfl (hz.o14 rfl) (hz.r942 rfl) ?_
  refine w_aload_n 0 dX14_write_14 rfl rfl rfl ?_
  refine g_X14_437 dX14_write_15 rfl (hz.o14 rfl) (hz.i940 rfl) ?_
  refine w_iload_n 2 dX14_write_18 rfl rfl rfl ?_
  obtain ⟨g4, hr⟩ := gd hr
  refine w_iast dX14_write_19 rfl (hz.k942 rfl) (gin (hz.n942 rfl) g4) ?_
  obtain ⟨ρ5, e6, hr⟩ := lt_e hr
  have hz := (hz.s942 (i := (Int32.toNatClampNeg (zI ρ2 940 0 0 0))) (v := x2) rfl).tr e6
  refine w_aload_n 0 dX14_write_20 rfl rfl rfl ?_
  refine w_dup dX14_write_21 rfl rfl ?_
  refine g_X14_437 dX14_write_22 rfl (hz.o14 rfl) (hz.i940 rfl) ?_
  refine w_iconst 1 dX14_write_25 rfl rfl ?_
  refine w_iadd dX14_write_26 rfl ?_
  refine p_X14_437 dX14_write_27 rfl (hz.o14 rfl) ?_
  obtain ⟨ρ7, e8, hr⟩ := lt_e hr
  have hz := (hz.s940 (v := ((zI ρ5 940 0 0 0) + 1)) rfl).tr e8
  refine w_vret hf dX14_write_30 rfl (Nat.le_of_ble_eq_true rfl) (Nat.le_of_ble_eq_true rfl) ?_
  obtain ⟨rfl, rfl⟩ := ret_inj hr
  exact ⟨rfl, hz⟩

set_option maxRecDepth 20000 in
set_option maxHeartbeats 4000000 in
theorem s_X14_go {A : Nat → Nat → Nat → Nat} {h : Hp} {σ ρ ρ' : Zs} {v : Int32}   (hz : Rp A h σ ρ) (hr : fX14_go  ρ = some (v, ρ')) : ∀ l : Launch, Sp l mX14_go 1 0 0 [.ref (A 14 0 0)] h (QI A v σ ρ') X0 := by
  intro l
  refine Sp.of rfl rfl (lv := [(0, .ref (A 14 0 0))]) (Nat.le_of_ble_eq_true rfl) rfl (fun x hf hrm => ?_)
  rw [fX14_go.eq_1] at hr
  refine w_aload_n 0 dX14_go_0 rfl rfl rfl ?_
  refine w_iconst 0 dX14_go_1 rfl rfl ?_
  refine p_X14_149 dX14_go_2 rfl (hz.o14 rfl) ?_
  obtain ⟨ρ1, e2, hr⟩ := lt_e hr
  have hz := (hz.s896 (v := 0) rfl).tr e2
  refine w_aload_n 0 dX14_go_5 rfl rfl rfl ?_
  refine g_X14_456 dX14_go_6 rfl (hz.o14 rfl) (hz.i929 rfl) ?_
  refine w_if_eq 22 dX14_go_9 rfl rfl (fun q9 => ?_) (fun q9 => ?_)
  · have hr := bt q9 hr
    refine w_aload_n 0 dX14_go_22 rfl rfl rfl ?_
    refine w_iconst 1 dX14_go_23 rfl rfl ?_
    obtain ⟨v3, ρ4, e5, hr⟩ := bq_some hr
    refine c_X14_155 (As := [.int 1]) (rest := []) (fun l => s_X14_fail  hz e5 l) hrm dX14_go_24 rfl rfl (Nat.le_of_ble_eq_true rfl) (Nat.le_of_ble_eq_true rfl) (Nat.le_of_ble_eq_true rfl) (hz.o14 rfl) rfl (Nat.le_of_ble_eq_true rfl) (fun vr h2 hq => ?_) (fun E9 h9 hq => hq.elim)
    obtain ⟨rfl, hz⟩ := hq
    show wp _ _ 27 [(0, .ref (A 14 0 0))] [.int v3] _ _ _
    refine w_iret hf dX14_go_27 rfl (Nat.le_of_ble_eq_true rfl) (Nat.le_of_ble_eq_true rfl) ?_
    obtain ⟨rfl, rfl⟩ := ret_inj hr
    exact ⟨rfl, hz⟩
  · have hr := bf q9 hr
    refine w_aload_n 0 dX14_go_12 rfl rfl rfl ?_
    refine g_X14_437 dX14_go_13 rfl (hz.o14 rfl) (hz.i940 rfl) ?_
    refine w_sipush 200 dX14_go_16 rfl rfl ?_
    refine w_icmp_ne 28 dX14_go_19 rfl rfl (fun q19 => ?_) (fun q19 => ?_)
    · have hr := bf q19 hr
      refine w_aload_n 0 dX14_go_28 rfl rfl rfl ?_
      refine w_iconst 3 dX14_go_29 rfl rfl ?_
      refine w_iconst 0 dX14_go_30 rfl rfl ?_
      obtain ⟨v7, ρ8, e9, hr⟩ := bq_some hr
      refine c_X14_557 (As := [.int 3, .int 0]) (rest := []) (fun l => s_X14_write  hz e9 l) hrm dX14_go_31 rfl rfl (Nat.le_of_ble_eq_true rfl) (Nat.le_of_ble_eq_true rfl) (Nat.le_of_ble_eq_true rfl) (hz.o14 rfl) rfl (Nat.le_of_ble_eq_true rfl) (fun vr h2 hq => ?_) (fun E9 h9 hq => hq.elim)
      obtain ⟨rfl, hz⟩ := hq
      show wp _ _ 34 [(0, .ref (A 14 0 0))] [] _ _ _
      refine w_aload_n 0 dX14_go_34 rfl rfl rfl ?_
      refine w_iconst 0 dX14_go_35 rfl rfl ?_
      refine p_X14_456 dX14_go_36 rfl (hz.o14 rfl) (Or.inl rfl) ?_
      obtain ⟨ρ11, e12, hr⟩ := lt_e hr
      have hz := (hz.s929 (v := 0) rfl).tr e12
      refine w_aload_n 0 dX14_go_39 rfl rfl rfl ?_
      refine g_X14_440 dX14_go_40 rfl (hz.o14 rfl) (hz.i923 rfl) ?_
      refine w_iret hf dX14_go_43 rfl (Nat.le_of_ble_eq_true rfl) (Nat.le_of_ble_eq_true rfl) ?_
      obtain ⟨rfl, rfl⟩ := ret_inj hr
      exact ⟨rfl, hz⟩
    · have hr := bt q19 hr
      refine w_aload_n 0 dX14_go_22 rfl rfl rfl ?_
      refine w_iconst 1 dX14_go_23 rfl rfl ?_
      obtain ⟨v13, ρ14, e15, hr⟩ := bq_some hr
      refine c_X14_155 (As := [.int 1]) (rest := []) (fun l => s_X14_fail  hz e15 l) hrm dX14_go_24 rfl rfl (Nat.le_of_ble_eq_true rfl) (Nat.le_of_ble_eq_true rfl) (Nat.le_of_ble_eq_true rfl) (hz.o14 rfl) rfl (Nat.le_of_ble_eq_true rfl) (fun vr h2 hq => ?_) (fun E9 h9 hq => hq.elim)
      obtain ⟨rfl, hz⟩ := hq
      show wp _ _ 27 [(0, .ref (A 14 0 0))] [.int v13] _ _ _
      refine w_iret hf dX14_go_27 rfl (Nat.le_of_ble_eq_true rfl) (Nat.le_of_ble_eq_true rfl) ?_
      obtain ⟨rfl, rfl⟩ := ret_inj hr
      exact ⟨rfl, hz⟩

set_option maxRecDepth 20000 in
set_option maxHeartbeats 4000000 in
theorem s_X14_mark {A : Nat → Nat → Nat → Nat} {h : Hp} {σ ρ ρ' : Zs} {v : Int32}   (hz : Rp A h σ ρ) (hr : fX14_mark  ρ = some (v, ρ')) : ∀ l : Launch, Sp l mX14_mark 1 0 0 [.ref (A 14 0 0)] h (QI A v σ ρ') X0 := by
  intro l
  refine Sp.of rfl rfl (lv := [(0, .ref (A 14 0 0))]) (Nat.le_of_ble_eq_true rfl) rfl (fun x hf hrm => ?_)
  rw [fX14_mark.eq_1] at hr
  refine w_aload_n 0 dX14_mark_0 rfl rfl rfl ?_
  refine w_iconst 0 dX14_mark_1 rfl rfl ?_
  refine p_X14_149 dX14_mark_2 rfl (hz.o14 rfl) ?_
  obtain ⟨ρ1, e2, hr⟩ := lt_e hr
  have hz := (hz.s896 (v := 0) rfl).tr e2
  refine w_aload_n 0 dX14_mark_5 rfl rfl rfl ?_
  have hv3 := hz.ww898 (p := 0) (s := 0) rfl
  refine g_X14_16 dX14_mark_6 rfl (hz.o14 rfl) (hz.rr898 rfl) ?_
  refine g_X14_298 dX14_mark_9 rfl (hz.o12 hv3) (hz.i768 hv3) ?_
  refine w_if_eq 24 dX14_mark_12 rfl rfl (fun q12 => ?_) (fun q12 => ?_)
  · have hr := bt q12 hr
    refine w_aload_n 0 dX14_mark_24 rfl rfl rfl ?_
    refine w_iconst 1 dX14_mark_25 rfl rfl ?_
    obtain ⟨v4, ρ5, e6, hr⟩ := bq_some hr
    refine c_X14_155 (As := [.int 1]) (rest := []) (fun l => s_X14_fail  hz e6 l) hrm dX14_mark_26 rfl rfl (Nat.le_of_ble_eq_true rfl) (Nat.le_of_ble_eq_true rfl) (Nat.le_of_ble_eq_true rfl) (hz.o14 rfl) rfl (Nat.le_of_ble_eq_true rfl) (fun vr h2 hq => ?_) (fun E9 h9 hq => hq.elim)
    obtain ⟨rfl, hz⟩ := hq
    show wp _ _ 29 [(0, .ref (A 14 0 0))] [.int v4] _ _ _
    refine w_iret hf dX14_mark_29 rfl (Nat.le_of_ble_eq_true rfl) (Nat.le_of_ble_eq_true rfl) ?_
    obtain ⟨rfl, rfl⟩ := ret_inj hr
    exact ⟨rfl, hz⟩
  · have hr := bf q12 hr
    refine w_aload_n 0 dX14_mark_15 rfl rfl rfl ?_
    refine g_X14_423 dX14_mark_16 rfl (hz.o14 rfl) (hz.i946 rfl) ?_
    refine w_bipush 8 dX14_mark_19 rfl rfl ?_
    refine w_icmp_ne 30 dX14_mark_21 rfl rfl (fun q21 => ?_) (fun q21 => ?_)
    · have hr := bf q21 hr
      refine w_aload_n 0 dX14_mark_30 rfl rfl rfl ?_
      refine g_X14_119 dX14_mark_31 rfl (hz.o14 rfl) (hz.r947 rfl) ?_
      refine w_aload_n 0 dX14_mark_34 rfl rfl rfl ?_
      refine g_X14_423 dX14_mark_35 rfl (hz.o14 rfl) (hz.i946 rfl) ?_
      refine w_aload_n 0 dX14_mark_38 rfl rfl rfl ?_
      refine g_X14_437 dX14_mark_39 rfl (hz.o14 rfl) (hz.i940 rfl) ?_
      obtain ⟨g8, hr⟩ := gd hr
      refine w_iast dX14_mark_42 rfl (hz.k947 rfl) (gin (hz.n947 rfl) g8) ?_
      obtain ⟨ρ9, e10, hr⟩ := lt_e hr
      have hz := (hz.s947 (i := (Int32.toNatClampNeg (zI ρ1 946 0 0 0))) (v := (zI ρ1 940 0 0 0)) rfl).tr e10
      refine w_aload_n 0 dX14_mark_43 rfl rfl rfl ?_
      refine w_dup dX14_mark_44 rfl rfl ?_
      refine g_X14_423 dX14_mark_45 rfl (hz.o14 rfl) (hz.i946 rfl) ?_
      refine w_iconst 1 dX14_mark_48 rfl rfl ?_
      refine w_iadd dX14_mark_49 rfl ?_
      refine p_X14_423 dX14_mark_50 rfl (hz.o14 rfl) ?_
      obtain ⟨ρ11, e12, hr⟩ := lt_e hr
      have hz := (hz.s946 (v := ((zI ρ9 946 0 0 0) + 1)) rfl).tr e12
      refine w_aload_n 0 dX14_mark_53 rfl rfl rfl ?_
      refine g_X14_423 dX14_mark_54 rfl (hz.o14 rfl) (hz.i946 rfl) ?_
      refine w_iconst 1 dX14_mark_57 rfl rfl ?_
      refine w_isub dX14_mark_58 rfl ?_
      refine w_iret hf dX14_mark_59 rfl (Nat.le_of_ble_eq_true rfl) (Nat.le_of_ble_eq_true rfl) ?_
      obtain ⟨rfl, rfl⟩ := ret_inj hr
      exact ⟨rfl, hz⟩
    · have hr := bt q21 hr
      refine w_aload_n 0 dX14_mark_24 rfl rfl rfl ?_
      refine w_iconst 1 dX14_mark_25 rfl rfl ?_
      obtain ⟨v13, ρ14, e15, hr⟩ := bq_some hr
      refine c_X14_155 (As := [.int 1]) (rest := []) (fun l => s_X14_fail  hz e15 l) hrm dX14_mark_26 rfl rfl (Nat.le_of_ble_eq_true rfl) (Nat.le_of_ble_eq_true rfl) (Nat.le_of_ble_eq_true rfl) (hz.o14 rfl) rfl (Nat.le_of_ble_eq_true rfl) (fun vr h2 hq => ?_) (fun E9 h9 hq => hq.elim)
      obtain ⟨rfl, hz⟩ := hq
      show wp _ _ 29 [(0, .ref (A 14 0 0))] [.int v13] _ _ _
      refine w_iret hf dX14_mark_29 rfl (Nat.le_of_ble_eq_true rfl) (Nat.le_of_ble_eq_true rfl) ?_
      obtain ⟨rfl, rfl⟩ := ret_inj hr
      exact ⟨rfl, hz⟩

set_option maxRecDepth 20000 in
set_option maxHeartbeats 4000000 in
theorem s_X14_rows {A : Nat → Nat → Nat → Nat} {h : Hp} {σ ρ ρ' : Zs} {v : Int32} {x1 : Int32}  (hz : Rp A h σ ρ) (hr : fX14_rows x1 ρ = some (v, ρ')) : ∀ l : Launch, Sp l mX14_rows 2 0 0 [.ref (A 14 0 0), .int x1] h (QI A v σ ρ') X0 := by
  intro l
  refine Sp.of rfl rfl (lv := [(0, .ref (A 14 0 0)), (1, .int x1)]) (Nat.le_of_ble_eq_true rfl) rfl (fun x hf hrm => ?_)
  rw [fX14_rows.eq_1] at hr
  refine w_aload_n 0 dX14_rows_0 rfl rfl rfl ?_
  refine w_iconst 0 dX14_rows_1 rfl rfl ?_
  refine p_X14_149 dX14_rows_2 rfl (hz.o14 rfl) ?_
  obtain ⟨ρ1, e2, hr⟩ := lt_e hr
  have hz := (hz.s896 (v := 0) rfl).tr e2
  refine w_aload_n 0 dX14_rows_5 rfl rfl rfl ?_
  refine w_iload_n 1 dX14_rows_6 rfl rfl rfl ?_
  obtain ⟨v3, ρ4, e5, hr⟩ := bq_some hr
  refine c_X14_448 (As := [.int x1]) (rest := []) (fun l => s_X14_isStream  hz e5 l) hrm dX14_rows_7 rfl rfl (Nat.le_of_ble_eq_true rfl) (Nat.le_of_ble_eq_true rfl) (Nat.le_of_ble_eq_true rfl) (hz.o14 rfl) rfl (Nat.le_of_ble_eq_true rfl) (fun vr h2 hq => ?_) (fun E9 h9 hq => hq.elim)
  obtain ⟨rfl, hz⟩ := hq
  show wp _ _ 10 [(0, .ref (A 14 0 0)), (1, .int x1)] [.int v3] _ _ _
  refine w_if_eq 22 dX14_rows_10 rfl rfl (fun q10 => ?_) (fun q10 => ?_)
  · have hr := bt q10 hr
    refine w_aload_n 0 dX14_rows_22 rfl rfl rfl ?_
    refine w_iconst 1 dX14_rows_23 rfl rfl ?_
    obtain ⟨v7, ρ8, e9, hr⟩ := bq_some hr
    refine c_X14_155 (As := [.int 1]) (rest := []) (fun l => s_X14_fail  hz e9 l) hrm dX14_rows_24 rfl rfl (Nat.le_of_ble_eq_true rfl) (Nat.le_of_ble_eq_true rfl) (Nat.le_of_ble_eq_true rfl) (hz.o14 rfl) rfl (Nat.le_of_ble_eq_true rfl) (fun vr h2 hq => ?_) (fun E9 h9 hq => hq.elim)
    obtain ⟨rfl, hz⟩ := hq
    show wp _ _ 27 [(0, .ref (A 14 0 0)), (1, .int x1)] [.int v7] _ _ _
    refine w_iret hf dX14_rows_27 rfl (Nat.le_of_ble_eq_true rfl) (Nat.le_of_ble_eq_true rfl) ?_
    obtain ⟨rfl, rfl⟩ := ret_inj hr
    exact ⟨rfl, hz⟩
  · have hr := bf q10 hr
    refine w_aload_n 0 dX14_rows_13 rfl rfl rfl ?_
    refine g_X14_49 dX14_rows_14 rfl (hz.o14 rfl) (hz.r917 rfl) ?_
    refine w_iload_n 1 dX14_rows_17 rfl rfl rfl ?_
    obtain ⟨g11, hr⟩ := gd hr
    refine w_iald dX14_rows_18 rfl (hz.k917 rfl) (gin (hz.n917 rfl) g11) (hz.x917 rfl) ?_
    refine w_goto 27 dX14_rows_19 rfl ?_
    refine w_iret hf dX14_rows_27 rfl (Nat.le_of_ble_eq_true rfl) (Nat.le_of_ble_eq_true rfl) ?_
    obtain ⟨rfl, rfl⟩ := ret_inj hr
    exact ⟨rfl, hz⟩

set_option maxRecDepth 20000 in
set_option maxHeartbeats 4000000 in
theorem s_X14_rowAt {A : Nat → Nat → Nat → Nat} {h : Hp} {σ ρ ρ' : Zs} {v : Int32} {x0 : Int32} {x1 : Int32}  (hz : Rp A h σ ρ) (hr : fX14_rowAt x0 x1 ρ = some (v, ρ')) : ∀ l : Launch, Sp l mX14_rowAt 0 0 0 [.int x0, .int x1] h (QI A v σ ρ') X0 := by
  intro l
  refine Sp.of rfl rfl (lv := [(0, .int x0), (1, .int x1)]) (Nat.le_of_ble_eq_true rfl) rfl (fun x hf hrm => ?_)
  rw [fX14_rowAt.eq_1] at hr
  refine w_sipush 200 dX14_rowAt_0 rfl rfl ?_
  refine w_iload_n 0 dX14_rowAt_3 rfl rfl rfl ?_
  refine w_imul dX14_rowAt_4 rfl ?_
  refine w_iload_n 1 dX14_rowAt_5 rfl rfl rfl ?_
  refine w_iadd dX14_rowAt_6 rfl ?_
  refine w_bipush 7 dX14_rowAt_7 rfl rfl ?_
  refine w_imul dX14_rowAt_9 rfl ?_
  refine w_iret hf dX14_rowAt_10 rfl (Nat.le_of_ble_eq_true rfl) (Nat.le_of_ble_eq_true rfl) ?_
  obtain ⟨rfl, rfl⟩ := ret_inj hr
  exact ⟨rfl, hz⟩

set_option maxRecDepth 20000 in
set_option maxHeartbeats 4000000 in
theorem w_X14_cell_55 {A : Nat → Nat → Nat → Nat} {σ ρ' : Zs} {v : Int64} {x : Cxt} {x1 : Int32} {x2 : Int32} {x3 : Int32}  (hf : m_fin 0 0 (QJ A v σ ρ') X0 x) (hrm : m_rm 2 0 0 x)  : ∀ (z0 : Int32) (ρ : Zs) (h : Hp), Rp A h σ ρ → fX14_cell_55 x1 x2 x3  z0 ρ = some (v, ρ') → wp x mX14_cell 55 [(0, .ref (A 14 0 0)), (1, .int x1), (2, .int x2), (3, .int x3)] [.int z0, .ref (A 14 0 0)] h 0 0 := by
  intro z0 ρ h hz hr
  rw [fX14_cell_55.eq_1] at hr
  refine p_X14_149 dX14_cell_55 rfl (hz.o14 rfl) ?_
  obtain ⟨ρ5, e6, hr⟩ := lt_e hr
  have hz := (hz.s896 (v := z0) rfl).tr e6
  refine w_aload_n 0 dX14_cell_58 rfl rfl rfl ?_
  refine g_X14_149 dX14_cell_59 rfl (hz.o14 rfl) (hz.i896 rfl) ?_
  refine w_if_ne 82 dX14_cell_62 rfl rfl (fun q62 => ?_) (fun q62 => ?_)
  · have hr := bf q62 hr
    refine w_lconst 0 dX14_cell_82 rfl rfl ?_
    refine w_lret hf dX14_cell_83 rfl (Nat.le_of_ble_eq_true rfl) (Nat.le_of_ble_eq_true rfl) ?_
    obtain ⟨rfl, rfl⟩ := ret_inj hr
    exact ⟨rfl, hz⟩
  · have hr := bt q62 hr
    refine w_aload_n 0 dX14_cell_65 rfl rfl rfl ?_
    refine g_X14_46 dX14_cell_66 rfl (hz.o14 rfl) (hz.r916 rfl) ?_
    refine w_iload_n 1 dX14_cell_69 rfl rfl rfl ?_
    refine w_iload_n 2 dX14_cell_70 rfl rfl rfl ?_
    obtain ⟨v7, ρ8, e9, hr⟩ := bq_some hr
    refine c_X14_475 (b := 0) (As := [.int x1, .int x2]) (rest := [.ref (A 1940 0 0)]) (fun l => s_X14_rowAt  hz e9 l) hrm dX14_cell_71 rfl rfl (Nat.le_of_ble_eq_true rfl) (Nat.le_of_ble_eq_true rfl) (Nat.le_of_ble_eq_true rfl) rfl (Nat.le_of_ble_eq_true rfl) (fun vr h2 hq => ?_) (fun E9 h9 hq => hq.elim)
    obtain ⟨rfl, hz⟩ := hq
    show wp _ _ 74 [(0, .ref (A 14 0 0)), (1, .int x1), (2, .int x2), (3, .int x3)] [.int v7, .ref (A 1940 0 0)] _ _ _
    refine w_iconst 1 dX14_cell_74 rfl rfl ?_
    refine w_iadd dX14_cell_75 rfl ?_
    refine w_iload_n 3 dX14_cell_76 rfl rfl rfl ?_
    refine w_iadd dX14_cell_77 rfl ?_
    obtain ⟨g11, hr⟩ := gd hr
    refine w_lald dX14_cell_78 rfl (hz.k916 rfl) (gin (hz.n916 rfl) g11) (hz.x916 rfl) ?_
    refine w_goto 83 dX14_cell_79 rfl ?_
    refine w_lret hf dX14_cell_83 rfl (Nat.le_of_ble_eq_true rfl) (Nat.le_of_ble_eq_true rfl) ?_
    obtain ⟨rfl, rfl⟩ := ret_inj hr
    exact ⟨rfl, hz⟩
set_option maxRecDepth 20000 in
set_option maxHeartbeats 4000000 in
theorem s_X14_cell {A : Nat → Nat → Nat → Nat} {h : Hp} {σ ρ ρ' : Zs} {v : Int64} {x1 : Int32} {x2 : Int32} {x3 : Int32}  (hz : Rp A h σ ρ) (hr : fX14_cell x1 x2 x3 ρ = some (v, ρ')) : ∀ l : Launch, Sp l mX14_cell 2 0 0 [.ref (A 14 0 0), .int x1, .int x2, .int x3] h (QJ A v σ ρ') X0 := by
  intro l
  refine Sp.of rfl rfl (lv := [(0, .ref (A 14 0 0)), (1, .int x1), (2, .int x2), (3, .int x3)]) (Nat.le_of_ble_eq_true rfl) rfl (fun x hf hrm => ?_)
  rw [fX14_cell.eq_1] at hr
  refine w_aload_n 0 dX14_cell_0 rfl rfl rfl ?_
  refine w_aload_n 0 dX14_cell_1 rfl rfl rfl ?_
  refine w_iload_n 1 dX14_cell_2 rfl rfl rfl ?_
  obtain ⟨v1, ρ2, e3, hr⟩ := bq_some hr
  refine c_X14_448 (As := [.int x1]) (rest := [.ref (A 14 0 0)]) (fun l => s_X14_isStream  hz e3 l) hrm dX14_cell_3 rfl rfl (Nat.le_of_ble_eq_true rfl) (Nat.le_of_ble_eq_true rfl) (Nat.le_of_ble_eq_true rfl) (hz.o14 rfl) rfl (Nat.le_of_ble_eq_true rfl) (fun vr h2 hq => ?_) (fun E9 h9 hq => hq.elim)
  obtain ⟨rfl, hz⟩ := hq
  show wp _ _ 6 [(0, .ref (A 14 0 0)), (1, .int x1), (2, .int x2), (3, .int x3)] [.int v1, .ref (A 14 0 0)] _ _ _
  refine w_if_eq 54 dX14_cell_6 rfl rfl (fun q6 => ?_) (fun q6 => ?_)
  · have hr := bt q6 hr
    refine w_iconst 1 dX14_cell_54 rfl rfl ?_
    refine w_lv [(0, .ref (A 14 0 0)), (1, .int x1), (2, .int x2), (3, .int x3)] [0, 1, 2, 3] rfl ?_
    exact w_X14_cell_55 hf hrm   1 _ _ hz  hr
  · have hr := bf q6 hr
    refine w_iload_n 2 dX14_cell_9 rfl rfl rfl ?_
    refine w_i2l dX14_cell_10 rfl ?_
    refine w_lconst 0 dX14_cell_11 rfl rfl ?_
    refine w_aload_n 0 dX14_cell_12 rfl rfl rfl ?_
    refine g_X14_49 dX14_cell_13 rfl (hz.o14 rfl) (hz.r917 rfl) ?_
    refine w_iload_n 1 dX14_cell_16 rfl rfl rfl ?_
    obtain ⟨g12, hr⟩ := gd hr
    refine w_iald dX14_cell_17 rfl (hz.k917 rfl) (gin (hz.n917 rfl) g12) (hz.x917 rfl) ?_
    refine w_iconst 1 dX14_cell_18 rfl rfl ?_
    refine w_isub dX14_cell_19 rfl ?_
    refine w_i2l dX14_cell_20 rfl ?_
    obtain ⟨v13, ρ14, e15, hr⟩ := bq_some hr
    refine c_X14_163 (b := 0) (As := [.long ((x2 : Int32).toInt64), .long 0, .long ((((zI ρ2 1941 0 0 (Int32.toNatClampNeg x1)) - 1) : Int32).toInt64)]) (rest := [.ref (A 14 0 0)]) (fun l => s_X14_isIn  hz e15 l) hrm dX14_cell_21 rfl rfl (Nat.le_of_ble_eq_true rfl) (Nat.le_of_ble_eq_true rfl) (Nat.le_of_ble_eq_true rfl) rfl (Nat.le_of_ble_eq_true rfl) (fun vr h2 hq => ?_) (fun E9 h9 hq => hq.elim)
    obtain ⟨rfl, hz⟩ := hq
    show wp _ _ 24 [(0, .ref (A 14 0 0)), (1, .int x1), (2, .int x2), (3, .int x3)] [.int v13, .ref (A 14 0 0)] _ _ _
    refine w_if_eq 54 dX14_cell_24 rfl rfl (fun q24 => ?_) (fun q24 => ?_)
    · have hr := bt q24 hr
      refine w_iconst 1 dX14_cell_54 rfl rfl ?_
      refine w_lv [(0, .ref (A 14 0 0)), (1, .int x1), (2, .int x2), (3, .int x3)] [0, 1, 2, 3] rfl ?_
      exact w_X14_cell_55 hf hrm   1 _ _ hz  hr
    · have hr := bf q24 hr
      refine w_iload_n 3 dX14_cell_27 rfl rfl rfl ?_
      refine w_i2l dX14_cell_28 rfl ?_
      refine w_ldc2 dX14_cell_29 rfl k_X14_564 ?_
      refine w_aload_n 0 dX14_cell_32 rfl rfl rfl ?_
      have hv17 := hz.ww898 (p := 0) (s := 0) rfl
      refine g_X14_16 dX14_cell_33 rfl (hz.o14 rfl) (hz.rr898 rfl) ?_
      refine g_X14_292 dX14_cell_36 rfl (hz.o12 hv17) (hz.r771 hv17) ?_
      refine w_iload_n 1 dX14_cell_39 rfl rfl rfl ?_
      obtain ⟨g18, hr⟩ := gd hr
      refine w_iald dX14_cell_40 rfl (hz.k771 hv17) (gin (hz.n771 hv17) g18) (hz.x771 hv17) ?_
      refine w_iconst 1 dX14_cell_41 rfl rfl ?_
      refine w_isub dX14_cell_42 rfl ?_
      refine w_i2l dX14_cell_43 rfl ?_
      obtain ⟨v19, ρ20, e21, hr⟩ := bq_some hr
      refine c_X14_163 (b := 0) (As := [.long ((x3 : Int32).toInt64), .long (-1), .long ((((zI ρ14 1795 ((zR ρ14 898 0 0 0).1) 0 (Int32.toNatClampNeg x1)) - 1) : Int32).toInt64)]) (rest := [.ref (A 14 0 0)]) (fun l => s_X14_isIn  hz e21 l) hrm dX14_cell_44 rfl rfl (Nat.le_of_ble_eq_true rfl) (Nat.le_of_ble_eq_true rfl) (Nat.le_of_ble_eq_true rfl) rfl (Nat.le_of_ble_eq_true rfl) (fun vr h2 hq => ?_) (fun E9 h9 hq => hq.elim)
      obtain ⟨rfl, hz⟩ := hq
      show wp _ _ 47 [(0, .ref (A 14 0 0)), (1, .int x1), (2, .int x2), (3, .int x3)] [.int v19, .ref (A 14 0 0)] _ _ _
      refine w_if_eq 54 dX14_cell_47 rfl rfl (fun q47 => ?_) (fun q47 => ?_)
      · have hr := bt q47 hr
        refine w_iconst 1 dX14_cell_54 rfl rfl ?_
        refine w_lv [(0, .ref (A 14 0 0)), (1, .int x1), (2, .int x2), (3, .int x3)] [0, 1, 2, 3] rfl ?_
        exact w_X14_cell_55 hf hrm   1 _ _ hz  hr
      · have hr := bf q47 hr
        refine w_iconst 0 dX14_cell_50 rfl rfl ?_
        refine w_goto 55 dX14_cell_51 rfl ?_
        refine w_lv [(0, .ref (A 14 0 0)), (1, .int x1), (2, .int x2), (3, .int x3)] [0, 1, 2, 3] rfl ?_
        exact w_X14_cell_55 hf hrm   0 _ _ hz  hr

set_option maxRecDepth 20000 in
set_option maxHeartbeats 4000000 in
theorem s_X14_watermark {A : Nat → Nat → Nat → Nat} {h : Hp} {σ ρ ρ' : Zs} {v : Int32} {x1 : Int32}  (hz : Rp A h σ ρ) (hr : fX14_watermark x1 ρ = some (v, ρ')) : ∀ l : Launch, Sp l mX14_watermark 2 0 0 [.ref (A 14 0 0), .int x1] h (QI A v σ ρ') X0 := by
  intro l
  refine Sp.of rfl rfl (lv := [(0, .ref (A 14 0 0)), (1, .int x1)]) (Nat.le_of_ble_eq_true rfl) rfl (fun x hf hrm => ?_)
  rw [fX14_watermark.eq_1] at hr
  refine w_aload_n 0 dX14_watermark_0 rfl rfl rfl ?_
  refine w_iconst 0 dX14_watermark_1 rfl rfl ?_
  refine p_X14_149 dX14_watermark_2 rfl (hz.o14 rfl) ?_
  obtain ⟨ρ1, e2, hr⟩ := lt_e hr
  have hz := (hz.s896 (v := 0) rfl).tr e2
  refine w_aload_n 0 dX14_watermark_5 rfl rfl rfl ?_
  refine w_iload_n 1 dX14_watermark_6 rfl rfl rfl ?_
  obtain ⟨v3, ρ4, e5, hr⟩ := bq_some hr
  refine c_X14_448 (As := [.int x1]) (rest := []) (fun l => s_X14_isStream  hz e5 l) hrm dX14_watermark_7 rfl rfl (Nat.le_of_ble_eq_true rfl) (Nat.le_of_ble_eq_true rfl) (Nat.le_of_ble_eq_true rfl) (hz.o14 rfl) rfl (Nat.le_of_ble_eq_true rfl) (fun vr h2 hq => ?_) (fun E9 h9 hq => hq.elim)
  obtain ⟨rfl, hz⟩ := hq
  show wp _ _ 10 [(0, .ref (A 14 0 0)), (1, .int x1)] [.int v3] _ _ _
  refine w_if_eq 22 dX14_watermark_10 rfl rfl (fun q10 => ?_) (fun q10 => ?_)
  · have hr := bt q10 hr
    refine w_aload_n 0 dX14_watermark_22 rfl rfl rfl ?_
    refine w_iconst 1 dX14_watermark_23 rfl rfl ?_
    obtain ⟨v7, ρ8, e9, hr⟩ := bq_some hr
    refine c_X14_155 (As := [.int 1]) (rest := []) (fun l => s_X14_fail  hz e9 l) hrm dX14_watermark_24 rfl rfl (Nat.le_of_ble_eq_true rfl) (Nat.le_of_ble_eq_true rfl) (Nat.le_of_ble_eq_true rfl) (hz.o14 rfl) rfl (Nat.le_of_ble_eq_true rfl) (fun vr h2 hq => ?_) (fun E9 h9 hq => hq.elim)
    obtain ⟨rfl, hz⟩ := hq
    show wp _ _ 27 [(0, .ref (A 14 0 0)), (1, .int x1)] [.int v7] _ _ _
    refine w_iret hf dX14_watermark_27 rfl (Nat.le_of_ble_eq_true rfl) (Nat.le_of_ble_eq_true rfl) ?_
    obtain ⟨rfl, rfl⟩ := ret_inj hr
    exact ⟨rfl, hz⟩
  · have hr := bf q10 hr
    refine w_aload_n 0 dX14_watermark_13 rfl rfl rfl ?_
    refine g_X14_52 dX14_watermark_14 rfl (hz.o14 rfl) (hz.r918 rfl) ?_
    refine w_iload_n 1 dX14_watermark_17 rfl rfl rfl ?_
    obtain ⟨g11, hr⟩ := gd hr
    refine w_iald dX14_watermark_18 rfl (hz.k918 rfl) (gin (hz.n918 rfl) g11) (hz.x918 rfl) ?_
    refine w_goto 27 dX14_watermark_19 rfl ?_
    refine w_iret hf dX14_watermark_27 rfl (Nat.le_of_ble_eq_true rfl) (Nat.le_of_ble_eq_true rfl) ?_
    obtain ⟨rfl, rfl⟩ := ret_inj hr
    exact ⟨rfl, hz⟩

set_option maxRecDepth 20000 in
set_option maxHeartbeats 4000000 in
theorem w_X14_windows_24 {A : Nat → Nat → Nat → Nat} {σ ρ' : Zs} {v : Int32} {x : Cxt} {x1 : Int32} {x2 : Int32}  (hf : m_fin 0 0 (QI A v σ ρ') X0 x) (hrm : m_rm 2 0 0 x)  : ∀ (n : Nat) (y3 : Int32) (y4 : Int32) (ρ : Zs) (h : Hp), Rp A h σ ρ → fX14_windows_24 x1 x2  n y3 y4 ρ = some (v, ρ') → wp x mX14_windows 24 [(0, .ref (A 14 0 0)), (1, .int x1), (2, .int x2), (3, .int y3), (4, .int y4)] [] h 0 0
  | 0, _, _, ρ, h => fun hz hr => by
    rw [fX14_windows_24.eq_1] at hr
    exact nono hr
  | n + 1, y3, y4, ρ, h => fun hz hr => by
    rw [fX14_windows_24.eq_2] at hr
    refine w_iload 4 dX14_windows_24 rfl rfl ?_
    refine w_aload_n 0 dX14_windows_26 rfl rfl rfl ?_
    refine g_X14_85 dX14_windows_27 rfl (hz.o14 rfl) (hz.r934 rfl) ?_
    refine w_iload_n 1 dX14_windows_30 rfl rfl rfl ?_
    obtain ⟨g7, hr⟩ := gd hr
    refine w_iald dX14_windows_31 rfl (hz.k934 rfl) (gin (hz.n934 rfl) g7) (hz.x934 rfl) ?_
    refine w_icmp_ge 65 dX14_windows_32 rfl rfl (fun q32 => ?_) (fun q32 => ?_)
    · have hr := bt q32 hr
      refine w_iload_n 3 dX14_windows_65 rfl rfl rfl ?_
      refine w_iret hf dX14_windows_66 rfl (Nat.le_of_ble_eq_true rfl) (Nat.le_of_ble_eq_true rfl) ?_
      obtain ⟨rfl, rfl⟩ := ret_inj hr
      exact ⟨rfl, hz⟩
    · have hr := bf q32 hr
      refine w_iload_n 3 dX14_windows_35 rfl rfl rfl ?_
      refine w_aload_n 0 dX14_windows_36 rfl rfl rfl ?_
      refine g_X14_94 dX14_windows_37 rfl (hz.o14 rfl) (hz.r937 rfl) ?_
      refine w_bipush 60 dX14_windows_40 rfl rfl ?_
      refine w_iload_n 1 dX14_windows_42 rfl rfl rfl ?_
      refine w_imul dX14_windows_43 rfl ?_
      refine w_iload 4 dX14_windows_44 rfl rfl ?_
      refine w_iadd dX14_windows_46 rfl ?_
      obtain ⟨g8, hr⟩ := gd hr
      refine w_zald dX14_windows_47 rfl (hz.k937 rfl) (gin (hz.n937 rfl) g8) (hz.x937 rfl) ?_
      refine w_iload_n 2 dX14_windows_48 rfl rfl rfl ?_
      refine w_icmp_ne 56 dX14_windows_49 rfl rfl (fun q49 => ?_) (fun q49 => ?_)
      · have hr := bf q49 hr
        refine w_iconst 0 dX14_windows_56 rfl rfl ?_
        refine w_iadd dX14_windows_57 rfl ?_
        refine w_istore_n [(3, .int (y3 + 0)), (0, .ref (A 14 0 0)), (1, .int x1), (2, .int x2), (4, .int y4)] dX14_windows_58 rfl rfl (by decide) rfl ?_
        refine w_iinc 4 (y4 + 1) [(4, .int (y4 + 1)), (3, .int (y3 + 0)), (0, .ref (A 14 0 0)), (1, .int x1), (2, .int x2)] dX14_windows_59 rfl rfl rfl (by decide) rfl ?_
        refine w_goto 24 dX14_windows_62 rfl ?_
        refine w_lv [(0, .ref (A 14 0 0)), (1, .int x1), (2, .int x2), (3, .int (y3 + 0)), (4, .int (y4 + 1))] [2, 3, 4, 1, 0] rfl ?_
        exact w_X14_windows_24 hf hrm   n (y3 + 0) (y4 + 1) _ _ hz  hr
      · have hr := bt q49 hr
        refine w_iconst 1 dX14_windows_52 rfl rfl ?_
        refine w_goto 57 dX14_windows_53 rfl ?_
        refine w_iadd dX14_windows_57 rfl ?_
        refine w_istore_n [(3, .int (y3 + 1)), (0, .ref (A 14 0 0)), (1, .int x1), (2, .int x2), (4, .int y4)] dX14_windows_58 rfl rfl (by decide) rfl ?_
        refine w_iinc 4 (y4 + 1) [(4, .int (y4 + 1)), (3, .int (y3 + 1)), (0, .ref (A 14 0 0)), (1, .int x1), (2, .int x2)] dX14_windows_59 rfl rfl rfl (by decide) rfl ?_
        refine w_goto 24 dX14_windows_62 rfl ?_
        refine w_lv [(0, .ref (A 14 0 0)), (1, .int x1), (2, .int x2), (3, .int (y3 + 1)), (4, .int (y4 + 1))] [2, 3, 4, 1, 0] rfl ?_
        exact w_X14_windows_24 hf hrm   n (y3 + 1) (y4 + 1) _ _ hz  hr
set_option maxRecDepth 20000 in
set_option maxHeartbeats 4000000 in
theorem s_X14_windows {A : Nat → Nat → Nat → Nat} {h : Hp} {σ ρ ρ' : Zs} {v : Int32} {x1 : Int32} {x2 : Int32}  (hz : Rp A h σ ρ) (hr : fX14_windows x1 x2 ρ = some (v, ρ')) : ∀ l : Launch, Sp l mX14_windows 2 0 0 [.ref (A 14 0 0), .int x1, .int x2] h (QI A v σ ρ') X0 := by
  intro l
  refine Sp.of rfl rfl (lv := [(0, .ref (A 14 0 0)), (1, .int x1), (2, .int x2)]) (Nat.le_of_ble_eq_true rfl) rfl (fun x hf hrm => ?_)
  rw [fX14_windows.eq_1] at hr
  refine w_aload_n 0 dX14_windows_0 rfl rfl rfl ?_
  refine w_iconst 0 dX14_windows_1 rfl rfl ?_
  refine p_X14_149 dX14_windows_2 rfl (hz.o14 rfl) ?_
  obtain ⟨ρ1, e2, hr⟩ := lt_e hr
  have hz := (hz.s896 (v := 0) rfl).tr e2
  refine w_aload_n 0 dX14_windows_5 rfl rfl rfl ?_
  refine w_iload_n 1 dX14_windows_6 rfl rfl rfl ?_
  obtain ⟨v3, ρ4, e5, hr⟩ := bq_some hr
  refine c_X14_448 (As := [.int x1]) (rest := []) (fun l => s_X14_isStream  hz e5 l) hrm dX14_windows_7 rfl rfl (Nat.le_of_ble_eq_true rfl) (Nat.le_of_ble_eq_true rfl) (Nat.le_of_ble_eq_true rfl) (hz.o14 rfl) rfl (Nat.le_of_ble_eq_true rfl) (fun vr h2 hq => ?_) (fun E9 h9 hq => hq.elim)
  obtain ⟨rfl, hz⟩ := hq
  show wp _ _ 10 [(0, .ref (A 14 0 0)), (1, .int x1), (2, .int x2)] [.int v3] _ _ _
  refine w_if_ne 19 dX14_windows_10 rfl rfl (fun q10 => ?_) (fun q10 => ?_)
  · have hr := bf q10 hr
    refine w_iconst 0 dX14_windows_19 rfl rfl ?_
    refine w_istore_n [(3, .int 0), (0, .ref (A 14 0 0)), (1, .int x1), (2, .int x2)] dX14_windows_20 rfl rfl (by decide) rfl ?_
    refine w_iconst 0 dX14_windows_21 rfl rfl ?_
    refine w_istore [(4, .int 0), (3, .int 0), (0, .ref (A 14 0 0)), (1, .int x1), (2, .int x2)] dX14_windows_22 rfl (by decide) rfl ?_
    refine w_lv [(0, .ref (A 14 0 0)), (1, .int x1), (2, .int x2), (3, .int 0), (4, .int 0)] [2, 3, 4, 1, 0] rfl ?_
    exact w_X14_windows_24 hf hrm   FU 0 0 _ _ hz  hr
  · have hr := bt q10 hr
    refine w_aload_n 0 dX14_windows_13 rfl rfl rfl ?_
    refine w_iconst 1 dX14_windows_14 rfl rfl ?_
    obtain ⟨v9, ρ10, e11, hr⟩ := bq_some hr
    refine c_X14_155 (As := [.int 1]) (rest := []) (fun l => s_X14_fail  hz e11 l) hrm dX14_windows_15 rfl rfl (Nat.le_of_ble_eq_true rfl) (Nat.le_of_ble_eq_true rfl) (Nat.le_of_ble_eq_true rfl) (hz.o14 rfl) rfl (Nat.le_of_ble_eq_true rfl) (fun vr h2 hq => ?_) (fun E9 h9 hq => hq.elim)
    obtain ⟨rfl, hz⟩ := hq
    show wp _ _ 18 [(0, .ref (A 14 0 0)), (1, .int x1), (2, .int x2)] [.int v9] _ _ _
    refine w_iret hf dX14_windows_18 rfl (Nat.le_of_ble_eq_true rfl) (Nat.le_of_ble_eq_true rfl) ?_
    obtain ⟨rfl, rfl⟩ := ret_inj hr
    exact ⟨rfl, hz⟩

set_option maxRecDepth 20000 in
set_option maxHeartbeats 4000000 in
theorem w_X14_taken_9 {A : Nat → Nat → Nat → Nat} {σ ρ' : Zs} {v : UInt64} {x : Cxt}   (hf : m_fin 0 0 (QD A v σ ρ') X0 x) (hrm : m_rm 0 0 0 x)  : ∀ (n : Nat) (y1 : Int32) (y2 : Int32) (ρ : Zs) (h : Hp), Rp A h σ ρ → fX14_taken_9   n y1 y2 ρ = some (v, ρ') → wp x mX14_taken 9 [(0, .ref (A 14 0 0)), (1, .int y1), (2, .int y2)] [] h 0 0
  | 0, _, _, ρ, h => fun hz hr => by
    rw [fX14_taken_9.eq_1] at hr
    exact nono hr
  | n + 1, y1, y2, ρ, h => fun hz hr => by
    rw [fX14_taken_9.eq_2] at hr
    refine w_iload_n 2 dX14_taken_9 rfl rfl rfl ?_
    refine w_aload_n 0 dX14_taken_10 rfl rfl rfl ?_
    have hv3 := hz.ww898 (p := 0) (s := 0) rfl
    refine g_X14_16 dX14_taken_11 rfl (hz.o14 rfl) (hz.rr898 rfl) ?_
    refine g_X14_298 dX14_taken_14 rfl (hz.o12 hv3) (hz.i768 hv3) ?_
    refine w_icmp_ge 51 dX14_taken_17 rfl rfl (fun q17 => ?_) (fun q17 => ?_)
    · have hr := bt q17 hr
      refine w_aload_n 0 dX14_taken_51 rfl rfl rfl ?_
      refine g_X14_459 dX14_taken_52 rfl (hz.o14 rfl) (hz.i931 rfl) ?_
      refine w_if_ne 62 dX14_taken_55 rfl rfl (fun q55 => ?_) (fun q55 => ?_)
      · have hr := bf q55 hr
        refine w_iload_n 1 dX14_taken_62 rfl rfl rfl ?_
        refine w_i2d dX14_taken_63 rfl ?_
        refine w_aload_n 0 dX14_taken_64 rfl rfl rfl ?_
        refine g_X14_459 dX14_taken_65 rfl (hz.o14 rfl) (hz.i931 rfl) ?_
        refine w_i2d dX14_taken_68 rfl ?_
        obtain ⟨g4, hr⟩ := gd hr
        refine w_ddiv dX14_taken_69 rfl g4 ?_
        refine w_dret hf dX14_taken_70 rfl (Nat.le_of_ble_eq_true rfl) (Nat.le_of_ble_eq_true rfl) ?_
        obtain ⟨rfl, rfl⟩ := ret_inj hr
        exact ⟨rfl, hz⟩
      · have hr := bt q55 hr
        refine w_dconst1 dX14_taken_58 rfl ?_
        refine w_goto 70 dX14_taken_59 rfl ?_
        refine w_dret hf dX14_taken_70 rfl (Nat.le_of_ble_eq_true rfl) (Nat.le_of_ble_eq_true rfl) ?_
        obtain ⟨rfl, rfl⟩ := ret_inj hr
        exact ⟨rfl, hz⟩
    · have hr := bf q17 hr
      refine w_iload_n 1 dX14_taken_20 rfl rfl rfl ?_
      refine w_aload_n 0 dX14_taken_21 rfl rfl rfl ?_
      have hv5 := hz.ww898 (p := 0) (s := 0) rfl
      refine g_X14_16 dX14_taken_22 rfl (hz.o14 rfl) (hz.rr898 rfl) ?_
      refine g_X14_368 dX14_taken_25 rfl (hz.o12 hv5) (hz.r770 hv5) ?_
      refine w_iload_n 2 dX14_taken_28 rfl rfl rfl ?_
      obtain ⟨g6, hr⟩ := gd hr
      refine w_iald dX14_taken_29 rfl (hz.k770 hv5) (gin (hz.n770 hv5) g6) (hz.x770 hv5) ?_
      refine w_if_ne 42 dX14_taken_30 rfl rfl (fun q30 => ?_) (fun q30 => ?_)
      · have hr := bf q30 hr
        refine w_iconst 0 dX14_taken_42 rfl rfl ?_
        refine w_iadd dX14_taken_43 rfl ?_
        refine w_istore_n [(1, .int (y1 + 0)), (0, .ref (A 14 0 0)), (2, .int y2)] dX14_taken_44 rfl rfl (by decide) rfl ?_
        refine w_iinc 2 (y2 + 1) [(2, .int (y2 + 1)), (1, .int (y1 + 0)), (0, .ref (A 14 0 0))] dX14_taken_45 rfl rfl rfl (by decide) rfl ?_
        refine w_goto 9 dX14_taken_48 rfl ?_
        refine w_lv [(0, .ref (A 14 0 0)), (1, .int (y1 + 0)), (2, .int (y2 + 1))] [2, 1, 0] rfl ?_
        exact w_X14_taken_9 hf hrm   n (y1 + 0) (y2 + 1) _ _ hz  hr
      · have hr := bt q30 hr
        refine w_aload_n 0 dX14_taken_33 rfl rfl rfl ?_
        refine g_X14_49 dX14_taken_34 rfl (hz.o14 rfl) (hz.r917 rfl) ?_
        refine w_iload_n 2 dX14_taken_37 rfl rfl rfl ?_
        obtain ⟨g7, hr⟩ := gd hr
        refine w_iald dX14_taken_38 rfl (hz.k917 rfl) (gin (hz.n917 rfl) g7) (hz.x917 rfl) ?_
        refine w_goto 43 dX14_taken_39 rfl ?_
        refine w_iadd dX14_taken_43 rfl ?_
        refine w_istore_n [(1, .int (y1 + (zI ρ 1941 0 0 (Int32.toNatClampNeg y2)))), (0, .ref (A 14 0 0)), (2, .int y2)] dX14_taken_44 rfl rfl (by decide) rfl ?_
        refine w_iinc 2 (y2 + 1) [(2, .int (y2 + 1)), (1, .int (y1 + (zI ρ 1941 0 0 (Int32.toNatClampNeg y2)))), (0, .ref (A 14 0 0))] dX14_taken_45 rfl rfl rfl (by decide) rfl ?_
        refine w_goto 9 dX14_taken_48 rfl ?_
        refine w_lv [(0, .ref (A 14 0 0)), (1, .int (y1 + (zI ρ 1941 0 0 (Int32.toNatClampNeg y2)))), (2, .int (y2 + 1))] [2, 1, 0] rfl ?_
        exact w_X14_taken_9 hf hrm   n (y1 + (zI ρ 1941 0 0 (Int32.toNatClampNeg y2))) (y2 + 1) _ _ hz  hr
set_option maxRecDepth 20000 in
set_option maxHeartbeats 4000000 in
theorem s_X14_taken {A : Nat → Nat → Nat → Nat} {h : Hp} {σ ρ ρ' : Zs} {v : UInt64}   (hz : Rp A h σ ρ) (hr : fX14_taken  ρ = some (v, ρ')) : ∀ l : Launch, Sp l mX14_taken 0 0 0 [.ref (A 14 0 0)] h (QD A v σ ρ') X0 := by
  intro l
  refine Sp.of rfl rfl (lv := [(0, .ref (A 14 0 0))]) (Nat.le_of_ble_eq_true rfl) rfl (fun x hf hrm => ?_)
  rw [fX14_taken.eq_1] at hr
  refine w_aload_n 0 dX14_taken_0 rfl rfl rfl ?_
  refine w_iconst 0 dX14_taken_1 rfl rfl ?_
  refine p_X14_149 dX14_taken_2 rfl (hz.o14 rfl) ?_
  obtain ⟨ρ1, e2, hr⟩ := lt_e hr
  have hz := (hz.s896 (v := 0) rfl).tr e2
  refine w_iconst 0 dX14_taken_5 rfl rfl ?_
  refine w_istore_n [(1, .int 0), (0, .ref (A 14 0 0))] dX14_taken_6 rfl rfl (by decide) rfl ?_
  refine w_iconst 0 dX14_taken_7 rfl rfl ?_
  refine w_istore_n [(2, .int 0), (1, .int 0), (0, .ref (A 14 0 0))] dX14_taken_8 rfl rfl (by decide) rfl ?_
  refine w_lv [(0, .ref (A 14 0 0)), (1, .int 0), (2, .int 0)] [2, 1, 0] rfl ?_
  exact w_X14_taken_9 hf hrm   FU 0 0 _ _ hz  hr

set_option maxRecDepth 20000 in
set_option maxHeartbeats 4000000 in
theorem w_X14_digest_217 {A : Nat → Nat → Nat → Nat} {σ ρ' : Zs} {v : Int64} {x : Cxt}  {k176 : Int64 → Int32 → Zs → Option (Int64 × Zs)}  (hf : m_fin 0 0 (QJ A v σ ρ') X0 x) (hrm : m_rm 1 0 0 x)  (hk176 : ∀ (y1 : Int64) (y3 : Int32) (ρ : Zs) (h : Hp), Rp A h σ ρ → k176 y1 y3 ρ = some (v, ρ') → wp x mX14_digest 176 [(0, .ref (A 14 0 0)), (1, .long y1), (3, .int y3)] [] h 0 0) : ∀ (n : Nat) (y1 : Int64) (y3 : Int32) (y4 : Int32) (ρ : Zs) (h : Hp), Rp A h σ ρ → fX14_digest_217  k176 n y1 y3 y4 ρ = some (v, ρ') → wp x mX14_digest 217 [(0, .ref (A 14 0 0)), (1, .long y1), (3, .int y3), (4, .int y4)] [] h 0 0
  | 0, _, _, _, ρ, h => fun hz hr => by
    rw [fX14_digest_217.eq_1] at hr
    exact nono hr
  | n + 1, y1, y3, y4, ρ, h => fun hz hr => by
    rw [fX14_digest_217.eq_2] at hr
    refine w_iload 3 dX14_digest_217 rfl rfl ?_
    refine w_aload_n 0 dX14_digest_219 rfl rfl rfl ?_
    refine w_iload_n 2 dX14_digest_220 rfl rfl rfl ?_
    obtain ⟨v4, ρ5, e6, hr⟩ := bq_some hr
    refine c_X14_574 (As := [.int y3]) (rest := [.int y4]) (fun l => s_X14_heldColumns  hz e6 l) hrm dX14_digest_221 rfl rfl (Nat.le_of_ble_eq_true rfl) (Nat.le_of_ble_eq_true rfl) (Nat.le_of_ble_eq_true rfl) (hz.o14 rfl) rfl (Nat.le_of_ble_eq_true rfl) (fun vr h2 hq => ?_) (fun E9 h9 hq => hq.elim)
    obtain ⟨rfl, hz⟩ := hq
    show wp _ _ 224 [(0, .ref (A 14 0 0)), (1, .long y1), (3, .int y3), (4, .int y4)] [.int v4, .int y4] _ _ _
    refine w_icmp_ge 254 dX14_digest_224 rfl rfl (fun q224 => ?_) (fun q224 => ?_)
    · have hr := bt q224 hr
      refine w_iinc 2 (y3 + 1) [(3, .int (y3 + 1)), (0, .ref (A 14 0 0)), (1, .long y1), (4, .int y4)] dX14_digest_254 rfl rfl rfl (by decide) rfl ?_
      refine w_goto 176 dX14_digest_257 rfl ?_
      refine w_lv [(0, .ref (A 14 0 0)), (1, .long y1), (3, .int (y3 + 1))] [1, 2, 0] rfl ?_
      exact hk176 y1 (y3 + 1) _ _ hz  hr
    · have hr := bf q224 hr
      refine w_lload_n 1 dX14_digest_227 rfl rfl rfl ?_
      refine w_ldc2 dX14_digest_228 rfl k_X14_596 ?_
      refine w_lmul dX14_digest_231 rfl ?_
      refine w_aload_n 0 dX14_digest_232 rfl rfl rfl ?_
      refine g_X14_73 dX14_digest_233 rfl (hz.o14 rfl) (hz.r926 rfl) ?_
      refine w_bipush 7 dX14_digest_236 rfl rfl ?_
      refine w_iload_n 2 dX14_digest_238 rfl rfl rfl ?_
      refine w_imul dX14_digest_239 rfl ?_
      refine w_iconst 1 dX14_digest_240 rfl rfl ?_
      refine w_iadd dX14_digest_241 rfl ?_
      refine w_iload 3 dX14_digest_242 rfl rfl ?_
      refine w_iadd dX14_digest_244 rfl ?_
      obtain ⟨g8, hr⟩ := gd hr
      refine w_lald dX14_digest_245 rfl (hz.k926 rfl) (gin (hz.n926 rfl) g8) (hz.x926 rfl) ?_
      refine w_ladd dX14_digest_246 rfl ?_
      refine w_lstore_n [(1, .long ((y1 * 31) + (zJ ρ5 1950 0 0 (Int32.toNatClampNeg (((7 * y3) + 1) + y4))))), (0, .ref (A 14 0 0)), (3, .int y3), (4, .int y4)] dX14_digest_247 rfl rfl (by decide) rfl ?_
      refine w_iinc 3 (y4 + 1) [(4, .int (y4 + 1)), (1, .long ((y1 * 31) + (zJ ρ5 1950 0 0 (Int32.toNatClampNeg (((7 * y3) + 1) + y4))))), (0, .ref (A 14 0 0)), (3, .int y3)] dX14_digest_248 rfl rfl rfl (by decide) rfl ?_
      refine w_goto 217 dX14_digest_251 rfl ?_
      refine w_lv [(0, .ref (A 14 0 0)), (1, .long ((y1 * 31) + (zJ ρ5 1950 0 0 (Int32.toNatClampNeg (((7 * y3) + 1) + y4))))), (3, .int y3), (4, .int (y4 + 1))] [2, 1, 3, 0] rfl ?_
      exact w_X14_digest_217 hf hrm  hk176 n ((y1 * 31) + (zJ ρ5 1950 0 0 (Int32.toNatClampNeg (((7 * y3) + 1) + y4)))) y3 (y4 + 1) _ _ hz  hr
set_option maxRecDepth 20000 in
set_option maxHeartbeats 4000000 in
theorem w_X14_digest_187 {A : Nat → Nat → Nat → Nat} {σ ρ' : Zs} {v : Int64} {x : Cxt}  {k176 : Int64 → Int32 → Zs → Option (Int64 × Zs)}  (hf : m_fin 0 0 (QJ A v σ ρ') X0 x) (hrm : m_rm 1 0 0 x)  (hk176 : ∀ (y1 : Int64) (y3 : Int32) (ρ : Zs) (h : Hp), Rp A h σ ρ → k176 y1 y3 ρ = some (v, ρ') → wp x mX14_digest 176 [(0, .ref (A 14 0 0)), (1, .long y1), (3, .int y3)] [] h 0 0) : ∀ (n : Nat) (y1 : Int64) (y3 : Int32) (y4 : Int32) (ρ : Zs) (h : Hp), Rp A h σ ρ → fX14_digest_187  k176 n y1 y3 y4 ρ = some (v, ρ') → wp x mX14_digest 187 [(0, .ref (A 14 0 0)), (1, .long y1), (3, .int y3), (4, .int y4)] [] h 0 0
  | 0, _, _, _, ρ, h => fun hz hr => by
    rw [fX14_digest_187.eq_1] at hr
    exact nono hr
  | n + 1, y1, y3, y4, ρ, h => fun hz hr => by
    rw [fX14_digest_187.eq_2] at hr
    refine w_iload 3 dX14_digest_187 rfl rfl ?_
    refine w_iconst 3 dX14_digest_189 rfl rfl ?_
    refine w_icmp_ge 214 dX14_digest_190 rfl rfl (fun q190 => ?_) (fun q190 => ?_)
    · have hr := bt q190 hr
      refine w_iconst 0 dX14_digest_214 rfl rfl ?_
      refine w_istore [(4, .int 0), (0, .ref (A 14 0 0)), (1, .long y1), (3, .int y3)] dX14_digest_215 rfl (by decide) rfl ?_
      refine w_lv [(0, .ref (A 14 0 0)), (1, .long y1), (3, .int y3), (4, .int 0)] [1, 2, 3, 0] rfl ?_
      exact w_X14_digest_217 hf hrm  hk176 FU y1 y3 0 _ _ hz  hr
    · have hr := bf q190 hr
      refine w_lload_n 1 dX14_digest_193 rfl rfl rfl ?_
      refine w_ldc2 dX14_digest_194 rfl k_X14_596 ?_
      refine w_lmul dX14_digest_197 rfl ?_
      refine w_aload_n 0 dX14_digest_198 rfl rfl rfl ?_
      refine w_iload_n 2 dX14_digest_199 rfl rfl rfl ?_
      refine w_iload 3 dX14_digest_200 rfl rfl ?_
      obtain ⟨v9, ρ10, e11, hr⟩ := bq_some hr
      refine c_X14_571 (As := [.int y3, .int y4]) (rest := [.long (y1 * 31)]) (fun l => s_X14_heldTold  hz e11 l) hrm dX14_digest_202 rfl rfl (Nat.le_of_ble_eq_true rfl) (Nat.le_of_ble_eq_true rfl) (Nat.le_of_ble_eq_true rfl) (hz.o14 rfl) rfl (Nat.le_of_ble_eq_true rfl) (fun vr h2 hq => ?_) (fun E9 h9 hq => hq.elim)
      obtain ⟨rfl, hz⟩ := hq
      show wp _ _ 205 [(0, .ref (A 14 0 0)), (1, .long y1), (3, .int y3), (4, .int y4)] [.int v9, .long (y1 * 31)] _ _ _
      refine w_i2l dX14_digest_205 rfl ?_
      refine w_ladd dX14_digest_206 rfl ?_
      refine w_lstore_n [(1, .long ((y1 * 31) + ((v9 : Int32).toInt64))), (0, .ref (A 14 0 0)), (3, .int y3), (4, .int y4)] dX14_digest_207 rfl rfl (by decide) rfl ?_
      refine w_iinc 3 (y4 + 1) [(4, .int (y4 + 1)), (1, .long ((y1 * 31) + ((v9 : Int32).toInt64))), (0, .ref (A 14 0 0)), (3, .int y3)] dX14_digest_208 rfl rfl rfl (by decide) rfl ?_
      refine w_goto 187 dX14_digest_211 rfl ?_
      refine w_lv [(0, .ref (A 14 0 0)), (1, .long ((y1 * 31) + ((v9 : Int32).toInt64))), (3, .int y3), (4, .int (y4 + 1))] [2, 1, 3, 0] rfl ?_
      exact w_X14_digest_187 hf hrm  hk176 n ((y1 * 31) + ((v9 : Int32).toInt64)) y3 (y4 + 1) _ _ hz  hr
set_option maxRecDepth 20000 in
set_option maxHeartbeats 4000000 in
theorem w_X14_digest_176 {A : Nat → Nat → Nat → Nat} {σ ρ' : Zs} {v : Int64} {x : Cxt}   (hf : m_fin 0 0 (QJ A v σ ρ') X0 x) (hrm : m_rm 1 0 0 x)  : ∀ (n : Nat) (y1 : Int64) (y3 : Int32) (ρ : Zs) (h : Hp), Rp A h σ ρ → fX14_digest_176   n y1 y3 ρ = some (v, ρ') → wp x mX14_digest 176 [(0, .ref (A 14 0 0)), (1, .long y1), (3, .int y3)] [] h 0 0
  | 0, _, _, ρ, h => fun hz hr => by
    rw [fX14_digest_176.eq_1] at hr
    exact nono hr
  | n + 1, y1, y3, ρ, h => fun hz hr => by
    rw [fX14_digest_176.eq_2] at hr
    refine w_iload_n 2 dX14_digest_176 rfl rfl rfl ?_
    refine w_aload_n 0 dX14_digest_177 rfl rfl rfl ?_
    refine g_X14_440 dX14_digest_178 rfl (hz.o14 rfl) (hz.i923 rfl) ?_
    refine w_icmp_ge 260 dX14_digest_181 rfl rfl (fun q181 => ?_) (fun q181 => ?_)
    · have hr := bt q181 hr
      refine w_lload_n 1 dX14_digest_260 rfl rfl rfl ?_
      refine w_lret hf dX14_digest_261 rfl (Nat.le_of_ble_eq_true rfl) (Nat.le_of_ble_eq_true rfl) ?_
      obtain ⟨rfl, rfl⟩ := ret_inj hr
      exact ⟨rfl, hz⟩
    · have hr := bf q181 hr
      refine w_iconst 0 dX14_digest_184 rfl rfl ?_
      refine w_istore [(4, .int 0), (0, .ref (A 14 0 0)), (1, .long y1), (3, .int y3)] dX14_digest_185 rfl (by decide) rfl ?_
      refine w_lv [(0, .ref (A 14 0 0)), (1, .long y1), (3, .int y3), (4, .int 0)] [1, 2, 3, 0] rfl ?_
      exact w_X14_digest_187 hf hrm  (fun by1 by3 zb hb hzb  hrb => w_X14_digest_176 hf hrm   n by1 by3 zb hb hzb  hrb) FU y1 y3 0 _ _ hz  hr
set_option maxRecDepth 20000 in
set_option maxHeartbeats 4000000 in
theorem w_X14_digest_121 {A : Nat → Nat → Nat → Nat} {σ ρ' : Zs} {v : Int64} {x : Cxt}  {k67 : Int64 → Int32 → Zs → Option (Int64 × Zs)} {k107 : Int64 → Int32 → Int32 → Zs → Option (Int64 × Zs)}  (hf : m_fin 0 0 (QJ A v σ ρ') X0 x) (hrm : m_rm 1 0 0 x)  (hk67 : ∀ (y1 : Int64) (y3 : Int32) (ρ : Zs) (h : Hp), Rp A h σ ρ → k67 y1 y3 ρ = some (v, ρ') → wp x mX14_digest 67 [(0, .ref (A 14 0 0)), (1, .long y1), (3, .int y3)] [] h 0 0) (hk107 : ∀ (y1 : Int64) (y3 : Int32) (y4 : Int32) (ρ : Zs) (h : Hp), Rp A h σ ρ → k107 y1 y3 y4 ρ = some (v, ρ') → wp x mX14_digest 107 [(0, .ref (A 14 0 0)), (1, .long y1), (3, .int y3), (4, .int y4)] [] h 0 0) : ∀ (n : Nat) (y1 : Int64) (y3 : Int32) (y4 : Int32) (y5 : Int32) (ρ : Zs) (h : Hp), Rp A h σ ρ → fX14_digest_121  k67 k107 n y1 y3 y4 y5 ρ = some (v, ρ') → wp x mX14_digest 121 [(0, .ref (A 14 0 0)), (1, .long y1), (3, .int y3), (4, .int y4), (5, .int y5)] [] h 0 0
  | 0, _, _, _, _, ρ, h => fun hz hr => by
    rw [fX14_digest_121.eq_1] at hr
    exact nono hr
  | n + 1, y1, y3, y4, y5, ρ, h => fun hz hr => by
    rw [fX14_digest_121.eq_2] at hr
    refine w_iload 4 dX14_digest_121 rfl rfl ?_
    refine w_aload_n 0 dX14_digest_123 rfl rfl rfl ?_
    have hv16 := hz.ww898 (p := 0) (s := 0) rfl
    refine g_X14_16 dX14_digest_124 rfl (hz.o14 rfl) (hz.rr898 rfl) ?_
    refine g_X14_292 dX14_digest_127 rfl (hz.o12 hv16) (hz.r771 hv16) ?_
    refine w_iload_n 2 dX14_digest_130 rfl rfl rfl ?_
    obtain ⟨g17, hr⟩ := gd hr
    refine w_iald dX14_digest_131 rfl (hz.k771 hv16) (gin (hz.n771 hv16) g17) (hz.x771 hv16) ?_
    refine w_icmp_gt 162 dX14_digest_132 rfl rfl (fun q132 => ?_) (fun q132 => ?_)
    · have hr := bt q132 hr
      refine w_iinc 3 (y4 + 1) [(4, .int (y4 + 1)), (0, .ref (A 14 0 0)), (1, .long y1), (3, .int y3), (5, .int y5)] dX14_digest_162 rfl rfl rfl (by decide) rfl ?_
      refine w_goto 107 dX14_digest_165 rfl ?_
      refine w_lv [(0, .ref (A 14 0 0)), (1, .long y1), (3, .int y3), (4, .int (y4 + 1))] [1, 2, 3, 0] rfl ?_
      exact hk107 y1 y3 (y4 + 1) _ _ hz  hr
    · have hr := bf q132 hr
      refine w_lload_n 1 dX14_digest_135 rfl rfl rfl ?_
      refine w_ldc2 dX14_digest_136 rfl k_X14_596 ?_
      refine w_lmul dX14_digest_139 rfl ?_
      refine w_aload_n 0 dX14_digest_140 rfl rfl rfl ?_
      refine g_X14_46 dX14_digest_141 rfl (hz.o14 rfl) (hz.r916 rfl) ?_
      refine w_iload_n 2 dX14_digest_144 rfl rfl rfl ?_
      refine w_iload 3 dX14_digest_145 rfl rfl ?_
      obtain ⟨v18, ρ19, e20, hr⟩ := bq_some hr
      refine c_X14_475 (b := 0) (As := [.int y3, .int y4]) (rest := [.ref (A 1940 0 0), .long (y1 * 31)]) (fun l => s_X14_rowAt  hz e20 l) hrm dX14_digest_147 rfl rfl (Nat.le_of_ble_eq_true rfl) (Nat.le_of_ble_eq_true rfl) (Nat.le_of_ble_eq_true rfl) rfl (Nat.le_of_ble_eq_true rfl) (fun vr h2 hq => ?_) (fun E9 h9 hq => hq.elim)
      obtain ⟨rfl, hz⟩ := hq
      show wp _ _ 150 [(0, .ref (A 14 0 0)), (1, .long y1), (3, .int y3), (4, .int y4), (5, .int y5)] [.int v18, .ref (A 1940 0 0), .long (y1 * 31)] _ _ _
      refine w_iload 4 dX14_digest_150 rfl rfl ?_
      refine w_iadd dX14_digest_152 rfl ?_
      obtain ⟨g22, hr⟩ := gd hr
      refine w_lald dX14_digest_153 rfl (hz.k916 rfl) (gin (hz.n916 rfl) g22) (hz.x916 rfl) ?_
      refine w_ladd dX14_digest_154 rfl ?_
      refine w_lstore_n [(1, .long ((y1 * 31) + (zJ ρ19 1940 0 0 (Int32.toNatClampNeg (v18 + y5))))), (0, .ref (A 14 0 0)), (3, .int y3), (4, .int y4), (5, .int y5)] dX14_digest_155 rfl rfl (by decide) rfl ?_
      refine w_iinc 4 (y5 + 1) [(5, .int (y5 + 1)), (1, .long ((y1 * 31) + (zJ ρ19 1940 0 0 (Int32.toNatClampNeg (v18 + y5))))), (0, .ref (A 14 0 0)), (3, .int y3), (4, .int y4)] dX14_digest_156 rfl rfl rfl (by decide) rfl ?_
      refine w_goto 121 dX14_digest_159 rfl ?_
      refine w_lv [(0, .ref (A 14 0 0)), (1, .long ((y1 * 31) + (zJ ρ19 1940 0 0 (Int32.toNatClampNeg (v18 + y5))))), (3, .int y3), (4, .int y4), (5, .int (y5 + 1))] [2, 1, 3, 4, 0] rfl ?_
      exact w_X14_digest_121 hf hrm  hk67 hk107 n ((y1 * 31) + (zJ ρ19 1940 0 0 (Int32.toNatClampNeg (v18 + y5)))) y3 y4 (y5 + 1) _ _ hz  hr
set_option maxRecDepth 20000 in
set_option maxHeartbeats 4000000 in
theorem w_X14_digest_107 {A : Nat → Nat → Nat → Nat} {σ ρ' : Zs} {v : Int64} {x : Cxt}  {k67 : Int64 → Int32 → Zs → Option (Int64 × Zs)}  (hf : m_fin 0 0 (QJ A v σ ρ') X0 x) (hrm : m_rm 1 0 0 x)  (hk67 : ∀ (y1 : Int64) (y3 : Int32) (ρ : Zs) (h : Hp), Rp A h σ ρ → k67 y1 y3 ρ = some (v, ρ') → wp x mX14_digest 67 [(0, .ref (A 14 0 0)), (1, .long y1), (3, .int y3)] [] h 0 0) : ∀ (n : Nat) (y1 : Int64) (y3 : Int32) (y4 : Int32) (ρ : Zs) (h : Hp), Rp A h σ ρ → fX14_digest_107  k67 n y1 y3 y4 ρ = some (v, ρ') → wp x mX14_digest 107 [(0, .ref (A 14 0 0)), (1, .long y1), (3, .int y3), (4, .int y4)] [] h 0 0
  | 0, _, _, _, ρ, h => fun hz hr => by
    rw [fX14_digest_107.eq_1] at hr
    exact nono hr
  | n + 1, y1, y3, y4, ρ, h => fun hz hr => by
    rw [fX14_digest_107.eq_2] at hr
    refine w_iload 3 dX14_digest_107 rfl rfl ?_
    refine w_aload_n 0 dX14_digest_109 rfl rfl rfl ?_
    refine g_X14_49 dX14_digest_110 rfl (hz.o14 rfl) (hz.r917 rfl) ?_
    refine w_iload_n 2 dX14_digest_113 rfl rfl rfl ?_
    obtain ⟨g15, hr⟩ := gd hr
    refine w_iald dX14_digest_114 rfl (hz.k917 rfl) (gin (hz.n917 rfl) g15) (hz.x917 rfl) ?_
    refine w_icmp_ge 168 dX14_digest_115 rfl rfl (fun q115 => ?_) (fun q115 => ?_)
    · have hr := bt q115 hr
      refine w_iinc 2 (y3 + 1) [(3, .int (y3 + 1)), (0, .ref (A 14 0 0)), (1, .long y1), (4, .int y4)] dX14_digest_168 rfl rfl rfl (by decide) rfl ?_
      refine w_goto 67 dX14_digest_171 rfl ?_
      refine w_lv [(0, .ref (A 14 0 0)), (1, .long y1), (3, .int (y3 + 1))] [1, 2, 0] rfl ?_
      exact hk67 y1 (y3 + 1) _ _ hz  hr
    · have hr := bf q115 hr
      refine w_iconst 0 dX14_digest_118 rfl rfl ?_
      refine w_istore [(5, .int 0), (0, .ref (A 14 0 0)), (1, .long y1), (3, .int y3), (4, .int y4)] dX14_digest_119 rfl (by decide) rfl ?_
      refine w_lv [(0, .ref (A 14 0 0)), (1, .long y1), (3, .int y3), (4, .int y4), (5, .int 0)] [1, 2, 3, 4, 0] rfl ?_
      exact w_X14_digest_121 hf hrm  hk67 (fun by1 by3 by4 zb hb hzb  hrb => w_X14_digest_107 hf hrm  hk67 n by1 by3 by4 zb hb hzb  hrb) FU y1 y3 y4 0 _ _ hz  hr
set_option maxRecDepth 20000 in
set_option maxHeartbeats 4000000 in
theorem w_X14_digest_67 {A : Nat → Nat → Nat → Nat} {σ ρ' : Zs} {v : Int64} {x : Cxt}   (hf : m_fin 0 0 (QJ A v σ ρ') X0 x) (hrm : m_rm 1 0 0 x)  : ∀ (n : Nat) (y1 : Int64) (y3 : Int32) (ρ : Zs) (h : Hp), Rp A h σ ρ → fX14_digest_67   n y1 y3 ρ = some (v, ρ') → wp x mX14_digest 67 [(0, .ref (A 14 0 0)), (1, .long y1), (3, .int y3)] [] h 0 0
  | 0, _, _, ρ, h => fun hz hr => by
    rw [fX14_digest_67.eq_1] at hr
    exact nono hr
  | n + 1, y1, y3, ρ, h => fun hz hr => by
    rw [fX14_digest_67.eq_2] at hr
    refine w_iload_n 2 dX14_digest_67 rfl rfl rfl ?_
    refine w_aload_n 0 dX14_digest_68 rfl rfl rfl ?_
    have hv3 := hz.ww898 (p := 0) (s := 0) rfl
    refine g_X14_16 dX14_digest_69 rfl (hz.o14 rfl) (hz.rr898 rfl) ?_
    refine g_X14_298 dX14_digest_72 rfl (hz.o12 hv3) (hz.i768 hv3) ?_
    refine w_icmp_ge 174 dX14_digest_75 rfl rfl (fun q75 => ?_) (fun q75 => ?_)
    · have hr := bt q75 hr
      refine w_iconst 0 dX14_digest_174 rfl rfl ?_
      refine w_istore_n [(3, .int 0), (0, .ref (A 14 0 0)), (1, .long y1)] dX14_digest_175 rfl rfl (by decide) rfl ?_
      refine w_lv [(0, .ref (A 14 0 0)), (1, .long y1), (3, .int 0)] [1, 2, 0] rfl ?_
      exact w_X14_digest_176 hf hrm   FU y1 0 _ _ hz  hr
    · have hr := bf q75 hr
      refine w_lload_n 1 dX14_digest_78 rfl rfl rfl ?_
      refine w_ldc2 dX14_digest_79 rfl k_X14_596 ?_
      refine w_lmul dX14_digest_82 rfl ?_
      refine w_aload_n 0 dX14_digest_83 rfl rfl rfl ?_
      refine g_X14_52 dX14_digest_84 rfl (hz.o14 rfl) (hz.r918 rfl) ?_
      refine w_iload_n 2 dX14_digest_87 rfl rfl rfl ?_
      obtain ⟨g13, hr⟩ := gd hr
      refine w_iald dX14_digest_88 rfl (hz.k918 rfl) (gin (hz.n918 rfl) g13) (hz.x918 rfl) ?_
      refine w_i2l dX14_digest_89 rfl ?_
      refine w_ladd dX14_digest_90 rfl ?_
      refine w_ldc2 dX14_digest_91 rfl k_X14_596 ?_
      refine w_lmul dX14_digest_94 rfl ?_
      refine w_aload_n 0 dX14_digest_95 rfl rfl rfl ?_
      refine g_X14_49 dX14_digest_96 rfl (hz.o14 rfl) (hz.r917 rfl) ?_
      refine w_iload_n 2 dX14_digest_99 rfl rfl rfl ?_
      obtain ⟨g14, hr⟩ := gd hr
      refine w_iald dX14_digest_100 rfl (hz.k917 rfl) (gin (hz.n917 rfl) g14) (hz.x917 rfl) ?_
      refine w_i2l dX14_digest_101 rfl ?_
      refine w_ladd dX14_digest_102 rfl ?_
      refine w_lstore_n [(1, .long ((((y1 * 31) + (((zI ρ 1942 0 0 (Int32.toNatClampNeg y3)) : Int32).toInt64)) * 31) + (((zI ρ 1941 0 0 (Int32.toNatClampNeg y3)) : Int32).toInt64))), (0, .ref (A 14 0 0)), (3, .int y3)] dX14_digest_103 rfl rfl (by decide) rfl ?_
      refine w_iconst 0 dX14_digest_104 rfl rfl ?_
      refine w_istore [(4, .int 0), (1, .long ((((y1 * 31) + (((zI ρ 1942 0 0 (Int32.toNatClampNeg y3)) : Int32).toInt64)) * 31) + (((zI ρ 1941 0 0 (Int32.toNatClampNeg y3)) : Int32).toInt64))), (0, .ref (A 14 0 0)), (3, .int y3)] dX14_digest_105 rfl (by decide) rfl ?_
      refine w_lv [(0, .ref (A 14 0 0)), (1, .long ((((y1 * 31) + (((zI ρ 1942 0 0 (Int32.toNatClampNeg y3)) : Int32).toInt64)) * 31) + (((zI ρ 1941 0 0 (Int32.toNatClampNeg y3)) : Int32).toInt64))), (3, .int y3), (4, .int 0)] [2, 1, 3, 0] rfl ?_
      exact w_X14_digest_107 hf hrm  (fun by1 by3 zb hb hzb  hrb => w_X14_digest_67 hf hrm   n by1 by3 zb hb hzb  hrb) FU ((((y1 * 31) + (((zI ρ 1942 0 0 (Int32.toNatClampNeg y3)) : Int32).toInt64)) * 31) + (((zI ρ 1941 0 0 (Int32.toNatClampNeg y3)) : Int32).toInt64)) y3 0 _ _ hz  hr
set_option maxRecDepth 20000 in
set_option maxHeartbeats 4000000 in
theorem w_X14_digest_11 {A : Nat → Nat → Nat → Nat} {σ ρ' : Zs} {v : Int64} {x : Cxt}   (hf : m_fin 0 0 (QJ A v σ ρ') X0 x) (hrm : m_rm 1 0 0 x)  : ∀ (n : Nat) (y1 : Int64) (y3 : Int32) (ρ : Zs) (h : Hp), Rp A h σ ρ → fX14_digest_11   n y1 y3 ρ = some (v, ρ') → wp x mX14_digest 11 [(0, .ref (A 14 0 0)), (1, .long y1), (3, .int y3)] [] h 0 0
  | 0, _, _, ρ, h => fun hz hr => by
    rw [fX14_digest_11.eq_1] at hr
    exact nono hr
  | n + 1, y1, y3, ρ, h => fun hz hr => by
    rw [fX14_digest_11.eq_2] at hr
    refine w_iload_n 2 dX14_digest_11 rfl rfl rfl ?_
    refine w_bipush 6 dX14_digest_12 rfl rfl ?_
    refine w_icmp_ge 36 dX14_digest_14 rfl rfl (fun q14 => ?_) (fun q14 => ?_)
    · have hr := bt q14 hr
      refine w_lload_n 1 dX14_digest_36 rfl rfl rfl ?_
      refine w_ldc2 dX14_digest_37 rfl k_X14_596 ?_
      refine w_lmul dX14_digest_40 rfl ?_
      refine w_aload_n 0 dX14_digest_41 rfl rfl rfl ?_
      refine g_X14_456 dX14_digest_42 rfl (hz.o14 rfl) (hz.i929 rfl) ?_
      refine w_if_eq 52 dX14_digest_45 rfl rfl (fun q45 => ?_) (fun q45 => ?_)
      · have hr := bt q45 hr
        refine w_lconst 0 dX14_digest_52 rfl rfl ?_
        refine w_ladd dX14_digest_53 rfl ?_
        refine w_ldc2 dX14_digest_54 rfl k_X14_596 ?_
        refine w_lmul dX14_digest_57 rfl ?_
        refine w_aload_n 0 dX14_digest_58 rfl rfl rfl ?_
        refine g_X14_453 dX14_digest_59 rfl (hz.o14 rfl) (hz.i928 rfl) ?_
        refine w_i2l dX14_digest_62 rfl ?_
        refine w_ladd dX14_digest_63 rfl ?_
        refine w_lstore_n [(1, .long ((((y1 * 31) + 0) * 31) + (((zI ρ 928 0 0 0) : Int32).toInt64))), (0, .ref (A 14 0 0)), (3, .int y3)] dX14_digest_64 rfl rfl (by decide) rfl ?_
        refine w_iconst 0 dX14_digest_65 rfl rfl ?_
        refine w_istore_n [(3, .int 0), (1, .long ((((y1 * 31) + 0) * 31) + (((zI ρ 928 0 0 0) : Int32).toInt64))), (0, .ref (A 14 0 0))] dX14_digest_66 rfl rfl (by decide) rfl ?_
        refine w_lv [(0, .ref (A 14 0 0)), (1, .long ((((y1 * 31) + 0) * 31) + (((zI ρ 928 0 0 0) : Int32).toInt64))), (3, .int 0)] [2, 1, 0] rfl ?_
        exact w_X14_digest_67 hf hrm   FU ((((y1 * 31) + 0) * 31) + (((zI ρ 928 0 0 0) : Int32).toInt64)) 0 _ _ hz  hr
      · have hr := bf q45 hr
        refine w_lconst 1 dX14_digest_48 rfl rfl ?_
        refine w_goto 53 dX14_digest_49 rfl ?_
        refine w_ladd dX14_digest_53 rfl ?_
        refine w_ldc2 dX14_digest_54 rfl k_X14_596 ?_
        refine w_lmul dX14_digest_57 rfl ?_
        refine w_aload_n 0 dX14_digest_58 rfl rfl rfl ?_
        refine g_X14_453 dX14_digest_59 rfl (hz.o14 rfl) (hz.i928 rfl) ?_
        refine w_i2l dX14_digest_62 rfl ?_
        refine w_ladd dX14_digest_63 rfl ?_
        refine w_lstore_n [(1, .long ((((y1 * 31) + 1) * 31) + (((zI ρ 928 0 0 0) : Int32).toInt64))), (0, .ref (A 14 0 0)), (3, .int y3)] dX14_digest_64 rfl rfl (by decide) rfl ?_
        refine w_iconst 0 dX14_digest_65 rfl rfl ?_
        refine w_istore_n [(3, .int 0), (1, .long ((((y1 * 31) + 1) * 31) + (((zI ρ 928 0 0 0) : Int32).toInt64))), (0, .ref (A 14 0 0))] dX14_digest_66 rfl rfl (by decide) rfl ?_
        refine w_lv [(0, .ref (A 14 0 0)), (1, .long ((((y1 * 31) + 1) * 31) + (((zI ρ 928 0 0 0) : Int32).toInt64))), (3, .int 0)] [2, 1, 0] rfl ?_
        exact w_X14_digest_67 hf hrm   FU ((((y1 * 31) + 1) * 31) + (((zI ρ 928 0 0 0) : Int32).toInt64)) 0 _ _ hz  hr
    · have hr := bf q14 hr
      refine w_lload_n 1 dX14_digest_17 rfl rfl rfl ?_
      refine w_ldc2 dX14_digest_18 rfl k_X14_596 ?_
      refine w_lmul dX14_digest_21 rfl ?_
      refine w_aload_n 0 dX14_digest_22 rfl rfl rfl ?_
      refine w_iload_n 2 dX14_digest_23 rfl rfl rfl ?_
      obtain ⟨v23, ρ24, e25, hr⟩ := bq_some hr
      refine c_X14_445 (As := [.int y3]) (rest := [.long (y1 * 31)]) (fun l => s_X14_counted  hz e25 l) hrm dX14_digest_24 rfl rfl (Nat.le_of_ble_eq_true rfl) (Nat.le_of_ble_eq_true rfl) (Nat.le_of_ble_eq_true rfl) (hz.o14 rfl) rfl (Nat.le_of_ble_eq_true rfl) (fun vr h2 hq => ?_) (fun E9 h9 hq => hq.elim)
      obtain ⟨rfl, hz⟩ := hq
      show wp _ _ 27 [(0, .ref (A 14 0 0)), (1, .long y1), (3, .int y3)] [.int v23, .long (y1 * 31)] _ _ _
      refine w_i2l dX14_digest_27 rfl ?_
      refine w_ladd dX14_digest_28 rfl ?_
      refine w_lstore_n [(1, .long ((y1 * 31) + ((v23 : Int32).toInt64))), (0, .ref (A 14 0 0)), (3, .int y3)] dX14_digest_29 rfl rfl (by decide) rfl ?_
      refine w_iinc 2 (y3 + 1) [(3, .int (y3 + 1)), (1, .long ((y1 * 31) + ((v23 : Int32).toInt64))), (0, .ref (A 14 0 0))] dX14_digest_30 rfl rfl rfl (by decide) rfl ?_
      refine w_goto 11 dX14_digest_33 rfl ?_
      refine w_lv [(0, .ref (A 14 0 0)), (1, .long ((y1 * 31) + ((v23 : Int32).toInt64))), (3, .int (y3 + 1))] [2, 1, 0] rfl ?_
      exact w_X14_digest_11 hf hrm   n ((y1 * 31) + ((v23 : Int32).toInt64)) (y3 + 1) _ _ hz  hr
set_option maxRecDepth 20000 in
set_option maxHeartbeats 4000000 in
theorem s_X14_digest {A : Nat → Nat → Nat → Nat} {h : Hp} {σ ρ ρ' : Zs} {v : Int64}   (hz : Rp A h σ ρ) (hr : fX14_digest  ρ = some (v, ρ')) : ∀ l : Launch, Sp l mX14_digest 1 0 0 [.ref (A 14 0 0)] h (QJ A v σ ρ') X0 := by
  intro l
  refine Sp.of rfl rfl (lv := [(0, .ref (A 14 0 0))]) (Nat.le_of_ble_eq_true rfl) rfl (fun x hf hrm => ?_)
  rw [fX14_digest.eq_1] at hr
  refine w_aload_n 0 dX14_digest_0 rfl rfl rfl ?_
  refine w_iconst 0 dX14_digest_1 rfl rfl ?_
  refine p_X14_149 dX14_digest_2 rfl (hz.o14 rfl) ?_
  obtain ⟨ρ1, e2, hr⟩ := lt_e hr
  have hz := (hz.s896 (v := 0) rfl).tr e2
  refine w_ldc2 dX14_digest_5 rfl k_X14_594 ?_
  refine w_lstore_n [(1, .long 281), (0, .ref (A 14 0 0))] dX14_digest_8 rfl rfl (by decide) rfl ?_
  refine w_iconst 0 dX14_digest_9 rfl rfl ?_
  refine w_istore_n [(3, .int 0), (1, .long 281), (0, .ref (A 14 0 0))] dX14_digest_10 rfl rfl (by decide) rfl ?_
  refine w_lv [(0, .ref (A 14 0 0)), (1, .long 281), (3, .int 0)] [2, 1, 0] rfl ?_
  exact w_X14_digest_11 hf hrm   FU 281 0 _ _ hz  hr

set_option maxRecDepth 20000 in
set_option maxHeartbeats 4000000 in
theorem w_X14_changed_184 {A : Nat → Nat → Nat → Nat} {σ ρ' : Zs} {v : Int32} {x : Cxt} {x1 : Int32} {k73 : Int32 → Int32 → Int32 → Zs → Option (Int32 × Zs)}  (hf : m_fin 0 0 (QI A v σ ρ') X0 x) (hrm : m_rm 2 0 0 x)  (hk73 : ∀ (y2 : Int32) (y3 : Int32) (y4 : Int32) (ρ : Zs) (h : Hp), Rp A h σ ρ → k73 y2 y3 y4 ρ = some (v, ρ') → wp x mX14_changed 73 [(0, .ref (A 14 0 0)), (1, .int x1), (2, .int y2), (3, .int y3), (4, .int y4)] [] h 0 0) : ∀ (y2 : Int32) (y3 : Int32) (y4 : Int32) (y5 : Int32) (ρ : Zs) (h : Hp), Rp A h σ ρ → fX14_changed_184 x1 k73 y2 y3 y4 y5 ρ = some (v, ρ') → wp x mX14_changed 184 [(0, .ref (A 14 0 0)), (1, .int x1), (2, .int y2), (3, .int y3), (4, .int y4), (5, .int y5)] [] h 0 0 := by
  intro y2 y3 y4 y5 ρ h hz hr
  rw [fX14_changed_184.eq_1] at hr
  refine w_iload_n 3 dX14_changed_184 rfl rfl rfl ?_
  refine w_iload 5 dX14_changed_185 rfl rfl ?_
  refine w_if_eq 194 dX14_changed_187 rfl rfl (fun q187 => ?_) (fun q187 => ?_)
  · have hr := bt q187 hr
    refine w_iconst 1 dX14_changed_194 rfl rfl ?_
    refine w_iadd dX14_changed_195 rfl ?_
    refine w_istore_n [(3, .int (y3 + 1)), (0, .ref (A 14 0 0)), (1, .int x1), (2, .int y2), (4, .int y4), (5, .int y5)] dX14_changed_196 rfl rfl (by decide) rfl ?_
    refine w_iinc 4 (y4 + 1) [(4, .int (y4 + 1)), (3, .int (y3 + 1)), (0, .ref (A 14 0 0)), (1, .int x1), (2, .int y2), (5, .int y5)] dX14_changed_197 rfl rfl rfl (by decide) rfl ?_
    refine w_goto 73 dX14_changed_200 rfl ?_
    refine w_lv [(0, .ref (A 14 0 0)), (1, .int x1), (2, .int y2), (3, .int (y3 + 1)), (4, .int (y4 + 1))] [2, 3, 4, 1, 0] rfl ?_
    exact hk73 y2 (y3 + 1) (y4 + 1) _ _ hz  hr
  · have hr := bf q187 hr
    refine w_iconst 0 dX14_changed_190 rfl rfl ?_
    refine w_goto 195 dX14_changed_191 rfl ?_
    refine w_iadd dX14_changed_195 rfl ?_
    refine w_istore_n [(3, .int (y3 + 0)), (0, .ref (A 14 0 0)), (1, .int x1), (2, .int y2), (4, .int y4), (5, .int y5)] dX14_changed_196 rfl rfl (by decide) rfl ?_
    refine w_iinc 4 (y4 + 1) [(4, .int (y4 + 1)), (3, .int (y3 + 0)), (0, .ref (A 14 0 0)), (1, .int x1), (2, .int y2), (5, .int y5)] dX14_changed_197 rfl rfl rfl (by decide) rfl ?_
    refine w_goto 73 dX14_changed_200 rfl ?_
    refine w_lv [(0, .ref (A 14 0 0)), (1, .int x1), (2, .int y2), (3, .int (y3 + 0)), (4, .int (y4 + 1))] [2, 3, 4, 1, 0] rfl ?_
    exact hk73 y2 (y3 + 0) (y4 + 1) _ _ hz  hr
set_option maxRecDepth 20000 in
set_option maxHeartbeats 4000000 in
theorem w_X14_changed_123 {A : Nat → Nat → Nat → Nat} {σ ρ' : Zs} {v : Int32} {x : Cxt} {x1 : Int32} {k73 : Int32 → Int32 → Int32 → Zs → Option (Int32 × Zs)}  (hf : m_fin 0 0 (QI A v σ ρ') X0 x) (hrm : m_rm 2 0 0 x)  (hk73 : ∀ (y2 : Int32) (y3 : Int32) (y4 : Int32) (ρ : Zs) (h : Hp), Rp A h σ ρ → k73 y2 y3 y4 ρ = some (v, ρ') → wp x mX14_changed 73 [(0, .ref (A 14 0 0)), (1, .int x1), (2, .int y2), (3, .int y3), (4, .int y4)] [] h 0 0) : ∀ (n : Nat) (y2 : Int32) (y3 : Int32) (y4 : Int32) (y5 : Int32) (y6 : Int32) (ρ : Zs) (h : Hp), Rp A h σ ρ → fX14_changed_123 x1 k73 n y2 y3 y4 y5 y6 ρ = some (v, ρ') → wp x mX14_changed 123 [(0, .ref (A 14 0 0)), (1, .int x1), (2, .int y2), (3, .int y3), (4, .int y4), (5, .int y5), (6, .int y6)] [] h 0 0
  | 0, _, _, _, _, _, ρ, h => fun hz hr => by
    rw [fX14_changed_123.eq_1] at hr
    exact nono hr
  | n + 1, y2, y3, y4, y5, y6, ρ, h => fun hz hr => by
    rw [fX14_changed_123.eq_2] at hr
    refine w_iload 6 dX14_changed_123 rfl rfl ?_
    refine w_aload_n 0 dX14_changed_125 rfl rfl rfl ?_
    refine g_X14_128 dX14_changed_126 rfl (hz.o14 rfl) (hz.r952 rfl) ?_
    refine w_iload_n 2 dX14_changed_129 rfl rfl rfl ?_
    obtain ⟨g20, hr⟩ := gd hr
    refine w_iald dX14_changed_130 rfl (hz.k952 rfl) (gin (hz.n952 rfl) g20) (hz.x952 rfl) ?_
    refine w_icmp_gt 184 dX14_changed_131 rfl rfl (fun q131 => ?_) (fun q131 => ?_)
    · have hr := bt q131 hr
      refine w_lv [(0, .ref (A 14 0 0)), (1, .int x1), (2, .int y2), (3, .int y3), (4, .int y4), (5, .int y5)] [0, 1, 2, 3, 4, 5] rfl ?_
      exact w_X14_changed_184 hf hrm  hk73 y2 y3 y4 y5 _ _ hz  hr
    · have hr := bf q131 hr
      refine w_iload 5 dX14_changed_134 rfl rfl ?_
      refine w_if_eq 184 dX14_changed_136 rfl rfl (fun q136 => ?_) (fun q136 => ?_)
      · have hr := bt q136 hr
        refine w_lv [(0, .ref (A 14 0 0)), (1, .int x1), (2, .int y2), (3, .int y3), (4, .int y4), (5, .int y5)] [0, 1, 2, 3, 4, 5] rfl ?_
        exact w_X14_changed_184 hf hrm  hk73 y2 y3 y4 y5 _ _ hz  hr
      · have hr := bf q136 hr
        refine w_aload_n 0 dX14_changed_139 rfl rfl rfl ?_
        refine g_X14_46 dX14_changed_140 rfl (hz.o14 rfl) (hz.r916 rfl) ?_
        refine w_iload_n 1 dX14_changed_143 rfl rfl rfl ?_
        refine w_iload 4 dX14_changed_144 rfl rfl ?_
        obtain ⟨v21, ρ22, e23, hr⟩ := bq_some hr
        refine c_X14_475 (b := 0) (As := [.int x1, .int y4]) (rest := [.ref (A 1940 0 0)]) (fun l => s_X14_rowAt  hz e23 l) hrm dX14_changed_146 rfl rfl (Nat.le_of_ble_eq_true rfl) (Nat.le_of_ble_eq_true rfl) (Nat.le_of_ble_eq_true rfl) rfl (Nat.le_of_ble_eq_true rfl) (fun vr h2 hq => ?_) (fun E9 h9 hq => hq.elim)
        obtain ⟨rfl, hz⟩ := hq
        show wp _ _ 149 [(0, .ref (A 14 0 0)), (1, .int x1), (2, .int y2), (3, .int y3), (4, .int y4), (5, .int y5), (6, .int y6)] [.int v21, .ref (A 1940 0 0)] _ _ _
        refine w_iload 6 dX14_changed_149 rfl rfl ?_
        refine w_iadd dX14_changed_151 rfl ?_
        obtain ⟨g25, hr⟩ := gd hr
        refine w_lald dX14_changed_152 rfl (hz.k916 rfl) (gin (hz.n916 rfl) g25) (hz.x916 rfl) ?_
        refine w_aload_n 0 dX14_changed_153 rfl rfl rfl ?_
        refine g_X14_134 dX14_changed_154 rfl (hz.o14 rfl) (hz.r954 rfl) ?_
        refine w_iload_n 2 dX14_changed_157 rfl rfl rfl ?_
        refine w_iload 4 dX14_changed_158 rfl rfl ?_
        obtain ⟨v26, ρ27, e28, hr⟩ := bq_some hr
        refine c_X14_475 (b := 0) (As := [.int y2, .int y4]) (rest := [.ref (A 1978 0 0), .long (zJ ρ22 1940 0 0 (Int32.toNatClampNeg (v21 + y6)))]) (fun l => s_X14_rowAt  hz e28 l) hrm dX14_changed_160 rfl rfl (Nat.le_of_ble_eq_true rfl) (Nat.le_of_ble_eq_true rfl) (Nat.le_of_ble_eq_true rfl) rfl (Nat.le_of_ble_eq_true rfl) (fun vr h2 hq => ?_) (fun E9 h9 hq => hq.elim)
        obtain ⟨rfl, hz⟩ := hq
        show wp _ _ 163 [(0, .ref (A 14 0 0)), (1, .int x1), (2, .int y2), (3, .int y3), (4, .int y4), (5, .int y5), (6, .int y6)] [.int v26, .ref (A 1978 0 0), .long (zJ ρ22 1940 0 0 (Int32.toNatClampNeg (v21 + y6)))] _ _ _
        refine w_iload 6 dX14_changed_163 rfl rfl ?_
        refine w_iadd dX14_changed_165 rfl ?_
        obtain ⟨g30, hr⟩ := gd hr
        refine w_lald dX14_changed_166 rfl (hz.k954 rfl) (gin (hz.n954 rfl) g30) (hz.x954 rfl) ?_
        refine w_lcmp dX14_changed_167 rfl ?_
        refine w_if_ne 175 dX14_changed_168 rfl rfl (fun q168 => ?_) (fun q168 => ?_)
        · have hr := bf q168 hr
          refine w_iconst 0 dX14_changed_175 rfl rfl ?_
          refine w_istore [(5, .int 0), (0, .ref (A 14 0 0)), (1, .int x1), (2, .int y2), (3, .int y3), (4, .int y4), (6, .int y6)] dX14_changed_176 rfl (by decide) rfl ?_
          refine w_iinc 6 (y6 + 1) [(6, .int (y6 + 1)), (5, .int 0), (0, .ref (A 14 0 0)), (1, .int x1), (2, .int y2), (3, .int y3), (4, .int y4)] dX14_changed_178 rfl rfl rfl (by decide) rfl ?_
          refine w_goto 123 dX14_changed_181 rfl ?_
          refine w_lv [(0, .ref (A 14 0 0)), (1, .int x1), (2, .int y2), (3, .int y3), (4, .int y4), (5, .int 0), (6, .int (y6 + 1))] [2, 3, 4, 5, 6, 1, 0] rfl ?_
          exact w_X14_changed_123 hf hrm  hk73 n y2 y3 y4 0 (y6 + 1) _ _ hz  hr
        · have hr := bt q168 hr
          refine w_iconst 1 dX14_changed_171 rfl rfl ?_
          refine w_goto 176 dX14_changed_172 rfl ?_
          refine w_istore [(5, .int 1), (0, .ref (A 14 0 0)), (1, .int x1), (2, .int y2), (3, .int y3), (4, .int y4), (6, .int y6)] dX14_changed_176 rfl (by decide) rfl ?_
          refine w_iinc 6 (y6 + 1) [(6, .int (y6 + 1)), (5, .int 1), (0, .ref (A 14 0 0)), (1, .int x1), (2, .int y2), (3, .int y3), (4, .int y4)] dX14_changed_178 rfl rfl rfl (by decide) rfl ?_
          refine w_goto 123 dX14_changed_181 rfl ?_
          refine w_lv [(0, .ref (A 14 0 0)), (1, .int x1), (2, .int y2), (3, .int y3), (4, .int y4), (5, .int 1), (6, .int (y6 + 1))] [2, 3, 4, 5, 6, 1, 0] rfl ?_
          exact w_X14_changed_123 hf hrm  hk73 n y2 y3 y4 1 (y6 + 1) _ _ hz  hr
set_option maxRecDepth 20000 in
set_option maxHeartbeats 4000000 in
theorem w_X14_changed_73 {A : Nat → Nat → Nat → Nat} {σ ρ' : Zs} {v : Int32} {x : Cxt} {x1 : Int32}  (hf : m_fin 0 0 (QI A v σ ρ') X0 x) (hrm : m_rm 2 0 0 x)  : ∀ (n : Nat) (y2 : Int32) (y3 : Int32) (y4 : Int32) (ρ : Zs) (h : Hp), Rp A h σ ρ → fX14_changed_73 x1  n y2 y3 y4 ρ = some (v, ρ') → wp x mX14_changed 73 [(0, .ref (A 14 0 0)), (1, .int x1), (2, .int y2), (3, .int y3), (4, .int y4)] [] h 0 0
  | 0, _, _, _, ρ, h => fun hz hr => by
    rw [fX14_changed_73.eq_1] at hr
    exact nono hr
  | n + 1, y2, y3, y4, ρ, h => fun hz hr => by
    rw [fX14_changed_73.eq_2] at hr
    refine w_iload 4 dX14_changed_73 rfl rfl ?_
    refine w_aload_n 0 dX14_changed_75 rfl rfl rfl ?_
    refine g_X14_49 dX14_changed_76 rfl (hz.o14 rfl) (hz.r917 rfl) ?_
    refine w_iload_n 1 dX14_changed_79 rfl rfl rfl ?_
    obtain ⟨g15, hr⟩ := gd hr
    refine w_iald dX14_changed_80 rfl (hz.k917 rfl) (gin (hz.n917 rfl) g15) (hz.x917 rfl) ?_
    refine w_icmp_ge 203 dX14_changed_81 rfl rfl (fun q81 => ?_) (fun q81 => ?_)
    · have hr := bt q81 hr
      refine w_iload_n 3 dX14_changed_203 rfl rfl rfl ?_
      refine w_iret hf dX14_changed_204 rfl (Nat.le_of_ble_eq_true rfl) (Nat.le_of_ble_eq_true rfl) ?_
      obtain ⟨rfl, rfl⟩ := ret_inj hr
      exact ⟨rfl, hz⟩
    · have hr := bf q81 hr
      refine w_iload 4 dX14_changed_84 rfl rfl ?_
      refine w_aload_n 0 dX14_changed_86 rfl rfl rfl ?_
      refine g_X14_131 dX14_changed_87 rfl (hz.o14 rfl) (hz.r953 rfl) ?_
      refine w_iload_n 2 dX14_changed_90 rfl rfl rfl ?_
      obtain ⟨g16, hr⟩ := gd hr
      refine w_iald dX14_changed_91 rfl (hz.k953 rfl) (gin (hz.n953 rfl) g16) (hz.x953 rfl) ?_
      refine w_icmp_ge 203 dX14_changed_92 rfl rfl (fun q92 => ?_) (fun q92 => ?_)
      · have hr := bt q92 hr
        refine w_iload_n 3 dX14_changed_203 rfl rfl rfl ?_
        refine w_iret hf dX14_changed_204 rfl (Nat.le_of_ble_eq_true rfl) (Nat.le_of_ble_eq_true rfl) ?_
        obtain ⟨rfl, rfl⟩ := ret_inj hr
        exact ⟨rfl, hz⟩
      · have hr := bf q92 hr
        refine w_aload_n 0 dX14_changed_95 rfl rfl rfl ?_
        have hv17 := hz.ww898 (p := 0) (s := 0) rfl
        refine g_X14_16 dX14_changed_96 rfl (hz.o14 rfl) (hz.rr898 rfl) ?_
        refine g_X14_292 dX14_changed_99 rfl (hz.o12 hv17) (hz.r771 hv17) ?_
        refine w_iload_n 1 dX14_changed_102 rfl rfl rfl ?_
        obtain ⟨g18, hr⟩ := gd hr
        refine w_iald dX14_changed_103 rfl (hz.k771 hv17) (gin (hz.n771 hv17) g18) (hz.x771 hv17) ?_
        refine w_aload_n 0 dX14_changed_104 rfl rfl rfl ?_
        refine g_X14_128 dX14_changed_105 rfl (hz.o14 rfl) (hz.r952 rfl) ?_
        refine w_iload_n 2 dX14_changed_108 rfl rfl rfl ?_
        obtain ⟨g19, hr⟩ := gd hr
        refine w_iald dX14_changed_109 rfl (hz.k952 rfl) (gin (hz.n952 rfl) g19) (hz.x952 rfl) ?_
        refine w_icmp_ne 117 dX14_changed_110 rfl rfl (fun q110 => ?_) (fun q110 => ?_)
        · have hr := bf q110 hr
          refine w_iconst 0 dX14_changed_117 rfl rfl ?_
          refine w_istore [(5, .int 0), (0, .ref (A 14 0 0)), (1, .int x1), (2, .int y2), (3, .int y3), (4, .int y4)] dX14_changed_118 rfl (by decide) rfl ?_
          refine w_iconst 0 dX14_changed_120 rfl rfl ?_
          refine w_istore [(6, .int 0), (5, .int 0), (0, .ref (A 14 0 0)), (1, .int x1), (2, .int y2), (3, .int y3), (4, .int y4)] dX14_changed_121 rfl (by decide) rfl ?_
          refine w_lv [(0, .ref (A 14 0 0)), (1, .int x1), (2, .int y2), (3, .int y3), (4, .int y4), (5, .int 0), (6, .int 0)] [2, 3, 4, 5, 6, 1, 0] rfl ?_
          exact w_X14_changed_123 hf hrm  (fun by2 by3 by4 zb hb hzb  hrb => w_X14_changed_73 hf hrm   n by2 by3 by4 zb hb hzb  hrb) FU y2 y3 y4 0 0 _ _ hz  hr
        · have hr := bt q110 hr
          refine w_iconst 1 dX14_changed_113 rfl rfl ?_
          refine w_goto 118 dX14_changed_114 rfl ?_
          refine w_istore [(5, .int 1), (0, .ref (A 14 0 0)), (1, .int x1), (2, .int y2), (3, .int y3), (4, .int y4)] dX14_changed_118 rfl (by decide) rfl ?_
          refine w_iconst 0 dX14_changed_120 rfl rfl ?_
          refine w_istore [(6, .int 0), (5, .int 1), (0, .ref (A 14 0 0)), (1, .int x1), (2, .int y2), (3, .int y3), (4, .int y4)] dX14_changed_121 rfl (by decide) rfl ?_
          refine w_lv [(0, .ref (A 14 0 0)), (1, .int x1), (2, .int y2), (3, .int y3), (4, .int y4), (5, .int 1), (6, .int 0)] [2, 3, 4, 5, 6, 1, 0] rfl ?_
          exact w_X14_changed_123 hf hrm  (fun by2 by3 by4 zb hb hzb  hrb => w_X14_changed_73 hf hrm   n by2 by3 by4 zb hb hzb  hrb) FU y2 y3 y4 1 0 _ _ hz  hr
set_option maxRecDepth 20000 in
set_option maxHeartbeats 4000000 in
theorem s_X14_changed {A : Nat → Nat → Nat → Nat} {h : Hp} {σ ρ ρ' : Zs} {v : Int32} {x1 : Int32}  (hz : Rp A h σ ρ) (hr : fX14_changed x1 ρ = some (v, ρ')) : ∀ l : Launch, Sp l mX14_changed 2 0 0 [.ref (A 14 0 0), .int x1] h (QI A v σ ρ') X0 := by
  intro l
  refine Sp.of rfl rfl (lv := [(0, .ref (A 14 0 0)), (1, .int x1)]) (Nat.le_of_ble_eq_true rfl) rfl (fun x hf hrm => ?_)
  rw [fX14_changed.eq_1] at hr
  refine w_aload_n 0 dX14_changed_0 rfl rfl rfl ?_
  refine w_iconst 0 dX14_changed_1 rfl rfl ?_
  refine p_X14_149 dX14_changed_2 rfl (hz.o14 rfl) ?_
  obtain ⟨ρ1, e2, hr⟩ := lt_e hr
  have hz := (hz.s896 (v := 0) rfl).tr e2
  refine w_aload_n 0 dX14_changed_5 rfl rfl rfl ?_
  refine w_iload_n 1 dX14_changed_6 rfl rfl rfl ?_
  obtain ⟨v3, ρ4, e5, hr⟩ := bq_some hr
  refine c_X14_448 (As := [.int x1]) (rest := []) (fun l => s_X14_isStream  hz e5 l) hrm dX14_changed_7 rfl rfl (Nat.le_of_ble_eq_true rfl) (Nat.le_of_ble_eq_true rfl) (Nat.le_of_ble_eq_true rfl) (hz.o14 rfl) rfl (Nat.le_of_ble_eq_true rfl) (fun vr h2 hq => ?_) (fun E9 h9 hq => hq.elim)
  obtain ⟨rfl, hz⟩ := hq
  show wp _ _ 10 [(0, .ref (A 14 0 0)), (1, .int x1)] [.int v3] _ _ _
  refine w_if_ne 19 dX14_changed_10 rfl rfl (fun q10 => ?_) (fun q10 => ?_)
  · have hr := bf q10 hr
    refine w_aload_n 0 dX14_changed_19 rfl rfl rfl ?_
    refine g_X14_125 dX14_changed_20 rfl (hz.o14 rfl) (hz.r951 rfl) ?_
    refine w_iconst 0 dX14_changed_23 rfl rfl ?_
    refine w_aload_n 0 dX14_changed_24 rfl rfl rfl ?_
    refine g_X14_589 dX14_changed_25 rfl (hz.o14 rfl) (hz.i950 rfl) ?_
    refine w_aload_n 0 dX14_changed_28 rfl rfl rfl ?_
    have hv7 := hz.ww898 (p := 0) (s := 0) rfl
    refine g_X14_16 dX14_changed_29 rfl (hz.o14 rfl) (hz.rr898 rfl) ?_
    refine g_X14_295 dX14_changed_32 rfl (hz.o12 hv7) (hz.r769 hv7) ?_
    refine w_iload_n 1 dX14_changed_35 rfl rfl rfl ?_
    obtain ⟨g8, hr⟩ := gd hr
    refine w_lald dX14_changed_36 rfl (hz.k769 hv7) (gin (hz.n769 hv7) g8) (hz.x769 hv7) ?_
    obtain ⟨v9, ρ10, e11, hr⟩ := bq_some hr
    refine c_X14_192 (b := 0) (As := [.ref (A 1975 0 0), .int 0, .int (zI ρ4 950 0 0 0), .long (zJ ρ4 1793 ((zR ρ4 898 0 0 0).1) 0 (Int32.toNatClampNeg x1))]) (rest := []) (fun l => s_X14_indexOf (aok_951 rfl) rfl hz e11 l) hrm dX14_changed_37 rfl rfl (Nat.le_of_ble_eq_true rfl) (Nat.le_of_ble_eq_true rfl) (Nat.le_of_ble_eq_true rfl) rfl (Nat.le_of_ble_eq_true rfl) (fun vr h2 hq => ?_) (fun E9 h9 hq => hq.elim)
    obtain ⟨rfl, hz⟩ := hq
    show wp _ _ 40 [(0, .ref (A 14 0 0)), (1, .int x1)] [.int v9] _ _ _
    refine w_istore_n [(2, .int v9), (0, .ref (A 14 0 0)), (1, .int x1)] dX14_changed_40 rfl rfl (by decide) rfl ?_
    refine w_iload_n 0 dX14_changed_41 rfl rfl rfl ?_
    refine w_iconst (-1) dX14_changed_42 rfl rfl ?_
    refine w_icmp_ne 53 dX14_changed_43 rfl rfl (fun q43 => ?_) (fun q43 => ?_)
    · have hr := bf q43 hr
      refine w_aload_n 1 dX14_changed_53 rfl rfl rfl ?_
      refine g_X14_49 dX14_changed_54 rfl (hz.o14 rfl) (hz.r917 rfl) ?_
      refine w_iload_n 2 dX14_changed_57 rfl rfl rfl ?_
      obtain ⟨g13, hr⟩ := gd hr
      refine w_iald dX14_changed_58 rfl (hz.k917 rfl) (gin (hz.n917 rfl) g13) (hz.x917 rfl) ?_
      refine w_aload_n 1 dX14_changed_59 rfl rfl rfl ?_
      refine g_X14_131 dX14_changed_60 rfl (hz.o14 rfl) (hz.r953 rfl) ?_
      refine w_iload_n 0 dX14_changed_63 rfl rfl rfl ?_
      obtain ⟨g14, hr⟩ := gd hr
      refine w_iald dX14_changed_64 rfl (hz.k953 rfl) (gin (hz.n953 rfl) g14) (hz.x953 rfl) ?_
      refine w_isub dX14_changed_65 rfl ?_
      refine w_mabs hrm (by decide) dX14_changed_66 rfl ml_X14_592 (Nat.le_of_ble_eq_true rfl) (Nat.le_of_ble_eq_true rfl) (Nat.le_of_ble_eq_true rfl) ?_
      refine w_istore_n [(3, .int (p_abs ((zI ρ10 1941 0 0 (Int32.toNatClampNeg x1)) - (zI ρ10 1977 0 0 (Int32.toNatClampNeg v9))))), (2, .int v9), (0, .ref (A 14 0 0)), (1, .int x1)] dX14_changed_69 rfl rfl (by decide) rfl ?_
      refine w_iconst 0 dX14_changed_70 rfl rfl ?_
      refine w_istore [(4, .int 0), (3, .int (p_abs ((zI ρ10 1941 0 0 (Int32.toNatClampNeg x1)) - (zI ρ10 1977 0 0 (Int32.toNatClampNeg v9))))), (2, .int v9), (0, .ref (A 14 0 0)), (1, .int x1)] dX14_changed_71 rfl (by decide) rfl ?_
      refine w_lv [(0, .ref (A 14 0 0)), (1, .int x1), (2, .int v9), (3, .int (p_abs ((zI ρ10 1941 0 0 (Int32.toNatClampNeg x1)) - (zI ρ10 1977 0 0 (Int32.toNatClampNeg v9))))), (4, .int 0)] [3, 4, 2, 1, 0] rfl ?_
      exact w_X14_changed_73 hf hrm   FU v9 (p_abs ((zI ρ10 1941 0 0 (Int32.toNatClampNeg x1)) - (zI ρ10 1977 0 0 (Int32.toNatClampNeg v9)))) 0 _ _ hz  hr
    · have hr := bt q43 hr
      refine w_aload_n 1 dX14_changed_46 rfl rfl rfl ?_
      refine g_X14_49 dX14_changed_47 rfl (hz.o14 rfl) (hz.r917 rfl) ?_
      refine w_iload_n 2 dX14_changed_50 rfl rfl rfl ?_
      obtain ⟨g31, hr⟩ := gd hr
      refine w_iald dX14_changed_51 rfl (hz.k917 rfl) (gin (hz.n917 rfl) g31) (hz.x917 rfl) ?_
      refine w_iret hf dX14_changed_52 rfl (Nat.le_of_ble_eq_true rfl) (Nat.le_of_ble_eq_true rfl) ?_
      obtain ⟨rfl, rfl⟩ := ret_inj hr
      exact ⟨rfl, hz⟩
  · have hr := bt q10 hr
    refine w_aload_n 0 dX14_changed_13 rfl rfl rfl ?_
    refine w_iconst 1 dX14_changed_14 rfl rfl ?_
    obtain ⟨v32, ρ33, e34, hr⟩ := bq_some hr
    refine c_X14_155 (As := [.int 1]) (rest := []) (fun l => s_X14_fail  hz e34 l) hrm dX14_changed_15 rfl rfl (Nat.le_of_ble_eq_true rfl) (Nat.le_of_ble_eq_true rfl) (Nat.le_of_ble_eq_true rfl) (hz.o14 rfl) rfl (Nat.le_of_ble_eq_true rfl) (fun vr h2 hq => ?_) (fun E9 h9 hq => hq.elim)
    obtain ⟨rfl, hz⟩ := hq
    show wp _ _ 18 [(0, .ref (A 14 0 0)), (1, .int x1)] [.int v32] _ _ _
    refine w_iret hf dX14_changed_18 rfl (Nat.le_of_ble_eq_true rfl) (Nat.le_of_ble_eq_true rfl) ?_
    obtain ⟨rfl, rfl⟩ := ret_inj hr
    exact ⟨rfl, hz⟩

set_option maxRecDepth 20000 in
set_option maxHeartbeats 4000000 in
theorem w_X14_keepOld_13 {A : Nat → Nat → Nat → Nat} {σ ρ' : Zs} {v : Unit} {x : Cxt}   (hf : m_fin 0 0 (QV A v σ ρ') X0 x) (hrm : m_rm 10 0 0 x)  : ∀ (n : Nat) (y1 : Int32) (ρ : Zs) (h : Hp), Rp A h σ ρ → fX14_keepOld_13   n y1 ρ = some (v, ρ') → wp x mX14_keepOld 13 [(0, .ref (A 14 0 0)), (1, .int y1)] [] h 0 0
  | 0, _, ρ, h => fun hz hr => by
    rw [fX14_keepOld_13.eq_1] at hr
    exact nono hr
  | n + 1, y1, ρ, h => fun hz hr => by
    rw [fX14_keepOld_13.eq_2] at hr
    refine w_iload_n 1 dX14_keepOld_13 rfl rfl rfl ?_
    refine w_aload_n 0 dX14_keepOld_14 rfl rfl rfl ?_
    refine g_X14_589 dX14_keepOld_15 rfl (hz.o14 rfl) (hz.i950 rfl) ?_
    refine w_icmp_ge 69 dX14_keepOld_18 rfl rfl (fun q18 => ?_) (fun q18 => ?_)
    · have hr := bt q18 hr
      refine w_aload_n 0 dX14_keepOld_69 rfl rfl rfl ?_
      refine g_X14_46 dX14_keepOld_70 rfl (hz.o14 rfl) (hz.r916 rfl) ?_
      refine w_iconst 0 dX14_keepOld_73 rfl rfl ?_
      refine w_aload_n 0 dX14_keepOld_74 rfl rfl rfl ?_
      refine g_X14_134 dX14_keepOld_75 rfl (hz.o14 rfl) (hz.r954 rfl) ?_
      refine w_iconst 0 dX14_keepOld_78 rfl rfl ?_
      refine w_aload_n 0 dX14_keepOld_79 rfl rfl rfl ?_
      refine g_X14_46 dX14_keepOld_80 rfl (hz.o14 rfl) (hz.r916 rfl) ?_
      refine w_alen 1 dX14_keepOld_83 rfl (by decide) (by decide) (fun _ => rfl) (hz.k916 rfl) (v := 16800) (by rw [hz.n916 rfl]; rfl) ?_
      obtain ⟨g4, hr⟩ := gd hr
      refine w_copyl hrm (by decide) dX14_keepOld_84 rfl (hz.k916 rfl) (hz.k954 rfl) (hz.n916 rfl) (hz.n954 rfl) g4 (Nat.le_of_ble_eq_true rfl) ?_
      obtain ⟨ρ5, e6, hr⟩ := lt_e hr
      have hz := (hz.vC (f2 := 954) (sp := Int32.toNatClampNeg 0) (dp := Int32.toNatClampNeg 0) (n := Int32.toNatClampNeg 16800) (aok_916 rfl) rfl rfl (by decide) rfl rfl).tr e6
      refine w_vret hf dX14_keepOld_87 rfl (Nat.le_of_ble_eq_true rfl) (Nat.le_of_ble_eq_true rfl) ?_
      obtain ⟨rfl, rfl⟩ := ret_inj hr
      exact ⟨rfl, hz⟩
    · have hr := bf q18 hr
      refine w_aload_n 0 dX14_keepOld_21 rfl rfl rfl ?_
      refine g_X14_125 dX14_keepOld_22 rfl (hz.o14 rfl) (hz.r951 rfl) ?_
      refine w_iload_n 1 dX14_keepOld_25 rfl rfl rfl ?_
      refine w_aload_n 0 dX14_keepOld_26 rfl rfl rfl ?_
      have hv7 := hz.ww898 (p := 0) (s := 0) rfl
      refine g_X14_16 dX14_keepOld_27 rfl (hz.o14 rfl) (hz.rr898 rfl) ?_
      refine g_X14_295 dX14_keepOld_30 rfl (hz.o12 hv7) (hz.r769 hv7) ?_
      refine w_iload_n 1 dX14_keepOld_33 rfl rfl rfl ?_
      obtain ⟨g8, hr⟩ := gd hr
      refine w_lald dX14_keepOld_34 rfl (hz.k769 hv7) (gin (hz.n769 hv7) g8) (hz.x769 hv7) ?_
      obtain ⟨g9, hr⟩ := gd hr
      refine w_last dX14_keepOld_35 rfl (hz.k951 rfl) (gin (hz.n951 rfl) g9) ?_
      obtain ⟨ρ10, e11, hr⟩ := lt_e hr
      have hz := (hz.s951 (i := (Int32.toNatClampNeg y1)) (v := (zJ ρ 1793 ((zR ρ 898 0 0 0).1) 0 (Int32.toNatClampNeg y1))) rfl).tr e11
      refine w_aload_n 0 dX14_keepOld_36 rfl rfl rfl ?_
      refine g_X14_128 dX14_keepOld_37 rfl (hz.o14 rfl) (hz.r952 rfl) ?_
      refine w_iload_n 1 dX14_keepOld_40 rfl rfl rfl ?_
      refine w_aload_n 0 dX14_keepOld_41 rfl rfl rfl ?_
      have hv12 := hz.ww898 (p := 0) (s := 0) rfl
      refine g_X14_16 dX14_keepOld_42 rfl (hz.o14 rfl) (hz.rr898 rfl) ?_
      refine g_X14_292 dX14_keepOld_45 rfl (hz.o12 hv12) (hz.r771 hv12) ?_
      refine w_iload_n 1 dX14_keepOld_48 rfl rfl rfl ?_
      obtain ⟨g13, hr⟩ := gd hr
      refine w_iald dX14_keepOld_49 rfl (hz.k771 hv12) (gin (hz.n771 hv12) g13) (hz.x771 hv12) ?_
      obtain ⟨g14, hr⟩ := gd hr
      refine w_iast dX14_keepOld_50 rfl (hz.k952 rfl) (gin (hz.n952 rfl) g14) ?_
      obtain ⟨ρ15, e16, hr⟩ := lt_e hr
      have hz := (hz.s952 (i := (Int32.toNatClampNeg y1)) (v := (zI ρ10 1795 ((zR ρ10 898 0 0 0).1) 0 (Int32.toNatClampNeg y1))) rfl).tr e16
      refine w_aload_n 0 dX14_keepOld_51 rfl rfl rfl ?_
      refine g_X14_131 dX14_keepOld_52 rfl (hz.o14 rfl) (hz.r953 rfl) ?_
      refine w_iload_n 1 dX14_keepOld_55 rfl rfl rfl ?_
      refine w_aload_n 0 dX14_keepOld_56 rfl rfl rfl ?_
      refine g_X14_49 dX14_keepOld_57 rfl (hz.o14 rfl) (hz.r917 rfl) ?_
      refine w_iload_n 1 dX14_keepOld_60 rfl rfl rfl ?_
      obtain ⟨g17, hr⟩ := gd hr
      refine w_iald dX14_keepOld_61 rfl (hz.k917 rfl) (gin (hz.n917 rfl) g17) (hz.x917 rfl) ?_
      obtain ⟨g18, hr⟩ := gd hr
      refine w_iast dX14_keepOld_62 rfl (hz.k953 rfl) (gin (hz.n953 rfl) g18) ?_
      obtain ⟨ρ19, e20, hr⟩ := lt_e hr
      have hz := (hz.s953 (i := (Int32.toNatClampNeg y1)) (v := (zI ρ15 1941 0 0 (Int32.toNatClampNeg y1))) rfl).tr e20
      refine w_iinc 1 (y1 + 1) [(1, .int (y1 + 1)), (0, .ref (A 14 0 0))] dX14_keepOld_63 rfl rfl rfl (by decide) rfl ?_
      refine w_goto 13 dX14_keepOld_66 rfl ?_
      refine w_lv [(0, .ref (A 14 0 0)), (1, .int (y1 + 1))] [1, 0] rfl ?_
      exact w_X14_keepOld_13 hf hrm   n (y1 + 1) _ _ hz  hr
set_option maxRecDepth 20000 in
set_option maxHeartbeats 4000000 in
theorem s_X14_keepOld {A : Nat → Nat → Nat → Nat} {h : Hp} {σ ρ ρ' : Zs} {v : Unit}   (hz : Rp A h σ ρ) (hr : fX14_keepOld  ρ = some (v, ρ')) : ∀ l : Launch, Sp l mX14_keepOld 10 0 0 [.ref (A 14 0 0)] h (QV A v σ ρ') X0 := by
  intro l
  refine Sp.of rfl rfl (lv := [(0, .ref (A 14 0 0))]) (Nat.le_of_ble_eq_true rfl) rfl (fun x hf hrm => ?_)
  rw [fX14_keepOld.eq_1] at hr
  refine w_aload_n 0 dX14_keepOld_0 rfl rfl rfl ?_
  refine w_aload_n 0 dX14_keepOld_1 rfl rfl rfl ?_
  have hv1 := hz.ww898 (p := 0) (s := 0) rfl
  refine g_X14_16 dX14_keepOld_2 rfl (hz.o14 rfl) (hz.rr898 rfl) ?_
  refine g_X14_298 dX14_keepOld_5 rfl (hz.o12 hv1) (hz.i768 hv1) ?_
  refine p_X14_589 dX14_keepOld_8 rfl (hz.o14 rfl) ?_
  obtain ⟨ρ2, e3, hr⟩ := lt_e hr
  have hz := (hz.s950 (v := (zI ρ 768 ((zR ρ 898 0 0 0).1) 0 0)) rfl).tr e3
  refine w_iconst 0 dX14_keepOld_11 rfl rfl ?_
  refine w_istore_n [(1, .int 0), (0, .ref (A 14 0 0))] dX14_keepOld_12 rfl rfl (by decide) rfl ?_
  refine w_lv [(0, .ref (A 14 0 0)), (1, .int 0)] [1, 0] rfl ?_
  exact w_X14_keepOld_13 hf hrm   FU 0 _ _ hz  hr

set_option maxRecDepth 20000 in
set_option maxHeartbeats 4000000 in
theorem w_X14_empty_63 {A : Nat → Nat → Nat → Nat} {σ ρ' : Zs} {v : Unit} {x : Cxt}   (hf : m_fin 0 0 (QV A v σ ρ') X0 x) (hrm : m_rm 0 0 0 x)  : ∀ (n : Nat) (y1 : Int32) (ρ : Zs) (h : Hp), Rp A h σ ρ → fX14_empty_63   n y1 ρ = some (v, ρ') → wp x mX14_empty 63 [(0, .ref (A 14 0 0)), (1, .int y1)] [] h 0 0
  | 0, _, ρ, h => fun hz hr => by
    rw [fX14_empty_63.eq_1] at hr
    exact nono hr
  | n + 1, y1, ρ, h => fun hz hr => by
    rw [fX14_empty_63.eq_2] at hr
    refine w_iload_n 1 dX14_empty_63 rfl rfl rfl ?_
    refine w_bipush 8 dX14_empty_64 rfl rfl ?_
    refine w_icmp_ge 82 dX14_empty_66 rfl rfl (fun q66 => ?_) (fun q66 => ?_)
    · have hr := bt q66 hr
      refine w_aload_n 0 dX14_empty_82 rfl rfl rfl ?_
      refine w_iconst 0 dX14_empty_83 rfl rfl ?_
      refine p_X14_453 dX14_empty_84 rfl (hz.o14 rfl) ?_
      obtain ⟨ρ3, e4, hr⟩ := lt_e hr
      have hz := (hz.s928 (v := 0) rfl).tr e4
      refine w_aload_n 0 dX14_empty_87 rfl rfl rfl ?_
      refine w_iconst 0 dX14_empty_88 rfl rfl ?_
      refine p_X14_456 dX14_empty_89 rfl (hz.o14 rfl) (Or.inl rfl) ?_
      obtain ⟨ρ5, e6, hr⟩ := lt_e hr
      have hz := (hz.s929 (v := 0) rfl).tr e6
      refine w_aload_n 0 dX14_empty_92 rfl rfl rfl ?_
      refine w_iconst 0 dX14_empty_93 rfl rfl ?_
      refine p_X14_459 dX14_empty_94 rfl (hz.o14 rfl) ?_
      obtain ⟨ρ7, e8, hr⟩ := lt_e hr
      have hz := (hz.s931 (v := 0) rfl).tr e8
      refine w_vret hf dX14_empty_97 rfl (Nat.le_of_ble_eq_true rfl) (Nat.le_of_ble_eq_true rfl) ?_
      obtain ⟨rfl, rfl⟩ := ret_inj hr
      exact ⟨rfl, hz⟩
    · have hr := bf q66 hr
      refine w_aload_n 0 dX14_empty_69 rfl rfl rfl ?_
      refine g_X14_76 dX14_empty_70 rfl (hz.o14 rfl) (hz.r927 rfl) ?_
      refine w_iload_n 1 dX14_empty_73 rfl rfl rfl ?_
      refine w_iconst 0 dX14_empty_74 rfl rfl ?_
      obtain ⟨g9, hr⟩ := gd hr
      refine w_iast dX14_empty_75 rfl (hz.k927 rfl) (gin (hz.n927 rfl) g9) ?_
      obtain ⟨ρ10, e11, hr⟩ := lt_e hr
      have hz := (hz.s927 (i := (Int32.toNatClampNeg y1)) (v := 0) rfl).tr e11
      refine w_iinc 1 (y1 + 1) [(1, .int (y1 + 1)), (0, .ref (A 14 0 0))] dX14_empty_76 rfl rfl rfl (by decide) rfl ?_
      refine w_goto 63 dX14_empty_79 rfl ?_
      refine w_lv [(0, .ref (A 14 0 0)), (1, .int (y1 + 1))] [1, 0] rfl ?_
      exact w_X14_empty_63 hf hrm   n (y1 + 1) _ _ hz  hr
set_option maxRecDepth 20000 in
set_option maxHeartbeats 4000000 in
theorem w_X14_empty_2 {A : Nat → Nat → Nat → Nat} {σ ρ' : Zs} {v : Unit} {x : Cxt}   (hf : m_fin 0 0 (QV A v σ ρ') X0 x) (hrm : m_rm 0 0 0 x)  : ∀ (n : Nat) (y1 : Int32) (ρ : Zs) (h : Hp), Rp A h σ ρ → fX14_empty_2   n y1 ρ = some (v, ρ') → wp x mX14_empty 2 [(0, .ref (A 14 0 0)), (1, .int y1)] [] h 0 0
  | 0, _, ρ, h => fun hz hr => by
    rw [fX14_empty_2.eq_1] at hr
    exact nono hr
  | n + 1, y1, ρ, h => fun hz hr => by
    rw [fX14_empty_2.eq_2] at hr
    refine w_iload_n 1 dX14_empty_2 rfl rfl rfl ?_
    refine w_bipush 12 dX14_empty_3 rfl rfl ?_
    refine w_icmp_ge 56 dX14_empty_5 rfl rfl (fun q5 => ?_) (fun q5 => ?_)
    · have hr := bt q5 hr
      refine w_aload_n 0 dX14_empty_56 rfl rfl rfl ?_
      refine w_iconst 0 dX14_empty_57 rfl rfl ?_
      refine p_X14_440 dX14_empty_58 rfl (hz.o14 rfl) ?_
      obtain ⟨ρ1, e2, hr⟩ := lt_e hr
      have hz := (hz.s923 (v := 0) rfl).tr e2
      refine w_iconst 0 dX14_empty_61 rfl rfl ?_
      refine w_istore_n [(1, .int 0), (0, .ref (A 14 0 0))] dX14_empty_62 rfl rfl (by decide) rfl ?_
      refine w_lv [(0, .ref (A 14 0 0)), (1, .int 0)] [1, 0] rfl ?_
      exact w_X14_empty_63 hf hrm   FU 0 _ _ hz  hr
    · have hr := bf q5 hr
      refine w_aload_n 0 dX14_empty_8 rfl rfl rfl ?_
      refine g_X14_49 dX14_empty_9 rfl (hz.o14 rfl) (hz.r917 rfl) ?_
      refine w_iload_n 1 dX14_empty_12 rfl rfl rfl ?_
      refine w_iconst 0 dX14_empty_13 rfl rfl ?_
      obtain ⟨g12, hr⟩ := gd hr
      refine w_iast dX14_empty_14 rfl (hz.k917 rfl) (gin (hz.n917 rfl) g12) ?_
      obtain ⟨ρ13, e14, hr⟩ := lt_e hr
      have hz := (hz.s917 (i := (Int32.toNatClampNeg y1)) (v := 0) rfl).tr e14
      refine w_aload_n 0 dX14_empty_15 rfl rfl rfl ?_
      refine g_X14_52 dX14_empty_16 rfl (hz.o14 rfl) (hz.r918 rfl) ?_
      refine w_iload_n 1 dX14_empty_19 rfl rfl rfl ?_
      refine w_iconst (-1) dX14_empty_20 rfl rfl ?_
      obtain ⟨g15, hr⟩ := gd hr
      refine w_iast dX14_empty_21 rfl (hz.k918 rfl) (gin (hz.n918 rfl) g15) ?_
      obtain ⟨ρ16, e17, hr⟩ := lt_e hr
      have hz := (hz.s918 (i := (Int32.toNatClampNeg y1)) (v := (-1)) rfl).tr e17
      refine w_aload_n 0 dX14_empty_22 rfl rfl rfl ?_
      refine g_X14_55 dX14_empty_23 rfl (hz.o14 rfl) (hz.r919 rfl) ?_
      refine w_iload_n 1 dX14_empty_26 rfl rfl rfl ?_
      refine w_iconst 0 dX14_empty_27 rfl rfl ?_
      obtain ⟨g18, hr⟩ := gd hr
      refine w_iast dX14_empty_28 rfl (hz.k919 rfl) (gin (hz.n919 rfl) g18) ?_
      obtain ⟨ρ19, e20, hr⟩ := lt_e hr
      have hz := (hz.s919 (i := (Int32.toNatClampNeg y1)) (v := 0) rfl).tr e20
      refine w_aload_n 0 dX14_empty_29 rfl rfl rfl ?_
      refine g_X14_58 dX14_empty_30 rfl (hz.o14 rfl) (hz.r920 rfl) ?_
      refine w_iload_n 1 dX14_empty_33 rfl rfl rfl ?_
      refine w_iconst 0 dX14_empty_34 rfl rfl ?_
      obtain ⟨g21, hr⟩ := gd hr
      refine w_iast dX14_empty_35 rfl (hz.k920 rfl) (gin (hz.n920 rfl) g21) ?_
      obtain ⟨ρ22, e23, hr⟩ := lt_e hr
      have hz := (hz.s920 (i := (Int32.toNatClampNeg y1)) (v := 0) rfl).tr e23
      refine w_aload_n 0 dX14_empty_36 rfl rfl rfl ?_
      refine g_X14_64 dX14_empty_37 rfl (hz.o14 rfl) (hz.r922 rfl) ?_
      refine w_iload_n 1 dX14_empty_40 rfl rfl rfl ?_
      refine w_iconst 0 dX14_empty_41 rfl rfl ?_
      obtain ⟨g24, hr⟩ := gd hr
      refine w_iast dX14_empty_42 rfl (hz.k922 rfl) (gin (hz.n922 rfl) g24) ?_
      obtain ⟨ρ25, e26, hr⟩ := lt_e hr
      have hz := (hz.s922 (i := (Int32.toNatClampNeg y1)) (v := 0) rfl).tr e26
      refine w_aload_n 0 dX14_empty_43 rfl rfl rfl ?_
      refine g_X14_85 dX14_empty_44 rfl (hz.o14 rfl) (hz.r934 rfl) ?_
      refine w_iload_n 1 dX14_empty_47 rfl rfl rfl ?_
      refine w_iconst 0 dX14_empty_48 rfl rfl ?_
      obtain ⟨g27, hr⟩ := gd hr
      refine w_iast dX14_empty_49 rfl (hz.k934 rfl) (gin (hz.n934 rfl) g27) ?_
      obtain ⟨ρ28, e29, hr⟩ := lt_e hr
      have hz := (hz.s934 (i := (Int32.toNatClampNeg y1)) (v := 0) rfl).tr e29
      refine w_iinc 1 (y1 + 1) [(1, .int (y1 + 1)), (0, .ref (A 14 0 0))] dX14_empty_50 rfl rfl rfl (by decide) rfl ?_
      refine w_goto 2 dX14_empty_53 rfl ?_
      refine w_lv [(0, .ref (A 14 0 0)), (1, .int (y1 + 1))] [1, 0] rfl ?_
      exact w_X14_empty_2 hf hrm   n (y1 + 1) _ _ hz  hr
set_option maxRecDepth 20000 in
set_option maxHeartbeats 4000000 in
theorem s_X14_empty {A : Nat → Nat → Nat → Nat} {h : Hp} {σ ρ ρ' : Zs} {v : Unit}   (hz : Rp A h σ ρ) (hr : fX14_empty  ρ = some (v, ρ')) : ∀ l : Launch, Sp l mX14_empty 0 0 0 [.ref (A 14 0 0)] h (QV A v σ ρ') X0 := by
  intro l
  refine Sp.of rfl rfl (lv := [(0, .ref (A 14 0 0))]) (Nat.le_of_ble_eq_true rfl) rfl (fun x hf hrm => ?_)
  rw [fX14_empty.eq_1] at hr
  refine w_iconst 0 dX14_empty_0 rfl rfl ?_
  refine w_istore_n [(1, .int 0), (0, .ref (A 14 0 0))] dX14_empty_1 rfl rfl (by decide) rfl ?_
  refine w_lv [(0, .ref (A 14 0 0)), (1, .int 0)] [1, 0] rfl ?_
  exact w_X14_empty_2 hf hrm   FU 0 _ _ hz  hr

