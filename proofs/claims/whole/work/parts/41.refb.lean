/-! LIFTED: 41.refb -/
noncomputable def fX14_two (x0 : Int32) (x1 : Int64) (x3 : Int64) (ρ : Zs) : Option (Int64 × Zs) :=
  if (x0 : Int32) = 10 then (some ((x1 + x3), ρ)) else if (x0 : Int32) = 11 then (some ((x1 - x3), ρ)) else if (x0 : Int32) = 12 then (some ((x1 * x3), ρ)) else if (x0 : Int32) = 13 then (if ((lg_cmp x3 0) : Int32) = 0 then (some (0, ρ)) else (if ¬ (x3 : Int64) = 0 then some ((x1 / x3), ρ) else none)) else if (x0 : Int32) = 14 then (if ((lg_cmp x3 0) : Int32) = 0 then (some (0, ρ)) else (if ¬ (x3 : Int64) = 0 then some ((x1 - x1 / x3 * x3), ρ) else none)) else if (x0 : Int32) = 15 then (some ((p_lmax x1 x3), ρ)) else if (x0 : Int32) = 16 then (some ((p_lmax x1 x3), ρ)) else if (x0 : Int32) = 17 then (some ((p_lmax x1 x3), ρ)) else if (x0 : Int32) = 18 then (some ((p_lmax x1 x3), ρ)) else if (x0 : Int32) = 19 then (some ((p_lmax x1 x3), ρ)) else if (x0 : Int32) = 20 then (if ((lg_cmp x1 x3) : Int32) = 0 then (some (1, ρ)) else (some (0, ρ))) else if (x0 : Int32) = 21 then (if ((lg_cmp x1 x3) : Int32) = 0 then (some (0, ρ)) else (some (1, ρ))) else if (x0 : Int32) = 22 then (if 0 ≤ ((lg_cmp x1 x3) : Int32) then (some (0, ρ)) else (some (1, ρ))) else if (x0 : Int32) = 23 then (if ((lg_cmp x1 x3) : Int32) ≤ 0 then (some (0, ρ)) else (some (1, ρ))) else if (x0 : Int32) = 24 then (if 0 < ((lg_cmp x1 x3) : Int32) then (some (0, ρ)) else (some (1, ρ))) else if (x0 : Int32) = 25 then (if ((lg_cmp x1 x3) : Int32) < 0 then (some (0, ρ)) else (some (1, ρ))) else if (x0 : Int32) = 26 then (some ((p_lmax x1 x3), ρ)) else if (x0 : Int32) = 27 then (some ((p_lmax x1 x3), ρ)) else if (x0 : Int32) = 28 then (some ((p_lmax x1 x3), ρ)) else if (x0 : Int32) = 29 then (some ((p_lmax x1 x3), ρ)) else if (x0 : Int32) = 30 then (if ((lg_cmp x1 0) : Int32) = 0 then (some (0, ρ)) else (if ((lg_cmp x3 0) : Int32) = 0 then (some (0, ρ)) else (some (1, ρ)))) else if (x0 : Int32) = 31 then (if ((lg_cmp x1 0) : Int32) = 0 then (if ((lg_cmp x3 0) : Int32) = 0 then (some (0, ρ)) else (some (1, ρ))) else (some (1, ρ))) else if (x0 : Int32) = 32 then (some ((p_lmin x1 x3), ρ)) else (some ((p_lmax x1 x3), ρ))

noncomputable def fX14_worth_6 (x1 : Int32) (c2 : Nat) (p2 : Nat) (s2 : Nat) (n2 : Nat) (x3 : Int32)  : Nat → Int32 → Int32 → Zs → Option (Int64 × Zs)
  | 0, _, _, _ => none
  | n + 1, y4, y5, ρ =>
    if gi y5 3000 then if (zI ρ 1810 ((zR ρ 898 0 0 0).1) 0 (Int32.toNatClampNeg y5)) = 50 then (if gi 0 64 then some ((zJ ρ 1956 0 0 (Int32.toNatClampNeg 0)), ρ) else none) else (if gi y5 3000 then if 2 < (zI ρ 1810 ((zR ρ 898 0 0 0).1) 0 (Int32.toNatClampNeg y5)) then (if (zI ρ 1810 ((zR ρ 898 0 0 0).1) 0 (Int32.toNatClampNeg y5)) < 40 then (if gi ((y4 + (-1)) - 1) 64 then if gi (y4 + (-1)) 64 then bq (fX14_two (zI ρ 1810 ((zR ρ 898 0 0 0).1) 0 (Int32.toNatClampNeg y5)) (zJ ρ 1956 0 0 (Int32.toNatClampNeg ((y4 + (-1)) - 1))) (zJ ρ 1956 0 0 (Int32.toNatClampNeg (y4 + (-1)))) ρ) fun v8 ρ9 => if gi ((y4 + (-1)) - 1) 64 then lt (sJ ρ9 1956 0 0 (Int32.toNatClampNeg ((y4 + (-1)) - 1)) v8) fun ρ13 => fX14_worth_6 x1 c2 p2 s2 n2 x3  n (y4 + (-1)) (y5 + 1) ρ13 else none else none else none) else (if gi (y4 - 1) 64 then if (zI ρ 1810 ((zR ρ 898 0 0 0).1) 0 (Int32.toNatClampNeg y5)) = 40 then (if ((lg_cmp (zJ ρ 1956 0 0 (Int32.toNatClampNeg (y4 - 1))) 0) : Int32) = 0 then (if gi (y4 - 1) 64 then lt (sJ ρ 1956 0 0 (Int32.toNatClampNeg (y4 - 1)) 1) fun ρ29 => fX14_worth_6 x1 c2 p2 s2 n2 x3  n y4 (y5 + 1) ρ29 else none) else (if gi (y4 - 1) 64 then lt (sJ ρ 1956 0 0 (Int32.toNatClampNeg (y4 - 1)) 0) fun ρ26 => fX14_worth_6 x1 c2 p2 s2 n2 x3  n y4 (y5 + 1) ρ26 else none)) else (if (zI ρ 1810 ((zR ρ 898 0 0 0).1) 0 (Int32.toNatClampNeg y5)) = 41 then (if gi (y4 - 1) 64 then lt (sJ ρ 1956 0 0 (Int32.toNatClampNeg (y4 - 1)) (-(zJ ρ 1956 0 0 (Int32.toNatClampNeg (y4 - 1))))) fun ρ17 => fX14_worth_6 x1 c2 p2 s2 n2 x3  n y4 (y5 + 1) ρ17 else none) else (if 0 ≤ ((lg_cmp (zJ ρ 1956 0 0 (Int32.toNatClampNeg (y4 - 1))) 0) : Int32) then (if gi (y4 - 1) 64 then lt (sJ ρ 1956 0 0 (Int32.toNatClampNeg (y4 - 1)) (zJ ρ 1956 0 0 (Int32.toNatClampNeg (y4 - 1)))) fun ρ20 => fX14_worth_6 x1 c2 p2 s2 n2 x3  n y4 (y5 + 1) ρ20 else none) else (if gi (y4 - 1) 64 then lt (sJ ρ 1956 0 0 (Int32.toNatClampNeg (y4 - 1)) (-(zJ ρ 1956 0 0 (Int32.toNatClampNeg (y4 - 1))))) fun ρ23 => fX14_worth_6 x1 c2 p2 s2 n2 x3  n y4 (y5 + 1) ρ23 else none))) else none)) else (if (zI ρ 1810 ((zR ρ 898 0 0 0).1) 0 (Int32.toNatClampNeg y5)) = 0 then (if gi y5 3000 then if gi y4 64 then lt (sJ ρ 1956 0 0 (Int32.toNatClampNeg y4) (zJ ρ 1811 ((zR ρ 898 0 0 0).1) 0 (Int32.toNatClampNeg y5))) fun ρ44 => fX14_worth_6 x1 c2 p2 s2 n2 x3  n (y4 + 1) (y5 + 1) ρ44 else none else none) else (if (zI ρ 1810 ((zR ρ 898 0 0 0).1) 0 (Int32.toNatClampNeg y5)) = 2 then (if gi x3 n2 then if gi y4 64 then lt (sJ ρ 1956 0 0 (Int32.toNatClampNeg y4) (zJ ρ c2 p2 s2 (Int32.toNatClampNeg x3))) fun ρ39 => fX14_worth_6 x1 c2 p2 s2 n2 x3  n (y4 + 1) (y5 + 1) ρ39 else none else none) else (if gi y5 3000 then if gi ((x3 + 1) + (((zJ ρ 1811 ((zR ρ 898 0 0 0).1) 0 (Int32.toNatClampNeg y5)) : Int64).toInt32)) n2 then if gi y4 64 then lt (sJ ρ 1956 0 0 (Int32.toNatClampNeg y4) (zJ ρ c2 p2 s2 (Int32.toNatClampNeg ((x3 + 1) + (((zJ ρ 1811 ((zR ρ 898 0 0 0).1) 0 (Int32.toNatClampNeg y5)) : Int64).toInt32))))) fun ρ35 => fX14_worth_6 x1 c2 p2 s2 n2 x3  n (y4 + 1) (y5 + 1) ρ35 else none else none else none))) else none) else none
noncomputable def fX14_worth (x1 : Int32) (c2 : Nat) (p2 : Nat) (s2 : Nat) (n2 : Nat) (x3 : Int32) (ρ : Zs) : Option (Int64 × Zs) :=
  fX14_worth_6 x1 c2 p2 s2 n2 x3  FU 0 x1 ρ

noncomputable def fX14_load (c1 : Nat) (p1 : Nat) (s1 : Nat) (n1 : Nat) (x2 : Int32) (ρ : Zs) : Option (Unit × Zs) :=
  if gcp x2 0 7 n1 7 then lt (sC ρ c1 p1 s1 1957 0 0 (Int32.toNatClampNeg x2) (Int32.toNatClampNeg 0) (Int32.toNatClampNeg 7)) fun ρ2 => some ((), ρ2) else none

noncomputable def fX14_store (x1 : Int32) (ρ : Zs) : Option (Unit × Zs) :=
  if gi x1 12 then if (zI ρ 1941 0 0 (Int32.toNatClampNeg x1)) = 200 then (lt (sI ρ 928 0 0 0 ((zI ρ 928 0 0 0) + 1)) fun ρ16 => some ((), ρ16)) else (if gi x1 12 then bq (fX14_rowAt x1 (zI ρ 1941 0 0 (Int32.toNatClampNeg x1)) ρ) fun v3 ρ4 => if gcp 0 v3 7 7 16800 then lt (sC ρ4 1957 0 0 1940 0 0 (Int32.toNatClampNeg 0) (Int32.toNatClampNeg v3) (Int32.toNatClampNeg 7)) fun ρ8 => if gi x1 12 then if gi x1 12 then lt (sI ρ8 1941 0 0 (Int32.toNatClampNeg x1) ((zI ρ8 1941 0 0 (Int32.toNatClampNeg x1)) + 1)) fun ρ12 => lt (sI ρ12 930 0 0 0 ((zI ρ12 930 0 0 0) + 1)) fun ρ14 => some ((), ρ14) else none else none else none else none) else none

noncomputable def fX14_hold (x1 : Int32) (x2 : Int32) (ρ : Zs) : Option (Unit × Zs) :=
  if (zI ρ 923 0 0 0) = 60 then (lt (sI ρ 928 0 0 0 ((zI ρ 928 0 0 0) + 1)) fun ρ12 => some ((), ρ12)) else (if gi (zI ρ 923 0 0 0) 60 then lt (sI ρ 1948 0 0 (Int32.toNatClampNeg (zI ρ 923 0 0 0)) x1) fun ρ2 => if gi (zI ρ2 923 0 0 0) 60 then lt (sI ρ2 1949 0 0 (Int32.toNatClampNeg (zI ρ2 923 0 0 0)) x2) fun ρ5 => if gcp 0 (7 * (zI ρ5 923 0 0 0)) 7 7 420 then lt (sC ρ5 1957 0 0 1950 0 0 (Int32.toNatClampNeg 0) (Int32.toNatClampNeg (7 * (zI ρ5 923 0 0 0))) (Int32.toNatClampNeg 7)) fun ρ8 => lt (sI ρ8 923 0 0 0 ((zI ρ8 923 0 0 0) + 1)) fun ρ10 => some ((), ρ10) else none else none else none)

noncomputable def fX14_offer_2 (x1 : Int32)  : Nat → Int32 → Zs → Option (Unit × Zs)
  | 0, _, _ => none
  | n + 1, y2, ρ =>
    if (zI ρ 781 ((zR ρ 898 0 0 0).1) 0 0) ≤ y2 then (bq (fX14_store x1 ρ) fun v2 ρ3 => some ((), ρ3)) else (if gi y2 8 then if (zI ρ 1806 ((zR ρ 898 0 0 0).1) 0 (Int32.toNatClampNeg y2)) = x1 then (if gi y2 8 then bq (fX14_worth (zI ρ 1807 ((zR ρ 898 0 0 0).1) 0 (Int32.toNatClampNeg y2)) 1957 0 0 7 0 ρ) fun v10 ρ11 => if ((lg_cmp v10 0) : Int32) = 0 then (if gi y2 8 then if gi y2 8 then lt (sI ρ11 1951 0 0 (Int32.toNatClampNeg y2) ((zI ρ11 1951 0 0 (Int32.toNatClampNeg y2)) + 1)) fun ρ16 => if gi y2 8 then if (zI ρ16 1808 ((zR ρ16 898 0 0 0).1) 0 (Int32.toNatClampNeg y2)) = 19 then (if gi y2 8 then if (zI ρ16 1808 ((zR ρ16 898 0 0 0).1) 0 (Int32.toNatClampNeg y2)) = 21 then (lt (sI ρ16 929 0 0 0 1) fun ρ22 => some ((), ρ22)) else (some ((), ρ16)) else none) else (bq (fX14_hold x1 y2 ρ16) fun v24 ρ25 => if gi y2 8 then if (zI ρ25 1808 ((zR ρ25 898 0 0 0).1) 0 (Int32.toNatClampNeg y2)) = 21 then (lt (sI ρ25 929 0 0 0 1) fun ρ30 => some ((), ρ30)) else (some ((), ρ25)) else none) else none else none else none) else (fX14_offer_2 x1  n (y2 + 1) ρ11) else none) else (fX14_offer_2 x1  n (y2 + 1) ρ) else none)
noncomputable def fX14_offer (x1 : Int32) (ρ : Zs) : Option (Unit × Zs) :=
  fX14_offer_2 x1  FU 0 ρ

noncomputable def fX14_endOf (x1 : Int32) (x2 : Int32) (ρ : Zs) : Option (Int32 × Zs) :=
  if gi ((60 * x1) + x2) 720 then if gi x1 12 then some (((zI ρ 1960 0 0 (Int32.toNatClampNeg ((60 * x1) + x2))) + (zI ρ 1799 ((zR ρ 898 0 0 0).1) 0 (Int32.toNatClampNeg x1))), ρ) else none else none

noncomputable def fX14_findWindow_3 (x1 : Int32) (x2 : Int64) (x4 : Int32)  : Nat → Int32 → Zs → Option (Int32 × Zs)
  | 0, _, _ => none
  | n + 1, y5, ρ =>
    if gi x1 12 then if (zI ρ 1958 0 0 (Int32.toNatClampNeg x1)) ≤ y5 then (some ((-1), ρ)) else (if gi ((60 * x1) + y5) 720 then if ((lg_cmp (zJ ρ 1959 0 0 (Int32.toNatClampNeg ((60 * x1) + y5))) x2) : Int32) = 0 then (if gi ((60 * x1) + y5) 720 then if (zI ρ 1960 0 0 (Int32.toNatClampNeg ((60 * x1) + y5))) = x4 then (some (y5, ρ)) else (fX14_findWindow_3 x1 x2 x4  n (y5 + 1) ρ) else none) else (fX14_findWindow_3 x1 x2 x4  n (y5 + 1) ρ) else none) else none
noncomputable def fX14_findWindow (x1 : Int32) (x2 : Int64) (x4 : Int32) (ρ : Zs) : Option (Int32 × Zs) :=
  fX14_findWindow_3 x1 x2 x4  FU 0 ρ

noncomputable def fX14_putIn_257 (x1 : Int32) (c2 : Nat) (p2 : Nat) (s2 : Nat) (n2 : Nat) (x3 : Int32) (x4 : Int32) (x5 : Int32) (k161 : Int32 → Int32 → Int32 → Zs → Option (Int32 × Zs)) (y8 : Int32) (y9 : Int32) (y10 : Int32) (y11 : Int32) (y12 : Int32) (y13 : Int64) (z0 : Int64) (ρ : Zs) : Option (Int32 × Zs) :=
  if y11 = 23 then (if gi y12 4320 then lt (sJ ρ 1962 0 0 (Int32.toNatClampNeg y12) (z0 + y13)) fun ρ25 => k161 y8 y9 (y10 + 1) ρ25 else none) else (if y11 = 22 then (if gi y12 4320 then lt (sJ ρ 1962 0 0 (Int32.toNatClampNeg y12) (z0 + y13)) fun ρ40 => k161 y8 y9 (y10 + 1) ρ40 else none) else (if y9 = 0 then (if y11 = 26 then (if gi y12 4320 then lt (sJ ρ 1962 0 0 (Int32.toNatClampNeg y12) y13) fun ρ37 => k161 y8 y9 (y10 + 1) ρ37 else none) else (if y11 = 24 then (if gi y12 4320 then lt (sJ ρ 1962 0 0 (Int32.toNatClampNeg y12) (p_lmin z0 y13)) fun ρ34 => k161 y8 y9 (y10 + 1) ρ34 else none) else (if gi y12 4320 then lt (sJ ρ 1962 0 0 (Int32.toNatClampNeg y12) (p_lmax z0 y13)) fun ρ31 => k161 y8 y9 (y10 + 1) ρ31 else none))) else (if gi y12 4320 then lt (sJ ρ 1962 0 0 (Int32.toNatClampNeg y12) y13) fun ρ28 => k161 y8 y9 (y10 + 1) ρ28 else none)))
noncomputable def fX14_putIn_161 (x1 : Int32) (c2 : Nat) (p2 : Nat) (s2 : Nat) (n2 : Nat) (x3 : Int32) (x4 : Int32) (x5 : Int32)  : Nat → Int32 → Int32 → Int32 → Zs → Option (Int32 × Zs)
  | 0, _, _, _, _ => none
  | n + 1, y8, y9, y10, ρ =>
    if gi x1 12 then if (zI ρ 1795 ((zR ρ 898 0 0 0).1) 0 (Int32.toNatClampNeg x1)) ≤ y10 then (some (y8, ρ)) else (if gi ((6 * x1) + y10) 72 then if (zI ρ 1804 ((zR ρ 898 0 0 0).1) 0 (Int32.toNatClampNeg ((6 * x1) + y10))) = 23 then (if y9 = 0 then (if gi ((((60 * x1) + y8) * 6) + y10) 4320 then fX14_putIn_257 x1 c2 p2 s2 n2 x3 x4 x5 (fun by8 by9 by10 ρb => fX14_putIn_161 x1 c2 p2 s2 n2 x3 x4 x5  n by8 by9 by10 ρb) y8 y9 y10 (zI ρ 1804 ((zR ρ 898 0 0 0).1) 0 (Int32.toNatClampNeg ((6 * x1) + y10))) ((((60 * x1) + y8) * 6) + y10) 1 (zJ ρ 1962 0 0 (Int32.toNatClampNeg ((((60 * x1) + y8) * 6) + y10))) ρ else none) else (fX14_putIn_257 x1 c2 p2 s2 n2 x3 x4 x5 (fun by8 by9 by10 ρb => fX14_putIn_161 x1 c2 p2 s2 n2 x3 x4 x5  n by8 by9 by10 ρb) y8 y9 y10 (zI ρ 1804 ((zR ρ 898 0 0 0).1) 0 (Int32.toNatClampNeg ((6 * x1) + y10))) ((((60 * x1) + y8) * 6) + y10) 1 0 ρ)) else (if gi ((6 * x1) + y10) 72 then bq (fX14_worth (zI ρ 1803 ((zR ρ 898 0 0 0).1) 0 (Int32.toNatClampNeg ((6 * x1) + y10))) c2 p2 s2 n2 x3 ρ) fun v19 ρ20 => if y9 = 0 then (if gi ((((60 * x1) + y8) * 6) + y10) 4320 then fX14_putIn_257 x1 c2 p2 s2 n2 x3 x4 x5 (fun by8 by9 by10 ρb => fX14_putIn_161 x1 c2 p2 s2 n2 x3 x4 x5  n by8 by9 by10 ρb) y8 y9 y10 (zI ρ 1804 ((zR ρ 898 0 0 0).1) 0 (Int32.toNatClampNeg ((6 * x1) + y10))) ((((60 * x1) + y8) * 6) + y10) v19 (zJ ρ20 1962 0 0 (Int32.toNatClampNeg ((((60 * x1) + y8) * 6) + y10))) ρ20 else none) else (fX14_putIn_257 x1 c2 p2 s2 n2 x3 x4 x5 (fun by8 by9 by10 ρb => fX14_putIn_161 x1 c2 p2 s2 n2 x3 x4 x5  n by8 by9 by10 ρb) y8 y9 y10 (zI ρ 1804 ((zR ρ 898 0 0 0).1) 0 (Int32.toNatClampNeg ((6 * x1) + y10))) ((((60 * x1) + y8) * 6) + y10) v19 0 ρ20) else none) else none) else none
noncomputable def fX14_putIn_140 (x1 : Int32) (c2 : Nat) (p2 : Nat) (s2 : Nat) (n2 : Nat) (x3 : Int32) (x4 : Int32) (x5 : Int32)  (y8 : Int32) (z0 : Int32) (ρ : Zs) : Option (Int32 × Zs) :=
  if gi ((60 * x1) + y8) 720 then if gi ((60 * x1) + y8) 720 then lt (sI ρ 1963 0 0 (Int32.toNatClampNeg ((60 * x1) + y8)) ((zI ρ 1963 0 0 (Int32.toNatClampNeg ((60 * x1) + y8))) + 1)) fun ρ11 => fX14_putIn_161 x1 c2 p2 s2 n2 x3 x4 x5  FU y8 z0 2 ρ11 else none else none
noncomputable def fX14_putIn (x1 : Int32) (c2 : Nat) (p2 : Nat) (s2 : Nat) (n2 : Nat) (x3 : Int32) (x4 : Int32) (x5 : Int32) (ρ : Zs) : Option (Int32 × Zs) :=
  if gi x1 12 then if gi ((x3 + 1) + (zI ρ 1801 ((zR ρ 898 0 0 0).1) 0 (Int32.toNatClampNeg x1))) n2 then bq (fX14_findWindow x1 (zJ ρ c2 p2 s2 (Int32.toNatClampNeg ((x3 + 1) + (zI ρ 1801 ((zR ρ 898 0 0 0).1) 0 (Int32.toNatClampNeg x1))))) x4 ρ) fun v4 ρ5 => if v4 = (-1) then (if gi x1 12 then if (zI ρ5 1958 0 0 (Int32.toNatClampNeg x1)) = 60 then (some ((-1), ρ5)) else (if gi x1 12 then if gi x1 12 then if gi x1 12 then lt (sI ρ5 1958 0 0 (Int32.toNatClampNeg x1) ((zI ρ5 1958 0 0 (Int32.toNatClampNeg x1)) + 1)) fun ρ47 => if gi ((60 * x1) + (zI ρ5 1958 0 0 (Int32.toNatClampNeg x1))) 720 then lt (sJ ρ47 1959 0 0 (Int32.toNatClampNeg ((60 * x1) + (zI ρ5 1958 0 0 (Int32.toNatClampNeg x1)))) (zJ ρ c2 p2 s2 (Int32.toNatClampNeg ((x3 + 1) + (zI ρ 1801 ((zR ρ 898 0 0 0).1) 0 (Int32.toNatClampNeg x1)))))) fun ρ50 => if gi ((60 * x1) + (zI ρ5 1958 0 0 (Int32.toNatClampNeg x1))) 720 then lt (sI ρ50 1960 0 0 (Int32.toNatClampNeg ((60 * x1) + (zI ρ5 1958 0 0 (Int32.toNatClampNeg x1)))) x4) fun ρ53 => if gi ((60 * x1) + (zI ρ5 1958 0 0 (Int32.toNatClampNeg x1))) 720 then if x5 = 0 ∨ x5 = 1 then lt (sI ρ53 1961 0 0 (Int32.toNatClampNeg ((60 * x1) + (zI ρ5 1958 0 0 (Int32.toNatClampNeg x1)))) x5) fun ρ57 => if gi ((60 * x1) + (zI ρ5 1958 0 0 (Int32.toNatClampNeg x1))) 720 then lt (sI ρ57 1963 0 0 (Int32.toNatClampNeg ((60 * x1) + (zI ρ5 1958 0 0 (Int32.toNatClampNeg x1)))) 0) fun ρ60 => if gi ((60 * x1) + (zI ρ5 1958 0 0 (Int32.toNatClampNeg x1))) 720 then if (zI ρ60 1963 0 0 (Int32.toNatClampNeg ((60 * x1) + (zI ρ5 1958 0 0 (Int32.toNatClampNeg x1))))) = 0 then (fX14_putIn_140 x1 c2 p2 s2 n2 x3 x4 x5  (zI ρ5 1958 0 0 (Int32.toNatClampNeg x1)) 1 ρ60) else (fX14_putIn_140 x1 c2 p2 s2 n2 x3 x4 x5  (zI ρ5 1958 0 0 (Int32.toNatClampNeg x1)) 0 ρ60) else none else none else none else none else none else none else none else none else none) else none) else (if gi ((60 * x1) + v4) 720 then if (zI ρ5 1963 0 0 (Int32.toNatClampNeg ((60 * x1) + v4))) = 0 then (fX14_putIn_140 x1 c2 p2 s2 n2 x3 x4 x5  v4 1 ρ5) else (fX14_putIn_140 x1 c2 p2 s2 n2 x3 x4 x5  v4 0 ρ5) else none) else none else none

noncomputable def fX14_offerWindow_50 (x1 : Int32) (x2 : Int32)  : Nat → Int32 → Zs → Option (Unit × Zs)
  | 0, _, _ => none
  | n + 1, y3, ρ =>
    if gi x1 12 then if (zI ρ 1795 ((zR ρ 898 0 0 0).1) 0 (Int32.toNatClampNeg x1)) ≤ y3 then (bq (fX14_offer x1 ρ) fun v18 ρ19 => some ((), ρ19)) else (if gi ((((60 * x1) + x2) * 6) + y3) 4320 then if gi (1 + y3) 7 then lt (sJ ρ 1957 0 0 (Int32.toNatClampNeg (1 + y3)) (zJ ρ 1962 0 0 (Int32.toNatClampNeg ((((60 * x1) + x2) * 6) + y3)))) fun ρ24 => fX14_offerWindow_50 x1 x2  n (y3 + 1) ρ24 else none else none) else none
noncomputable def fX14_offerWindow (x1 : Int32) (x2 : Int32) (ρ : Zs) : Option (Unit × Zs) :=
  bq (fX14_endOf x1 x2 ρ) fun v1 ρ2 => if gi 0 7 then lt (sJ ρ2 1957 0 0 (Int32.toNatClampNeg 0) ((v1 : Int32).toInt64)) fun ρ6 => if gi ((60 * x1) + x2) 720 then if gi 1 7 then lt (sJ ρ6 1957 0 0 (Int32.toNatClampNeg 1) (zJ ρ6 1959 0 0 (Int32.toNatClampNeg ((60 * x1) + x2)))) fun ρ10 => if gi ((60 * x1) + x2) 720 then if gi 2 7 then lt (sJ ρ10 1957 0 0 (Int32.toNatClampNeg 2) (((zI ρ10 1960 0 0 (Int32.toNatClampNeg ((60 * x1) + x2))) : Int32).toInt64)) fun ρ14 => fX14_offerWindow_50 x1 x2  FU 2 ρ14 else none else none else none else none else none

noncomputable def fX14_beginOf (x1 : Int32) (x2 : Int64) (ρ : Zs) : Option (Int32 × Zs) :=
  if gi x1 12 then if ¬ ((((zI ρ 1799 ((zR ρ 898 0 0 0).1) 0 (Int32.toNatClampNeg x1)) : Int32).toInt64) : Int64) = 0 then if gi x1 12 then some (((((x2 / (((zI ρ 1799 ((zR ρ 898 0 0 0).1) 0 (Int32.toNatClampNeg x1)) : Int32).toInt64)) * (((zI ρ 1799 ((zR ρ 898 0 0 0).1) 0 (Int32.toNatClampNeg x1)) : Int32).toInt64)) : Int64).toInt32), ρ) else none else none else none

noncomputable def fX14_windowRow_97 (x1 : Int32) (x3 : Int32)  (y6 : Int32) (z0 : Int32) (z1 : Int32) (z2 : Int32) (z4 : Int32) (ρ : Zs) : Option (Unit × Zs) :=
  bq (fX14_putIn z4 1940 0 0 16800 z2 z1 z0 ρ) fun v9 ρ10 => if v9 = (-1) then (lt (sI ρ10 928 0 0 0 ((zI ρ10 928 0 0 0) + 1)) fun ρ17 => some ((), ρ17)) else (if y6 = 0 then (bq (fX14_offerWindow x1 v9 ρ10) fun v13 ρ14 => some ((), ρ14)) else (some ((), ρ10)))
noncomputable def fX14_windowRow_40 (x1 : Int32) (x3 : Int32)  (y4 : Int32) (y5 : Int32) (z0 : Int32) (ρ : Zs) : Option (Unit × Zs) :=
  if z0 = 0 then (if gi x1 12 then if gi x1 12 then if (zI ρ 1942 0 0 (Int32.toNatClampNeg x1)) < (y5 + (zI ρ 1800 ((zR ρ 898 0 0 0).1) 0 (Int32.toNatClampNeg x1))) then (if z0 = 0 then (fX14_windowRow_97 x1 x3  z0 1 y4 x3 x1 ρ) else (fX14_windowRow_97 x1 x3  z0 0 y4 x3 x1 ρ)) else (bq (fX14_load 1940 0 0 16800 x3 ρ) fun v22 ρ23 => bq (fX14_hold x1 (-1) ρ23) fun v26 ρ27 => some ((), ρ27)) else none else none) else (if z0 = 0 then (fX14_windowRow_97 x1 x3  z0 1 y4 x3 x1 ρ) else (fX14_windowRow_97 x1 x3  z0 0 y4 x3 x1 ρ))
noncomputable def fX14_windowRow (x1 : Int32) (x3 : Int32) (ρ : Zs) : Option (Unit × Zs) :=
  if gi x3 16800 then bq (fX14_beginOf x1 (zJ ρ 1940 0 0 (Int32.toNatClampNeg x3)) ρ) fun v2 ρ3 => if gi x1 12 then if gi x1 12 then if (v2 + (zI ρ3 1799 ((zR ρ3 898 0 0 0).1) 0 (Int32.toNatClampNeg x1))) ≤ (zI ρ3 1942 0 0 (Int32.toNatClampNeg x1)) then (fX14_windowRow_40 x1 x3  v2 (v2 + (zI ρ3 1799 ((zR ρ3 898 0 0 0).1) 0 (Int32.toNatClampNeg x1))) 0 ρ3) else (fX14_windowRow_40 x1 x3  v2 (v2 + (zI ρ3 1799 ((zR ρ3 898 0 0 0).1) 0 (Int32.toNatClampNeg x1))) 1 ρ3) else none else none else none

noncomputable def fX14_copyWindow (x1 : Int32) (x2 : Int32) (x3 : Int32) (ρ : Zs) : Option (Unit × Zs) :=
  if gi ((60 * x1) + x2) 720 then if gi ((60 * x1) + x3) 720 then lt (sJ ρ 1959 0 0 (Int32.toNatClampNeg ((60 * x1) + x3)) (zJ ρ 1959 0 0 (Int32.toNatClampNeg ((60 * x1) + x2)))) fun ρ3 => if gi ((60 * x1) + x2) 720 then if gi ((60 * x1) + x3) 720 then lt (sI ρ3 1960 0 0 (Int32.toNatClampNeg ((60 * x1) + x3)) (zI ρ3 1960 0 0 (Int32.toNatClampNeg ((60 * x1) + x2)))) fun ρ7 => if gi ((60 * x1) + x2) 720 then if gi ((60 * x1) + x3) 720 then if (zI ρ7 1961 0 0 (Int32.toNatClampNeg ((60 * x1) + x2))) = 0 ∨ (zI ρ7 1961 0 0 (Int32.toNatClampNeg ((60 * x1) + x2))) = 1 then lt (sI ρ7 1961 0 0 (Int32.toNatClampNeg ((60 * x1) + x3)) (zI ρ7 1961 0 0 (Int32.toNatClampNeg ((60 * x1) + x2)))) fun ρ12 => if gi ((60 * x1) + x2) 720 then if gi ((60 * x1) + x3) 720 then lt (sI ρ12 1963 0 0 (Int32.toNatClampNeg ((60 * x1) + x3)) (zI ρ12 1963 0 0 (Int32.toNatClampNeg ((60 * x1) + x2)))) fun ρ16 => if gcp (6 * ((60 * x1) + x2)) (6 * ((60 * x1) + x3)) 6 4320 4320 then lt (sC ρ16 1962 0 0 1962 0 0 (Int32.toNatClampNeg (6 * ((60 * x1) + x2))) (Int32.toNatClampNeg (6 * ((60 * x1) + x3))) (Int32.toNatClampNeg 6)) fun ρ19 => some ((), ρ19) else none else none else none else none else none else none else none else none else none else none

noncomputable def fX14_closeWindows_173 (x1 : Int32)  : Nat → Int32 → Int32 → Zs → Option (Unit × Zs)
  | 0, _, _, _ => none
  | n + 1, y3, y4, ρ =>
    if gi x1 12 then if (zI ρ 1958 0 0 (Int32.toNatClampNeg x1)) ≤ y4 then (if gi x1 12 then lt (sI ρ 1958 0 0 (Int32.toNatClampNeg x1) y3) fun ρ3 => some ((), ρ3) else none) else (bq (fX14_endOf x1 y4 ρ) fun v5 ρ6 => if gi x1 12 then if gi x1 12 then if (zI ρ6 1942 0 0 (Int32.toNatClampNeg x1)) < ((v5 + (zI ρ6 1800 ((zR ρ6 898 0 0 0).1) 0 (Int32.toNatClampNeg x1))) : Int32) then (bq (fX14_copyWindow x1 y4 y3 ρ6) fun v12 ρ13 => fX14_closeWindows_173 x1  n (y3 + 1) (y4 + 1) ρ13) else (fX14_closeWindows_173 x1  n y3 (y4 + 1) ρ6) else none else none) else none
noncomputable def fX14_closeWindows_139 (x1 : Int32) (k2 : Int32 → Zs → Option (Unit × Zs)) (y3 : Int32) (z0 : Int32) (ρ : Zs) : Option (Unit × Zs) :=
  if z0 = 0 then (k2 z0 ρ) else (if gi ((60 * x1) + y3) 720 then lt (sI ρ 1961 0 0 (Int32.toNatClampNeg ((60 * x1) + y3)) 1) fun ρ18 => bq (fX14_offerWindow x1 y3 ρ18) fun v20 ρ21 => k2 z0 ρ21 else none)
noncomputable def fX14_closeWindows_11 (x1 : Int32) (k2 : Int32 → Zs → Option (Unit × Zs)) : Nat → Int32 → Int32 → Zs → Option (Unit × Zs)
  | 0, _, _, _ => none
  | n + 1, y3, y4, ρ =>
    if gi x1 12 then if (zI ρ 1958 0 0 (Int32.toNatClampNeg x1)) ≤ y4 then (if y3 = (-1) then (fX14_closeWindows_139 x1 k2 y3 0 ρ) else (fX14_closeWindows_139 x1 k2 y3 1 ρ)) else (if gi ((60 * x1) + y4) 720 then if (zI ρ 1961 0 0 (Int32.toNatClampNeg ((60 * x1) + y4))) = 0 then (bq (fX14_endOf x1 y4 ρ) fun v25 ρ26 => if gi x1 12 then if v25 ≤ (zI ρ26 1942 0 0 (Int32.toNatClampNeg x1)) then (if y3 = (-1) then (fX14_closeWindows_11 x1 k2 n y4 (y4 + 1) ρ26) else (bq (fX14_endOf x1 y4 ρ26) fun v30 ρ31 => bq (fX14_endOf x1 y3 ρ31) fun v34 ρ35 => if v30 < v34 then (fX14_closeWindows_11 x1 k2 n y4 (y4 + 1) ρ35) else (bq (fX14_endOf x1 y4 ρ35) fun v38 ρ39 => bq (fX14_endOf x1 y3 ρ39) fun v42 ρ43 => if v38 = v42 then (if gi ((60 * x1) + y4) 720 then if gi ((60 * x1) + y3) 720 then if 0 ≤ ((lg_cmp (zJ ρ43 1959 0 0 (Int32.toNatClampNeg ((60 * x1) + y4))) (zJ ρ43 1959 0 0 (Int32.toNatClampNeg ((60 * x1) + y3)))) : Int32) then (fX14_closeWindows_11 x1 k2 n y3 (y4 + 1) ρ43) else (fX14_closeWindows_11 x1 k2 n y4 (y4 + 1) ρ43) else none else none) else (fX14_closeWindows_11 x1 k2 n y3 (y4 + 1) ρ43)))) else (fX14_closeWindows_11 x1 k2 n y3 (y4 + 1) ρ26) else none) else (fX14_closeWindows_11 x1 k2 n y3 (y4 + 1) ρ) else none) else none
noncomputable def fX14_closeWindows_2 (x1 : Int32)  : Nat → Int32 → Zs → Option (Unit × Zs)
  | 0, _, _ => none
  | n + 1, y2, ρ =>
    if y2 = 0 then (fX14_closeWindows_173 x1  FU 0 0 ρ) else (fX14_closeWindows_11 x1 (fun by2 ρb => fX14_closeWindows_2 x1  n by2 ρb) FU (-1) 0 ρ)
noncomputable def fX14_closeWindows (x1 : Int32) (ρ : Zs) : Option (Unit × Zs) :=
  fX14_closeWindows_2 x1  FU 1 ρ

noncomputable def fX14_firstOnly_22 (x1 : Int32) (x2 : Int32)  : Nat → Int64 → Int32 → Zs → Option (Unit × Zs)
  | 0, _, _, _ => none
  | n + 1, y3, y5, ρ =>
    if gi x1 12 then if (zI ρ 1946 0 0 (Int32.toNatClampNeg x1)) ≤ y5 then (if gi x1 12 then if gi (2 * ((200 * x1) + (zI ρ 1946 0 0 (Int32.toNatClampNeg x1)))) 4800 then lt (sJ ρ 1945 0 0 (Int32.toNatClampNeg (2 * ((200 * x1) + (zI ρ 1946 0 0 (Int32.toNatClampNeg x1))))) y3) fun ρ7 => if gi x1 12 then if gi x2 16800 then if gi ((2 * ((200 * x1) + (zI ρ7 1946 0 0 (Int32.toNatClampNeg x1)))) + 1) 4800 then lt (sJ ρ7 1945 0 0 (Int32.toNatClampNeg ((2 * ((200 * x1) + (zI ρ7 1946 0 0 (Int32.toNatClampNeg x1)))) + 1)) (zJ ρ7 1940 0 0 (Int32.toNatClampNeg x2))) fun ρ12 => if gi x1 12 then if gi x1 12 then lt (sI ρ12 1946 0 0 (Int32.toNatClampNeg x1) ((zI ρ12 1946 0 0 (Int32.toNatClampNeg x1)) + 1)) fun ρ16 => bq (fX14_offer x1 ρ16) fun v18 ρ19 => some ((), ρ19) else none else none else none else none else none else none else none) else (if gi (2 * ((200 * x1) + y5)) 4800 then if ((lg_cmp (zJ ρ 1945 0 0 (Int32.toNatClampNeg (2 * ((200 * x1) + y5)))) y3) : Int32) = 0 then (if gi ((2 * ((200 * x1) + y5)) + 1) 4800 then if gi x2 16800 then if gi x1 12 then if 0 < ((lg_cmp (p_labs ((zJ ρ 1945 0 0 (Int32.toNatClampNeg ((2 * ((200 * x1) + y5)) + 1))) - (zJ ρ 1940 0 0 (Int32.toNatClampNeg x2)))) (((zI ρ 1799 ((zR ρ 898 0 0 0).1) 0 (Int32.toNatClampNeg x1)) : Int32).toInt64)) : Int32) then (fX14_firstOnly_22 x1 x2  n y3 (y5 + 1) ρ) else (some ((), ρ)) else none else none else none) else (fX14_firstOnly_22 x1 x2  n y3 (y5 + 1) ρ) else none) else none
noncomputable def fX14_firstOnly (x1 : Int32) (x2 : Int32) (ρ : Zs) : Option (Unit × Zs) :=
  if gi x1 12 then if gi ((x2 + 1) + (zI ρ 1801 ((zR ρ 898 0 0 0).1) 0 (Int32.toNatClampNeg x1))) 16800 then fX14_firstOnly_22 x1 x2  FU (zJ ρ 1940 0 0 (Int32.toNatClampNeg ((x2 + 1) + (zI ρ 1801 ((zR ρ 898 0 0 0).1) 0 (Int32.toNatClampNeg x1))))) 0 ρ else none else none

noncomputable def fX14_passOn_154 (x1 : Int32) (x2 : Int32)  : Nat → Int32 → Zs → Option (Unit × Zs)
  | 0, _, _ => none
  | n + 1, y5, ρ =>
    if gi x1 12 then if (zI ρ 1795 ((zR ρ 898 0 0 0).1) 0 (Int32.toNatClampNeg x1)) ≤ y5 then (bq (fX14_offer x1 ρ) fun v23 ρ24 => some ((), ρ24)) else (if gi ((6 * x1) + y5) 72 then if gi ((x2 + 1) + (zI ρ 1803 ((zR ρ 898 0 0 0).1) 0 (Int32.toNatClampNeg ((6 * x1) + y5)))) 16800 then if gi (1 + y5) 7 then lt (sJ ρ 1957 0 0 (Int32.toNatClampNeg (1 + y5)) (zJ ρ 1940 0 0 (Int32.toNatClampNeg ((x2 + 1) + (zI ρ 1803 ((zR ρ 898 0 0 0).1) 0 (Int32.toNatClampNeg ((6 * x1) + y5))))))) fun ρ31 => fX14_passOn_154 x1 x2  n (y5 + 1) ρ31 else none else none else none) else none
noncomputable def fX14_passOn_84 (x1 : Int32) (x2 : Int32)  : Nat → Int32 → Zs → Option (Unit × Zs)
  | 0, _, _ => none
  | n + 1, y5, ρ =>
    if gi x1 12 then if (zI ρ 1795 ((zR ρ 898 0 0 0).1) 0 (Int32.toNatClampNeg x1)) ≤ y5 then (bq (fX14_offer x1 ρ) fun v37 ρ38 => some ((), ρ38)) else (if gi ((6 * x1) + y5) 72 then bq (fX14_worth (zI ρ 1803 ((zR ρ 898 0 0 0).1) 0 (Int32.toNatClampNeg ((6 * x1) + y5))) 1940 0 0 16800 x2 ρ) fun v43 ρ44 => if gi (1 + y5) 7 then lt (sJ ρ44 1957 0 0 (Int32.toNatClampNeg (1 + y5)) v43) fun ρ48 => fX14_passOn_84 x1 x2  n (y5 + 1) ρ48 else none else none) else none
noncomputable def fX14_passOn (x1 : Int32) (x2 : Int32) (ρ : Zs) : Option (Unit × Zs) :=
  if gi x1 12 then bq (fX14_load 1940 0 0 16800 x2 ρ) fun v3 ρ4 => if gi x1 12 then if (zI ρ4 1794 ((zR ρ4 898 0 0 0).1) 0 (Int32.toNatClampNeg x1)) = 1 then (if gi x1 12 then bq (fX14_worth (zI ρ4 1799 ((zR ρ4 898 0 0 0).1) 0 (Int32.toNatClampNeg x1)) 1940 0 0 16800 x2 ρ4) fun v52 ρ53 => if ((lg_cmp v52 0) : Int32) = 0 then (some ((), ρ53)) else (bq (fX14_offer x1 ρ53) fun v56 ρ57 => some ((), ρ57)) else none) else (if (zI ρ4 1794 ((zR ρ4 898 0 0 0).1) 0 (Int32.toNatClampNeg x1)) = 2 then (if gi (zI ρ 1797 ((zR ρ 898 0 0 0).1) 0 (Int32.toNatClampNeg x1)) 12 then fX14_passOn_84 x1 x2  FU (zI ρ4 1795 ((zR ρ4 898 0 0 0).1) 0 (Int32.toNatClampNeg (zI ρ 1797 ((zR ρ 898 0 0 0).1) 0 (Int32.toNatClampNeg x1)))) ρ4 else none) else (if (zI ρ4 1794 ((zR ρ4 898 0 0 0).1) 0 (Int32.toNatClampNeg x1)) = 3 then (fX14_passOn_154 x1 x2  FU 0 ρ4) else (if (zI ρ4 1794 ((zR ρ4 898 0 0 0).1) 0 (Int32.toNatClampNeg x1)) = 4 then (bq (fX14_offer x1 ρ4) fun v17 ρ18 => some ((), ρ18)) else (if (zI ρ4 1794 ((zR ρ4 898 0 0 0).1) 0 (Int32.toNatClampNeg x1)) = 6 then (bq (fX14_firstOnly x1 x2 ρ4) fun v13 ρ14 => some ((), ρ14)) else (bq (fX14_windowRow x1 x2 ρ4) fun v9 ρ10 => some ((), ρ10)))))) else none else none

noncomputable def fX14_pair_123 (x1 : Int32) (x2 : Int32) (x3 : Int32)  : Nat → Int32 → Int32 → Zs → Option (Unit × Zs)
  | 0, _, _, _ => none
  | n + 1, y4, y5, ρ =>
    if gi x1 12 then if gi (zI ρ 1798 ((zR ρ 898 0 0 0).1) 0 (Int32.toNatClampNeg x1)) 12 then if (zI ρ 1795 ((zR ρ 898 0 0 0).1) 0 (Int32.toNatClampNeg (zI ρ 1798 ((zR ρ 898 0 0 0).1) 0 (Int32.toNatClampNeg x1)))) ≤ y5 then (bq (fX14_offer x1 ρ) fun v28 ρ29 => some ((), ρ29)) else (if gi x1 12 then if y5 = (zI ρ 1802 ((zR ρ 898 0 0 0).1) 0 (Int32.toNatClampNeg x1)) then (fX14_pair_123 x1 x2 x3  n y4 (y5 + 1) ρ) else (if gi ((x3 + 1) + y5) 16800 then if gi (1 + y4) 7 then lt (sJ ρ 1957 0 0 (Int32.toNatClampNeg (1 + y4)) (zJ ρ 1940 0 0 (Int32.toNatClampNeg ((x3 + 1) + y5)))) fun ρ36 => fX14_pair_123 x1 x2 x3  n (y4 + 1) (y5 + 1) ρ36 else none else none) else none) else none else none
noncomputable def fX14_pair (x1 : Int32) (x2 : Int32) (x3 : Int32) (ρ : Zs) : Option (Unit × Zs) :=
  if gi x1 12 then if gi ((x2 + 1) + (zI ρ 1801 ((zR ρ 898 0 0 0).1) 0 (Int32.toNatClampNeg x1))) 16800 then if gi x1 12 then if gi ((x3 + 1) + (zI ρ 1802 ((zR ρ 898 0 0 0).1) 0 (Int32.toNatClampNeg x1))) 16800 then if ((lg_cmp (zJ ρ 1940 0 0 (Int32.toNatClampNeg ((x2 + 1) + (zI ρ 1801 ((zR ρ 898 0 0 0).1) 0 (Int32.toNatClampNeg x1))))) (zJ ρ 1940 0 0 (Int32.toNatClampNeg ((x3 + 1) + (zI ρ 1802 ((zR ρ 898 0 0 0).1) 0 (Int32.toNatClampNeg x1)))))) : Int32) = 0 then (if gi x2 16800 then if gi x3 16800 then if gi x1 12 then if ((lg_cmp (p_labs ((zJ ρ 1940 0 0 (Int32.toNatClampNeg x2)) - (zJ ρ 1940 0 0 (Int32.toNatClampNeg x3)))) (((zI ρ 1799 ((zR ρ 898 0 0 0).1) 0 (Int32.toNatClampNeg x1)) : Int32).toInt64)) : Int32) ≤ 0 then (bq (fX14_load 1940 0 0 16800 x2 ρ) fun v11 ρ12 => if gi x2 16800 then if gi x3 16800 then if gi 0 7 then lt (sJ ρ12 1957 0 0 (Int32.toNatClampNeg 0) (p_lmax (zJ ρ12 1940 0 0 (Int32.toNatClampNeg x2)) (zJ ρ12 1940 0 0 (Int32.toNatClampNeg x3)))) fun ρ18 => if gi x1 12 then if gi (zI ρ18 1797 ((zR ρ18 898 0 0 0).1) 0 (Int32.toNatClampNeg x1)) 12 then fX14_pair_123 x1 x2 x3  FU (zI ρ18 1795 ((zR ρ18 898 0 0 0).1) 0 (Int32.toNatClampNeg (zI ρ18 1797 ((zR ρ18 898 0 0 0).1) 0 (Int32.toNatClampNeg x1)))) 0 ρ18 else none else none else none else none else none) else (some ((), ρ)) else none else none else none) else (some ((), ρ)) else none else none else none else none

noncomputable def fX14_doJoin_107 (x1 : Int32) (k89 : Int32 → Int32 → Zs → Option (Unit × Zs)) : Nat → Int32 → Int32 → Int32 → Zs → Option (Unit × Zs)
  | 0, _, _, _, _ => none
  | n + 1, y2, y3, y4, ρ =>
    if gi y2 12 then if (zI ρ 1941 0 0 (Int32.toNatClampNeg y2)) ≤ y4 then (if gi x1 12 then if gi x1 12 then lt (sI ρ 1944 0 0 (Int32.toNatClampNeg x1) ((zI ρ 1944 0 0 (Int32.toNatClampNeg x1)) + 1)) fun ρ12 => k89 y2 y3 ρ12 else none else none) else (bq (fX14_rowAt y2 y4 ρ) fun v14 ρ15 => if gi x1 12 then bq (fX14_rowAt y3 (zI ρ15 1944 0 0 (Int32.toNatClampNeg x1)) ρ15) fun v19 ρ20 => bq (fX14_pair x1 v14 v19 ρ20) fun v23 ρ24 => fX14_doJoin_107 x1 k89 n y2 y3 (y4 + 1) ρ24 else none) else none
noncomputable def fX14_doJoin_89 (x1 : Int32)  : Nat → Int32 → Int32 → Zs → Option (Unit × Zs)
  | 0, _, _, _ => none
  | n + 1, y2, y3, ρ =>
    if gi x1 12 then if gi y3 12 then if (zI ρ 1941 0 0 (Int32.toNatClampNeg y3)) ≤ (zI ρ 1944 0 0 (Int32.toNatClampNeg x1)) then (some ((), ρ)) else (fX14_doJoin_107 x1 (fun by2 by3 ρb => fX14_doJoin_89 x1  n by2 by3 ρb) FU y2 y3 0 ρ) else none else none
noncomputable def fX14_doJoin_38 (x1 : Int32) (k20 : Int32 → Int32 → Zs → Option (Unit × Zs)) : Nat → Int32 → Int32 → Int32 → Zs → Option (Unit × Zs)
  | 0, _, _, _, _ => none
  | n + 1, y2, y3, y4, ρ =>
    if gi x1 12 then if (zI ρ 1944 0 0 (Int32.toNatClampNeg x1)) ≤ y4 then (if gi x1 12 then if gi x1 12 then lt (sI ρ 1943 0 0 (Int32.toNatClampNeg x1) ((zI ρ 1943 0 0 (Int32.toNatClampNeg x1)) + 1)) fun ρ30 => k20 y2 y3 ρ30 else none else none) else (if gi x1 12 then bq (fX14_rowAt y2 (zI ρ 1943 0 0 (Int32.toNatClampNeg x1)) ρ) fun v33 ρ34 => bq (fX14_rowAt y3 y4 ρ34) fun v37 ρ38 => bq (fX14_pair x1 v33 v37 ρ38) fun v41 ρ42 => fX14_doJoin_38 x1 k20 n y2 y3 (y4 + 1) ρ42 else none) else none
noncomputable def fX14_doJoin_20 (x1 : Int32)  : Nat → Int32 → Int32 → Zs → Option (Unit × Zs)
  | 0, _, _, _ => none
  | n + 1, y2, y3, ρ =>
    if gi x1 12 then if gi y2 12 then if (zI ρ 1941 0 0 (Int32.toNatClampNeg y2)) ≤ (zI ρ 1943 0 0 (Int32.toNatClampNeg x1)) then (fX14_doJoin_89 x1  FU y2 y3 ρ) else (fX14_doJoin_38 x1 (fun by2 by3 ρb => fX14_doJoin_20 x1  n by2 by3 ρb) FU y2 y3 0 ρ) else none else none
noncomputable def fX14_doJoin (x1 : Int32) (ρ : Zs) : Option (Unit × Zs) :=
  if gi x1 12 then if gi x1 12 then fX14_doJoin_20 x1  FU (zI ρ 1797 ((zR ρ 898 0 0 0).1) 0 (Int32.toNatClampNeg x1)) (zI ρ 1798 ((zR ρ 898 0 0 0).1) 0 (Int32.toNatClampNeg x1)) ρ else none else none

noncomputable def fX14_doStep_166 (x1 : Int32)  (z0 : Int32) (z1 : Int32) (ρ : Zs) : Option (Unit × Zs) :=
  if gi z1 12 then lt (sI ρ 1942 0 0 (Int32.toNatClampNeg z1) z0) fun ρ12 => if gi x1 12 then if (zI ρ12 1794 ((zR ρ12 898 0 0 0).1) 0 (Int32.toNatClampNeg x1)) = 7 then (bq (fX14_closeWindows x1 ρ12) fun v16 ρ17 => some ((), ρ17)) else (some ((), ρ12)) else none else none
noncomputable def fX14_doStep_132 (x1 : Int32)  (y2 : Int32) (y3 : Int32) (ρ : Zs) : Option (Unit × Zs) :=
  if y3 = (-1) then (if gi y2 12 then fX14_doStep_166 x1  (zI ρ 1942 0 0 (Int32.toNatClampNeg y2)) x1 ρ else none) else (if gi y2 12 then if gi y3 12 then fX14_doStep_166 x1  (p_min (zI ρ 1942 0 0 (Int32.toNatClampNeg y2)) (zI ρ 1942 0 0 (Int32.toNatClampNeg y3))) x1 ρ else none else none)
noncomputable def fX14_doStep_84 (x1 : Int32)  : Nat → Int32 → Int32 → Zs → Option (Unit × Zs)
  | 0, _, _, _ => none
  | n + 1, y2, y3, ρ =>
    if y3 = (-1) then (fX14_doStep_132 x1  y2 y3 ρ) else (if gi x1 12 then if gi y3 12 then if (zI ρ 1941 0 0 (Int32.toNatClampNeg y3)) ≤ (zI ρ 1944 0 0 (Int32.toNatClampNeg x1)) then (fX14_doStep_132 x1  y2 y3 ρ) else (if gi x1 12 then bq (fX14_rowAt y3 (zI ρ 1944 0 0 (Int32.toNatClampNeg x1)) ρ) fun v24 ρ25 => bq (fX14_passOn x1 v24 ρ25) fun v28 ρ29 => if gi x1 12 then if gi x1 12 then lt (sI ρ29 1944 0 0 (Int32.toNatClampNeg x1) ((zI ρ29 1944 0 0 (Int32.toNatClampNeg x1)) + 1)) fun ρ34 => fX14_doStep_84 x1  n y2 y3 ρ34 else none else none else none) else none else none)
noncomputable def fX14_doStep_41 (x1 : Int32)  : Nat → Int32 → Int32 → Zs → Option (Unit × Zs)
  | 0, _, _, _ => none
  | n + 1, y2, y3, ρ =>
    if gi x1 12 then if gi y2 12 then if (zI ρ 1941 0 0 (Int32.toNatClampNeg y2)) ≤ (zI ρ 1943 0 0 (Int32.toNatClampNeg x1)) then (fX14_doStep_84 x1  FU y2 y3 ρ) else (if gi x1 12 then bq (fX14_rowAt y2 (zI ρ 1943 0 0 (Int32.toNatClampNeg x1)) ρ) fun v37 ρ38 => bq (fX14_passOn x1 v37 ρ38) fun v41 ρ42 => if gi x1 12 then if gi x1 12 then lt (sI ρ42 1943 0 0 (Int32.toNatClampNeg x1) ((zI ρ42 1943 0 0 (Int32.toNatClampNeg x1)) + 1)) fun ρ47 => fX14_doStep_41 x1  n y2 y3 ρ47 else none else none else none) else none else none
noncomputable def fX14_doStep (x1 : Int32) (ρ : Zs) : Option (Unit × Zs) :=
  if gi x1 12 then if gi x1 12 then if gi x1 12 then if (zI ρ 1794 ((zR ρ 898 0 0 0).1) 0 (Int32.toNatClampNeg x1)) = 5 then (bq (fX14_doJoin x1 ρ) fun v49 ρ50 => fX14_doStep_132 x1  (zI ρ 1797 ((zR ρ 898 0 0 0).1) 0 (Int32.toNatClampNeg x1)) (zI ρ 1798 ((zR ρ 898 0 0 0).1) 0 (Int32.toNatClampNeg x1)) ρ50) else (fX14_doStep_41 x1  FU (zI ρ 1797 ((zR ρ 898 0 0 0).1) 0 (Int32.toNatClampNeg x1)) (zI ρ 1798 ((zR ρ 898 0 0 0).1) 0 (Int32.toNatClampNeg x1)) ρ) else none else none else none

noncomputable def fX14_doSteps_2   : Nat → Int32 → Zs → Option (Unit × Zs)
  | 0, _, _ => none
  | n + 1, y1, ρ =>
    if (zI ρ 768 ((zR ρ 898 0 0 0).1) 0 0) ≤ y1 then (some ((), ρ)) else (if gi y1 12 then if (zI ρ 1794 ((zR ρ 898 0 0 0).1) 0 (Int32.toNatClampNeg y1)) = 0 then (fX14_doSteps_2   n (y1 + 1) ρ) else (bq (fX14_doStep y1 ρ) fun v4 ρ5 => fX14_doSteps_2   n (y1 + 1) ρ5) else none)
noncomputable def fX14_doSteps  (ρ : Zs) : Option (Unit × Zs) :=
  fX14_doSteps_2   FU 0 ρ

noncomputable def fX14_doPush_11 (x1 : Int32) (x2 : Int32) (x4 : Int32)  : Nat → Int32 → Zs → Option (Int32 × Zs)
  | 0, _, _ => none
  | n + 1, y5, ρ =>
    if 6 ≤ y5 then (lt (sI ρ 930 0 0 0 0) fun ρ4 => lt (sI ρ4 931 0 0 0 ((zI ρ4 931 0 0 0) + 1)) fun ρ6 => if gi x1 12 then if gi x1 12 then if gi x1 12 then lt (sI ρ6 1942 0 0 (Int32.toNatClampNeg x1) (p_max (zI ρ6 1942 0 0 (Int32.toNatClampNeg x1)) (p_max (-1) (x2 - (zI ρ6 1799 ((zR ρ6 898 0 0 0).1) 0 (Int32.toNatClampNeg x1)))))) fun ρ12 => bq (fX14_offer x1 ρ12) fun v14 ρ15 => bq (fX14_doSteps  ρ15) fun v18 ρ19 => some ((zI ρ19 930 0 0 0), ρ19) else none else none else none) else (if gi x1 12 then if (zI ρ 1795 ((zR ρ 898 0 0 0).1) 0 (Int32.toNatClampNeg x1)) ≤ y5 then (if gi (1 + y5) 7 then lt (sJ ρ 1957 0 0 (Int32.toNatClampNeg (1 + y5)) 0) fun ρ25 => fX14_doPush_11 x1 x2 x4  n (y5 + 1) ρ25 else none) else (if gi (x4 + y5) 1200 then if gi (1 + y5) 7 then lt (sJ ρ 1957 0 0 (Int32.toNatClampNeg (1 + y5)) (zJ ρ 1969 0 0 (Int32.toNatClampNeg (x4 + y5)))) fun ρ29 => fX14_doPush_11 x1 x2 x4  n (y5 + 1) ρ29 else none else none) else none)
noncomputable def fX14_doPush (x1 : Int32) (x2 : Int32) (x4 : Int32) (ρ : Zs) : Option (Int32 × Zs) :=
  if gi 0 7 then lt (sJ ρ 1957 0 0 (Int32.toNatClampNeg 0) ((x2 : Int32).toInt64)) fun ρ2 => fX14_doPush_11 x1 x2 x4  FU 0 ρ2 else none

noncomputable def fX14_push (x1 : Int32) (x2 : Int32) (ρ : Zs) : Option (Int32 × Zs) :=
  lt (sI ρ 896 0 0 0 0) fun ρ1 => bq (fX14_isStream x1 ρ1) fun v3 ρ4 => if v3 = 0 then (bq (fX14_fail 1 ρ4) fun v56 ρ57 => some (v56, ρ57)) else (if gi x1 12 then if (zI ρ4 1794 ((zR ρ4 898 0 0 0).1) 0 (Int32.toNatClampNeg x1)) = 0 then (bq (fX14_isIn ((x2 : Int32).toInt64) 0 1000000 ρ4) fun v13 ρ14 => if v13 = 0 then (bq (fX14_fail 2 ρ14) fun v17 ρ18 => some (v17, ρ18)) else (if gi x1 12 then if (zI ρ14 948 0 0 0) = (zI ρ14 1795 ((zR ρ14 898 0 0 0).1) 0 (Int32.toNatClampNeg x1)) then (if (zI ρ14 929 0 0 0) = 0 then (if (zI ρ14 940 0 0 0) = 200 then (bq (fX14_fail 3 ρ14) fun v48 ρ49 => some (v48, ρ49)) else (if gi x1 12 then if gi (zI ρ14 940 0 0 0) 200 then lt (sJ ρ14 1968 0 0 (Int32.toNatClampNeg (zI ρ14 940 0 0 0)) (zJ ρ14 1793 ((zR ρ14 898 0 0 0).1) 0 (Int32.toNatClampNeg x1))) fun ρ30 => if gi (zI ρ30 940 0 0 0) 200 then lt (sI ρ30 1967 0 0 (Int32.toNatClampNeg (zI ρ30 940 0 0 0)) (zI ρ30 948 0 0 0)) fun ρ33 => if gcp 0 (6 * (zI ρ33 940 0 0 0)) 6 6 1200 then lt (sC ρ33 1973 0 0 1969 0 0 (Int32.toNatClampNeg 0) (Int32.toNatClampNeg (6 * (zI ρ33 940 0 0 0))) (Int32.toNatClampNeg 6)) fun ρ36 => bq (fX14_write 0 x2 ρ36) fun v38 ρ39 => lt (sI ρ39 948 0 0 0 0) fun ρ42 => bq (fX14_doPush x1 x2 (6 * ((zI ρ42 940 0 0 0) - 1)) ρ42) fun v44 ρ45 => some (v44, ρ45) else none else none else none else none)) else (bq (fX14_fail 3 ρ14) fun v23 ρ24 => some (v23, ρ24))) else (bq (fX14_fail 2 ρ14) fun v52 ρ53 => some (v52, ρ53)) else none)) else (bq (fX14_fail 2 ρ4) fun v9 ρ10 => some (v9, ρ10)) else none)

noncomputable def fX14_takeOut_12 (x1 : Int32)  : Nat → Int32 → Zs → Option (Unit × Zs)
  | 0, _, _ => none
  | n + 1, y2, ρ =>
    if (zI ρ 923 0 0 0) ≤ y2 then (if gcp (7 * (x1 + 1)) (7 * x1) (7 * ((zI ρ 923 0 0 0) - x1)) 420 420 then lt (sC ρ 1950 0 0 1950 0 0 (Int32.toNatClampNeg (7 * (x1 + 1))) (Int32.toNatClampNeg (7 * x1)) (Int32.toNatClampNeg (7 * ((zI ρ 923 0 0 0) - x1)))) fun ρ4 => some ((), ρ4) else none) else (if gi (y2 + 1) 60 then if gi y2 60 then lt (sI ρ 1948 0 0 (Int32.toNatClampNeg y2) (zI ρ 1948 0 0 (Int32.toNatClampNeg (y2 + 1)))) fun ρ8 => if gi (y2 + 1) 60 then if gi y2 60 then lt (sI ρ8 1949 0 0 (Int32.toNatClampNeg y2) (zI ρ8 1949 0 0 (Int32.toNatClampNeg (y2 + 1)))) fun ρ12 => fX14_takeOut_12 x1  n (y2 + 1) ρ12 else none else none else none else none)
noncomputable def fX14_takeOut (x1 : Int32) (ρ : Zs) : Option (Unit × Zs) :=
  lt (sI ρ 923 0 0 0 ((zI ρ 923 0 0 0) - 1)) fun ρ1 => fX14_takeOut_12 x1  FU x1 ρ1

noncomputable def fX14_discard (x1 : Int32) (ρ : Zs) : Option (Int32 × Zs) :=
  lt (sI ρ 896 0 0 0 0) fun ρ1 => bq (fX14_isHeld x1 ρ1) fun v3 ρ4 => if v3 = 0 then (bq (fX14_fail 1 ρ4) fun v20 ρ21 => some (v20, ρ21)) else (if (zI ρ4 940 0 0 0) = 200 then (bq (fX14_fail 2 ρ4) fun v16 ρ17 => some (v16, ρ17)) else (bq (fX14_write 2 x1 ρ4) fun v7 ρ8 => if gi x1 60 then bq (fX14_takeOut x1 ρ8) fun v12 ρ13 => some ((zI ρ8 1949 0 0 (Int32.toNatClampNeg x1)), ρ13) else none))

set_option maxRecDepth 20000 in
set_option maxHeartbeats 4000000 in
theorem s_X14_two {A : Nat → Nat → Nat → Nat} {h : Hp} {σ ρ ρ' : Zs} {v : Int64} {x0 : Int32} {x1 : Int64} {x3 : Int64}  (hz : Rp A h σ ρ) (hr : fX14_two x0 x1 x3 ρ = some (v, ρ')) : ∀ l : Launch, Sp l mX14_two 1 0 0 [.int x0, .long x1, .long x3] h (QJ A v σ ρ') X0 := by
  intro l
  refine Sp.of rfl rfl (lv := [(0, .int x0), (1, .long x1), (3, .long x3)]) (Nat.le_of_ble_eq_true rfl) rfl (fun x hf hrm => ?_)
  rw [fX14_two.eq_1] at hr
  refine w_iload_n 0 dX14_two_0 rfl rfl rfl ?_
  by_cases q1_0 : (x0 : Int32) = 10
  · have hr := bt q1_0 hr
    refine w_tableIn 108 dX14_two_1 (by rw [q1_0]; decide) (by rw [q1_0]; decide) (by rw [q1_0]; rfl) rfl ?_
    refine w_lload_n 1 dX14_two_108 rfl rfl rfl ?_
    refine w_lload_n 2 dX14_two_109 rfl rfl rfl ?_
    refine w_ladd dX14_two_110 rfl ?_
    refine w_lret hf dX14_two_111 rfl (Nat.le_of_ble_eq_true rfl) (Nat.le_of_ble_eq_true rfl) ?_
    obtain ⟨rfl, rfl⟩ := ret_inj hr
    exact ⟨rfl, hz⟩
  have hr := bf q1_0 hr
  by_cases q1_1 : (x0 : Int32) = 11
  · have hr := bt q1_1 hr
    refine w_tableIn 112 dX14_two_1 (by rw [q1_1]; decide) (by rw [q1_1]; decide) (by rw [q1_1]; rfl) rfl ?_
    refine w_lload_n 1 dX14_two_112 rfl rfl rfl ?_
    refine w_lload_n 2 dX14_two_113 rfl rfl rfl ?_
    refine w_lsub dX14_two_114 rfl ?_
    refine w_lret hf dX14_two_115 rfl (Nat.le_of_ble_eq_true rfl) (Nat.le_of_ble_eq_true rfl) ?_
    obtain ⟨rfl, rfl⟩ := ret_inj hr
    exact ⟨rfl, hz⟩
  have hr := bf q1_1 hr
  by_cases q1_2 : (x0 : Int32) = 12
  · have hr := bt q1_2 hr
    refine w_tableIn 116 dX14_two_1 (by rw [q1_2]; decide) (by rw [q1_2]; decide) (by rw [q1_2]; rfl) rfl ?_
    refine w_lload_n 1 dX14_two_116 rfl rfl rfl ?_
    refine w_lload_n 2 dX14_two_117 rfl rfl rfl ?_
    refine w_lmul dX14_two_118 rfl ?_
    refine w_lret hf dX14_two_119 rfl (Nat.le_of_ble_eq_true rfl) (Nat.le_of_ble_eq_true rfl) ?_
    obtain ⟨rfl, rfl⟩ := ret_inj hr
    exact ⟨rfl, hz⟩
  have hr := bf q1_2 hr
  by_cases q1_3 : (x0 : Int32) = 13
  · have hr := bt q1_3 hr
    refine w_tableIn 120 dX14_two_1 (by rw [q1_3]; decide) (by rw [q1_3]; decide) (by rw [q1_3]; rfl) rfl ?_
    refine w_lload_n 2 dX14_two_120 rfl rfl rfl ?_
    refine w_lconst 0 dX14_two_121 rfl rfl ?_
    refine w_lcmp dX14_two_122 rfl ?_
    refine w_if_ne 130 dX14_two_123 rfl rfl (fun q123 => ?_) (fun q123 => ?_)
    · have hr := bf q123 hr
      refine w_lload_n 1 dX14_two_130 rfl rfl rfl ?_
      refine w_lload_n 2 dX14_two_131 rfl rfl rfl ?_
      obtain ⟨g1, hr⟩ := gd hr
      refine w_ldiv dX14_two_132 rfl g1 ?_
      refine w_lret hf dX14_two_133 rfl (Nat.le_of_ble_eq_true rfl) (Nat.le_of_ble_eq_true rfl) ?_
      obtain ⟨rfl, rfl⟩ := ret_inj hr
      exact ⟨rfl, hz⟩
    · have hr := bt q123 hr
      refine w_lconst 0 dX14_two_126 rfl rfl ?_
      refine w_goto 133 dX14_two_127 rfl ?_
      refine w_lret hf dX14_two_133 rfl (Nat.le_of_ble_eq_true rfl) (Nat.le_of_ble_eq_true rfl) ?_
      obtain ⟨rfl, rfl⟩ := ret_inj hr
      exact ⟨rfl, hz⟩
  have hr := bf q1_3 hr
  by_cases q1_4 : (x0 : Int32) = 14
  · have hr := bt q1_4 hr
    refine w_tableIn 134 dX14_two_1 (by rw [q1_4]; decide) (by rw [q1_4]; decide) (by rw [q1_4]; rfl) rfl ?_
    refine w_lload_n 2 dX14_two_134 rfl rfl rfl ?_
    refine w_lconst 0 dX14_two_135 rfl rfl ?_
    refine w_lcmp dX14_two_136 rfl ?_
    refine w_if_ne 144 dX14_two_137 rfl rfl (fun q137 => ?_) (fun q137 => ?_)
    · have hr := bf q137 hr
      refine w_lload_n 1 dX14_two_144 rfl rfl rfl ?_
      refine w_lload_n 2 dX14_two_145 rfl rfl rfl ?_
      obtain ⟨g2, hr⟩ := gd hr
      refine w_lrem dX14_two_146 rfl g2 ?_
      refine w_lret hf dX14_two_147 rfl (Nat.le_of_ble_eq_true rfl) (Nat.le_of_ble_eq_true rfl) ?_
      obtain ⟨rfl, rfl⟩ := ret_inj hr
      exact ⟨rfl, hz⟩
    · have hr := bt q137 hr
      refine w_lconst 0 dX14_two_140 rfl rfl ?_
      refine w_goto 147 dX14_two_141 rfl ?_
      refine w_lret hf dX14_two_147 rfl (Nat.le_of_ble_eq_true rfl) (Nat.le_of_ble_eq_true rfl) ?_
      obtain ⟨rfl, rfl⟩ := ret_inj hr
      exact ⟨rfl, hz⟩
  have hr := bf q1_4 hr
  by_cases q1_5 : (x0 : Int32) = 15
  · have hr := bt q1_5 hr
    refine w_tableIn 262 dX14_two_1 (by rw [q1_5]; decide) (by rw [q1_5]; decide) (by rw [q1_5]; rfl) rfl ?_
    refine w_lload_n 1 dX14_two_262 rfl rfl rfl ?_
    refine w_lload_n 2 dX14_two_263 rfl rfl rfl ?_
    refine w_mlmax hrm (by decide) dX14_two_264 rfl ml_X14_466 (Nat.le_of_ble_eq_true rfl) (Nat.le_of_ble_eq_true rfl) (Nat.le_of_ble_eq_true rfl) ?_
    refine w_lret hf dX14_two_267 rfl (Nat.le_of_ble_eq_true rfl) (Nat.le_of_ble_eq_true rfl) ?_
    obtain ⟨rfl, rfl⟩ := ret_inj hr
    exact ⟨rfl, hz⟩
  have hr := bf q1_5 hr
  by_cases q1_6 : (x0 : Int32) = 16
  · have hr := bt q1_6 hr
    refine w_tableIn 262 dX14_two_1 (by rw [q1_6]; decide) (by rw [q1_6]; decide) (by rw [q1_6]; rfl) rfl ?_
    refine w_lload_n 1 dX14_two_262 rfl rfl rfl ?_
    refine w_lload_n 2 dX14_two_263 rfl rfl rfl ?_
    refine w_mlmax hrm (by decide) dX14_two_264 rfl ml_X14_466 (Nat.le_of_ble_eq_true rfl) (Nat.le_of_ble_eq_true rfl) (Nat.le_of_ble_eq_true rfl) ?_
    refine w_lret hf dX14_two_267 rfl (Nat.le_of_ble_eq_true rfl) (Nat.le_of_ble_eq_true rfl) ?_
    obtain ⟨rfl, rfl⟩ := ret_inj hr
    exact ⟨rfl, hz⟩
  have hr := bf q1_6 hr
  by_cases q1_7 : (x0 : Int32) = 17
  · have hr := bt q1_7 hr
    refine w_tableIn 262 dX14_two_1 (by rw [q1_7]; decide) (by rw [q1_7]; decide) (by rw [q1_7]; rfl) rfl ?_
    refine w_lload_n 1 dX14_two_262 rfl rfl rfl ?_
    refine w_lload_n 2 dX14_two_263 rfl rfl rfl ?_
    refine w_mlmax hrm (by decide) dX14_two_264 rfl ml_X14_466 (Nat.le_of_ble_eq_true rfl) (Nat.le_of_ble_eq_true rfl) (Nat.le_of_ble_eq_true rfl) ?_
    refine w_lret hf dX14_two_267 rfl (Nat.le_of_ble_eq_true rfl) (Nat.le_of_ble_eq_true rfl) ?_
    obtain ⟨rfl, rfl⟩ := ret_inj hr
    exact ⟨rfl, hz⟩
  have hr := bf q1_7 hr
  by_cases q1_8 : (x0 : Int32) = 18
  · have hr := bt q1_8 hr
    refine w_tableIn 262 dX14_two_1 (by rw [q1_8]; decide) (by rw [q1_8]; decide) (by rw [q1_8]; rfl) rfl ?_
    refine w_lload_n 1 dX14_two_262 rfl rfl rfl ?_
    refine w_lload_n 2 dX14_two_263 rfl rfl rfl ?_
    refine w_mlmax hrm (by decide) dX14_two_264 rfl ml_X14_466 (Nat.le_of_ble_eq_true rfl) (Nat.le_of_ble_eq_true rfl) (Nat.le_of_ble_eq_true rfl) ?_
    refine w_lret hf dX14_two_267 rfl (Nat.le_of_ble_eq_true rfl) (Nat.le_of_ble_eq_true rfl) ?_
    obtain ⟨rfl, rfl⟩ := ret_inj hr
    exact ⟨rfl, hz⟩
  have hr := bf q1_8 hr
  by_cases q1_9 : (x0 : Int32) = 19
  · have hr := bt q1_9 hr
    refine w_tableIn 262 dX14_two_1 (by rw [q1_9]; decide) (by rw [q1_9]; decide) (by rw [q1_9]; rfl) rfl ?_
    refine w_lload_n 1 dX14_two_262 rfl rfl rfl ?_
    refine w_lload_n 2 dX14_two_263 rfl rfl rfl ?_
    refine w_mlmax hrm (by decide) dX14_two_264 rfl ml_X14_466 (Nat.le_of_ble_eq_true rfl) (Nat.le_of_ble_eq_true rfl) (Nat.le_of_ble_eq_true rfl) ?_
    refine w_lret hf dX14_two_267 rfl (Nat.le_of_ble_eq_true rfl) (Nat.le_of_ble_eq_true rfl) ?_
    obtain ⟨rfl, rfl⟩ := ret_inj hr
    exact ⟨rfl, hz⟩
  have hr := bf q1_9 hr
  by_cases q1_10 : (x0 : Int32) = 20
  · have hr := bt q1_10 hr
    refine w_tableIn 148 dX14_two_1 (by rw [q1_10]; decide) (by rw [q1_10]; decide) (by rw [q1_10]; rfl) rfl ?_
    refine w_lload_n 1 dX14_two_148 rfl rfl rfl ?_
    refine w_lload_n 2 dX14_two_149 rfl rfl rfl ?_
    refine w_lcmp dX14_two_150 rfl ?_
    refine w_if_ne 158 dX14_two_151 rfl rfl (fun q151 => ?_) (fun q151 => ?_)
    · have hr := bf q151 hr
      refine w_lconst 0 dX14_two_158 rfl rfl ?_
      refine w_lret hf dX14_two_159 rfl (Nat.le_of_ble_eq_true rfl) (Nat.le_of_ble_eq_true rfl) ?_
      obtain ⟨rfl, rfl⟩ := ret_inj hr
      exact ⟨rfl, hz⟩
    · have hr := bt q151 hr
      refine w_lconst 1 dX14_two_154 rfl rfl ?_
      refine w_goto 159 dX14_two_155 rfl ?_
      refine w_lret hf dX14_two_159 rfl (Nat.le_of_ble_eq_true rfl) (Nat.le_of_ble_eq_true rfl) ?_
      obtain ⟨rfl, rfl⟩ := ret_inj hr
      exact ⟨rfl, hz⟩
  have hr := bf q1_10 hr
  by_cases q1_11 : (x0 : Int32) = 21
  · have hr := bt q1_11 hr
    refine w_tableIn 160 dX14_two_1 (by rw [q1_11]; decide) (by rw [q1_11]; decide) (by rw [q1_11]; rfl) rfl ?_
    refine w_lload_n 1 dX14_two_160 rfl rfl rfl ?_
    refine w_lload_n 2 dX14_two_161 rfl rfl rfl ?_
    refine w_lcmp dX14_two_162 rfl ?_
    refine w_if_eq 170 dX14_two_163 rfl rfl (fun q163 => ?_) (fun q163 => ?_)
    · have hr := bt q163 hr
      refine w_lconst 0 dX14_two_170 rfl rfl ?_
      refine w_lret hf dX14_two_171 rfl (Nat.le_of_ble_eq_true rfl) (Nat.le_of_ble_eq_true rfl) ?_
      obtain ⟨rfl, rfl⟩ := ret_inj hr
      exact ⟨rfl, hz⟩
    · have hr := bf q163 hr
      refine w_lconst 1 dX14_two_166 rfl rfl ?_
      refine w_goto 171 dX14_two_167 rfl ?_
      refine w_lret hf dX14_two_171 rfl (Nat.le_of_ble_eq_true rfl) (Nat.le_of_ble_eq_true rfl) ?_
      obtain ⟨rfl, rfl⟩ := ret_inj hr
      exact ⟨rfl, hz⟩
  have hr := bf q1_11 hr
  by_cases q1_12 : (x0 : Int32) = 22
  · have hr := bt q1_12 hr
    refine w_tableIn 172 dX14_two_1 (by rw [q1_12]; decide) (by rw [q1_12]; decide) (by rw [q1_12]; rfl) rfl ?_
    refine w_lload_n 1 dX14_two_172 rfl rfl rfl ?_
    refine w_lload_n 2 dX14_two_173 rfl rfl rfl ?_
    refine w_lcmp dX14_two_174 rfl ?_
    refine w_if_ge 182 dX14_two_175 rfl rfl (fun q175 => ?_) (fun q175 => ?_)
    · have hr := bt q175 hr
      refine w_lconst 0 dX14_two_182 rfl rfl ?_
      refine w_lret hf dX14_two_183 rfl (Nat.le_of_ble_eq_true rfl) (Nat.le_of_ble_eq_true rfl) ?_
      obtain ⟨rfl, rfl⟩ := ret_inj hr
      exact ⟨rfl, hz⟩
    · have hr := bf q175 hr
      refine w_lconst 1 dX14_two_178 rfl rfl ?_
      refine w_goto 183 dX14_two_179 rfl ?_
      refine w_lret hf dX14_two_183 rfl (Nat.le_of_ble_eq_true rfl) (Nat.le_of_ble_eq_true rfl) ?_
      obtain ⟨rfl, rfl⟩ := ret_inj hr
      exact ⟨rfl, hz⟩
  have hr := bf q1_12 hr
  by_cases q1_13 : (x0 : Int32) = 23
  · have hr := bt q1_13 hr
    refine w_tableIn 184 dX14_two_1 (by rw [q1_13]; decide) (by rw [q1_13]; decide) (by rw [q1_13]; rfl) rfl ?_
    refine w_lload_n 1 dX14_two_184 rfl rfl rfl ?_
    refine w_lload_n 2 dX14_two_185 rfl rfl rfl ?_
    refine w_lcmp dX14_two_186 rfl ?_
    refine w_if_le 194 dX14_two_187 rfl rfl (fun q187 => ?_) (fun q187 => ?_)
    · have hr := bt q187 hr
      refine w_lconst 0 dX14_two_194 rfl rfl ?_
      refine w_lret hf dX14_two_195 rfl (Nat.le_of_ble_eq_true rfl) (Nat.le_of_ble_eq_true rfl) ?_
      obtain ⟨rfl, rfl⟩ := ret_inj hr
      exact ⟨rfl, hz⟩
    · have hr := bf q187 hr
      refine w_lconst 1 dX14_two_190 rfl rfl ?_
      refine w_goto 195 dX14_two_191 rfl ?_
      refine w_lret hf dX14_two_195 rfl (Nat.le_of_ble_eq_true rfl) (Nat.le_of_ble_eq_true rfl) ?_
      obtain ⟨rfl, rfl⟩ := ret_inj hr
      exact ⟨rfl, hz⟩
  have hr := bf q1_13 hr
  by_cases q1_14 : (x0 : Int32) = 24
  · have hr := bt q1_14 hr
    refine w_tableIn 196 dX14_two_1 (by rw [q1_14]; decide) (by rw [q1_14]; decide) (by rw [q1_14]; rfl) rfl ?_
    refine w_lload_n 1 dX14_two_196 rfl rfl rfl ?_
    refine w_lload_n 2 dX14_two_197 rfl rfl rfl ?_
    refine w_lcmp dX14_two_198 rfl ?_
    refine w_if_gt 206 dX14_two_199 rfl rfl (fun q199 => ?_) (fun q199 => ?_)
    · have hr := bt q199 hr
      refine w_lconst 0 dX14_two_206 rfl rfl ?_
      refine w_lret hf dX14_two_207 rfl (Nat.le_of_ble_eq_true rfl) (Nat.le_of_ble_eq_true rfl) ?_
      obtain ⟨rfl, rfl⟩ := ret_inj hr
      exact ⟨rfl, hz⟩
    · have hr := bf q199 hr
      refine w_lconst 1 dX14_two_202 rfl rfl ?_
      refine w_goto 207 dX14_two_203 rfl ?_
      refine w_lret hf dX14_two_207 rfl (Nat.le_of_ble_eq_true rfl) (Nat.le_of_ble_eq_true rfl) ?_
      obtain ⟨rfl, rfl⟩ := ret_inj hr
      exact ⟨rfl, hz⟩
  have hr := bf q1_14 hr
  by_cases q1_15 : (x0 : Int32) = 25
  · have hr := bt q1_15 hr
    refine w_tableIn 208 dX14_two_1 (by rw [q1_15]; decide) (by rw [q1_15]; decide) (by rw [q1_15]; rfl) rfl ?_
    refine w_lload_n 1 dX14_two_208 rfl rfl rfl ?_
    refine w_lload_n 2 dX14_two_209 rfl rfl rfl ?_
    refine w_lcmp dX14_two_210 rfl ?_
    refine w_if_lt 218 dX14_two_211 rfl rfl (fun q211 => ?_) (fun q211 => ?_)
    · have hr := bt q211 hr
      refine w_lconst 0 dX14_two_218 rfl rfl ?_
      refine w_lret hf dX14_two_219 rfl (Nat.le_of_ble_eq_true rfl) (Nat.le_of_ble_eq_true rfl) ?_
      obtain ⟨rfl, rfl⟩ := ret_inj hr
      exact ⟨rfl, hz⟩
    · have hr := bf q211 hr
      refine w_lconst 1 dX14_two_214 rfl rfl ?_
      refine w_goto 219 dX14_two_215 rfl ?_
      refine w_lret hf dX14_two_219 rfl (Nat.le_of_ble_eq_true rfl) (Nat.le_of_ble_eq_true rfl) ?_
      obtain ⟨rfl, rfl⟩ := ret_inj hr
      exact ⟨rfl, hz⟩
  have hr := bf q1_15 hr
  by_cases q1_16 : (x0 : Int32) = 26
  · have hr := bt q1_16 hr
    refine w_tableIn 262 dX14_two_1 (by rw [q1_16]; decide) (by rw [q1_16]; decide) (by rw [q1_16]; rfl) rfl ?_
    refine w_lload_n 1 dX14_two_262 rfl rfl rfl ?_
    refine w_lload_n 2 dX14_two_263 rfl rfl rfl ?_
    refine w_mlmax hrm (by decide) dX14_two_264 rfl ml_X14_466 (Nat.le_of_ble_eq_true rfl) (Nat.le_of_ble_eq_true rfl) (Nat.le_of_ble_eq_true rfl) ?_
    refine w_lret hf dX14_two_267 rfl (Nat.le_of_ble_eq_true rfl) (Nat.le_of_ble_eq_true rfl) ?_
    obtain ⟨rfl, rfl⟩ := ret_inj hr
    exact ⟨rfl, hz⟩
  have hr := bf q1_16 hr
  by_cases q1_17 : (x0 : Int32) = 27
  · have hr := bt q1_17 hr
    refine w_tableIn 262 dX14_two_1 (by rw [q1_17]; decide) (by rw [q1_17]; decide) (by rw [q1_17]; rfl) rfl ?_
    refine w_lload_n 1 dX14_two_262 rfl rfl rfl ?_
    refine w_lload_n 2 dX14_two_263 rfl rfl rfl ?_
    refine w_mlmax hrm (by decide) dX14_two_264 rfl ml_X14_466 (Nat.le_of_ble_eq_true rfl) (Nat.le_of_ble_eq_true rfl) (Nat.le_of_ble_eq_true rfl) ?_
    refine w_lret hf dX14_two_267 rfl (Nat.le_of_ble_eq_true rfl) (Nat.le_of_ble_eq_true rfl) ?_
    obtain ⟨rfl, rfl⟩ := ret_inj hr
    exact ⟨rfl, hz⟩
  have hr := bf q1_17 hr
  by_cases q1_18 : (x0 : Int32) = 28
  · have hr := bt q1_18 hr
    refine w_tableIn 262 dX14_two_1 (by rw [q1_18]; decide) (by rw [q1_18]; decide) (by rw [q1_18]; rfl) rfl ?_
    refine w_lload_n 1 dX14_two_262 rfl rfl rfl ?_
    refine w_lload_n 2 dX14_two_263 rfl rfl rfl ?_
    refine w_mlmax hrm (by decide) dX14_two_264 rfl ml_X14_466 (Nat.le_of_ble_eq_true rfl) (Nat.le_of_ble_eq_true rfl) (Nat.le_of_ble_eq_true rfl) ?_
    refine w_lret hf dX14_two_267 rfl (Nat.le_of_ble_eq_true rfl) (Nat.le_of_ble_eq_true rfl) ?_
    obtain ⟨rfl, rfl⟩ := ret_inj hr
    exact ⟨rfl, hz⟩
  have hr := bf q1_18 hr
  by_cases q1_19 : (x0 : Int32) = 29
  · have hr := bt q1_19 hr
    refine w_tableIn 262 dX14_two_1 (by rw [q1_19]; decide) (by rw [q1_19]; decide) (by rw [q1_19]; rfl) rfl ?_
    refine w_lload_n 1 dX14_two_262 rfl rfl rfl ?_
    refine w_lload_n 2 dX14_two_263 rfl rfl rfl ?_
    refine w_mlmax hrm (by decide) dX14_two_264 rfl ml_X14_466 (Nat.le_of_ble_eq_true rfl) (Nat.le_of_ble_eq_true rfl) (Nat.le_of_ble_eq_true rfl) ?_
    refine w_lret hf dX14_two_267 rfl (Nat.le_of_ble_eq_true rfl) (Nat.le_of_ble_eq_true rfl) ?_
    obtain ⟨rfl, rfl⟩ := ret_inj hr
    exact ⟨rfl, hz⟩
  have hr := bf q1_19 hr
  by_cases q1_20 : (x0 : Int32) = 30
  · have hr := bt q1_20 hr
    refine w_tableIn 220 dX14_two_1 (by rw [q1_20]; decide) (by rw [q1_20]; decide) (by rw [q1_20]; rfl) rfl ?_
    refine w_lload_n 1 dX14_two_220 rfl rfl rfl ?_
    refine w_lconst 0 dX14_two_221 rfl rfl ?_
    refine w_lcmp dX14_two_222 rfl ?_
    refine w_if_eq 236 dX14_two_223 rfl rfl (fun q223 => ?_) (fun q223 => ?_)
    · have hr := bt q223 hr
      refine w_lconst 0 dX14_two_236 rfl rfl ?_
      refine w_lret hf dX14_two_237 rfl (Nat.le_of_ble_eq_true rfl) (Nat.le_of_ble_eq_true rfl) ?_
      obtain ⟨rfl, rfl⟩ := ret_inj hr
      exact ⟨rfl, hz⟩
    · have hr := bf q223 hr
      refine w_lload_n 2 dX14_two_226 rfl rfl rfl ?_
      refine w_lconst 0 dX14_two_227 rfl rfl ?_
      refine w_lcmp dX14_two_228 rfl ?_
      refine w_if_eq 236 dX14_two_229 rfl rfl (fun q229 => ?_) (fun q229 => ?_)
      · have hr := bt q229 hr
        refine w_lconst 0 dX14_two_236 rfl rfl ?_
        refine w_lret hf dX14_two_237 rfl (Nat.le_of_ble_eq_true rfl) (Nat.le_of_ble_eq_true rfl) ?_
        obtain ⟨rfl, rfl⟩ := ret_inj hr
        exact ⟨rfl, hz⟩
      · have hr := bf q229 hr
        refine w_lconst 1 dX14_two_232 rfl rfl ?_
        refine w_goto 237 dX14_two_233 rfl ?_
        refine w_lret hf dX14_two_237 rfl (Nat.le_of_ble_eq_true rfl) (Nat.le_of_ble_eq_true rfl) ?_
        obtain ⟨rfl, rfl⟩ := ret_inj hr
        exact ⟨rfl, hz⟩
  have hr := bf q1_20 hr
  by_cases q1_21 : (x0 : Int32) = 31
  · have hr := bt q1_21 hr
    refine w_tableIn 238 dX14_two_1 (by rw [q1_21]; decide) (by rw [q1_21]; decide) (by rw [q1_21]; rfl) rfl ?_
    refine w_lload_n 1 dX14_two_238 rfl rfl rfl ?_
    refine w_lconst 0 dX14_two_239 rfl rfl ?_
    refine w_lcmp dX14_two_240 rfl ?_
    refine w_if_ne 250 dX14_two_241 rfl rfl (fun q241 => ?_) (fun q241 => ?_)
    · have hr := bf q241 hr
      refine w_lconst 1 dX14_two_250 rfl rfl ?_
      refine w_goto 255 dX14_two_251 rfl ?_
      refine w_lret hf dX14_two_255 rfl (Nat.le_of_ble_eq_true rfl) (Nat.le_of_ble_eq_true rfl) ?_
      obtain ⟨rfl, rfl⟩ := ret_inj hr
      exact ⟨rfl, hz⟩
    · have hr := bt q241 hr
      refine w_lload_n 2 dX14_two_244 rfl rfl rfl ?_
      refine w_lconst 0 dX14_two_245 rfl rfl ?_
      refine w_lcmp dX14_two_246 rfl ?_
      refine w_if_eq 254 dX14_two_247 rfl rfl (fun q247 => ?_) (fun q247 => ?_)
      · have hr := bt q247 hr
        refine w_lconst 0 dX14_two_254 rfl rfl ?_
        refine w_lret hf dX14_two_255 rfl (Nat.le_of_ble_eq_true rfl) (Nat.le_of_ble_eq_true rfl) ?_
        obtain ⟨rfl, rfl⟩ := ret_inj hr
        exact ⟨rfl, hz⟩
      · have hr := bf q247 hr
        refine w_lconst 1 dX14_two_250 rfl rfl ?_
        refine w_goto 255 dX14_two_251 rfl ?_
        refine w_lret hf dX14_two_255 rfl (Nat.le_of_ble_eq_true rfl) (Nat.le_of_ble_eq_true rfl) ?_
        obtain ⟨rfl, rfl⟩ := ret_inj hr
        exact ⟨rfl, hz⟩
  have hr := bf q1_21 hr
  by_cases q1_22 : (x0 : Int32) = 32
  · have hr := bt q1_22 hr
    refine w_tableIn 256 dX14_two_1 (by rw [q1_22]; decide) (by rw [q1_22]; decide) (by rw [q1_22]; rfl) rfl ?_
    refine w_lload_n 1 dX14_two_256 rfl rfl rfl ?_
    refine w_lload_n 2 dX14_two_257 rfl rfl rfl ?_
    refine w_mlmin hrm (by decide) dX14_two_258 rfl ml_X14_307 (Nat.le_of_ble_eq_true rfl) (Nat.le_of_ble_eq_true rfl) (Nat.le_of_ble_eq_true rfl) ?_
    refine w_lret hf dX14_two_261 rfl (Nat.le_of_ble_eq_true rfl) (Nat.le_of_ble_eq_true rfl) ?_
    obtain ⟨rfl, rfl⟩ := ret_inj hr
    exact ⟨rfl, hz⟩
  have hr := bf q1_22 hr
  refine w_tableOut 262 dX14_two_1 (tabout 10 32 (fun k h1 h2 => by
        intro e
        have h3 : k = 10 ∨ k = 11 ∨ k = 12 ∨ k = 13 ∨ k = 14 ∨ k = 15 ∨ k = 16 ∨ k = 17 ∨ k = 18 ∨ k = 19 ∨ k = 20 ∨ k = 21 ∨ k = 22 ∨ k = 23 ∨ k = 24 ∨ k = 25 ∨ k = 26 ∨ k = 27 ∨ k = 28 ∨ k = 29 ∨ k = 30 ∨ k = 31 ∨ k = 32 := by omega
        rcases h3 with h3 | h3 | h3 | h3 | h3 | h3 | h3 | h3 | h3 | h3 | h3 | h3 | h3 | h3 | h3 | h3 | h3 | h3 | h3 | h3 | h3 | h3 | h3 <;> subst h3 <;> contradiction)) rfl ?_
  refine w_lload_n 1 dX14_two_262 rfl rfl rfl ?_
  refine w_lload_n 2 dX14_two_263 rfl rfl rfl ?_
  refine w_mlmax hrm (by decide) dX14_two_264 rfl ml_X14_466 (Nat.le_of_ble_eq_true rfl) (Nat.le_of_ble_eq_true rfl) (Nat.le_of_ble_eq_true rfl) ?_
  refine w_lret hf dX14_two_267 rfl (Nat.le_of_ble_eq_true rfl) (Nat.le_of_ble_eq_true rfl) ?_
  obtain ⟨rfl, rfl⟩ := ret_inj hr
  exact ⟨rfl, hz⟩

set_option maxRecDepth 20000 in
set_option maxHeartbeats 4000000 in
theorem w_X14_worth_6 {A : Nat → Nat → Nat → Nat} {σ ρ' : Zs} {v : Int64} {x : Cxt} {x1 : Int32} {c2 : Nat} {p2 : Nat} {s2 : Nat} {n2 : Nat} {x3 : Int32}  (hf : m_fin 0 0 (QJ A v σ ρ') X0 x) (hrm : m_rm 2 0 0 x) (hg2 : aok (A 16 0 0) c2 p2 s2 21 n2 = true) (hr2 : isr c2 = true) : ∀ (n : Nat) (y4 : Int32) (y5 : Int32) (ρ : Zs) (h : Hp), Rp A h σ ρ → fX14_worth_6 x1 c2 p2 s2 n2 x3  n y4 y5 ρ = some (v, ρ') → wp x mX14_worth 6 [(0, .ref (A 14 0 0)), (1, .int x1), (2, .ref (A c2 p2 s2)), (3, .int x3), (4, .int y4), (5, .int y5)] [] h 0 0
  | 0, _, _, ρ, h => fun hz hr => by
    rw [fX14_worth_6.eq_1] at hr
    exact nono hr
  | n + 1, y4, y5, ρ, h => fun hz hr => by
    rw [fX14_worth_6.eq_2] at hr
    refine w_aload_n 0 dX14_worth_6 rfl rfl rfl ?_
    have hv1 := hz.ww898 (p := 0) (s := 0) rfl
    refine g_X14_16 dX14_worth_7 rfl (hz.o14 rfl) (hz.rr898 rfl) ?_
    refine g_X14_235 dX14_worth_10 rfl (hz.o12 hv1) (hz.r786 hv1) ?_
    refine w_iload 5 dX14_worth_13 rfl rfl ?_
    obtain ⟨g2, hr⟩ := gd hr
    refine w_iald dX14_worth_15 rfl (hz.k786 hv1) (gin (hz.n786 hv1) g2) (hz.x786 hv1) ?_
    refine w_bipush 50 dX14_worth_16 rfl rfl ?_
    refine w_icmp_eq 212 dX14_worth_18 rfl rfl (fun q18 => ?_) (fun q18 => ?_)
    · have hr := bt q18 hr
      refine w_aload_n 0 dX14_worth_212 rfl rfl rfl ?_
      refine g_X14_79 dX14_worth_213 rfl (hz.o14 rfl) (hz.r932 rfl) ?_
      refine w_iconst 0 dX14_worth_216 rfl rfl ?_
      obtain ⟨g3, hr⟩ := gd hr
      refine w_lald dX14_worth_217 rfl (hz.k932 rfl) (gin (hz.n932 rfl) g3) (hz.x932 rfl) ?_
      refine w_lret hf dX14_worth_218 rfl (Nat.le_of_ble_eq_true rfl) (Nat.le_of_ble_eq_true rfl) ?_
      obtain ⟨rfl, rfl⟩ := ret_inj hr
      exact ⟨rfl, hz⟩
    · have hr := bf q18 hr
      refine w_aload_n 0 dX14_worth_21 rfl rfl rfl ?_
      have hv4 := hz.ww898 (p := 0) (s := 0) rfl
      refine g_X14_16 dX14_worth_22 rfl (hz.o14 rfl) (hz.rr898 rfl) ?_
      refine g_X14_235 dX14_worth_25 rfl (hz.o12 hv4) (hz.r786 hv4) ?_
      refine w_iload 5 dX14_worth_28 rfl rfl ?_
      obtain ⟨g5, hr⟩ := gd hr
      refine w_iald dX14_worth_30 rfl (hz.k786 hv4) (gin (hz.n786 hv4) g5) (hz.x786 hv4) ?_
      refine w_istore [(6, .int (zI ρ 1810 ((zR ρ 898 0 0 0).1) 0 (Int32.toNatClampNeg y5))), (0, .ref (A 14 0 0)), (1, .int x1), (2, .ref (A c2 p2 s2)), (3, .int x3), (4, .int y4), (5, .int y5)] dX14_worth_31 rfl (by decide) rfl ?_
      refine w_iload 0 dX14_worth_33 rfl rfl ?_
      refine w_iconst 2 dX14_worth_35 rfl rfl ?_
      refine w_icmp_gt 99 dX14_worth_36 rfl rfl (fun q36 => ?_) (fun q36 => ?_)
      · have hr := bt q36 hr
        refine w_iload 0 dX14_worth_99 rfl rfl ?_
        refine w_bipush 40 dX14_worth_101 rfl rfl ?_
        refine w_icmp_lt 173 dX14_worth_103 rfl rfl (fun q103 => ?_) (fun q103 => ?_)
        · have hr := bt q103 hr
          refine w_iinc 5 (y4 + (-1)) [(4, .int (y4 + (-1))), (6, .int (zI ρ 1810 ((zR ρ 898 0 0 0).1) 0 (Int32.toNatClampNeg y5))), (0, .ref (A 14 0 0)), (1, .int x1), (2, .ref (A c2 p2 s2)), (3, .int x3), (5, .int y5)] dX14_worth_173 rfl rfl rfl (by decide) rfl ?_
          refine w_aload_n 2 dX14_worth_176 rfl rfl rfl ?_
          refine g_X14_79 dX14_worth_177 rfl (hz.o14 rfl) (hz.r932 rfl) ?_
          refine w_iload 0 dX14_worth_180 rfl rfl ?_
          refine w_iconst 1 dX14_worth_182 rfl rfl ?_
          refine w_isub dX14_worth_183 rfl ?_
          refine w_iload 1 dX14_worth_184 rfl rfl ?_
          refine w_aload_n 2 dX14_worth_186 rfl rfl rfl ?_
          refine g_X14_79 dX14_worth_187 rfl (hz.o14 rfl) (hz.r932 rfl) ?_
          refine w_iload 0 dX14_worth_190 rfl rfl ?_
          refine w_iconst 1 dX14_worth_192 rfl rfl ?_
          refine w_isub dX14_worth_193 rfl ?_
          obtain ⟨g6, hr⟩ := gd hr
          refine w_lald dX14_worth_194 rfl (hz.k932 rfl) (gin (hz.n932 rfl) g6) (hz.x932 rfl) ?_
          refine w_aload_n 2 dX14_worth_195 rfl rfl rfl ?_
          refine g_X14_79 dX14_worth_196 rfl (hz.o14 rfl) (hz.r932 rfl) ?_
          refine w_iload 0 dX14_worth_199 rfl rfl ?_
          obtain ⟨g7, hr⟩ := gd hr
          refine w_lald dX14_worth_201 rfl (hz.k932 rfl) (gin (hz.n932 rfl) g7) (hz.x932 rfl) ?_
          obtain ⟨v8, ρ9, e10, hr⟩ := bq_some hr
          refine c_X14_462 (b := 0) (As := [.int (zI ρ 1810 ((zR ρ 898 0 0 0).1) 0 (Int32.toNatClampNeg y5)), .long (zJ ρ 1956 0 0 (Int32.toNatClampNeg ((y4 + (-1)) - 1))), .long (zJ ρ 1956 0 0 (Int32.toNatClampNeg (y4 + (-1))))]) (rest := [.int ((y4 + (-1)) - 1), .ref (A 1956 0 0)]) (fun l => s_X14_two  hz e10 l) hrm dX14_worth_202 rfl rfl (Nat.le_of_ble_eq_true rfl) (Nat.le_of_ble_eq_true rfl) (Nat.le_of_ble_eq_true rfl) rfl (Nat.le_of_ble_eq_true rfl) (fun vr h2 hq => ?_) (fun E9 h9 hq => hq.elim)
          obtain ⟨rfl, hz⟩ := hq
          show wp _ _ 205 [(4, .int (y4 + (-1))), (6, .int (zI ρ 1810 ((zR ρ 898 0 0 0).1) 0 (Int32.toNatClampNeg y5))), (0, .ref (A 14 0 0)), (1, .int x1), (2, .ref (A c2 p2 s2)), (3, .int x3), (5, .int y5)] [.long v8, .int ((y4 + (-1)) - 1), .ref (A 1956 0 0)] _ _ _
          obtain ⟨g12, hr⟩ := gd hr
          refine w_last dX14_worth_205 rfl (hz.k932 rfl) (gin (hz.n932 rfl) g12) ?_
          obtain ⟨ρ13, e14, hr⟩ := lt_e hr
          have hz := (hz.s932 (i := (Int32.toNatClampNeg ((y4 + (-1)) - 1))) (v := v8) rfl).tr e14
          refine w_iinc 6 (y5 + 1) [(5, .int (y5 + 1)), (4, .int (y4 + (-1))), (6, .int (zI ρ 1810 ((zR ρ 898 0 0 0).1) 0 (Int32.toNatClampNeg y5))), (0, .ref (A 14 0 0)), (1, .int x1), (2, .ref (A c2 p2 s2)), (3, .int x3)] dX14_worth_206 rfl rfl rfl (by decide) rfl ?_
          refine w_goto 6 dX14_worth_209 rfl ?_
          refine w_lv [(0, .ref (A 14 0 0)), (1, .int x1), (2, .ref (A c2 p2 s2)), (3, .int x3), (4, .int (y4 + (-1))), (5, .int (y5 + 1))] [3, 4, 5, 6, 1, 0] rfl ?_
          exact w_X14_worth_6 hf hrm hg2 hr2  n (y4 + (-1)) (y5 + 1) _ _ hz  hr
        · have hr := bf q103 hr
          refine w_aload_n 1 dX14_worth_106 rfl rfl rfl ?_
          refine g_X14_79 dX14_worth_107 rfl (hz.o14 rfl) (hz.r932 rfl) ?_
          refine w_iload 5 dX14_worth_110 rfl rfl ?_
          refine w_iconst 1 dX14_worth_112 rfl rfl ?_
          refine w_isub dX14_worth_113 rfl ?_
          obtain ⟨g15, hr⟩ := gd hr
          refine w_lald dX14_worth_114 rfl (hz.k932 rfl) (gin (hz.n932 rfl) g15) (hz.x932 rfl) ?_
          refine w_lstore [(7, .long (zJ ρ 1956 0 0 (Int32.toNatClampNeg (y4 - 1)))), (6, .int (zI ρ 1810 ((zR ρ 898 0 0 0).1) 0 (Int32.toNatClampNeg y5))), (0, .ref (A 14 0 0)), (1, .int x1), (2, .ref (A c2 p2 s2)), (3, .int x3), (4, .int y4), (5, .int y5)] dX14_worth_115 rfl (by decide) rfl ?_
          refine w_aload_n 2 dX14_worth_117 rfl rfl rfl ?_
          refine g_X14_79 dX14_worth_118 rfl (hz.o14 rfl) (hz.r932 rfl) ?_
          refine w_iload 6 dX14_worth_121 rfl rfl ?_
          refine w_iconst 1 dX14_worth_123 rfl rfl ?_
          refine w_isub dX14_worth_124 rfl ?_
          refine w_iload 1 dX14_worth_125 rfl rfl ?_
          refine w_bipush 40 dX14_worth_127 rfl rfl ?_
          refine w_icmp_ne 147 dX14_worth_129 rfl rfl (fun q129 => ?_) (fun q129 => ?_)
          · have hr := bf q129 hr
            refine w_iload 1 dX14_worth_147 rfl rfl ?_
            refine w_bipush 41 dX14_worth_149 rfl rfl ?_
            refine w_icmp_eq 161 dX14_worth_151 rfl rfl (fun q151 => ?_) (fun q151 => ?_)
            · have hr := bt q151 hr
              refine w_lload 0 dX14_worth_161 rfl rfl ?_
              refine w_lneg dX14_worth_163 rfl ?_
              refine w_goto 169 dX14_worth_164 rfl ?_
              obtain ⟨g16, hr⟩ := gd hr
              refine w_last dX14_worth_169 rfl (hz.k932 rfl) (gin (hz.n932 rfl) g16) ?_
              obtain ⟨ρ17, e18, hr⟩ := lt_e hr
              have hz := (hz.s932 (i := (Int32.toNatClampNeg (y4 - 1))) (v := (-(zJ ρ 1956 0 0 (Int32.toNatClampNeg (y4 - 1))))) rfl).tr e18
              refine w_goto 206 dX14_worth_170 rfl ?_
              refine w_iinc 7 (y5 + 1) [(5, .int (y5 + 1)), (7, .long (zJ ρ 1956 0 0 (Int32.toNatClampNeg (y4 - 1)))), (6, .int (zI ρ 1810 ((zR ρ 898 0 0 0).1) 0 (Int32.toNatClampNeg y5))), (0, .ref (A 14 0 0)), (1, .int x1), (2, .ref (A c2 p2 s2)), (3, .int x3), (4, .int y4)] dX14_worth_206 rfl rfl rfl (by decide) rfl ?_
              refine w_goto 6 dX14_worth_209 rfl ?_
              refine w_lv [(0, .ref (A 14 0 0)), (1, .int x1), (2, .ref (A c2 p2 s2)), (3, .int x3), (4, .int y4), (5, .int (y5 + 1))] [3, 4, 5, 6, 7, 0] rfl ?_
              exact w_X14_worth_6 hf hrm hg2 hr2  n y4 (y5 + 1) _ _ hz  hr
            · have hr := bf q151 hr
              refine w_lload 0 dX14_worth_154 rfl rfl ?_
              refine w_lconst 0 dX14_worth_156 rfl rfl ?_
              refine w_lcmp dX14_worth_157 rfl ?_
              refine w_if_ge 167 dX14_worth_158 rfl rfl (fun q158 => ?_) (fun q158 => ?_)
              · have hr := bt q158 hr
                refine w_lload 0 dX14_worth_167 rfl rfl ?_
                obtain ⟨g19, hr⟩ := gd hr
                refine w_last dX14_worth_169 rfl (hz.k932 rfl) (gin (hz.n932 rfl) g19) ?_
                obtain ⟨ρ20, e21, hr⟩ := lt_e hr
                have hz := (hz.s932 (i := (Int32.toNatClampNeg (y4 - 1))) (v := (zJ ρ 1956 0 0 (Int32.toNatClampNeg (y4 - 1)))) rfl).tr e21
                refine w_goto 206 dX14_worth_170 rfl ?_
                refine w_iinc 7 (y5 + 1) [(5, .int (y5 + 1)), (7, .long (zJ ρ 1956 0 0 (Int32.toNatClampNeg (y4 - 1)))), (6, .int (zI ρ 1810 ((zR ρ 898 0 0 0).1) 0 (Int32.toNatClampNeg y5))), (0, .ref (A 14 0 0)), (1, .int x1), (2, .ref (A c2 p2 s2)), (3, .int x3), (4, .int y4)] dX14_worth_206 rfl rfl rfl (by decide) rfl ?_
                refine w_goto 6 dX14_worth_209 rfl ?_
                refine w_lv [(0, .ref (A 14 0 0)), (1, .int x1), (2, .ref (A c2 p2 s2)), (3, .int x3), (4, .int y4), (5, .int (y5 + 1))] [3, 4, 5, 6, 7, 0] rfl ?_
                exact w_X14_worth_6 hf hrm hg2 hr2  n y4 (y5 + 1) _ _ hz  hr
              · have hr := bf q158 hr
                refine w_lload 0 dX14_worth_161 rfl rfl ?_
                refine w_lneg dX14_worth_163 rfl ?_
                refine w_goto 169 dX14_worth_164 rfl ?_
                obtain ⟨g22, hr⟩ := gd hr
                refine w_last dX14_worth_169 rfl (hz.k932 rfl) (gin (hz.n932 rfl) g22) ?_
                obtain ⟨ρ23, e24, hr⟩ := lt_e hr
                have hz := (hz.s932 (i := (Int32.toNatClampNeg (y4 - 1))) (v := (-(zJ ρ 1956 0 0 (Int32.toNatClampNeg (y4 - 1))))) rfl).tr e24
                refine w_goto 206 dX14_worth_170 rfl ?_
                refine w_iinc 7 (y5 + 1) [(5, .int (y5 + 1)), (7, .long (zJ ρ 1956 0 0 (Int32.toNatClampNeg (y4 - 1)))), (6, .int (zI ρ 1810 ((zR ρ 898 0 0 0).1) 0 (Int32.toNatClampNeg y5))), (0, .ref (A 14 0 0)), (1, .int x1), (2, .ref (A c2 p2 s2)), (3, .int x3), (4, .int y4)] dX14_worth_206 rfl rfl rfl (by decide) rfl ?_
                refine w_goto 6 dX14_worth_209 rfl ?_
                refine w_lv [(0, .ref (A 14 0 0)), (1, .int x1), (2, .ref (A c2 p2 s2)), (3, .int x3), (4, .int y4), (5, .int (y5 + 1))] [3, 4, 5, 6, 7, 0] rfl ?_
                exact w_X14_worth_6 hf hrm hg2 hr2  n y4 (y5 + 1) _ _ hz  hr
          · have hr := bt q129 hr
            refine w_lload 0 dX14_worth_132 rfl rfl ?_
            refine w_lconst 0 dX14_worth_134 rfl rfl ?_
            refine w_lcmp dX14_worth_135 rfl ?_
            refine w_if_ne 143 dX14_worth_136 rfl rfl (fun q136 => ?_) (fun q136 => ?_)
            · have hr := bf q136 hr
              refine w_lconst 0 dX14_worth_143 rfl rfl ?_
              refine w_goto 169 dX14_worth_144 rfl ?_
              obtain ⟨g25, hr⟩ := gd hr
              refine w_last dX14_worth_169 rfl (hz.k932 rfl) (gin (hz.n932 rfl) g25) ?_
              obtain ⟨ρ26, e27, hr⟩ := lt_e hr
              have hz := (hz.s932 (i := (Int32.toNatClampNeg (y4 - 1))) (v := 0) rfl).tr e27
              refine w_goto 206 dX14_worth_170 rfl ?_
              refine w_iinc 7 (y5 + 1) [(5, .int (y5 + 1)), (7, .long (zJ ρ 1956 0 0 (Int32.toNatClampNeg (y4 - 1)))), (6, .int (zI ρ 1810 ((zR ρ 898 0 0 0).1) 0 (Int32.toNatClampNeg y5))), (0, .ref (A 14 0 0)), (1, .int x1), (2, .ref (A c2 p2 s2)), (3, .int x3), (4, .int y4)] dX14_worth_206 rfl rfl rfl (by decide) rfl ?_
              refine w_goto 6 dX14_worth_209 rfl ?_
              refine w_lv [(0, .ref (A 14 0 0)), (1, .int x1), (2, .ref (A c2 p2 s2)), (3, .int x3), (4, .int y4), (5, .int (y5 + 1))] [3, 4, 5, 6, 7, 0] rfl ?_
              exact w_X14_worth_6 hf hrm hg2 hr2  n y4 (y5 + 1) _ _ hz  hr
            · have hr := bt q136 hr
              refine w_lconst 1 dX14_worth_139 rfl rfl ?_
              refine w_goto 169 dX14_worth_140 rfl ?_
              obtain ⟨g28, hr⟩ := gd hr
              refine w_last dX14_worth_169 rfl (hz.k932 rfl) (gin (hz.n932 rfl) g28) ?_
              obtain ⟨ρ29, e30, hr⟩ := lt_e hr
              have hz := (hz.s932 (i := (Int32.toNatClampNeg (y4 - 1))) (v := 1) rfl).tr e30
              refine w_goto 206 dX14_worth_170 rfl ?_
              refine w_iinc 7 (y5 + 1) [(5, .int (y5 + 1)), (7, .long (zJ ρ 1956 0 0 (Int32.toNatClampNeg (y4 - 1)))), (6, .int (zI ρ 1810 ((zR ρ 898 0 0 0).1) 0 (Int32.toNatClampNeg y5))), (0, .ref (A 14 0 0)), (1, .int x1), (2, .ref (A c2 p2 s2)), (3, .int x3), (4, .int y4)] dX14_worth_206 rfl rfl rfl (by decide) rfl ?_
              refine w_goto 6 dX14_worth_209 rfl ?_
              refine w_lv [(0, .ref (A 14 0 0)), (1, .int x1), (2, .ref (A c2 p2 s2)), (3, .int x3), (4, .int y4), (5, .int (y5 + 1))] [3, 4, 5, 6, 7, 0] rfl ?_
              exact w_X14_worth_6 hf hrm hg2 hr2  n y4 (y5 + 1) _ _ hz  hr
      · have hr := bf q36 hr
        refine w_aload_n 1 dX14_worth_39 rfl rfl rfl ?_
        refine g_X14_79 dX14_worth_40 rfl (hz.o14 rfl) (hz.r932 rfl) ?_
        refine w_iload 5 dX14_worth_43 rfl rfl ?_
        refine w_iload 0 dX14_worth_45 rfl rfl ?_
        refine w_if_ne 63 dX14_worth_47 rfl rfl (fun q47 => ?_) (fun q47 => ?_)
        · have hr := bf q47 hr
          refine w_iload 0 dX14_worth_63 rfl rfl ?_
          refine w_iconst 2 dX14_worth_65 rfl rfl ?_
          refine w_icmp_ne 75 dX14_worth_66 rfl rfl (fun q66 => ?_) (fun q66 => ?_)
          · have hr := bf q66 hr
            refine w_aload_n 3 dX14_worth_75 rfl rfl rfl ?_
            refine w_iload_n 4 dX14_worth_76 rfl rfl rfl ?_
            refine w_iconst 1 dX14_worth_77 rfl rfl ?_
            refine w_iadd dX14_worth_78 rfl ?_
            refine w_aload_n 1 dX14_worth_79 rfl rfl rfl ?_
            have hv31 := hz.ww898 (p := 0) (s := 0) rfl
            refine g_X14_16 dX14_worth_80 rfl (hz.o14 rfl) (hz.rr898 rfl) ?_
            refine g_X14_241 dX14_worth_83 rfl (hz.o12 hv31) (hz.r787 hv31) ?_
            refine w_iload 6 dX14_worth_86 rfl rfl ?_
            obtain ⟨g32, hr⟩ := gd hr
            refine w_lald dX14_worth_88 rfl (hz.k787 hv31) (gin (hz.n787 hv31) g32) (hz.x787 hv31) ?_
            refine w_l2i dX14_worth_89 rfl ?_
            refine w_iadd dX14_worth_90 rfl ?_
            obtain ⟨g33, hr⟩ := gd hr
            refine w_lald dX14_worth_91 rfl (hz.gk hg2) (gin (hz.gn hg2) g33) (hz.gyr hg2 hr2) ?_
            obtain ⟨g34, hr⟩ := gd hr
            refine w_last dX14_worth_92 rfl (hz.k932 rfl) (gin (hz.n932 rfl) g34) ?_
            obtain ⟨ρ35, e36, hr⟩ := lt_e hr
            have hz := (hz.s932 (i := (Int32.toNatClampNeg y4)) (v := (zJ ρ c2 p2 s2 (Int32.toNatClampNeg ((x3 + 1) + (((zJ ρ 1811 ((zR ρ 898 0 0 0).1) 0 (Int32.toNatClampNeg y5)) : Int64).toInt32))))) rfl).tr e36
            refine w_iinc 5 (y4 + 1) [(4, .int (y4 + 1)), (6, .int (zI ρ 1810 ((zR ρ 898 0 0 0).1) 0 (Int32.toNatClampNeg y5))), (0, .ref (A 14 0 0)), (1, .int x1), (2, .ref (A c2 p2 s2)), (3, .int x3), (5, .int y5)] dX14_worth_93 rfl rfl rfl (by decide) rfl ?_
            refine w_goto 206 dX14_worth_96 rfl ?_
            refine w_iinc 6 (y5 + 1) [(5, .int (y5 + 1)), (4, .int (y4 + 1)), (6, .int (zI ρ 1810 ((zR ρ 898 0 0 0).1) 0 (Int32.toNatClampNeg y5))), (0, .ref (A 14 0 0)), (1, .int x1), (2, .ref (A c2 p2 s2)), (3, .int x3)] dX14_worth_206 rfl rfl rfl (by decide) rfl ?_
            refine w_goto 6 dX14_worth_209 rfl ?_
            refine w_lv [(0, .ref (A 14 0 0)), (1, .int x1), (2, .ref (A c2 p2 s2)), (3, .int x3), (4, .int (y4 + 1)), (5, .int (y5 + 1))] [3, 4, 5, 6, 1, 0] rfl ?_
            exact w_X14_worth_6 hf hrm hg2 hr2  n (y4 + 1) (y5 + 1) _ _ hz  hr
          · have hr := bt q66 hr
            refine w_aload_n 3 dX14_worth_69 rfl rfl rfl ?_
            refine w_iload_n 4 dX14_worth_70 rfl rfl rfl ?_
            obtain ⟨g37, hr⟩ := gd hr
            refine w_lald dX14_worth_71 rfl (hz.gk hg2) (gin (hz.gn hg2) g37) (hz.gyr hg2 hr2) ?_
            refine w_goto 92 dX14_worth_72 rfl ?_
            obtain ⟨g38, hr⟩ := gd hr
            refine w_last dX14_worth_92 rfl (hz.k932 rfl) (gin (hz.n932 rfl) g38) ?_
            obtain ⟨ρ39, e40, hr⟩ := lt_e hr
            have hz := (hz.s932 (i := (Int32.toNatClampNeg y4)) (v := (zJ ρ c2 p2 s2 (Int32.toNatClampNeg x3))) rfl).tr e40
            refine w_iinc 5 (y4 + 1) [(4, .int (y4 + 1)), (6, .int (zI ρ 1810 ((zR ρ 898 0 0 0).1) 0 (Int32.toNatClampNeg y5))), (0, .ref (A 14 0 0)), (1, .int x1), (2, .ref (A c2 p2 s2)), (3, .int x3), (5, .int y5)] dX14_worth_93 rfl rfl rfl (by decide) rfl ?_
            refine w_goto 206 dX14_worth_96 rfl ?_
            refine w_iinc 6 (y5 + 1) [(5, .int (y5 + 1)), (4, .int (y4 + 1)), (6, .int (zI ρ 1810 ((zR ρ 898 0 0 0).1) 0 (Int32.toNatClampNeg y5))), (0, .ref (A 14 0 0)), (1, .int x1), (2, .ref (A c2 p2 s2)), (3, .int x3)] dX14_worth_206 rfl rfl rfl (by decide) rfl ?_
            refine w_goto 6 dX14_worth_209 rfl ?_
            refine w_lv [(0, .ref (A 14 0 0)), (1, .int x1), (2, .ref (A c2 p2 s2)), (3, .int x3), (4, .int (y4 + 1)), (5, .int (y5 + 1))] [3, 4, 5, 6, 1, 0] rfl ?_
            exact w_X14_worth_6 hf hrm hg2 hr2  n (y4 + 1) (y5 + 1) _ _ hz  hr
        · have hr := bt q47 hr
          refine w_aload_n 1 dX14_worth_50 rfl rfl rfl ?_
          have hv41 := hz.ww898 (p := 0) (s := 0) rfl
          refine g_X14_16 dX14_worth_51 rfl (hz.o14 rfl) (hz.rr898 rfl) ?_
          refine g_X14_241 dX14_worth_54 rfl (hz.o12 hv41) (hz.r787 hv41) ?_
          refine w_iload 6 dX14_worth_57 rfl rfl ?_
          obtain ⟨g42, hr⟩ := gd hr
          refine w_lald dX14_worth_59 rfl (hz.k787 hv41) (gin (hz.n787 hv41) g42) (hz.x787 hv41) ?_
          refine w_goto 92 dX14_worth_60 rfl ?_
          obtain ⟨g43, hr⟩ := gd hr
          refine w_last dX14_worth_92 rfl (hz.k932 rfl) (gin (hz.n932 rfl) g43) ?_
          obtain ⟨ρ44, e45, hr⟩ := lt_e hr
          have hz := (hz.s932 (i := (Int32.toNatClampNeg y4)) (v := (zJ ρ 1811 ((zR ρ 898 0 0 0).1) 0 (Int32.toNatClampNeg y5))) rfl).tr e45
          refine w_iinc 5 (y4 + 1) [(4, .int (y4 + 1)), (6, .int (zI ρ 1810 ((zR ρ 898 0 0 0).1) 0 (Int32.toNatClampNeg y5))), (0, .ref (A 14 0 0)), (1, .int x1), (2, .ref (A c2 p2 s2)), (3, .int x3), (5, .int y5)] dX14_worth_93 rfl rfl rfl (by decide) rfl ?_
          refine w_goto 206 dX14_worth_96 rfl ?_
          refine w_iinc 6 (y5 + 1) [(5, .int (y5 + 1)), (4, .int (y4 + 1)), (6, .int (zI ρ 1810 ((zR ρ 898 0 0 0).1) 0 (Int32.toNatClampNeg y5))), (0, .ref (A 14 0 0)), (1, .int x1), (2, .ref (A c2 p2 s2)), (3, .int x3)] dX14_worth_206 rfl rfl rfl (by decide) rfl ?_
          refine w_goto 6 dX14_worth_209 rfl ?_
          refine w_lv [(0, .ref (A 14 0 0)), (1, .int x1), (2, .ref (A c2 p2 s2)), (3, .int x3), (4, .int (y4 + 1)), (5, .int (y5 + 1))] [3, 4, 5, 6, 1, 0] rfl ?_
          exact w_X14_worth_6 hf hrm hg2 hr2  n (y4 + 1) (y5 + 1) _ _ hz  hr
set_option maxRecDepth 20000 in
set_option maxHeartbeats 4000000 in
theorem s_X14_worth {A : Nat → Nat → Nat → Nat} {h : Hp} {σ ρ ρ' : Zs} {v : Int64} {x1 : Int32} {c2 : Nat} {p2 : Nat} {s2 : Nat} {n2 : Nat} {x3 : Int32} (hg2 : aok (A 16 0 0) c2 p2 s2 21 n2 = true) (hr2 : isr c2 = true) (hz : Rp A h σ ρ) (hr : fX14_worth x1 c2 p2 s2 n2 x3 ρ = some (v, ρ')) : ∀ l : Launch, Sp l mX14_worth 2 0 0 [.ref (A 14 0 0), .int x1, .ref (A c2 p2 s2), .int x3] h (QJ A v σ ρ') X0 := by
  intro l
  refine Sp.of rfl rfl (lv := [(0, .ref (A 14 0 0)), (1, .int x1), (2, .ref (A c2 p2 s2)), (3, .int x3)]) (Nat.le_of_ble_eq_true rfl) rfl (fun x hf hrm => ?_)
  rw [fX14_worth.eq_1] at hr
  refine w_iconst 0 dX14_worth_0 rfl rfl ?_
  refine w_istore [(4, .int 0), (0, .ref (A 14 0 0)), (1, .int x1), (2, .ref (A c2 p2 s2)), (3, .int x3)] dX14_worth_1 rfl (by decide) rfl ?_
  refine w_iload_n 2 dX14_worth_3 rfl rfl rfl ?_
  refine w_istore [(5, .int x1), (4, .int 0), (0, .ref (A 14 0 0)), (1, .int x1), (2, .ref (A c2 p2 s2)), (3, .int x3)] dX14_worth_4 rfl (by decide) rfl ?_
  refine w_lv [(0, .ref (A 14 0 0)), (1, .int x1), (2, .ref (A c2 p2 s2)), (3, .int x3), (4, .int 0), (5, .int x1)] [2, 3, 4, 5, 1, 0] rfl ?_
  exact w_X14_worth_6 hf hrm hg2 hr2  FU 0 x1 _ _ hz  hr

set_option maxRecDepth 20000 in
set_option maxHeartbeats 4000000 in
theorem s_X14_load {A : Nat → Nat → Nat → Nat} {h : Hp} {σ ρ ρ' : Zs} {v : Unit} {c1 : Nat} {p1 : Nat} {s1 : Nat} {n1 : Nat} {x2 : Int32} (hg1 : aok (A 16 0 0) c1 p1 s1 21 n1 = true) (hr1 : isr c1 = true) (hz : Rp A h σ ρ) (hr : fX14_load c1 p1 s1 n1 x2 ρ = some (v, ρ')) : ∀ l : Launch, Sp l mX14_load 10 0 0 [.ref (A 14 0 0), .ref (A c1 p1 s1), .int x2] h (QV A v σ ρ') X0 := by
  intro l
  refine Sp.of rfl rfl (lv := [(0, .ref (A 14 0 0)), (1, .ref (A c1 p1 s1)), (2, .int x2)]) (Nat.le_of_ble_eq_true rfl) rfl (fun x hf hrm => ?_)
  rw [fX14_load.eq_1] at hr
  refine w_aload_n 1 dX14_load_0 rfl rfl rfl ?_
  refine w_iload_n 2 dX14_load_1 rfl rfl rfl ?_
  refine w_aload_n 0 dX14_load_2 rfl rfl rfl ?_
  refine g_X14_82 dX14_load_3 rfl (hz.o14 rfl) (hz.r933 rfl) ?_
  refine w_iconst 0 dX14_load_6 rfl rfl ?_
  refine w_bipush 7 dX14_load_7 rfl rfl ?_
  obtain ⟨g1, hr⟩ := gd hr
  refine w_copyl hrm (by decide) dX14_load_9 rfl (hz.gk hg1) (hz.k933 rfl) (hz.gn hg1) (hz.n933 rfl) g1 (Nat.le_of_ble_eq_true rfl) ?_
  obtain ⟨ρ2, e3, hr⟩ := lt_e hr
  have hz := (hz.vC (f2 := 933) (sp := Int32.toNatClampNeg x2) (dp := Int32.toNatClampNeg 0) (n := Int32.toNatClampNeg 7) hg1 hr1 rfl (by decide) rfl rfl).tr e3
  refine w_vret hf dX14_load_12 rfl (Nat.le_of_ble_eq_true rfl) (Nat.le_of_ble_eq_true rfl) ?_
  obtain ⟨rfl, rfl⟩ := ret_inj hr
  exact ⟨rfl, hz⟩

set_option maxRecDepth 20000 in
set_option maxHeartbeats 4000000 in
theorem s_X14_store {A : Nat → Nat → Nat → Nat} {h : Hp} {σ ρ ρ' : Zs} {v : Unit} {x1 : Int32}  (hz : Rp A h σ ρ) (hr : fX14_store x1 ρ = some (v, ρ')) : ∀ l : Launch, Sp l mX14_store 10 0 0 [.ref (A 14 0 0), .int x1] h (QV A v σ ρ') X0 := by
  intro l
  refine Sp.of rfl rfl (lv := [(0, .ref (A 14 0 0)), (1, .int x1)]) (Nat.le_of_ble_eq_true rfl) rfl (fun x hf hrm => ?_)
  rw [fX14_store.eq_1] at hr
  refine w_aload_n 0 dX14_store_0 rfl rfl rfl ?_
  refine g_X14_49 dX14_store_1 rfl (hz.o14 rfl) (hz.r917 rfl) ?_
  refine w_iload_n 1 dX14_store_4 rfl rfl rfl ?_
  obtain ⟨g1, hr⟩ := gd hr
  refine w_iald dX14_store_5 rfl (hz.k917 rfl) (gin (hz.n917 rfl) g1) (hz.x917 rfl) ?_
  refine w_sipush 200 dX14_store_6 rfl rfl ?_
  refine w_icmp_ne 23 dX14_store_9 rfl rfl (fun q9 => ?_) (fun q9 => ?_)
  · have hr := bf q9 hr
    refine w_aload_n 0 dX14_store_23 rfl rfl rfl ?_
    refine g_X14_82 dX14_store_24 rfl (hz.o14 rfl) (hz.r933 rfl) ?_
    refine w_iconst 0 dX14_store_27 rfl rfl ?_
    refine w_aload_n 0 dX14_store_28 rfl rfl rfl ?_
    refine g_X14_46 dX14_store_29 rfl (hz.o14 rfl) (hz.r916 rfl) ?_
    refine w_iload_n 1 dX14_store_32 rfl rfl rfl ?_
    refine w_aload_n 0 dX14_store_33 rfl rfl rfl ?_
    refine g_X14_49 dX14_store_34 rfl (hz.o14 rfl) (hz.r917 rfl) ?_
    refine w_iload_n 1 dX14_store_37 rfl rfl rfl ?_
    obtain ⟨g2, hr⟩ := gd hr
    refine w_iald dX14_store_38 rfl (hz.k917 rfl) (gin (hz.n917 rfl) g2) (hz.x917 rfl) ?_
    obtain ⟨v3, ρ4, e5, hr⟩ := bq_some hr
    refine c_X14_475 (b := 0) (As := [.int x1, .int (zI ρ 1941 0 0 (Int32.toNatClampNeg x1))]) (rest := [.ref (A 1940 0 0), .int 0, .ref (A 1957 0 0)]) (fun l => s_X14_rowAt  hz e5 l) hrm dX14_store_39 rfl rfl (Nat.le_of_ble_eq_true rfl) (Nat.le_of_ble_eq_true rfl) (Nat.le_of_ble_eq_true rfl) rfl (Nat.le_of_ble_eq_true rfl) (fun vr h2 hq => ?_) (fun E9 h9 hq => hq.elim)
    obtain ⟨rfl, hz⟩ := hq
    show wp _ _ 42 [(0, .ref (A 14 0 0)), (1, .int x1)] [.int v3, .ref (A 1940 0 0), .int 0, .ref (A 1957 0 0)] _ _ _
    refine w_bipush 7 dX14_store_42 rfl rfl ?_
    obtain ⟨g7, hr⟩ := gd hr
    refine w_copyl hrm (by decide) dX14_store_44 rfl (hz.k933 rfl) (hz.k916 rfl) (hz.n933 rfl) (hz.n916 rfl) g7 (Nat.le_of_ble_eq_true rfl) ?_
    obtain ⟨ρ8, e9, hr⟩ := lt_e hr
    have hz := (hz.vC (f2 := 916) (sp := Int32.toNatClampNeg 0) (dp := Int32.toNatClampNeg v3) (n := Int32.toNatClampNeg 7) (aok_933 rfl) rfl rfl (by decide) rfl rfl).tr e9
    refine w_aload_n 0 dX14_store_47 rfl rfl rfl ?_
    refine g_X14_49 dX14_store_48 rfl (hz.o14 rfl) (hz.r917 rfl) ?_
    refine w_iload_n 1 dX14_store_51 rfl rfl rfl ?_
    refine w_dup2 dX14_store_52 rfl rfl rfl ?_
    obtain ⟨g10, hr⟩ := gd hr
    refine w_iald dX14_store_53 rfl (hz.k917 rfl) (gin (hz.n917 rfl) g10) (hz.x917 rfl) ?_
    refine w_iconst 1 dX14_store_54 rfl rfl ?_
    refine w_iadd dX14_store_55 rfl ?_
    obtain ⟨g11, hr⟩ := gd hr
    refine w_iast dX14_store_56 rfl (hz.k917 rfl) (gin (hz.n917 rfl) g11) ?_
    obtain ⟨ρ12, e13, hr⟩ := lt_e hr
    have hz := (hz.s917 (i := (Int32.toNatClampNeg x1)) (v := ((zI ρ8 1941 0 0 (Int32.toNatClampNeg x1)) + 1)) rfl).tr e13
    refine w_aload_n 0 dX14_store_57 rfl rfl rfl ?_
    refine w_dup dX14_store_58 rfl rfl ?_
    refine g_X14_478 dX14_store_59 rfl (hz.o14 rfl) (hz.i930 rfl) ?_
    refine w_iconst 1 dX14_store_62 rfl rfl ?_
    refine w_iadd dX14_store_63 rfl ?_
    refine p_X14_478 dX14_store_64 rfl (hz.o14 rfl) ?_
    obtain ⟨ρ14, e15, hr⟩ := lt_e hr
    have hz := (hz.s930 (v := ((zI ρ12 930 0 0 0) + 1)) rfl).tr e15
    refine w_vret hf dX14_store_67 rfl (Nat.le_of_ble_eq_true rfl) (Nat.le_of_ble_eq_true rfl) ?_
    obtain ⟨rfl, rfl⟩ := ret_inj hr
    exact ⟨rfl, hz⟩
  · have hr := bt q9 hr
    refine w_aload_n 0 dX14_store_12 rfl rfl rfl ?_
    refine w_dup dX14_store_13 rfl rfl ?_
    refine g_X14_453 dX14_store_14 rfl (hz.o14 rfl) (hz.i928 rfl) ?_
    refine w_iconst 1 dX14_store_17 rfl rfl ?_
    refine w_iadd dX14_store_18 rfl ?_
    refine p_X14_453 dX14_store_19 rfl (hz.o14 rfl) ?_
    obtain ⟨ρ16, e17, hr⟩ := lt_e hr
    have hz := (hz.s928 (v := ((zI ρ 928 0 0 0) + 1)) rfl).tr e17
    refine w_vret hf dX14_store_22 rfl (Nat.le_of_ble_eq_true rfl) (Nat.le_of_ble_eq_true rfl) ?_
    obtain ⟨rfl, rfl⟩ := ret_inj hr
    exact ⟨rfl, hz⟩

set_option maxRecDepth 20000 in
set_option maxHeartbeats 4000000 in
theorem s_X14_hold {A : Nat → Nat → Nat → Nat} {h : Hp} {σ ρ ρ' : Zs} {v : Unit} {x1 : Int32} {x2 : Int32}  (hz : Rp A h σ ρ) (hr : fX14_hold x1 x2 ρ = some (v, ρ')) : ∀ l : Launch, Sp l mX14_hold 10 0 0 [.ref (A 14 0 0), .int x1, .int x2] h (QV A v σ ρ') X0 := by
  intro l
  refine Sp.of rfl rfl (lv := [(0, .ref (A 14 0 0)), (1, .int x1), (2, .int x2)]) (Nat.le_of_ble_eq_true rfl) rfl (fun x hf hrm => ?_)
  rw [fX14_hold.eq_1] at hr
  refine w_aload_n 0 dX14_hold_0 rfl rfl rfl ?_
  refine g_X14_440 dX14_hold_1 rfl (hz.o14 rfl) (hz.i923 rfl) ?_
  refine w_bipush 60 dX14_hold_4 rfl rfl ?_
  refine w_icmp_ne 20 dX14_hold_6 rfl rfl (fun q6 => ?_) (fun q6 => ?_)
  · have hr := bf q6 hr
    refine w_aload_n 0 dX14_hold_20 rfl rfl rfl ?_
    refine g_X14_67 dX14_hold_21 rfl (hz.o14 rfl) (hz.r924 rfl) ?_
    refine w_aload_n 0 dX14_hold_24 rfl rfl rfl ?_
    refine g_X14_440 dX14_hold_25 rfl (hz.o14 rfl) (hz.i923 rfl) ?_
    refine w_iload_n 1 dX14_hold_28 rfl rfl rfl ?_
    obtain ⟨g1, hr⟩ := gd hr
    refine w_iast dX14_hold_29 rfl (hz.k924 rfl) (gin (hz.n924 rfl) g1) ?_
    obtain ⟨ρ2, e3, hr⟩ := lt_e hr
    have hz := (hz.s924 (i := (Int32.toNatClampNeg (zI ρ 923 0 0 0))) (v := x1) rfl).tr e3
    refine w_aload_n 0 dX14_hold_30 rfl rfl rfl ?_
    refine g_X14_70 dX14_hold_31 rfl (hz.o14 rfl) (hz.r925 rfl) ?_
    refine w_aload_n 0 dX14_hold_34 rfl rfl rfl ?_
    refine g_X14_440 dX14_hold_35 rfl (hz.o14 rfl) (hz.i923 rfl) ?_
    refine w_iload_n 2 dX14_hold_38 rfl rfl rfl ?_
    obtain ⟨g4, hr⟩ := gd hr
    refine w_iast dX14_hold_39 rfl (hz.k925 rfl) (gin (hz.n925 rfl) g4) ?_
    obtain ⟨ρ5, e6, hr⟩ := lt_e hr
    have hz := (hz.s925 (i := (Int32.toNatClampNeg (zI ρ2 923 0 0 0))) (v := x2) rfl).tr e6
    refine w_aload_n 0 dX14_hold_40 rfl rfl rfl ?_
    refine g_X14_82 dX14_hold_41 rfl (hz.o14 rfl) (hz.r933 rfl) ?_
    refine w_iconst 0 dX14_hold_44 rfl rfl ?_
    refine w_aload_n 0 dX14_hold_45 rfl rfl rfl ?_
    refine g_X14_73 dX14_hold_46 rfl (hz.o14 rfl) (hz.r926 rfl) ?_
    refine w_bipush 7 dX14_hold_49 rfl rfl ?_
    refine w_aload_n 0 dX14_hold_51 rfl rfl rfl ?_
    refine g_X14_440 dX14_hold_52 rfl (hz.o14 rfl) (hz.i923 rfl) ?_
    refine w_imul dX14_hold_55 rfl ?_
    refine w_bipush 7 dX14_hold_56 rfl rfl ?_
    obtain ⟨g7, hr⟩ := gd hr
    refine w_copyl hrm (by decide) dX14_hold_58 rfl (hz.k933 rfl) (hz.k926 rfl) (hz.n933 rfl) (hz.n926 rfl) g7 (Nat.le_of_ble_eq_true rfl) ?_
    obtain ⟨ρ8, e9, hr⟩ := lt_e hr
    have hz := (hz.vC (f2 := 926) (sp := Int32.toNatClampNeg 0) (dp := Int32.toNatClampNeg (7 * (zI ρ5 923 0 0 0))) (n := Int32.toNatClampNeg 7) (aok_933 rfl) rfl rfl (by decide) rfl rfl).tr e9
    refine w_aload_n 0 dX14_hold_61 rfl rfl rfl ?_
    refine w_dup dX14_hold_62 rfl rfl ?_
    refine g_X14_440 dX14_hold_63 rfl (hz.o14 rfl) (hz.i923 rfl) ?_
    refine w_iconst 1 dX14_hold_66 rfl rfl ?_
    refine w_iadd dX14_hold_67 rfl ?_
    refine p_X14_440 dX14_hold_68 rfl (hz.o14 rfl) ?_
    obtain ⟨ρ10, e11, hr⟩ := lt_e hr
    have hz := (hz.s923 (v := ((zI ρ8 923 0 0 0) + 1)) rfl).tr e11
    refine w_vret hf dX14_hold_71 rfl (Nat.le_of_ble_eq_true rfl) (Nat.le_of_ble_eq_true rfl) ?_
    obtain ⟨rfl, rfl⟩ := ret_inj hr
    exact ⟨rfl, hz⟩
  · have hr := bt q6 hr
    refine w_aload_n 0 dX14_hold_9 rfl rfl rfl ?_
    refine w_dup dX14_hold_10 rfl rfl ?_
    refine g_X14_453 dX14_hold_11 rfl (hz.o14 rfl) (hz.i928 rfl) ?_
    refine w_iconst 1 dX14_hold_14 rfl rfl ?_
    refine w_iadd dX14_hold_15 rfl ?_
    refine p_X14_453 dX14_hold_16 rfl (hz.o14 rfl) ?_
    obtain ⟨ρ12, e13, hr⟩ := lt_e hr
    have hz := (hz.s928 (v := ((zI ρ 928 0 0 0) + 1)) rfl).tr e13
    refine w_vret hf dX14_hold_19 rfl (Nat.le_of_ble_eq_true rfl) (Nat.le_of_ble_eq_true rfl) ?_
    obtain ⟨rfl, rfl⟩ := ret_inj hr
    exact ⟨rfl, hz⟩

set_option maxRecDepth 20000 in
set_option maxHeartbeats 4000000 in
theorem w_X14_offer_2 {A : Nat → Nat → Nat → Nat} {σ ρ' : Zs} {v : Unit} {x : Cxt} {x1 : Int32}  (hf : m_fin 0 0 (QV A v σ ρ') X0 x) (hrm : m_rm 11 0 0 x)  : ∀ (n : Nat) (y2 : Int32) (ρ : Zs) (h : Hp), Rp A h σ ρ → fX14_offer_2 x1  n y2 ρ = some (v, ρ') → wp x mX14_offer 2 [(0, .ref (A 14 0 0)), (1, .int x1), (2, .int y2)] [] h 0 0
  | 0, _, ρ, h => fun hz hr => by
    rw [fX14_offer_2.eq_1] at hr
    exact nono hr
  | n + 1, y2, ρ, h => fun hz hr => by
    rw [fX14_offer_2.eq_2] at hr
    refine w_iload_n 2 dX14_offer_2 rfl rfl rfl ?_
    refine w_aload_n 0 dX14_offer_3 rfl rfl rfl ?_
    have hv1 := hz.ww898 (p := 0) (s := 0) rfl
    refine g_X14_16 dX14_offer_4 rfl (hz.o14 rfl) (hz.rr898 rfl) ?_
    refine g_X14_341 dX14_offer_7 rfl (hz.o12 hv1) (hz.i781 hv1) ?_
    refine w_icmp_ge 108 dX14_offer_10 rfl rfl (fun q10 => ?_) (fun q10 => ?_)
    · have hr := bt q10 hr
      refine w_aload_n 0 dX14_offer_108 rfl rfl rfl ?_
      refine w_iload_n 1 dX14_offer_109 rfl rfl rfl ?_
      obtain ⟨v2, ρ3, e4, hr⟩ := bq_some hr
      refine c_X14_488 (As := [.int x1]) (rest := []) (fun l => s_X14_store  hz e4 l) hrm dX14_offer_110 rfl rfl (Nat.le_of_ble_eq_true rfl) (Nat.le_of_ble_eq_true rfl) (Nat.le_of_ble_eq_true rfl) (hz.o14 rfl) rfl (Nat.le_of_ble_eq_true rfl) (fun vr h2 hq => ?_) (fun E9 h9 hq => hq.elim)
      obtain ⟨rfl, hz⟩ := hq
      show wp _ _ 113 [(0, .ref (A 14 0 0)), (1, .int x1), (2, .int y2)] [] _ _ _
      refine w_vret hf dX14_offer_113 rfl (Nat.le_of_ble_eq_true rfl) (Nat.le_of_ble_eq_true rfl) ?_
      obtain ⟨rfl, rfl⟩ := ret_inj hr
      exact ⟨rfl, hz⟩
    · have hr := bf q10 hr
      refine w_aload_n 0 dX14_offer_13 rfl rfl rfl ?_
      have hv6 := hz.ww898 (p := 0) (s := 0) rfl
      refine g_X14_16 dX14_offer_14 rfl (hz.o14 rfl) (hz.rr898 rfl) ?_
      refine g_X14_355 dX14_offer_17 rfl (hz.o12 hv6) (hz.r782 hv6) ?_
      refine w_iload_n 2 dX14_offer_20 rfl rfl rfl ?_
      obtain ⟨g7, hr⟩ := gd hr
      refine w_iald dX14_offer_21 rfl (hz.k782 hv6) (gin (hz.n782 hv6) g7) (hz.x782 hv6) ?_
      refine w_iload_n 1 dX14_offer_22 rfl rfl rfl ?_
      refine w_icmp_ne 102 dX14_offer_23 rfl rfl (fun q23 => ?_) (fun q23 => ?_)
      · have hr := bf q23 hr
        refine w_iinc 2 (y2 + 1) [(2, .int (y2 + 1)), (0, .ref (A 14 0 0)), (1, .int x1)] dX14_offer_102 rfl rfl rfl (by decide) rfl ?_
        refine w_goto 2 dX14_offer_105 rfl ?_
        refine w_lv [(0, .ref (A 14 0 0)), (1, .int x1), (2, .int (y2 + 1))] [1, 2, 0] rfl ?_
        exact w_X14_offer_2 hf hrm   n (y2 + 1) _ _ hz  hr
      · have hr := bt q23 hr
        refine w_aload_n 0 dX14_offer_26 rfl rfl rfl ?_
        refine w_aload_n 0 dX14_offer_27 rfl rfl rfl ?_
        have hv8 := hz.ww898 (p := 0) (s := 0) rfl
        refine g_X14_16 dX14_offer_28 rfl (hz.o14 rfl) (hz.rr898 rfl) ?_
        refine g_X14_358 dX14_offer_31 rfl (hz.o12 hv8) (hz.r783 hv8) ?_
        refine w_iload_n 2 dX14_offer_34 rfl rfl rfl ?_
        obtain ⟨g9, hr⟩ := gd hr
        refine w_iald dX14_offer_35 rfl (hz.k783 hv8) (gin (hz.n783 hv8) g9) (hz.x783 hv8) ?_
        refine w_aload_n 0 dX14_offer_36 rfl rfl rfl ?_
        refine g_X14_82 dX14_offer_37 rfl (hz.o14 rfl) (hz.r933 rfl) ?_
        refine w_iconst 0 dX14_offer_40 rfl rfl ?_
        obtain ⟨v10, ρ11, e12, hr⟩ := bq_some hr
        refine c_X14_481 (As := [.int (zI ρ 1807 ((zR ρ 898 0 0 0).1) 0 (Int32.toNatClampNeg y2)), .ref (A 1957 0 0), .int 0]) (rest := []) (fun l => s_X14_worth (aok_933 rfl) rfl hz e12 l) hrm dX14_offer_41 rfl rfl (Nat.le_of_ble_eq_true rfl) (Nat.le_of_ble_eq_true rfl) (Nat.le_of_ble_eq_true rfl) (hz.o14 rfl) rfl (Nat.le_of_ble_eq_true rfl) (fun vr h2 hq => ?_) (fun E9 h9 hq => hq.elim)
        obtain ⟨rfl, hz⟩ := hq
        show wp _ _ 44 [(0, .ref (A 14 0 0)), (1, .int x1), (2, .int y2)] [.long v10] _ _ _
        refine w_lconst 0 dX14_offer_44 rfl rfl ?_
        refine w_lcmp dX14_offer_45 rfl ?_
        refine w_if_eq 52 dX14_offer_46 rfl rfl (fun q46 => ?_) (fun q46 => ?_)
        · have hr := bt q46 hr
          refine w_aload_n 0 dX14_offer_52 rfl rfl rfl ?_
          refine g_X14_76 dX14_offer_53 rfl (hz.o14 rfl) (hz.r927 rfl) ?_
          refine w_iload_n 2 dX14_offer_56 rfl rfl rfl ?_
          refine w_dup2 dX14_offer_57 rfl rfl rfl ?_
          obtain ⟨g14, hr⟩ := gd hr
          refine w_iald dX14_offer_58 rfl (hz.k927 rfl) (gin (hz.n927 rfl) g14) (hz.x927 rfl) ?_
          refine w_iconst 1 dX14_offer_59 rfl rfl ?_
          refine w_iadd dX14_offer_60 rfl ?_
          obtain ⟨g15, hr⟩ := gd hr
          refine w_iast dX14_offer_61 rfl (hz.k927 rfl) (gin (hz.n927 rfl) g15) ?_
          obtain ⟨ρ16, e17, hr⟩ := lt_e hr
          have hz := (hz.s927 (i := (Int32.toNatClampNeg y2)) (v := ((zI ρ11 1951 0 0 (Int32.toNatClampNeg y2)) + 1)) rfl).tr e17
          refine w_aload_n 0 dX14_offer_62 rfl rfl rfl ?_
          have hv18 := hz.ww898 (p := 0) (s := 0) rfl
          refine g_X14_16 dX14_offer_63 rfl (hz.o14 rfl) (hz.rr898 rfl) ?_
          refine g_X14_361 dX14_offer_66 rfl (hz.o12 hv18) (hz.r784 hv18) ?_
          refine w_iload_n 2 dX14_offer_69 rfl rfl rfl ?_
          obtain ⟨g19, hr⟩ := gd hr
          refine w_iald dX14_offer_70 rfl (hz.k784 hv18) (gin (hz.n784 hv18) g19) (hz.x784 hv18) ?_
          refine w_bipush 19 dX14_offer_71 rfl rfl ?_
          refine w_icmp_eq 82 dX14_offer_73 rfl rfl (fun q73 => ?_) (fun q73 => ?_)
          · have hr := bt q73 hr
            refine w_aload_n 0 dX14_offer_82 rfl rfl rfl ?_
            have hv20 := hz.ww898 (p := 0) (s := 0) rfl
            refine g_X14_16 dX14_offer_83 rfl (hz.o14 rfl) (hz.rr898 rfl) ?_
            refine g_X14_361 dX14_offer_86 rfl (hz.o12 hv20) (hz.r784 hv20) ?_
            refine w_iload_n 2 dX14_offer_89 rfl rfl rfl ?_
            obtain ⟨g21, hr⟩ := gd hr
            refine w_iald dX14_offer_90 rfl (hz.k784 hv20) (gin (hz.n784 hv20) g21) (hz.x784 hv20) ?_
            refine w_bipush 21 dX14_offer_91 rfl rfl ?_
            refine w_icmp_ne 101 dX14_offer_93 rfl rfl (fun q93 => ?_) (fun q93 => ?_)
            · have hr := bf q93 hr
              refine w_vret hf dX14_offer_101 rfl (Nat.le_of_ble_eq_true rfl) (Nat.le_of_ble_eq_true rfl) ?_
              obtain ⟨rfl, rfl⟩ := ret_inj hr
              exact ⟨rfl, hz⟩
            · have hr := bt q93 hr
              refine w_aload_n 0 dX14_offer_96 rfl rfl rfl ?_
              refine w_iconst 1 dX14_offer_97 rfl rfl ?_
              refine p_X14_456 dX14_offer_98 rfl (hz.o14 rfl) (Or.inr rfl) ?_
              obtain ⟨ρ22, e23, hr⟩ := lt_e hr
              have hz := (hz.s929 (v := 1) rfl).tr e23
              refine w_vret hf dX14_offer_101 rfl (Nat.le_of_ble_eq_true rfl) (Nat.le_of_ble_eq_true rfl) ?_
              obtain ⟨rfl, rfl⟩ := ret_inj hr
              exact ⟨rfl, hz⟩
          · have hr := bf q73 hr
            refine w_aload_n 0 dX14_offer_76 rfl rfl rfl ?_
            refine w_iload_n 1 dX14_offer_77 rfl rfl rfl ?_
            refine w_iload_n 2 dX14_offer_78 rfl rfl rfl ?_
            obtain ⟨v24, ρ25, e26, hr⟩ := bq_some hr
            refine c_X14_485 (As := [.int x1, .int y2]) (rest := []) (fun l => s_X14_hold  hz e26 l) hrm dX14_offer_79 rfl rfl (Nat.le_of_ble_eq_true rfl) (Nat.le_of_ble_eq_true rfl) (Nat.le_of_ble_eq_true rfl) (hz.o14 rfl) rfl (Nat.le_of_ble_eq_true rfl) (fun vr h2 hq => ?_) (fun E9 h9 hq => hq.elim)
            obtain ⟨rfl, hz⟩ := hq
            show wp _ _ 82 [(0, .ref (A 14 0 0)), (1, .int x1), (2, .int y2)] [] _ _ _
            refine w_aload_n 0 dX14_offer_82 rfl rfl rfl ?_
            have hv28 := hz.ww898 (p := 0) (s := 0) rfl
            refine g_X14_16 dX14_offer_83 rfl (hz.o14 rfl) (hz.rr898 rfl) ?_
            refine g_X14_361 dX14_offer_86 rfl (hz.o12 hv28) (hz.r784 hv28) ?_
            refine w_iload_n 2 dX14_offer_89 rfl rfl rfl ?_
            obtain ⟨g29, hr⟩ := gd hr
            refine w_iald dX14_offer_90 rfl (hz.k784 hv28) (gin (hz.n784 hv28) g29) (hz.x784 hv28) ?_
            refine w_bipush 21 dX14_offer_91 rfl rfl ?_
            refine w_icmp_ne 101 dX14_offer_93 rfl rfl (fun q93 => ?_) (fun q93 => ?_)
            · have hr := bf q93 hr
              refine w_vret hf dX14_offer_101 rfl (Nat.le_of_ble_eq_true rfl) (Nat.le_of_ble_eq_true rfl) ?_
              obtain ⟨rfl, rfl⟩ := ret_inj hr
              exact ⟨rfl, hz⟩
            · have hr := bt q93 hr
              refine w_aload_n 0 dX14_offer_96 rfl rfl rfl ?_
              refine w_iconst 1 dX14_offer_97 rfl rfl ?_
              refine p_X14_456 dX14_offer_98 rfl (hz.o14 rfl) (Or.inr rfl) ?_
              obtain ⟨ρ30, e31, hr⟩ := lt_e hr
              have hz := (hz.s929 (v := 1) rfl).tr e31
              refine w_vret hf dX14_offer_101 rfl (Nat.le_of_ble_eq_true rfl) (Nat.le_of_ble_eq_true rfl) ?_
              obtain ⟨rfl, rfl⟩ := ret_inj hr
              exact ⟨rfl, hz⟩
        · have hr := bf q46 hr
          refine w_goto 102 dX14_offer_49 rfl ?_
          refine w_iinc 2 (y2 + 1) [(2, .int (y2 + 1)), (0, .ref (A 14 0 0)), (1, .int x1)] dX14_offer_102 rfl rfl rfl (by decide) rfl ?_
          refine w_goto 2 dX14_offer_105 rfl ?_
          refine w_lv [(0, .ref (A 14 0 0)), (1, .int x1), (2, .int (y2 + 1))] [1, 2, 0] rfl ?_
          exact w_X14_offer_2 hf hrm   n (y2 + 1) _ _ hz  hr
set_option maxRecDepth 20000 in
set_option maxHeartbeats 4000000 in
theorem s_X14_offer {A : Nat → Nat → Nat → Nat} {h : Hp} {σ ρ ρ' : Zs} {v : Unit} {x1 : Int32}  (hz : Rp A h σ ρ) (hr : fX14_offer x1 ρ = some (v, ρ')) : ∀ l : Launch, Sp l mX14_offer 11 0 0 [.ref (A 14 0 0), .int x1] h (QV A v σ ρ') X0 := by
  intro l
  refine Sp.of rfl rfl (lv := [(0, .ref (A 14 0 0)), (1, .int x1)]) (Nat.le_of_ble_eq_true rfl) rfl (fun x hf hrm => ?_)
  rw [fX14_offer.eq_1] at hr
  refine w_iconst 0 dX14_offer_0 rfl rfl ?_
  refine w_istore_n [(2, .int 0), (0, .ref (A 14 0 0)), (1, .int x1)] dX14_offer_1 rfl rfl (by decide) rfl ?_
  refine w_lv [(0, .ref (A 14 0 0)), (1, .int x1), (2, .int 0)] [1, 2, 0] rfl ?_
  exact w_X14_offer_2 hf hrm   FU 0 _ _ hz  hr

set_option maxRecDepth 20000 in
set_option maxHeartbeats 4000000 in
theorem s_X14_endOf {A : Nat → Nat → Nat → Nat} {h : Hp} {σ ρ ρ' : Zs} {v : Int32} {x1 : Int32} {x2 : Int32}  (hz : Rp A h σ ρ) (hr : fX14_endOf x1 x2 ρ = some (v, ρ')) : ∀ l : Launch, Sp l mX14_endOf 0 0 0 [.ref (A 14 0 0), .int x1, .int x2] h (QI A v σ ρ') X0 := by
  intro l
  refine Sp.of rfl rfl (lv := [(0, .ref (A 14 0 0)), (1, .int x1), (2, .int x2)]) (Nat.le_of_ble_eq_true rfl) rfl (fun x hf hrm => ?_)
  rw [fX14_endOf.eq_1] at hr
  refine w_aload_n 0 dX14_endOf_0 rfl rfl rfl ?_
  refine g_X14_91 dX14_endOf_1 rfl (hz.o14 rfl) (hz.r936 rfl) ?_
  refine w_bipush 60 dX14_endOf_4 rfl rfl ?_
  refine w_iload_n 1 dX14_endOf_6 rfl rfl rfl ?_
  refine w_imul dX14_endOf_7 rfl ?_
  refine w_iload_n 2 dX14_endOf_8 rfl rfl rfl ?_
  refine w_iadd dX14_endOf_9 rfl ?_
  obtain ⟨g1, hr⟩ := gd hr
  refine w_iald dX14_endOf_10 rfl (hz.k936 rfl) (gin (hz.n936 rfl) g1) (hz.x936 rfl) ?_
  refine w_aload_n 0 dX14_endOf_11 rfl rfl rfl ?_
  have hv2 := hz.ww898 (p := 0) (s := 0) rfl
  refine g_X14_16 dX14_endOf_12 rfl (hz.o14 rfl) (hz.rr898 rfl) ?_
  refine g_X14_369 dX14_endOf_15 rfl (hz.o12 hv2) (hz.r775 hv2) ?_
  refine w_iload_n 1 dX14_endOf_18 rfl rfl rfl ?_
  obtain ⟨g3, hr⟩ := gd hr
  refine w_iald dX14_endOf_19 rfl (hz.k775 hv2) (gin (hz.n775 hv2) g3) (hz.x775 hv2) ?_
  refine w_iadd dX14_endOf_20 rfl ?_
  refine w_iret hf dX14_endOf_21 rfl (Nat.le_of_ble_eq_true rfl) (Nat.le_of_ble_eq_true rfl) ?_
  obtain ⟨rfl, rfl⟩ := ret_inj hr
  exact ⟨rfl, hz⟩

set_option maxRecDepth 20000 in
set_option maxHeartbeats 4000000 in
theorem w_X14_findWindow_3 {A : Nat → Nat → Nat → Nat} {σ ρ' : Zs} {v : Int32} {x : Cxt} {x1 : Int32} {x2 : Int64} {x4 : Int32}  (hf : m_fin 0 0 (QI A v σ ρ') X0 x) (hrm : m_rm 0 0 0 x)  : ∀ (n : Nat) (y5 : Int32) (ρ : Zs) (h : Hp), Rp A h σ ρ → fX14_findWindow_3 x1 x2 x4  n y5 ρ = some (v, ρ') → wp x mX14_findWindow 3 [(0, .ref (A 14 0 0)), (1, .int x1), (2, .long x2), (4, .int x4), (5, .int y5)] [] h 0 0
  | 0, _, ρ, h => fun hz hr => by
    rw [fX14_findWindow_3.eq_1] at hr
    exact nono hr
  | n + 1, y5, ρ, h => fun hz hr => by
    rw [fX14_findWindow_3.eq_2] at hr
    refine w_iload 4 dX14_findWindow_3 rfl rfl ?_
    refine w_aload_n 0 dX14_findWindow_5 rfl rfl rfl ?_
    refine g_X14_85 dX14_findWindow_6 rfl (hz.o14 rfl) (hz.r934 rfl) ?_
    refine w_iload_n 1 dX14_findWindow_9 rfl rfl rfl ?_
    obtain ⟨g1, hr⟩ := gd hr
    refine w_iald dX14_findWindow_10 rfl (hz.k934 rfl) (gin (hz.n934 rfl) g1) (hz.x934 rfl) ?_
    refine w_icmp_ge 57 dX14_findWindow_11 rfl rfl (fun q11 => ?_) (fun q11 => ?_)
    · have hr := bt q11 hr
      refine w_iconst (-1) dX14_findWindow_57 rfl rfl ?_
      refine w_iret hf dX14_findWindow_58 rfl (Nat.le_of_ble_eq_true rfl) (Nat.le_of_ble_eq_true rfl) ?_
      obtain ⟨rfl, rfl⟩ := ret_inj hr
      exact ⟨rfl, hz⟩
    · have hr := bf q11 hr
      refine w_aload_n 0 dX14_findWindow_14 rfl rfl rfl ?_
      refine g_X14_88 dX14_findWindow_15 rfl (hz.o14 rfl) (hz.r935 rfl) ?_
      refine w_bipush 60 dX14_findWindow_18 rfl rfl ?_
      refine w_iload_n 1 dX14_findWindow_20 rfl rfl rfl ?_
      refine w_imul dX14_findWindow_21 rfl ?_
      refine w_iload 4 dX14_findWindow_22 rfl rfl ?_
      refine w_iadd dX14_findWindow_24 rfl ?_
      obtain ⟨g2, hr⟩ := gd hr
      refine w_lald dX14_findWindow_25 rfl (hz.k935 rfl) (gin (hz.n935 rfl) g2) (hz.x935 rfl) ?_
      refine w_lload_n 2 dX14_findWindow_26 rfl rfl rfl ?_
      refine w_lcmp dX14_findWindow_27 rfl ?_
      refine w_if_ne 51 dX14_findWindow_28 rfl rfl (fun q28 => ?_) (fun q28 => ?_)
      · have hr := bf q28 hr
        refine w_iinc 4 (y5 + 1) [(5, .int (y5 + 1)), (0, .ref (A 14 0 0)), (1, .int x1), (2, .long x2), (4, .int x4)] dX14_findWindow_51 rfl rfl rfl (by decide) rfl ?_
        refine w_goto 3 dX14_findWindow_54 rfl ?_
        refine w_lv [(0, .ref (A 14 0 0)), (1, .int x1), (2, .long x2), (4, .int x4), (5, .int (y5 + 1))] [1, 2, 3, 4, 0] rfl ?_
        exact w_X14_findWindow_3 hf hrm   n (y5 + 1) _ _ hz  hr
      · have hr := bt q28 hr
        refine w_aload_n 0 dX14_findWindow_31 rfl rfl rfl ?_
        refine g_X14_91 dX14_findWindow_32 rfl (hz.o14 rfl) (hz.r936 rfl) ?_
        refine w_bipush 60 dX14_findWindow_35 rfl rfl ?_
        refine w_iload_n 1 dX14_findWindow_37 rfl rfl rfl ?_
        refine w_imul dX14_findWindow_38 rfl ?_
        refine w_iload 4 dX14_findWindow_39 rfl rfl ?_
        refine w_iadd dX14_findWindow_41 rfl ?_
        obtain ⟨g3, hr⟩ := gd hr
        refine w_iald dX14_findWindow_42 rfl (hz.k936 rfl) (gin (hz.n936 rfl) g3) (hz.x936 rfl) ?_
        refine w_iload 3 dX14_findWindow_43 rfl rfl ?_
        refine w_icmp_ne 51 dX14_findWindow_45 rfl rfl (fun q45 => ?_) (fun q45 => ?_)
        · have hr := bf q45 hr
          refine w_iinc 4 (y5 + 1) [(5, .int (y5 + 1)), (0, .ref (A 14 0 0)), (1, .int x1), (2, .long x2), (4, .int x4)] dX14_findWindow_51 rfl rfl rfl (by decide) rfl ?_
          refine w_goto 3 dX14_findWindow_54 rfl ?_
          refine w_lv [(0, .ref (A 14 0 0)), (1, .int x1), (2, .long x2), (4, .int x4), (5, .int (y5 + 1))] [1, 2, 3, 4, 0] rfl ?_
          exact w_X14_findWindow_3 hf hrm   n (y5 + 1) _ _ hz  hr
        · have hr := bt q45 hr
          refine w_iload 4 dX14_findWindow_48 rfl rfl ?_
          refine w_iret hf dX14_findWindow_50 rfl (Nat.le_of_ble_eq_true rfl) (Nat.le_of_ble_eq_true rfl) ?_
          obtain ⟨rfl, rfl⟩ := ret_inj hr
          exact ⟨rfl, hz⟩
set_option maxRecDepth 20000 in
set_option maxHeartbeats 4000000 in
theorem s_X14_findWindow {A : Nat → Nat → Nat → Nat} {h : Hp} {σ ρ ρ' : Zs} {v : Int32} {x1 : Int32} {x2 : Int64} {x4 : Int32}  (hz : Rp A h σ ρ) (hr : fX14_findWindow x1 x2 x4 ρ = some (v, ρ')) : ∀ l : Launch, Sp l mX14_findWindow 0 0 0 [.ref (A 14 0 0), .int x1, .long x2, .int x4] h (QI A v σ ρ') X0 := by
  intro l
  refine Sp.of rfl rfl (lv := [(0, .ref (A 14 0 0)), (1, .int x1), (2, .long x2), (4, .int x4)]) (Nat.le_of_ble_eq_true rfl) rfl (fun x hf hrm => ?_)
  rw [fX14_findWindow.eq_1] at hr
  refine w_iconst 0 dX14_findWindow_0 rfl rfl ?_
  refine w_istore [(5, .int 0), (0, .ref (A 14 0 0)), (1, .int x1), (2, .long x2), (4, .int x4)] dX14_findWindow_1 rfl (by decide) rfl ?_
  refine w_lv [(0, .ref (A 14 0 0)), (1, .int x1), (2, .long x2), (4, .int x4), (5, .int 0)] [1, 2, 3, 4, 0] rfl ?_
  exact w_X14_findWindow_3 hf hrm   FU 0 _ _ hz  hr

set_option maxRecDepth 20000 in
set_option maxHeartbeats 4000000 in
theorem w_X14_putIn_257 {A : Nat → Nat → Nat → Nat} {σ ρ' : Zs} {v : Int32} {x : Cxt} {x1 : Int32} {c2 : Nat} {p2 : Nat} {s2 : Nat} {n2 : Nat} {x3 : Int32} {x4 : Int32} {x5 : Int32} {k161 : Int32 → Int32 → Int32 → Zs → Option (Int32 × Zs)}  (hf : m_fin 0 0 (QI A v σ ρ') X0 x) (hrm : m_rm 3 0 0 x) (hg2 : aok (A 16 0 0) c2 p2 s2 21 n2 = true) (hr2 : isr c2 = true) (hk161 : ∀ (y8 : Int32) (y9 : Int32) (y10 : Int32) (ρ : Zs) (h : Hp), Rp A h σ ρ → k161 y8 y9 y10 ρ = some (v, ρ') → wp x mX14_putIn 161 [(0, .ref (A 14 0 0)), (1, .int x1), (2, .ref (A c2 p2 s2)), (3, .int x3), (4, .int x4), (5, .int x5), (8, .int y8), (9, .int y9), (10, .int y10)] [] h 0 0) : ∀ (y8 : Int32) (y9 : Int32) (y10 : Int32) (y11 : Int32) (y12 : Int32) (y13 : Int64) (z0 : Int64) (ρ : Zs) (h : Hp), Rp A h σ ρ → fX14_putIn_257 x1 c2 p2 s2 n2 x3 x4 x5 k161 y8 y9 y10 y11 y12 y13 z0 ρ = some (v, ρ') → wp x mX14_putIn 257 [(0, .ref (A 14 0 0)), (1, .int x1), (2, .ref (A c2 p2 s2)), (3, .int x3), (4, .int x4), (5, .int x5), (8, .int y8), (9, .int y9), (10, .int y10), (11, .int y11), (12, .int y12), (13, .long y13)] [.long z0] h 0 0 := by
  intro y8 y9 y10 y11 y12 y13 z0 ρ h hz hr
  rw [fX14_putIn_257.eq_1] at hr
  refine w_lstore [(15, .long z0), (0, .ref (A 14 0 0)), (1, .int x1), (2, .ref (A c2 p2 s2)), (3, .int x3), (4, .int x4), (5, .int x5), (8, .int y8), (9, .int y9), (10, .int y10), (11, .int y11), (12, .int y12), (13, .long y13)] dX14_putIn_257 rfl (by decide) rfl ?_
  refine w_iload 10 dX14_putIn_259 rfl rfl ?_
  refine w_bipush 23 dX14_putIn_261 rfl rfl ?_
  refine w_icmp_eq 273 dX14_putIn_263 rfl rfl (fun q263 => ?_) (fun q263 => ?_)
  · have hr := bt q263 hr
    refine w_aload_n 1 dX14_putIn_273 rfl rfl rfl ?_
    refine g_X14_98 dX14_putIn_274 rfl (hz.o14 rfl) (hz.r938 rfl) ?_
    refine w_iload 11 dX14_putIn_277 rfl rfl ?_
    refine w_lload 0 dX14_putIn_279 rfl rfl ?_
    refine w_lload 12 dX14_putIn_281 rfl rfl ?_
    refine w_ladd dX14_putIn_283 rfl ?_
    obtain ⟨g24, hr⟩ := gd hr
    refine w_last dX14_putIn_284 rfl (hz.k938 rfl) (gin (hz.n938 rfl) g24) ?_
    obtain ⟨ρ25, e26, hr⟩ := lt_e hr
    have hz := (hz.s938 (i := (Int32.toNatClampNeg y12)) (v := (z0 + y13)) rfl).tr e26
    refine w_goto 343 dX14_putIn_285 rfl ?_
    refine w_iinc 9 (y10 + 1) [(10, .int (y10 + 1)), (15, .long z0), (0, .ref (A 14 0 0)), (1, .int x1), (2, .ref (A c2 p2 s2)), (3, .int x3), (4, .int x4), (5, .int x5), (8, .int y8), (9, .int y9), (11, .int y11), (12, .int y12), (13, .long y13)] dX14_putIn_343 rfl rfl rfl (by decide) rfl ?_
    refine w_goto 161 dX14_putIn_346 rfl ?_
    refine w_lv [(0, .ref (A 14 0 0)), (1, .int x1), (2, .ref (A c2 p2 s2)), (3, .int x3), (4, .int x4), (5, .int x5), (8, .int y8), (9, .int y9), (10, .int (y10 + 1))] [2, 3, 4, 5, 6, 7, 8, 9, 0] rfl ?_
    exact hk161 y8 y9 (y10 + 1) _ _ hz  hr
  · have hr := bf q263 hr
    refine w_iload 10 dX14_putIn_266 rfl rfl ?_
    refine w_bipush 22 dX14_putIn_268 rfl rfl ?_
    refine w_icmp_ne 288 dX14_putIn_270 rfl rfl (fun q270 => ?_) (fun q270 => ?_)
    · have hr := bf q270 hr
      refine w_iload 8 dX14_putIn_288 rfl rfl ?_
      refine w_if_ne 300 dX14_putIn_290 rfl rfl (fun q290 => ?_) (fun q290 => ?_)
      · have hr := bf q290 hr
        refine w_aload_n 1 dX14_putIn_300 rfl rfl rfl ?_
        refine g_X14_98 dX14_putIn_301 rfl (hz.o14 rfl) (hz.r938 rfl) ?_
        refine w_iload 11 dX14_putIn_304 rfl rfl ?_
        refine w_lload 12 dX14_putIn_306 rfl rfl ?_
        obtain ⟨g27, hr⟩ := gd hr
        refine w_last dX14_putIn_308 rfl (hz.k938 rfl) (gin (hz.n938 rfl) g27) ?_
        obtain ⟨ρ28, e29, hr⟩ := lt_e hr
        have hz := (hz.s938 (i := (Int32.toNatClampNeg y12)) (v := y13) rfl).tr e29
        refine w_goto 343 dX14_putIn_309 rfl ?_
        refine w_iinc 9 (y10 + 1) [(10, .int (y10 + 1)), (15, .long z0), (0, .ref (A 14 0 0)), (1, .int x1), (2, .ref (A c2 p2 s2)), (3, .int x3), (4, .int x4), (5, .int x5), (8, .int y8), (9, .int y9), (11, .int y11), (12, .int y12), (13, .long y13)] dX14_putIn_343 rfl rfl rfl (by decide) rfl ?_
        refine w_goto 161 dX14_putIn_346 rfl ?_
        refine w_lv [(0, .ref (A 14 0 0)), (1, .int x1), (2, .ref (A c2 p2 s2)), (3, .int x3), (4, .int x4), (5, .int x5), (8, .int y8), (9, .int y9), (10, .int (y10 + 1))] [2, 3, 4, 5, 6, 7, 8, 9, 0] rfl ?_
        exact hk161 y8 y9 (y10 + 1) _ _ hz  hr
      · have hr := bt q290 hr
        refine w_iload 10 dX14_putIn_293 rfl rfl ?_
        refine w_bipush 26 dX14_putIn_295 rfl rfl ?_
        refine w_icmp_ne 312 dX14_putIn_297 rfl rfl (fun q297 => ?_) (fun q297 => ?_)
        · have hr := bf q297 hr
          refine w_aload_n 1 dX14_putIn_312 rfl rfl rfl ?_
          refine g_X14_98 dX14_putIn_313 rfl (hz.o14 rfl) (hz.r938 rfl) ?_
          refine w_iload 11 dX14_putIn_316 rfl rfl ?_
          refine w_iload 10 dX14_putIn_318 rfl rfl ?_
          refine w_bipush 24 dX14_putIn_320 rfl rfl ?_
          refine w_icmp_ne 335 dX14_putIn_322 rfl rfl (fun q322 => ?_) (fun q322 => ?_)
          · have hr := bf q322 hr
            refine w_lload 0 dX14_putIn_335 rfl rfl ?_
            refine w_lload 12 dX14_putIn_337 rfl rfl ?_
            refine w_mlmax hrm (by decide) dX14_putIn_339 rfl ml_X14_466 (Nat.le_of_ble_eq_true rfl) (Nat.le_of_ble_eq_true rfl) (Nat.le_of_ble_eq_true rfl) ?_
            obtain ⟨g30, hr⟩ := gd hr
            refine w_last dX14_putIn_342 rfl (hz.k938 rfl) (gin (hz.n938 rfl) g30) ?_
            obtain ⟨ρ31, e32, hr⟩ := lt_e hr
            have hz := (hz.s938 (i := (Int32.toNatClampNeg y12)) (v := (p_lmax z0 y13)) rfl).tr e32
            refine w_iinc 9 (y10 + 1) [(10, .int (y10 + 1)), (15, .long z0), (0, .ref (A 14 0 0)), (1, .int x1), (2, .ref (A c2 p2 s2)), (3, .int x3), (4, .int x4), (5, .int x5), (8, .int y8), (9, .int y9), (11, .int y11), (12, .int y12), (13, .long y13)] dX14_putIn_343 rfl rfl rfl (by decide) rfl ?_
            refine w_goto 161 dX14_putIn_346 rfl ?_
            refine w_lv [(0, .ref (A 14 0 0)), (1, .int x1), (2, .ref (A c2 p2 s2)), (3, .int x3), (4, .int x4), (5, .int x5), (8, .int y8), (9, .int y9), (10, .int (y10 + 1))] [2, 3, 4, 5, 6, 7, 8, 9, 0] rfl ?_
            exact hk161 y8 y9 (y10 + 1) _ _ hz  hr
          · have hr := bt q322 hr
            refine w_lload 0 dX14_putIn_325 rfl rfl ?_
            refine w_lload 12 dX14_putIn_327 rfl rfl ?_
            refine w_mlmin hrm (by decide) dX14_putIn_329 rfl ml_X14_307 (Nat.le_of_ble_eq_true rfl) (Nat.le_of_ble_eq_true rfl) (Nat.le_of_ble_eq_true rfl) ?_
            refine w_goto 342 dX14_putIn_332 rfl ?_
            obtain ⟨g33, hr⟩ := gd hr
            refine w_last dX14_putIn_342 rfl (hz.k938 rfl) (gin (hz.n938 rfl) g33) ?_
            obtain ⟨ρ34, e35, hr⟩ := lt_e hr
            have hz := (hz.s938 (i := (Int32.toNatClampNeg y12)) (v := (p_lmin z0 y13)) rfl).tr e35
            refine w_iinc 9 (y10 + 1) [(10, .int (y10 + 1)), (15, .long z0), (0, .ref (A 14 0 0)), (1, .int x1), (2, .ref (A c2 p2 s2)), (3, .int x3), (4, .int x4), (5, .int x5), (8, .int y8), (9, .int y9), (11, .int y11), (12, .int y12), (13, .long y13)] dX14_putIn_343 rfl rfl rfl (by decide) rfl ?_
            refine w_goto 161 dX14_putIn_346 rfl ?_
            refine w_lv [(0, .ref (A 14 0 0)), (1, .int x1), (2, .ref (A c2 p2 s2)), (3, .int x3), (4, .int x4), (5, .int x5), (8, .int y8), (9, .int y9), (10, .int (y10 + 1))] [2, 3, 4, 5, 6, 7, 8, 9, 0] rfl ?_
            exact hk161 y8 y9 (y10 + 1) _ _ hz  hr
        · have hr := bt q297 hr
          refine w_aload_n 1 dX14_putIn_300 rfl rfl rfl ?_
          refine g_X14_98 dX14_putIn_301 rfl (hz.o14 rfl) (hz.r938 rfl) ?_
          refine w_iload 11 dX14_putIn_304 rfl rfl ?_
          refine w_lload 12 dX14_putIn_306 rfl rfl ?_
          obtain ⟨g36, hr⟩ := gd hr
          refine w_last dX14_putIn_308 rfl (hz.k938 rfl) (gin (hz.n938 rfl) g36) ?_
          obtain ⟨ρ37, e38, hr⟩ := lt_e hr
          have hz := (hz.s938 (i := (Int32.toNatClampNeg y12)) (v := y13) rfl).tr e38
          refine w_goto 343 dX14_putIn_309 rfl ?_
          refine w_iinc 9 (y10 + 1) [(10, .int (y10 + 1)), (15, .long z0), (0, .ref (A 14 0 0)), (1, .int x1), (2, .ref (A c2 p2 s2)), (3, .int x3), (4, .int x4), (5, .int x5), (8, .int y8), (9, .int y9), (11, .int y11), (12, .int y12), (13, .long y13)] dX14_putIn_343 rfl rfl rfl (by decide) rfl ?_
          refine w_goto 161 dX14_putIn_346 rfl ?_
          refine w_lv [(0, .ref (A 14 0 0)), (1, .int x1), (2, .ref (A c2 p2 s2)), (3, .int x3), (4, .int x4), (5, .int x5), (8, .int y8), (9, .int y9), (10, .int (y10 + 1))] [2, 3, 4, 5, 6, 7, 8, 9, 0] rfl ?_
          exact hk161 y8 y9 (y10 + 1) _ _ hz  hr
    · have hr := bt q270 hr
      refine w_aload_n 1 dX14_putIn_273 rfl rfl rfl ?_
      refine g_X14_98 dX14_putIn_274 rfl (hz.o14 rfl) (hz.r938 rfl) ?_
      refine w_iload 11 dX14_putIn_277 rfl rfl ?_
      refine w_lload 0 dX14_putIn_279 rfl rfl ?_
      refine w_lload 12 dX14_putIn_281 rfl rfl ?_
      refine w_ladd dX14_putIn_283 rfl ?_
      obtain ⟨g39, hr⟩ := gd hr
      refine w_last dX14_putIn_284 rfl (hz.k938 rfl) (gin (hz.n938 rfl) g39) ?_
      obtain ⟨ρ40, e41, hr⟩ := lt_e hr
      have hz := (hz.s938 (i := (Int32.toNatClampNeg y12)) (v := (z0 + y13)) rfl).tr e41
      refine w_goto 343 dX14_putIn_285 rfl ?_
      refine w_iinc 9 (y10 + 1) [(10, .int (y10 + 1)), (15, .long z0), (0, .ref (A 14 0 0)), (1, .int x1), (2, .ref (A c2 p2 s2)), (3, .int x3), (4, .int x4), (5, .int x5), (8, .int y8), (9, .int y9), (11, .int y11), (12, .int y12), (13, .long y13)] dX14_putIn_343 rfl rfl rfl (by decide) rfl ?_
      refine w_goto 161 dX14_putIn_346 rfl ?_
      refine w_lv [(0, .ref (A 14 0 0)), (1, .int x1), (2, .ref (A c2 p2 s2)), (3, .int x3), (4, .int x4), (5, .int x5), (8, .int y8), (9, .int y9), (10, .int (y10 + 1))] [2, 3, 4, 5, 6, 7, 8, 9, 0] rfl ?_
      exact hk161 y8 y9 (y10 + 1) _ _ hz  hr
set_option maxRecDepth 20000 in
set_option maxHeartbeats 4000000 in
theorem w_X14_putIn_161 {A : Nat → Nat → Nat → Nat} {σ ρ' : Zs} {v : Int32} {x : Cxt} {x1 : Int32} {c2 : Nat} {p2 : Nat} {s2 : Nat} {n2 : Nat} {x3 : Int32} {x4 : Int32} {x5 : Int32}  (hf : m_fin 0 0 (QI A v σ ρ') X0 x) (hrm : m_rm 3 0 0 x) (hg2 : aok (A 16 0 0) c2 p2 s2 21 n2 = true) (hr2 : isr c2 = true) : ∀ (n : Nat) (y8 : Int32) (y9 : Int32) (y10 : Int32) (ρ : Zs) (h : Hp), Rp A h σ ρ → fX14_putIn_161 x1 c2 p2 s2 n2 x3 x4 x5  n y8 y9 y10 ρ = some (v, ρ') → wp x mX14_putIn 161 [(0, .ref (A 14 0 0)), (1, .int x1), (2, .ref (A c2 p2 s2)), (3, .int x3), (4, .int x4), (5, .int x5), (8, .int y8), (9, .int y9), (10, .int y10)] [] h 0 0
  | 0, _, _, _, ρ, h => fun hz hr => by
    rw [fX14_putIn_161.eq_1] at hr
    exact nono hr
  | n + 1, y8, y9, y10, ρ, h => fun hz hr => by
    rw [fX14_putIn_161.eq_2] at hr
    refine w_iload 8 dX14_putIn_161 rfl rfl ?_
    refine w_aload_n 0 dX14_putIn_163 rfl rfl rfl ?_
    have hv13 := hz.ww898 (p := 0) (s := 0) rfl
    refine g_X14_16 dX14_putIn_164 rfl (hz.o14 rfl) (hz.rr898 rfl) ?_
    refine g_X14_292 dX14_putIn_167 rfl (hz.o12 hv13) (hz.r771 hv13) ?_
    refine w_iload_n 1 dX14_putIn_170 rfl rfl rfl ?_
    obtain ⟨g14, hr⟩ := gd hr
    refine w_iald dX14_putIn_171 rfl (hz.k771 hv13) (gin (hz.n771 hv13) g14) (hz.x771 hv13) ?_
    refine w_icmp_ge 349 dX14_putIn_172 rfl rfl (fun q172 => ?_) (fun q172 => ?_)
    · have hr := bt q172 hr
      refine w_iload 6 dX14_putIn_349 rfl rfl ?_
      refine w_iret hf dX14_putIn_351 rfl (Nat.le_of_ble_eq_true rfl) (Nat.le_of_ble_eq_true rfl) ?_
      obtain ⟨rfl, rfl⟩ := ret_inj hr
      exact ⟨rfl, hz⟩
    · have hr := bf q172 hr
      refine w_aload_n 0 dX14_putIn_175 rfl rfl rfl ?_
      have hv15 := hz.ww898 (p := 0) (s := 0) rfl
      refine g_X14_16 dX14_putIn_176 rfl (hz.o14 rfl) (hz.rr898 rfl) ?_
      refine g_X14_338 dX14_putIn_179 rfl (hz.o12 hv15) (hz.r780 hv15) ?_
      refine w_bipush 6 dX14_putIn_182 rfl rfl ?_
      refine w_iload_n 1 dX14_putIn_184 rfl rfl rfl ?_
      refine w_imul dX14_putIn_185 rfl ?_
      refine w_iload 8 dX14_putIn_186 rfl rfl ?_
      refine w_iadd dX14_putIn_188 rfl ?_
      obtain ⟨g16, hr⟩ := gd hr
      refine w_iald dX14_putIn_189 rfl (hz.k780 hv15) (gin (hz.n780 hv15) g16) (hz.x780 hv15) ?_
      refine w_istore [(11, .int (zI ρ 1804 ((zR ρ 898 0 0 0).1) 0 (Int32.toNatClampNeg ((6 * x1) + y10)))), (0, .ref (A 14 0 0)), (1, .int x1), (2, .ref (A c2 p2 s2)), (3, .int x3), (4, .int x4), (5, .int x5), (8, .int y8), (9, .int y9), (10, .int y10)] dX14_putIn_190 rfl (by decide) rfl ?_
      refine w_bipush 60 dX14_putIn_192 rfl rfl ?_
      refine w_iload_n 2 dX14_putIn_194 rfl rfl rfl ?_
      refine w_imul dX14_putIn_195 rfl ?_
      refine w_iload 7 dX14_putIn_196 rfl rfl ?_
      refine w_iadd dX14_putIn_198 rfl ?_
      refine w_bipush 6 dX14_putIn_199 rfl rfl ?_
      refine w_imul dX14_putIn_201 rfl ?_
      refine w_iload 9 dX14_putIn_202 rfl rfl ?_
      refine w_iadd dX14_putIn_204 rfl ?_
      refine w_istore [(12, .int ((((60 * x1) + y8) * 6) + y10)), (11, .int (zI ρ 1804 ((zR ρ 898 0 0 0).1) 0 (Int32.toNatClampNeg ((6 * x1) + y10)))), (0, .ref (A 14 0 0)), (1, .int x1), (2, .ref (A c2 p2 s2)), (3, .int x3), (4, .int x4), (5, .int x5), (8, .int y8), (9, .int y9), (10, .int y10)] dX14_putIn_205 rfl (by decide) rfl ?_
      refine w_iload 1 dX14_putIn_207 rfl rfl ?_
      refine w_bipush 23 dX14_putIn_209 rfl rfl ?_
      refine w_icmp_ne 218 dX14_putIn_211 rfl rfl (fun q211 => ?_) (fun q211 => ?_)
      · have hr := bf q211 hr
        refine w_aload_n 2 dX14_putIn_218 rfl rfl rfl ?_
        refine w_aload_n 2 dX14_putIn_219 rfl rfl rfl ?_
        have hv17 := hz.ww898 (p := 0) (s := 0) rfl
        refine g_X14_16 dX14_putIn_220 rfl (hz.o14 rfl) (hz.rr898 rfl) ?_
        refine g_X14_335 dX14_putIn_223 rfl (hz.o12 hv17) (hz.r779 hv17) ?_
        refine w_bipush 6 dX14_putIn_226 rfl rfl ?_
        refine w_iload_n 3 dX14_putIn_228 rfl rfl rfl ?_
        refine w_imul dX14_putIn_229 rfl ?_
        refine w_iload 10 dX14_putIn_230 rfl rfl ?_
        refine w_iadd dX14_putIn_232 rfl ?_
        obtain ⟨g18, hr⟩ := gd hr
        refine w_iald dX14_putIn_233 rfl (hz.k779 hv17) (gin (hz.n779 hv17) g18) (hz.x779 hv17) ?_
        refine w_aload_n 4 dX14_putIn_234 rfl rfl rfl ?_
        refine w_iload_n 5 dX14_putIn_235 rfl rfl rfl ?_
        obtain ⟨v19, ρ20, e21, hr⟩ := bq_some hr
        refine c_X14_481 (As := [.int (zI ρ 1803 ((zR ρ 898 0 0 0).1) 0 (Int32.toNatClampNeg ((6 * x1) + y10))), .ref (A c2 p2 s2), .int x3]) (rest := []) (fun l => s_X14_worth hg2 hr2 hz e21 l) hrm dX14_putIn_236 rfl rfl (Nat.le_of_ble_eq_true rfl) (Nat.le_of_ble_eq_true rfl) (Nat.le_of_ble_eq_true rfl) (hz.o14 rfl) rfl (Nat.le_of_ble_eq_true rfl) (fun vr h2 hq => ?_) (fun E9 h9 hq => hq.elim)
        obtain ⟨rfl, hz⟩ := hq
        show wp _ _ 239 [(12, .int ((((60 * x1) + y8) * 6) + y10)), (11, .int (zI ρ 1804 ((zR ρ 898 0 0 0).1) 0 (Int32.toNatClampNeg ((6 * x1) + y10)))), (0, .ref (A 14 0 0)), (1, .int x1), (2, .ref (A c2 p2 s2)), (3, .int x3), (4, .int x4), (5, .int x5), (8, .int y8), (9, .int y9), (10, .int y10)] [.long v19] _ _ _
        refine w_lstore [(13, .long v19), (12, .int ((((60 * x1) + y8) * 6) + y10)), (11, .int (zI ρ 1804 ((zR ρ 898 0 0 0).1) 0 (Int32.toNatClampNeg ((6 * x1) + y10)))), (0, .ref (A 14 0 0)), (1, .int x1), (2, .ref (A c2 p2 s2)), (3, .int x3), (4, .int x4), (5, .int x5), (8, .int y8), (9, .int y9), (10, .int y10)] dX14_putIn_239 rfl (by decide) rfl ?_
        refine w_iload 10 dX14_putIn_241 rfl rfl ?_
        refine w_if_eq 250 dX14_putIn_243 rfl rfl (fun q243 => ?_) (fun q243 => ?_)
        · have hr := bt q243 hr
          refine w_aload_n 3 dX14_putIn_250 rfl rfl rfl ?_
          refine g_X14_98 dX14_putIn_251 rfl (hz.o14 rfl) (hz.r938 rfl) ?_
          refine w_iload 1 dX14_putIn_254 rfl rfl ?_
          obtain ⟨g23, hr⟩ := gd hr
          refine w_lald dX14_putIn_256 rfl (hz.k938 rfl) (gin (hz.n938 rfl) g23) (hz.x938 rfl) ?_
          refine w_lv [(0, .ref (A 14 0 0)), (1, .int x1), (2, .ref (A c2 p2 s2)), (3, .int x3), (4, .int x4), (5, .int x5), (8, .int y8), (9, .int y9), (10, .int y10), (11, .int (zI ρ 1804 ((zR ρ 898 0 0 0).1) 0 (Int32.toNatClampNeg ((6 * x1) + y10)))), (12, .int ((((60 * x1) + y8) * 6) + y10)), (13, .long v19)] [3, 4, 5, 6, 7, 8, 9, 10, 11, 2, 1, 0] rfl ?_
          exact w_X14_putIn_257 hf hrm hg2 hr2 (fun by8 by9 by10 zb hb hzb  hrb => w_X14_putIn_161 hf hrm hg2 hr2  n by8 by9 by10 zb hb hzb  hrb) y8 y9 y10 (zI ρ 1804 ((zR ρ 898 0 0 0).1) 0 (Int32.toNatClampNeg ((6 * x1) + y10))) ((((60 * x1) + y8) * 6) + y10) v19 (zJ ρ20 1962 0 0 (Int32.toNatClampNeg ((((60 * x1) + y8) * 6) + y10))) _ _ hz  hr
        · have hr := bf q243 hr
          refine w_lconst 0 dX14_putIn_246 rfl rfl ?_
          refine w_goto 257 dX14_putIn_247 rfl ?_
          refine w_lv [(0, .ref (A 14 0 0)), (1, .int x1), (2, .ref (A c2 p2 s2)), (3, .int x3), (4, .int x4), (5, .int x5), (8, .int y8), (9, .int y9), (10, .int y10), (11, .int (zI ρ 1804 ((zR ρ 898 0 0 0).1) 0 (Int32.toNatClampNeg ((6 * x1) + y10)))), (12, .int ((((60 * x1) + y8) * 6) + y10)), (13, .long v19)] [3, 4, 5, 6, 7, 8, 9, 10, 11, 2, 1, 0] rfl ?_
          exact w_X14_putIn_257 hf hrm hg2 hr2 (fun by8 by9 by10 zb hb hzb  hrb => w_X14_putIn_161 hf hrm hg2 hr2  n by8 by9 by10 zb hb hzb  hrb) y8 y9 y10 (zI ρ 1804 ((zR ρ 898 0 0 0).1) 0 (Int32.toNatClampNeg ((6 * x1) + y10))) ((((60 * x1) + y8) * 6) + y10) v19 0 _ _ hz  hr
      · have hr := bt q211 hr
        refine w_lconst 1 dX14_putIn_214 rfl rfl ?_
        refine w_goto 239 dX14_putIn_215 rfl ?_
        refine w_lstore [(13, .long 1), (12, .int ((((60 * x1) + y8) * 6) + y10)), (11, .int (zI ρ 1804 ((zR ρ 898 0 0 0).1) 0 (Int32.toNatClampNeg ((6 * x1) + y10)))), (0, .ref (A 14 0 0)), (1, .int x1), (2, .ref (A c2 p2 s2)), (3, .int x3), (4, .int x4), (5, .int x5), (8, .int y8), (9, .int y9), (10, .int y10)] dX14_putIn_239 rfl (by decide) rfl ?_
        refine w_iload 10 dX14_putIn_241 rfl rfl ?_
        refine w_if_eq 250 dX14_putIn_243 rfl rfl (fun q243 => ?_) (fun q243 => ?_)
        · have hr := bt q243 hr
          refine w_aload_n 3 dX14_putIn_250 rfl rfl rfl ?_
          refine g_X14_98 dX14_putIn_251 rfl (hz.o14 rfl) (hz.r938 rfl) ?_
          refine w_iload 1 dX14_putIn_254 rfl rfl ?_
          obtain ⟨g42, hr⟩ := gd hr
          refine w_lald dX14_putIn_256 rfl (hz.k938 rfl) (gin (hz.n938 rfl) g42) (hz.x938 rfl) ?_
          refine w_lv [(0, .ref (A 14 0 0)), (1, .int x1), (2, .ref (A c2 p2 s2)), (3, .int x3), (4, .int x4), (5, .int x5), (8, .int y8), (9, .int y9), (10, .int y10), (11, .int (zI ρ 1804 ((zR ρ 898 0 0 0).1) 0 (Int32.toNatClampNeg ((6 * x1) + y10)))), (12, .int ((((60 * x1) + y8) * 6) + y10)), (13, .long 1)] [3, 4, 5, 6, 7, 8, 9, 10, 11, 2, 1, 0] rfl ?_
          exact w_X14_putIn_257 hf hrm hg2 hr2 (fun by8 by9 by10 zb hb hzb  hrb => w_X14_putIn_161 hf hrm hg2 hr2  n by8 by9 by10 zb hb hzb  hrb) y8 y9 y10 (zI ρ 1804 ((zR ρ 898 0 0 0).1) 0 (Int32.toNatClampNeg ((6 * x1) + y10))) ((((60 * x1) + y8) * 6) + y10) 1 (zJ ρ 1962 0 0 (Int32.toNatClampNeg ((((60 * x1) + y8) * 6) + y10))) _ _ hz  hr
        · have hr := bf q243 hr
          refine w_lconst 0 dX14_putIn_246 rfl rfl ?_
          refine w_goto 257 dX14_putIn_247 rfl ?_
          refine w_lv [(0, .ref (A 14 0 0)), (1, .int x1), (2, .ref (A c2 p2 s2)), (3, .int x3), (4, .int x4), (5, .int x5), (8, .int y8), (9, .int y9), (10, .int y10), (11, .int (zI ρ 1804 ((zR ρ 898 0 0 0).1) 0 (Int32.toNatClampNeg ((6 * x1) + y10)))), (12, .int ((((60 * x1) + y8) * 6) + y10)), (13, .long 1)] [3, 4, 5, 6, 7, 8, 9, 10, 11, 2, 1, 0] rfl ?_
          exact w_X14_putIn_257 hf hrm hg2 hr2 (fun by8 by9 by10 zb hb hzb  hrb => w_X14_putIn_161 hf hrm hg2 hr2  n by8 by9 by10 zb hb hzb  hrb) y8 y9 y10 (zI ρ 1804 ((zR ρ 898 0 0 0).1) 0 (Int32.toNatClampNeg ((6 * x1) + y10))) ((((60 * x1) + y8) * 6) + y10) 1 0 _ _ hz  hr
set_option maxRecDepth 20000 in
set_option maxHeartbeats 4000000 in
theorem w_X14_putIn_140 {A : Nat → Nat → Nat → Nat} {σ ρ' : Zs} {v : Int32} {x : Cxt} {x1 : Int32} {c2 : Nat} {p2 : Nat} {s2 : Nat} {n2 : Nat} {x3 : Int32} {x4 : Int32} {x5 : Int32}  (hf : m_fin 0 0 (QI A v σ ρ') X0 x) (hrm : m_rm 3 0 0 x) (hg2 : aok (A 16 0 0) c2 p2 s2 21 n2 = true) (hr2 : isr c2 = true) : ∀ (y8 : Int32) (z0 : Int32) (ρ : Zs) (h : Hp), Rp A h σ ρ → fX14_putIn_140 x1 c2 p2 s2 n2 x3 x4 x5  y8 z0 ρ = some (v, ρ') → wp x mX14_putIn 140 [(0, .ref (A 14 0 0)), (1, .int x1), (2, .ref (A c2 p2 s2)), (3, .int x3), (4, .int x4), (5, .int x5), (8, .int y8)] [.int z0] h 0 0 := by
  intro y8 z0 ρ h hz hr
  rw [fX14_putIn_140.eq_1] at hr
  refine w_istore [(9, .int z0), (0, .ref (A 14 0 0)), (1, .int x1), (2, .ref (A c2 p2 s2)), (3, .int x3), (4, .int x4), (5, .int x5), (8, .int y8)] dX14_putIn_140 rfl (by decide) rfl ?_
  refine w_aload_n 1 dX14_putIn_142 rfl rfl rfl ?_
  refine g_X14_101 dX14_putIn_143 rfl (hz.o14 rfl) (hz.r939 rfl) ?_
  refine w_bipush 60 dX14_putIn_146 rfl rfl ?_
  refine w_iload_n 2 dX14_putIn_148 rfl rfl rfl ?_
  refine w_imul dX14_putIn_149 rfl ?_
  refine w_iload 7 dX14_putIn_150 rfl rfl ?_
  refine w_iadd dX14_putIn_152 rfl ?_
  refine w_dup2 dX14_putIn_153 rfl rfl rfl ?_
  obtain ⟨g9, hr⟩ := gd hr
  refine w_iald dX14_putIn_154 rfl (hz.k939 rfl) (gin (hz.n939 rfl) g9) (hz.x939 rfl) ?_
  refine w_iconst 1 dX14_putIn_155 rfl rfl ?_
  refine w_iadd dX14_putIn_156 rfl ?_
  obtain ⟨g10, hr⟩ := gd hr
  refine w_iast dX14_putIn_157 rfl (hz.k939 rfl) (gin (hz.n939 rfl) g10) ?_
  obtain ⟨ρ11, e12, hr⟩ := lt_e hr
  have hz := (hz.s939 (i := (Int32.toNatClampNeg ((60 * x1) + y8))) (v := ((zI ρ 1963 0 0 (Int32.toNatClampNeg ((60 * x1) + y8))) + 1)) rfl).tr e12
  refine w_iconst 2 dX14_putIn_158 rfl rfl ?_
  refine w_istore [(10, .int 2), (9, .int z0), (0, .ref (A 14 0 0)), (1, .int x1), (2, .ref (A c2 p2 s2)), (3, .int x3), (4, .int x4), (5, .int x5), (8, .int y8)] dX14_putIn_159 rfl (by decide) rfl ?_
  refine w_lv [(0, .ref (A 14 0 0)), (1, .int x1), (2, .ref (A c2 p2 s2)), (3, .int x3), (4, .int x4), (5, .int x5), (8, .int y8), (9, .int z0), (10, .int 2)] [2, 3, 4, 5, 6, 7, 8, 1, 0] rfl ?_
  exact w_X14_putIn_161 hf hrm hg2 hr2  FU y8 z0 2 _ _ hz  hr
set_option maxRecDepth 20000 in
set_option maxHeartbeats 4000000 in
theorem s_X14_putIn {A : Nat → Nat → Nat → Nat} {h : Hp} {σ ρ ρ' : Zs} {v : Int32} {x1 : Int32} {c2 : Nat} {p2 : Nat} {s2 : Nat} {n2 : Nat} {x3 : Int32} {x4 : Int32} {x5 : Int32} (hg2 : aok (A 16 0 0) c2 p2 s2 21 n2 = true) (hr2 : isr c2 = true) (hz : Rp A h σ ρ) (hr : fX14_putIn x1 c2 p2 s2 n2 x3 x4 x5 ρ = some (v, ρ')) : ∀ l : Launch, Sp l mX14_putIn 3 0 0 [.ref (A 14 0 0), .int x1, .ref (A c2 p2 s2), .int x3, .int x4, .int x5] h (QI A v σ ρ') X0 := by
  intro l
  refine Sp.of rfl rfl (lv := [(0, .ref (A 14 0 0)), (1, .int x1), (2, .ref (A c2 p2 s2)), (3, .int x3), (4, .int x4), (5, .int x5)]) (Nat.le_of_ble_eq_true rfl) rfl (fun x hf hrm => ?_)
  rw [fX14_putIn.eq_1] at hr
  refine w_aload_n 2 dX14_putIn_0 rfl rfl rfl ?_
  refine w_iload_n 3 dX14_putIn_1 rfl rfl rfl ?_
  refine w_iconst 1 dX14_putIn_2 rfl rfl ?_
  refine w_iadd dX14_putIn_3 rfl ?_
  refine w_aload_n 0 dX14_putIn_4 rfl rfl rfl ?_
  have hv1 := hz.ww898 (p := 0) (s := 0) rfl
  refine g_X14_16 dX14_putIn_5 rfl (hz.o14 rfl) (hz.rr898 rfl) ?_
  refine g_X14_387 dX14_putIn_8 rfl (hz.o12 hv1) (hz.r777 hv1) ?_
  refine w_iload_n 1 dX14_putIn_11 rfl rfl rfl ?_
  obtain ⟨g2, hr⟩ := gd hr
  refine w_iald dX14_putIn_12 rfl (hz.k777 hv1) (gin (hz.n777 hv1) g2) (hz.x777 hv1) ?_
  refine w_iadd dX14_putIn_13 rfl ?_
  obtain ⟨g3, hr⟩ := gd hr
  refine w_lald dX14_putIn_14 rfl (hz.gk hg2) (gin (hz.gn hg2) g3) (hz.gyr hg2 hr2) ?_
  refine w_lstore [(6, .long (zJ ρ c2 p2 s2 (Int32.toNatClampNeg ((x3 + 1) + (zI ρ 1801 ((zR ρ 898 0 0 0).1) 0 (Int32.toNatClampNeg x1)))))), (0, .ref (A 14 0 0)), (1, .int x1), (2, .ref (A c2 p2 s2)), (3, .int x3), (4, .int x4), (5, .int x5)] dX14_putIn_15 rfl (by decide) rfl ?_
  refine w_aload_n 1 dX14_putIn_17 rfl rfl rfl ?_
  refine w_iload_n 2 dX14_putIn_18 rfl rfl rfl ?_
  refine w_lload 0 dX14_putIn_19 rfl rfl ?_
  refine w_iload 5 dX14_putIn_21 rfl rfl ?_
  obtain ⟨v4, ρ5, e6, hr⟩ := bq_some hr
  refine c_X14_491 (As := [.int x1, .long (zJ ρ c2 p2 s2 (Int32.toNatClampNeg ((x3 + 1) + (zI ρ 1801 ((zR ρ 898 0 0 0).1) 0 (Int32.toNatClampNeg x1))))), .int x4]) (rest := []) (fun l => s_X14_findWindow  hz e6 l) hrm dX14_putIn_23 rfl rfl (Nat.le_of_ble_eq_true rfl) (Nat.le_of_ble_eq_true rfl) (Nat.le_of_ble_eq_true rfl) (hz.o14 rfl) rfl (Nat.le_of_ble_eq_true rfl) (fun vr h2 hq => ?_) (fun E9 h9 hq => hq.elim)
  obtain ⟨rfl, hz⟩ := hq
  show wp _ _ 26 [(6, .long (zJ ρ c2 p2 s2 (Int32.toNatClampNeg ((x3 + 1) + (zI ρ 1801 ((zR ρ 898 0 0 0).1) 0 (Int32.toNatClampNeg x1)))))), (0, .ref (A 14 0 0)), (1, .int x1), (2, .ref (A c2 p2 s2)), (3, .int x3), (4, .int x4), (5, .int x5)] [.int v4] _ _ _
  refine w_istore [(8, .int v4), (6, .long (zJ ρ c2 p2 s2 (Int32.toNatClampNeg ((x3 + 1) + (zI ρ 1801 ((zR ρ 898 0 0 0).1) 0 (Int32.toNatClampNeg x1)))))), (0, .ref (A 14 0 0)), (1, .int x1), (2, .ref (A c2 p2 s2)), (3, .int x3), (4, .int x4), (5, .int x5)] dX14_putIn_26 rfl (by decide) rfl ?_
  refine w_iload 0 dX14_putIn_28 rfl rfl ?_
  refine w_iconst (-1) dX14_putIn_30 rfl rfl ?_
  refine w_icmp_ne 120 dX14_putIn_31 rfl rfl (fun q31 => ?_) (fun q31 => ?_)
  · have hr := bf q31 hr
    refine w_aload_n 2 dX14_putIn_120 rfl rfl rfl ?_
    refine g_X14_101 dX14_putIn_121 rfl (hz.o14 rfl) (hz.r939 rfl) ?_
    refine w_bipush 60 dX14_putIn_124 rfl rfl ?_
    refine w_iload_n 3 dX14_putIn_126 rfl rfl rfl ?_
    refine w_imul dX14_putIn_127 rfl ?_
    refine w_iload 0 dX14_putIn_128 rfl rfl ?_
    refine w_iadd dX14_putIn_130 rfl ?_
    obtain ⟨g8, hr⟩ := gd hr
    refine w_iald dX14_putIn_131 rfl (hz.k939 rfl) (gin (hz.n939 rfl) g8) (hz.x939 rfl) ?_
    refine w_if_ne 139 dX14_putIn_132 rfl rfl (fun q132 => ?_) (fun q132 => ?_)
    · have hr := bf q132 hr
      refine w_iconst 0 dX14_putIn_139 rfl rfl ?_
      refine w_lv [(0, .ref (A 14 0 0)), (1, .int x1), (2, .ref (A c2 p2 s2)), (3, .int x3), (4, .int x4), (5, .int x5), (8, .int v4)] [2, 3, 4, 5, 6, 7, 0] rfl ?_
      exact w_X14_putIn_140 hf hrm hg2 hr2  v4 0 _ _ hz  hr
    · have hr := bt q132 hr
      refine w_iconst 1 dX14_putIn_135 rfl rfl ?_
      refine w_goto 140 dX14_putIn_136 rfl ?_
      refine w_lv [(0, .ref (A 14 0 0)), (1, .int x1), (2, .ref (A c2 p2 s2)), (3, .int x3), (4, .int x4), (5, .int x5), (8, .int v4)] [2, 3, 4, 5, 6, 7, 0] rfl ?_
      exact w_X14_putIn_140 hf hrm hg2 hr2  v4 1 _ _ hz  hr
  · have hr := bt q31 hr
    refine w_aload_n 2 dX14_putIn_34 rfl rfl rfl ?_
    refine g_X14_85 dX14_putIn_35 rfl (hz.o14 rfl) (hz.r934 rfl) ?_
    refine w_iload_n 3 dX14_putIn_38 rfl rfl rfl ?_
    obtain ⟨g43, hr⟩ := gd hr
    refine w_iald dX14_putIn_39 rfl (hz.k934 rfl) (gin (hz.n934 rfl) g43) (hz.x934 rfl) ?_
    refine w_bipush 60 dX14_putIn_40 rfl rfl ?_
    refine w_icmp_ne 47 dX14_putIn_42 rfl rfl (fun q42 => ?_) (fun q42 => ?_)
    · have hr := bf q42 hr
      refine w_aload_n 2 dX14_putIn_47 rfl rfl rfl ?_
      refine g_X14_85 dX14_putIn_48 rfl (hz.o14 rfl) (hz.r934 rfl) ?_
      refine w_iload_n 3 dX14_putIn_51 rfl rfl rfl ?_
      obtain ⟨g44, hr⟩ := gd hr
      refine w_iald dX14_putIn_52 rfl (hz.k934 rfl) (gin (hz.n934 rfl) g44) (hz.x934 rfl) ?_
      refine w_istore [(8, .int (zI ρ5 1958 0 0 (Int32.toNatClampNeg x1))), (6, .long (zJ ρ c2 p2 s2 (Int32.toNatClampNeg ((x3 + 1) + (zI ρ 1801 ((zR ρ 898 0 0 0).1) 0 (Int32.toNatClampNeg x1)))))), (0, .ref (A 14 0 0)), (1, .int x1), (2, .ref (A c2 p2 s2)), (3, .int x3), (4, .int x4), (5, .int x5)] dX14_putIn_53 rfl (by decide) rfl ?_
      refine w_aload_n 2 dX14_putIn_55 rfl rfl rfl ?_
      refine g_X14_85 dX14_putIn_56 rfl (hz.o14 rfl) (hz.r934 rfl) ?_
      refine w_iload_n 3 dX14_putIn_59 rfl rfl rfl ?_
      refine w_dup2 dX14_putIn_60 rfl rfl rfl ?_
      obtain ⟨g45, hr⟩ := gd hr
      refine w_iald dX14_putIn_61 rfl (hz.k934 rfl) (gin (hz.n934 rfl) g45) (hz.x934 rfl) ?_
      refine w_iconst 1 dX14_putIn_62 rfl rfl ?_
      refine w_iadd dX14_putIn_63 rfl ?_
      obtain ⟨g46, hr⟩ := gd hr
      refine w_iast dX14_putIn_64 rfl (hz.k934 rfl) (gin (hz.n934 rfl) g46) ?_
      obtain ⟨ρ47, e48, hr⟩ := lt_e hr
      have hz := (hz.s934 (i := (Int32.toNatClampNeg x1)) (v := ((zI ρ5 1958 0 0 (Int32.toNatClampNeg x1)) + 1)) rfl).tr e48
      refine w_aload_n 2 dX14_putIn_65 rfl rfl rfl ?_
      refine g_X14_88 dX14_putIn_66 rfl (hz.o14 rfl) (hz.r935 rfl) ?_
      refine w_bipush 60 dX14_putIn_69 rfl rfl ?_
      refine w_iload_n 3 dX14_putIn_71 rfl rfl rfl ?_
      refine w_imul dX14_putIn_72 rfl ?_
      refine w_iload 0 dX14_putIn_73 rfl rfl ?_
      refine w_iadd dX14_putIn_75 rfl ?_
      refine w_lload 1 dX14_putIn_76 rfl rfl ?_
      obtain ⟨g49, hr⟩ := gd hr
      refine w_last dX14_putIn_78 rfl (hz.k935 rfl) (gin (hz.n935 rfl) g49) ?_
      obtain ⟨ρ50, e51, hr⟩ := lt_e hr
      have hz := (hz.s935 (i := (Int32.toNatClampNeg ((60 * x1) + (zI ρ5 1958 0 0 (Int32.toNatClampNeg x1))))) (v := (zJ ρ c2 p2 s2 (Int32.toNatClampNeg ((x3 + 1) + (zI ρ 1801 ((zR ρ 898 0 0 0).1) 0 (Int32.toNatClampNeg x1)))))) rfl).tr e51
      refine w_aload_n 2 dX14_putIn_79 rfl rfl rfl ?_
      refine g_X14_91 dX14_putIn_80 rfl (hz.o14 rfl) (hz.r936 rfl) ?_
      refine w_bipush 60 dX14_putIn_83 rfl rfl ?_
      refine w_iload_n 3 dX14_putIn_85 rfl rfl rfl ?_
      refine w_imul dX14_putIn_86 rfl ?_
      refine w_iload 0 dX14_putIn_87 rfl rfl ?_
      refine w_iadd dX14_putIn_89 rfl ?_
      refine w_iload 6 dX14_putIn_90 rfl rfl ?_
      obtain ⟨g52, hr⟩ := gd hr
      refine w_iast dX14_putIn_92 rfl (hz.k936 rfl) (gin (hz.n936 rfl) g52) ?_
      obtain ⟨ρ53, e54, hr⟩ := lt_e hr
      have hz := (hz.s936 (i := (Int32.toNatClampNeg ((60 * x1) + (zI ρ5 1958 0 0 (Int32.toNatClampNeg x1))))) (v := x4) rfl).tr e54
      refine w_aload_n 2 dX14_putIn_93 rfl rfl rfl ?_
      refine g_X14_94 dX14_putIn_94 rfl (hz.o14 rfl) (hz.r937 rfl) ?_
      refine w_bipush 60 dX14_putIn_97 rfl rfl ?_
      refine w_iload_n 3 dX14_putIn_99 rfl rfl rfl ?_
      refine w_imul dX14_putIn_100 rfl ?_
      refine w_iload 0 dX14_putIn_101 rfl rfl ?_
      refine w_iadd dX14_putIn_103 rfl ?_
      refine w_iload 7 dX14_putIn_104 rfl rfl ?_
      obtain ⟨g55, hr⟩ := gd hr
      obtain ⟨g56, hr⟩ := gd hr
      refine w_zast dX14_putIn_106 rfl (hz.k937 rfl) (gin (hz.n937 rfl) g55) (zn g56) ?_
      obtain ⟨ρ57, e58, hr⟩ := lt_e hr
      have hz := (hz.s937 (i := (Int32.toNatClampNeg ((60 * x1) + (zI ρ5 1958 0 0 (Int32.toNatClampNeg x1))))) (v := x5) rfl).tr e58
      refine w_aload_n 2 dX14_putIn_107 rfl rfl rfl ?_
      refine g_X14_101 dX14_putIn_108 rfl (hz.o14 rfl) (hz.r939 rfl) ?_
      refine w_bipush 60 dX14_putIn_111 rfl rfl ?_
      refine w_iload_n 3 dX14_putIn_113 rfl rfl rfl ?_
      refine w_imul dX14_putIn_114 rfl ?_
      refine w_iload 0 dX14_putIn_115 rfl rfl ?_
      refine w_iadd dX14_putIn_117 rfl ?_
      refine w_iconst 0 dX14_putIn_118 rfl rfl ?_
      obtain ⟨g59, hr⟩ := gd hr
      refine w_iast dX14_putIn_119 rfl (hz.k939 rfl) (gin (hz.n939 rfl) g59) ?_
      obtain ⟨ρ60, e61, hr⟩ := lt_e hr
      have hz := (hz.s939 (i := (Int32.toNatClampNeg ((60 * x1) + (zI ρ5 1958 0 0 (Int32.toNatClampNeg x1))))) (v := 0) rfl).tr e61
      refine w_aload_n 2 dX14_putIn_120 rfl rfl rfl ?_
      refine g_X14_101 dX14_putIn_121 rfl (hz.o14 rfl) (hz.r939 rfl) ?_
      refine w_bipush 60 dX14_putIn_124 rfl rfl ?_
      refine w_iload_n 3 dX14_putIn_126 rfl rfl rfl ?_
      refine w_imul dX14_putIn_127 rfl ?_
      refine w_iload 0 dX14_putIn_128 rfl rfl ?_
      refine w_iadd dX14_putIn_130 rfl ?_
      obtain ⟨g62, hr⟩ := gd hr
      refine w_iald dX14_putIn_131 rfl (hz.k939 rfl) (gin (hz.n939 rfl) g62) (hz.x939 rfl) ?_
      refine w_if_ne 139 dX14_putIn_132 rfl rfl (fun q132 => ?_) (fun q132 => ?_)
      · have hr := bf q132 hr
        refine w_iconst 0 dX14_putIn_139 rfl rfl ?_
        refine w_lv [(0, .ref (A 14 0 0)), (1, .int x1), (2, .ref (A c2 p2 s2)), (3, .int x3), (4, .int x4), (5, .int x5), (8, .int (zI ρ5 1958 0 0 (Int32.toNatClampNeg x1)))] [2, 3, 4, 5, 6, 7, 0] rfl ?_
        exact w_X14_putIn_140 hf hrm hg2 hr2  (zI ρ5 1958 0 0 (Int32.toNatClampNeg x1)) 0 _ _ hz  hr
      · have hr := bt q132 hr
        refine w_iconst 1 dX14_putIn_135 rfl rfl ?_
        refine w_goto 140 dX14_putIn_136 rfl ?_
        refine w_lv [(0, .ref (A 14 0 0)), (1, .int x1), (2, .ref (A c2 p2 s2)), (3, .int x3), (4, .int x4), (5, .int x5), (8, .int (zI ρ5 1958 0 0 (Int32.toNatClampNeg x1)))] [2, 3, 4, 5, 6, 7, 0] rfl ?_
        exact w_X14_putIn_140 hf hrm hg2 hr2  (zI ρ5 1958 0 0 (Int32.toNatClampNeg x1)) 1 _ _ hz  hr
    · have hr := bt q42 hr
      refine w_iconst (-1) dX14_putIn_45 rfl rfl ?_
      refine w_iret hf dX14_putIn_46 rfl (Nat.le_of_ble_eq_true rfl) (Nat.le_of_ble_eq_true rfl) ?_
      obtain ⟨rfl, rfl⟩ := ret_inj hr
      exact ⟨rfl, hz⟩

set_option maxRecDepth 20000 in
set_option maxHeartbeats 4000000 in
theorem w_X14_offerWindow_50 {A : Nat → Nat → Nat → Nat} {σ ρ' : Zs} {v : Unit} {x : Cxt} {x1 : Int32} {x2 : Int32}  (hf : m_fin 0 0 (QV A v σ ρ') X0 x) (hrm : m_rm 12 0 0 x)  : ∀ (n : Nat) (y3 : Int32) (ρ : Zs) (h : Hp), Rp A h σ ρ → fX14_offerWindow_50 x1 x2  n y3 ρ = some (v, ρ') → wp x mX14_offerWindow 50 [(0, .ref (A 14 0 0)), (1, .int x1), (2, .int x2), (3, .int y3)] [] h 0 0
  | 0, _, ρ, h => fun hz hr => by
    rw [fX14_offerWindow_50.eq_1] at hr
    exact nono hr
  | n + 1, y3, ρ, h => fun hz hr => by
    rw [fX14_offerWindow_50.eq_2] at hr
    refine w_iload_n 3 dX14_offerWindow_50 rfl rfl rfl ?_
    refine w_aload_n 0 dX14_offerWindow_51 rfl rfl rfl ?_
    have hv16 := hz.ww898 (p := 0) (s := 0) rfl
    refine g_X14_16 dX14_offerWindow_52 rfl (hz.o14 rfl) (hz.rr898 rfl) ?_
    refine g_X14_292 dX14_offerWindow_55 rfl (hz.o12 hv16) (hz.r771 hv16) ?_
    refine w_iload_n 1 dX14_offerWindow_58 rfl rfl rfl ?_
    obtain ⟨g17, hr⟩ := gd hr
    refine w_iald dX14_offerWindow_59 rfl (hz.k771 hv16) (gin (hz.n771 hv16) g17) (hz.x771 hv16) ?_
    refine w_icmp_ge 93 dX14_offerWindow_60 rfl rfl (fun q60 => ?_) (fun q60 => ?_)
    · have hr := bt q60 hr
      refine w_aload_n 0 dX14_offerWindow_93 rfl rfl rfl ?_
      refine w_iload_n 1 dX14_offerWindow_94 rfl rfl rfl ?_
      obtain ⟨v18, ρ19, e20, hr⟩ := bq_some hr
      refine c_X14_498 (As := [.int x1]) (rest := []) (fun l => s_X14_offer  hz e20 l) hrm dX14_offerWindow_95 rfl rfl (Nat.le_of_ble_eq_true rfl) (Nat.le_of_ble_eq_true rfl) (Nat.le_of_ble_eq_true rfl) (hz.o14 rfl) rfl (Nat.le_of_ble_eq_true rfl) (fun vr h2 hq => ?_) (fun E9 h9 hq => hq.elim)
      obtain ⟨rfl, hz⟩ := hq
      show wp _ _ 98 [(0, .ref (A 14 0 0)), (1, .int x1), (2, .int x2), (3, .int y3)] [] _ _ _
      refine w_vret hf dX14_offerWindow_98 rfl (Nat.le_of_ble_eq_true rfl) (Nat.le_of_ble_eq_true rfl) ?_
      obtain ⟨rfl, rfl⟩ := ret_inj hr
      exact ⟨rfl, hz⟩
    · have hr := bf q60 hr
      refine w_aload_n 0 dX14_offerWindow_63 rfl rfl rfl ?_
      refine g_X14_82 dX14_offerWindow_64 rfl (hz.o14 rfl) (hz.r933 rfl) ?_
      refine w_iconst 1 dX14_offerWindow_67 rfl rfl ?_
      refine w_iload_n 3 dX14_offerWindow_68 rfl rfl rfl ?_
      refine w_iadd dX14_offerWindow_69 rfl ?_
      refine w_aload_n 0 dX14_offerWindow_70 rfl rfl rfl ?_
      refine g_X14_98 dX14_offerWindow_71 rfl (hz.o14 rfl) (hz.r938 rfl) ?_
      refine w_bipush 60 dX14_offerWindow_74 rfl rfl ?_
      refine w_iload_n 1 dX14_offerWindow_76 rfl rfl rfl ?_
      refine w_imul dX14_offerWindow_77 rfl ?_
      refine w_iload_n 2 dX14_offerWindow_78 rfl rfl rfl ?_
      refine w_iadd dX14_offerWindow_79 rfl ?_
      refine w_bipush 6 dX14_offerWindow_80 rfl rfl ?_
      refine w_imul dX14_offerWindow_82 rfl ?_
      refine w_iload_n 3 dX14_offerWindow_83 rfl rfl rfl ?_
      refine w_iadd dX14_offerWindow_84 rfl ?_
      obtain ⟨g22, hr⟩ := gd hr
      refine w_lald dX14_offerWindow_85 rfl (hz.k938 rfl) (gin (hz.n938 rfl) g22) (hz.x938 rfl) ?_
      obtain ⟨g23, hr⟩ := gd hr
      refine w_last dX14_offerWindow_86 rfl (hz.k933 rfl) (gin (hz.n933 rfl) g23) ?_
      obtain ⟨ρ24, e25, hr⟩ := lt_e hr
      have hz := (hz.s933 (i := (Int32.toNatClampNeg (1 + y3))) (v := (zJ ρ 1962 0 0 (Int32.toNatClampNeg ((((60 * x1) + x2) * 6) + y3)))) rfl).tr e25
      refine w_iinc 3 (y3 + 1) [(3, .int (y3 + 1)), (0, .ref (A 14 0 0)), (1, .int x1), (2, .int x2)] dX14_offerWindow_87 rfl rfl rfl (by decide) rfl ?_
      refine w_goto 50 dX14_offerWindow_90 rfl ?_
      refine w_lv [(0, .ref (A 14 0 0)), (1, .int x1), (2, .int x2), (3, .int (y3 + 1))] [1, 2, 3, 0] rfl ?_
      exact w_X14_offerWindow_50 hf hrm   n (y3 + 1) _ _ hz  hr
set_option maxRecDepth 20000 in
set_option maxHeartbeats 4000000 in
theorem s_X14_offerWindow {A : Nat → Nat → Nat → Nat} {h : Hp} {σ ρ ρ' : Zs} {v : Unit} {x1 : Int32} {x2 : Int32}  (hz : Rp A h σ ρ) (hr : fX14_offerWindow x1 x2 ρ = some (v, ρ')) : ∀ l : Launch, Sp l mX14_offerWindow 12 0 0 [.ref (A 14 0 0), .int x1, .int x2] h (QV A v σ ρ') X0 := by
  intro l
  refine Sp.of rfl rfl (lv := [(0, .ref (A 14 0 0)), (1, .int x1), (2, .int x2)]) (Nat.le_of_ble_eq_true rfl) rfl (fun x hf hrm => ?_)
  rw [fX14_offerWindow.eq_1] at hr
  refine w_aload_n 0 dX14_offerWindow_0 rfl rfl rfl ?_
  refine g_X14_82 dX14_offerWindow_1 rfl (hz.o14 rfl) (hz.r933 rfl) ?_
  refine w_iconst 0 dX14_offerWindow_4 rfl rfl ?_
  refine w_aload_n 0 dX14_offerWindow_5 rfl rfl rfl ?_
  refine w_iload_n 1 dX14_offerWindow_6 rfl rfl rfl ?_
  refine w_iload_n 2 dX14_offerWindow_7 rfl rfl rfl ?_
  obtain ⟨v1, ρ2, e3, hr⟩ := bq_some hr
  refine c_X14_495 (As := [.int x1, .int x2]) (rest := [.int 0, .ref (A 1957 0 0)]) (fun l => s_X14_endOf  hz e3 l) hrm dX14_offerWindow_8 rfl rfl (Nat.le_of_ble_eq_true rfl) (Nat.le_of_ble_eq_true rfl) (Nat.le_of_ble_eq_true rfl) (hz.o14 rfl) rfl (Nat.le_of_ble_eq_true rfl) (fun vr h2 hq => ?_) (fun E9 h9 hq => hq.elim)
  obtain ⟨rfl, hz⟩ := hq
  show wp _ _ 11 [(0, .ref (A 14 0 0)), (1, .int x1), (2, .int x2)] [.int v1, .int 0, .ref (A 1957 0 0)] _ _ _
  refine w_i2l dX14_offerWindow_11 rfl ?_
  obtain ⟨g5, hr⟩ := gd hr
  refine w_last dX14_offerWindow_12 rfl (hz.k933 rfl) (gin (hz.n933 rfl) g5) ?_
  obtain ⟨ρ6, e7, hr⟩ := lt_e hr
  have hz := (hz.s933 (i := (Int32.toNatClampNeg 0)) (v := ((v1 : Int32).toInt64)) rfl).tr e7
  refine w_aload_n 0 dX14_offerWindow_13 rfl rfl rfl ?_
  refine g_X14_82 dX14_offerWindow_14 rfl (hz.o14 rfl) (hz.r933 rfl) ?_
  refine w_iconst 1 dX14_offerWindow_17 rfl rfl ?_
  refine w_aload_n 0 dX14_offerWindow_18 rfl rfl rfl ?_
  refine g_X14_88 dX14_offerWindow_19 rfl (hz.o14 rfl) (hz.r935 rfl) ?_
  refine w_bipush 60 dX14_offerWindow_22 rfl rfl ?_
  refine w_iload_n 1 dX14_offerWindow_24 rfl rfl rfl ?_
  refine w_imul dX14_offerWindow_25 rfl ?_
  refine w_iload_n 2 dX14_offerWindow_26 rfl rfl rfl ?_
  refine w_iadd dX14_offerWindow_27 rfl ?_
  obtain ⟨g8, hr⟩ := gd hr
  refine w_lald dX14_offerWindow_28 rfl (hz.k935 rfl) (gin (hz.n935 rfl) g8) (hz.x935 rfl) ?_
  obtain ⟨g9, hr⟩ := gd hr
  refine w_last dX14_offerWindow_29 rfl (hz.k933 rfl) (gin (hz.n933 rfl) g9) ?_
  obtain ⟨ρ10, e11, hr⟩ := lt_e hr
  have hz := (hz.s933 (i := (Int32.toNatClampNeg 1)) (v := (zJ ρ6 1959 0 0 (Int32.toNatClampNeg ((60 * x1) + x2)))) rfl).tr e11
  refine w_aload_n 0 dX14_offerWindow_30 rfl rfl rfl ?_
  refine g_X14_82 dX14_offerWindow_31 rfl (hz.o14 rfl) (hz.r933 rfl) ?_
  refine w_iconst 2 dX14_offerWindow_34 rfl rfl ?_
  refine w_aload_n 0 dX14_offerWindow_35 rfl rfl rfl ?_
  refine g_X14_91 dX14_offerWindow_36 rfl (hz.o14 rfl) (hz.r936 rfl) ?_
  refine w_bipush 60 dX14_offerWindow_39 rfl rfl ?_
  refine w_iload_n 1 dX14_offerWindow_41 rfl rfl rfl ?_
  refine w_imul dX14_offerWindow_42 rfl ?_
  refine w_iload_n 2 dX14_offerWindow_43 rfl rfl rfl ?_
  refine w_iadd dX14_offerWindow_44 rfl ?_
  obtain ⟨g12, hr⟩ := gd hr
  refine w_iald dX14_offerWindow_45 rfl (hz.k936 rfl) (gin (hz.n936 rfl) g12) (hz.x936 rfl) ?_
  refine w_i2l dX14_offerWindow_46 rfl ?_
  obtain ⟨g13, hr⟩ := gd hr
  refine w_last dX14_offerWindow_47 rfl (hz.k933 rfl) (gin (hz.n933 rfl) g13) ?_
  obtain ⟨ρ14, e15, hr⟩ := lt_e hr
  have hz := (hz.s933 (i := (Int32.toNatClampNeg 2)) (v := (((zI ρ10 1960 0 0 (Int32.toNatClampNeg ((60 * x1) + x2))) : Int32).toInt64)) rfl).tr e15
  refine w_iconst 2 dX14_offerWindow_48 rfl rfl ?_
  refine w_istore_n [(3, .int 2), (0, .ref (A 14 0 0)), (1, .int x1), (2, .int x2)] dX14_offerWindow_49 rfl rfl (by decide) rfl ?_
  refine w_lv [(0, .ref (A 14 0 0)), (1, .int x1), (2, .int x2), (3, .int 2)] [1, 2, 3, 0] rfl ?_
  exact w_X14_offerWindow_50 hf hrm   FU 2 _ _ hz  hr

set_option maxRecDepth 20000 in
set_option maxHeartbeats 4000000 in
theorem s_X14_beginOf {A : Nat → Nat → Nat → Nat} {h : Hp} {σ ρ ρ' : Zs} {v : Int32} {x1 : Int32} {x2 : Int64}  (hz : Rp A h σ ρ) (hr : fX14_beginOf x1 x2 ρ = some (v, ρ')) : ∀ l : Launch, Sp l mX14_beginOf 0 0 0 [.ref (A 14 0 0), .int x1, .long x2] h (QI A v σ ρ') X0 := by
  intro l
  refine Sp.of rfl rfl (lv := [(0, .ref (A 14 0 0)), (1, .int x1), (2, .long x2)]) (Nat.le_of_ble_eq_true rfl) rfl (fun x hf hrm => ?_)
  rw [fX14_beginOf.eq_1] at hr
  refine w_lload_n 2 dX14_beginOf_0 rfl rfl rfl ?_
  refine w_aload_n 0 dX14_beginOf_1 rfl rfl rfl ?_
  have hv1 := hz.ww898 (p := 0) (s := 0) rfl
  refine g_X14_16 dX14_beginOf_2 rfl (hz.o14 rfl) (hz.rr898 rfl) ?_
  refine g_X14_369 dX14_beginOf_5 rfl (hz.o12 hv1) (hz.r775 hv1) ?_
  refine w_iload_n 1 dX14_beginOf_8 rfl rfl rfl ?_
  obtain ⟨g2, hr⟩ := gd hr
  refine w_iald dX14_beginOf_9 rfl (hz.k775 hv1) (gin (hz.n775 hv1) g2) (hz.x775 hv1) ?_
  refine w_i2l dX14_beginOf_10 rfl ?_
  obtain ⟨g3, hr⟩ := gd hr
  refine w_ldiv dX14_beginOf_11 rfl g3 ?_
  refine w_aload_n 0 dX14_beginOf_12 rfl rfl rfl ?_
  have hv4 := hz.ww898 (p := 0) (s := 0) rfl
  refine g_X14_16 dX14_beginOf_13 rfl (hz.o14 rfl) (hz.rr898 rfl) ?_
  refine g_X14_369 dX14_beginOf_16 rfl (hz.o12 hv4) (hz.r775 hv4) ?_
  refine w_iload_n 1 dX14_beginOf_19 rfl rfl rfl ?_
  obtain ⟨g5, hr⟩ := gd hr
  refine w_iald dX14_beginOf_20 rfl (hz.k775 hv4) (gin (hz.n775 hv4) g5) (hz.x775 hv4) ?_
  refine w_i2l dX14_beginOf_21 rfl ?_
  refine w_lmul dX14_beginOf_22 rfl ?_
  refine w_l2i dX14_beginOf_23 rfl ?_
  refine w_iret hf dX14_beginOf_24 rfl (Nat.le_of_ble_eq_true rfl) (Nat.le_of_ble_eq_true rfl) ?_
  obtain ⟨rfl, rfl⟩ := ret_inj hr
  exact ⟨rfl, hz⟩

set_option maxRecDepth 20000 in
set_option maxHeartbeats 4000000 in
theorem w_X14_windowRow_97 {A : Nat → Nat → Nat → Nat} {σ ρ' : Zs} {v : Unit} {x : Cxt} {x1 : Int32} {x3 : Int32}  (hf : m_fin 0 0 (QV A v σ ρ') X0 x) (hrm : m_rm 13 0 0 x)  : ∀ (y6 : Int32) (z0 : Int32) (z1 : Int32) (z2 : Int32) (z4 : Int32) (ρ : Zs) (h : Hp), Rp A h σ ρ → fX14_windowRow_97 x1 x3  y6 z0 z1 z2 z4 ρ = some (v, ρ') → wp x mX14_windowRow 97 [(0, .ref (A 14 0 0)), (1, .int x1), (2, .ref (A 1940 0 0)), (3, .int x3), (6, .int y6)] [.int z0, .int z1, .int z2, .ref (A 1940 0 0), .int z4, .ref (A 14 0 0)] h 0 0 := by
  intro y6 z0 z1 z2 z4 ρ h hz hr
  rw [fX14_windowRow_97.eq_1] at hr
  obtain ⟨v9, ρ10, e11, hr⟩ := bq_some hr
  refine c_X14_508 (As := [.int z4, .ref (A 1940 0 0), .int z2, .int z1, .int z0]) (rest := []) (fun l => s_X14_putIn (aok_916 rfl) rfl hz e11 l) hrm dX14_windowRow_97 rfl rfl (Nat.le_of_ble_eq_true rfl) (Nat.le_of_ble_eq_true rfl) (Nat.le_of_ble_eq_true rfl) (hz.o14 rfl) rfl (Nat.le_of_ble_eq_true rfl) (fun vr h2 hq => ?_) (fun E9 h9 hq => hq.elim)
  obtain ⟨rfl, hz⟩ := hq
  show wp _ _ 100 [(0, .ref (A 14 0 0)), (1, .int x1), (2, .ref (A 1940 0 0)), (3, .int x3), (6, .int y6)] [.int v9] _ _ _
  refine w_istore [(7, .int v9), (0, .ref (A 14 0 0)), (1, .int x1), (2, .ref (A 1940 0 0)), (3, .int x3), (6, .int y6)] dX14_windowRow_100 rfl (by decide) rfl ?_
  refine w_iload 0 dX14_windowRow_102 rfl rfl ?_
  refine w_iconst (-1) dX14_windowRow_104 rfl rfl ?_
  refine w_icmp_ne 121 dX14_windowRow_105 rfl rfl (fun q105 => ?_) (fun q105 => ?_)
  · have hr := bf q105 hr
    refine w_iload 5 dX14_windowRow_121 rfl rfl ?_
    refine w_if_ne 133 dX14_windowRow_123 rfl rfl (fun q123 => ?_) (fun q123 => ?_)
    · have hr := bf q123 hr
      refine w_vret hf dX14_windowRow_133 rfl (Nat.le_of_ble_eq_true rfl) (Nat.le_of_ble_eq_true rfl) ?_
      obtain ⟨rfl, rfl⟩ := ret_inj hr
      exact ⟨rfl, hz⟩
    · have hr := bt q123 hr
      refine w_aload_n 1 dX14_windowRow_126 rfl rfl rfl ?_
      refine w_iload_n 2 dX14_windowRow_127 rfl rfl rfl ?_
      refine w_iload 0 dX14_windowRow_128 rfl rfl ?_
      obtain ⟨v13, ρ14, e15, hr⟩ := bq_some hr
      refine c_X14_512 (As := [.int x1, .int v9]) (rest := []) (fun l => s_X14_offerWindow  hz e15 l) hrm dX14_windowRow_130 rfl rfl (Nat.le_of_ble_eq_true rfl) (Nat.le_of_ble_eq_true rfl) (Nat.le_of_ble_eq_true rfl) (hz.o14 rfl) rfl (Nat.le_of_ble_eq_true rfl) (fun vr h2 hq => ?_) (fun E9 h9 hq => hq.elim)
      obtain ⟨rfl, hz⟩ := hq
      show wp _ _ 133 [(7, .int v9), (0, .ref (A 14 0 0)), (1, .int x1), (2, .ref (A 1940 0 0)), (3, .int x3), (6, .int y6)] [] _ _ _
      refine w_vret hf dX14_windowRow_133 rfl (Nat.le_of_ble_eq_true rfl) (Nat.le_of_ble_eq_true rfl) ?_
      obtain ⟨rfl, rfl⟩ := ret_inj hr
      exact ⟨rfl, hz⟩
  · have hr := bt q105 hr
    refine w_aload_n 1 dX14_windowRow_108 rfl rfl rfl ?_
    refine w_dup dX14_windowRow_109 rfl rfl ?_
    refine g_X14_453 dX14_windowRow_110 rfl (hz.o14 rfl) (hz.i928 rfl) ?_
    refine w_iconst 1 dX14_windowRow_113 rfl rfl ?_
    refine w_iadd dX14_windowRow_114 rfl ?_
    refine p_X14_453 dX14_windowRow_115 rfl (hz.o14 rfl) ?_
    obtain ⟨ρ17, e18, hr⟩ := lt_e hr
    have hz := (hz.s928 (v := ((zI ρ10 928 0 0 0) + 1)) rfl).tr e18
    refine w_goto 133 dX14_windowRow_118 rfl ?_
    refine w_vret hf dX14_windowRow_133 rfl (Nat.le_of_ble_eq_true rfl) (Nat.le_of_ble_eq_true rfl) ?_
    obtain ⟨rfl, rfl⟩ := ret_inj hr
    exact ⟨rfl, hz⟩
set_option maxRecDepth 20000 in
set_option maxHeartbeats 4000000 in
theorem w_X14_windowRow_40 {A : Nat → Nat → Nat → Nat} {σ ρ' : Zs} {v : Unit} {x : Cxt} {x1 : Int32} {x3 : Int32}  (hf : m_fin 0 0 (QV A v σ ρ') X0 x) (hrm : m_rm 13 0 0 x)  : ∀ (y4 : Int32) (y5 : Int32) (z0 : Int32) (ρ : Zs) (h : Hp), Rp A h σ ρ → fX14_windowRow_40 x1 x3  y4 y5 z0 ρ = some (v, ρ') → wp x mX14_windowRow 40 [(0, .ref (A 14 0 0)), (1, .int x1), (2, .ref (A 1940 0 0)), (3, .int x3), (4, .int y4), (5, .int y5)] [.int z0] h 0 0 := by
  intro y4 y5 z0 ρ h hz hr
  rw [fX14_windowRow_40.eq_1] at hr
  refine w_istore [(6, .int z0), (0, .ref (A 14 0 0)), (1, .int x1), (2, .ref (A 1940 0 0)), (3, .int x3), (4, .int y4), (5, .int y5)] dX14_windowRow_40 rfl (by decide) rfl ?_
  refine w_iload 0 dX14_windowRow_42 rfl rfl ?_
  refine w_if_ne 81 dX14_windowRow_44 rfl rfl (fun q44 => ?_) (fun q44 => ?_)
  · have hr := bf q44 hr
    refine w_aload_n 1 dX14_windowRow_81 rfl rfl rfl ?_
    refine w_iload_n 2 dX14_windowRow_82 rfl rfl rfl ?_
    refine w_aload_n 3 dX14_windowRow_83 rfl rfl rfl ?_
    refine w_iload_n 4 dX14_windowRow_84 rfl rfl rfl ?_
    refine w_iload 5 dX14_windowRow_85 rfl rfl ?_
    refine w_iload 0 dX14_windowRow_87 rfl rfl ?_
    refine w_if_ne 96 dX14_windowRow_89 rfl rfl (fun q89 => ?_) (fun q89 => ?_)
    · have hr := bf q89 hr
      refine w_iconst 0 dX14_windowRow_96 rfl rfl ?_
      refine w_lv [(0, .ref (A 14 0 0)), (1, .int x1), (2, .ref (A 1940 0 0)), (3, .int x3), (6, .int z0)] [1, 2, 3, 4, 0] rfl ?_
      exact w_X14_windowRow_97 hf hrm   z0 0 y4 x3 x1 _ _ hz  hr
    · have hr := bt q89 hr
      refine w_iconst 1 dX14_windowRow_92 rfl rfl ?_
      refine w_goto 97 dX14_windowRow_93 rfl ?_
      refine w_lv [(0, .ref (A 14 0 0)), (1, .int x1), (2, .ref (A 1940 0 0)), (3, .int x3), (6, .int z0)] [1, 2, 3, 4, 0] rfl ?_
      exact w_X14_windowRow_97 hf hrm   z0 1 y4 x3 x1 _ _ hz  hr
  · have hr := bt q44 hr
    refine w_aload_n 1 dX14_windowRow_47 rfl rfl rfl ?_
    refine g_X14_52 dX14_windowRow_48 rfl (hz.o14 rfl) (hz.r918 rfl) ?_
    refine w_iload_n 2 dX14_windowRow_51 rfl rfl rfl ?_
    obtain ⟨g19, hr⟩ := gd hr
    refine w_iald dX14_windowRow_52 rfl (hz.k918 rfl) (gin (hz.n918 rfl) g19) (hz.x918 rfl) ?_
    refine w_iload 6 dX14_windowRow_53 rfl rfl ?_
    refine w_aload_n 1 dX14_windowRow_55 rfl rfl rfl ?_
    have hv20 := hz.ww898 (p := 0) (s := 0) rfl
    refine g_X14_16 dX14_windowRow_56 rfl (hz.o14 rfl) (hz.rr898 rfl) ?_
    refine g_X14_401 dX14_windowRow_59 rfl (hz.o12 hv20) (hz.r776 hv20) ?_
    refine w_iload_n 2 dX14_windowRow_62 rfl rfl rfl ?_
    obtain ⟨g21, hr⟩ := gd hr
    refine w_iald dX14_windowRow_63 rfl (hz.k776 hv20) (gin (hz.n776 hv20) g21) (hz.x776 hv20) ?_
    refine w_iadd dX14_windowRow_64 rfl ?_
    refine w_icmp_lt 81 dX14_windowRow_65 rfl rfl (fun q65 => ?_) (fun q65 => ?_)
    · have hr := bt q65 hr
      refine w_aload_n 1 dX14_windowRow_81 rfl rfl rfl ?_
      refine w_iload_n 2 dX14_windowRow_82 rfl rfl rfl ?_
      refine w_aload_n 3 dX14_windowRow_83 rfl rfl rfl ?_
      refine w_iload_n 4 dX14_windowRow_84 rfl rfl rfl ?_
      refine w_iload 5 dX14_windowRow_85 rfl rfl ?_
      refine w_iload 0 dX14_windowRow_87 rfl rfl ?_
      refine w_if_ne 96 dX14_windowRow_89 rfl rfl (fun q89 => ?_) (fun q89 => ?_)
      · have hr := bf q89 hr
        refine w_iconst 0 dX14_windowRow_96 rfl rfl ?_
        refine w_lv [(0, .ref (A 14 0 0)), (1, .int x1), (2, .ref (A 1940 0 0)), (3, .int x3), (6, .int z0)] [1, 2, 3, 4, 0] rfl ?_
        exact w_X14_windowRow_97 hf hrm   z0 0 y4 x3 x1 _ _ hz  hr
      · have hr := bt q89 hr
        refine w_iconst 1 dX14_windowRow_92 rfl rfl ?_
        refine w_goto 97 dX14_windowRow_93 rfl ?_
        refine w_lv [(0, .ref (A 14 0 0)), (1, .int x1), (2, .ref (A 1940 0 0)), (3, .int x3), (6, .int z0)] [1, 2, 3, 4, 0] rfl ?_
        exact w_X14_windowRow_97 hf hrm   z0 1 y4 x3 x1 _ _ hz  hr
    · have hr := bf q65 hr
      refine w_aload_n 1 dX14_windowRow_68 rfl rfl rfl ?_
      refine w_aload_n 3 dX14_windowRow_69 rfl rfl rfl ?_
      refine w_iload_n 4 dX14_windowRow_70 rfl rfl rfl ?_
      obtain ⟨v22, ρ23, e24, hr⟩ := bq_some hr
      refine c_X14_504 (As := [.ref (A 1940 0 0), .int x3]) (rest := []) (fun l => s_X14_load (aok_916 rfl) rfl hz e24 l) hrm dX14_windowRow_71 rfl rfl (Nat.le_of_ble_eq_true rfl) (Nat.le_of_ble_eq_true rfl) (Nat.le_of_ble_eq_true rfl) (hz.o14 rfl) rfl (Nat.le_of_ble_eq_true rfl) (fun vr h2 hq => ?_) (fun E9 h9 hq => hq.elim)
      obtain ⟨rfl, hz⟩ := hq
      show wp _ _ 74 [(6, .int z0), (0, .ref (A 14 0 0)), (1, .int x1), (2, .ref (A 1940 0 0)), (3, .int x3), (4, .int y4), (5, .int y5)] [] _ _ _
      refine w_aload_n 1 dX14_windowRow_74 rfl rfl rfl ?_
      refine w_iload_n 2 dX14_windowRow_75 rfl rfl rfl ?_
      refine w_iconst (-1) dX14_windowRow_76 rfl rfl ?_
      obtain ⟨v26, ρ27, e28, hr⟩ := bq_some hr
      refine c_X14_485 (As := [.int x1, .int (-1)]) (rest := []) (fun l => s_X14_hold  hz e28 l) hrm dX14_windowRow_77 rfl rfl (Nat.le_of_ble_eq_true rfl) (Nat.le_of_ble_eq_true rfl) (Nat.le_of_ble_eq_true rfl) (hz.o14 rfl) rfl (Nat.le_of_ble_eq_true rfl) (fun vr h2 hq => ?_) (fun E9 h9 hq => hq.elim)
      obtain ⟨rfl, hz⟩ := hq
      show wp _ _ 80 [(6, .int z0), (0, .ref (A 14 0 0)), (1, .int x1), (2, .ref (A 1940 0 0)), (3, .int x3), (4, .int y4), (5, .int y5)] [] _ _ _
      refine w_vret hf dX14_windowRow_80 rfl (Nat.le_of_ble_eq_true rfl) (Nat.le_of_ble_eq_true rfl) ?_
      obtain ⟨rfl, rfl⟩ := ret_inj hr
      exact ⟨rfl, hz⟩
set_option maxRecDepth 20000 in
set_option maxHeartbeats 4000000 in
theorem s_X14_windowRow {A : Nat → Nat → Nat → Nat} {h : Hp} {σ ρ ρ' : Zs} {v : Unit} {x1 : Int32} {x3 : Int32}  (hz : Rp A h σ ρ) (hr : fX14_windowRow x1 x3 ρ = some (v, ρ')) : ∀ l : Launch, Sp l mX14_windowRow 13 0 0 [.ref (A 14 0 0), .int x1, .ref (A 1940 0 0), .int x3] h (QV A v σ ρ') X0 := by
  intro l
  refine Sp.of rfl rfl (lv := [(0, .ref (A 14 0 0)), (1, .int x1), (2, .ref (A 1940 0 0)), (3, .int x3)]) (Nat.le_of_ble_eq_true rfl) rfl (fun x hf hrm => ?_)
  rw [fX14_windowRow.eq_1] at hr
  refine w_aload_n 0 dX14_windowRow_0 rfl rfl rfl ?_
  refine w_iload_n 1 dX14_windowRow_1 rfl rfl rfl ?_
  refine w_aload_n 2 dX14_windowRow_2 rfl rfl rfl ?_
  refine w_iload_n 3 dX14_windowRow_3 rfl rfl rfl ?_
  obtain ⟨g1, hr⟩ := gd hr
  refine w_lald dX14_windowRow_4 rfl (hz.k916 rfl) (gin (hz.n916 rfl) g1) (hz.x916 rfl) ?_
  obtain ⟨v2, ρ3, e4, hr⟩ := bq_some hr
  refine c_X14_501 (As := [.int x1, .long (zJ ρ 1940 0 0 (Int32.toNatClampNeg x3))]) (rest := []) (fun l => s_X14_beginOf  hz e4 l) hrm dX14_windowRow_5 rfl rfl (Nat.le_of_ble_eq_true rfl) (Nat.le_of_ble_eq_true rfl) (Nat.le_of_ble_eq_true rfl) (hz.o14 rfl) rfl (Nat.le_of_ble_eq_true rfl) (fun vr h2 hq => ?_) (fun E9 h9 hq => hq.elim)
  obtain ⟨rfl, hz⟩ := hq
  show wp _ _ 8 [(0, .ref (A 14 0 0)), (1, .int x1), (2, .ref (A 1940 0 0)), (3, .int x3)] [.int v2] _ _ _
  refine w_istore [(4, .int v2), (0, .ref (A 14 0 0)), (1, .int x1), (2, .ref (A 1940 0 0)), (3, .int x3)] dX14_windowRow_8 rfl (by decide) rfl ?_
  refine w_iload 0 dX14_windowRow_10 rfl rfl ?_
  refine w_aload_n 1 dX14_windowRow_12 rfl rfl rfl ?_
  have hv6 := hz.ww898 (p := 0) (s := 0) rfl
  refine g_X14_16 dX14_windowRow_13 rfl (hz.o14 rfl) (hz.rr898 rfl) ?_
  refine g_X14_369 dX14_windowRow_16 rfl (hz.o12 hv6) (hz.r775 hv6) ?_
  refine w_iload_n 2 dX14_windowRow_19 rfl rfl rfl ?_
  obtain ⟨g7, hr⟩ := gd hr
  refine w_iald dX14_windowRow_20 rfl (hz.k775 hv6) (gin (hz.n775 hv6) g7) (hz.x775 hv6) ?_
  refine w_iadd dX14_windowRow_21 rfl ?_
  refine w_istore [(5, .int (v2 + (zI ρ3 1799 ((zR ρ3 898 0 0 0).1) 0 (Int32.toNatClampNeg x1)))), (4, .int v2), (0, .ref (A 14 0 0)), (1, .int x1), (2, .ref (A 1940 0 0)), (3, .int x3)] dX14_windowRow_22 rfl (by decide) rfl ?_
  refine w_aload_n 2 dX14_windowRow_24 rfl rfl rfl ?_
  refine g_X14_52 dX14_windowRow_25 rfl (hz.o14 rfl) (hz.r918 rfl) ?_
  refine w_iload_n 3 dX14_windowRow_28 rfl rfl rfl ?_
  obtain ⟨g8, hr⟩ := gd hr
  refine w_iald dX14_windowRow_29 rfl (hz.k918 rfl) (gin (hz.n918 rfl) g8) (hz.x918 rfl) ?_
  refine w_iload 0 dX14_windowRow_30 rfl rfl ?_
  refine w_icmp_ge 39 dX14_windowRow_32 rfl rfl (fun q32 => ?_) (fun q32 => ?_)
  · have hr := bt q32 hr
    refine w_iconst 0 dX14_windowRow_39 rfl rfl ?_
    refine w_lv [(0, .ref (A 14 0 0)), (1, .int x1), (2, .ref (A 1940 0 0)), (3, .int x3), (4, .int v2), (5, .int (v2 + (zI ρ3 1799 ((zR ρ3 898 0 0 0).1) 0 (Int32.toNatClampNeg x1))))] [2, 3, 4, 5, 1, 0] rfl ?_
    exact w_X14_windowRow_40 hf hrm   v2 (v2 + (zI ρ3 1799 ((zR ρ3 898 0 0 0).1) 0 (Int32.toNatClampNeg x1))) 0 _ _ hz  hr
  · have hr := bf q32 hr
    refine w_iconst 1 dX14_windowRow_35 rfl rfl ?_
    refine w_goto 40 dX14_windowRow_36 rfl ?_
    refine w_lv [(0, .ref (A 14 0 0)), (1, .int x1), (2, .ref (A 1940 0 0)), (3, .int x3), (4, .int v2), (5, .int (v2 + (zI ρ3 1799 ((zR ρ3 898 0 0 0).1) 0 (Int32.toNatClampNeg x1))))] [2, 3, 4, 5, 1, 0] rfl ?_
    exact w_X14_windowRow_40 hf hrm   v2 (v2 + (zI ρ3 1799 ((zR ρ3 898 0 0 0).1) 0 (Int32.toNatClampNeg x1))) 1 _ _ hz  hr

set_option maxRecDepth 20000 in
set_option maxHeartbeats 4000000 in
theorem s_X14_copyWindow {A : Nat → Nat → Nat → Nat} {h : Hp} {σ ρ ρ' : Zs} {v : Unit} {x1 : Int32} {x2 : Int32} {x3 : Int32}  (hz : Rp A h σ ρ) (hr : fX14_copyWindow x1 x2 x3 ρ = some (v, ρ')) : ∀ l : Launch, Sp l mX14_copyWindow 10 0 0 [.ref (A 14 0 0), .int x1, .int x2, .int x3] h (QV A v σ ρ') X0 := by
  intro l
  refine Sp.of rfl rfl (lv := [(0, .ref (A 14 0 0)), (1, .int x1), (2, .int x2), (3, .int x3)]) (Nat.le_of_ble_eq_true rfl) rfl (fun x hf hrm => ?_)
  rw [fX14_copyWindow.eq_1] at hr
  refine w_bipush 60 dX14_copyWindow_0 rfl rfl ?_
  refine w_iload_n 1 dX14_copyWindow_2 rfl rfl rfl ?_
  refine w_imul dX14_copyWindow_3 rfl ?_
  refine w_iload_n 2 dX14_copyWindow_4 rfl rfl rfl ?_
  refine w_iadd dX14_copyWindow_5 rfl ?_
  refine w_istore [(4, .int ((60 * x1) + x2)), (0, .ref (A 14 0 0)), (1, .int x1), (2, .int x2), (3, .int x3)] dX14_copyWindow_6 rfl (by decide) rfl ?_
  refine w_bipush 60 dX14_copyWindow_8 rfl rfl ?_
  refine w_iload_n 2 dX14_copyWindow_10 rfl rfl rfl ?_
  refine w_imul dX14_copyWindow_11 rfl ?_
  refine w_iload_n 4 dX14_copyWindow_12 rfl rfl rfl ?_
  refine w_iadd dX14_copyWindow_13 rfl ?_
  refine w_istore [(5, .int ((60 * x1) + x3)), (4, .int ((60 * x1) + x2)), (0, .ref (A 14 0 0)), (1, .int x1), (2, .int x2), (3, .int x3)] dX14_copyWindow_14 rfl (by decide) rfl ?_
  refine w_aload_n 2 dX14_copyWindow_16 rfl rfl rfl ?_
  refine g_X14_88 dX14_copyWindow_17 rfl (hz.o14 rfl) (hz.r935 rfl) ?_
  refine w_iload 0 dX14_copyWindow_20 rfl rfl ?_
  refine w_aload_n 2 dX14_copyWindow_22 rfl rfl rfl ?_
  refine g_X14_88 dX14_copyWindow_23 rfl (hz.o14 rfl) (hz.r935 rfl) ?_
  refine w_iload 1 dX14_copyWindow_26 rfl rfl ?_
  obtain ⟨g1, hr⟩ := gd hr
  refine w_lald dX14_copyWindow_28 rfl (hz.k935 rfl) (gin (hz.n935 rfl) g1) (hz.x935 rfl) ?_
  obtain ⟨g2, hr⟩ := gd hr
  refine w_last dX14_copyWindow_29 rfl (hz.k935 rfl) (gin (hz.n935 rfl) g2) ?_
  obtain ⟨ρ3, e4, hr⟩ := lt_e hr
  have hz := (hz.s935 (i := (Int32.toNatClampNeg ((60 * x1) + x3))) (v := (zJ ρ 1959 0 0 (Int32.toNatClampNeg ((60 * x1) + x2)))) rfl).tr e4
  refine w_aload_n 2 dX14_copyWindow_30 rfl rfl rfl ?_
  refine g_X14_91 dX14_copyWindow_31 rfl (hz.o14 rfl) (hz.r936 rfl) ?_
  refine w_iload 0 dX14_copyWindow_34 rfl rfl ?_
  refine w_aload_n 2 dX14_copyWindow_36 rfl rfl rfl ?_
  refine g_X14_91 dX14_copyWindow_37 rfl (hz.o14 rfl) (hz.r936 rfl) ?_
  refine w_iload 1 dX14_copyWindow_40 rfl rfl ?_
  obtain ⟨g5, hr⟩ := gd hr
  refine w_iald dX14_copyWindow_42 rfl (hz.k936 rfl) (gin (hz.n936 rfl) g5) (hz.x936 rfl) ?_
  obtain ⟨g6, hr⟩ := gd hr
  refine w_iast dX14_copyWindow_43 rfl (hz.k936 rfl) (gin (hz.n936 rfl) g6) ?_
  obtain ⟨ρ7, e8, hr⟩ := lt_e hr
  have hz := (hz.s936 (i := (Int32.toNatClampNeg ((60 * x1) + x3))) (v := (zI ρ3 1960 0 0 (Int32.toNatClampNeg ((60 * x1) + x2)))) rfl).tr e8
  refine w_aload_n 2 dX14_copyWindow_44 rfl rfl rfl ?_
  refine g_X14_94 dX14_copyWindow_45 rfl (hz.o14 rfl) (hz.r937 rfl) ?_
  refine w_iload 0 dX14_copyWindow_48 rfl rfl ?_
  refine w_aload_n 2 dX14_copyWindow_50 rfl rfl rfl ?_
  refine g_X14_94 dX14_copyWindow_51 rfl (hz.o14 rfl) (hz.r937 rfl) ?_
  refine w_iload 1 dX14_copyWindow_54 rfl rfl ?_
  obtain ⟨g9, hr⟩ := gd hr
  refine w_zald dX14_copyWindow_56 rfl (hz.k937 rfl) (gin (hz.n937 rfl) g9) (hz.x937 rfl) ?_
  obtain ⟨g10, hr⟩ := gd hr
  obtain ⟨g11, hr⟩ := gd hr
  refine w_zast dX14_copyWindow_57 rfl (hz.k937 rfl) (gin (hz.n937 rfl) g10) (zn g11) ?_
  obtain ⟨ρ12, e13, hr⟩ := lt_e hr
  have hz := (hz.s937 (i := (Int32.toNatClampNeg ((60 * x1) + x3))) (v := (zI ρ7 1961 0 0 (Int32.toNatClampNeg ((60 * x1) + x2)))) rfl).tr e13
  refine w_aload_n 2 dX14_copyWindow_58 rfl rfl rfl ?_
  refine g_X14_101 dX14_copyWindow_59 rfl (hz.o14 rfl) (hz.r939 rfl) ?_
  refine w_iload 0 dX14_copyWindow_62 rfl rfl ?_
  refine w_aload_n 2 dX14_copyWindow_64 rfl rfl rfl ?_
  refine g_X14_101 dX14_copyWindow_65 rfl (hz.o14 rfl) (hz.r939 rfl) ?_
  refine w_iload 1 dX14_copyWindow_68 rfl rfl ?_
  obtain ⟨g14, hr⟩ := gd hr
  refine w_iald dX14_copyWindow_70 rfl (hz.k939 rfl) (gin (hz.n939 rfl) g14) (hz.x939 rfl) ?_
  obtain ⟨g15, hr⟩ := gd hr
  refine w_iast dX14_copyWindow_71 rfl (hz.k939 rfl) (gin (hz.n939 rfl) g15) ?_
  obtain ⟨ρ16, e17, hr⟩ := lt_e hr
  have hz := (hz.s939 (i := (Int32.toNatClampNeg ((60 * x1) + x3))) (v := (zI ρ12 1963 0 0 (Int32.toNatClampNeg ((60 * x1) + x2)))) rfl).tr e17
  refine w_aload_n 2 dX14_copyWindow_72 rfl rfl rfl ?_
  refine g_X14_98 dX14_copyWindow_73 rfl (hz.o14 rfl) (hz.r938 rfl) ?_
  refine w_bipush 6 dX14_copyWindow_76 rfl rfl ?_
  refine w_iload 1 dX14_copyWindow_78 rfl rfl ?_
  refine w_imul dX14_copyWindow_80 rfl ?_
  refine w_aload_n 2 dX14_copyWindow_81 rfl rfl rfl ?_
  refine g_X14_98 dX14_copyWindow_82 rfl (hz.o14 rfl) (hz.r938 rfl) ?_
  refine w_bipush 6 dX14_copyWindow_85 rfl rfl ?_
  refine w_iload 0 dX14_copyWindow_87 rfl rfl ?_
  refine w_imul dX14_copyWindow_89 rfl ?_
  refine w_bipush 6 dX14_copyWindow_90 rfl rfl ?_
  obtain ⟨g18, hr⟩ := gd hr
  refine w_copyl hrm (by decide) dX14_copyWindow_92 rfl (hz.k938 rfl) (hz.k938 rfl) (hz.n938 rfl) (hz.n938 rfl) g18 (Nat.le_of_ble_eq_true rfl) ?_
  obtain ⟨ρ19, e20, hr⟩ := lt_e hr
  have hz := (hz.vC (f2 := 938) (sp := Int32.toNatClampNeg (6 * ((60 * x1) + x2))) (dp := Int32.toNatClampNeg (6 * ((60 * x1) + x3))) (n := Int32.toNatClampNeg 6) (aok_938 rfl) rfl rfl (by decide) rfl rfl).tr e20
  refine w_vret hf dX14_copyWindow_95 rfl (Nat.le_of_ble_eq_true rfl) (Nat.le_of_ble_eq_true rfl) ?_
  obtain ⟨rfl, rfl⟩ := ret_inj hr
  exact ⟨rfl, hz⟩

set_option maxRecDepth 20000 in
set_option maxHeartbeats 4000000 in
theorem w_X14_closeWindows_173 {A : Nat → Nat → Nat → Nat} {σ ρ' : Zs} {v : Unit} {x : Cxt} {x1 : Int32}  (hf : m_fin 0 0 (QV A v σ ρ') X0 x) (hrm : m_rm 13 0 0 x)  : ∀ (n : Nat) (y3 : Int32) (y4 : Int32) (ρ : Zs) (h : Hp), Rp A h σ ρ → fX14_closeWindows_173 x1  n y3 y4 ρ = some (v, ρ') → wp x mX14_closeWindows 173 [(0, .ref (A 14 0 0)), (1, .int x1), (3, .int y3), (4, .int y4)] [] h 0 0
  | 0, _, _, ρ, h => fun hz hr => by
    rw [fX14_closeWindows_173.eq_1] at hr
    exact nono hr
  | n + 1, y3, y4, ρ, h => fun hz hr => by
    rw [fX14_closeWindows_173.eq_2] at hr
    refine w_iload 3 dX14_closeWindows_173 rfl rfl ?_
    refine w_aload_n 0 dX14_closeWindows_175 rfl rfl rfl ?_
    refine g_X14_85 dX14_closeWindows_176 rfl (hz.o14 rfl) (hz.r934 rfl) ?_
    refine w_iload_n 1 dX14_closeWindows_179 rfl rfl rfl ?_
    obtain ⟨g1, hr⟩ := gd hr
    refine w_iald dX14_closeWindows_180 rfl (hz.k934 rfl) (gin (hz.n934 rfl) g1) (hz.x934 rfl) ?_
    refine w_icmp_ge 230 dX14_closeWindows_181 rfl rfl (fun q181 => ?_) (fun q181 => ?_)
    · have hr := bt q181 hr
      refine w_aload_n 0 dX14_closeWindows_230 rfl rfl rfl ?_
      refine g_X14_85 dX14_closeWindows_231 rfl (hz.o14 rfl) (hz.r934 rfl) ?_
      refine w_iload_n 1 dX14_closeWindows_234 rfl rfl rfl ?_
      refine w_iload_n 2 dX14_closeWindows_235 rfl rfl rfl ?_
      obtain ⟨g2, hr⟩ := gd hr
      refine w_iast dX14_closeWindows_236 rfl (hz.k934 rfl) (gin (hz.n934 rfl) g2) ?_
      obtain ⟨ρ3, e4, hr⟩ := lt_e hr
      have hz := (hz.s934 (i := (Int32.toNatClampNeg x1)) (v := y3) rfl).tr e4
      refine w_vret hf dX14_closeWindows_237 rfl (Nat.le_of_ble_eq_true rfl) (Nat.le_of_ble_eq_true rfl) ?_
      obtain ⟨rfl, rfl⟩ := ret_inj hr
      exact ⟨rfl, hz⟩
    · have hr := bf q181 hr
      refine w_aload_n 0 dX14_closeWindows_184 rfl rfl rfl ?_
      refine w_iload_n 1 dX14_closeWindows_185 rfl rfl rfl ?_
      refine w_iload 3 dX14_closeWindows_186 rfl rfl ?_
      obtain ⟨v5, ρ6, e7, hr⟩ := bq_some hr
      refine c_X14_495 (As := [.int x1, .int y4]) (rest := []) (fun l => s_X14_endOf  hz e7 l) hrm dX14_closeWindows_188 rfl rfl (Nat.le_of_ble_eq_true rfl) (Nat.le_of_ble_eq_true rfl) (Nat.le_of_ble_eq_true rfl) (hz.o14 rfl) rfl (Nat.le_of_ble_eq_true rfl) (fun vr h2 hq => ?_) (fun E9 h9 hq => hq.elim)
      obtain ⟨rfl, hz⟩ := hq
      show wp _ _ 191 [(0, .ref (A 14 0 0)), (1, .int x1), (3, .int y3), (4, .int y4)] [.int v5] _ _ _
      refine w_aload_n 0 dX14_closeWindows_191 rfl rfl rfl ?_
      have hv9 := hz.ww898 (p := 0) (s := 0) rfl
      refine g_X14_16 dX14_closeWindows_192 rfl (hz.o14 rfl) (hz.rr898 rfl) ?_
      refine g_X14_401 dX14_closeWindows_195 rfl (hz.o12 hv9) (hz.r776 hv9) ?_
      refine w_iload_n 1 dX14_closeWindows_198 rfl rfl rfl ?_
      obtain ⟨g10, hr⟩ := gd hr
      refine w_iald dX14_closeWindows_199 rfl (hz.k776 hv9) (gin (hz.n776 hv9) g10) (hz.x776 hv9) ?_
      refine w_iadd dX14_closeWindows_200 rfl ?_
      refine w_aload_n 0 dX14_closeWindows_201 rfl rfl rfl ?_
      refine g_X14_52 dX14_closeWindows_202 rfl (hz.o14 rfl) (hz.r918 rfl) ?_
      refine w_iload_n 1 dX14_closeWindows_205 rfl rfl rfl ?_
      obtain ⟨g11, hr⟩ := gd hr
      refine w_iald dX14_closeWindows_206 rfl (hz.k918 rfl) (gin (hz.n918 rfl) g11) (hz.x918 rfl) ?_
      refine w_icmp_gt 213 dX14_closeWindows_207 rfl rfl (fun q207 => ?_) (fun q207 => ?_)
      · have hr := bt q207 hr
        refine w_aload_n 0 dX14_closeWindows_213 rfl rfl rfl ?_
        refine w_iload_n 1 dX14_closeWindows_214 rfl rfl rfl ?_
        refine w_iload 3 dX14_closeWindows_215 rfl rfl ?_
        refine w_iload_n 2 dX14_closeWindows_217 rfl rfl rfl ?_
        obtain ⟨v12, ρ13, e14, hr⟩ := bq_some hr
        refine c_X14_515 (As := [.int x1, .int y4, .int y3]) (rest := []) (fun l => s_X14_copyWindow  hz e14 l) hrm dX14_closeWindows_218 rfl rfl (Nat.le_of_ble_eq_true rfl) (Nat.le_of_ble_eq_true rfl) (Nat.le_of_ble_eq_true rfl) (hz.o14 rfl) rfl (Nat.le_of_ble_eq_true rfl) (fun vr h2 hq => ?_) (fun E9 h9 hq => hq.elim)
        obtain ⟨rfl, hz⟩ := hq
        show wp _ _ 221 [(0, .ref (A 14 0 0)), (1, .int x1), (3, .int y3), (4, .int y4)] [] _ _ _
        refine w_iinc 2 (y3 + 1) [(3, .int (y3 + 1)), (0, .ref (A 14 0 0)), (1, .int x1), (4, .int y4)] dX14_closeWindows_221 rfl rfl rfl (by decide) rfl ?_
        refine w_iinc 3 (y4 + 1) [(4, .int (y4 + 1)), (3, .int (y3 + 1)), (0, .ref (A 14 0 0)), (1, .int x1)] dX14_closeWindows_224 rfl rfl rfl (by decide) rfl ?_
        refine w_goto 173 dX14_closeWindows_227 rfl ?_
        refine w_lv [(0, .ref (A 14 0 0)), (1, .int x1), (3, .int (y3 + 1)), (4, .int (y4 + 1))] [2, 3, 1, 0] rfl ?_
        exact w_X14_closeWindows_173 hf hrm   n (y3 + 1) (y4 + 1) _ _ hz  hr
      · have hr := bf q207 hr
        refine w_goto 224 dX14_closeWindows_210 rfl ?_
        refine w_iinc 3 (y4 + 1) [(4, .int (y4 + 1)), (0, .ref (A 14 0 0)), (1, .int x1), (3, .int y3)] dX14_closeWindows_224 rfl rfl rfl (by decide) rfl ?_
        refine w_goto 173 dX14_closeWindows_227 rfl ?_
        refine w_lv [(0, .ref (A 14 0 0)), (1, .int x1), (3, .int y3), (4, .int (y4 + 1))] [1, 2, 3, 0] rfl ?_
        exact w_X14_closeWindows_173 hf hrm   n y3 (y4 + 1) _ _ hz  hr
set_option maxRecDepth 20000 in
set_option maxHeartbeats 4000000 in
theorem w_X14_closeWindows_139 {A : Nat → Nat → Nat → Nat} {σ ρ' : Zs} {v : Unit} {x : Cxt} {x1 : Int32} {k2 : Int32 → Zs → Option (Unit × Zs)}  (hf : m_fin 0 0 (QV A v σ ρ') X0 x) (hrm : m_rm 13 0 0 x)  (hk2 : ∀ (y2 : Int32) (ρ : Zs) (h : Hp), Rp A h σ ρ → k2 y2 ρ = some (v, ρ') → wp x mX14_closeWindows 2 [(0, .ref (A 14 0 0)), (1, .int x1), (2, .int y2)] [] h 0 0) : ∀ (y3 : Int32) (z0 : Int32) (ρ : Zs) (h : Hp), Rp A h σ ρ → fX14_closeWindows_139 x1 k2 y3 z0 ρ = some (v, ρ') → wp x mX14_closeWindows 139 [(0, .ref (A 14 0 0)), (1, .int x1), (3, .int y3)] [.int z0] h 0 0 := by
  intro y3 z0 ρ h hz hr
  rw [fX14_closeWindows_139.eq_1] at hr
  refine w_istore_n [(2, .int z0), (0, .ref (A 14 0 0)), (1, .int x1), (3, .int y3)] dX14_closeWindows_139 rfl rfl (by decide) rfl ?_
  refine w_iload_n 0 dX14_closeWindows_140 rfl rfl rfl ?_
  refine w_if_ne 147 dX14_closeWindows_141 rfl rfl (fun q141 => ?_) (fun q141 => ?_)
  · have hr := bf q141 hr
    refine w_aload_n 1 dX14_closeWindows_147 rfl rfl rfl ?_
    refine g_X14_94 dX14_closeWindows_148 rfl (hz.o14 rfl) (hz.r937 rfl) ?_
    refine w_bipush 60 dX14_closeWindows_151 rfl rfl ?_
    refine w_iload_n 2 dX14_closeWindows_153 rfl rfl rfl ?_
    refine w_imul dX14_closeWindows_154 rfl ?_
    refine w_iload_n 3 dX14_closeWindows_155 rfl rfl rfl ?_
    refine w_iadd dX14_closeWindows_156 rfl ?_
    refine w_iconst 1 dX14_closeWindows_157 rfl rfl ?_
    obtain ⟨g17, hr⟩ := gd hr
    refine w_zast dX14_closeWindows_158 rfl (hz.k937 rfl) (gin (hz.n937 rfl) g17) (zn (Or.inr rfl)) ?_
    obtain ⟨ρ18, e19, hr⟩ := lt_e hr
    have hz := (hz.s937 (i := (Int32.toNatClampNeg ((60 * x1) + y3))) (v := 1) rfl).tr e19
    refine w_aload_n 1 dX14_closeWindows_159 rfl rfl rfl ?_
    refine w_iload_n 2 dX14_closeWindows_160 rfl rfl rfl ?_
    refine w_iload_n 3 dX14_closeWindows_161 rfl rfl rfl ?_
    obtain ⟨v20, ρ21, e22, hr⟩ := bq_some hr
    refine c_X14_512 (As := [.int x1, .int y3]) (rest := []) (fun l => s_X14_offerWindow  hz e22 l) hrm dX14_closeWindows_162 rfl rfl (Nat.le_of_ble_eq_true rfl) (Nat.le_of_ble_eq_true rfl) (Nat.le_of_ble_eq_true rfl) (hz.o14 rfl) rfl (Nat.le_of_ble_eq_true rfl) (fun vr h2 hq => ?_) (fun E9 h9 hq => hq.elim)
    obtain ⟨rfl, hz⟩ := hq
    show wp _ _ 165 [(2, .int z0), (0, .ref (A 14 0 0)), (1, .int x1), (3, .int y3)] [] _ _ _
    refine w_goto 2 dX14_closeWindows_165 rfl ?_
    refine w_lv [(0, .ref (A 14 0 0)), (1, .int x1), (2, .int z0)] [1, 2, 0] rfl ?_
    exact hk2 z0 _ _ hz  hr
  · have hr := bt q141 hr
    refine w_goto 2 dX14_closeWindows_144 rfl ?_
    refine w_lv [(0, .ref (A 14 0 0)), (1, .int x1), (2, .int z0)] [1, 2, 0] rfl ?_
    exact hk2 z0 _ _ hz  hr
set_option maxRecDepth 20000 in
set_option maxHeartbeats 4000000 in
theorem w_X14_closeWindows_11 {A : Nat → Nat → Nat → Nat} {σ ρ' : Zs} {v : Unit} {x : Cxt} {x1 : Int32} {k2 : Int32 → Zs → Option (Unit × Zs)}  (hf : m_fin 0 0 (QV A v σ ρ') X0 x) (hrm : m_rm 13 0 0 x)  (hk2 : ∀ (y2 : Int32) (ρ : Zs) (h : Hp), Rp A h σ ρ → k2 y2 ρ = some (v, ρ') → wp x mX14_closeWindows 2 [(0, .ref (A 14 0 0)), (1, .int x1), (2, .int y2)] [] h 0 0) : ∀ (n : Nat) (y3 : Int32) (y4 : Int32) (ρ : Zs) (h : Hp), Rp A h σ ρ → fX14_closeWindows_11 x1 k2 n y3 y4 ρ = some (v, ρ') → wp x mX14_closeWindows 11 [(0, .ref (A 14 0 0)), (1, .int x1), (3, .int y3), (4, .int y4)] [] h 0 0
  | 0, _, _, ρ, h => fun hz hr => by
    rw [fX14_closeWindows_11.eq_1] at hr
    exact nono hr
  | n + 1, y3, y4, ρ, h => fun hz hr => by
    rw [fX14_closeWindows_11.eq_2] at hr
    refine w_iload 3 dX14_closeWindows_11 rfl rfl ?_
    refine w_aload_n 0 dX14_closeWindows_13 rfl rfl rfl ?_
    refine g_X14_85 dX14_closeWindows_14 rfl (hz.o14 rfl) (hz.r934 rfl) ?_
    refine w_iload_n 1 dX14_closeWindows_17 rfl rfl rfl ?_
    obtain ⟨g16, hr⟩ := gd hr
    refine w_iald dX14_closeWindows_18 rfl (hz.k934 rfl) (gin (hz.n934 rfl) g16) (hz.x934 rfl) ?_
    refine w_icmp_ge 129 dX14_closeWindows_19 rfl rfl (fun q19 => ?_) (fun q19 => ?_)
    · have hr := bt q19 hr
      refine w_iload_n 2 dX14_closeWindows_129 rfl rfl rfl ?_
      refine w_iconst (-1) dX14_closeWindows_130 rfl rfl ?_
      refine w_icmp_eq 138 dX14_closeWindows_131 rfl rfl (fun q131 => ?_) (fun q131 => ?_)
      · have hr := bt q131 hr
        refine w_iconst 0 dX14_closeWindows_138 rfl rfl ?_
        refine w_lv [(0, .ref (A 14 0 0)), (1, .int x1), (3, .int y3)] [0, 1, 2] rfl ?_
        exact w_X14_closeWindows_139 hf hrm  hk2 y3 0 _ _ hz  hr
      · have hr := bf q131 hr
        refine w_iconst 1 dX14_closeWindows_134 rfl rfl ?_
        refine w_goto 139 dX14_closeWindows_135 rfl ?_
        refine w_lv [(0, .ref (A 14 0 0)), (1, .int x1), (3, .int y3)] [0, 1, 2] rfl ?_
        exact w_X14_closeWindows_139 hf hrm  hk2 y3 1 _ _ hz  hr
    · have hr := bf q19 hr
      refine w_aload_n 0 dX14_closeWindows_22 rfl rfl rfl ?_
      refine g_X14_94 dX14_closeWindows_23 rfl (hz.o14 rfl) (hz.r937 rfl) ?_
      refine w_bipush 60 dX14_closeWindows_26 rfl rfl ?_
      refine w_iload_n 1 dX14_closeWindows_28 rfl rfl rfl ?_
      refine w_imul dX14_closeWindows_29 rfl ?_
      refine w_iload 3 dX14_closeWindows_30 rfl rfl ?_
      refine w_iadd dX14_closeWindows_32 rfl ?_
      obtain ⟨g24, hr⟩ := gd hr
      refine w_zald dX14_closeWindows_33 rfl (hz.k937 rfl) (gin (hz.n937 rfl) g24) (hz.x937 rfl) ?_
      refine w_if_ne 123 dX14_closeWindows_34 rfl rfl (fun q34 => ?_) (fun q34 => ?_)
      · have hr := bf q34 hr
        refine w_iinc 3 (y4 + 1) [(4, .int (y4 + 1)), (0, .ref (A 14 0 0)), (1, .int x1), (3, .int y3)] dX14_closeWindows_123 rfl rfl rfl (by decide) rfl ?_
        refine w_goto 11 dX14_closeWindows_126 rfl ?_
        refine w_lv [(0, .ref (A 14 0 0)), (1, .int x1), (3, .int y3), (4, .int (y4 + 1))] [1, 2, 3, 0] rfl ?_
        exact w_X14_closeWindows_11 hf hrm  hk2 n y3 (y4 + 1) _ _ hz  hr
      · have hr := bt q34 hr
        refine w_aload_n 0 dX14_closeWindows_37 rfl rfl rfl ?_
        refine w_iload_n 1 dX14_closeWindows_38 rfl rfl rfl ?_
        refine w_iload 3 dX14_closeWindows_39 rfl rfl ?_
        obtain ⟨v25, ρ26, e27, hr⟩ := bq_some hr
        refine c_X14_495 (As := [.int x1, .int y4]) (rest := []) (fun l => s_X14_endOf  hz e27 l) hrm dX14_closeWindows_41 rfl rfl (Nat.le_of_ble_eq_true rfl) (Nat.le_of_ble_eq_true rfl) (Nat.le_of_ble_eq_true rfl) (hz.o14 rfl) rfl (Nat.le_of_ble_eq_true rfl) (fun vr h2 hq => ?_) (fun E9 h9 hq => hq.elim)
        obtain ⟨rfl, hz⟩ := hq
        show wp _ _ 44 [(0, .ref (A 14 0 0)), (1, .int x1), (3, .int y3), (4, .int y4)] [.int v25] _ _ _
        refine w_aload_n 0 dX14_closeWindows_44 rfl rfl rfl ?_
        refine g_X14_52 dX14_closeWindows_45 rfl (hz.o14 rfl) (hz.r918 rfl) ?_
        refine w_iload_n 1 dX14_closeWindows_48 rfl rfl rfl ?_
        obtain ⟨g29, hr⟩ := gd hr
        refine w_iald dX14_closeWindows_49 rfl (hz.k918 rfl) (gin (hz.n918 rfl) g29) (hz.x918 rfl) ?_
        refine w_icmp_le 56 dX14_closeWindows_50 rfl rfl (fun q50 => ?_) (fun q50 => ?_)
        · have hr := bt q50 hr
          refine w_iload_n 2 dX14_closeWindows_56 rfl rfl rfl ?_
          refine w_iconst (-1) dX14_closeWindows_57 rfl rfl ?_
          refine w_icmp_eq 120 dX14_closeWindows_58 rfl rfl (fun q58 => ?_) (fun q58 => ?_)
          · have hr := bt q58 hr
            refine w_iload 3 dX14_closeWindows_120 rfl rfl ?_
            refine w_istore_n [(3, .int y4), (0, .ref (A 14 0 0)), (1, .int x1), (4, .int y4)] dX14_closeWindows_122 rfl rfl (by decide) rfl ?_
            refine w_iinc 3 (y4 + 1) [(4, .int (y4 + 1)), (3, .int y4), (0, .ref (A 14 0 0)), (1, .int x1)] dX14_closeWindows_123 rfl rfl rfl (by decide) rfl ?_
            refine w_goto 11 dX14_closeWindows_126 rfl ?_
            refine w_lv [(0, .ref (A 14 0 0)), (1, .int x1), (3, .int y4), (4, .int (y4 + 1))] [2, 3, 1, 0] rfl ?_
            exact w_X14_closeWindows_11 hf hrm  hk2 n y4 (y4 + 1) _ _ hz  hr
          · have hr := bf q58 hr
            refine w_aload_n 0 dX14_closeWindows_61 rfl rfl rfl ?_
            refine w_iload_n 1 dX14_closeWindows_62 rfl rfl rfl ?_
            refine w_iload 3 dX14_closeWindows_63 rfl rfl ?_
            obtain ⟨v30, ρ31, e32, hr⟩ := bq_some hr
            refine c_X14_495 (As := [.int x1, .int y4]) (rest := []) (fun l => s_X14_endOf  hz e32 l) hrm dX14_closeWindows_65 rfl rfl (Nat.le_of_ble_eq_true rfl) (Nat.le_of_ble_eq_true rfl) (Nat.le_of_ble_eq_true rfl) (hz.o14 rfl) rfl (Nat.le_of_ble_eq_true rfl) (fun vr h2 hq => ?_) (fun E9 h9 hq => hq.elim)
            obtain ⟨rfl, hz⟩ := hq
            show wp _ _ 68 [(0, .ref (A 14 0 0)), (1, .int x1), (3, .int y3), (4, .int y4)] [.int v30] _ _ _
            refine w_aload_n 0 dX14_closeWindows_68 rfl rfl rfl ?_
            refine w_iload_n 1 dX14_closeWindows_69 rfl rfl rfl ?_
            refine w_iload_n 2 dX14_closeWindows_70 rfl rfl rfl ?_
            obtain ⟨v34, ρ35, e36, hr⟩ := bq_some hr
            refine c_X14_495 (As := [.int x1, .int y3]) (rest := [.int v30]) (fun l => s_X14_endOf  hz e36 l) hrm dX14_closeWindows_71 rfl rfl (Nat.le_of_ble_eq_true rfl) (Nat.le_of_ble_eq_true rfl) (Nat.le_of_ble_eq_true rfl) (hz.o14 rfl) rfl (Nat.le_of_ble_eq_true rfl) (fun vr h2 hq => ?_) (fun E9 h9 hq => hq.elim)
            obtain ⟨rfl, hz⟩ := hq
            show wp _ _ 74 [(0, .ref (A 14 0 0)), (1, .int x1), (3, .int y3), (4, .int y4)] [.int v34, .int v30] _ _ _
            refine w_icmp_lt 120 dX14_closeWindows_74 rfl rfl (fun q74 => ?_) (fun q74 => ?_)
            · have hr := bt q74 hr
              refine w_iload 3 dX14_closeWindows_120 rfl rfl ?_
              refine w_istore_n [(3, .int y4), (0, .ref (A 14 0 0)), (1, .int x1), (4, .int y4)] dX14_closeWindows_122 rfl rfl (by decide) rfl ?_
              refine w_iinc 3 (y4 + 1) [(4, .int (y4 + 1)), (3, .int y4), (0, .ref (A 14 0 0)), (1, .int x1)] dX14_closeWindows_123 rfl rfl rfl (by decide) rfl ?_
              refine w_goto 11 dX14_closeWindows_126 rfl ?_
              refine w_lv [(0, .ref (A 14 0 0)), (1, .int x1), (3, .int y4), (4, .int (y4 + 1))] [2, 3, 1, 0] rfl ?_
              exact w_X14_closeWindows_11 hf hrm  hk2 n y4 (y4 + 1) _ _ hz  hr
            · have hr := bf q74 hr
              refine w_aload_n 0 dX14_closeWindows_77 rfl rfl rfl ?_
              refine w_iload_n 1 dX14_closeWindows_78 rfl rfl rfl ?_
              refine w_iload 3 dX14_closeWindows_79 rfl rfl ?_
              obtain ⟨v38, ρ39, e40, hr⟩ := bq_some hr
              refine c_X14_495 (As := [.int x1, .int y4]) (rest := []) (fun l => s_X14_endOf  hz e40 l) hrm dX14_closeWindows_81 rfl rfl (Nat.le_of_ble_eq_true rfl) (Nat.le_of_ble_eq_true rfl) (Nat.le_of_ble_eq_true rfl) (hz.o14 rfl) rfl (Nat.le_of_ble_eq_true rfl) (fun vr h2 hq => ?_) (fun E9 h9 hq => hq.elim)
              obtain ⟨rfl, hz⟩ := hq
              show wp _ _ 84 [(0, .ref (A 14 0 0)), (1, .int x1), (3, .int y3), (4, .int y4)] [.int v38] _ _ _
              refine w_aload_n 0 dX14_closeWindows_84 rfl rfl rfl ?_
              refine w_iload_n 1 dX14_closeWindows_85 rfl rfl rfl ?_
              refine w_iload_n 2 dX14_closeWindows_86 rfl rfl rfl ?_
              obtain ⟨v42, ρ43, e44, hr⟩ := bq_some hr
              refine c_X14_495 (As := [.int x1, .int y3]) (rest := [.int v38]) (fun l => s_X14_endOf  hz e44 l) hrm dX14_closeWindows_87 rfl rfl (Nat.le_of_ble_eq_true rfl) (Nat.le_of_ble_eq_true rfl) (Nat.le_of_ble_eq_true rfl) (hz.o14 rfl) rfl (Nat.le_of_ble_eq_true rfl) (fun vr h2 hq => ?_) (fun E9 h9 hq => hq.elim)
              obtain ⟨rfl, hz⟩ := hq
              show wp _ _ 90 [(0, .ref (A 14 0 0)), (1, .int x1), (3, .int y3), (4, .int y4)] [.int v42, .int v38] _ _ _
              refine w_icmp_ne 123 dX14_closeWindows_90 rfl rfl (fun q90 => ?_) (fun q90 => ?_)
              · have hr := bf q90 hr
                refine w_iinc 3 (y4 + 1) [(4, .int (y4 + 1)), (0, .ref (A 14 0 0)), (1, .int x1), (3, .int y3)] dX14_closeWindows_123 rfl rfl rfl (by decide) rfl ?_
                refine w_goto 11 dX14_closeWindows_126 rfl ?_
                refine w_lv [(0, .ref (A 14 0 0)), (1, .int x1), (3, .int y3), (4, .int (y4 + 1))] [1, 2, 3, 0] rfl ?_
                exact w_X14_closeWindows_11 hf hrm  hk2 n y3 (y4 + 1) _ _ hz  hr
              · have hr := bt q90 hr
                refine w_aload_n 0 dX14_closeWindows_93 rfl rfl rfl ?_
                refine g_X14_88 dX14_closeWindows_94 rfl (hz.o14 rfl) (hz.r935 rfl) ?_
                refine w_bipush 60 dX14_closeWindows_97 rfl rfl ?_
                refine w_iload_n 1 dX14_closeWindows_99 rfl rfl rfl ?_
                refine w_imul dX14_closeWindows_100 rfl ?_
                refine w_iload 3 dX14_closeWindows_101 rfl rfl ?_
                refine w_iadd dX14_closeWindows_103 rfl ?_
                obtain ⟨g46, hr⟩ := gd hr
                refine w_lald dX14_closeWindows_104 rfl (hz.k935 rfl) (gin (hz.n935 rfl) g46) (hz.x935 rfl) ?_
                refine w_aload_n 0 dX14_closeWindows_105 rfl rfl rfl ?_
                refine g_X14_88 dX14_closeWindows_106 rfl (hz.o14 rfl) (hz.r935 rfl) ?_
                refine w_bipush 60 dX14_closeWindows_109 rfl rfl ?_
                refine w_iload_n 1 dX14_closeWindows_111 rfl rfl rfl ?_
                refine w_imul dX14_closeWindows_112 rfl ?_
                refine w_iload_n 2 dX14_closeWindows_113 rfl rfl rfl ?_
                refine w_iadd dX14_closeWindows_114 rfl ?_
                obtain ⟨g47, hr⟩ := gd hr
                refine w_lald dX14_closeWindows_115 rfl (hz.k935 rfl) (gin (hz.n935 rfl) g47) (hz.x935 rfl) ?_
                refine w_lcmp dX14_closeWindows_116 rfl ?_
                refine w_if_ge 123 dX14_closeWindows_117 rfl rfl (fun q117 => ?_) (fun q117 => ?_)
                · have hr := bt q117 hr
                  refine w_iinc 3 (y4 + 1) [(4, .int (y4 + 1)), (0, .ref (A 14 0 0)), (1, .int x1), (3, .int y3)] dX14_closeWindows_123 rfl rfl rfl (by decide) rfl ?_
                  refine w_goto 11 dX14_closeWindows_126 rfl ?_
                  refine w_lv [(0, .ref (A 14 0 0)), (1, .int x1), (3, .int y3), (4, .int (y4 + 1))] [1, 2, 3, 0] rfl ?_
                  exact w_X14_closeWindows_11 hf hrm  hk2 n y3 (y4 + 1) _ _ hz  hr
                · have hr := bf q117 hr
                  refine w_iload 3 dX14_closeWindows_120 rfl rfl ?_
                  refine w_istore_n [(3, .int y4), (0, .ref (A 14 0 0)), (1, .int x1), (4, .int y4)] dX14_closeWindows_122 rfl rfl (by decide) rfl ?_
                  refine w_iinc 3 (y4 + 1) [(4, .int (y4 + 1)), (3, .int y4), (0, .ref (A 14 0 0)), (1, .int x1)] dX14_closeWindows_123 rfl rfl rfl (by decide) rfl ?_
                  refine w_goto 11 dX14_closeWindows_126 rfl ?_
                  refine w_lv [(0, .ref (A 14 0 0)), (1, .int x1), (3, .int y4), (4, .int (y4 + 1))] [2, 3, 1, 0] rfl ?_
                  exact w_X14_closeWindows_11 hf hrm  hk2 n y4 (y4 + 1) _ _ hz  hr
        · have hr := bf q50 hr
          refine w_goto 123 dX14_closeWindows_53 rfl ?_
          refine w_iinc 3 (y4 + 1) [(4, .int (y4 + 1)), (0, .ref (A 14 0 0)), (1, .int x1), (3, .int y3)] dX14_closeWindows_123 rfl rfl rfl (by decide) rfl ?_
          refine w_goto 11 dX14_closeWindows_126 rfl ?_
          refine w_lv [(0, .ref (A 14 0 0)), (1, .int x1), (3, .int y3), (4, .int (y4 + 1))] [1, 2, 3, 0] rfl ?_
          exact w_X14_closeWindows_11 hf hrm  hk2 n y3 (y4 + 1) _ _ hz  hr
set_option maxRecDepth 20000 in
set_option maxHeartbeats 4000000 in
theorem w_X14_closeWindows_2 {A : Nat → Nat → Nat → Nat} {σ ρ' : Zs} {v : Unit} {x : Cxt} {x1 : Int32}  (hf : m_fin 0 0 (QV A v σ ρ') X0 x) (hrm : m_rm 13 0 0 x)  : ∀ (n : Nat) (y2 : Int32) (ρ : Zs) (h : Hp), Rp A h σ ρ → fX14_closeWindows_2 x1  n y2 ρ = some (v, ρ') → wp x mX14_closeWindows 2 [(0, .ref (A 14 0 0)), (1, .int x1), (2, .int y2)] [] h 0 0
  | 0, _, ρ, h => fun hz hr => by
    rw [fX14_closeWindows_2.eq_1] at hr
    exact nono hr
  | n + 1, y2, ρ, h => fun hz hr => by
    rw [fX14_closeWindows_2.eq_2] at hr
    refine w_iload_n 2 dX14_closeWindows_2 rfl rfl rfl ?_
    refine w_if_eq 168 dX14_closeWindows_3 rfl rfl (fun q3 => ?_) (fun q3 => ?_)
    · have hr := bt q3 hr
      refine w_iconst 0 dX14_closeWindows_168 rfl rfl ?_
      refine w_istore_n [(3, .int 0), (0, .ref (A 14 0 0)), (1, .int x1), (2, .int y2)] dX14_closeWindows_169 rfl rfl (by decide) rfl ?_
      refine w_iconst 0 dX14_closeWindows_170 rfl rfl ?_
      refine w_istore [(4, .int 0), (3, .int 0), (0, .ref (A 14 0 0)), (1, .int x1), (2, .int y2)] dX14_closeWindows_171 rfl (by decide) rfl ?_
      refine w_lv [(0, .ref (A 14 0 0)), (1, .int x1), (3, .int 0), (4, .int 0)] [2, 3, 1, 0] rfl ?_
      exact w_X14_closeWindows_173 hf hrm   FU 0 0 _ _ hz  hr
    · have hr := bf q3 hr
      refine w_iconst (-1) dX14_closeWindows_6 rfl rfl ?_
      refine w_istore_n [(3, .int (-1)), (0, .ref (A 14 0 0)), (1, .int x1), (2, .int y2)] dX14_closeWindows_7 rfl rfl (by decide) rfl ?_
      refine w_iconst 0 dX14_closeWindows_8 rfl rfl ?_
      refine w_istore [(4, .int 0), (3, .int (-1)), (0, .ref (A 14 0 0)), (1, .int x1), (2, .int y2)] dX14_closeWindows_9 rfl (by decide) rfl ?_
      refine w_lv [(0, .ref (A 14 0 0)), (1, .int x1), (3, .int (-1)), (4, .int 0)] [2, 3, 1, 0] rfl ?_
      exact w_X14_closeWindows_11 hf hrm  (fun by2 zb hb hzb  hrb => w_X14_closeWindows_2 hf hrm   n by2 zb hb hzb  hrb) FU (-1) 0 _ _ hz  hr
set_option maxRecDepth 20000 in
set_option maxHeartbeats 4000000 in
theorem s_X14_closeWindows {A : Nat → Nat → Nat → Nat} {h : Hp} {σ ρ ρ' : Zs} {v : Unit} {x1 : Int32}  (hz : Rp A h σ ρ) (hr : fX14_closeWindows x1 ρ = some (v, ρ')) : ∀ l : Launch, Sp l mX14_closeWindows 13 0 0 [.ref (A 14 0 0), .int x1] h (QV A v σ ρ') X0 := by
  intro l
  refine Sp.of rfl rfl (lv := [(0, .ref (A 14 0 0)), (1, .int x1)]) (Nat.le_of_ble_eq_true rfl) rfl (fun x hf hrm => ?_)
  rw [fX14_closeWindows.eq_1] at hr
  refine w_iconst 1 dX14_closeWindows_0 rfl rfl ?_
  refine w_istore_n [(2, .int 1), (0, .ref (A 14 0 0)), (1, .int x1)] dX14_closeWindows_1 rfl rfl (by decide) rfl ?_
  refine w_lv [(0, .ref (A 14 0 0)), (1, .int x1), (2, .int 1)] [1, 2, 0] rfl ?_
  exact w_X14_closeWindows_2 hf hrm   FU 1 _ _ hz  hr

set_option maxRecDepth 20000 in
set_option maxHeartbeats 4000000 in
theorem w_X14_firstOnly_22 {A : Nat → Nat → Nat → Nat} {σ ρ' : Zs} {v : Unit} {x : Cxt} {x1 : Int32} {x2 : Int32}  (hf : m_fin 0 0 (QV A v σ ρ') X0 x) (hrm : m_rm 12 0 0 x)  : ∀ (n : Nat) (y3 : Int64) (y5 : Int32) (ρ : Zs) (h : Hp), Rp A h σ ρ → fX14_firstOnly_22 x1 x2  n y3 y5 ρ = some (v, ρ') → wp x mX14_firstOnly 22 [(0, .ref (A 14 0 0)), (1, .int x1), (2, .int x2), (3, .long y3), (5, .int y5)] [] h 0 0
  | 0, _, _, ρ, h => fun hz hr => by
    rw [fX14_firstOnly_22.eq_1] at hr
    exact nono hr
  | n + 1, y3, y5, ρ, h => fun hz hr => by
    rw [fX14_firstOnly_22.eq_2] at hr
    refine w_iload 4 dX14_firstOnly_22 rfl rfl ?_
    refine w_aload_n 0 dX14_firstOnly_24 rfl rfl rfl ?_
    refine g_X14_64 dX14_firstOnly_25 rfl (hz.o14 rfl) (hz.r922 rfl) ?_
    refine w_iload_n 1 dX14_firstOnly_28 rfl rfl rfl ?_
    obtain ⟨g4, hr⟩ := gd hr
    refine w_iald dX14_firstOnly_29 rfl (hz.k922 rfl) (gin (hz.n922 rfl) g4) (hz.x922 rfl) ?_
    refine w_icmp_ge 97 dX14_firstOnly_30 rfl rfl (fun q30 => ?_) (fun q30 => ?_)
    · have hr := bt q30 hr
      refine w_aload_n 0 dX14_firstOnly_97 rfl rfl rfl ?_
      refine g_X14_61 dX14_firstOnly_98 rfl (hz.o14 rfl) (hz.r921 rfl) ?_
      refine w_iconst 2 dX14_firstOnly_101 rfl rfl ?_
      refine w_sipush 200 dX14_firstOnly_102 rfl rfl ?_
      refine w_iload_n 1 dX14_firstOnly_105 rfl rfl rfl ?_
      refine w_imul dX14_firstOnly_106 rfl ?_
      refine w_aload_n 0 dX14_firstOnly_107 rfl rfl rfl ?_
      refine g_X14_64 dX14_firstOnly_108 rfl (hz.o14 rfl) (hz.r922 rfl) ?_
      refine w_iload_n 1 dX14_firstOnly_111 rfl rfl rfl ?_
      obtain ⟨g5, hr⟩ := gd hr
      refine w_iald dX14_firstOnly_112 rfl (hz.k922 rfl) (gin (hz.n922 rfl) g5) (hz.x922 rfl) ?_
      refine w_iadd dX14_firstOnly_113 rfl ?_
      refine w_imul dX14_firstOnly_114 rfl ?_
      refine w_lload_n 3 dX14_firstOnly_115 rfl rfl rfl ?_
      obtain ⟨g6, hr⟩ := gd hr
      refine w_last dX14_firstOnly_116 rfl (hz.k921 rfl) (gin (hz.n921 rfl) g6) ?_
      obtain ⟨ρ7, e8, hr⟩ := lt_e hr
      have hz := (hz.s921 (i := (Int32.toNatClampNeg (2 * ((200 * x1) + (zI ρ 1946 0 0 (Int32.toNatClampNeg x1)))))) (v := y3) rfl).tr e8
      refine w_aload_n 0 dX14_firstOnly_117 rfl rfl rfl ?_
      refine g_X14_61 dX14_firstOnly_118 rfl (hz.o14 rfl) (hz.r921 rfl) ?_
      refine w_iconst 2 dX14_firstOnly_121 rfl rfl ?_
      refine w_sipush 200 dX14_firstOnly_122 rfl rfl ?_
      refine w_iload_n 1 dX14_firstOnly_125 rfl rfl rfl ?_
      refine w_imul dX14_firstOnly_126 rfl ?_
      refine w_aload_n 0 dX14_firstOnly_127 rfl rfl rfl ?_
      refine g_X14_64 dX14_firstOnly_128 rfl (hz.o14 rfl) (hz.r922 rfl) ?_
      refine w_iload_n 1 dX14_firstOnly_131 rfl rfl rfl ?_
      obtain ⟨g9, hr⟩ := gd hr
      refine w_iald dX14_firstOnly_132 rfl (hz.k922 rfl) (gin (hz.n922 rfl) g9) (hz.x922 rfl) ?_
      refine w_iadd dX14_firstOnly_133 rfl ?_
      refine w_imul dX14_firstOnly_134 rfl ?_
      refine w_iconst 1 dX14_firstOnly_135 rfl rfl ?_
      refine w_iadd dX14_firstOnly_136 rfl ?_
      refine w_aload_n 0 dX14_firstOnly_137 rfl rfl rfl ?_
      refine g_X14_46 dX14_firstOnly_138 rfl (hz.o14 rfl) (hz.r916 rfl) ?_
      refine w_iload_n 2 dX14_firstOnly_141 rfl rfl rfl ?_
      obtain ⟨g10, hr⟩ := gd hr
      refine w_lald dX14_firstOnly_142 rfl (hz.k916 rfl) (gin (hz.n916 rfl) g10) (hz.x916 rfl) ?_
      obtain ⟨g11, hr⟩ := gd hr
      refine w_last dX14_firstOnly_143 rfl (hz.k921 rfl) (gin (hz.n921 rfl) g11) ?_
      obtain ⟨ρ12, e13, hr⟩ := lt_e hr
      have hz := (hz.s921 (i := (Int32.toNatClampNeg ((2 * ((200 * x1) + (zI ρ7 1946 0 0 (Int32.toNatClampNeg x1)))) + 1))) (v := (zJ ρ7 1940 0 0 (Int32.toNatClampNeg x2))) rfl).tr e13
      refine w_aload_n 0 dX14_firstOnly_144 rfl rfl rfl ?_
      refine g_X14_64 dX14_firstOnly_145 rfl (hz.o14 rfl) (hz.r922 rfl) ?_
      refine w_iload_n 1 dX14_firstOnly_148 rfl rfl rfl ?_
      refine w_dup2 dX14_firstOnly_149 rfl rfl rfl ?_
      obtain ⟨g14, hr⟩ := gd hr
      refine w_iald dX14_firstOnly_150 rfl (hz.k922 rfl) (gin (hz.n922 rfl) g14) (hz.x922 rfl) ?_
      refine w_iconst 1 dX14_firstOnly_151 rfl rfl ?_
      refine w_iadd dX14_firstOnly_152 rfl ?_
      obtain ⟨g15, hr⟩ := gd hr
      refine w_iast dX14_firstOnly_153 rfl (hz.k922 rfl) (gin (hz.n922 rfl) g15) ?_
      obtain ⟨ρ16, e17, hr⟩ := lt_e hr
      have hz := (hz.s922 (i := (Int32.toNatClampNeg x1)) (v := ((zI ρ12 1946 0 0 (Int32.toNatClampNeg x1)) + 1)) rfl).tr e17
      refine w_aload_n 0 dX14_firstOnly_154 rfl rfl rfl ?_
      refine w_iload_n 1 dX14_firstOnly_155 rfl rfl rfl ?_
      obtain ⟨v18, ρ19, e20, hr⟩ := bq_some hr
      refine c_X14_498 (As := [.int x1]) (rest := []) (fun l => s_X14_offer  hz e20 l) hrm dX14_firstOnly_156 rfl rfl (Nat.le_of_ble_eq_true rfl) (Nat.le_of_ble_eq_true rfl) (Nat.le_of_ble_eq_true rfl) (hz.o14 rfl) rfl (Nat.le_of_ble_eq_true rfl) (fun vr h2 hq => ?_) (fun E9 h9 hq => hq.elim)
      obtain ⟨rfl, hz⟩ := hq
      show wp _ _ 159 [(0, .ref (A 14 0 0)), (1, .int x1), (2, .int x2), (3, .long y3), (5, .int y5)] [] _ _ _
      refine w_vret hf dX14_firstOnly_159 rfl (Nat.le_of_ble_eq_true rfl) (Nat.le_of_ble_eq_true rfl) ?_
      obtain ⟨rfl, rfl⟩ := ret_inj hr
      exact ⟨rfl, hz⟩
    · have hr := bf q30 hr
      refine w_iconst 2 dX14_firstOnly_33 rfl rfl ?_
      refine w_sipush 200 dX14_firstOnly_34 rfl rfl ?_
      refine w_iload_n 1 dX14_firstOnly_37 rfl rfl rfl ?_
      refine w_imul dX14_firstOnly_38 rfl ?_
      refine w_iload 4 dX14_firstOnly_39 rfl rfl ?_
      refine w_iadd dX14_firstOnly_41 rfl ?_
      refine w_imul dX14_firstOnly_42 rfl ?_
      refine w_istore [(6, .int (2 * ((200 * x1) + y5))), (0, .ref (A 14 0 0)), (1, .int x1), (2, .int x2), (3, .long y3), (5, .int y5)] dX14_firstOnly_43 rfl (by decide) rfl ?_
      refine w_aload_n 1 dX14_firstOnly_45 rfl rfl rfl ?_
      refine g_X14_61 dX14_firstOnly_46 rfl (hz.o14 rfl) (hz.r921 rfl) ?_
      refine w_iload 0 dX14_firstOnly_49 rfl rfl ?_
      obtain ⟨g22, hr⟩ := gd hr
      refine w_lald dX14_firstOnly_51 rfl (hz.k921 rfl) (gin (hz.n921 rfl) g22) (hz.x921 rfl) ?_
      refine w_lload_n 4 dX14_firstOnly_52 rfl rfl rfl ?_
      refine w_lcmp dX14_firstOnly_53 rfl ?_
      refine w_if_ne 91 dX14_firstOnly_54 rfl rfl (fun q54 => ?_) (fun q54 => ?_)
      · have hr := bf q54 hr
        refine w_iinc 5 (y5 + 1) [(5, .int (y5 + 1)), (6, .int (2 * ((200 * x1) + y5))), (0, .ref (A 14 0 0)), (1, .int x1), (2, .int x2), (3, .long y3)] dX14_firstOnly_91 rfl rfl rfl (by decide) rfl ?_
        refine w_goto 22 dX14_firstOnly_94 rfl ?_
        refine w_lv [(0, .ref (A 14 0 0)), (1, .int x1), (2, .int x2), (3, .long y3), (5, .int (y5 + 1))] [2, 3, 4, 5, 0] rfl ?_
        exact w_X14_firstOnly_22 hf hrm   n y3 (y5 + 1) _ _ hz  hr
      · have hr := bt q54 hr
        refine w_aload_n 1 dX14_firstOnly_57 rfl rfl rfl ?_
        refine g_X14_61 dX14_firstOnly_58 rfl (hz.o14 rfl) (hz.r921 rfl) ?_
        refine w_iload 0 dX14_firstOnly_61 rfl rfl ?_
        refine w_iconst 1 dX14_firstOnly_63 rfl rfl ?_
        refine w_iadd dX14_firstOnly_64 rfl ?_
        obtain ⟨g23, hr⟩ := gd hr
        refine w_lald dX14_firstOnly_65 rfl (hz.k921 rfl) (gin (hz.n921 rfl) g23) (hz.x921 rfl) ?_
        refine w_aload_n 1 dX14_firstOnly_66 rfl rfl rfl ?_
        refine g_X14_46 dX14_firstOnly_67 rfl (hz.o14 rfl) (hz.r916 rfl) ?_
        refine w_iload_n 3 dX14_firstOnly_70 rfl rfl rfl ?_
        obtain ⟨g24, hr⟩ := gd hr
        refine w_lald dX14_firstOnly_71 rfl (hz.k916 rfl) (gin (hz.n916 rfl) g24) (hz.x916 rfl) ?_
        refine w_lsub dX14_firstOnly_72 rfl ?_
        refine w_mlabs hrm (by decide) dX14_firstOnly_73 rfl ml_X14_526 (Nat.le_of_ble_eq_true rfl) (Nat.le_of_ble_eq_true rfl) (Nat.le_of_ble_eq_true rfl) ?_
        refine w_aload_n 1 dX14_firstOnly_76 rfl rfl rfl ?_
        have hv25 := hz.ww898 (p := 0) (s := 0) rfl
        refine g_X14_16 dX14_firstOnly_77 rfl (hz.o14 rfl) (hz.rr898 rfl) ?_
        refine g_X14_369 dX14_firstOnly_80 rfl (hz.o12 hv25) (hz.r775 hv25) ?_
        refine w_iload_n 2 dX14_firstOnly_83 rfl rfl rfl ?_
        obtain ⟨g26, hr⟩ := gd hr
        refine w_iald dX14_firstOnly_84 rfl (hz.k775 hv25) (gin (hz.n775 hv25) g26) (hz.x775 hv25) ?_
        refine w_i2l dX14_firstOnly_85 rfl ?_
        refine w_lcmp dX14_firstOnly_86 rfl ?_
        refine w_if_gt 91 dX14_firstOnly_87 rfl rfl (fun q87 => ?_) (fun q87 => ?_)
        · have hr := bt q87 hr
          refine w_iinc 5 (y5 + 1) [(5, .int (y5 + 1)), (6, .int (2 * ((200 * x1) + y5))), (0, .ref (A 14 0 0)), (1, .int x1), (2, .int x2), (3, .long y3)] dX14_firstOnly_91 rfl rfl rfl (by decide) rfl ?_
          refine w_goto 22 dX14_firstOnly_94 rfl ?_
          refine w_lv [(0, .ref (A 14 0 0)), (1, .int x1), (2, .int x2), (3, .long y3), (5, .int (y5 + 1))] [2, 3, 4, 5, 0] rfl ?_
          exact w_X14_firstOnly_22 hf hrm   n y3 (y5 + 1) _ _ hz  hr
        · have hr := bf q87 hr
          refine w_vret hf dX14_firstOnly_90 rfl (Nat.le_of_ble_eq_true rfl) (Nat.le_of_ble_eq_true rfl) ?_
          obtain ⟨rfl, rfl⟩ := ret_inj hr
          exact ⟨rfl, hz⟩
set_option maxRecDepth 20000 in
set_option maxHeartbeats 4000000 in
theorem s_X14_firstOnly {A : Nat → Nat → Nat → Nat} {h : Hp} {σ ρ ρ' : Zs} {v : Unit} {x1 : Int32} {x2 : Int32}  (hz : Rp A h σ ρ) (hr : fX14_firstOnly x1 x2 ρ = some (v, ρ')) : ∀ l : Launch, Sp l mX14_firstOnly 12 0 0 [.ref (A 14 0 0), .int x1, .int x2] h (QV A v σ ρ') X0 := by
  intro l
  refine Sp.of rfl rfl (lv := [(0, .ref (A 14 0 0)), (1, .int x1), (2, .int x2)]) (Nat.le_of_ble_eq_true rfl) rfl (fun x hf hrm => ?_)
  rw [fX14_firstOnly.eq_1] at hr
  refine w_aload_n 0 dX14_firstOnly_0 rfl rfl rfl ?_
  refine g_X14_46 dX14_firstOnly_1 rfl (hz.o14 rfl) (hz.r916 rfl) ?_
  refine w_iload_n 2 dX14_firstOnly_4 rfl rfl rfl ?_
  refine w_iconst 1 dX14_firstOnly_5 rfl rfl ?_
  refine w_iadd dX14_firstOnly_6 rfl ?_
  refine w_aload_n 0 dX14_firstOnly_7 rfl rfl rfl ?_
  have hv1 := hz.ww898 (p := 0) (s := 0) rfl
  refine g_X14_16 dX14_firstOnly_8 rfl (hz.o14 rfl) (hz.rr898 rfl) ?_
  refine g_X14_387 dX14_firstOnly_11 rfl (hz.o12 hv1) (hz.r777 hv1) ?_
  refine w_iload_n 1 dX14_firstOnly_14 rfl rfl rfl ?_
  obtain ⟨g2, hr⟩ := gd hr
  refine w_iald dX14_firstOnly_15 rfl (hz.k777 hv1) (gin (hz.n777 hv1) g2) (hz.x777 hv1) ?_
  refine w_iadd dX14_firstOnly_16 rfl ?_
  obtain ⟨g3, hr⟩ := gd hr
  refine w_lald dX14_firstOnly_17 rfl (hz.k916 rfl) (gin (hz.n916 rfl) g3) (hz.x916 rfl) ?_
  refine w_lstore_n [(3, .long (zJ ρ 1940 0 0 (Int32.toNatClampNeg ((x2 + 1) + (zI ρ 1801 ((zR ρ 898 0 0 0).1) 0 (Int32.toNatClampNeg x1)))))), (0, .ref (A 14 0 0)), (1, .int x1), (2, .int x2)] dX14_firstOnly_18 rfl rfl (by decide) rfl ?_
  refine w_iconst 0 dX14_firstOnly_19 rfl rfl ?_
  refine w_istore [(5, .int 0), (3, .long (zJ ρ 1940 0 0 (Int32.toNatClampNeg ((x2 + 1) + (zI ρ 1801 ((zR ρ 898 0 0 0).1) 0 (Int32.toNatClampNeg x1)))))), (0, .ref (A 14 0 0)), (1, .int x1), (2, .int x2)] dX14_firstOnly_20 rfl (by decide) rfl ?_
  refine w_lv [(0, .ref (A 14 0 0)), (1, .int x1), (2, .int x2), (3, .long (zJ ρ 1940 0 0 (Int32.toNatClampNeg ((x2 + 1) + (zI ρ 1801 ((zR ρ 898 0 0 0).1) 0 (Int32.toNatClampNeg x1)))))), (5, .int 0)] [2, 3, 4, 1, 0] rfl ?_
  exact w_X14_firstOnly_22 hf hrm   FU (zJ ρ 1940 0 0 (Int32.toNatClampNeg ((x2 + 1) + (zI ρ 1801 ((zR ρ 898 0 0 0).1) 0 (Int32.toNatClampNeg x1))))) 0 _ _ hz  hr

set_option maxRecDepth 20000 in
set_option maxHeartbeats 4000000 in
theorem w_X14_passOn_154 {A : Nat → Nat → Nat → Nat} {σ ρ' : Zs} {v : Unit} {x : Cxt} {x1 : Int32} {x2 : Int32}  (hf : m_fin 0 0 (QV A v σ ρ') X0 x) (hrm : m_rm 14 0 0 x)  : ∀ (n : Nat) (y5 : Int32) (ρ : Zs) (h : Hp), Rp A h σ ρ → fX14_passOn_154 x1 x2  n y5 ρ = some (v, ρ') → wp x mX14_passOn 154 [(0, .ref (A 14 0 0)), (1, .int x1), (2, .int x2), (5, .int y5)] [] h 0 0
  | 0, _, ρ, h => fun hz hr => by
    rw [fX14_passOn_154.eq_1] at hr
    exact nono hr
  | n + 1, y5, ρ, h => fun hz hr => by
    rw [fX14_passOn_154.eq_2] at hr
    refine w_iload 3 dX14_passOn_154 rfl rfl ?_
    refine w_aload_n 0 dX14_passOn_156 rfl rfl rfl ?_
    have hv21 := hz.ww898 (p := 0) (s := 0) rfl
    refine g_X14_16 dX14_passOn_157 rfl (hz.o14 rfl) (hz.rr898 rfl) ?_
    refine g_X14_292 dX14_passOn_160 rfl (hz.o12 hv21) (hz.r771 hv21) ?_
    refine w_iload_n 1 dX14_passOn_163 rfl rfl rfl ?_
    obtain ⟨g22, hr⟩ := gd hr
    refine w_iald dX14_passOn_164 rfl (hz.k771 hv21) (gin (hz.n771 hv21) g22) (hz.x771 hv21) ?_
    refine w_icmp_ge 207 dX14_passOn_165 rfl rfl (fun q165 => ?_) (fun q165 => ?_)
    · have hr := bt q165 hr
      refine w_aload_n 0 dX14_passOn_207 rfl rfl rfl ?_
      refine w_iload_n 1 dX14_passOn_208 rfl rfl rfl ?_
      obtain ⟨v23, ρ24, e25, hr⟩ := bq_some hr
      refine c_X14_498 (As := [.int x1]) (rest := []) (fun l => s_X14_offer  hz e25 l) hrm dX14_passOn_209 rfl rfl (Nat.le_of_ble_eq_true rfl) (Nat.le_of_ble_eq_true rfl) (Nat.le_of_ble_eq_true rfl) (hz.o14 rfl) rfl (Nat.le_of_ble_eq_true rfl) (fun vr h2 hq => ?_) (fun E9 h9 hq => hq.elim)
      obtain ⟨rfl, hz⟩ := hq
      show wp _ _ 212 [(0, .ref (A 14 0 0)), (1, .int x1), (2, .int x2), (5, .int y5)] [] _ _ _
      refine w_goto 255 dX14_passOn_212 rfl ?_
      refine w_vret hf dX14_passOn_255 rfl (Nat.le_of_ble_eq_true rfl) (Nat.le_of_ble_eq_true rfl) ?_
      obtain ⟨rfl, rfl⟩ := ret_inj hr
      exact ⟨rfl, hz⟩
    · have hr := bf q165 hr
      refine w_aload_n 0 dX14_passOn_168 rfl rfl rfl ?_
      refine g_X14_82 dX14_passOn_169 rfl (hz.o14 rfl) (hz.r933 rfl) ?_
      refine w_iconst 1 dX14_passOn_172 rfl rfl ?_
      refine w_iload 3 dX14_passOn_173 rfl rfl ?_
      refine w_iadd dX14_passOn_175 rfl ?_
      refine w_aload_n 0 dX14_passOn_176 rfl rfl rfl ?_
      refine g_X14_46 dX14_passOn_177 rfl (hz.o14 rfl) (hz.r916 rfl) ?_
      refine w_iload_n 2 dX14_passOn_180 rfl rfl rfl ?_
      refine w_iconst 1 dX14_passOn_181 rfl rfl ?_
      refine w_iadd dX14_passOn_182 rfl ?_
      refine w_aload_n 0 dX14_passOn_183 rfl rfl rfl ?_
      have hv27 := hz.ww898 (p := 0) (s := 0) rfl
      refine g_X14_16 dX14_passOn_184 rfl (hz.o14 rfl) (hz.rr898 rfl) ?_
      refine g_X14_335 dX14_passOn_187 rfl (hz.o12 hv27) (hz.r779 hv27) ?_
      refine w_bipush 6 dX14_passOn_190 rfl rfl ?_
      refine w_iload_n 1 dX14_passOn_192 rfl rfl rfl ?_
      refine w_imul dX14_passOn_193 rfl ?_
      refine w_iload 3 dX14_passOn_194 rfl rfl ?_
      refine w_iadd dX14_passOn_196 rfl ?_
      obtain ⟨g28, hr⟩ := gd hr
      refine w_iald dX14_passOn_197 rfl (hz.k779 hv27) (gin (hz.n779 hv27) g28) (hz.x779 hv27) ?_
      refine w_iadd dX14_passOn_198 rfl ?_
      obtain ⟨g29, hr⟩ := gd hr
      refine w_lald dX14_passOn_199 rfl (hz.k916 rfl) (gin (hz.n916 rfl) g29) (hz.x916 rfl) ?_
      obtain ⟨g30, hr⟩ := gd hr
      refine w_last dX14_passOn_200 rfl (hz.k933 rfl) (gin (hz.n933 rfl) g30) ?_
      obtain ⟨ρ31, e32, hr⟩ := lt_e hr
      have hz := (hz.s933 (i := (Int32.toNatClampNeg (1 + y5))) (v := (zJ ρ 1940 0 0 (Int32.toNatClampNeg ((x2 + 1) + (zI ρ 1803 ((zR ρ 898 0 0 0).1) 0 (Int32.toNatClampNeg ((6 * x1) + y5))))))) rfl).tr e32
      refine w_iinc 3 (y5 + 1) [(5, .int (y5 + 1)), (0, .ref (A 14 0 0)), (1, .int x1), (2, .int x2)] dX14_passOn_201 rfl rfl rfl (by decide) rfl ?_
      refine w_goto 154 dX14_passOn_204 rfl ?_
      refine w_lv [(0, .ref (A 14 0 0)), (1, .int x1), (2, .int x2), (5, .int (y5 + 1))] [1, 2, 3, 0] rfl ?_
      exact w_X14_passOn_154 hf hrm   n (y5 + 1) _ _ hz  hr
set_option maxRecDepth 20000 in
set_option maxHeartbeats 4000000 in
theorem w_X14_passOn_84 {A : Nat → Nat → Nat → Nat} {σ ρ' : Zs} {v : Unit} {x : Cxt} {x1 : Int32} {x2 : Int32}  (hf : m_fin 0 0 (QV A v σ ρ') X0 x) (hrm : m_rm 14 0 0 x)  : ∀ (n : Nat) (y5 : Int32) (ρ : Zs) (h : Hp), Rp A h σ ρ → fX14_passOn_84 x1 x2  n y5 ρ = some (v, ρ') → wp x mX14_passOn 84 [(0, .ref (A 14 0 0)), (1, .int x1), (2, .int x2), (5, .int y5)] [] h 0 0
  | 0, _, ρ, h => fun hz hr => by
    rw [fX14_passOn_84.eq_1] at hr
    exact nono hr
  | n + 1, y5, ρ, h => fun hz hr => by
    rw [fX14_passOn_84.eq_2] at hr
    refine w_iload 3 dX14_passOn_84 rfl rfl ?_
    refine w_aload_n 0 dX14_passOn_86 rfl rfl rfl ?_
    have hv35 := hz.ww898 (p := 0) (s := 0) rfl
    refine g_X14_16 dX14_passOn_87 rfl (hz.o14 rfl) (hz.rr898 rfl) ?_
    refine g_X14_292 dX14_passOn_90 rfl (hz.o12 hv35) (hz.r771 hv35) ?_
    refine w_iload_n 1 dX14_passOn_93 rfl rfl rfl ?_
    obtain ⟨g36, hr⟩ := gd hr
    refine w_iald dX14_passOn_94 rfl (hz.k771 hv35) (gin (hz.n771 hv35) g36) (hz.x771 hv35) ?_
    refine w_icmp_ge 137 dX14_passOn_95 rfl rfl (fun q95 => ?_) (fun q95 => ?_)
    · have hr := bt q95 hr
      refine w_aload_n 0 dX14_passOn_137 rfl rfl rfl ?_
      refine w_iload_n 1 dX14_passOn_138 rfl rfl rfl ?_
      obtain ⟨v37, ρ38, e39, hr⟩ := bq_some hr
      refine c_X14_498 (As := [.int x1]) (rest := []) (fun l => s_X14_offer  hz e39 l) hrm dX14_passOn_139 rfl rfl (Nat.le_of_ble_eq_true rfl) (Nat.le_of_ble_eq_true rfl) (Nat.le_of_ble_eq_true rfl) (hz.o14 rfl) rfl (Nat.le_of_ble_eq_true rfl) (fun vr h2 hq => ?_) (fun E9 h9 hq => hq.elim)
      obtain ⟨rfl, hz⟩ := hq
      show wp _ _ 142 [(0, .ref (A 14 0 0)), (1, .int x1), (2, .int x2), (5, .int y5)] [] _ _ _
      refine w_goto 255 dX14_passOn_142 rfl ?_
      refine w_vret hf dX14_passOn_255 rfl (Nat.le_of_ble_eq_true rfl) (Nat.le_of_ble_eq_true rfl) ?_
      obtain ⟨rfl, rfl⟩ := ret_inj hr
      exact ⟨rfl, hz⟩
    · have hr := bf q95 hr
      refine w_aload_n 0 dX14_passOn_98 rfl rfl rfl ?_
      refine g_X14_82 dX14_passOn_99 rfl (hz.o14 rfl) (hz.r933 rfl) ?_
      refine w_iconst 1 dX14_passOn_102 rfl rfl ?_
      refine w_iload 3 dX14_passOn_103 rfl rfl ?_
      refine w_iadd dX14_passOn_105 rfl ?_
      refine w_aload_n 0 dX14_passOn_106 rfl rfl rfl ?_
      refine w_aload_n 0 dX14_passOn_107 rfl rfl rfl ?_
      have hv41 := hz.ww898 (p := 0) (s := 0) rfl
      refine g_X14_16 dX14_passOn_108 rfl (hz.o14 rfl) (hz.rr898 rfl) ?_
      refine g_X14_335 dX14_passOn_111 rfl (hz.o12 hv41) (hz.r779 hv41) ?_
      refine w_bipush 6 dX14_passOn_114 rfl rfl ?_
      refine w_iload_n 1 dX14_passOn_116 rfl rfl rfl ?_
      refine w_imul dX14_passOn_117 rfl ?_
      refine w_iload 3 dX14_passOn_118 rfl rfl ?_
      refine w_iadd dX14_passOn_120 rfl ?_
      obtain ⟨g42, hr⟩ := gd hr
      refine w_iald dX14_passOn_121 rfl (hz.k779 hv41) (gin (hz.n779 hv41) g42) (hz.x779 hv41) ?_
      refine w_aload_n 0 dX14_passOn_122 rfl rfl rfl ?_
      refine g_X14_46 dX14_passOn_123 rfl (hz.o14 rfl) (hz.r916 rfl) ?_
      refine w_iload_n 2 dX14_passOn_126 rfl rfl rfl ?_
      obtain ⟨v43, ρ44, e45, hr⟩ := bq_some hr
      refine c_X14_481 (As := [.int (zI ρ 1803 ((zR ρ 898 0 0 0).1) 0 (Int32.toNatClampNeg ((6 * x1) + y5))), .ref (A 1940 0 0), .int x2]) (rest := [.int (1 + y5), .ref (A 1957 0 0)]) (fun l => s_X14_worth (aok_916 rfl) rfl hz e45 l) hrm dX14_passOn_127 rfl rfl (Nat.le_of_ble_eq_true rfl) (Nat.le_of_ble_eq_true rfl) (Nat.le_of_ble_eq_true rfl) (hz.o14 rfl) rfl (Nat.le_of_ble_eq_true rfl) (fun vr h2 hq => ?_) (fun E9 h9 hq => hq.elim)
      obtain ⟨rfl, hz⟩ := hq
      show wp _ _ 130 [(0, .ref (A 14 0 0)), (1, .int x1), (2, .int x2), (5, .int y5)] [.long v43, .int (1 + y5), .ref (A 1957 0 0)] _ _ _
      obtain ⟨g47, hr⟩ := gd hr
      refine w_last dX14_passOn_130 rfl (hz.k933 rfl) (gin (hz.n933 rfl) g47) ?_
      obtain ⟨ρ48, e49, hr⟩ := lt_e hr
      have hz := (hz.s933 (i := (Int32.toNatClampNeg (1 + y5))) (v := v43) rfl).tr e49
      refine w_iinc 3 (y5 + 1) [(5, .int (y5 + 1)), (0, .ref (A 14 0 0)), (1, .int x1), (2, .int x2)] dX14_passOn_131 rfl rfl rfl (by decide) rfl ?_
      refine w_goto 84 dX14_passOn_134 rfl ?_
      refine w_lv [(0, .ref (A 14 0 0)), (1, .int x1), (2, .int x2), (5, .int (y5 + 1))] [1, 2, 3, 0] rfl ?_
      exact w_X14_passOn_84 hf hrm   n (y5 + 1) _ _ hz  hr
set_option maxRecDepth 20000 in
set_option maxHeartbeats 4000000 in
theorem s_X14_passOn {A : Nat → Nat → Nat → Nat} {h : Hp} {σ ρ ρ' : Zs} {v : Unit} {x1 : Int32} {x2 : Int32}  (hz : Rp A h σ ρ) (hr : fX14_passOn x1 x2 ρ = some (v, ρ')) : ∀ l : Launch, Sp l mX14_passOn 14 0 0 [.ref (A 14 0 0), .int x1, .int x2] h (QV A v σ ρ') X0 := by
  intro l
  refine Sp.of rfl rfl (lv := [(0, .ref (A 14 0 0)), (1, .int x1), (2, .int x2)]) (Nat.le_of_ble_eq_true rfl) rfl (fun x hf hrm => ?_)
  rw [fX14_passOn.eq_1] at hr
  refine w_aload_n 0 dX14_passOn_0 rfl rfl rfl ?_
  have hv1 := hz.ww898 (p := 0) (s := 0) rfl
  refine g_X14_16 dX14_passOn_1 rfl (hz.o14 rfl) (hz.rr898 rfl) ?_
  refine g_X14_323 dX14_passOn_4 rfl (hz.o12 hv1) (hz.r773 hv1) ?_
  refine w_iload_n 1 dX14_passOn_7 rfl rfl rfl ?_
  obtain ⟨g2, hr⟩ := gd hr
  refine w_iald dX14_passOn_8 rfl (hz.k773 hv1) (gin (hz.n773 hv1) g2) (hz.x773 hv1) ?_
  refine w_istore_n [(3, .int (zI ρ 1797 ((zR ρ 898 0 0 0).1) 0 (Int32.toNatClampNeg x1))), (0, .ref (A 14 0 0)), (1, .int x1), (2, .int x2)] dX14_passOn_9 rfl rfl (by decide) rfl ?_
  refine w_aload_n 1 dX14_passOn_10 rfl rfl rfl ?_
  refine w_aload_n 1 dX14_passOn_11 rfl rfl rfl ?_
  refine g_X14_46 dX14_passOn_12 rfl (hz.o14 rfl) (hz.r916 rfl) ?_
  refine w_iload_n 3 dX14_passOn_15 rfl rfl rfl ?_
  obtain ⟨v3, ρ4, e5, hr⟩ := bq_some hr
  refine c_X14_504 (As := [.ref (A 1940 0 0), .int x2]) (rest := []) (fun l => s_X14_load (aok_916 rfl) rfl hz e5 l) hrm dX14_passOn_16 rfl rfl (Nat.le_of_ble_eq_true rfl) (Nat.le_of_ble_eq_true rfl) (Nat.le_of_ble_eq_true rfl) (hz.o14 rfl) rfl (Nat.le_of_ble_eq_true rfl) (fun vr h2 hq => ?_) (fun E9 h9 hq => hq.elim)
  obtain ⟨rfl, hz⟩ := hq
  show wp _ _ 19 [(3, .int (zI ρ 1797 ((zR ρ 898 0 0 0).1) 0 (Int32.toNatClampNeg x1))), (0, .ref (A 14 0 0)), (1, .int x1), (2, .int x2)] [] _ _ _
  refine w_aload_n 1 dX14_passOn_19 rfl rfl rfl ?_
  have hv7 := hz.ww898 (p := 0) (s := 0) rfl
  refine g_X14_16 dX14_passOn_20 rfl (hz.o14 rfl) (hz.rr898 rfl) ?_
  refine g_X14_368 dX14_passOn_23 rfl (hz.o12 hv7) (hz.r770 hv7) ?_
  refine w_iload_n 2 dX14_passOn_26 rfl rfl rfl ?_
  obtain ⟨g8, hr⟩ := gd hr
  refine w_iald dX14_passOn_27 rfl (hz.k770 hv7) (gin (hz.n770 hv7) g8) (hz.x770 hv7) ?_
  refine w_istore [(4, .int (zI ρ4 1794 ((zR ρ4 898 0 0 0).1) 0 (Int32.toNatClampNeg x1))), (3, .int (zI ρ 1797 ((zR ρ 898 0 0 0).1) 0 (Int32.toNatClampNeg x1))), (0, .ref (A 14 0 0)), (1, .int x1), (2, .int x2)] dX14_passOn_28 rfl (by decide) rfl ?_
  refine w_iload 0 dX14_passOn_30 rfl rfl ?_
  refine w_iconst 1 dX14_passOn_32 rfl rfl ?_
  refine w_icmp_ne 67 dX14_passOn_33 rfl rfl (fun q33 => ?_) (fun q33 => ?_)
  · have hr := bf q33 hr
    refine w_iload 0 dX14_passOn_67 rfl rfl ?_
    refine w_iconst 2 dX14_passOn_69 rfl rfl ?_
    refine w_icmp_ne 145 dX14_passOn_70 rfl rfl (fun q70 => ?_) (fun q70 => ?_)
    · have hr := bf q70 hr
      refine w_iload 0 dX14_passOn_145 rfl rfl ?_
      refine w_iconst 3 dX14_passOn_147 rfl rfl ?_
      refine w_icmp_ne 215 dX14_passOn_148 rfl rfl (fun q148 => ?_) (fun q148 => ?_)
      · have hr := bf q148 hr
        refine w_iload 0 dX14_passOn_215 rfl rfl ?_
        refine w_iconst 4 dX14_passOn_217 rfl rfl ?_
        refine w_icmp_ne 229 dX14_passOn_218 rfl rfl (fun q218 => ?_) (fun q218 => ?_)
        · have hr := bf q218 hr
          refine w_iload 0 dX14_passOn_229 rfl rfl ?_
          refine w_bipush 6 dX14_passOn_231 rfl rfl ?_
          refine w_icmp_ne 245 dX14_passOn_233 rfl rfl (fun q233 => ?_) (fun q233 => ?_)
          · have hr := bf q233 hr
            refine w_aload_n 2 dX14_passOn_245 rfl rfl rfl ?_
            refine w_iload_n 3 dX14_passOn_246 rfl rfl rfl ?_
            refine w_aload_n 2 dX14_passOn_247 rfl rfl rfl ?_
            refine g_X14_46 dX14_passOn_248 rfl (hz.o14 rfl) (hz.r916 rfl) ?_
            refine w_iload_n 4 dX14_passOn_251 rfl rfl rfl ?_
            obtain ⟨v9, ρ10, e11, hr⟩ := bq_some hr
            refine c_X14_522 (As := [.int x1, .ref (A 1940 0 0), .int x2]) (rest := []) (fun l => s_X14_windowRow  hz e11 l) hrm dX14_passOn_252 rfl rfl (Nat.le_of_ble_eq_true rfl) (Nat.le_of_ble_eq_true rfl) (Nat.le_of_ble_eq_true rfl) (hz.o14 rfl) rfl (Nat.le_of_ble_eq_true rfl) (fun vr h2 hq => ?_) (fun E9 h9 hq => hq.elim)
            obtain ⟨rfl, hz⟩ := hq
            show wp _ _ 255 [(4, .int (zI ρ4 1794 ((zR ρ4 898 0 0 0).1) 0 (Int32.toNatClampNeg x1))), (3, .int (zI ρ 1797 ((zR ρ 898 0 0 0).1) 0 (Int32.toNatClampNeg x1))), (0, .ref (A 14 0 0)), (1, .int x1), (2, .int x2)] [] _ _ _
            refine w_vret hf dX14_passOn_255 rfl (Nat.le_of_ble_eq_true rfl) (Nat.le_of_ble_eq_true rfl) ?_
            obtain ⟨rfl, rfl⟩ := ret_inj hr
            exact ⟨rfl, hz⟩
          · have hr := bt q233 hr
            refine w_aload_n 2 dX14_passOn_236 rfl rfl rfl ?_
            refine w_iload_n 3 dX14_passOn_237 rfl rfl rfl ?_
            refine w_iload_n 4 dX14_passOn_238 rfl rfl rfl ?_
            obtain ⟨v13, ρ14, e15, hr⟩ := bq_some hr
            refine c_X14_519 (As := [.int x1, .int x2]) (rest := []) (fun l => s_X14_firstOnly  hz e15 l) hrm dX14_passOn_239 rfl rfl (Nat.le_of_ble_eq_true rfl) (Nat.le_of_ble_eq_true rfl) (Nat.le_of_ble_eq_true rfl) (hz.o14 rfl) rfl (Nat.le_of_ble_eq_true rfl) (fun vr h2 hq => ?_) (fun E9 h9 hq => hq.elim)
            obtain ⟨rfl, hz⟩ := hq
            show wp _ _ 242 [(4, .int (zI ρ4 1794 ((zR ρ4 898 0 0 0).1) 0 (Int32.toNatClampNeg x1))), (3, .int (zI ρ 1797 ((zR ρ 898 0 0 0).1) 0 (Int32.toNatClampNeg x1))), (0, .ref (A 14 0 0)), (1, .int x1), (2, .int x2)] [] _ _ _
            refine w_goto 255 dX14_passOn_242 rfl ?_
            refine w_vret hf dX14_passOn_255 rfl (Nat.le_of_ble_eq_true rfl) (Nat.le_of_ble_eq_true rfl) ?_
            obtain ⟨rfl, rfl⟩ := ret_inj hr
            exact ⟨rfl, hz⟩
        · have hr := bt q218 hr
          refine w_aload_n 2 dX14_passOn_221 rfl rfl rfl ?_
          refine w_iload_n 3 dX14_passOn_222 rfl rfl rfl ?_
          obtain ⟨v17, ρ18, e19, hr⟩ := bq_some hr
          refine c_X14_498 (As := [.int x1]) (rest := []) (fun l => s_X14_offer  hz e19 l) hrm dX14_passOn_223 rfl rfl (Nat.le_of_ble_eq_true rfl) (Nat.le_of_ble_eq_true rfl) (Nat.le_of_ble_eq_true rfl) (hz.o14 rfl) rfl (Nat.le_of_ble_eq_true rfl) (fun vr h2 hq => ?_) (fun E9 h9 hq => hq.elim)
          obtain ⟨rfl, hz⟩ := hq
          show wp _ _ 226 [(4, .int (zI ρ4 1794 ((zR ρ4 898 0 0 0).1) 0 (Int32.toNatClampNeg x1))), (3, .int (zI ρ 1797 ((zR ρ 898 0 0 0).1) 0 (Int32.toNatClampNeg x1))), (0, .ref (A 14 0 0)), (1, .int x1), (2, .int x2)] [] _ _ _
          refine w_goto 255 dX14_passOn_226 rfl ?_
          refine w_vret hf dX14_passOn_255 rfl (Nat.le_of_ble_eq_true rfl) (Nat.le_of_ble_eq_true rfl) ?_
          obtain ⟨rfl, rfl⟩ := ret_inj hr
          exact ⟨rfl, hz⟩
      · have hr := bt q148 hr
        refine w_iconst 0 dX14_passOn_151 rfl rfl ?_
        refine w_istore [(5, .int 0), (4, .int (zI ρ4 1794 ((zR ρ4 898 0 0 0).1) 0 (Int32.toNatClampNeg x1))), (3, .int (zI ρ 1797 ((zR ρ 898 0 0 0).1) 0 (Int32.toNatClampNeg x1))), (0, .ref (A 14 0 0)), (1, .int x1), (2, .int x2)] dX14_passOn_152 rfl (by decide) rfl ?_
        refine w_lv [(0, .ref (A 14 0 0)), (1, .int x1), (2, .int x2), (5, .int 0)] [3, 4, 5, 0] rfl ?_
        exact w_X14_passOn_154 hf hrm   FU 0 _ _ hz  hr
    · have hr := bt q70 hr
      refine w_aload_n 2 dX14_passOn_73 rfl rfl rfl ?_
      have hv33 := hz.ww898 (p := 0) (s := 0) rfl
      refine g_X14_16 dX14_passOn_74 rfl (hz.o14 rfl) (hz.rr898 rfl) ?_
      refine g_X14_292 dX14_passOn_77 rfl (hz.o12 hv33) (hz.r771 hv33) ?_
      refine w_iload_n 1 dX14_passOn_80 rfl rfl rfl ?_
      obtain ⟨g34, hr⟩ := gd hr
      refine w_iald dX14_passOn_81 rfl (hz.k771 hv33) (gin (hz.n771 hv33) g34) (hz.x771 hv33) ?_
      refine w_istore [(5, .int (zI ρ4 1795 ((zR ρ4 898 0 0 0).1) 0 (Int32.toNatClampNeg (zI ρ 1797 ((zR ρ 898 0 0 0).1) 0 (Int32.toNatClampNeg x1))))), (4, .int (zI ρ4 1794 ((zR ρ4 898 0 0 0).1) 0 (Int32.toNatClampNeg x1))), (3, .int (zI ρ 1797 ((zR ρ 898 0 0 0).1) 0 (Int32.toNatClampNeg x1))), (0, .ref (A 14 0 0)), (1, .int x1), (2, .int x2)] dX14_passOn_82 rfl (by decide) rfl ?_
      refine w_lv [(0, .ref (A 14 0 0)), (1, .int x1), (2, .int x2), (5, .int (zI ρ4 1795 ((zR ρ4 898 0 0 0).1) 0 (Int32.toNatClampNeg (zI ρ 1797 ((zR ρ 898 0 0 0).1) 0 (Int32.toNatClampNeg x1)))))] [3, 4, 5, 0] rfl ?_
      exact w_X14_passOn_84 hf hrm   FU (zI ρ4 1795 ((zR ρ4 898 0 0 0).1) 0 (Int32.toNatClampNeg (zI ρ 1797 ((zR ρ 898 0 0 0).1) 0 (Int32.toNatClampNeg x1)))) _ _ hz  hr
  · have hr := bt q33 hr
    refine w_aload_n 2 dX14_passOn_36 rfl rfl rfl ?_
    refine w_aload_n 2 dX14_passOn_37 rfl rfl rfl ?_
    have hv50 := hz.ww898 (p := 0) (s := 0) rfl
    refine g_X14_16 dX14_passOn_38 rfl (hz.o14 rfl) (hz.rr898 rfl) ?_
    refine g_X14_369 dX14_passOn_41 rfl (hz.o12 hv50) (hz.r775 hv50) ?_
    refine w_iload_n 3 dX14_passOn_44 rfl rfl rfl ?_
    obtain ⟨g51, hr⟩ := gd hr
    refine w_iald dX14_passOn_45 rfl (hz.k775 hv50) (gin (hz.n775 hv50) g51) (hz.x775 hv50) ?_
    refine w_aload_n 2 dX14_passOn_46 rfl rfl rfl ?_
    refine g_X14_46 dX14_passOn_47 rfl (hz.o14 rfl) (hz.r916 rfl) ?_
    refine w_iload_n 4 dX14_passOn_50 rfl rfl rfl ?_
    obtain ⟨v52, ρ53, e54, hr⟩ := bq_some hr
    refine c_X14_481 (As := [.int (zI ρ4 1799 ((zR ρ4 898 0 0 0).1) 0 (Int32.toNatClampNeg x1)), .ref (A 1940 0 0), .int x2]) (rest := []) (fun l => s_X14_worth (aok_916 rfl) rfl hz e54 l) hrm dX14_passOn_51 rfl rfl (Nat.le_of_ble_eq_true rfl) (Nat.le_of_ble_eq_true rfl) (Nat.le_of_ble_eq_true rfl) (hz.o14 rfl) rfl (Nat.le_of_ble_eq_true rfl) (fun vr h2 hq => ?_) (fun E9 h9 hq => hq.elim)
    obtain ⟨rfl, hz⟩ := hq
    show wp _ _ 54 [(4, .int (zI ρ4 1794 ((zR ρ4 898 0 0 0).1) 0 (Int32.toNatClampNeg x1))), (3, .int (zI ρ 1797 ((zR ρ 898 0 0 0).1) 0 (Int32.toNatClampNeg x1))), (0, .ref (A 14 0 0)), (1, .int x1), (2, .int x2)] [.long v52] _ _ _
    refine w_lconst 0 dX14_passOn_54 rfl rfl ?_
    refine w_lcmp dX14_passOn_55 rfl ?_
    refine w_if_eq 255 dX14_passOn_56 rfl rfl (fun q56 => ?_) (fun q56 => ?_)
    · have hr := bt q56 hr
      refine w_vret hf dX14_passOn_255 rfl (Nat.le_of_ble_eq_true rfl) (Nat.le_of_ble_eq_true rfl) ?_
      obtain ⟨rfl, rfl⟩ := ret_inj hr
      exact ⟨rfl, hz⟩
    · have hr := bf q56 hr
      refine w_aload_n 2 dX14_passOn_59 rfl rfl rfl ?_
      refine w_iload_n 3 dX14_passOn_60 rfl rfl rfl ?_
      obtain ⟨v56, ρ57, e58, hr⟩ := bq_some hr
      refine c_X14_498 (As := [.int x1]) (rest := []) (fun l => s_X14_offer  hz e58 l) hrm dX14_passOn_61 rfl rfl (Nat.le_of_ble_eq_true rfl) (Nat.le_of_ble_eq_true rfl) (Nat.le_of_ble_eq_true rfl) (hz.o14 rfl) rfl (Nat.le_of_ble_eq_true rfl) (fun vr h2 hq => ?_) (fun E9 h9 hq => hq.elim)
      obtain ⟨rfl, hz⟩ := hq
      show wp _ _ 64 [(4, .int (zI ρ4 1794 ((zR ρ4 898 0 0 0).1) 0 (Int32.toNatClampNeg x1))), (3, .int (zI ρ 1797 ((zR ρ 898 0 0 0).1) 0 (Int32.toNatClampNeg x1))), (0, .ref (A 14 0 0)), (1, .int x1), (2, .int x2)] [] _ _ _
      refine w_goto 255 dX14_passOn_64 rfl ?_
      refine w_vret hf dX14_passOn_255 rfl (Nat.le_of_ble_eq_true rfl) (Nat.le_of_ble_eq_true rfl) ?_
      obtain ⟨rfl, rfl⟩ := ret_inj hr
      exact ⟨rfl, hz⟩

set_option maxRecDepth 20000 in
set_option maxHeartbeats 4000000 in
theorem w_X14_pair_123 {A : Nat → Nat → Nat → Nat} {σ ρ' : Zs} {v : Unit} {x : Cxt} {x1 : Int32} {x2 : Int32} {x3 : Int32}  (hf : m_fin 0 0 (QV A v σ ρ') X0 x) (hrm : m_rm 12 0 0 x)  : ∀ (n : Nat) (y4 : Int32) (y5 : Int32) (ρ : Zs) (h : Hp), Rp A h σ ρ → fX14_pair_123 x1 x2 x3  n y4 y5 ρ = some (v, ρ') → wp x mX14_pair 123 [(0, .ref (A 14 0 0)), (1, .int x1), (2, .int x2), (3, .int x3), (4, .int y4), (5, .int y5)] [] h 0 0
  | 0, _, _, ρ, h => fun hz hr => by
    rw [fX14_pair_123.eq_1] at hr
    exact nono hr
  | n + 1, y4, y5, ρ, h => fun hz hr => by
    rw [fX14_pair_123.eq_2] at hr
    refine w_iload 5 dX14_pair_123 rfl rfl ?_
    refine w_aload_n 0 dX14_pair_125 rfl rfl rfl ?_
    have hv24 := hz.ww898 (p := 0) (s := 0) rfl
    refine g_X14_16 dX14_pair_126 rfl (hz.o14 rfl) (hz.rr898 rfl) ?_
    refine g_X14_292 dX14_pair_129 rfl (hz.o12 hv24) (hz.r771 hv24) ?_
    refine w_aload_n 0 dX14_pair_132 rfl rfl rfl ?_
    have hv25 := hz.ww898 (p := 0) (s := 0) rfl
    refine g_X14_16 dX14_pair_133 rfl (hz.o14 rfl) (hz.rr898 rfl) ?_
    refine g_X14_326 dX14_pair_136 rfl (hz.o12 hv25) (hz.r774 hv25) ?_
    refine w_iload_n 1 dX14_pair_139 rfl rfl rfl ?_
    obtain ⟨g26, hr⟩ := gd hr
    refine w_iald dX14_pair_140 rfl (hz.k774 hv25) (gin (hz.n774 hv25) g26) (hz.x774 hv25) ?_
    obtain ⟨g27, hr⟩ := gd hr
    refine w_iald dX14_pair_141 rfl (hz.k771 hv24) (gin (hz.n771 hv24) g27) (hz.x771 hv24) ?_
    refine w_icmp_ge 191 dX14_pair_142 rfl rfl (fun q142 => ?_) (fun q142 => ?_)
    · have hr := bt q142 hr
      refine w_aload_n 0 dX14_pair_191 rfl rfl rfl ?_
      refine w_iload_n 1 dX14_pair_192 rfl rfl rfl ?_
      obtain ⟨v28, ρ29, e30, hr⟩ := bq_some hr
      refine c_X14_498 (As := [.int x1]) (rest := []) (fun l => s_X14_offer  hz e30 l) hrm dX14_pair_193 rfl rfl (Nat.le_of_ble_eq_true rfl) (Nat.le_of_ble_eq_true rfl) (Nat.le_of_ble_eq_true rfl) (hz.o14 rfl) rfl (Nat.le_of_ble_eq_true rfl) (fun vr h2 hq => ?_) (fun E9 h9 hq => hq.elim)
      obtain ⟨rfl, hz⟩ := hq
      show wp _ _ 196 [(0, .ref (A 14 0 0)), (1, .int x1), (2, .int x2), (3, .int x3), (4, .int y4), (5, .int y5)] [] _ _ _
      refine w_vret hf dX14_pair_196 rfl (Nat.le_of_ble_eq_true rfl) (Nat.le_of_ble_eq_true rfl) ?_
      obtain ⟨rfl, rfl⟩ := ret_inj hr
      exact ⟨rfl, hz⟩
    · have hr := bf q142 hr
      refine w_iload 5 dX14_pair_145 rfl rfl ?_
      refine w_aload_n 0 dX14_pair_147 rfl rfl rfl ?_
      have hv32 := hz.ww898 (p := 0) (s := 0) rfl
      refine g_X14_16 dX14_pair_148 rfl (hz.o14 rfl) (hz.rr898 rfl) ?_
      refine g_X14_396 dX14_pair_151 rfl (hz.o12 hv32) (hz.r778 hv32) ?_
      refine w_iload_n 1 dX14_pair_154 rfl rfl rfl ?_
      obtain ⟨g33, hr⟩ := gd hr
      refine w_iald dX14_pair_155 rfl (hz.k778 hv32) (gin (hz.n778 hv32) g33) (hz.x778 hv32) ?_
      refine w_icmp_ne 162 dX14_pair_156 rfl rfl (fun q156 => ?_) (fun q156 => ?_)
      · have hr := bf q156 hr
        refine w_aload_n 0 dX14_pair_162 rfl rfl rfl ?_
        refine g_X14_82 dX14_pair_163 rfl (hz.o14 rfl) (hz.r933 rfl) ?_
        refine w_iconst 1 dX14_pair_166 rfl rfl ?_
        refine w_iload 4 dX14_pair_167 rfl rfl ?_
        refine w_iadd dX14_pair_169 rfl ?_
        refine w_aload_n 0 dX14_pair_170 rfl rfl rfl ?_
        refine g_X14_46 dX14_pair_171 rfl (hz.o14 rfl) (hz.r916 rfl) ?_
        refine w_iload_n 3 dX14_pair_174 rfl rfl rfl ?_
        refine w_iconst 1 dX14_pair_175 rfl rfl ?_
        refine w_iadd dX14_pair_176 rfl ?_
        refine w_iload 5 dX14_pair_177 rfl rfl ?_
        refine w_iadd dX14_pair_179 rfl ?_
        obtain ⟨g34, hr⟩ := gd hr
        refine w_lald dX14_pair_180 rfl (hz.k916 rfl) (gin (hz.n916 rfl) g34) (hz.x916 rfl) ?_
        obtain ⟨g35, hr⟩ := gd hr
        refine w_last dX14_pair_181 rfl (hz.k933 rfl) (gin (hz.n933 rfl) g35) ?_
        obtain ⟨ρ36, e37, hr⟩ := lt_e hr
        have hz := (hz.s933 (i := (Int32.toNatClampNeg (1 + y4))) (v := (zJ ρ 1940 0 0 (Int32.toNatClampNeg ((x3 + 1) + y5)))) rfl).tr e37
        refine w_iinc 4 (y4 + 1) [(4, .int (y4 + 1)), (0, .ref (A 14 0 0)), (1, .int x1), (2, .int x2), (3, .int x3), (5, .int y5)] dX14_pair_182 rfl rfl rfl (by decide) rfl ?_
        refine w_iinc 5 (y5 + 1) [(5, .int (y5 + 1)), (4, .int (y4 + 1)), (0, .ref (A 14 0 0)), (1, .int x1), (2, .int x2), (3, .int x3)] dX14_pair_185 rfl rfl rfl (by decide) rfl ?_
        refine w_goto 123 dX14_pair_188 rfl ?_
        refine w_lv [(0, .ref (A 14 0 0)), (1, .int x1), (2, .int x2), (3, .int x3), (4, .int (y4 + 1)), (5, .int (y5 + 1))] [2, 3, 4, 5, 1, 0] rfl ?_
        exact w_X14_pair_123 hf hrm   n (y4 + 1) (y5 + 1) _ _ hz  hr
      · have hr := bt q156 hr
        refine w_goto 185 dX14_pair_159 rfl ?_
        refine w_iinc 5 (y5 + 1) [(5, .int (y5 + 1)), (0, .ref (A 14 0 0)), (1, .int x1), (2, .int x2), (3, .int x3), (4, .int y4)] dX14_pair_185 rfl rfl rfl (by decide) rfl ?_
        refine w_goto 123 dX14_pair_188 rfl ?_
        refine w_lv [(0, .ref (A 14 0 0)), (1, .int x1), (2, .int x2), (3, .int x3), (4, .int y4), (5, .int (y5 + 1))] [1, 2, 3, 4, 5, 0] rfl ?_
        exact w_X14_pair_123 hf hrm   n y4 (y5 + 1) _ _ hz  hr
set_option maxRecDepth 20000 in
set_option maxHeartbeats 4000000 in
theorem s_X14_pair {A : Nat → Nat → Nat → Nat} {h : Hp} {σ ρ ρ' : Zs} {v : Unit} {x1 : Int32} {x2 : Int32} {x3 : Int32}  (hz : Rp A h σ ρ) (hr : fX14_pair x1 x2 x3 ρ = some (v, ρ')) : ∀ l : Launch, Sp l mX14_pair 12 0 0 [.ref (A 14 0 0), .int x1, .int x2, .int x3] h (QV A v σ ρ') X0 := by
  intro l
  refine Sp.of rfl rfl (lv := [(0, .ref (A 14 0 0)), (1, .int x1), (2, .int x2), (3, .int x3)]) (Nat.le_of_ble_eq_true rfl) rfl (fun x hf hrm => ?_)
  rw [fX14_pair.eq_1] at hr
  refine w_aload_n 0 dX14_pair_0 rfl rfl rfl ?_
  refine g_X14_46 dX14_pair_1 rfl (hz.o14 rfl) (hz.r916 rfl) ?_
  refine w_iload_n 2 dX14_pair_4 rfl rfl rfl ?_
  refine w_iconst 1 dX14_pair_5 rfl rfl ?_
  refine w_iadd dX14_pair_6 rfl ?_
  refine w_aload_n 0 dX14_pair_7 rfl rfl rfl ?_
  have hv1 := hz.ww898 (p := 0) (s := 0) rfl
  refine g_X14_16 dX14_pair_8 rfl (hz.o14 rfl) (hz.rr898 rfl) ?_
  refine g_X14_387 dX14_pair_11 rfl (hz.o12 hv1) (hz.r777 hv1) ?_
  refine w_iload_n 1 dX14_pair_14 rfl rfl rfl ?_
  obtain ⟨g2, hr⟩ := gd hr
  refine w_iald dX14_pair_15 rfl (hz.k777 hv1) (gin (hz.n777 hv1) g2) (hz.x777 hv1) ?_
  refine w_iadd dX14_pair_16 rfl ?_
  obtain ⟨g3, hr⟩ := gd hr
  refine w_lald dX14_pair_17 rfl (hz.k916 rfl) (gin (hz.n916 rfl) g3) (hz.x916 rfl) ?_
  refine w_aload_n 0 dX14_pair_18 rfl rfl rfl ?_
  refine g_X14_46 dX14_pair_19 rfl (hz.o14 rfl) (hz.r916 rfl) ?_
  refine w_iload_n 3 dX14_pair_22 rfl rfl rfl ?_
  refine w_iconst 1 dX14_pair_23 rfl rfl ?_
  refine w_iadd dX14_pair_24 rfl ?_
  refine w_aload_n 0 dX14_pair_25 rfl rfl rfl ?_
  have hv4 := hz.ww898 (p := 0) (s := 0) rfl
  refine g_X14_16 dX14_pair_26 rfl (hz.o14 rfl) (hz.rr898 rfl) ?_
  refine g_X14_396 dX14_pair_29 rfl (hz.o12 hv4) (hz.r778 hv4) ?_
  refine w_iload_n 1 dX14_pair_32 rfl rfl rfl ?_
  obtain ⟨g5, hr⟩ := gd hr
  refine w_iald dX14_pair_33 rfl (hz.k778 hv4) (gin (hz.n778 hv4) g5) (hz.x778 hv4) ?_
  refine w_iadd dX14_pair_34 rfl ?_
  obtain ⟨g6, hr⟩ := gd hr
  refine w_lald dX14_pair_35 rfl (hz.k916 rfl) (gin (hz.n916 rfl) g6) (hz.x916 rfl) ?_
  refine w_lcmp dX14_pair_36 rfl ?_
  refine w_if_ne 70 dX14_pair_37 rfl rfl (fun q37 => ?_) (fun q37 => ?_)
  · have hr := bf q37 hr
    refine w_vret hf dX14_pair_70 rfl (Nat.le_of_ble_eq_true rfl) (Nat.le_of_ble_eq_true rfl) ?_
    obtain ⟨rfl, rfl⟩ := ret_inj hr
    exact ⟨rfl, hz⟩
  · have hr := bt q37 hr
    refine w_aload_n 0 dX14_pair_40 rfl rfl rfl ?_
    refine g_X14_46 dX14_pair_41 rfl (hz.o14 rfl) (hz.r916 rfl) ?_
    refine w_iload_n 2 dX14_pair_44 rfl rfl rfl ?_
    obtain ⟨g7, hr⟩ := gd hr
    refine w_lald dX14_pair_45 rfl (hz.k916 rfl) (gin (hz.n916 rfl) g7) (hz.x916 rfl) ?_
    refine w_aload_n 0 dX14_pair_46 rfl rfl rfl ?_
    refine g_X14_46 dX14_pair_47 rfl (hz.o14 rfl) (hz.r916 rfl) ?_
    refine w_iload_n 3 dX14_pair_50 rfl rfl rfl ?_
    obtain ⟨g8, hr⟩ := gd hr
    refine w_lald dX14_pair_51 rfl (hz.k916 rfl) (gin (hz.n916 rfl) g8) (hz.x916 rfl) ?_
    refine w_lsub dX14_pair_52 rfl ?_
    refine w_mlabs hrm (by decide) dX14_pair_53 rfl ml_X14_526 (Nat.le_of_ble_eq_true rfl) (Nat.le_of_ble_eq_true rfl) (Nat.le_of_ble_eq_true rfl) ?_
    refine w_aload_n 0 dX14_pair_56 rfl rfl rfl ?_
    have hv9 := hz.ww898 (p := 0) (s := 0) rfl
    refine g_X14_16 dX14_pair_57 rfl (hz.o14 rfl) (hz.rr898 rfl) ?_
    refine g_X14_369 dX14_pair_60 rfl (hz.o12 hv9) (hz.r775 hv9) ?_
    refine w_iload_n 1 dX14_pair_63 rfl rfl rfl ?_
    obtain ⟨g10, hr⟩ := gd hr
    refine w_iald dX14_pair_64 rfl (hz.k775 hv9) (gin (hz.n775 hv9) g10) (hz.x775 hv9) ?_
    refine w_i2l dX14_pair_65 rfl ?_
    refine w_lcmp dX14_pair_66 rfl ?_
    refine w_if_le 71 dX14_pair_67 rfl rfl (fun q67 => ?_) (fun q67 => ?_)
    · have hr := bt q67 hr
      refine w_aload_n 0 dX14_pair_71 rfl rfl rfl ?_
      refine w_aload_n 0 dX14_pair_72 rfl rfl rfl ?_
      refine g_X14_46 dX14_pair_73 rfl (hz.o14 rfl) (hz.r916 rfl) ?_
      refine w_iload_n 2 dX14_pair_76 rfl rfl rfl ?_
      obtain ⟨v11, ρ12, e13, hr⟩ := bq_some hr
      refine c_X14_504 (As := [.ref (A 1940 0 0), .int x2]) (rest := []) (fun l => s_X14_load (aok_916 rfl) rfl hz e13 l) hrm dX14_pair_77 rfl rfl (Nat.le_of_ble_eq_true rfl) (Nat.le_of_ble_eq_true rfl) (Nat.le_of_ble_eq_true rfl) (hz.o14 rfl) rfl (Nat.le_of_ble_eq_true rfl) (fun vr h2 hq => ?_) (fun E9 h9 hq => hq.elim)
      obtain ⟨rfl, hz⟩ := hq
      show wp _ _ 80 [(0, .ref (A 14 0 0)), (1, .int x1), (2, .int x2), (3, .int x3)] [] _ _ _
      refine w_aload_n 0 dX14_pair_80 rfl rfl rfl ?_
      refine g_X14_82 dX14_pair_81 rfl (hz.o14 rfl) (hz.r933 rfl) ?_
      refine w_iconst 0 dX14_pair_84 rfl rfl ?_
      refine w_aload_n 0 dX14_pair_85 rfl rfl rfl ?_
      refine g_X14_46 dX14_pair_86 rfl (hz.o14 rfl) (hz.r916 rfl) ?_
      refine w_iload_n 2 dX14_pair_89 rfl rfl rfl ?_
      obtain ⟨g15, hr⟩ := gd hr
      refine w_lald dX14_pair_90 rfl (hz.k916 rfl) (gin (hz.n916 rfl) g15) (hz.x916 rfl) ?_
      refine w_aload_n 0 dX14_pair_91 rfl rfl rfl ?_
      refine g_X14_46 dX14_pair_92 rfl (hz.o14 rfl) (hz.r916 rfl) ?_
      refine w_iload_n 3 dX14_pair_95 rfl rfl rfl ?_
      obtain ⟨g16, hr⟩ := gd hr
      refine w_lald dX14_pair_96 rfl (hz.k916 rfl) (gin (hz.n916 rfl) g16) (hz.x916 rfl) ?_
      refine w_mlmax hrm (by decide) dX14_pair_97 rfl ml_X14_466 (Nat.le_of_ble_eq_true rfl) (Nat.le_of_ble_eq_true rfl) (Nat.le_of_ble_eq_true rfl) ?_
      obtain ⟨g17, hr⟩ := gd hr
      refine w_last dX14_pair_100 rfl (hz.k933 rfl) (gin (hz.n933 rfl) g17) ?_
      obtain ⟨ρ18, e19, hr⟩ := lt_e hr
      have hz := (hz.s933 (i := (Int32.toNatClampNeg 0)) (v := (p_lmax (zJ ρ12 1940 0 0 (Int32.toNatClampNeg x2)) (zJ ρ12 1940 0 0 (Int32.toNatClampNeg x3)))) rfl).tr e19
      refine w_aload_n 0 dX14_pair_101 rfl rfl rfl ?_
      have hv20 := hz.ww898 (p := 0) (s := 0) rfl
      refine g_X14_16 dX14_pair_102 rfl (hz.o14 rfl) (hz.rr898 rfl) ?_
      refine g_X14_292 dX14_pair_105 rfl (hz.o12 hv20) (hz.r771 hv20) ?_
      refine w_aload_n 0 dX14_pair_108 rfl rfl rfl ?_
      have hv21 := hz.ww898 (p := 0) (s := 0) rfl
      refine g_X14_16 dX14_pair_109 rfl (hz.o14 rfl) (hz.rr898 rfl) ?_
      refine g_X14_323 dX14_pair_112 rfl (hz.o12 hv21) (hz.r773 hv21) ?_
      refine w_iload_n 1 dX14_pair_115 rfl rfl rfl ?_
      obtain ⟨g22, hr⟩ := gd hr
      refine w_iald dX14_pair_116 rfl (hz.k773 hv21) (gin (hz.n773 hv21) g22) (hz.x773 hv21) ?_
      obtain ⟨g23, hr⟩ := gd hr
      refine w_iald dX14_pair_117 rfl (hz.k771 hv20) (gin (hz.n771 hv20) g23) (hz.x771 hv20) ?_
      refine w_istore [(4, .int (zI ρ18 1795 ((zR ρ18 898 0 0 0).1) 0 (Int32.toNatClampNeg (zI ρ18 1797 ((zR ρ18 898 0 0 0).1) 0 (Int32.toNatClampNeg x1))))), (0, .ref (A 14 0 0)), (1, .int x1), (2, .int x2), (3, .int x3)] dX14_pair_118 rfl (by decide) rfl ?_
      refine w_iconst 0 dX14_pair_120 rfl rfl ?_
      refine w_istore [(5, .int 0), (4, .int (zI ρ18 1795 ((zR ρ18 898 0 0 0).1) 0 (Int32.toNatClampNeg (zI ρ18 1797 ((zR ρ18 898 0 0 0).1) 0 (Int32.toNatClampNeg x1))))), (0, .ref (A 14 0 0)), (1, .int x1), (2, .int x2), (3, .int x3)] dX14_pair_121 rfl (by decide) rfl ?_
      refine w_lv [(0, .ref (A 14 0 0)), (1, .int x1), (2, .int x2), (3, .int x3), (4, .int (zI ρ18 1795 ((zR ρ18 898 0 0 0).1) 0 (Int32.toNatClampNeg (zI ρ18 1797 ((zR ρ18 898 0 0 0).1) 0 (Int32.toNatClampNeg x1))))), (5, .int 0)] [2, 3, 4, 5, 1, 0] rfl ?_
      exact w_X14_pair_123 hf hrm   FU (zI ρ18 1795 ((zR ρ18 898 0 0 0).1) 0 (Int32.toNatClampNeg (zI ρ18 1797 ((zR ρ18 898 0 0 0).1) 0 (Int32.toNatClampNeg x1)))) 0 _ _ hz  hr
    · have hr := bf q67 hr
      refine w_vret hf dX14_pair_70 rfl (Nat.le_of_ble_eq_true rfl) (Nat.le_of_ble_eq_true rfl) ?_
      obtain ⟨rfl, rfl⟩ := ret_inj hr
      exact ⟨rfl, hz⟩

set_option maxRecDepth 20000 in
set_option maxHeartbeats 4000000 in
theorem w_X14_doJoin_107 {A : Nat → Nat → Nat → Nat} {σ ρ' : Zs} {v : Unit} {x : Cxt} {x1 : Int32} {k89 : Int32 → Int32 → Zs → Option (Unit × Zs)}  (hf : m_fin 0 0 (QV A v σ ρ') X0 x) (hrm : m_rm 13 0 0 x)  (hk89 : ∀ (y2 : Int32) (y3 : Int32) (ρ : Zs) (h : Hp), Rp A h σ ρ → k89 y2 y3 ρ = some (v, ρ') → wp x mX14_doJoin 89 [(0, .ref (A 14 0 0)), (1, .int x1), (2, .int y2), (3, .int y3)] [] h 0 0) : ∀ (n : Nat) (y2 : Int32) (y3 : Int32) (y4 : Int32) (ρ : Zs) (h : Hp), Rp A h σ ρ → fX14_doJoin_107 x1 k89 n y2 y3 y4 ρ = some (v, ρ') → wp x mX14_doJoin 107 [(0, .ref (A 14 0 0)), (1, .int x1), (2, .int y2), (3, .int y3), (4, .int y4)] [] h 0 0
  | 0, _, _, _, ρ, h => fun hz hr => by
    rw [fX14_doJoin_107.eq_1] at hr
    exact nono hr
  | n + 1, y2, y3, y4, ρ, h => fun hz hr => by
    rw [fX14_doJoin_107.eq_2] at hr
    refine w_iload 4 dX14_doJoin_107 rfl rfl ?_
    refine w_aload_n 0 dX14_doJoin_109 rfl rfl rfl ?_
    refine g_X14_49 dX14_doJoin_110 rfl (hz.o14 rfl) (hz.r917 rfl) ?_
    refine w_iload_n 2 dX14_doJoin_113 rfl rfl rfl ?_
    obtain ⟨g9, hr⟩ := gd hr
    refine w_iald dX14_doJoin_114 rfl (hz.k917 rfl) (gin (hz.n917 rfl) g9) (hz.x917 rfl) ?_
    refine w_icmp_ge 145 dX14_doJoin_115 rfl rfl (fun q115 => ?_) (fun q115 => ?_)
    · have hr := bt q115 hr
      refine w_aload_n 0 dX14_doJoin_145 rfl rfl rfl ?_
      refine g_X14_58 dX14_doJoin_146 rfl (hz.o14 rfl) (hz.r920 rfl) ?_
      refine w_iload_n 1 dX14_doJoin_149 rfl rfl rfl ?_
      refine w_dup2 dX14_doJoin_150 rfl rfl rfl ?_
      obtain ⟨g10, hr⟩ := gd hr
      refine w_iald dX14_doJoin_151 rfl (hz.k920 rfl) (gin (hz.n920 rfl) g10) (hz.x920 rfl) ?_
      refine w_iconst 1 dX14_doJoin_152 rfl rfl ?_
      refine w_iadd dX14_doJoin_153 rfl ?_
      obtain ⟨g11, hr⟩ := gd hr
      refine w_iast dX14_doJoin_154 rfl (hz.k920 rfl) (gin (hz.n920 rfl) g11) ?_
      obtain ⟨ρ12, e13, hr⟩ := lt_e hr
      have hz := (hz.s920 (i := (Int32.toNatClampNeg x1)) (v := ((zI ρ 1944 0 0 (Int32.toNatClampNeg x1)) + 1)) rfl).tr e13
      refine w_goto 89 dX14_doJoin_155 rfl ?_
      refine w_lv [(0, .ref (A 14 0 0)), (1, .int x1), (2, .int y2), (3, .int y3)] [0, 1, 2, 3] rfl ?_
      exact hk89 y2 y3 _ _ hz  hr
    · have hr := bf q115 hr
      refine w_aload_n 0 dX14_doJoin_118 rfl rfl rfl ?_
      refine w_iload_n 1 dX14_doJoin_119 rfl rfl rfl ?_
      refine w_iload_n 2 dX14_doJoin_120 rfl rfl rfl ?_
      refine w_iload 4 dX14_doJoin_121 rfl rfl ?_
      obtain ⟨v14, ρ15, e16, hr⟩ := bq_some hr
      refine c_X14_475 (b := 0) (As := [.int y2, .int y4]) (rest := [.int x1, .ref (A 14 0 0)]) (fun l => s_X14_rowAt  hz e16 l) hrm dX14_doJoin_123 rfl rfl (Nat.le_of_ble_eq_true rfl) (Nat.le_of_ble_eq_true rfl) (Nat.le_of_ble_eq_true rfl) rfl (Nat.le_of_ble_eq_true rfl) (fun vr h2 hq => ?_) (fun E9 h9 hq => hq.elim)
      obtain ⟨rfl, hz⟩ := hq
      show wp _ _ 126 [(0, .ref (A 14 0 0)), (1, .int x1), (2, .int y2), (3, .int y3), (4, .int y4)] [.int v14, .int x1, .ref (A 14 0 0)] _ _ _
      refine w_iload_n 3 dX14_doJoin_126 rfl rfl rfl ?_
      refine w_aload_n 0 dX14_doJoin_127 rfl rfl rfl ?_
      refine g_X14_58 dX14_doJoin_128 rfl (hz.o14 rfl) (hz.r920 rfl) ?_
      refine w_iload_n 1 dX14_doJoin_131 rfl rfl rfl ?_
      obtain ⟨g18, hr⟩ := gd hr
      refine w_iald dX14_doJoin_132 rfl (hz.k920 rfl) (gin (hz.n920 rfl) g18) (hz.x920 rfl) ?_
      obtain ⟨v19, ρ20, e21, hr⟩ := bq_some hr
      refine c_X14_475 (b := 0) (As := [.int y3, .int (zI ρ15 1944 0 0 (Int32.toNatClampNeg x1))]) (rest := [.int v14, .int x1, .ref (A 14 0 0)]) (fun l => s_X14_rowAt  hz e21 l) hrm dX14_doJoin_133 rfl rfl (Nat.le_of_ble_eq_true rfl) (Nat.le_of_ble_eq_true rfl) (Nat.le_of_ble_eq_true rfl) rfl (Nat.le_of_ble_eq_true rfl) (fun vr h2 hq => ?_) (fun E9 h9 hq => hq.elim)
      obtain ⟨rfl, hz⟩ := hq
      show wp _ _ 136 [(0, .ref (A 14 0 0)), (1, .int x1), (2, .int y2), (3, .int y3), (4, .int y4)] [.int v19, .int v14, .int x1, .ref (A 14 0 0)] _ _ _
      obtain ⟨v23, ρ24, e25, hr⟩ := bq_some hr
      refine c_X14_530 (As := [.int x1, .int v14, .int v19]) (rest := []) (fun l => s_X14_pair  hz e25 l) hrm dX14_doJoin_136 rfl rfl (Nat.le_of_ble_eq_true rfl) (Nat.le_of_ble_eq_true rfl) (Nat.le_of_ble_eq_true rfl) (hz.o14 rfl) rfl (Nat.le_of_ble_eq_true rfl) (fun vr h2 hq => ?_) (fun E9 h9 hq => hq.elim)
      obtain ⟨rfl, hz⟩ := hq
      show wp _ _ 139 [(0, .ref (A 14 0 0)), (1, .int x1), (2, .int y2), (3, .int y3), (4, .int y4)] [] _ _ _
      refine w_iinc 4 (y4 + 1) [(4, .int (y4 + 1)), (0, .ref (A 14 0 0)), (1, .int x1), (2, .int y2), (3, .int y3)] dX14_doJoin_139 rfl rfl rfl (by decide) rfl ?_
      refine w_goto 107 dX14_doJoin_142 rfl ?_
      refine w_lv [(0, .ref (A 14 0 0)), (1, .int x1), (2, .int y2), (3, .int y3), (4, .int (y4 + 1))] [1, 2, 3, 4, 0] rfl ?_
      exact w_X14_doJoin_107 hf hrm  hk89 n y2 y3 (y4 + 1) _ _ hz  hr
set_option maxRecDepth 20000 in
set_option maxHeartbeats 4000000 in
theorem w_X14_doJoin_89 {A : Nat → Nat → Nat → Nat} {σ ρ' : Zs} {v : Unit} {x : Cxt} {x1 : Int32}  (hf : m_fin 0 0 (QV A v σ ρ') X0 x) (hrm : m_rm 13 0 0 x)  : ∀ (n : Nat) (y2 : Int32) (y3 : Int32) (ρ : Zs) (h : Hp), Rp A h σ ρ → fX14_doJoin_89 x1  n y2 y3 ρ = some (v, ρ') → wp x mX14_doJoin 89 [(0, .ref (A 14 0 0)), (1, .int x1), (2, .int y2), (3, .int y3)] [] h 0 0
  | 0, _, _, ρ, h => fun hz hr => by
    rw [fX14_doJoin_89.eq_1] at hr
    exact nono hr
  | n + 1, y2, y3, ρ, h => fun hz hr => by
    rw [fX14_doJoin_89.eq_2] at hr
    refine w_aload_n 0 dX14_doJoin_89 rfl rfl rfl ?_
    refine g_X14_58 dX14_doJoin_90 rfl (hz.o14 rfl) (hz.r920 rfl) ?_
    refine w_iload_n 1 dX14_doJoin_93 rfl rfl rfl ?_
    obtain ⟨g7, hr⟩ := gd hr
    refine w_iald dX14_doJoin_94 rfl (hz.k920 rfl) (gin (hz.n920 rfl) g7) (hz.x920 rfl) ?_
    refine w_aload_n 0 dX14_doJoin_95 rfl rfl rfl ?_
    refine g_X14_49 dX14_doJoin_96 rfl (hz.o14 rfl) (hz.r917 rfl) ?_
    refine w_iload_n 3 dX14_doJoin_99 rfl rfl rfl ?_
    obtain ⟨g8, hr⟩ := gd hr
    refine w_iald dX14_doJoin_100 rfl (hz.k917 rfl) (gin (hz.n917 rfl) g8) (hz.x917 rfl) ?_
    refine w_icmp_ge 158 dX14_doJoin_101 rfl rfl (fun q101 => ?_) (fun q101 => ?_)
    · have hr := bt q101 hr
      refine w_vret hf dX14_doJoin_158 rfl (Nat.le_of_ble_eq_true rfl) (Nat.le_of_ble_eq_true rfl) ?_
      obtain ⟨rfl, rfl⟩ := ret_inj hr
      exact ⟨rfl, hz⟩
    · have hr := bf q101 hr
      refine w_iconst 0 dX14_doJoin_104 rfl rfl ?_
      refine w_istore [(4, .int 0), (0, .ref (A 14 0 0)), (1, .int x1), (2, .int y2), (3, .int y3)] dX14_doJoin_105 rfl (by decide) rfl ?_
      refine w_lv [(0, .ref (A 14 0 0)), (1, .int x1), (2, .int y2), (3, .int y3), (4, .int 0)] [1, 2, 3, 4, 0] rfl ?_
      exact w_X14_doJoin_107 hf hrm  (fun by2 by3 zb hb hzb  hrb => w_X14_doJoin_89 hf hrm   n by2 by3 zb hb hzb  hrb) FU y2 y3 0 _ _ hz  hr
set_option maxRecDepth 20000 in
set_option maxHeartbeats 4000000 in
theorem w_X14_doJoin_38 {A : Nat → Nat → Nat → Nat} {σ ρ' : Zs} {v : Unit} {x : Cxt} {x1 : Int32} {k20 : Int32 → Int32 → Zs → Option (Unit × Zs)}  (hf : m_fin 0 0 (QV A v σ ρ') X0 x) (hrm : m_rm 13 0 0 x)  (hk20 : ∀ (y2 : Int32) (y3 : Int32) (ρ : Zs) (h : Hp), Rp A h σ ρ → k20 y2 y3 ρ = some (v, ρ') → wp x mX14_doJoin 20 [(0, .ref (A 14 0 0)), (1, .int x1), (2, .int y2), (3, .int y3)] [] h 0 0) : ∀ (n : Nat) (y2 : Int32) (y3 : Int32) (y4 : Int32) (ρ : Zs) (h : Hp), Rp A h σ ρ → fX14_doJoin_38 x1 k20 n y2 y3 y4 ρ = some (v, ρ') → wp x mX14_doJoin 38 [(0, .ref (A 14 0 0)), (1, .int x1), (2, .int y2), (3, .int y3), (4, .int y4)] [] h 0 0
  | 0, _, _, _, ρ, h => fun hz hr => by
    rw [fX14_doJoin_38.eq_1] at hr
    exact nono hr
  | n + 1, y2, y3, y4, ρ, h => fun hz hr => by
    rw [fX14_doJoin_38.eq_2] at hr
    refine w_iload 4 dX14_doJoin_38 rfl rfl ?_
    refine w_aload_n 0 dX14_doJoin_40 rfl rfl rfl ?_
    refine g_X14_58 dX14_doJoin_41 rfl (hz.o14 rfl) (hz.r920 rfl) ?_
    refine w_iload_n 1 dX14_doJoin_44 rfl rfl rfl ?_
    obtain ⟨g27, hr⟩ := gd hr
    refine w_iald dX14_doJoin_45 rfl (hz.k920 rfl) (gin (hz.n920 rfl) g27) (hz.x920 rfl) ?_
    refine w_icmp_ge 76 dX14_doJoin_46 rfl rfl (fun q46 => ?_) (fun q46 => ?_)
    · have hr := bt q46 hr
      refine w_aload_n 0 dX14_doJoin_76 rfl rfl rfl ?_
      refine g_X14_55 dX14_doJoin_77 rfl (hz.o14 rfl) (hz.r919 rfl) ?_
      refine w_iload_n 1 dX14_doJoin_80 rfl rfl rfl ?_
      refine w_dup2 dX14_doJoin_81 rfl rfl rfl ?_
      obtain ⟨g28, hr⟩ := gd hr
      refine w_iald dX14_doJoin_82 rfl (hz.k919 rfl) (gin (hz.n919 rfl) g28) (hz.x919 rfl) ?_
      refine w_iconst 1 dX14_doJoin_83 rfl rfl ?_
      refine w_iadd dX14_doJoin_84 rfl ?_
      obtain ⟨g29, hr⟩ := gd hr
      refine w_iast dX14_doJoin_85 rfl (hz.k919 rfl) (gin (hz.n919 rfl) g29) ?_
      obtain ⟨ρ30, e31, hr⟩ := lt_e hr
      have hz := (hz.s919 (i := (Int32.toNatClampNeg x1)) (v := ((zI ρ 1943 0 0 (Int32.toNatClampNeg x1)) + 1)) rfl).tr e31
      refine w_goto 20 dX14_doJoin_86 rfl ?_
      refine w_lv [(0, .ref (A 14 0 0)), (1, .int x1), (2, .int y2), (3, .int y3)] [0, 1, 2, 3] rfl ?_
      exact hk20 y2 y3 _ _ hz  hr
    · have hr := bf q46 hr
      refine w_aload_n 0 dX14_doJoin_49 rfl rfl rfl ?_
      refine w_iload_n 1 dX14_doJoin_50 rfl rfl rfl ?_
      refine w_iload_n 2 dX14_doJoin_51 rfl rfl rfl ?_
      refine w_aload_n 0 dX14_doJoin_52 rfl rfl rfl ?_
      refine g_X14_55 dX14_doJoin_53 rfl (hz.o14 rfl) (hz.r919 rfl) ?_
      refine w_iload_n 1 dX14_doJoin_56 rfl rfl rfl ?_
      obtain ⟨g32, hr⟩ := gd hr
      refine w_iald dX14_doJoin_57 rfl (hz.k919 rfl) (gin (hz.n919 rfl) g32) (hz.x919 rfl) ?_
      obtain ⟨v33, ρ34, e35, hr⟩ := bq_some hr
      refine c_X14_475 (b := 0) (As := [.int y2, .int (zI ρ 1943 0 0 (Int32.toNatClampNeg x1))]) (rest := [.int x1, .ref (A 14 0 0)]) (fun l => s_X14_rowAt  hz e35 l) hrm dX14_doJoin_58 rfl rfl (Nat.le_of_ble_eq_true rfl) (Nat.le_of_ble_eq_true rfl) (Nat.le_of_ble_eq_true rfl) rfl (Nat.le_of_ble_eq_true rfl) (fun vr h2 hq => ?_) (fun E9 h9 hq => hq.elim)
      obtain ⟨rfl, hz⟩ := hq
      show wp _ _ 61 [(0, .ref (A 14 0 0)), (1, .int x1), (2, .int y2), (3, .int y3), (4, .int y4)] [.int v33, .int x1, .ref (A 14 0 0)] _ _ _
      refine w_iload_n 3 dX14_doJoin_61 rfl rfl rfl ?_
      refine w_iload 4 dX14_doJoin_62 rfl rfl ?_
      obtain ⟨v37, ρ38, e39, hr⟩ := bq_some hr
      refine c_X14_475 (b := 0) (As := [.int y3, .int y4]) (rest := [.int v33, .int x1, .ref (A 14 0 0)]) (fun l => s_X14_rowAt  hz e39 l) hrm dX14_doJoin_64 rfl rfl (Nat.le_of_ble_eq_true rfl) (Nat.le_of_ble_eq_true rfl) (Nat.le_of_ble_eq_true rfl) rfl (Nat.le_of_ble_eq_true rfl) (fun vr h2 hq => ?_) (fun E9 h9 hq => hq.elim)
      obtain ⟨rfl, hz⟩ := hq
      show wp _ _ 67 [(0, .ref (A 14 0 0)), (1, .int x1), (2, .int y2), (3, .int y3), (4, .int y4)] [.int v37, .int v33, .int x1, .ref (A 14 0 0)] _ _ _
      obtain ⟨v41, ρ42, e43, hr⟩ := bq_some hr
      refine c_X14_530 (As := [.int x1, .int v33, .int v37]) (rest := []) (fun l => s_X14_pair  hz e43 l) hrm dX14_doJoin_67 rfl rfl (Nat.le_of_ble_eq_true rfl) (Nat.le_of_ble_eq_true rfl) (Nat.le_of_ble_eq_true rfl) (hz.o14 rfl) rfl (Nat.le_of_ble_eq_true rfl) (fun vr h2 hq => ?_) (fun E9 h9 hq => hq.elim)
      obtain ⟨rfl, hz⟩ := hq
      show wp _ _ 70 [(0, .ref (A 14 0 0)), (1, .int x1), (2, .int y2), (3, .int y3), (4, .int y4)] [] _ _ _
      refine w_iinc 4 (y4 + 1) [(4, .int (y4 + 1)), (0, .ref (A 14 0 0)), (1, .int x1), (2, .int y2), (3, .int y3)] dX14_doJoin_70 rfl rfl rfl (by decide) rfl ?_
      refine w_goto 38 dX14_doJoin_73 rfl ?_
      refine w_lv [(0, .ref (A 14 0 0)), (1, .int x1), (2, .int y2), (3, .int y3), (4, .int (y4 + 1))] [1, 2, 3, 4, 0] rfl ?_
      exact w_X14_doJoin_38 hf hrm  hk20 n y2 y3 (y4 + 1) _ _ hz  hr
set_option maxRecDepth 20000 in
set_option maxHeartbeats 4000000 in
theorem w_X14_doJoin_20 {A : Nat → Nat → Nat → Nat} {σ ρ' : Zs} {v : Unit} {x : Cxt} {x1 : Int32}  (hf : m_fin 0 0 (QV A v σ ρ') X0 x) (hrm : m_rm 13 0 0 x)  : ∀ (n : Nat) (y2 : Int32) (y3 : Int32) (ρ : Zs) (h : Hp), Rp A h σ ρ → fX14_doJoin_20 x1  n y2 y3 ρ = some (v, ρ') → wp x mX14_doJoin 20 [(0, .ref (A 14 0 0)), (1, .int x1), (2, .int y2), (3, .int y3)] [] h 0 0
  | 0, _, _, ρ, h => fun hz hr => by
    rw [fX14_doJoin_20.eq_1] at hr
    exact nono hr
  | n + 1, y2, y3, ρ, h => fun hz hr => by
    rw [fX14_doJoin_20.eq_2] at hr
    refine w_aload_n 0 dX14_doJoin_20 rfl rfl rfl ?_
    refine g_X14_55 dX14_doJoin_21 rfl (hz.o14 rfl) (hz.r919 rfl) ?_
    refine w_iload_n 1 dX14_doJoin_24 rfl rfl rfl ?_
    obtain ⟨g5, hr⟩ := gd hr
    refine w_iald dX14_doJoin_25 rfl (hz.k919 rfl) (gin (hz.n919 rfl) g5) (hz.x919 rfl) ?_
    refine w_aload_n 0 dX14_doJoin_26 rfl rfl rfl ?_
    refine g_X14_49 dX14_doJoin_27 rfl (hz.o14 rfl) (hz.r917 rfl) ?_
    refine w_iload_n 2 dX14_doJoin_30 rfl rfl rfl ?_
    obtain ⟨g6, hr⟩ := gd hr
    refine w_iald dX14_doJoin_31 rfl (hz.k917 rfl) (gin (hz.n917 rfl) g6) (hz.x917 rfl) ?_
    refine w_icmp_ge 89 dX14_doJoin_32 rfl rfl (fun q32 => ?_) (fun q32 => ?_)
    · have hr := bt q32 hr
      refine w_lv [(0, .ref (A 14 0 0)), (1, .int x1), (2, .int y2), (3, .int y3)] [0, 1, 2, 3] rfl ?_
      exact w_X14_doJoin_89 hf hrm   FU y2 y3 _ _ hz  hr
    · have hr := bf q32 hr
      refine w_iconst 0 dX14_doJoin_35 rfl rfl ?_
      refine w_istore [(4, .int 0), (0, .ref (A 14 0 0)), (1, .int x1), (2, .int y2), (3, .int y3)] dX14_doJoin_36 rfl (by decide) rfl ?_
      refine w_lv [(0, .ref (A 14 0 0)), (1, .int x1), (2, .int y2), (3, .int y3), (4, .int 0)] [1, 2, 3, 4, 0] rfl ?_
      exact w_X14_doJoin_38 hf hrm  (fun by2 by3 zb hb hzb  hrb => w_X14_doJoin_20 hf hrm   n by2 by3 zb hb hzb  hrb) FU y2 y3 0 _ _ hz  hr
set_option maxRecDepth 20000 in
set_option maxHeartbeats 4000000 in
theorem s_X14_doJoin {A : Nat → Nat → Nat → Nat} {h : Hp} {σ ρ ρ' : Zs} {v : Unit} {x1 : Int32}  (hz : Rp A h σ ρ) (hr : fX14_doJoin x1 ρ = some (v, ρ')) : ∀ l : Launch, Sp l mX14_doJoin 13 0 0 [.ref (A 14 0 0), .int x1] h (QV A v σ ρ') X0 := by
  intro l
  refine Sp.of rfl rfl (lv := [(0, .ref (A 14 0 0)), (1, .int x1)]) (Nat.le_of_ble_eq_true rfl) rfl (fun x hf hrm => ?_)
  rw [fX14_doJoin.eq_1] at hr
  refine w_aload_n 0 dX14_doJoin_0 rfl rfl rfl ?_
  have hv1 := hz.ww898 (p := 0) (s := 0) rfl
  refine g_X14_16 dX14_doJoin_1 rfl (hz.o14 rfl) (hz.rr898 rfl) ?_
  refine g_X14_323 dX14_doJoin_4 rfl (hz.o12 hv1) (hz.r773 hv1) ?_
  refine w_iload_n 1 dX14_doJoin_7 rfl rfl rfl ?_
  obtain ⟨g2, hr⟩ := gd hr
  refine w_iald dX14_doJoin_8 rfl (hz.k773 hv1) (gin (hz.n773 hv1) g2) (hz.x773 hv1) ?_
  refine w_istore_n [(2, .int (zI ρ 1797 ((zR ρ 898 0 0 0).1) 0 (Int32.toNatClampNeg x1))), (0, .ref (A 14 0 0)), (1, .int x1)] dX14_doJoin_9 rfl rfl (by decide) rfl ?_
  refine w_aload_n 1 dX14_doJoin_10 rfl rfl rfl ?_
  have hv3 := hz.ww898 (p := 0) (s := 0) rfl
  refine g_X14_16 dX14_doJoin_11 rfl (hz.o14 rfl) (hz.rr898 rfl) ?_
  refine g_X14_326 dX14_doJoin_14 rfl (hz.o12 hv3) (hz.r774 hv3) ?_
  refine w_iload_n 2 dX14_doJoin_17 rfl rfl rfl ?_
  obtain ⟨g4, hr⟩ := gd hr
  refine w_iald dX14_doJoin_18 rfl (hz.k774 hv3) (gin (hz.n774 hv3) g4) (hz.x774 hv3) ?_
  refine w_istore_n [(3, .int (zI ρ 1798 ((zR ρ 898 0 0 0).1) 0 (Int32.toNatClampNeg x1))), (2, .int (zI ρ 1797 ((zR ρ 898 0 0 0).1) 0 (Int32.toNatClampNeg x1))), (0, .ref (A 14 0 0)), (1, .int x1)] dX14_doJoin_19 rfl rfl (by decide) rfl ?_
  refine w_lv [(0, .ref (A 14 0 0)), (1, .int x1), (2, .int (zI ρ 1797 ((zR ρ 898 0 0 0).1) 0 (Int32.toNatClampNeg x1))), (3, .int (zI ρ 1798 ((zR ρ 898 0 0 0).1) 0 (Int32.toNatClampNeg x1)))] [2, 3, 1, 0] rfl ?_
  exact w_X14_doJoin_20 hf hrm   FU (zI ρ 1797 ((zR ρ 898 0 0 0).1) 0 (Int32.toNatClampNeg x1)) (zI ρ 1798 ((zR ρ 898 0 0 0).1) 0 (Int32.toNatClampNeg x1)) _ _ hz  hr

set_option maxRecDepth 20000 in
set_option maxHeartbeats 4000000 in
theorem w_X14_doStep_166 {A : Nat → Nat → Nat → Nat} {σ ρ' : Zs} {v : Unit} {x : Cxt} {x1 : Int32}  (hf : m_fin 0 0 (QV A v σ ρ') X0 x) (hrm : m_rm 15 0 0 x)  : ∀ (z0 : Int32) (z1 : Int32) (ρ : Zs) (h : Hp), Rp A h σ ρ → fX14_doStep_166 x1  z0 z1 ρ = some (v, ρ') → wp x mX14_doStep 166 [(0, .ref (A 14 0 0)), (1, .int x1)] [.int z0, .int z1, .ref (A 1942 0 0)] h 0 0 := by
  intro z0 z1 ρ h hz hr
  rw [fX14_doStep_166.eq_1] at hr
  obtain ⟨g11, hr⟩ := gd hr
  refine w_iast dX14_doStep_166 rfl (hz.k918 rfl) (gin (hz.n918 rfl) g11) ?_
  obtain ⟨ρ12, e13, hr⟩ := lt_e hr
  have hz := (hz.s918 (i := (Int32.toNatClampNeg z1)) (v := z0) rfl).tr e13
  refine w_aload_n 0 dX14_doStep_167 rfl rfl rfl ?_
  have hv14 := hz.ww898 (p := 0) (s := 0) rfl
  refine g_X14_16 dX14_doStep_168 rfl (hz.o14 rfl) (hz.rr898 rfl) ?_
  refine g_X14_368 dX14_doStep_171 rfl (hz.o12 hv14) (hz.r770 hv14) ?_
  refine w_iload_n 1 dX14_doStep_174 rfl rfl rfl ?_
  obtain ⟨g15, hr⟩ := gd hr
  refine w_iald dX14_doStep_175 rfl (hz.k770 hv14) (gin (hz.n770 hv14) g15) (hz.x770 hv14) ?_
  refine w_bipush 7 dX14_doStep_176 rfl rfl ?_
  refine w_icmp_ne 186 dX14_doStep_178 rfl rfl (fun q178 => ?_) (fun q178 => ?_)
  · have hr := bf q178 hr
    refine w_vret hf dX14_doStep_186 rfl (Nat.le_of_ble_eq_true rfl) (Nat.le_of_ble_eq_true rfl) ?_
    obtain ⟨rfl, rfl⟩ := ret_inj hr
    exact ⟨rfl, hz⟩
  · have hr := bt q178 hr
    refine w_aload_n 0 dX14_doStep_181 rfl rfl rfl ?_
    refine w_iload_n 1 dX14_doStep_182 rfl rfl rfl ?_
    obtain ⟨v16, ρ17, e18, hr⟩ := bq_some hr
    refine c_X14_541 (As := [.int x1]) (rest := []) (fun l => s_X14_closeWindows  hz e18 l) hrm dX14_doStep_183 rfl rfl (Nat.le_of_ble_eq_true rfl) (Nat.le_of_ble_eq_true rfl) (Nat.le_of_ble_eq_true rfl) (hz.o14 rfl) rfl (Nat.le_of_ble_eq_true rfl) (fun vr h2 hq => ?_) (fun E9 h9 hq => hq.elim)
    obtain ⟨rfl, hz⟩ := hq
    show wp _ _ 186 [(0, .ref (A 14 0 0)), (1, .int x1)] [] _ _ _
    refine w_vret hf dX14_doStep_186 rfl (Nat.le_of_ble_eq_true rfl) (Nat.le_of_ble_eq_true rfl) ?_
    obtain ⟨rfl, rfl⟩ := ret_inj hr
    exact ⟨rfl, hz⟩
set_option maxRecDepth 20000 in
set_option maxHeartbeats 4000000 in
theorem w_X14_doStep_132 {A : Nat → Nat → Nat → Nat} {σ ρ' : Zs} {v : Unit} {x : Cxt} {x1 : Int32}  (hf : m_fin 0 0 (QV A v σ ρ') X0 x) (hrm : m_rm 15 0 0 x)  : ∀ (y2 : Int32) (y3 : Int32) (ρ : Zs) (h : Hp), Rp A h σ ρ → fX14_doStep_132 x1  y2 y3 ρ = some (v, ρ') → wp x mX14_doStep 132 [(0, .ref (A 14 0 0)), (1, .int x1), (2, .int y2), (3, .int y3)] [] h 0 0 := by
  intro y2 y3 ρ h hz hr
  rw [fX14_doStep_132.eq_1] at hr
  refine w_aload_n 0 dX14_doStep_132 rfl rfl rfl ?_
  refine g_X14_52 dX14_doStep_133 rfl (hz.o14 rfl) (hz.r918 rfl) ?_
  refine w_iload_n 1 dX14_doStep_136 rfl rfl rfl ?_
  refine w_iload_n 3 dX14_doStep_137 rfl rfl rfl ?_
  refine w_iconst (-1) dX14_doStep_138 rfl rfl ?_
  refine w_icmp_ne 151 dX14_doStep_139 rfl rfl (fun q139 => ?_) (fun q139 => ?_)
  · have hr := bf q139 hr
    refine w_aload_n 0 dX14_doStep_151 rfl rfl rfl ?_
    refine g_X14_52 dX14_doStep_152 rfl (hz.o14 rfl) (hz.r918 rfl) ?_
    refine w_iload_n 2 dX14_doStep_155 rfl rfl rfl ?_
    obtain ⟨g9, hr⟩ := gd hr
    refine w_iald dX14_doStep_156 rfl (hz.k918 rfl) (gin (hz.n918 rfl) g9) (hz.x918 rfl) ?_
    refine w_aload_n 0 dX14_doStep_157 rfl rfl rfl ?_
    refine g_X14_52 dX14_doStep_158 rfl (hz.o14 rfl) (hz.r918 rfl) ?_
    refine w_iload_n 3 dX14_doStep_161 rfl rfl rfl ?_
    obtain ⟨g10, hr⟩ := gd hr
    refine w_iald dX14_doStep_162 rfl (hz.k918 rfl) (gin (hz.n918 rfl) g10) (hz.x918 rfl) ?_
    refine w_mmin hrm (by decide) dX14_doStep_163 rfl ml_X14_539 (Nat.le_of_ble_eq_true rfl) (Nat.le_of_ble_eq_true rfl) (Nat.le_of_ble_eq_true rfl) ?_
    refine w_lv [(0, .ref (A 14 0 0)), (1, .int x1)] [0, 1] rfl ?_
    exact w_X14_doStep_166 hf hrm   (p_min (zI ρ 1942 0 0 (Int32.toNatClampNeg y2)) (zI ρ 1942 0 0 (Int32.toNatClampNeg y3))) x1 _ _ hz  hr
  · have hr := bt q139 hr
    refine w_aload_n 0 dX14_doStep_142 rfl rfl rfl ?_
    refine g_X14_52 dX14_doStep_143 rfl (hz.o14 rfl) (hz.r918 rfl) ?_
    refine w_iload_n 2 dX14_doStep_146 rfl rfl rfl ?_
    obtain ⟨g20, hr⟩ := gd hr
    refine w_iald dX14_doStep_147 rfl (hz.k918 rfl) (gin (hz.n918 rfl) g20) (hz.x918 rfl) ?_
    refine w_goto 166 dX14_doStep_148 rfl ?_
    refine w_lv [(0, .ref (A 14 0 0)), (1, .int x1)] [0, 1] rfl ?_
    exact w_X14_doStep_166 hf hrm   (zI ρ 1942 0 0 (Int32.toNatClampNeg y2)) x1 _ _ hz  hr
set_option maxRecDepth 20000 in
set_option maxHeartbeats 4000000 in
theorem w_X14_doStep_84 {A : Nat → Nat → Nat → Nat} {σ ρ' : Zs} {v : Unit} {x : Cxt} {x1 : Int32}  (hf : m_fin 0 0 (QV A v σ ρ') X0 x) (hrm : m_rm 15 0 0 x)  : ∀ (n : Nat) (y2 : Int32) (y3 : Int32) (ρ : Zs) (h : Hp), Rp A h σ ρ → fX14_doStep_84 x1  n y2 y3 ρ = some (v, ρ') → wp x mX14_doStep 84 [(0, .ref (A 14 0 0)), (1, .int x1), (2, .int y2), (3, .int y3)] [] h 0 0
  | 0, _, _, ρ, h => fun hz hr => by
    rw [fX14_doStep_84.eq_1] at hr
    exact nono hr
  | n + 1, y2, y3, ρ, h => fun hz hr => by
    rw [fX14_doStep_84.eq_2] at hr
    refine w_iload_n 3 dX14_doStep_84 rfl rfl rfl ?_
    refine w_iconst (-1) dX14_doStep_85 rfl rfl ?_
    refine w_icmp_eq 132 dX14_doStep_86 rfl rfl (fun q86 => ?_) (fun q86 => ?_)
    · have hr := bt q86 hr
      refine w_lv [(0, .ref (A 14 0 0)), (1, .int x1), (2, .int y2), (3, .int y3)] [0, 1, 2, 3] rfl ?_
      exact w_X14_doStep_132 hf hrm   y2 y3 _ _ hz  hr
    · have hr := bf q86 hr
      refine w_aload_n 0 dX14_doStep_89 rfl rfl rfl ?_
      refine g_X14_58 dX14_doStep_90 rfl (hz.o14 rfl) (hz.r920 rfl) ?_
      refine w_iload_n 1 dX14_doStep_93 rfl rfl rfl ?_
      obtain ⟨g21, hr⟩ := gd hr
      refine w_iald dX14_doStep_94 rfl (hz.k920 rfl) (gin (hz.n920 rfl) g21) (hz.x920 rfl) ?_
      refine w_aload_n 0 dX14_doStep_95 rfl rfl rfl ?_
      refine g_X14_49 dX14_doStep_96 rfl (hz.o14 rfl) (hz.r917 rfl) ?_
      refine w_iload_n 3 dX14_doStep_99 rfl rfl rfl ?_
      obtain ⟨g22, hr⟩ := gd hr
      refine w_iald dX14_doStep_100 rfl (hz.k917 rfl) (gin (hz.n917 rfl) g22) (hz.x917 rfl) ?_
      refine w_icmp_ge 132 dX14_doStep_101 rfl rfl (fun q101 => ?_) (fun q101 => ?_)
      · have hr := bt q101 hr
        refine w_lv [(0, .ref (A 14 0 0)), (1, .int x1), (2, .int y2), (3, .int y3)] [0, 1, 2, 3] rfl ?_
        exact w_X14_doStep_132 hf hrm   y2 y3 _ _ hz  hr
      · have hr := bf q101 hr
        refine w_aload_n 0 dX14_doStep_104 rfl rfl rfl ?_
        refine w_iload_n 1 dX14_doStep_105 rfl rfl rfl ?_
        refine w_iload_n 3 dX14_doStep_106 rfl rfl rfl ?_
        refine w_aload_n 0 dX14_doStep_107 rfl rfl rfl ?_
        refine g_X14_58 dX14_doStep_108 rfl (hz.o14 rfl) (hz.r920 rfl) ?_
        refine w_iload_n 1 dX14_doStep_111 rfl rfl rfl ?_
        obtain ⟨g23, hr⟩ := gd hr
        refine w_iald dX14_doStep_112 rfl (hz.k920 rfl) (gin (hz.n920 rfl) g23) (hz.x920 rfl) ?_
        obtain ⟨v24, ρ25, e26, hr⟩ := bq_some hr
        refine c_X14_475 (b := 0) (As := [.int y3, .int (zI ρ 1944 0 0 (Int32.toNatClampNeg x1))]) (rest := [.int x1, .ref (A 14 0 0)]) (fun l => s_X14_rowAt  hz e26 l) hrm dX14_doStep_113 rfl rfl (Nat.le_of_ble_eq_true rfl) (Nat.le_of_ble_eq_true rfl) (Nat.le_of_ble_eq_true rfl) rfl (Nat.le_of_ble_eq_true rfl) (fun vr h2 hq => ?_) (fun E9 h9 hq => hq.elim)
        obtain ⟨rfl, hz⟩ := hq
        show wp _ _ 116 [(0, .ref (A 14 0 0)), (1, .int x1), (2, .int y2), (3, .int y3)] [.int v24, .int x1, .ref (A 14 0 0)] _ _ _
        obtain ⟨v28, ρ29, e30, hr⟩ := bq_some hr
        refine c_X14_536 (As := [.int x1, .int v24]) (rest := []) (fun l => s_X14_passOn  hz e30 l) hrm dX14_doStep_116 rfl rfl (Nat.le_of_ble_eq_true rfl) (Nat.le_of_ble_eq_true rfl) (Nat.le_of_ble_eq_true rfl) (hz.o14 rfl) rfl (Nat.le_of_ble_eq_true rfl) (fun vr h2 hq => ?_) (fun E9 h9 hq => hq.elim)
        obtain ⟨rfl, hz⟩ := hq
        show wp _ _ 119 [(0, .ref (A 14 0 0)), (1, .int x1), (2, .int y2), (3, .int y3)] [] _ _ _
        refine w_aload_n 0 dX14_doStep_119 rfl rfl rfl ?_
        refine g_X14_58 dX14_doStep_120 rfl (hz.o14 rfl) (hz.r920 rfl) ?_
        refine w_iload_n 1 dX14_doStep_123 rfl rfl rfl ?_
        refine w_dup2 dX14_doStep_124 rfl rfl rfl ?_
        obtain ⟨g32, hr⟩ := gd hr
        refine w_iald dX14_doStep_125 rfl (hz.k920 rfl) (gin (hz.n920 rfl) g32) (hz.x920 rfl) ?_
        refine w_iconst 1 dX14_doStep_126 rfl rfl ?_
        refine w_iadd dX14_doStep_127 rfl ?_
        obtain ⟨g33, hr⟩ := gd hr
        refine w_iast dX14_doStep_128 rfl (hz.k920 rfl) (gin (hz.n920 rfl) g33) ?_
        obtain ⟨ρ34, e35, hr⟩ := lt_e hr
        have hz := (hz.s920 (i := (Int32.toNatClampNeg x1)) (v := ((zI ρ29 1944 0 0 (Int32.toNatClampNeg x1)) + 1)) rfl).tr e35
        refine w_goto 84 dX14_doStep_129 rfl ?_
        refine w_lv [(0, .ref (A 14 0 0)), (1, .int x1), (2, .int y2), (3, .int y3)] [0, 1, 2, 3] rfl ?_
        exact w_X14_doStep_84 hf hrm   n y2 y3 _ _ hz  hr
set_option maxRecDepth 20000 in
set_option maxHeartbeats 4000000 in
theorem w_X14_doStep_41 {A : Nat → Nat → Nat → Nat} {σ ρ' : Zs} {v : Unit} {x : Cxt} {x1 : Int32}  (hf : m_fin 0 0 (QV A v σ ρ') X0 x) (hrm : m_rm 15 0 0 x)  : ∀ (n : Nat) (y2 : Int32) (y3 : Int32) (ρ : Zs) (h : Hp), Rp A h σ ρ → fX14_doStep_41 x1  n y2 y3 ρ = some (v, ρ') → wp x mX14_doStep 41 [(0, .ref (A 14 0 0)), (1, .int x1), (2, .int y2), (3, .int y3)] [] h 0 0
  | 0, _, _, ρ, h => fun hz hr => by
    rw [fX14_doStep_41.eq_1] at hr
    exact nono hr
  | n + 1, y2, y3, ρ, h => fun hz hr => by
    rw [fX14_doStep_41.eq_2] at hr
    refine w_aload_n 0 dX14_doStep_41 rfl rfl rfl ?_
    refine g_X14_55 dX14_doStep_42 rfl (hz.o14 rfl) (hz.r919 rfl) ?_
    refine w_iload_n 1 dX14_doStep_45 rfl rfl rfl ?_
    obtain ⟨g7, hr⟩ := gd hr
    refine w_iald dX14_doStep_46 rfl (hz.k919 rfl) (gin (hz.n919 rfl) g7) (hz.x919 rfl) ?_
    refine w_aload_n 0 dX14_doStep_47 rfl rfl rfl ?_
    refine g_X14_49 dX14_doStep_48 rfl (hz.o14 rfl) (hz.r917 rfl) ?_
    refine w_iload_n 2 dX14_doStep_51 rfl rfl rfl ?_
    obtain ⟨g8, hr⟩ := gd hr
    refine w_iald dX14_doStep_52 rfl (hz.k917 rfl) (gin (hz.n917 rfl) g8) (hz.x917 rfl) ?_
    refine w_icmp_ge 84 dX14_doStep_53 rfl rfl (fun q53 => ?_) (fun q53 => ?_)
    · have hr := bt q53 hr
      refine w_lv [(0, .ref (A 14 0 0)), (1, .int x1), (2, .int y2), (3, .int y3)] [0, 1, 2, 3] rfl ?_
      exact w_X14_doStep_84 hf hrm   FU y2 y3 _ _ hz  hr
    · have hr := bf q53 hr
      refine w_aload_n 0 dX14_doStep_56 rfl rfl rfl ?_
      refine w_iload_n 1 dX14_doStep_57 rfl rfl rfl ?_
      refine w_iload_n 2 dX14_doStep_58 rfl rfl rfl ?_
      refine w_aload_n 0 dX14_doStep_59 rfl rfl rfl ?_
      refine g_X14_55 dX14_doStep_60 rfl (hz.o14 rfl) (hz.r919 rfl) ?_
      refine w_iload_n 1 dX14_doStep_63 rfl rfl rfl ?_
      obtain ⟨g36, hr⟩ := gd hr
      refine w_iald dX14_doStep_64 rfl (hz.k919 rfl) (gin (hz.n919 rfl) g36) (hz.x919 rfl) ?_
      obtain ⟨v37, ρ38, e39, hr⟩ := bq_some hr
      refine c_X14_475 (b := 0) (As := [.int y2, .int (zI ρ 1943 0 0 (Int32.toNatClampNeg x1))]) (rest := [.int x1, .ref (A 14 0 0)]) (fun l => s_X14_rowAt  hz e39 l) hrm dX14_doStep_65 rfl rfl (Nat.le_of_ble_eq_true rfl) (Nat.le_of_ble_eq_true rfl) (Nat.le_of_ble_eq_true rfl) rfl (Nat.le_of_ble_eq_true rfl) (fun vr h2 hq => ?_) (fun E9 h9 hq => hq.elim)
      obtain ⟨rfl, hz⟩ := hq
      show wp _ _ 68 [(0, .ref (A 14 0 0)), (1, .int x1), (2, .int y2), (3, .int y3)] [.int v37, .int x1, .ref (A 14 0 0)] _ _ _
      obtain ⟨v41, ρ42, e43, hr⟩ := bq_some hr
      refine c_X14_536 (As := [.int x1, .int v37]) (rest := []) (fun l => s_X14_passOn  hz e43 l) hrm dX14_doStep_68 rfl rfl (Nat.le_of_ble_eq_true rfl) (Nat.le_of_ble_eq_true rfl) (Nat.le_of_ble_eq_true rfl) (hz.o14 rfl) rfl (Nat.le_of_ble_eq_true rfl) (fun vr h2 hq => ?_) (fun E9 h9 hq => hq.elim)
      obtain ⟨rfl, hz⟩ := hq
      show wp _ _ 71 [(0, .ref (A 14 0 0)), (1, .int x1), (2, .int y2), (3, .int y3)] [] _ _ _
      refine w_aload_n 0 dX14_doStep_71 rfl rfl rfl ?_
      refine g_X14_55 dX14_doStep_72 rfl (hz.o14 rfl) (hz.r919 rfl) ?_
      refine w_iload_n 1 dX14_doStep_75 rfl rfl rfl ?_
      refine w_dup2 dX14_doStep_76 rfl rfl rfl ?_
      obtain ⟨g45, hr⟩ := gd hr
      refine w_iald dX14_doStep_77 rfl (hz.k919 rfl) (gin (hz.n919 rfl) g45) (hz.x919 rfl) ?_
      refine w_iconst 1 dX14_doStep_78 rfl rfl ?_
      refine w_iadd dX14_doStep_79 rfl ?_
      obtain ⟨g46, hr⟩ := gd hr
      refine w_iast dX14_doStep_80 rfl (hz.k919 rfl) (gin (hz.n919 rfl) g46) ?_
      obtain ⟨ρ47, e48, hr⟩ := lt_e hr
      have hz := (hz.s919 (i := (Int32.toNatClampNeg x1)) (v := ((zI ρ42 1943 0 0 (Int32.toNatClampNeg x1)) + 1)) rfl).tr e48
      refine w_goto 41 dX14_doStep_81 rfl ?_
      refine w_lv [(0, .ref (A 14 0 0)), (1, .int x1), (2, .int y2), (3, .int y3)] [0, 1, 2, 3] rfl ?_
      exact w_X14_doStep_41 hf hrm   n y2 y3 _ _ hz  hr
set_option maxRecDepth 20000 in
set_option maxHeartbeats 4000000 in
theorem s_X14_doStep {A : Nat → Nat → Nat → Nat} {h : Hp} {σ ρ ρ' : Zs} {v : Unit} {x1 : Int32}  (hz : Rp A h σ ρ) (hr : fX14_doStep x1 ρ = some (v, ρ')) : ∀ l : Launch, Sp l mX14_doStep 15 0 0 [.ref (A 14 0 0), .int x1] h (QV A v σ ρ') X0 := by
  intro l
  refine Sp.of rfl rfl (lv := [(0, .ref (A 14 0 0)), (1, .int x1)]) (Nat.le_of_ble_eq_true rfl) rfl (fun x hf hrm => ?_)
  rw [fX14_doStep.eq_1] at hr
  refine w_aload_n 0 dX14_doStep_0 rfl rfl rfl ?_
  have hv1 := hz.ww898 (p := 0) (s := 0) rfl
  refine g_X14_16 dX14_doStep_1 rfl (hz.o14 rfl) (hz.rr898 rfl) ?_
  refine g_X14_323 dX14_doStep_4 rfl (hz.o12 hv1) (hz.r773 hv1) ?_
  refine w_iload_n 1 dX14_doStep_7 rfl rfl rfl ?_
  obtain ⟨g2, hr⟩ := gd hr
  refine w_iald dX14_doStep_8 rfl (hz.k773 hv1) (gin (hz.n773 hv1) g2) (hz.x773 hv1) ?_
  refine w_istore_n [(2, .int (zI ρ 1797 ((zR ρ 898 0 0 0).1) 0 (Int32.toNatClampNeg x1))), (0, .ref (A 14 0 0)), (1, .int x1)] dX14_doStep_9 rfl rfl (by decide) rfl ?_
  refine w_aload_n 1 dX14_doStep_10 rfl rfl rfl ?_
  have hv3 := hz.ww898 (p := 0) (s := 0) rfl
  refine g_X14_16 dX14_doStep_11 rfl (hz.o14 rfl) (hz.rr898 rfl) ?_
  refine g_X14_326 dX14_doStep_14 rfl (hz.o12 hv3) (hz.r774 hv3) ?_
  refine w_iload_n 2 dX14_doStep_17 rfl rfl rfl ?_
  obtain ⟨g4, hr⟩ := gd hr
  refine w_iald dX14_doStep_18 rfl (hz.k774 hv3) (gin (hz.n774 hv3) g4) (hz.x774 hv3) ?_
  refine w_istore_n [(3, .int (zI ρ 1798 ((zR ρ 898 0 0 0).1) 0 (Int32.toNatClampNeg x1))), (2, .int (zI ρ 1797 ((zR ρ 898 0 0 0).1) 0 (Int32.toNatClampNeg x1))), (0, .ref (A 14 0 0)), (1, .int x1)] dX14_doStep_19 rfl rfl (by decide) rfl ?_
  refine w_aload_n 2 dX14_doStep_20 rfl rfl rfl ?_
  have hv5 := hz.ww898 (p := 0) (s := 0) rfl
  refine g_X14_16 dX14_doStep_21 rfl (hz.o14 rfl) (hz.rr898 rfl) ?_
  refine g_X14_368 dX14_doStep_24 rfl (hz.o12 hv5) (hz.r770 hv5) ?_
  refine w_iload_n 3 dX14_doStep_27 rfl rfl rfl ?_
  obtain ⟨g6, hr⟩ := gd hr
  refine w_iald dX14_doStep_28 rfl (hz.k770 hv5) (gin (hz.n770 hv5) g6) (hz.x770 hv5) ?_
  refine w_iconst 5 dX14_doStep_29 rfl rfl ?_
  refine w_icmp_ne 41 dX14_doStep_30 rfl rfl (fun q30 => ?_) (fun q30 => ?_)
  · have hr := bf q30 hr
    refine w_lv [(0, .ref (A 14 0 0)), (1, .int x1), (2, .int (zI ρ 1797 ((zR ρ 898 0 0 0).1) 0 (Int32.toNatClampNeg x1))), (3, .int (zI ρ 1798 ((zR ρ 898 0 0 0).1) 0 (Int32.toNatClampNeg x1)))] [2, 3, 1, 0] rfl ?_
    exact w_X14_doStep_41 hf hrm   FU (zI ρ 1797 ((zR ρ 898 0 0 0).1) 0 (Int32.toNatClampNeg x1)) (zI ρ 1798 ((zR ρ 898 0 0 0).1) 0 (Int32.toNatClampNeg x1)) _ _ hz  hr
  · have hr := bt q30 hr
    refine w_aload_n 2 dX14_doStep_33 rfl rfl rfl ?_
    refine w_iload_n 3 dX14_doStep_34 rfl rfl rfl ?_
    obtain ⟨v49, ρ50, e51, hr⟩ := bq_some hr
    refine c_X14_533 (As := [.int x1]) (rest := []) (fun l => s_X14_doJoin  hz e51 l) hrm dX14_doStep_35 rfl rfl (Nat.le_of_ble_eq_true rfl) (Nat.le_of_ble_eq_true rfl) (Nat.le_of_ble_eq_true rfl) (hz.o14 rfl) rfl (Nat.le_of_ble_eq_true rfl) (fun vr h2 hq => ?_) (fun E9 h9 hq => hq.elim)
    obtain ⟨rfl, hz⟩ := hq
    show wp _ _ 38 [(3, .int (zI ρ 1798 ((zR ρ 898 0 0 0).1) 0 (Int32.toNatClampNeg x1))), (2, .int (zI ρ 1797 ((zR ρ 898 0 0 0).1) 0 (Int32.toNatClampNeg x1))), (0, .ref (A 14 0 0)), (1, .int x1)] [] _ _ _
    refine w_goto 132 dX14_doStep_38 rfl ?_
    refine w_lv [(0, .ref (A 14 0 0)), (1, .int x1), (2, .int (zI ρ 1797 ((zR ρ 898 0 0 0).1) 0 (Int32.toNatClampNeg x1))), (3, .int (zI ρ 1798 ((zR ρ 898 0 0 0).1) 0 (Int32.toNatClampNeg x1)))] [2, 3, 1, 0] rfl ?_
    exact w_X14_doStep_132 hf hrm   (zI ρ 1797 ((zR ρ 898 0 0 0).1) 0 (Int32.toNatClampNeg x1)) (zI ρ 1798 ((zR ρ 898 0 0 0).1) 0 (Int32.toNatClampNeg x1)) _ _ hz  hr

set_option maxRecDepth 20000 in
set_option maxHeartbeats 4000000 in
theorem w_X14_doSteps_2 {A : Nat → Nat → Nat → Nat} {σ ρ' : Zs} {v : Unit} {x : Cxt}   (hf : m_fin 0 0 (QV A v σ ρ') X0 x) (hrm : m_rm 16 0 0 x)  : ∀ (n : Nat) (y1 : Int32) (ρ : Zs) (h : Hp), Rp A h σ ρ → fX14_doSteps_2   n y1 ρ = some (v, ρ') → wp x mX14_doSteps 2 [(0, .ref (A 14 0 0)), (1, .int y1)] [] h 0 0
  | 0, _, ρ, h => fun hz hr => by
    rw [fX14_doSteps_2.eq_1] at hr
    exact nono hr
  | n + 1, y1, ρ, h => fun hz hr => by
    rw [fX14_doSteps_2.eq_2] at hr
    refine w_iload_n 1 dX14_doSteps_2 rfl rfl rfl ?_
    refine w_aload_n 0 dX14_doSteps_3 rfl rfl rfl ?_
    have hv1 := hz.ww898 (p := 0) (s := 0) rfl
    refine g_X14_16 dX14_doSteps_4 rfl (hz.o14 rfl) (hz.rr898 rfl) ?_
    refine g_X14_298 dX14_doSteps_7 rfl (hz.o12 hv1) (hz.i768 hv1) ?_
    refine w_icmp_ge 36 dX14_doSteps_10 rfl rfl (fun q10 => ?_) (fun q10 => ?_)
    · have hr := bt q10 hr
      refine w_vret hf dX14_doSteps_36 rfl (Nat.le_of_ble_eq_true rfl) (Nat.le_of_ble_eq_true rfl) ?_
      obtain ⟨rfl, rfl⟩ := ret_inj hr
      exact ⟨rfl, hz⟩
    · have hr := bf q10 hr
      refine w_aload_n 0 dX14_doSteps_13 rfl rfl rfl ?_
      have hv2 := hz.ww898 (p := 0) (s := 0) rfl
      refine g_X14_16 dX14_doSteps_14 rfl (hz.o14 rfl) (hz.rr898 rfl) ?_
      refine g_X14_368 dX14_doSteps_17 rfl (hz.o12 hv2) (hz.r770 hv2) ?_
      refine w_iload_n 1 dX14_doSteps_20 rfl rfl rfl ?_
      obtain ⟨g3, hr⟩ := gd hr
      refine w_iald dX14_doSteps_21 rfl (hz.k770 hv2) (gin (hz.n770 hv2) g3) (hz.x770 hv2) ?_
      refine w_if_eq 30 dX14_doSteps_22 rfl rfl (fun q22 => ?_) (fun q22 => ?_)
      · have hr := bt q22 hr
        refine w_iinc 1 (y1 + 1) [(1, .int (y1 + 1)), (0, .ref (A 14 0 0))] dX14_doSteps_30 rfl rfl rfl (by decide) rfl ?_
        refine w_goto 2 dX14_doSteps_33 rfl ?_
        refine w_lv [(0, .ref (A 14 0 0)), (1, .int (y1 + 1))] [1, 0] rfl ?_
        exact w_X14_doSteps_2 hf hrm   n (y1 + 1) _ _ hz  hr
      · have hr := bf q22 hr
        refine w_aload_n 0 dX14_doSteps_25 rfl rfl rfl ?_
        refine w_iload_n 1 dX14_doSteps_26 rfl rfl rfl ?_
        obtain ⟨v4, ρ5, e6, hr⟩ := bq_some hr
        refine c_X14_544 (As := [.int y1]) (rest := []) (fun l => s_X14_doStep  hz e6 l) hrm dX14_doSteps_27 rfl rfl (Nat.le_of_ble_eq_true rfl) (Nat.le_of_ble_eq_true rfl) (Nat.le_of_ble_eq_true rfl) (hz.o14 rfl) rfl (Nat.le_of_ble_eq_true rfl) (fun vr h2 hq => ?_) (fun E9 h9 hq => hq.elim)
        obtain ⟨rfl, hz⟩ := hq
        show wp _ _ 30 [(0, .ref (A 14 0 0)), (1, .int y1)] [] _ _ _
        refine w_iinc 1 (y1 + 1) [(1, .int (y1 + 1)), (0, .ref (A 14 0 0))] dX14_doSteps_30 rfl rfl rfl (by decide) rfl ?_
        refine w_goto 2 dX14_doSteps_33 rfl ?_
        refine w_lv [(0, .ref (A 14 0 0)), (1, .int (y1 + 1))] [1, 0] rfl ?_
        exact w_X14_doSteps_2 hf hrm   n (y1 + 1) _ _ hz  hr
set_option maxRecDepth 20000 in
set_option maxHeartbeats 4000000 in
theorem s_X14_doSteps {A : Nat → Nat → Nat → Nat} {h : Hp} {σ ρ ρ' : Zs} {v : Unit}   (hz : Rp A h σ ρ) (hr : fX14_doSteps  ρ = some (v, ρ')) : ∀ l : Launch, Sp l mX14_doSteps 16 0 0 [.ref (A 14 0 0)] h (QV A v σ ρ') X0 := by
  intro l
  refine Sp.of rfl rfl (lv := [(0, .ref (A 14 0 0))]) (Nat.le_of_ble_eq_true rfl) rfl (fun x hf hrm => ?_)
  rw [fX14_doSteps.eq_1] at hr
  refine w_iconst 0 dX14_doSteps_0 rfl rfl ?_
  refine w_istore_n [(1, .int 0), (0, .ref (A 14 0 0))] dX14_doSteps_1 rfl rfl (by decide) rfl ?_
  refine w_lv [(0, .ref (A 14 0 0)), (1, .int 0)] [1, 0] rfl ?_
  exact w_X14_doSteps_2 hf hrm   FU 0 _ _ hz  hr

set_option maxRecDepth 20000 in
set_option maxHeartbeats 4000000 in
theorem w_X14_doPush_11 {A : Nat → Nat → Nat → Nat} {σ ρ' : Zs} {v : Int32} {x : Cxt} {x1 : Int32} {x2 : Int32} {x4 : Int32}  (hf : m_fin 0 0 (QI A v σ ρ') X0 x) (hrm : m_rm 17 0 0 x)  : ∀ (n : Nat) (y5 : Int32) (ρ : Zs) (h : Hp), Rp A h σ ρ → fX14_doPush_11 x1 x2 x4  n y5 ρ = some (v, ρ') → wp x mX14_doPush 11 [(0, .ref (A 14 0 0)), (1, .int x1), (2, .int x2), (3, .ref (A 1969 0 0)), (4, .int x4), (5, .int y5)] [] h 0 0
  | 0, _, ρ, h => fun hz hr => by
    rw [fX14_doPush_11.eq_1] at hr
    exact nono hr
  | n + 1, y5, ρ, h => fun hz hr => by
    rw [fX14_doPush_11.eq_2] at hr
    refine w_iload 5 dX14_doPush_11 rfl rfl ?_
    refine w_bipush 6 dX14_doPush_13 rfl rfl ?_
    refine w_icmp_ge 58 dX14_doPush_15 rfl rfl (fun q15 => ?_) (fun q15 => ?_)
    · have hr := bt q15 hr
      refine w_aload_n 0 dX14_doPush_58 rfl rfl rfl ?_
      refine w_iconst 0 dX14_doPush_59 rfl rfl ?_
      refine p_X14_478 dX14_doPush_60 rfl (hz.o14 rfl) ?_
      obtain ⟨ρ4, e5, hr⟩ := lt_e hr
      have hz := (hz.s930 (v := 0) rfl).tr e5
      refine w_aload_n 0 dX14_doPush_63 rfl rfl rfl ?_
      refine w_dup dX14_doPush_64 rfl rfl ?_
      refine g_X14_459 dX14_doPush_65 rfl (hz.o14 rfl) (hz.i931 rfl) ?_
      refine w_iconst 1 dX14_doPush_68 rfl rfl ?_
      refine w_iadd dX14_doPush_69 rfl ?_
      refine p_X14_459 dX14_doPush_70 rfl (hz.o14 rfl) ?_
      obtain ⟨ρ6, e7, hr⟩ := lt_e hr
      have hz := (hz.s931 (v := ((zI ρ4 931 0 0 0) + 1)) rfl).tr e7
      refine w_aload_n 0 dX14_doPush_73 rfl rfl rfl ?_
      refine g_X14_52 dX14_doPush_74 rfl (hz.o14 rfl) (hz.r918 rfl) ?_
      refine w_iload_n 1 dX14_doPush_77 rfl rfl rfl ?_
      refine w_aload_n 0 dX14_doPush_78 rfl rfl rfl ?_
      refine g_X14_52 dX14_doPush_79 rfl (hz.o14 rfl) (hz.r918 rfl) ?_
      refine w_iload_n 1 dX14_doPush_82 rfl rfl rfl ?_
      obtain ⟨g8, hr⟩ := gd hr
      refine w_iald dX14_doPush_83 rfl (hz.k918 rfl) (gin (hz.n918 rfl) g8) (hz.x918 rfl) ?_
      refine w_iconst (-1) dX14_doPush_84 rfl rfl ?_
      refine w_iload_n 2 dX14_doPush_85 rfl rfl rfl ?_
      refine w_aload_n 0 dX14_doPush_86 rfl rfl rfl ?_
      have hv9 := hz.ww898 (p := 0) (s := 0) rfl
      refine g_X14_16 dX14_doPush_87 rfl (hz.o14 rfl) (hz.rr898 rfl) ?_
      refine g_X14_369 dX14_doPush_90 rfl (hz.o12 hv9) (hz.r775 hv9) ?_
      refine w_iload_n 1 dX14_doPush_93 rfl rfl rfl ?_
      obtain ⟨g10, hr⟩ := gd hr
      refine w_iald dX14_doPush_94 rfl (hz.k775 hv9) (gin (hz.n775 hv9) g10) (hz.x775 hv9) ?_
      refine w_isub dX14_doPush_95 rfl ?_
      refine w_mmax hrm (by decide) dX14_doPush_96 rfl ml_X14_550 (Nat.le_of_ble_eq_true rfl) (Nat.le_of_ble_eq_true rfl) (Nat.le_of_ble_eq_true rfl) ?_
      refine w_mmax hrm (by decide) dX14_doPush_99 rfl ml_X14_550 (Nat.le_of_ble_eq_true rfl) (Nat.le_of_ble_eq_true rfl) (Nat.le_of_ble_eq_true rfl) ?_
      obtain ⟨g11, hr⟩ := gd hr
      refine w_iast dX14_doPush_102 rfl (hz.k918 rfl) (gin (hz.n918 rfl) g11) ?_
      obtain ⟨ρ12, e13, hr⟩ := lt_e hr
      have hz := (hz.s918 (i := (Int32.toNatClampNeg x1)) (v := (p_max (zI ρ6 1942 0 0 (Int32.toNatClampNeg x1)) (p_max (-1) (x2 - (zI ρ6 1799 ((zR ρ6 898 0 0 0).1) 0 (Int32.toNatClampNeg x1)))))) rfl).tr e13
      refine w_aload_n 0 dX14_doPush_103 rfl rfl rfl ?_
      refine w_iload_n 1 dX14_doPush_104 rfl rfl rfl ?_
      obtain ⟨v14, ρ15, e16, hr⟩ := bq_some hr
      refine c_X14_498 (As := [.int x1]) (rest := []) (fun l => s_X14_offer  hz e16 l) hrm dX14_doPush_105 rfl rfl (Nat.le_of_ble_eq_true rfl) (Nat.le_of_ble_eq_true rfl) (Nat.le_of_ble_eq_true rfl) (hz.o14 rfl) rfl (Nat.le_of_ble_eq_true rfl) (fun vr h2 hq => ?_) (fun E9 h9 hq => hq.elim)
      obtain ⟨rfl, hz⟩ := hq
      show wp _ _ 108 [(0, .ref (A 14 0 0)), (1, .int x1), (2, .int x2), (3, .ref (A 1969 0 0)), (4, .int x4), (5, .int y5)] [] _ _ _
      refine w_aload_n 0 dX14_doPush_108 rfl rfl rfl ?_
      obtain ⟨v18, ρ19, e20, hr⟩ := bq_some hr
      refine c_X14_552 (As := []) (rest := []) (fun l => s_X14_doSteps  hz e20 l) hrm dX14_doPush_109 rfl rfl (Nat.le_of_ble_eq_true rfl) (Nat.le_of_ble_eq_true rfl) (Nat.le_of_ble_eq_true rfl) (hz.o14 rfl) rfl (Nat.le_of_ble_eq_true rfl) (fun vr h2 hq => ?_) (fun E9 h9 hq => hq.elim)
      obtain ⟨rfl, hz⟩ := hq
      show wp _ _ 112 [(0, .ref (A 14 0 0)), (1, .int x1), (2, .int x2), (3, .ref (A 1969 0 0)), (4, .int x4), (5, .int y5)] [] _ _ _
      refine w_aload_n 0 dX14_doPush_112 rfl rfl rfl ?_
      refine g_X14_478 dX14_doPush_113 rfl (hz.o14 rfl) (hz.i930 rfl) ?_
      refine w_iret hf dX14_doPush_116 rfl (Nat.le_of_ble_eq_true rfl) (Nat.le_of_ble_eq_true rfl) ?_
      obtain ⟨rfl, rfl⟩ := ret_inj hr
      exact ⟨rfl, hz⟩
    · have hr := bf q15 hr
      refine w_aload_n 0 dX14_doPush_18 rfl rfl rfl ?_
      refine g_X14_82 dX14_doPush_19 rfl (hz.o14 rfl) (hz.r933 rfl) ?_
      refine w_iconst 1 dX14_doPush_22 rfl rfl ?_
      refine w_iload 5 dX14_doPush_23 rfl rfl ?_
      refine w_iadd dX14_doPush_25 rfl ?_
      refine w_iload 5 dX14_doPush_26 rfl rfl ?_
      refine w_aload_n 0 dX14_doPush_28 rfl rfl rfl ?_
      have hv22 := hz.ww898 (p := 0) (s := 0) rfl
      refine g_X14_16 dX14_doPush_29 rfl (hz.o14 rfl) (hz.rr898 rfl) ?_
      refine g_X14_292 dX14_doPush_32 rfl (hz.o12 hv22) (hz.r771 hv22) ?_
      refine w_iload_n 1 dX14_doPush_35 rfl rfl rfl ?_
      obtain ⟨g23, hr⟩ := gd hr
      refine w_iald dX14_doPush_36 rfl (hz.k771 hv22) (gin (hz.n771 hv22) g23) (hz.x771 hv22) ?_
      refine w_icmp_ge 50 dX14_doPush_37 rfl rfl (fun q37 => ?_) (fun q37 => ?_)
      · have hr := bt q37 hr
        refine w_lconst 0 dX14_doPush_50 rfl rfl ?_
        obtain ⟨g24, hr⟩ := gd hr
        refine w_last dX14_doPush_51 rfl (hz.k933 rfl) (gin (hz.n933 rfl) g24) ?_
        obtain ⟨ρ25, e26, hr⟩ := lt_e hr
        have hz := (hz.s933 (i := (Int32.toNatClampNeg (1 + y5))) (v := 0) rfl).tr e26
        refine w_iinc 5 (y5 + 1) [(5, .int (y5 + 1)), (0, .ref (A 14 0 0)), (1, .int x1), (2, .int x2), (3, .ref (A 1969 0 0)), (4, .int x4)] dX14_doPush_52 rfl rfl rfl (by decide) rfl ?_
        refine w_goto 11 dX14_doPush_55 rfl ?_
        refine w_lv [(0, .ref (A 14 0 0)), (1, .int x1), (2, .int x2), (3, .ref (A 1969 0 0)), (4, .int x4), (5, .int (y5 + 1))] [1, 2, 3, 4, 5, 0] rfl ?_
        exact w_X14_doPush_11 hf hrm   n (y5 + 1) _ _ hz  hr
      · have hr := bf q37 hr
        refine w_aload_n 3 dX14_doPush_40 rfl rfl rfl ?_
        refine w_iload 4 dX14_doPush_41 rfl rfl ?_
        refine w_iload 5 dX14_doPush_43 rfl rfl ?_
        refine w_iadd dX14_doPush_45 rfl ?_
        obtain ⟨g27, hr⟩ := gd hr
        refine w_lald dX14_doPush_46 rfl (hz.k945 rfl) (gin (hz.n945 rfl) g27) (hz.x945 rfl) ?_
        refine w_goto 51 dX14_doPush_47 rfl ?_
        obtain ⟨g28, hr⟩ := gd hr
        refine w_last dX14_doPush_51 rfl (hz.k933 rfl) (gin (hz.n933 rfl) g28) ?_
        obtain ⟨ρ29, e30, hr⟩ := lt_e hr
        have hz := (hz.s933 (i := (Int32.toNatClampNeg (1 + y5))) (v := (zJ ρ 1969 0 0 (Int32.toNatClampNeg (x4 + y5)))) rfl).tr e30
        refine w_iinc 5 (y5 + 1) [(5, .int (y5 + 1)), (0, .ref (A 14 0 0)), (1, .int x1), (2, .int x2), (3, .ref (A 1969 0 0)), (4, .int x4)] dX14_doPush_52 rfl rfl rfl (by decide) rfl ?_
        refine w_goto 11 dX14_doPush_55 rfl ?_
        refine w_lv [(0, .ref (A 14 0 0)), (1, .int x1), (2, .int x2), (3, .ref (A 1969 0 0)), (4, .int x4), (5, .int (y5 + 1))] [1, 2, 3, 4, 5, 0] rfl ?_
        exact w_X14_doPush_11 hf hrm   n (y5 + 1) _ _ hz  hr
set_option maxRecDepth 20000 in
set_option maxHeartbeats 4000000 in
theorem s_X14_doPush {A : Nat → Nat → Nat → Nat} {h : Hp} {σ ρ ρ' : Zs} {v : Int32} {x1 : Int32} {x2 : Int32} {x4 : Int32}  (hz : Rp A h σ ρ) (hr : fX14_doPush x1 x2 x4 ρ = some (v, ρ')) : ∀ l : Launch, Sp l mX14_doPush 17 0 0 [.ref (A 14 0 0), .int x1, .int x2, .ref (A 1969 0 0), .int x4] h (QI A v σ ρ') X0 := by
  intro l
  refine Sp.of rfl rfl (lv := [(0, .ref (A 14 0 0)), (1, .int x1), (2, .int x2), (3, .ref (A 1969 0 0)), (4, .int x4)]) (Nat.le_of_ble_eq_true rfl) rfl (fun x hf hrm => ?_)
  rw [fX14_doPush.eq_1] at hr
  refine w_aload_n 0 dX14_doPush_0 rfl rfl rfl ?_
  refine g_X14_82 dX14_doPush_1 rfl (hz.o14 rfl) (hz.r933 rfl) ?_
  refine w_iconst 0 dX14_doPush_4 rfl rfl ?_
  refine w_iload_n 2 dX14_doPush_5 rfl rfl rfl ?_
  refine w_i2l dX14_doPush_6 rfl ?_
  obtain ⟨g1, hr⟩ := gd hr
  refine w_last dX14_doPush_7 rfl (hz.k933 rfl) (gin (hz.n933 rfl) g1) ?_
  obtain ⟨ρ2, e3, hr⟩ := lt_e hr
  have hz := (hz.s933 (i := (Int32.toNatClampNeg 0)) (v := ((x2 : Int32).toInt64)) rfl).tr e3
  refine w_iconst 0 dX14_doPush_8 rfl rfl ?_
  refine w_istore [(5, .int 0), (0, .ref (A 14 0 0)), (1, .int x1), (2, .int x2), (3, .ref (A 1969 0 0)), (4, .int x4)] dX14_doPush_9 rfl (by decide) rfl ?_
  refine w_lv [(0, .ref (A 14 0 0)), (1, .int x1), (2, .int x2), (3, .ref (A 1969 0 0)), (4, .int x4), (5, .int 0)] [1, 2, 3, 4, 5, 0] rfl ?_
  exact w_X14_doPush_11 hf hrm   FU 0 _ _ hz  hr

set_option maxRecDepth 20000 in
set_option maxHeartbeats 4000000 in
theorem s_X14_push {A : Nat → Nat → Nat → Nat} {h : Hp} {σ ρ ρ' : Zs} {v : Int32} {x1 : Int32} {x2 : Int32}  (hz : Rp A h σ ρ) (hr : fX14_push x1 x2 ρ = some (v, ρ')) : ∀ l : Launch, Sp l mX14_push 18 0 0 [.ref (A 14 0 0), .int x1, .int x2] h (QI A v σ ρ') X0 := by
  intro l
  refine Sp.of rfl rfl (lv := [(0, .ref (A 14 0 0)), (1, .int x1), (2, .int x2)]) (Nat.le_of_ble_eq_true rfl) rfl (fun x hf hrm => ?_)
  rw [fX14_push.eq_1] at hr
  refine w_aload_n 0 dX14_push_0 rfl rfl rfl ?_
  refine w_iconst 0 dX14_push_1 rfl rfl ?_
  refine p_X14_149 dX14_push_2 rfl (hz.o14 rfl) ?_
  obtain ⟨ρ1, e2, hr⟩ := lt_e hr
  have hz := (hz.s896 (v := 0) rfl).tr e2
  refine w_aload_n 0 dX14_push_5 rfl rfl rfl ?_
  refine w_iload_n 1 dX14_push_6 rfl rfl rfl ?_
  obtain ⟨v3, ρ4, e5, hr⟩ := bq_some hr
  refine c_X14_448 (As := [.int x1]) (rest := []) (fun l => s_X14_isStream  hz e5 l) hrm dX14_push_7 rfl rfl (Nat.le_of_ble_eq_true rfl) (Nat.le_of_ble_eq_true rfl) (Nat.le_of_ble_eq_true rfl) (hz.o14 rfl) rfl (Nat.le_of_ble_eq_true rfl) (fun vr h2 hq => ?_) (fun E9 h9 hq => hq.elim)
  obtain ⟨rfl, hz⟩ := hq
  show wp _ _ 10 [(0, .ref (A 14 0 0)), (1, .int x1), (2, .int x2)] [.int v3] _ _ _
  refine w_if_ne 19 dX14_push_10 rfl rfl (fun q10 => ?_) (fun q10 => ?_)
  · have hr := bf q10 hr
    refine w_aload_n 0 dX14_push_19 rfl rfl rfl ?_
    have hv7 := hz.ww898 (p := 0) (s := 0) rfl
    refine g_X14_16 dX14_push_20 rfl (hz.o14 rfl) (hz.rr898 rfl) ?_
    refine g_X14_368 dX14_push_23 rfl (hz.o12 hv7) (hz.r770 hv7) ?_
    refine w_iload_n 1 dX14_push_26 rfl rfl rfl ?_
    obtain ⟨g8, hr⟩ := gd hr
    refine w_iald dX14_push_27 rfl (hz.k770 hv7) (gin (hz.n770 hv7) g8) (hz.x770 hv7) ?_
    refine w_if_ne 59 dX14_push_28 rfl rfl (fun q28 => ?_) (fun q28 => ?_)
    · have hr := bf q28 hr
      refine w_aload_n 0 dX14_push_59 rfl rfl rfl ?_
      refine w_iconst 2 dX14_push_60 rfl rfl ?_
      obtain ⟨v9, ρ10, e11, hr⟩ := bq_some hr
      refine c_X14_155 (As := [.int 2]) (rest := []) (fun l => s_X14_fail  hz e11 l) hrm dX14_push_61 rfl rfl (Nat.le_of_ble_eq_true rfl) (Nat.le_of_ble_eq_true rfl) (Nat.le_of_ble_eq_true rfl) (hz.o14 rfl) rfl (Nat.le_of_ble_eq_true rfl) (fun vr h2 hq => ?_) (fun E9 h9 hq => hq.elim)
      obtain ⟨rfl, hz⟩ := hq
      show wp _ _ 64 [(0, .ref (A 14 0 0)), (1, .int x1), (2, .int x2)] [.int v9] _ _ _
      refine w_iret hf dX14_push_64 rfl (Nat.le_of_ble_eq_true rfl) (Nat.le_of_ble_eq_true rfl) ?_
      obtain ⟨rfl, rfl⟩ := ret_inj hr
      exact ⟨rfl, hz⟩
    · have hr := bt q28 hr
      refine w_iload_n 2 dX14_push_31 rfl rfl rfl ?_
      refine w_i2l dX14_push_32 rfl ?_
      refine w_lconst 0 dX14_push_33 rfl rfl ?_
      refine w_ldc2 dX14_push_34 rfl k_X14_555 ?_
      obtain ⟨v13, ρ14, e15, hr⟩ := bq_some hr
      refine c_X14_163 (b := 0) (As := [.long ((x2 : Int32).toInt64), .long 0, .long 1000000]) (rest := []) (fun l => s_X14_isIn  hz e15 l) hrm dX14_push_37 rfl rfl (Nat.le_of_ble_eq_true rfl) (Nat.le_of_ble_eq_true rfl) (Nat.le_of_ble_eq_true rfl) rfl (Nat.le_of_ble_eq_true rfl) (fun vr h2 hq => ?_) (fun E9 h9 hq => hq.elim)
      obtain ⟨rfl, hz⟩ := hq
      show wp _ _ 40 [(0, .ref (A 14 0 0)), (1, .int x1), (2, .int x2)] [.int v13] _ _ _
      refine w_if_eq 59 dX14_push_40 rfl rfl (fun q40 => ?_) (fun q40 => ?_)
      · have hr := bt q40 hr
        refine w_aload_n 0 dX14_push_59 rfl rfl rfl ?_
        refine w_iconst 2 dX14_push_60 rfl rfl ?_
        obtain ⟨v17, ρ18, e19, hr⟩ := bq_some hr
        refine c_X14_155 (As := [.int 2]) (rest := []) (fun l => s_X14_fail  hz e19 l) hrm dX14_push_61 rfl rfl (Nat.le_of_ble_eq_true rfl) (Nat.le_of_ble_eq_true rfl) (Nat.le_of_ble_eq_true rfl) (hz.o14 rfl) rfl (Nat.le_of_ble_eq_true rfl) (fun vr h2 hq => ?_) (fun E9 h9 hq => hq.elim)
        obtain ⟨rfl, hz⟩ := hq
        show wp _ _ 64 [(0, .ref (A 14 0 0)), (1, .int x1), (2, .int x2)] [.int v17] _ _ _
        refine w_iret hf dX14_push_64 rfl (Nat.le_of_ble_eq_true rfl) (Nat.le_of_ble_eq_true rfl) ?_
        obtain ⟨rfl, rfl⟩ := ret_inj hr
        exact ⟨rfl, hz⟩
      · have hr := bf q40 hr
        refine w_aload_n 0 dX14_push_43 rfl rfl rfl ?_
        refine g_X14_547 dX14_push_44 rfl (hz.o14 rfl) (hz.i948 rfl) ?_
        refine w_aload_n 0 dX14_push_47 rfl rfl rfl ?_
        have hv21 := hz.ww898 (p := 0) (s := 0) rfl
        refine g_X14_16 dX14_push_48 rfl (hz.o14 rfl) (hz.rr898 rfl) ?_
        refine g_X14_292 dX14_push_51 rfl (hz.o12 hv21) (hz.r771 hv21) ?_
        refine w_iload_n 1 dX14_push_54 rfl rfl rfl ?_
        obtain ⟨g22, hr⟩ := gd hr
        refine w_iald dX14_push_55 rfl (hz.k771 hv21) (gin (hz.n771 hv21) g22) (hz.x771 hv21) ?_
        refine w_icmp_eq 65 dX14_push_56 rfl rfl (fun q56 => ?_) (fun q56 => ?_)
        · have hr := bt q56 hr
          refine w_aload_n 0 dX14_push_65 rfl rfl rfl ?_
          refine g_X14_456 dX14_push_66 rfl (hz.o14 rfl) (hz.i929 rfl) ?_
          refine w_if_ne 82 dX14_push_69 rfl rfl (fun q69 => ?_) (fun q69 => ?_)
          · have hr := bf q69 hr
            refine w_aload_n 0 dX14_push_82 rfl rfl rfl ?_
            refine w_iconst 3 dX14_push_83 rfl rfl ?_
            obtain ⟨v23, ρ24, e25, hr⟩ := bq_some hr
            refine c_X14_155 (As := [.int 3]) (rest := []) (fun l => s_X14_fail  hz e25 l) hrm dX14_push_84 rfl rfl (Nat.le_of_ble_eq_true rfl) (Nat.le_of_ble_eq_true rfl) (Nat.le_of_ble_eq_true rfl) (hz.o14 rfl) rfl (Nat.le_of_ble_eq_true rfl) (fun vr h2 hq => ?_) (fun E9 h9 hq => hq.elim)
            obtain ⟨rfl, hz⟩ := hq
            show wp _ _ 87 [(0, .ref (A 14 0 0)), (1, .int x1), (2, .int x2)] [.int v23] _ _ _
            refine w_iret hf dX14_push_87 rfl (Nat.le_of_ble_eq_true rfl) (Nat.le_of_ble_eq_true rfl) ?_
            obtain ⟨rfl, rfl⟩ := ret_inj hr
            exact ⟨rfl, hz⟩
          · have hr := bt q69 hr
            refine w_aload_n 0 dX14_push_72 rfl rfl rfl ?_
            refine g_X14_437 dX14_push_73 rfl (hz.o14 rfl) (hz.i940 rfl) ?_
            refine w_sipush 200 dX14_push_76 rfl rfl ?_
            refine w_icmp_ne 88 dX14_push_79 rfl rfl (fun q79 => ?_) (fun q79 => ?_)
            · have hr := bf q79 hr
              refine w_aload_n 0 dX14_push_88 rfl rfl rfl ?_
              refine g_X14_113 dX14_push_89 rfl (hz.o14 rfl) (hz.r944 rfl) ?_
              refine w_aload_n 0 dX14_push_92 rfl rfl rfl ?_
              refine g_X14_437 dX14_push_93 rfl (hz.o14 rfl) (hz.i940 rfl) ?_
              refine w_aload_n 0 dX14_push_96 rfl rfl rfl ?_
              have hv27 := hz.ww898 (p := 0) (s := 0) rfl
              refine g_X14_16 dX14_push_97 rfl (hz.o14 rfl) (hz.rr898 rfl) ?_
              refine g_X14_295 dX14_push_100 rfl (hz.o12 hv27) (hz.r769 hv27) ?_
              refine w_iload_n 1 dX14_push_103 rfl rfl rfl ?_
              obtain ⟨g28, hr⟩ := gd hr
              refine w_lald dX14_push_104 rfl (hz.k769 hv27) (gin (hz.n769 hv27) g28) (hz.x769 hv27) ?_
              obtain ⟨g29, hr⟩ := gd hr
              refine w_last dX14_push_105 rfl (hz.k944 rfl) (gin (hz.n944 rfl) g29) ?_
              obtain ⟨ρ30, e31, hr⟩ := lt_e hr
              have hz := (hz.s944 (i := (Int32.toNatClampNeg (zI ρ14 940 0 0 0))) (v := (zJ ρ14 1793 ((zR ρ14 898 0 0 0).1) 0 (Int32.toNatClampNeg x1))) rfl).tr e31
              refine w_aload_n 0 dX14_push_106 rfl rfl rfl ?_
              refine g_X14_110 dX14_push_107 rfl (hz.o14 rfl) (hz.r943 rfl) ?_
              refine w_aload_n 0 dX14_push_110 rfl rfl rfl ?_
              refine g_X14_437 dX14_push_111 rfl (hz.o14 rfl) (hz.i940 rfl) ?_
              refine w_aload_n 0 dX14_push_114 rfl rfl rfl ?_
              refine g_X14_547 dX14_push_115 rfl (hz.o14 rfl) (hz.i948 rfl) ?_
              obtain ⟨g32, hr⟩ := gd hr
              refine w_iast dX14_push_118 rfl (hz.k943 rfl) (gin (hz.n943 rfl) g32) ?_
              obtain ⟨ρ33, e34, hr⟩ := lt_e hr
              have hz := (hz.s943 (i := (Int32.toNatClampNeg (zI ρ30 940 0 0 0))) (v := (zI ρ30 948 0 0 0)) rfl).tr e34
              refine w_aload_n 0 dX14_push_119 rfl rfl rfl ?_
              refine g_X14_122 dX14_push_120 rfl (hz.o14 rfl) (hz.r949 rfl) ?_
              refine w_iconst 0 dX14_push_123 rfl rfl ?_
              refine w_aload_n 0 dX14_push_124 rfl rfl rfl ?_
              refine g_X14_116 dX14_push_125 rfl (hz.o14 rfl) (hz.r945 rfl) ?_
              refine w_bipush 6 dX14_push_128 rfl rfl ?_
              refine w_aload_n 0 dX14_push_130 rfl rfl rfl ?_
              refine g_X14_437 dX14_push_131 rfl (hz.o14 rfl) (hz.i940 rfl) ?_
              refine w_imul dX14_push_134 rfl ?_
              refine w_bipush 6 dX14_push_135 rfl rfl ?_
              obtain ⟨g35, hr⟩ := gd hr
              refine w_copyl hrm (by decide) dX14_push_137 rfl (hz.k949 rfl) (hz.k945 rfl) (hz.n949 rfl) (hz.n945 rfl) g35 (Nat.le_of_ble_eq_true rfl) ?_
              obtain ⟨ρ36, e37, hr⟩ := lt_e hr
              have hz := (hz.vC (f2 := 945) (sp := Int32.toNatClampNeg 0) (dp := Int32.toNatClampNeg (6 * (zI ρ33 940 0 0 0))) (n := Int32.toNatClampNeg 6) (aok_949 rfl) rfl rfl (by decide) rfl rfl).tr e37
              refine w_aload_n 0 dX14_push_140 rfl rfl rfl ?_
              refine w_iconst 0 dX14_push_141 rfl rfl ?_
              refine w_iload_n 2 dX14_push_142 rfl rfl rfl ?_
              obtain ⟨v38, ρ39, e40, hr⟩ := bq_some hr
              refine c_X14_557 (As := [.int 0, .int x2]) (rest := []) (fun l => s_X14_write  hz e40 l) hrm dX14_push_143 rfl rfl (Nat.le_of_ble_eq_true rfl) (Nat.le_of_ble_eq_true rfl) (Nat.le_of_ble_eq_true rfl) (hz.o14 rfl) rfl (Nat.le_of_ble_eq_true rfl) (fun vr h2 hq => ?_) (fun E9 h9 hq => hq.elim)
              obtain ⟨rfl, hz⟩ := hq
              show wp _ _ 146 [(0, .ref (A 14 0 0)), (1, .int x1), (2, .int x2)] [] _ _ _
              refine w_aload_n 0 dX14_push_146 rfl rfl rfl ?_
              refine w_iconst 0 dX14_push_147 rfl rfl ?_
              refine p_X14_547 dX14_push_148 rfl (hz.o14 rfl) ?_
              obtain ⟨ρ42, e43, hr⟩ := lt_e hr
              have hz := (hz.s948 (v := 0) rfl).tr e43
              refine w_aload_n 0 dX14_push_151 rfl rfl rfl ?_
              refine w_iload_n 1 dX14_push_152 rfl rfl rfl ?_
              refine w_iload_n 2 dX14_push_153 rfl rfl rfl ?_
              refine w_aload_n 0 dX14_push_154 rfl rfl rfl ?_
              refine g_X14_116 dX14_push_155 rfl (hz.o14 rfl) (hz.r945 rfl) ?_
              refine w_bipush 6 dX14_push_158 rfl rfl ?_
              refine w_aload_n 0 dX14_push_160 rfl rfl rfl ?_
              refine g_X14_437 dX14_push_161 rfl (hz.o14 rfl) (hz.i940 rfl) ?_
              refine w_iconst 1 dX14_push_164 rfl rfl ?_
              refine w_isub dX14_push_165 rfl ?_
              refine w_imul dX14_push_166 rfl ?_
              obtain ⟨v44, ρ45, e46, hr⟩ := bq_some hr
              refine c_X14_560 (As := [.int x1, .int x2, .ref (A 1969 0 0), .int (6 * ((zI ρ42 940 0 0 0) - 1))]) (rest := []) (fun l => s_X14_doPush  hz e46 l) hrm dX14_push_167 rfl rfl (Nat.le_of_ble_eq_true rfl) (Nat.le_of_ble_eq_true rfl) (Nat.le_of_ble_eq_true rfl) (hz.o14 rfl) rfl (Nat.le_of_ble_eq_true rfl) (fun vr h2 hq => ?_) (fun E9 h9 hq => hq.elim)
              obtain ⟨rfl, hz⟩ := hq
              show wp _ _ 170 [(0, .ref (A 14 0 0)), (1, .int x1), (2, .int x2)] [.int v44] _ _ _
              refine w_iret hf dX14_push_170 rfl (Nat.le_of_ble_eq_true rfl) (Nat.le_of_ble_eq_true rfl) ?_
              obtain ⟨rfl, rfl⟩ := ret_inj hr
              exact ⟨rfl, hz⟩
            · have hr := bt q79 hr
              refine w_aload_n 0 dX14_push_82 rfl rfl rfl ?_
              refine w_iconst 3 dX14_push_83 rfl rfl ?_
              obtain ⟨v48, ρ49, e50, hr⟩ := bq_some hr
              refine c_X14_155 (As := [.int 3]) (rest := []) (fun l => s_X14_fail  hz e50 l) hrm dX14_push_84 rfl rfl (Nat.le_of_ble_eq_true rfl) (Nat.le_of_ble_eq_true rfl) (Nat.le_of_ble_eq_true rfl) (hz.o14 rfl) rfl (Nat.le_of_ble_eq_true rfl) (fun vr h2 hq => ?_) (fun E9 h9 hq => hq.elim)
              obtain ⟨rfl, hz⟩ := hq
              show wp _ _ 87 [(0, .ref (A 14 0 0)), (1, .int x1), (2, .int x2)] [.int v48] _ _ _
              refine w_iret hf dX14_push_87 rfl (Nat.le_of_ble_eq_true rfl) (Nat.le_of_ble_eq_true rfl) ?_
              obtain ⟨rfl, rfl⟩ := ret_inj hr
              exact ⟨rfl, hz⟩
        · have hr := bf q56 hr
          refine w_aload_n 0 dX14_push_59 rfl rfl rfl ?_
          refine w_iconst 2 dX14_push_60 rfl rfl ?_
          obtain ⟨v52, ρ53, e54, hr⟩ := bq_some hr
          refine c_X14_155 (As := [.int 2]) (rest := []) (fun l => s_X14_fail  hz e54 l) hrm dX14_push_61 rfl rfl (Nat.le_of_ble_eq_true rfl) (Nat.le_of_ble_eq_true rfl) (Nat.le_of_ble_eq_true rfl) (hz.o14 rfl) rfl (Nat.le_of_ble_eq_true rfl) (fun vr h2 hq => ?_) (fun E9 h9 hq => hq.elim)
          obtain ⟨rfl, hz⟩ := hq
          show wp _ _ 64 [(0, .ref (A 14 0 0)), (1, .int x1), (2, .int x2)] [.int v52] _ _ _
          refine w_iret hf dX14_push_64 rfl (Nat.le_of_ble_eq_true rfl) (Nat.le_of_ble_eq_true rfl) ?_
          obtain ⟨rfl, rfl⟩ := ret_inj hr
          exact ⟨rfl, hz⟩
  · have hr := bt q10 hr
    refine w_aload_n 0 dX14_push_13 rfl rfl rfl ?_
    refine w_iconst 1 dX14_push_14 rfl rfl ?_
    obtain ⟨v56, ρ57, e58, hr⟩ := bq_some hr
    refine c_X14_155 (As := [.int 1]) (rest := []) (fun l => s_X14_fail  hz e58 l) hrm dX14_push_15 rfl rfl (Nat.le_of_ble_eq_true rfl) (Nat.le_of_ble_eq_true rfl) (Nat.le_of_ble_eq_true rfl) (hz.o14 rfl) rfl (Nat.le_of_ble_eq_true rfl) (fun vr h2 hq => ?_) (fun E9 h9 hq => hq.elim)
    obtain ⟨rfl, hz⟩ := hq
    show wp _ _ 18 [(0, .ref (A 14 0 0)), (1, .int x1), (2, .int x2)] [.int v56] _ _ _
    refine w_iret hf dX14_push_18 rfl (Nat.le_of_ble_eq_true rfl) (Nat.le_of_ble_eq_true rfl) ?_
    obtain ⟨rfl, rfl⟩ := ret_inj hr
    exact ⟨rfl, hz⟩

set_option maxRecDepth 20000 in
set_option maxHeartbeats 4000000 in
theorem w_X14_takeOut_12 {A : Nat → Nat → Nat → Nat} {σ ρ' : Zs} {v : Unit} {x : Cxt} {x1 : Int32}  (hf : m_fin 0 0 (QV A v σ ρ') X0 x) (hrm : m_rm 10 0 0 x)  : ∀ (n : Nat) (y2 : Int32) (ρ : Zs) (h : Hp), Rp A h σ ρ → fX14_takeOut_12 x1  n y2 ρ = some (v, ρ') → wp x mX14_takeOut 12 [(0, .ref (A 14 0 0)), (1, .int x1), (2, .int y2)] [] h 0 0
  | 0, _, ρ, h => fun hz hr => by
    rw [fX14_takeOut_12.eq_1] at hr
    exact nono hr
  | n + 1, y2, ρ, h => fun hz hr => by
    rw [fX14_takeOut_12.eq_2] at hr
    refine w_iload_n 2 dX14_takeOut_12 rfl rfl rfl ?_
    refine w_aload_n 0 dX14_takeOut_13 rfl rfl rfl ?_
    refine g_X14_440 dX14_takeOut_14 rfl (hz.o14 rfl) (hz.i923 rfl) ?_
    refine w_icmp_ge 54 dX14_takeOut_17 rfl rfl (fun q17 => ?_) (fun q17 => ?_)
    · have hr := bt q17 hr
      refine w_aload_n 0 dX14_takeOut_54 rfl rfl rfl ?_
      refine g_X14_73 dX14_takeOut_55 rfl (hz.o14 rfl) (hz.r926 rfl) ?_
      refine w_bipush 7 dX14_takeOut_58 rfl rfl ?_
      refine w_iload_n 1 dX14_takeOut_60 rfl rfl rfl ?_
      refine w_iconst 1 dX14_takeOut_61 rfl rfl ?_
      refine w_iadd dX14_takeOut_62 rfl ?_
      refine w_imul dX14_takeOut_63 rfl ?_
      refine w_aload_n 0 dX14_takeOut_64 rfl rfl rfl ?_
      refine g_X14_73 dX14_takeOut_65 rfl (hz.o14 rfl) (hz.r926 rfl) ?_
      refine w_bipush 7 dX14_takeOut_68 rfl rfl ?_
      refine w_iload_n 1 dX14_takeOut_70 rfl rfl rfl ?_
      refine w_imul dX14_takeOut_71 rfl ?_
      refine w_bipush 7 dX14_takeOut_72 rfl rfl ?_
      refine w_aload_n 0 dX14_takeOut_74 rfl rfl rfl ?_
      refine g_X14_440 dX14_takeOut_75 rfl (hz.o14 rfl) (hz.i923 rfl) ?_
      refine w_iload_n 1 dX14_takeOut_78 rfl rfl rfl ?_
      refine w_isub dX14_takeOut_79 rfl ?_
      refine w_imul dX14_takeOut_80 rfl ?_
      obtain ⟨g3, hr⟩ := gd hr
      refine w_copyl hrm (by decide) dX14_takeOut_81 rfl (hz.k926 rfl) (hz.k926 rfl) (hz.n926 rfl) (hz.n926 rfl) g3 (Nat.le_of_ble_eq_true rfl) ?_
      obtain ⟨ρ4, e5, hr⟩ := lt_e hr
      have hz := (hz.vC (f2 := 926) (sp := Int32.toNatClampNeg (7 * (x1 + 1))) (dp := Int32.toNatClampNeg (7 * x1)) (n := Int32.toNatClampNeg (7 * ((zI ρ 923 0 0 0) - x1))) (aok_926 rfl) rfl rfl (by decide) rfl rfl).tr e5
      refine w_vret hf dX14_takeOut_84 rfl (Nat.le_of_ble_eq_true rfl) (Nat.le_of_ble_eq_true rfl) ?_
      obtain ⟨rfl, rfl⟩ := ret_inj hr
      exact ⟨rfl, hz⟩
    · have hr := bf q17 hr
      refine w_aload_n 0 dX14_takeOut_20 rfl rfl rfl ?_
      refine g_X14_67 dX14_takeOut_21 rfl (hz.o14 rfl) (hz.r924 rfl) ?_
      refine w_iload_n 2 dX14_takeOut_24 rfl rfl rfl ?_
      refine w_aload_n 0 dX14_takeOut_25 rfl rfl rfl ?_
      refine g_X14_67 dX14_takeOut_26 rfl (hz.o14 rfl) (hz.r924 rfl) ?_
      refine w_iload_n 2 dX14_takeOut_29 rfl rfl rfl ?_
      refine w_iconst 1 dX14_takeOut_30 rfl rfl ?_
      refine w_iadd dX14_takeOut_31 rfl ?_
      obtain ⟨g6, hr⟩ := gd hr
      refine w_iald dX14_takeOut_32 rfl (hz.k924 rfl) (gin (hz.n924 rfl) g6) (hz.x924 rfl) ?_
      obtain ⟨g7, hr⟩ := gd hr
      refine w_iast dX14_takeOut_33 rfl (hz.k924 rfl) (gin (hz.n924 rfl) g7) ?_
      obtain ⟨ρ8, e9, hr⟩ := lt_e hr
      have hz := (hz.s924 (i := (Int32.toNatClampNeg y2)) (v := (zI ρ 1948 0 0 (Int32.toNatClampNeg (y2 + 1)))) rfl).tr e9
      refine w_aload_n 0 dX14_takeOut_34 rfl rfl rfl ?_
      refine g_X14_70 dX14_takeOut_35 rfl (hz.o14 rfl) (hz.r925 rfl) ?_
      refine w_iload_n 2 dX14_takeOut_38 rfl rfl rfl ?_
      refine w_aload_n 0 dX14_takeOut_39 rfl rfl rfl ?_
      refine g_X14_70 dX14_takeOut_40 rfl (hz.o14 rfl) (hz.r925 rfl) ?_
      refine w_iload_n 2 dX14_takeOut_43 rfl rfl rfl ?_
      refine w_iconst 1 dX14_takeOut_44 rfl rfl ?_
      refine w_iadd dX14_takeOut_45 rfl ?_
      obtain ⟨g10, hr⟩ := gd hr
      refine w_iald dX14_takeOut_46 rfl (hz.k925 rfl) (gin (hz.n925 rfl) g10) (hz.x925 rfl) ?_
      obtain ⟨g11, hr⟩ := gd hr
      refine w_iast dX14_takeOut_47 rfl (hz.k925 rfl) (gin (hz.n925 rfl) g11) ?_
      obtain ⟨ρ12, e13, hr⟩ := lt_e hr
      have hz := (hz.s925 (i := (Int32.toNatClampNeg y2)) (v := (zI ρ8 1949 0 0 (Int32.toNatClampNeg (y2 + 1)))) rfl).tr e13
      refine w_iinc 2 (y2 + 1) [(2, .int (y2 + 1)), (0, .ref (A 14 0 0)), (1, .int x1)] dX14_takeOut_48 rfl rfl rfl (by decide) rfl ?_
      refine w_goto 12 dX14_takeOut_51 rfl ?_
      refine w_lv [(0, .ref (A 14 0 0)), (1, .int x1), (2, .int (y2 + 1))] [1, 2, 0] rfl ?_
      exact w_X14_takeOut_12 hf hrm   n (y2 + 1) _ _ hz  hr
set_option maxRecDepth 20000 in
set_option maxHeartbeats 4000000 in
theorem s_X14_takeOut {A : Nat → Nat → Nat → Nat} {h : Hp} {σ ρ ρ' : Zs} {v : Unit} {x1 : Int32}  (hz : Rp A h σ ρ) (hr : fX14_takeOut x1 ρ = some (v, ρ')) : ∀ l : Launch, Sp l mX14_takeOut 10 0 0 [.ref (A 14 0 0), .int x1] h (QV A v σ ρ') X0 := by
  intro l
  refine Sp.of rfl rfl (lv := [(0, .ref (A 14 0 0)), (1, .int x1)]) (Nat.le_of_ble_eq_true rfl) rfl (fun x hf hrm => ?_)
  rw [fX14_takeOut.eq_1] at hr
  refine w_aload_n 0 dX14_takeOut_0 rfl rfl rfl ?_
  refine w_dup dX14_takeOut_1 rfl rfl ?_
  refine g_X14_440 dX14_takeOut_2 rfl (hz.o14 rfl) (hz.i923 rfl) ?_
  refine w_iconst 1 dX14_takeOut_5 rfl rfl ?_
  refine w_isub dX14_takeOut_6 rfl ?_
  refine p_X14_440 dX14_takeOut_7 rfl (hz.o14 rfl) ?_
  obtain ⟨ρ1, e2, hr⟩ := lt_e hr
  have hz := (hz.s923 (v := ((zI ρ 923 0 0 0) - 1)) rfl).tr e2
  refine w_iload_n 1 dX14_takeOut_10 rfl rfl rfl ?_
  refine w_istore_n [(2, .int x1), (0, .ref (A 14 0 0)), (1, .int x1)] dX14_takeOut_11 rfl rfl (by decide) rfl ?_
  refine w_lv [(0, .ref (A 14 0 0)), (1, .int x1), (2, .int x1)] [1, 2, 0] rfl ?_
  exact w_X14_takeOut_12 hf hrm   FU x1 _ _ hz  hr

set_option maxRecDepth 20000 in
set_option maxHeartbeats 4000000 in
theorem s_X14_discard {A : Nat → Nat → Nat → Nat} {h : Hp} {σ ρ ρ' : Zs} {v : Int32} {x1 : Int32}  (hz : Rp A h σ ρ) (hr : fX14_discard x1 ρ = some (v, ρ')) : ∀ l : Launch, Sp l mX14_discard 11 0 0 [.ref (A 14 0 0), .int x1] h (QI A v σ ρ') X0 := by
  intro l
  refine Sp.of rfl rfl (lv := [(0, .ref (A 14 0 0)), (1, .int x1)]) (Nat.le_of_ble_eq_true rfl) rfl (fun x hf hrm => ?_)
  rw [fX14_discard.eq_1] at hr
  refine w_aload_n 0 dX14_discard_0 rfl rfl rfl ?_
  refine w_iconst 0 dX14_discard_1 rfl rfl ?_
  refine p_X14_149 dX14_discard_2 rfl (hz.o14 rfl) ?_
  obtain ⟨ρ1, e2, hr⟩ := lt_e hr
  have hz := (hz.s896 (v := 0) rfl).tr e2
  refine w_aload_n 0 dX14_discard_5 rfl rfl rfl ?_
  refine w_iload_n 1 dX14_discard_6 rfl rfl rfl ?_
  obtain ⟨v3, ρ4, e5, hr⟩ := bq_some hr
  refine c_X14_566 (As := [.int x1]) (rest := []) (fun l => s_X14_isHeld  hz e5 l) hrm dX14_discard_7 rfl rfl (Nat.le_of_ble_eq_true rfl) (Nat.le_of_ble_eq_true rfl) (Nat.le_of_ble_eq_true rfl) (hz.o14 rfl) rfl (Nat.le_of_ble_eq_true rfl) (fun vr h2 hq => ?_) (fun E9 h9 hq => hq.elim)
  obtain ⟨rfl, hz⟩ := hq
  show wp _ _ 10 [(0, .ref (A 14 0 0)), (1, .int x1)] [.int v3] _ _ _
  refine w_if_ne 19 dX14_discard_10 rfl rfl (fun q10 => ?_) (fun q10 => ?_)
  · have hr := bf q10 hr
    refine w_aload_n 0 dX14_discard_19 rfl rfl rfl ?_
    refine g_X14_437 dX14_discard_20 rfl (hz.o14 rfl) (hz.i940 rfl) ?_
    refine w_sipush 200 dX14_discard_23 rfl rfl ?_
    refine w_icmp_ne 35 dX14_discard_26 rfl rfl (fun q26 => ?_) (fun q26 => ?_)
    · have hr := bf q26 hr
      refine w_aload_n 0 dX14_discard_35 rfl rfl rfl ?_
      refine w_iconst 2 dX14_discard_36 rfl rfl ?_
      refine w_iload_n 1 dX14_discard_37 rfl rfl rfl ?_
      obtain ⟨v7, ρ8, e9, hr⟩ := bq_some hr
      refine c_X14_557 (As := [.int 2, .int x1]) (rest := []) (fun l => s_X14_write  hz e9 l) hrm dX14_discard_38 rfl rfl (Nat.le_of_ble_eq_true rfl) (Nat.le_of_ble_eq_true rfl) (Nat.le_of_ble_eq_true rfl) (hz.o14 rfl) rfl (Nat.le_of_ble_eq_true rfl) (fun vr h2 hq => ?_) (fun E9 h9 hq => hq.elim)
      obtain ⟨rfl, hz⟩ := hq
      show wp _ _ 41 [(0, .ref (A 14 0 0)), (1, .int x1)] [] _ _ _
      refine w_aload_n 0 dX14_discard_41 rfl rfl rfl ?_
      refine g_X14_70 dX14_discard_42 rfl (hz.o14 rfl) (hz.r925 rfl) ?_
      refine w_iload_n 1 dX14_discard_45 rfl rfl rfl ?_
      obtain ⟨g11, hr⟩ := gd hr
      refine w_iald dX14_discard_46 rfl (hz.k925 rfl) (gin (hz.n925 rfl) g11) (hz.x925 rfl) ?_
      refine w_istore_n [(2, .int (zI ρ8 1949 0 0 (Int32.toNatClampNeg x1))), (0, .ref (A 14 0 0)), (1, .int x1)] dX14_discard_47 rfl rfl (by decide) rfl ?_
      refine w_aload_n 1 dX14_discard_48 rfl rfl rfl ?_
      refine w_iload_n 2 dX14_discard_49 rfl rfl rfl ?_
      obtain ⟨v12, ρ13, e14, hr⟩ := bq_some hr
      refine c_X14_577 (As := [.int x1]) (rest := []) (fun l => s_X14_takeOut  hz e14 l) hrm dX14_discard_50 rfl rfl (Nat.le_of_ble_eq_true rfl) (Nat.le_of_ble_eq_true rfl) (Nat.le_of_ble_eq_true rfl) (hz.o14 rfl) rfl (Nat.le_of_ble_eq_true rfl) (fun vr h2 hq => ?_) (fun E9 h9 hq => hq.elim)
      obtain ⟨rfl, hz⟩ := hq
      show wp _ _ 53 [(2, .int (zI ρ8 1949 0 0 (Int32.toNatClampNeg x1))), (0, .ref (A 14 0 0)), (1, .int x1)] [] _ _ _
      refine w_iload_n 0 dX14_discard_53 rfl rfl rfl ?_
      refine w_iret hf dX14_discard_54 rfl (Nat.le_of_ble_eq_true rfl) (Nat.le_of_ble_eq_true rfl) ?_
      obtain ⟨rfl, rfl⟩ := ret_inj hr
      exact ⟨rfl, hz⟩
    · have hr := bt q26 hr
      refine w_aload_n 0 dX14_discard_29 rfl rfl rfl ?_
      refine w_iconst 2 dX14_discard_30 rfl rfl ?_
      obtain ⟨v16, ρ17, e18, hr⟩ := bq_some hr
      refine c_X14_155 (As := [.int 2]) (rest := []) (fun l => s_X14_fail  hz e18 l) hrm dX14_discard_31 rfl rfl (Nat.le_of_ble_eq_true rfl) (Nat.le_of_ble_eq_true rfl) (Nat.le_of_ble_eq_true rfl) (hz.o14 rfl) rfl (Nat.le_of_ble_eq_true rfl) (fun vr h2 hq => ?_) (fun E9 h9 hq => hq.elim)
      obtain ⟨rfl, hz⟩ := hq
      show wp _ _ 34 [(0, .ref (A 14 0 0)), (1, .int x1)] [.int v16] _ _ _
      refine w_iret hf dX14_discard_34 rfl (Nat.le_of_ble_eq_true rfl) (Nat.le_of_ble_eq_true rfl) ?_
      obtain ⟨rfl, rfl⟩ := ret_inj hr
      exact ⟨rfl, hz⟩
  · have hr := bt q10 hr
    refine w_aload_n 0 dX14_discard_13 rfl rfl rfl ?_
    refine w_iconst 1 dX14_discard_14 rfl rfl ?_
    obtain ⟨v20, ρ21, e22, hr⟩ := bq_some hr
    refine c_X14_155 (As := [.int 1]) (rest := []) (fun l => s_X14_fail  hz e22 l) hrm dX14_discard_15 rfl rfl (Nat.le_of_ble_eq_true rfl) (Nat.le_of_ble_eq_true rfl) (Nat.le_of_ble_eq_true rfl) (hz.o14 rfl) rfl (Nat.le_of_ble_eq_true rfl) (fun vr h2 hq => ?_) (fun E9 h9 hq => hq.elim)
    obtain ⟨rfl, hz⟩ := hq
    show wp _ _ 18 [(0, .ref (A 14 0 0)), (1, .int x1)] [.int v20] _ _ _
    refine w_iret hf dX14_discard_18 rfl (Nat.le_of_ble_eq_true rfl) (Nat.le_of_ble_eq_true rfl) ?_
    obtain ⟨rfl, rfl⟩ := ret_inj hr
    exact ⟨rfl, hz⟩

