/-! LIFTED: 42.refp -/
noncomputable def fX14_take  (ρ : Zs) : Option (Except (Int32 × Int32) (Unit) × Zs) :=
  if (zI ρ 908 0 0 0) = 0 then (bq (fX14_wrong ρ) fun w7 ρ8 => some (.error w7, ρ8)) else (if (zI ρ 908 0 0 0) ≤ 0 then (lt (sI ρ 905 0 0 0 ((zI ρ 905 0 0 0) + 1)) fun ρ1 => some (.ok (), ρ1)) else (lt (sI ρ 908 0 0 0 ((zI ρ 908 0 0 0) - 1)) fun ρ3 => lt (sI ρ3 905 0 0 0 ((zI ρ3 905 0 0 0) + 1)) fun ρ5 => some (.ok (), ρ5)))

noncomputable def fX14_take_ (x1 : Int32) (ρ : Zs) : Option (Except (Int32 × Int32) (Unit) × Zs) :=
  bq (fX14_is x1 ρ) fun v1 ρ2 => if v1 = 0 then (bq (fX14_wrong ρ2) fun w10 ρ11 => some (.error w10, ρ11)) else (bw (fX14_take  ρ2) fun w9 ρ6 => some (.ok (), ρ6))

noncomputable def fX14_deeper  (ρ : Zs) : Option (Except (Int32 × Int32) (Unit) × Zs) :=
  if (zI ρ 907 0 0 0) = 8 then (bq (fX14_wrong ρ) fun w3 ρ4 => some (.error w3, ρ4)) else (lt (sI ρ 907 0 0 0 ((zI ρ 907 0 0 0) + 1)) fun ρ1 => some (.ok (), ρ1))

noncomputable def fX14_function_143 (kE : Zs → Option (Except (Int32 × Int32) (Unit) × Zs))  (y1 : Int32) (y2 : Int32) (z0 : Int32) (ρ : Zs) : Option (Except (Int32 × Int32) (Unit) × Zs) :=
  bw (fX14_must z0 3 y2 ρ) fun w33 ρ30 => if y1 = 31 then (bq (fX14_emit 42 0 ρ30) fun v42 ρ43 => some (.ok (), ρ43)) else (if y1 = 24 then (bq (fX14_emit 32 0 ρ30) fun v38 ρ39 => some (.ok (), ρ39)) else (bq (fX14_emit 33 0 ρ30) fun v34 ρ35 => some (.ok (), ρ35)))
noncomputable def fX14_function_74 (kE : Zs → Option (Except (Int32 × Int32) (Unit) × Zs))  : Nat → Int32 → Int32 → Int32 → Int32 → Zs → Option (Except (Int32 × Int32) (Unit) × Zs)
  | 0, _, _, _, _, _ => none
  | n + 1, y1, y2, y3, y4, ρ =>
    if y4 = 0 then (bw (fX14_take_ 101 ρ) fun w26 ρ23 => lt (sI ρ23 907 0 0 0 ((zI ρ23 907 0 0 0) - 1)) fun ρ27 => if y1 = 31 then (if y3 = 1 then (fX14_function_143 kE  y1 y2 1 ρ27) else (fX14_function_143 kE  y1 y2 0 ρ27)) else (if y3 = 2 then (fX14_function_143 kE  y1 y2 1 ρ27) else (fX14_function_143 kE  y1 y2 0 ρ27))) else (bw (kE  ρ) fun w50 ρ47 => bq (fX14_is 102 ρ47) fun v51 ρ52 => if v51 = 0 then (fX14_function_74 kE  n y1 y2 (y3 + 1) v51 ρ52) else (bw (fX14_take  ρ52) fun w59 ρ56 => fX14_function_74 kE  n y1 y2 (y3 + 1) v51 ρ56))
noncomputable def fX14_function_43 (kE : Zs → Option (Except (Int32 × Int32) (Unit) × Zs))  (y1 : Int32) (y2 : Int32) (ρ : Zs) : Option (Except (Int32 × Int32) (Unit) × Zs) :=
  bw (fX14_take  ρ) fun w7 ρ4 => bq (fX14_is 100 ρ4) fun v8 ρ9 => if v8 = 0 then (bq (fX14_wrong ρ9) fun w60 ρ61 => some (.error w60, ρ61)) else (bw (fX14_deeper  ρ9) fun w16 ρ13 => bw (fX14_take  ρ13) fun w21 ρ18 => fX14_function_74 kE  FU y1 y2 0 1 ρ18)
noncomputable def fX14_function (kE : Zs → Option (Except (Int32 × Int32) (Unit) × Zs)) (ρ : Zs) : Option (Except (Int32 × Int32) (Unit) × Zs) :=
  if gi (zI ρ 905 0 0 0) 1501 then if gi (zI ρ 905 0 0 0) 1501 then if (zI ρ 1926 0 0 (Int32.toNatClampNeg (zI ρ 905 0 0 0))) = 31 then (fX14_function_43 kE  (zI ρ 1926 0 0 (Int32.toNatClampNeg (zI ρ 905 0 0 0))) (zI ρ 1927 0 0 (Int32.toNatClampNeg (zI ρ 905 0 0 0))) ρ) else (if (zI ρ 1926 0 0 (Int32.toNatClampNeg (zI ρ 905 0 0 0))) = 24 then (fX14_function_43 kE  (zI ρ 1926 0 0 (Int32.toNatClampNeg (zI ρ 905 0 0 0))) (zI ρ 1927 0 0 (Int32.toNatClampNeg (zI ρ 905 0 0 0))) ρ) else (if (zI ρ 1926 0 0 (Int32.toNatClampNeg (zI ρ 905 0 0 0))) = 25 then (fX14_function_43 kE  (zI ρ 1926 0 0 (Int32.toNatClampNeg (zI ρ 905 0 0 0))) (zI ρ 1927 0 0 (Int32.toNatClampNeg (zI ρ 905 0 0 0))) ρ) else (bq (fX14_wrong ρ) fun w63 ρ64 => some (.error w63, ρ64)))) else none else none

noncomputable def fX14_factor_204 (kE : Zs → Option (Except (Int32 × Int32) (Unit) × Zs)) (kF : Zs → Option (Except (Int32 × Int32) (Unit) × Zs))  (z0 : Int32) (ρ : Zs) : Option (Except (Int32 × Int32) (Unit) × Zs) :=
  bw (fX14_deeper  ρ) fun w29 ρ26 => bw (fX14_take  ρ26) fun w34 ρ31 => bw (kF  ρ31) fun w39 ρ36 => lt (sI ρ36 907 0 0 0 ((zI ρ36 907 0 0 0) - 1)) fun ρ40 => bq (fX14_emit z0 0 ρ40) fun v42 ρ43 => some (.ok (), ρ43)
noncomputable def fX14_factor_81 (kE : Zs → Option (Except (Int32 × Int32) (Unit) × Zs)) (kF : Zs → Option (Except (Int32 × Int32) (Unit) × Zs))  (y1 : Int32) (z0 : Int32) (ρ : Zs) : Option (Except (Int32 × Int32) (Unit) × Zs) :=
  if gi (zI ρ 905 0 0 0) 1501 then bw (fX14_must z0 2 (zI ρ 1927 0 0 (Int32.toNatClampNeg (zI ρ 905 0 0 0))) ρ) fun w95 ρ92 => bq (fX14_emit 1 ((y1 : Int32).toInt64) ρ92) fun v96 ρ97 => bw (fX14_take  ρ97) fun w104 ρ101 => some (.ok (), ρ101) else none
noncomputable def fX14_factor (kE : Zs → Option (Except (Int32 × Int32) (Unit) × Zs)) (kF : Zs → Option (Except (Int32 × Int32) (Unit) × Zs)) (ρ : Zs) : Option (Except (Int32 × Int32) (Unit) × Zs) :=
  bq (fX14_is 201 ρ) fun v1 ρ2 => if v1 = 0 then (bq (fX14_is 200 ρ2) fun v5 ρ6 => if v5 = 0 then (bq (fX14_is 27 ρ6) fun v9 ρ10 => if v9 = 0 then (bq (fX14_is 100 ρ10) fun v13 ρ14 => if v13 = 0 then (bq (fX14_is 106 ρ14) fun v17 ρ18 => if v17 = 0 then (bq (fX14_is 30 ρ18) fun v46 ρ47 => if v46 = 0 then (bw (fX14_function kE ρ47) fun w54 ρ51 => some (.ok (), ρ51)) else (bq (fX14_is 106 ρ47) fun v55 ρ56 => if v55 = 0 then (fX14_factor_204 kE kF  40 ρ56) else (fX14_factor_204 kE kF  41 ρ56))) else (bq (fX14_is 106 ρ18) fun v21 ρ22 => if v21 = 0 then (fX14_factor_204 kE kF  40 ρ22) else (fX14_factor_204 kE kF  41 ρ22))) else (bw (fX14_deeper  ρ14) fun w63 ρ60 => bw (fX14_take  ρ60) fun w68 ρ65 => bw (kE  ρ65) fun w73 ρ70 => bw (fX14_take_ 101 ρ70) fun w78 ρ75 => lt (sI ρ75 907 0 0 0 ((zI ρ75 907 0 0 0) - 1)) fun ρ79 => some (.ok (), ρ79))) else (bq (fX14_emit 2 0 ρ10) fun v81 ρ82 => bw (fX14_take  ρ82) fun w89 ρ86 => some (.ok (), ρ86))) else (if (zI ρ6 906 0 0 0) = 0 then (if (0 : Int32) = (-1) then (fX14_factor_81 kE kF  0 0 ρ6) else (fX14_factor_81 kE kF  0 1 ρ6)) else (if gi (zI ρ6 905 0 0 0) 1501 then bq (fX14_columnOf (zI ρ6 910 0 0 0) (zJ ρ6 1928 0 0 (Int32.toNatClampNeg (zI ρ6 905 0 0 0))) ρ6) fun v106 ρ107 => if v106 = (-1) then (fX14_factor_81 kE kF  v106 0 ρ107) else (fX14_factor_81 kE kF  v106 1 ρ107) else none))) else (if gi (zI ρ2 905 0 0 0) 1501 then bq (fX14_emit 0 (zJ ρ2 1928 0 0 (Int32.toNatClampNeg (zI ρ2 905 0 0 0))) ρ2) fun v111 ρ112 => bw (fX14_take  ρ112) fun w119 ρ116 => some (.ok (), ρ116) else none)

noncomputable def fX14_product_4 (kF : Zs → Option (Except (Int32 × Int32) (Unit) × Zs))  : Nat → Zs → Option (Except (Int32 × Int32) (Unit) × Zs)
  | 0, _ => none
  | n + 1, ρ =>
    if gi (zI ρ 905 0 0 0) 1501 then bq (fX14_isIn (((zI ρ 1926 0 0 (Int32.toNatClampNeg (zI ρ 905 0 0 0))) : Int32).toInt64) 107 109 ρ) fun v7 ρ8 => if v7 = 0 then (some (.ok (), ρ8)) else (if gi (zI ρ8 905 0 0 0) 1501 then bw (fX14_take  ρ8) fun w16 ρ13 => bw (kF  ρ13) fun w21 ρ18 => bq (fX14_emit (10 + ((zI ρ8 1926 0 0 (Int32.toNatClampNeg (zI ρ8 905 0 0 0))) - 105)) 0 ρ18) fun v22 ρ23 => fX14_product_4 kF  n  ρ23 else none) else none
noncomputable def fX14_product (kF : Zs → Option (Except (Int32 × Int32) (Unit) × Zs)) (ρ : Zs) : Option (Except (Int32 × Int32) (Unit) × Zs) :=
  bw (kF  ρ) fun w5 ρ2 => fX14_product_4 kF  FU  ρ2

noncomputable def fX14_sum_22 (kF : Zs → Option (Except (Int32 × Int32) (Unit) × Zs)) (k4 : Zs → Option (Except (Int32 × Int32) (Unit) × Zs))  (ρ : Zs) : Option (Except (Int32 × Int32) (Unit) × Zs) :=
  if gi (zI ρ 905 0 0 0) 1501 then bw (fX14_take  ρ) fun w15 ρ12 => bw (fX14_product kF ρ12) fun w20 ρ17 => bq (fX14_emit (10 + ((zI ρ 1926 0 0 (Int32.toNatClampNeg (zI ρ 905 0 0 0))) - 105)) 0 ρ17) fun v21 ρ22 => k4  ρ22 else none
noncomputable def fX14_sum_4 (kF : Zs → Option (Except (Int32 × Int32) (Unit) × Zs))  : Nat → Zs → Option (Except (Int32 × Int32) (Unit) × Zs)
  | 0, _ => none
  | n + 1, ρ =>
    bq (fX14_is 105 ρ) fun v6 ρ7 => if v6 = 0 then (bq (fX14_is 106 ρ7) fun v25 ρ26 => if v25 = 0 then (some (.ok (), ρ26)) else (fX14_sum_22 kF (fun  ρb => fX14_sum_4 kF  n  ρb)  ρ26)) else (fX14_sum_22 kF (fun  ρb => fX14_sum_4 kF  n  ρb)  ρ7)
noncomputable def fX14_sum (kF : Zs → Option (Except (Int32 × Int32) (Unit) × Zs)) (ρ : Zs) : Option (Except (Int32 × Int32) (Unit) × Zs) :=
  bw (fX14_product kF ρ) fun w5 ρ2 => fX14_sum_4 kF  FU  ρ2

noncomputable def fX14_relation_83 (kF : Zs → Option (Except (Int32 × Int32) (Unit) × Zs))  (z0 : Int32) (ρ : Zs) : Option (Except (Int32 × Int32) (Unit) × Zs) :=
  if z0 = (-1) then (some (.ok (), ρ)) else (bw (fX14_take  ρ) fun w34 ρ31 => bw (fX14_sum kF ρ31) fun w39 ρ36 => bq (fX14_emit (20 + z0) 0 ρ36) fun v40 ρ41 => some (.ok (), ρ41))
noncomputable def fX14_relation (kF : Zs → Option (Except (Int32 × Int32) (Unit) × Zs)) (ρ : Zs) : Option (Except (Int32 × Int32) (Unit) × Zs) :=
  bw (fX14_sum kF ρ) fun w5 ρ2 => bq (fX14_is 104 ρ2) fun v6 ρ7 => if v6 = 0 then (bq (fX14_is 114 ρ7) fun v10 ρ11 => if v10 = 0 then (bq (fX14_is 110 ρ11) fun v14 ρ15 => if v14 = 0 then (bq (fX14_is 111 ρ15) fun v18 ρ19 => if v18 = 0 then (bq (fX14_is 112 ρ19) fun v22 ρ23 => if v22 = 0 then (bq (fX14_is 113 ρ23) fun v26 ρ27 => if v26 = 0 then (fX14_relation_83 kF  (-1) ρ27) else (fX14_relation_83 kF  5 ρ27)) else (fX14_relation_83 kF  4 ρ23)) else (fX14_relation_83 kF  3 ρ19)) else (fX14_relation_83 kF  2 ρ15)) else (fX14_relation_83 kF  1 ρ11)) else (fX14_relation_83 kF  0 ρ7)

noncomputable def fX14_both_4 (kF : Zs → Option (Except (Int32 × Int32) (Unit) × Zs))  : Nat → Zs → Option (Except (Int32 × Int32) (Unit) × Zs)
  | 0, _ => none
  | n + 1, ρ =>
    bq (fX14_is 28 ρ) fun v6 ρ7 => if v6 = 0 then (some (.ok (), ρ7)) else (bw (fX14_take  ρ7) fun w14 ρ11 => bw (fX14_relation kF ρ11) fun w19 ρ16 => bq (fX14_emit 30 0 ρ16) fun v20 ρ21 => fX14_both_4 kF  n  ρ21)
noncomputable def fX14_both (kF : Zs → Option (Except (Int32 × Int32) (Unit) × Zs)) (ρ : Zs) : Option (Except (Int32 × Int32) (Unit) × Zs) :=
  bw (fX14_relation kF ρ) fun w5 ρ2 => fX14_both_4 kF  FU  ρ2

noncomputable def fX14_expression_4 (kF : Zs → Option (Except (Int32 × Int32) (Unit) × Zs))  : Nat → Zs → Option (Except (Int32 × Int32) (Unit) × Zs)
  | 0, _ => none
  | n + 1, ρ =>
    bq (fX14_is 29 ρ) fun v6 ρ7 => if v6 = 0 then (some (.ok (), ρ7)) else (bw (fX14_take  ρ7) fun w14 ρ11 => bw (fX14_both kF ρ11) fun w19 ρ16 => bq (fX14_emit 31 0 ρ16) fun v20 ρ21 => fX14_expression_4 kF  n  ρ21)
noncomputable def fX14_expression (kF : Zs → Option (Except (Int32 × Int32) (Unit) × Zs)) (ρ : Zs) : Option (Except (Int32 × Int32) (Unit) × Zs) :=
  bw (fX14_both kF ρ) fun w5 ρ2 => fX14_expression_4 kF  FU  ρ2

set_option maxRecDepth 20000 in
set_option maxHeartbeats 4000000 in
theorem t_X14_take {A : Nat → Nat → Nat → Nat} {h : Hp} {σ ρ ρ' : Zs} {v : Unit}   (hz : Rp A h σ ρ) (hr : fX14_take  ρ = some (.ok v, ρ')) : ∀ l : Launch, Sp l mX14_take 14 0 0 [.ref (A 14 0 0)] h (QV A v σ ρ') X0 := by
  intro l
  refine Sp.of rfl rfl (lv := [(0, .ref (A 14 0 0))]) (Nat.le_of_ble_eq_true rfl) rfl (fun x hf hrm => ?_)
  rw [fX14_take.eq_1] at hr
  refine w_aload_n 0 dX14_take_0 rfl rfl rfl ?_
  refine g_X14_216 dX14_take_1 rfl (hz.o14 rfl) (hz.i908 rfl) ?_
  refine w_if_ne 12 dX14_take_4 rfl rfl (fun q4 => ?_) (fun q4 => ?_)
  · have hr := bf q4 hr
    refine w_aload_n 0 dX14_take_12 rfl rfl rfl ?_
    refine g_X14_216 dX14_take_13 rfl (hz.o14 rfl) (hz.i908 rfl) ?_
    refine w_if_le 29 dX14_take_16 rfl rfl (fun q16 => ?_) (fun q16 => ?_)
    · have hr := bt q16 hr
      refine w_aload_n 0 dX14_take_29 rfl rfl rfl ?_
      refine w_dup dX14_take_30 rfl rfl ?_
      refine g_X14_204 dX14_take_31 rfl (hz.o14 rfl) (hz.i905 rfl) ?_
      refine w_iconst 1 dX14_take_34 rfl rfl ?_
      refine w_iadd dX14_take_35 rfl ?_
      refine p_X14_204 dX14_take_36 rfl (hz.o14 rfl) ?_
      obtain ⟨ρ1, e2, hr⟩ := lt_e hr
      have hz := (hz.s905 (v := ((zI ρ 905 0 0 0) + 1)) rfl).tr e2
      refine w_vret hf dX14_take_39 rfl (Nat.le_of_ble_eq_true rfl) (Nat.le_of_ble_eq_true rfl) ?_
      obtain ⟨rfl, rfl⟩ := retw hr
      exact ⟨rfl, hz⟩
    · have hr := bf q16 hr
      refine w_aload_n 0 dX14_take_19 rfl rfl rfl ?_
      refine w_dup dX14_take_20 rfl rfl ?_
      refine g_X14_216 dX14_take_21 rfl (hz.o14 rfl) (hz.i908 rfl) ?_
      refine w_iconst 1 dX14_take_24 rfl rfl ?_
      refine w_isub dX14_take_25 rfl ?_
      refine p_X14_216 dX14_take_26 rfl (hz.o14 rfl) ?_
      obtain ⟨ρ3, e4, hr⟩ := lt_e hr
      have hz := (hz.s908 (v := ((zI ρ 908 0 0 0) - 1)) rfl).tr e4
      refine w_aload_n 0 dX14_take_29 rfl rfl rfl ?_
      refine w_dup dX14_take_30 rfl rfl ?_
      refine g_X14_204 dX14_take_31 rfl (hz.o14 rfl) (hz.i905 rfl) ?_
      refine w_iconst 1 dX14_take_34 rfl rfl ?_
      refine w_iadd dX14_take_35 rfl ?_
      refine p_X14_204 dX14_take_36 rfl (hz.o14 rfl) ?_
      obtain ⟨ρ5, e6, hr⟩ := lt_e hr
      have hz := (hz.s905 (v := ((zI ρ3 905 0 0 0) + 1)) rfl).tr e6
      refine w_vret hf dX14_take_39 rfl (Nat.le_of_ble_eq_true rfl) (Nat.le_of_ble_eq_true rfl) ?_
      obtain ⟨rfl, rfl⟩ := retw hr
      exact ⟨rfl, hz⟩
  · have hr := bt q4 hr
    refine w_aload_n 0 dX14_take_7 rfl rfl rfl ?_
    obtain ⟨w7, ρ8, e9, hr⟩ := bq_some hr
    exact noko hr

set_option maxRecDepth 20000 in
set_option maxHeartbeats 4000000 in
theorem e_X14_take {A : Nat → Nat → Nat → Nat} {h : Hp} {σ ρ ρ' : Zs} {v : Int32 × Int32}   (hz : Rp A h σ ρ) (hr : fX14_take  ρ = some (.error v, ρ')) : ∀ l : Launch, Sp l mX14_take 14 1 8 [.ref (A 14 0 0)] h QF (XW A v σ ρ') := by
  intro l
  refine Sp.of rfl rfl (lv := [(0, .ref (A 14 0 0))]) (Nat.le_of_ble_eq_true rfl) rfl (fun x hf hrm => ?_)
  rw [fX14_take.eq_1] at hr
  refine w_aload_n 0 dX14_take_0 rfl rfl rfl ?_
  refine g_X14_216 dX14_take_1 rfl (hz.o14 rfl) (hz.i908 rfl) ?_
  refine w_if_ne 12 dX14_take_4 rfl rfl (fun q4 => ?_) (fun q4 => ?_)
  · have hr := bf q4 hr
    refine w_aload_n 0 dX14_take_12 rfl rfl rfl ?_
    refine g_X14_216 dX14_take_13 rfl (hz.o14 rfl) (hz.i908 rfl) ?_
    refine w_if_le 29 dX14_take_16 rfl rfl (fun q16 => ?_) (fun q16 => ?_)
    · have hr := bt q16 hr
      refine w_aload_n 0 dX14_take_29 rfl rfl rfl ?_
      refine w_dup dX14_take_30 rfl rfl ?_
      refine g_X14_204 dX14_take_31 rfl (hz.o14 rfl) (hz.i905 rfl) ?_
      refine w_iconst 1 dX14_take_34 rfl rfl ?_
      refine w_iadd dX14_take_35 rfl ?_
      refine p_X14_204 dX14_take_36 rfl (hz.o14 rfl) ?_
      obtain ⟨ρ1, e2, hr⟩ := lt_e hr
      have hz := (hz.s905 (v := ((zI ρ 905 0 0 0) + 1)) rfl).tr e2
      exact noek hr
    · have hr := bf q16 hr
      refine w_aload_n 0 dX14_take_19 rfl rfl rfl ?_
      refine w_dup dX14_take_20 rfl rfl ?_
      refine g_X14_216 dX14_take_21 rfl (hz.o14 rfl) (hz.i908 rfl) ?_
      refine w_iconst 1 dX14_take_24 rfl rfl ?_
      refine w_isub dX14_take_25 rfl ?_
      refine p_X14_216 dX14_take_26 rfl (hz.o14 rfl) ?_
      obtain ⟨ρ3, e4, hr⟩ := lt_e hr
      have hz := (hz.s908 (v := ((zI ρ 908 0 0 0) - 1)) rfl).tr e4
      refine w_aload_n 0 dX14_take_29 rfl rfl rfl ?_
      refine w_dup dX14_take_30 rfl rfl ?_
      refine g_X14_204 dX14_take_31 rfl (hz.o14 rfl) (hz.i905 rfl) ?_
      refine w_iconst 1 dX14_take_34 rfl rfl ?_
      refine w_iadd dX14_take_35 rfl ?_
      refine p_X14_204 dX14_take_36 rfl (hz.o14 rfl) ?_
      obtain ⟨ρ5, e6, hr⟩ := lt_e hr
      have hz := (hz.s905 (v := ((zI ρ3 905 0 0 0) + 1)) rfl).tr e6
      exact noek hr
  · have hr := bt q4 hr
    refine w_aload_n 0 dX14_take_7 rfl rfl rfl ?_
    obtain ⟨w7, ρ8, e9, hr⟩ := bq_some hr
    refine c_X14_219 (As := []) (rest := []) (fun l => s_X14_wrong hz e9 l) hrm dX14_take_8 rfl rfl (Nat.le_of_ble_eq_true rfl) (Nat.le_of_ble_eq_true rfl) (Nat.le_of_ble_eq_true rfl) (hz.o14 rfl) rfl (Nat.le_of_ble_eq_true rfl) (fun vr h2 hq => ?_) (fun E9 h9 hq => hq.elim)
    obtain ⟨q, rfl, hq⟩ := hq
    obtain ⟨rfl, rfl⟩ := rete hr
    show wp _ _ 11 [(0, .ref (A 14 0 0))] [.ref q] _ _ _
    refine w_athrow dX14_take_11 (q := q) hq.1 ?_
    exact w_out hf (Nat.le_of_ble_eq_true rfl) (Nat.le_of_ble_eq_true rfl) hq.gh

set_option maxRecDepth 20000 in
set_option maxHeartbeats 4000000 in
theorem t_X14_take_ {A : Nat → Nat → Nat → Nat} {h : Hp} {σ ρ ρ' : Zs} {v : Unit} {x1 : Int32}  (hz : Rp A h σ ρ) (hr : fX14_take_ x1 ρ = some (.ok v, ρ')) : ∀ l : Launch, Sp l mX14_take_ 15 0 0 [.ref (A 14 0 0), .int x1] h (QV A v σ ρ') X0 := by
  intro l
  refine Sp.of rfl rfl (lv := [(0, .ref (A 14 0 0)), (1, .int x1)]) (Nat.le_of_ble_eq_true rfl) rfl (fun x hf hrm => ?_)
  rw [fX14_take_.eq_1] at hr
  refine w_aload_n 0 dX14_take__0 rfl rfl rfl ?_
  refine w_iload_n 1 dX14_take__1 rfl rfl rfl ?_
  obtain ⟨v1, ρ2, e3, hr⟩ := bq_some hr
  refine c_X14_223 (As := [.int x1]) (rest := []) (fun l => s_X14_is  hz e3 l) hrm dX14_take__2 rfl rfl (Nat.le_of_ble_eq_true rfl) (Nat.le_of_ble_eq_true rfl) (Nat.le_of_ble_eq_true rfl) (hz.o14 rfl) rfl (Nat.le_of_ble_eq_true rfl) (fun vr h2 hq => ?_) (fun E9 h9 hq => hq.elim)
  obtain ⟨rfl, hz⟩ := hq
  show wp _ _ 5 [(0, .ref (A 14 0 0)), (1, .int x1)] [.int v1] _ _ _
  refine w_if_ne 13 dX14_take__5 rfl rfl (fun q5 => ?_) (fun q5 => ?_)
  · have hr := bf q5 hr
    refine w_aload_n 0 dX14_take__13 rfl rfl rfl ?_
    obtain ⟨v5, ρ6, e7, hr⟩ := bw_some hr
    rcases v5 with w9e | w9
    · exact noko (bw_er hr)
    have hr := bw_ok hr
    refine c_X14_226 (As := []) (rest := []) (fun l => t_X14_take  hz e7 l) hrm dX14_take__14 rfl rfl (Nat.le_of_ble_eq_true rfl) (Nat.le_of_ble_eq_true rfl) (Nat.le_of_ble_eq_true rfl) (hz.o14 rfl) rfl (Nat.le_of_ble_eq_true rfl) (fun vr h2 hq => ?_) (fun E9 h9 hq => hq.elim)
    obtain ⟨rfl, hz⟩ := hq
    show wp _ _ 17 [(0, .ref (A 14 0 0)), (1, .int x1)] [] _ _ _
    refine w_vret hf dX14_take__17 rfl (Nat.le_of_ble_eq_true rfl) (Nat.le_of_ble_eq_true rfl) ?_
    obtain ⟨rfl, rfl⟩ := retw hr
    exact ⟨rfl, hz⟩
  · have hr := bt q5 hr
    refine w_aload_n 0 dX14_take__8 rfl rfl rfl ?_
    obtain ⟨w10, ρ11, e12, hr⟩ := bq_some hr
    exact noko hr

set_option maxRecDepth 20000 in
set_option maxHeartbeats 4000000 in
theorem e_X14_take_ {A : Nat → Nat → Nat → Nat} {h : Hp} {σ ρ ρ' : Zs} {v : Int32 × Int32} {x1 : Int32}  (hz : Rp A h σ ρ) (hr : fX14_take_ x1 ρ = some (.error v, ρ')) : ∀ l : Launch, Sp l mX14_take_ 15 1 8 [.ref (A 14 0 0), .int x1] h QF (XW A v σ ρ') := by
  intro l
  refine Sp.of rfl rfl (lv := [(0, .ref (A 14 0 0)), (1, .int x1)]) (Nat.le_of_ble_eq_true rfl) rfl (fun x hf hrm => ?_)
  rw [fX14_take_.eq_1] at hr
  refine w_aload_n 0 dX14_take__0 rfl rfl rfl ?_
  refine w_iload_n 1 dX14_take__1 rfl rfl rfl ?_
  obtain ⟨v1, ρ2, e3, hr⟩ := bq_some hr
  refine c_X14_223 (As := [.int x1]) (rest := []) (fun l => s_X14_is  hz e3 l) hrm dX14_take__2 rfl rfl (Nat.le_of_ble_eq_true rfl) (Nat.le_of_ble_eq_true rfl) (Nat.le_of_ble_eq_true rfl) (hz.o14 rfl) rfl (Nat.le_of_ble_eq_true rfl) (fun vr h2 hq => ?_) (fun E9 h9 hq => hq.elim)
  obtain ⟨rfl, hz⟩ := hq
  show wp _ _ 5 [(0, .ref (A 14 0 0)), (1, .int x1)] [.int v1] _ _ _
  refine w_if_ne 13 dX14_take__5 rfl rfl (fun q5 => ?_) (fun q5 => ?_)
  · have hr := bf q5 hr
    refine w_aload_n 0 dX14_take__13 rfl rfl rfl ?_
    obtain ⟨v5, ρ6, e7, hr⟩ := bw_some hr
    rcases v5 with w9e | w9
    · obtain ⟨rfl, rfl⟩ := rete (bw_er hr)
      refine c_X14_226 (As := []) (rest := []) (fun l => e_X14_take  hz e7 l) hrm dX14_take__14 rfl rfl (Nat.le_of_ble_eq_true rfl) (Nat.le_of_ble_eq_true rfl) (Nat.le_of_ble_eq_true rfl) (hz.o14 rfl) rfl (Nat.le_of_ble_eq_true rfl) (fun vr h2 hq => hq.elim) (fun E9 h9 hq => ?_)
      exact w_out hf (Nat.le_of_ble_eq_true rfl) (Nat.le_of_ble_eq_true rfl) hq
    have hr := bw_ok hr
    refine c_X14_226 (As := []) (rest := []) (fun l => t_X14_take  hz e7 l) hrm dX14_take__14 rfl rfl (Nat.le_of_ble_eq_true rfl) (Nat.le_of_ble_eq_true rfl) (Nat.le_of_ble_eq_true rfl) (hz.o14 rfl) rfl (Nat.le_of_ble_eq_true rfl) (fun vr h2 hq => ?_) (fun E9 h9 hq => hq.elim)
    obtain ⟨rfl, hz⟩ := hq
    show wp _ _ 17 [(0, .ref (A 14 0 0)), (1, .int x1)] [] _ _ _
    exact noek hr
  · have hr := bt q5 hr
    refine w_aload_n 0 dX14_take__8 rfl rfl rfl ?_
    obtain ⟨w10, ρ11, e12, hr⟩ := bq_some hr
    refine c_X14_219 (As := []) (rest := []) (fun l => s_X14_wrong hz e12 l) hrm dX14_take__9 rfl rfl (Nat.le_of_ble_eq_true rfl) (Nat.le_of_ble_eq_true rfl) (Nat.le_of_ble_eq_true rfl) (hz.o14 rfl) rfl (Nat.le_of_ble_eq_true rfl) (fun vr h2 hq => ?_) (fun E9 h9 hq => hq.elim)
    obtain ⟨q, rfl, hq⟩ := hq
    obtain ⟨rfl, rfl⟩ := rete hr
    show wp _ _ 12 [(0, .ref (A 14 0 0)), (1, .int x1)] [.ref q] _ _ _
    refine w_athrow dX14_take__12 (q := q) hq.1 ?_
    exact w_out hf (Nat.le_of_ble_eq_true rfl) (Nat.le_of_ble_eq_true rfl) hq.gh

set_option maxRecDepth 20000 in
set_option maxHeartbeats 4000000 in
theorem t_X14_deeper {A : Nat → Nat → Nat → Nat} {h : Hp} {σ ρ ρ' : Zs} {v : Unit}   (hz : Rp A h σ ρ) (hr : fX14_deeper  ρ = some (.ok v, ρ')) : ∀ l : Launch, Sp l mX14_deeper 14 0 0 [.ref (A 14 0 0)] h (QV A v σ ρ') X0 := by
  intro l
  refine Sp.of rfl rfl (lv := [(0, .ref (A 14 0 0))]) (Nat.le_of_ble_eq_true rfl) rfl (fun x hf hrm => ?_)
  rw [fX14_deeper.eq_1] at hr
  refine w_aload_n 0 dX14_deeper_0 rfl rfl rfl ?_
  refine g_X14_229 dX14_deeper_1 rfl (hz.o14 rfl) (hz.i907 rfl) ?_
  refine w_bipush 8 dX14_deeper_4 rfl rfl ?_
  refine w_icmp_ne 14 dX14_deeper_6 rfl rfl (fun q6 => ?_) (fun q6 => ?_)
  · have hr := bf q6 hr
    refine w_aload_n 0 dX14_deeper_14 rfl rfl rfl ?_
    refine w_dup dX14_deeper_15 rfl rfl ?_
    refine g_X14_229 dX14_deeper_16 rfl (hz.o14 rfl) (hz.i907 rfl) ?_
    refine w_iconst 1 dX14_deeper_19 rfl rfl ?_
    refine w_iadd dX14_deeper_20 rfl ?_
    refine p_X14_229 dX14_deeper_21 rfl (hz.o14 rfl) ?_
    obtain ⟨ρ1, e2, hr⟩ := lt_e hr
    have hz := (hz.s907 (v := ((zI ρ 907 0 0 0) + 1)) rfl).tr e2
    refine w_vret hf dX14_deeper_24 rfl (Nat.le_of_ble_eq_true rfl) (Nat.le_of_ble_eq_true rfl) ?_
    obtain ⟨rfl, rfl⟩ := retw hr
    exact ⟨rfl, hz⟩
  · have hr := bt q6 hr
    refine w_aload_n 0 dX14_deeper_9 rfl rfl rfl ?_
    obtain ⟨w3, ρ4, e5, hr⟩ := bq_some hr
    exact noko hr

set_option maxRecDepth 20000 in
set_option maxHeartbeats 4000000 in
theorem e_X14_deeper {A : Nat → Nat → Nat → Nat} {h : Hp} {σ ρ ρ' : Zs} {v : Int32 × Int32}   (hz : Rp A h σ ρ) (hr : fX14_deeper  ρ = some (.error v, ρ')) : ∀ l : Launch, Sp l mX14_deeper 14 1 8 [.ref (A 14 0 0)] h QF (XW A v σ ρ') := by
  intro l
  refine Sp.of rfl rfl (lv := [(0, .ref (A 14 0 0))]) (Nat.le_of_ble_eq_true rfl) rfl (fun x hf hrm => ?_)
  rw [fX14_deeper.eq_1] at hr
  refine w_aload_n 0 dX14_deeper_0 rfl rfl rfl ?_
  refine g_X14_229 dX14_deeper_1 rfl (hz.o14 rfl) (hz.i907 rfl) ?_
  refine w_bipush 8 dX14_deeper_4 rfl rfl ?_
  refine w_icmp_ne 14 dX14_deeper_6 rfl rfl (fun q6 => ?_) (fun q6 => ?_)
  · have hr := bf q6 hr
    refine w_aload_n 0 dX14_deeper_14 rfl rfl rfl ?_
    refine w_dup dX14_deeper_15 rfl rfl ?_
    refine g_X14_229 dX14_deeper_16 rfl (hz.o14 rfl) (hz.i907 rfl) ?_
    refine w_iconst 1 dX14_deeper_19 rfl rfl ?_
    refine w_iadd dX14_deeper_20 rfl ?_
    refine p_X14_229 dX14_deeper_21 rfl (hz.o14 rfl) ?_
    obtain ⟨ρ1, e2, hr⟩ := lt_e hr
    have hz := (hz.s907 (v := ((zI ρ 907 0 0 0) + 1)) rfl).tr e2
    exact noek hr
  · have hr := bt q6 hr
    refine w_aload_n 0 dX14_deeper_9 rfl rfl rfl ?_
    obtain ⟨w3, ρ4, e5, hr⟩ := bq_some hr
    refine c_X14_219 (As := []) (rest := []) (fun l => s_X14_wrong hz e5 l) hrm dX14_deeper_10 rfl rfl (Nat.le_of_ble_eq_true rfl) (Nat.le_of_ble_eq_true rfl) (Nat.le_of_ble_eq_true rfl) (hz.o14 rfl) rfl (Nat.le_of_ble_eq_true rfl) (fun vr h2 hq => ?_) (fun E9 h9 hq => hq.elim)
    obtain ⟨q, rfl, hq⟩ := hq
    obtain ⟨rfl, rfl⟩ := rete hr
    show wp _ _ 13 [(0, .ref (A 14 0 0))] [.ref q] _ _ _
    refine w_athrow dX14_deeper_13 (q := q) hq.1 ?_
    exact w_out hf (Nat.le_of_ble_eq_true rfl) (Nat.le_of_ble_eq_true rfl) hq.gh

set_option maxRecDepth 20000 in
set_option maxHeartbeats 4000000 in
theorem u_X14_function_143 {A : Nat → Nat → Nat → Nat} {σ ρ' : Zs} {v : Unit} {x : Cxt} {kE : Zs → Option (Except (Int32 × Int32) (Unit) × Zs)} {dk : Nat}  (hf : m_fin 0 0 (QV A v σ ρ') X0 x) (hrm : m_rm (dk + 1) 0 0 x) (hkE : ∀ {h : Hp} {σ ρ ρ' : Zs} {v : Unit} , Rp A h σ ρ → kE  ρ = some (.ok v, ρ') → ∀ l : Launch, Sp l mX14_expression dk 0 0 [.ref (A 14 0 0)] h (QV A v σ ρ') X0) (hdk : 20 ≤ dk) : ∀ (y1 : Int32) (y2 : Int32) (z0 : Int32) (ρ : Zs) (h : Hp), Rp A h σ ρ → fX14_function_143 kE  y1 y2 z0 ρ = some (.ok v, ρ') → wp x mX14_function 143 [(0, .ref (A 14 0 0)), (1, .int y1), (2, .int y2)] [.int z0, .ref (A 14 0 0)] h 0 0 := by
  intro y1 y2 z0 ρ h hz hr
  rw [fX14_function_143.eq_1] at hr
  refine w_iconst 3 dX14_function_143 rfl rfl ?_
  refine w_iload_n 2 dX14_function_144 rfl rfl rfl ?_
  obtain ⟨v29, ρ30, e31, hr⟩ := bw_some hr
  rcases v29 with w33e | w33
  · exact noko (bw_er hr)
  have hr := bw_ok hr
  refine c_X14_277 (As := [.int z0, .int 3, .int y2]) (rest := []) (fun l => t_X14_must  hz e31 l) hrm dX14_function_145 rfl rfl (by omega) (Nat.le_of_ble_eq_true rfl) (Nat.le_of_ble_eq_true rfl) (hz.o14 rfl) rfl (Nat.le_of_ble_eq_true rfl) (fun vr h2 hq => ?_) (fun E9 h9 hq => hq.elim)
  obtain ⟨rfl, hz⟩ := hq
  show wp _ _ 148 [(0, .ref (A 14 0 0)), (1, .int y1), (2, .int y2)] [] _ _ _
  refine w_aload_n 0 dX14_function_148 rfl rfl rfl ?_
  refine w_iload_n 1 dX14_function_149 rfl rfl rfl ?_
  refine w_bipush 31 dX14_function_150 rfl rfl ?_
  refine w_icmp_ne 160 dX14_function_152 rfl rfl (fun q152 => ?_) (fun q152 => ?_)
  · have hr := bf q152 hr
    refine w_iload_n 1 dX14_function_160 rfl rfl rfl ?_
    refine w_bipush 24 dX14_function_161 rfl rfl ?_
    refine w_icmp_ne 171 dX14_function_163 rfl rfl (fun q163 => ?_) (fun q163 => ?_)
    · have hr := bf q163 hr
      refine w_bipush 33 dX14_function_171 rfl rfl ?_
      refine w_lconst 0 dX14_function_173 rfl rfl ?_
      obtain ⟨v34, ρ35, e36, hr⟩ := bq_some hr
      refine c_X14_247 (As := [.int 33, .long 0]) (rest := []) (fun l => s_X14_emit  hz e36 l) hrm dX14_function_174 rfl rfl (by omega) (Nat.le_of_ble_eq_true rfl) (Nat.le_of_ble_eq_true rfl) (hz.o14 rfl) rfl (Nat.le_of_ble_eq_true rfl) (fun vr h2 hq => ?_) (fun E9 h9 hq => hq.elim)
      obtain ⟨rfl, hz⟩ := hq
      show wp _ _ 177 [(0, .ref (A 14 0 0)), (1, .int y1), (2, .int y2)] [] _ _ _
      refine w_vret hf dX14_function_177 rfl (Nat.le_of_ble_eq_true rfl) (Nat.le_of_ble_eq_true rfl) ?_
      obtain ⟨rfl, rfl⟩ := retw hr
      exact ⟨rfl, hz⟩
    · have hr := bt q163 hr
      refine w_bipush 32 dX14_function_166 rfl rfl ?_
      refine w_goto 173 dX14_function_168 rfl ?_
      refine w_lconst 0 dX14_function_173 rfl rfl ?_
      obtain ⟨v38, ρ39, e40, hr⟩ := bq_some hr
      refine c_X14_247 (As := [.int 32, .long 0]) (rest := []) (fun l => s_X14_emit  hz e40 l) hrm dX14_function_174 rfl rfl (by omega) (Nat.le_of_ble_eq_true rfl) (Nat.le_of_ble_eq_true rfl) (hz.o14 rfl) rfl (Nat.le_of_ble_eq_true rfl) (fun vr h2 hq => ?_) (fun E9 h9 hq => hq.elim)
      obtain ⟨rfl, hz⟩ := hq
      show wp _ _ 177 [(0, .ref (A 14 0 0)), (1, .int y1), (2, .int y2)] [] _ _ _
      refine w_vret hf dX14_function_177 rfl (Nat.le_of_ble_eq_true rfl) (Nat.le_of_ble_eq_true rfl) ?_
      obtain ⟨rfl, rfl⟩ := retw hr
      exact ⟨rfl, hz⟩
  · have hr := bt q152 hr
    refine w_bipush 42 dX14_function_155 rfl rfl ?_
    refine w_goto 173 dX14_function_157 rfl ?_
    refine w_lconst 0 dX14_function_173 rfl rfl ?_
    obtain ⟨v42, ρ43, e44, hr⟩ := bq_some hr
    refine c_X14_247 (As := [.int 42, .long 0]) (rest := []) (fun l => s_X14_emit  hz e44 l) hrm dX14_function_174 rfl rfl (by omega) (Nat.le_of_ble_eq_true rfl) (Nat.le_of_ble_eq_true rfl) (hz.o14 rfl) rfl (Nat.le_of_ble_eq_true rfl) (fun vr h2 hq => ?_) (fun E9 h9 hq => hq.elim)
    obtain ⟨rfl, hz⟩ := hq
    show wp _ _ 177 [(0, .ref (A 14 0 0)), (1, .int y1), (2, .int y2)] [] _ _ _
    refine w_vret hf dX14_function_177 rfl (Nat.le_of_ble_eq_true rfl) (Nat.le_of_ble_eq_true rfl) ?_
    obtain ⟨rfl, rfl⟩ := retw hr
    exact ⟨rfl, hz⟩
set_option maxRecDepth 20000 in
set_option maxHeartbeats 4000000 in
theorem u_X14_function_74 {A : Nat → Nat → Nat → Nat} {σ ρ' : Zs} {v : Unit} {x : Cxt} {kE : Zs → Option (Except (Int32 × Int32) (Unit) × Zs)} {dk : Nat}  (hf : m_fin 0 0 (QV A v σ ρ') X0 x) (hrm : m_rm (dk + 1) 0 0 x) (hkE : ∀ {h : Hp} {σ ρ ρ' : Zs} {v : Unit} , Rp A h σ ρ → kE  ρ = some (.ok v, ρ') → ∀ l : Launch, Sp l mX14_expression dk 0 0 [.ref (A 14 0 0)] h (QV A v σ ρ') X0) (hdk : 20 ≤ dk) : ∀ (n : Nat) (y1 : Int32) (y2 : Int32) (y3 : Int32) (y4 : Int32) (ρ : Zs) (h : Hp), Rp A h σ ρ → fX14_function_74 kE  n y1 y2 y3 y4 ρ = some (.ok v, ρ') → wp x mX14_function 74 [(0, .ref (A 14 0 0)), (1, .int y1), (2, .int y2), (3, .int y3), (4, .int y4)] [] h 0 0
  | 0, _, _, _, _, ρ, h => fun hz hr => by
    rw [fX14_function_74.eq_1] at hr
    exact nono hr
  | n + 1, y1, y2, y3, y4, ρ, h => fun hz hr => by
    rw [fX14_function_74.eq_2] at hr
    refine w_iload 4 dX14_function_74 rfl rfl ?_
    refine w_if_eq 106 dX14_function_76 rfl rfl (fun q76 => ?_) (fun q76 => ?_)
    · have hr := bt q76 hr
      refine w_aload_n 0 dX14_function_106 rfl rfl rfl ?_
      refine w_bipush 101 dX14_function_107 rfl rfl ?_
      obtain ⟨v22, ρ23, e24, hr⟩ := bw_some hr
      rcases v22 with w26e | w26
      · exact noko (bw_er hr)
      have hr := bw_ok hr
      refine c_X14_284 (As := [.int 101]) (rest := []) (fun l => t_X14_take_  hz e24 l) hrm dX14_function_109 rfl rfl (by omega) (Nat.le_of_ble_eq_true rfl) (Nat.le_of_ble_eq_true rfl) (hz.o14 rfl) rfl (Nat.le_of_ble_eq_true rfl) (fun vr h2 hq => ?_) (fun E9 h9 hq => hq.elim)
      obtain ⟨rfl, hz⟩ := hq
      show wp _ _ 112 [(0, .ref (A 14 0 0)), (1, .int y1), (2, .int y2), (3, .int y3), (4, .int y4)] [] _ _ _
      refine w_aload_n 0 dX14_function_112 rfl rfl rfl ?_
      refine w_dup dX14_function_113 rfl rfl ?_
      refine g_X14_229 dX14_function_114 rfl (hz.o14 rfl) (hz.i907 rfl) ?_
      refine w_iconst 1 dX14_function_117 rfl rfl ?_
      refine w_isub dX14_function_118 rfl ?_
      refine p_X14_229 dX14_function_119 rfl (hz.o14 rfl) ?_
      obtain ⟨ρ27, e28, hr⟩ := lt_e hr
      have hz := (hz.s907 (v := ((zI ρ23 907 0 0 0) - 1)) rfl).tr e28
      refine w_aload_n 0 dX14_function_122 rfl rfl rfl ?_
      refine w_iload_n 3 dX14_function_123 rfl rfl rfl ?_
      refine w_iload_n 1 dX14_function_124 rfl rfl rfl ?_
      refine w_bipush 31 dX14_function_125 rfl rfl ?_
      refine w_icmp_ne 134 dX14_function_127 rfl rfl (fun q127 => ?_) (fun q127 => ?_)
      · have hr := bf q127 hr
        refine w_iconst 2 dX14_function_134 rfl rfl ?_
        refine w_icmp_ne 142 dX14_function_135 rfl rfl (fun q135 => ?_) (fun q135 => ?_)
        · have hr := bf q135 hr
          refine w_iconst 0 dX14_function_142 rfl rfl ?_
          refine w_lv [(0, .ref (A 14 0 0)), (1, .int y1), (2, .int y2)] [0, 1, 2] rfl ?_
          exact u_X14_function_143 hf hrm hkE hdk  y1 y2 0 _ _ hz  hr
        · have hr := bt q135 hr
          refine w_iconst 1 dX14_function_138 rfl rfl ?_
          refine w_goto 143 dX14_function_139 rfl ?_
          refine w_lv [(0, .ref (A 14 0 0)), (1, .int y1), (2, .int y2)] [0, 1, 2] rfl ?_
          exact u_X14_function_143 hf hrm hkE hdk  y1 y2 1 _ _ hz  hr
      · have hr := bt q127 hr
        refine w_iconst 1 dX14_function_130 rfl rfl ?_
        refine w_goto 135 dX14_function_131 rfl ?_
        refine w_icmp_ne 142 dX14_function_135 rfl rfl (fun q135 => ?_) (fun q135 => ?_)
        · have hr := bf q135 hr
          refine w_iconst 0 dX14_function_142 rfl rfl ?_
          refine w_lv [(0, .ref (A 14 0 0)), (1, .int y1), (2, .int y2)] [0, 1, 2] rfl ?_
          exact u_X14_function_143 hf hrm hkE hdk  y1 y2 0 _ _ hz  hr
        · have hr := bt q135 hr
          refine w_iconst 1 dX14_function_138 rfl rfl ?_
          refine w_goto 143 dX14_function_139 rfl ?_
          refine w_lv [(0, .ref (A 14 0 0)), (1, .int y1), (2, .int y2)] [0, 1, 2] rfl ?_
          exact u_X14_function_143 hf hrm hkE hdk  y1 y2 1 _ _ hz  hr
    · have hr := bf q76 hr
      refine w_aload_n 0 dX14_function_79 rfl rfl rfl ?_
      obtain ⟨v46, ρ47, e48, hr⟩ := bw_some hr
      rcases v46 with w50e | w50
      · exact noko (bw_er hr)
      have hr := bw_ok hr
      refine c_X14_244 (As := []) (rest := []) (fun l => hkE  hz e48 l) hrm dX14_function_80 rfl rfl (by omega) (Nat.le_of_ble_eq_true rfl) (Nat.le_of_ble_eq_true rfl) (hz.o14 rfl) rfl (Nat.le_of_ble_eq_true rfl) (fun vr h2 hq => ?_) (fun E9 h9 hq => hq.elim)
      obtain ⟨rfl, hz⟩ := hq
      show wp _ _ 83 [(0, .ref (A 14 0 0)), (1, .int y1), (2, .int y2), (3, .int y3), (4, .int y4)] [] _ _ _
      refine w_iinc 3 (y3 + 1) [(3, .int (y3 + 1)), (0, .ref (A 14 0 0)), (1, .int y1), (2, .int y2), (4, .int y4)] dX14_function_83 rfl rfl rfl (by decide) rfl ?_
      refine w_aload_n 1 dX14_function_86 rfl rfl rfl ?_
      refine w_bipush 102 dX14_function_87 rfl rfl ?_
      obtain ⟨v51, ρ52, e53, hr⟩ := bq_some hr
      refine c_X14_223 (As := [.int 102]) (rest := []) (fun l => s_X14_is  hz e53 l) hrm dX14_function_89 rfl rfl (by omega) (Nat.le_of_ble_eq_true rfl) (Nat.le_of_ble_eq_true rfl) (hz.o14 rfl) rfl (Nat.le_of_ble_eq_true rfl) (fun vr h2 hq => ?_) (fun E9 h9 hq => hq.elim)
      obtain ⟨rfl, hz⟩ := hq
      show wp _ _ 92 [(3, .int (y3 + 1)), (0, .ref (A 14 0 0)), (1, .int y1), (2, .int y2), (4, .int y4)] [.int v51] _ _ _
      refine w_istore [(4, .int v51), (3, .int (y3 + 1)), (0, .ref (A 14 0 0)), (1, .int y1), (2, .int y2)] dX14_function_92 rfl (by decide) rfl ?_
      refine w_iload 0 dX14_function_94 rfl rfl ?_
      refine w_if_eq 74 dX14_function_96 rfl rfl (fun q96 => ?_) (fun q96 => ?_)
      · have hr := bt q96 hr
        refine w_lv [(0, .ref (A 14 0 0)), (1, .int y1), (2, .int y2), (3, .int (y3 + 1)), (4, .int v51)] [2, 3, 4, 1, 0] rfl ?_
        exact u_X14_function_74 hf hrm hkE hdk  n y1 y2 (y3 + 1) v51 _ _ hz  hr
      · have hr := bf q96 hr
        refine w_aload_n 2 dX14_function_99 rfl rfl rfl ?_
        obtain ⟨v55, ρ56, e57, hr⟩ := bw_some hr
        rcases v55 with w59e | w59
        · exact noko (bw_er hr)
        have hr := bw_ok hr
        refine c_X14_226 (As := []) (rest := []) (fun l => t_X14_take  hz e57 l) hrm dX14_function_100 rfl rfl (by omega) (Nat.le_of_ble_eq_true rfl) (Nat.le_of_ble_eq_true rfl) (hz.o14 rfl) rfl (Nat.le_of_ble_eq_true rfl) (fun vr h2 hq => ?_) (fun E9 h9 hq => hq.elim)
        obtain ⟨rfl, hz⟩ := hq
        show wp _ _ 103 [(4, .int v51), (3, .int (y3 + 1)), (0, .ref (A 14 0 0)), (1, .int y1), (2, .int y2)] [] _ _ _
        refine w_goto 74 dX14_function_103 rfl ?_
        refine w_lv [(0, .ref (A 14 0 0)), (1, .int y1), (2, .int y2), (3, .int (y3 + 1)), (4, .int v51)] [2, 3, 4, 1, 0] rfl ?_
        exact u_X14_function_74 hf hrm hkE hdk  n y1 y2 (y3 + 1) v51 _ _ hz  hr
set_option maxRecDepth 20000 in
set_option maxHeartbeats 4000000 in
theorem u_X14_function_43 {A : Nat → Nat → Nat → Nat} {σ ρ' : Zs} {v : Unit} {x : Cxt} {kE : Zs → Option (Except (Int32 × Int32) (Unit) × Zs)} {dk : Nat}  (hf : m_fin 0 0 (QV A v σ ρ') X0 x) (hrm : m_rm (dk + 1) 0 0 x) (hkE : ∀ {h : Hp} {σ ρ ρ' : Zs} {v : Unit} , Rp A h σ ρ → kE  ρ = some (.ok v, ρ') → ∀ l : Launch, Sp l mX14_expression dk 0 0 [.ref (A 14 0 0)] h (QV A v σ ρ') X0) (hdk : 20 ≤ dk) : ∀ (y1 : Int32) (y2 : Int32) (ρ : Zs) (h : Hp), Rp A h σ ρ → fX14_function_43 kE  y1 y2 ρ = some (.ok v, ρ') → wp x mX14_function 43 [(0, .ref (A 14 0 0)), (1, .int y1), (2, .int y2)] [] h 0 0 := by
  intro y1 y2 ρ h hz hr
  rw [fX14_function_43.eq_1] at hr
  refine w_aload_n 0 dX14_function_43 rfl rfl rfl ?_
  obtain ⟨v3, ρ4, e5, hr⟩ := bw_some hr
  rcases v3 with w7e | w7
  · exact noko (bw_er hr)
  have hr := bw_ok hr
  refine c_X14_226 (As := []) (rest := []) (fun l => t_X14_take  hz e5 l) hrm dX14_function_44 rfl rfl (by omega) (Nat.le_of_ble_eq_true rfl) (Nat.le_of_ble_eq_true rfl) (hz.o14 rfl) rfl (Nat.le_of_ble_eq_true rfl) (fun vr h2 hq => ?_) (fun E9 h9 hq => hq.elim)
  obtain ⟨rfl, hz⟩ := hq
  show wp _ _ 47 [(0, .ref (A 14 0 0)), (1, .int y1), (2, .int y2)] [] _ _ _
  refine w_aload_n 0 dX14_function_47 rfl rfl rfl ?_
  refine w_bipush 100 dX14_function_48 rfl rfl ?_
  obtain ⟨v8, ρ9, e10, hr⟩ := bq_some hr
  refine c_X14_223 (As := [.int 100]) (rest := []) (fun l => s_X14_is  hz e10 l) hrm dX14_function_50 rfl rfl (by omega) (Nat.le_of_ble_eq_true rfl) (Nat.le_of_ble_eq_true rfl) (hz.o14 rfl) rfl (Nat.le_of_ble_eq_true rfl) (fun vr h2 hq => ?_) (fun E9 h9 hq => hq.elim)
  obtain ⟨rfl, hz⟩ := hq
  show wp _ _ 53 [(0, .ref (A 14 0 0)), (1, .int y1), (2, .int y2)] [.int v8] _ _ _
  refine w_if_ne 61 dX14_function_53 rfl rfl (fun q53 => ?_) (fun q53 => ?_)
  · have hr := bf q53 hr
    refine w_aload_n 0 dX14_function_61 rfl rfl rfl ?_
    obtain ⟨v12, ρ13, e14, hr⟩ := bw_some hr
    rcases v12 with w16e | w16
    · exact noko (bw_er hr)
    have hr := bw_ok hr
    refine c_X14_281 (As := []) (rest := []) (fun l => t_X14_deeper  hz e14 l) hrm dX14_function_62 rfl rfl (by omega) (Nat.le_of_ble_eq_true rfl) (Nat.le_of_ble_eq_true rfl) (hz.o14 rfl) rfl (Nat.le_of_ble_eq_true rfl) (fun vr h2 hq => ?_) (fun E9 h9 hq => hq.elim)
    obtain ⟨rfl, hz⟩ := hq
    show wp _ _ 65 [(0, .ref (A 14 0 0)), (1, .int y1), (2, .int y2)] [] _ _ _
    refine w_aload_n 0 dX14_function_65 rfl rfl rfl ?_
    obtain ⟨v17, ρ18, e19, hr⟩ := bw_some hr
    rcases v17 with w21e | w21
    · exact noko (bw_er hr)
    have hr := bw_ok hr
    refine c_X14_226 (As := []) (rest := []) (fun l => t_X14_take  hz e19 l) hrm dX14_function_66 rfl rfl (by omega) (Nat.le_of_ble_eq_true rfl) (Nat.le_of_ble_eq_true rfl) (hz.o14 rfl) rfl (Nat.le_of_ble_eq_true rfl) (fun vr h2 hq => ?_) (fun E9 h9 hq => hq.elim)
    obtain ⟨rfl, hz⟩ := hq
    show wp _ _ 69 [(0, .ref (A 14 0 0)), (1, .int y1), (2, .int y2)] [] _ _ _
    refine w_iconst 0 dX14_function_69 rfl rfl ?_
    refine w_istore_n [(3, .int 0), (0, .ref (A 14 0 0)), (1, .int y1), (2, .int y2)] dX14_function_70 rfl rfl (by decide) rfl ?_
    refine w_iconst 1 dX14_function_71 rfl rfl ?_
    refine w_istore [(4, .int 1), (3, .int 0), (0, .ref (A 14 0 0)), (1, .int y1), (2, .int y2)] dX14_function_72 rfl (by decide) rfl ?_
    refine w_lv [(0, .ref (A 14 0 0)), (1, .int y1), (2, .int y2), (3, .int 0), (4, .int 1)] [2, 3, 4, 1, 0] rfl ?_
    exact u_X14_function_74 hf hrm hkE hdk  FU y1 y2 0 1 _ _ hz  hr
  · have hr := bt q53 hr
    refine w_aload_n 0 dX14_function_56 rfl rfl rfl ?_
    obtain ⟨w60, ρ61, e62, hr⟩ := bq_some hr
    exact noko hr
set_option maxRecDepth 20000 in
set_option maxHeartbeats 4000000 in
theorem t_X14_function {A : Nat → Nat → Nat → Nat} {h : Hp} {σ ρ ρ' : Zs} {v : Unit} {kE : Zs → Option (Except (Int32 × Int32) (Unit) × Zs)} {dk : Nat} (hkE : ∀ {h : Hp} {σ ρ ρ' : Zs} {v : Unit} , Rp A h σ ρ → kE  ρ = some (.ok v, ρ') → ∀ l : Launch, Sp l mX14_expression dk 0 0 [.ref (A 14 0 0)] h (QV A v σ ρ') X0) (hdk : 20 ≤ dk) (hz : Rp A h σ ρ) (hr : fX14_function kE ρ = some (.ok v, ρ')) : ∀ l : Launch, Sp l mX14_function (dk + 1) 0 0 [.ref (A 14 0 0)] h (QV A v σ ρ') X0 := by
  intro l
  refine Sp.of rfl rfl (lv := [(0, .ref (A 14 0 0))]) (Nat.le_of_ble_eq_true rfl) rfl (fun x hf hrm => ?_)
  rw [fX14_function.eq_1] at hr
  refine w_aload_n 0 dX14_function_0 rfl rfl rfl ?_
  refine g_X14_24 dX14_function_1 rfl (hz.o14 rfl) (hz.r902 rfl) ?_
  refine w_aload_n 0 dX14_function_4 rfl rfl rfl ?_
  refine g_X14_204 dX14_function_5 rfl (hz.o14 rfl) (hz.i905 rfl) ?_
  obtain ⟨g1, hr⟩ := gd hr
  refine w_iald dX14_function_8 rfl (hz.k902 rfl) (gin (hz.n902 rfl) g1) (hz.x902 rfl) ?_
  refine w_istore_n [(1, .int (zI ρ 1926 0 0 (Int32.toNatClampNeg (zI ρ 905 0 0 0)))), (0, .ref (A 14 0 0))] dX14_function_9 rfl rfl (by decide) rfl ?_
  refine w_aload_n 1 dX14_function_10 rfl rfl rfl ?_
  refine g_X14_27 dX14_function_11 rfl (hz.o14 rfl) (hz.r903 rfl) ?_
  refine w_aload_n 1 dX14_function_14 rfl rfl rfl ?_
  refine g_X14_204 dX14_function_15 rfl (hz.o14 rfl) (hz.i905 rfl) ?_
  obtain ⟨g2, hr⟩ := gd hr
  refine w_iald dX14_function_18 rfl (hz.k903 rfl) (gin (hz.n903 rfl) g2) (hz.x903 rfl) ?_
  refine w_istore_n [(2, .int (zI ρ 1927 0 0 (Int32.toNatClampNeg (zI ρ 905 0 0 0)))), (1, .int (zI ρ 1926 0 0 (Int32.toNatClampNeg (zI ρ 905 0 0 0)))), (0, .ref (A 14 0 0))] dX14_function_19 rfl rfl (by decide) rfl ?_
  refine w_iload_n 1 dX14_function_20 rfl rfl rfl ?_
  refine w_bipush 31 dX14_function_21 rfl rfl ?_
  refine w_icmp_eq 43 dX14_function_23 rfl rfl (fun q23 => ?_) (fun q23 => ?_)
  · have hr := bt q23 hr
    refine w_lv [(0, .ref (A 14 0 0)), (1, .int (zI ρ 1926 0 0 (Int32.toNatClampNeg (zI ρ 905 0 0 0)))), (2, .int (zI ρ 1927 0 0 (Int32.toNatClampNeg (zI ρ 905 0 0 0))))] [2, 1, 0] rfl ?_
    exact u_X14_function_43 hf hrm hkE hdk  (zI ρ 1926 0 0 (Int32.toNatClampNeg (zI ρ 905 0 0 0))) (zI ρ 1927 0 0 (Int32.toNatClampNeg (zI ρ 905 0 0 0))) _ _ hz  hr
  · have hr := bf q23 hr
    refine w_iload_n 1 dX14_function_26 rfl rfl rfl ?_
    refine w_bipush 24 dX14_function_27 rfl rfl ?_
    refine w_icmp_eq 43 dX14_function_29 rfl rfl (fun q29 => ?_) (fun q29 => ?_)
    · have hr := bt q29 hr
      refine w_lv [(0, .ref (A 14 0 0)), (1, .int (zI ρ 1926 0 0 (Int32.toNatClampNeg (zI ρ 905 0 0 0)))), (2, .int (zI ρ 1927 0 0 (Int32.toNatClampNeg (zI ρ 905 0 0 0))))] [2, 1, 0] rfl ?_
      exact u_X14_function_43 hf hrm hkE hdk  (zI ρ 1926 0 0 (Int32.toNatClampNeg (zI ρ 905 0 0 0))) (zI ρ 1927 0 0 (Int32.toNatClampNeg (zI ρ 905 0 0 0))) _ _ hz  hr
    · have hr := bf q29 hr
      refine w_iload_n 1 dX14_function_32 rfl rfl rfl ?_
      refine w_bipush 25 dX14_function_33 rfl rfl ?_
      refine w_icmp_eq 43 dX14_function_35 rfl rfl (fun q35 => ?_) (fun q35 => ?_)
      · have hr := bt q35 hr
        refine w_lv [(0, .ref (A 14 0 0)), (1, .int (zI ρ 1926 0 0 (Int32.toNatClampNeg (zI ρ 905 0 0 0)))), (2, .int (zI ρ 1927 0 0 (Int32.toNatClampNeg (zI ρ 905 0 0 0))))] [2, 1, 0] rfl ?_
        exact u_X14_function_43 hf hrm hkE hdk  (zI ρ 1926 0 0 (Int32.toNatClampNeg (zI ρ 905 0 0 0))) (zI ρ 1927 0 0 (Int32.toNatClampNeg (zI ρ 905 0 0 0))) _ _ hz  hr
      · have hr := bf q35 hr
        refine w_aload_n 2 dX14_function_38 rfl rfl rfl ?_
        obtain ⟨w63, ρ64, e65, hr⟩ := bq_some hr
        exact noko hr

set_option maxRecDepth 20000 in
set_option maxHeartbeats 4000000 in
theorem x_X14_function_143 {A : Nat → Nat → Nat → Nat} {σ ρ' : Zs} {v : Int32 × Int32} {x : Cxt} {kE : Zs → Option (Except (Int32 × Int32) (Unit) × Zs)} {dk : Nat}  (hf : m_fin 1 8 QF (XW A v σ ρ') x) (hrm : m_rm (dk + 1) 1 8 x) (hkE : ∀ {h : Hp} {σ ρ ρ' : Zs} {v : Unit} , Rp A h σ ρ → kE  ρ = some (.ok v, ρ') → ∀ l : Launch, Sp l mX14_expression dk 0 0 [.ref (A 14 0 0)] h (QV A v σ ρ') X0) (gkE : ∀ {h : Hp} {σ ρ ρ' : Zs} {v : Int32 × Int32} , Rp A h σ ρ → kE  ρ = some (.error v, ρ') → ∀ l : Launch, Sp l mX14_expression dk 1 8 [.ref (A 14 0 0)] h QF (XW A v σ ρ')) (hdk : 20 ≤ dk) : ∀ (y1 : Int32) (y2 : Int32) (z0 : Int32) (ρ : Zs) (h : Hp), Rp A h σ ρ → fX14_function_143 kE  y1 y2 z0 ρ = some (.error v, ρ') → wp x mX14_function 143 [(0, .ref (A 14 0 0)), (1, .int y1), (2, .int y2)] [.int z0, .ref (A 14 0 0)] h 0 0 := by
  intro y1 y2 z0 ρ h hz hr
  rw [fX14_function_143.eq_1] at hr
  refine w_iconst 3 dX14_function_143 rfl rfl ?_
  refine w_iload_n 2 dX14_function_144 rfl rfl rfl ?_
  obtain ⟨v29, ρ30, e31, hr⟩ := bw_some hr
  rcases v29 with w33e | w33
  · obtain ⟨rfl, rfl⟩ := rete (bw_er hr)
    refine c_X14_277 (As := [.int z0, .int 3, .int y2]) (rest := []) (fun l => e_X14_must  hz e31 l) hrm dX14_function_145 rfl rfl (by omega) (Nat.le_of_ble_eq_true rfl) (Nat.le_of_ble_eq_true rfl) (hz.o14 rfl) rfl (Nat.le_of_ble_eq_true rfl) (fun vr h2 hq => hq.elim) (fun E9 h9 hq => ?_)
    exact w_out hf (Nat.le_of_ble_eq_true rfl) (Nat.le_of_ble_eq_true rfl) hq
  have hr := bw_ok hr
  refine c_X14_277 (As := [.int z0, .int 3, .int y2]) (rest := []) (fun l => t_X14_must  hz e31 l) hrm dX14_function_145 rfl rfl (by omega) (Nat.le_of_ble_eq_true rfl) (Nat.le_of_ble_eq_true rfl) (hz.o14 rfl) rfl (Nat.le_of_ble_eq_true rfl) (fun vr h2 hq => ?_) (fun E9 h9 hq => hq.elim)
  obtain ⟨rfl, hz⟩ := hq
  show wp _ _ 148 [(0, .ref (A 14 0 0)), (1, .int y1), (2, .int y2)] [] _ _ _
  refine w_aload_n 0 dX14_function_148 rfl rfl rfl ?_
  refine w_iload_n 1 dX14_function_149 rfl rfl rfl ?_
  refine w_bipush 31 dX14_function_150 rfl rfl ?_
  refine w_icmp_ne 160 dX14_function_152 rfl rfl (fun q152 => ?_) (fun q152 => ?_)
  · have hr := bf q152 hr
    refine w_iload_n 1 dX14_function_160 rfl rfl rfl ?_
    refine w_bipush 24 dX14_function_161 rfl rfl ?_
    refine w_icmp_ne 171 dX14_function_163 rfl rfl (fun q163 => ?_) (fun q163 => ?_)
    · have hr := bf q163 hr
      refine w_bipush 33 dX14_function_171 rfl rfl ?_
      refine w_lconst 0 dX14_function_173 rfl rfl ?_
      obtain ⟨v34, ρ35, e36, hr⟩ := bq_some hr
      refine c_X14_247 (As := [.int 33, .long 0]) (rest := []) (fun l => s_X14_emit  hz e36 l) hrm dX14_function_174 rfl rfl (by omega) (Nat.le_of_ble_eq_true rfl) (Nat.le_of_ble_eq_true rfl) (hz.o14 rfl) rfl (Nat.le_of_ble_eq_true rfl) (fun vr h2 hq => ?_) (fun E9 h9 hq => hq.elim)
      obtain ⟨rfl, hz⟩ := hq
      show wp _ _ 177 [(0, .ref (A 14 0 0)), (1, .int y1), (2, .int y2)] [] _ _ _
      exact noek hr
    · have hr := bt q163 hr
      refine w_bipush 32 dX14_function_166 rfl rfl ?_
      refine w_goto 173 dX14_function_168 rfl ?_
      refine w_lconst 0 dX14_function_173 rfl rfl ?_
      obtain ⟨v38, ρ39, e40, hr⟩ := bq_some hr
      refine c_X14_247 (As := [.int 32, .long 0]) (rest := []) (fun l => s_X14_emit  hz e40 l) hrm dX14_function_174 rfl rfl (by omega) (Nat.le_of_ble_eq_true rfl) (Nat.le_of_ble_eq_true rfl) (hz.o14 rfl) rfl (Nat.le_of_ble_eq_true rfl) (fun vr h2 hq => ?_) (fun E9 h9 hq => hq.elim)
      obtain ⟨rfl, hz⟩ := hq
      show wp _ _ 177 [(0, .ref (A 14 0 0)), (1, .int y1), (2, .int y2)] [] _ _ _
      exact noek hr
  · have hr := bt q152 hr
    refine w_bipush 42 dX14_function_155 rfl rfl ?_
    refine w_goto 173 dX14_function_157 rfl ?_
    refine w_lconst 0 dX14_function_173 rfl rfl ?_
    obtain ⟨v42, ρ43, e44, hr⟩ := bq_some hr
    refine c_X14_247 (As := [.int 42, .long 0]) (rest := []) (fun l => s_X14_emit  hz e44 l) hrm dX14_function_174 rfl rfl (by omega) (Nat.le_of_ble_eq_true rfl) (Nat.le_of_ble_eq_true rfl) (hz.o14 rfl) rfl (Nat.le_of_ble_eq_true rfl) (fun vr h2 hq => ?_) (fun E9 h9 hq => hq.elim)
    obtain ⟨rfl, hz⟩ := hq
    show wp _ _ 177 [(0, .ref (A 14 0 0)), (1, .int y1), (2, .int y2)] [] _ _ _
    exact noek hr
set_option maxRecDepth 20000 in
set_option maxHeartbeats 4000000 in
theorem x_X14_function_74 {A : Nat → Nat → Nat → Nat} {σ ρ' : Zs} {v : Int32 × Int32} {x : Cxt} {kE : Zs → Option (Except (Int32 × Int32) (Unit) × Zs)} {dk : Nat}  (hf : m_fin 1 8 QF (XW A v σ ρ') x) (hrm : m_rm (dk + 1) 1 8 x) (hkE : ∀ {h : Hp} {σ ρ ρ' : Zs} {v : Unit} , Rp A h σ ρ → kE  ρ = some (.ok v, ρ') → ∀ l : Launch, Sp l mX14_expression dk 0 0 [.ref (A 14 0 0)] h (QV A v σ ρ') X0) (gkE : ∀ {h : Hp} {σ ρ ρ' : Zs} {v : Int32 × Int32} , Rp A h σ ρ → kE  ρ = some (.error v, ρ') → ∀ l : Launch, Sp l mX14_expression dk 1 8 [.ref (A 14 0 0)] h QF (XW A v σ ρ')) (hdk : 20 ≤ dk) : ∀ (n : Nat) (y1 : Int32) (y2 : Int32) (y3 : Int32) (y4 : Int32) (ρ : Zs) (h : Hp), Rp A h σ ρ → fX14_function_74 kE  n y1 y2 y3 y4 ρ = some (.error v, ρ') → wp x mX14_function 74 [(0, .ref (A 14 0 0)), (1, .int y1), (2, .int y2), (3, .int y3), (4, .int y4)] [] h 0 0
  | 0, _, _, _, _, ρ, h => fun hz hr => by
    rw [fX14_function_74.eq_1] at hr
    exact nono hr
  | n + 1, y1, y2, y3, y4, ρ, h => fun hz hr => by
    rw [fX14_function_74.eq_2] at hr
    refine w_iload 4 dX14_function_74 rfl rfl ?_
    refine w_if_eq 106 dX14_function_76 rfl rfl (fun q76 => ?_) (fun q76 => ?_)
    · have hr := bt q76 hr
      refine w_aload_n 0 dX14_function_106 rfl rfl rfl ?_
      refine w_bipush 101 dX14_function_107 rfl rfl ?_
      obtain ⟨v22, ρ23, e24, hr⟩ := bw_some hr
      rcases v22 with w26e | w26
      · obtain ⟨rfl, rfl⟩ := rete (bw_er hr)
        refine c_X14_284 (As := [.int 101]) (rest := []) (fun l => e_X14_take_  hz e24 l) hrm dX14_function_109 rfl rfl (by omega) (Nat.le_of_ble_eq_true rfl) (Nat.le_of_ble_eq_true rfl) (hz.o14 rfl) rfl (Nat.le_of_ble_eq_true rfl) (fun vr h2 hq => hq.elim) (fun E9 h9 hq => ?_)
        exact w_out hf (Nat.le_of_ble_eq_true rfl) (Nat.le_of_ble_eq_true rfl) hq
      have hr := bw_ok hr
      refine c_X14_284 (As := [.int 101]) (rest := []) (fun l => t_X14_take_  hz e24 l) hrm dX14_function_109 rfl rfl (by omega) (Nat.le_of_ble_eq_true rfl) (Nat.le_of_ble_eq_true rfl) (hz.o14 rfl) rfl (Nat.le_of_ble_eq_true rfl) (fun vr h2 hq => ?_) (fun E9 h9 hq => hq.elim)
      obtain ⟨rfl, hz⟩ := hq
      show wp _ _ 112 [(0, .ref (A 14 0 0)), (1, .int y1), (2, .int y2), (3, .int y3), (4, .int y4)] [] _ _ _
      refine w_aload_n 0 dX14_function_112 rfl rfl rfl ?_
      refine w_dup dX14_function_113 rfl rfl ?_
      refine g_X14_229 dX14_function_114 rfl (hz.o14 rfl) (hz.i907 rfl) ?_
      refine w_iconst 1 dX14_function_117 rfl rfl ?_
      refine w_isub dX14_function_118 rfl ?_
      refine p_X14_229 dX14_function_119 rfl (hz.o14 rfl) ?_
      obtain ⟨ρ27, e28, hr⟩ := lt_e hr
      have hz := (hz.s907 (v := ((zI ρ23 907 0 0 0) - 1)) rfl).tr e28
      refine w_aload_n 0 dX14_function_122 rfl rfl rfl ?_
      refine w_iload_n 3 dX14_function_123 rfl rfl rfl ?_
      refine w_iload_n 1 dX14_function_124 rfl rfl rfl ?_
      refine w_bipush 31 dX14_function_125 rfl rfl ?_
      refine w_icmp_ne 134 dX14_function_127 rfl rfl (fun q127 => ?_) (fun q127 => ?_)
      · have hr := bf q127 hr
        refine w_iconst 2 dX14_function_134 rfl rfl ?_
        refine w_icmp_ne 142 dX14_function_135 rfl rfl (fun q135 => ?_) (fun q135 => ?_)
        · have hr := bf q135 hr
          refine w_iconst 0 dX14_function_142 rfl rfl ?_
          refine w_lv [(0, .ref (A 14 0 0)), (1, .int y1), (2, .int y2)] [0, 1, 2] rfl ?_
          exact x_X14_function_143 hf hrm hkE gkE hdk  y1 y2 0 _ _ hz  hr
        · have hr := bt q135 hr
          refine w_iconst 1 dX14_function_138 rfl rfl ?_
          refine w_goto 143 dX14_function_139 rfl ?_
          refine w_lv [(0, .ref (A 14 0 0)), (1, .int y1), (2, .int y2)] [0, 1, 2] rfl ?_
          exact x_X14_function_143 hf hrm hkE gkE hdk  y1 y2 1 _ _ hz  hr
      · have hr := bt q127 hr
        refine w_iconst 1 dX14_function_130 rfl rfl ?_
        refine w_goto 135 dX14_function_131 rfl ?_
        refine w_icmp_ne 142 dX14_function_135 rfl rfl (fun q135 => ?_) (fun q135 => ?_)
        · have hr := bf q135 hr
          refine w_iconst 0 dX14_function_142 rfl rfl ?_
          refine w_lv [(0, .ref (A 14 0 0)), (1, .int y1), (2, .int y2)] [0, 1, 2] rfl ?_
          exact x_X14_function_143 hf hrm hkE gkE hdk  y1 y2 0 _ _ hz  hr
        · have hr := bt q135 hr
          refine w_iconst 1 dX14_function_138 rfl rfl ?_
          refine w_goto 143 dX14_function_139 rfl ?_
          refine w_lv [(0, .ref (A 14 0 0)), (1, .int y1), (2, .int y2)] [0, 1, 2] rfl ?_
          exact x_X14_function_143 hf hrm hkE gkE hdk  y1 y2 1 _ _ hz  hr
    · have hr := bf q76 hr
      refine w_aload_n 0 dX14_function_79 rfl rfl rfl ?_
      obtain ⟨v46, ρ47, e48, hr⟩ := bw_some hr
      rcases v46 with w50e | w50
      · obtain ⟨rfl, rfl⟩ := rete (bw_er hr)
        refine c_X14_244 (As := []) (rest := []) (fun l => gkE  hz e48 l) hrm dX14_function_80 rfl rfl (by omega) (Nat.le_of_ble_eq_true rfl) (Nat.le_of_ble_eq_true rfl) (hz.o14 rfl) rfl (Nat.le_of_ble_eq_true rfl) (fun vr h2 hq => hq.elim) (fun E9 h9 hq => ?_)
        exact w_out hf (Nat.le_of_ble_eq_true rfl) (Nat.le_of_ble_eq_true rfl) hq
      have hr := bw_ok hr
      refine c_X14_244 (As := []) (rest := []) (fun l => hkE  hz e48 l) hrm dX14_function_80 rfl rfl (by omega) (Nat.le_of_ble_eq_true rfl) (Nat.le_of_ble_eq_true rfl) (hz.o14 rfl) rfl (Nat.le_of_ble_eq_true rfl) (fun vr h2 hq => ?_) (fun E9 h9 hq => hq.elim)
      obtain ⟨rfl, hz⟩ := hq
      show wp _ _ 83 [(0, .ref (A 14 0 0)), (1, .int y1), (2, .int y2), (3, .int y3), (4, .int y4)] [] _ _ _
      refine w_iinc 3 (y3 + 1) [(3, .int (y3 + 1)), (0, .ref (A 14 0 0)), (1, .int y1), (2, .int y2), (4, .int y4)] dX14_function_83 rfl rfl rfl (by decide) rfl ?_
      refine w_aload_n 1 dX14_function_86 rfl rfl rfl ?_
      refine w_bipush 102 dX14_function_87 rfl rfl ?_
      obtain ⟨v51, ρ52, e53, hr⟩ := bq_some hr
      refine c_X14_223 (As := [.int 102]) (rest := []) (fun l => s_X14_is  hz e53 l) hrm dX14_function_89 rfl rfl (by omega) (Nat.le_of_ble_eq_true rfl) (Nat.le_of_ble_eq_true rfl) (hz.o14 rfl) rfl (Nat.le_of_ble_eq_true rfl) (fun vr h2 hq => ?_) (fun E9 h9 hq => hq.elim)
      obtain ⟨rfl, hz⟩ := hq
      show wp _ _ 92 [(3, .int (y3 + 1)), (0, .ref (A 14 0 0)), (1, .int y1), (2, .int y2), (4, .int y4)] [.int v51] _ _ _
      refine w_istore [(4, .int v51), (3, .int (y3 + 1)), (0, .ref (A 14 0 0)), (1, .int y1), (2, .int y2)] dX14_function_92 rfl (by decide) rfl ?_
      refine w_iload 0 dX14_function_94 rfl rfl ?_
      refine w_if_eq 74 dX14_function_96 rfl rfl (fun q96 => ?_) (fun q96 => ?_)
      · have hr := bt q96 hr
        refine w_lv [(0, .ref (A 14 0 0)), (1, .int y1), (2, .int y2), (3, .int (y3 + 1)), (4, .int v51)] [2, 3, 4, 1, 0] rfl ?_
        exact x_X14_function_74 hf hrm hkE gkE hdk  n y1 y2 (y3 + 1) v51 _ _ hz  hr
      · have hr := bf q96 hr
        refine w_aload_n 2 dX14_function_99 rfl rfl rfl ?_
        obtain ⟨v55, ρ56, e57, hr⟩ := bw_some hr
        rcases v55 with w59e | w59
        · obtain ⟨rfl, rfl⟩ := rete (bw_er hr)
          refine c_X14_226 (As := []) (rest := []) (fun l => e_X14_take  hz e57 l) hrm dX14_function_100 rfl rfl (by omega) (Nat.le_of_ble_eq_true rfl) (Nat.le_of_ble_eq_true rfl) (hz.o14 rfl) rfl (Nat.le_of_ble_eq_true rfl) (fun vr h2 hq => hq.elim) (fun E9 h9 hq => ?_)
          exact w_out hf (Nat.le_of_ble_eq_true rfl) (Nat.le_of_ble_eq_true rfl) hq
        have hr := bw_ok hr
        refine c_X14_226 (As := []) (rest := []) (fun l => t_X14_take  hz e57 l) hrm dX14_function_100 rfl rfl (by omega) (Nat.le_of_ble_eq_true rfl) (Nat.le_of_ble_eq_true rfl) (hz.o14 rfl) rfl (Nat.le_of_ble_eq_true rfl) (fun vr h2 hq => ?_) (fun E9 h9 hq => hq.elim)
        obtain ⟨rfl, hz⟩ := hq
        show wp _ _ 103 [(4, .int v51), (3, .int (y3 + 1)), (0, .ref (A 14 0 0)), (1, .int y1), (2, .int y2)] [] _ _ _
        refine w_goto 74 dX14_function_103 rfl ?_
        refine w_lv [(0, .ref (A 14 0 0)), (1, .int y1), (2, .int y2), (3, .int (y3 + 1)), (4, .int v51)] [2, 3, 4, 1, 0] rfl ?_
        exact x_X14_function_74 hf hrm hkE gkE hdk  n y1 y2 (y3 + 1) v51 _ _ hz  hr
set_option maxRecDepth 20000 in
set_option maxHeartbeats 4000000 in
theorem x_X14_function_43 {A : Nat → Nat → Nat → Nat} {σ ρ' : Zs} {v : Int32 × Int32} {x : Cxt} {kE : Zs → Option (Except (Int32 × Int32) (Unit) × Zs)} {dk : Nat}  (hf : m_fin 1 8 QF (XW A v σ ρ') x) (hrm : m_rm (dk + 1) 1 8 x) (hkE : ∀ {h : Hp} {σ ρ ρ' : Zs} {v : Unit} , Rp A h σ ρ → kE  ρ = some (.ok v, ρ') → ∀ l : Launch, Sp l mX14_expression dk 0 0 [.ref (A 14 0 0)] h (QV A v σ ρ') X0) (gkE : ∀ {h : Hp} {σ ρ ρ' : Zs} {v : Int32 × Int32} , Rp A h σ ρ → kE  ρ = some (.error v, ρ') → ∀ l : Launch, Sp l mX14_expression dk 1 8 [.ref (A 14 0 0)] h QF (XW A v σ ρ')) (hdk : 20 ≤ dk) : ∀ (y1 : Int32) (y2 : Int32) (ρ : Zs) (h : Hp), Rp A h σ ρ → fX14_function_43 kE  y1 y2 ρ = some (.error v, ρ') → wp x mX14_function 43 [(0, .ref (A 14 0 0)), (1, .int y1), (2, .int y2)] [] h 0 0 := by
  intro y1 y2 ρ h hz hr
  rw [fX14_function_43.eq_1] at hr
  refine w_aload_n 0 dX14_function_43 rfl rfl rfl ?_
  obtain ⟨v3, ρ4, e5, hr⟩ := bw_some hr
  rcases v3 with w7e | w7
  · obtain ⟨rfl, rfl⟩ := rete (bw_er hr)
    refine c_X14_226 (As := []) (rest := []) (fun l => e_X14_take  hz e5 l) hrm dX14_function_44 rfl rfl (by omega) (Nat.le_of_ble_eq_true rfl) (Nat.le_of_ble_eq_true rfl) (hz.o14 rfl) rfl (Nat.le_of_ble_eq_true rfl) (fun vr h2 hq => hq.elim) (fun E9 h9 hq => ?_)
    exact w_out hf (Nat.le_of_ble_eq_true rfl) (Nat.le_of_ble_eq_true rfl) hq
  have hr := bw_ok hr
  refine c_X14_226 (As := []) (rest := []) (fun l => t_X14_take  hz e5 l) hrm dX14_function_44 rfl rfl (by omega) (Nat.le_of_ble_eq_true rfl) (Nat.le_of_ble_eq_true rfl) (hz.o14 rfl) rfl (Nat.le_of_ble_eq_true rfl) (fun vr h2 hq => ?_) (fun E9 h9 hq => hq.elim)
  obtain ⟨rfl, hz⟩ := hq
  show wp _ _ 47 [(0, .ref (A 14 0 0)), (1, .int y1), (2, .int y2)] [] _ _ _
  refine w_aload_n 0 dX14_function_47 rfl rfl rfl ?_
  refine w_bipush 100 dX14_function_48 rfl rfl ?_
  obtain ⟨v8, ρ9, e10, hr⟩ := bq_some hr
  refine c_X14_223 (As := [.int 100]) (rest := []) (fun l => s_X14_is  hz e10 l) hrm dX14_function_50 rfl rfl (by omega) (Nat.le_of_ble_eq_true rfl) (Nat.le_of_ble_eq_true rfl) (hz.o14 rfl) rfl (Nat.le_of_ble_eq_true rfl) (fun vr h2 hq => ?_) (fun E9 h9 hq => hq.elim)
  obtain ⟨rfl, hz⟩ := hq
  show wp _ _ 53 [(0, .ref (A 14 0 0)), (1, .int y1), (2, .int y2)] [.int v8] _ _ _
  refine w_if_ne 61 dX14_function_53 rfl rfl (fun q53 => ?_) (fun q53 => ?_)
  · have hr := bf q53 hr
    refine w_aload_n 0 dX14_function_61 rfl rfl rfl ?_
    obtain ⟨v12, ρ13, e14, hr⟩ := bw_some hr
    rcases v12 with w16e | w16
    · obtain ⟨rfl, rfl⟩ := rete (bw_er hr)
      refine c_X14_281 (As := []) (rest := []) (fun l => e_X14_deeper  hz e14 l) hrm dX14_function_62 rfl rfl (by omega) (Nat.le_of_ble_eq_true rfl) (Nat.le_of_ble_eq_true rfl) (hz.o14 rfl) rfl (Nat.le_of_ble_eq_true rfl) (fun vr h2 hq => hq.elim) (fun E9 h9 hq => ?_)
      exact w_out hf (Nat.le_of_ble_eq_true rfl) (Nat.le_of_ble_eq_true rfl) hq
    have hr := bw_ok hr
    refine c_X14_281 (As := []) (rest := []) (fun l => t_X14_deeper  hz e14 l) hrm dX14_function_62 rfl rfl (by omega) (Nat.le_of_ble_eq_true rfl) (Nat.le_of_ble_eq_true rfl) (hz.o14 rfl) rfl (Nat.le_of_ble_eq_true rfl) (fun vr h2 hq => ?_) (fun E9 h9 hq => hq.elim)
    obtain ⟨rfl, hz⟩ := hq
    show wp _ _ 65 [(0, .ref (A 14 0 0)), (1, .int y1), (2, .int y2)] [] _ _ _
    refine w_aload_n 0 dX14_function_65 rfl rfl rfl ?_
    obtain ⟨v17, ρ18, e19, hr⟩ := bw_some hr
    rcases v17 with w21e | w21
    · obtain ⟨rfl, rfl⟩ := rete (bw_er hr)
      refine c_X14_226 (As := []) (rest := []) (fun l => e_X14_take  hz e19 l) hrm dX14_function_66 rfl rfl (by omega) (Nat.le_of_ble_eq_true rfl) (Nat.le_of_ble_eq_true rfl) (hz.o14 rfl) rfl (Nat.le_of_ble_eq_true rfl) (fun vr h2 hq => hq.elim) (fun E9 h9 hq => ?_)
      exact w_out hf (Nat.le_of_ble_eq_true rfl) (Nat.le_of_ble_eq_true rfl) hq
    have hr := bw_ok hr
    refine c_X14_226 (As := []) (rest := []) (fun l => t_X14_take  hz e19 l) hrm dX14_function_66 rfl rfl (by omega) (Nat.le_of_ble_eq_true rfl) (Nat.le_of_ble_eq_true rfl) (hz.o14 rfl) rfl (Nat.le_of_ble_eq_true rfl) (fun vr h2 hq => ?_) (fun E9 h9 hq => hq.elim)
    obtain ⟨rfl, hz⟩ := hq
    show wp _ _ 69 [(0, .ref (A 14 0 0)), (1, .int y1), (2, .int y2)] [] _ _ _
    refine w_iconst 0 dX14_function_69 rfl rfl ?_
    refine w_istore_n [(3, .int 0), (0, .ref (A 14 0 0)), (1, .int y1), (2, .int y2)] dX14_function_70 rfl rfl (by decide) rfl ?_
    refine w_iconst 1 dX14_function_71 rfl rfl ?_
    refine w_istore [(4, .int 1), (3, .int 0), (0, .ref (A 14 0 0)), (1, .int y1), (2, .int y2)] dX14_function_72 rfl (by decide) rfl ?_
    refine w_lv [(0, .ref (A 14 0 0)), (1, .int y1), (2, .int y2), (3, .int 0), (4, .int 1)] [2, 3, 4, 1, 0] rfl ?_
    exact x_X14_function_74 hf hrm hkE gkE hdk  FU y1 y2 0 1 _ _ hz  hr
  · have hr := bt q53 hr
    refine w_aload_n 0 dX14_function_56 rfl rfl rfl ?_
    obtain ⟨w60, ρ61, e62, hr⟩ := bq_some hr
    refine c_X14_219 (As := []) (rest := []) (fun l => s_X14_wrong hz e62 l) hrm dX14_function_57 rfl rfl (by omega) (Nat.le_of_ble_eq_true rfl) (Nat.le_of_ble_eq_true rfl) (hz.o14 rfl) rfl (Nat.le_of_ble_eq_true rfl) (fun vr h2 hq => ?_) (fun E9 h9 hq => hq.elim)
    obtain ⟨q, rfl, hq⟩ := hq
    obtain ⟨rfl, rfl⟩ := rete hr
    show wp _ _ 60 [(0, .ref (A 14 0 0)), (1, .int y1), (2, .int y2)] [.ref q] _ _ _
    refine w_athrow dX14_function_60 (q := q) hq.1 ?_
    exact w_out hf (Nat.le_of_ble_eq_true rfl) (Nat.le_of_ble_eq_true rfl) hq.gh
set_option maxRecDepth 20000 in
set_option maxHeartbeats 4000000 in
theorem e_X14_function {A : Nat → Nat → Nat → Nat} {h : Hp} {σ ρ ρ' : Zs} {v : Int32 × Int32} {kE : Zs → Option (Except (Int32 × Int32) (Unit) × Zs)} {dk : Nat} (hkE : ∀ {h : Hp} {σ ρ ρ' : Zs} {v : Unit} , Rp A h σ ρ → kE  ρ = some (.ok v, ρ') → ∀ l : Launch, Sp l mX14_expression dk 0 0 [.ref (A 14 0 0)] h (QV A v σ ρ') X0) (gkE : ∀ {h : Hp} {σ ρ ρ' : Zs} {v : Int32 × Int32} , Rp A h σ ρ → kE  ρ = some (.error v, ρ') → ∀ l : Launch, Sp l mX14_expression dk 1 8 [.ref (A 14 0 0)] h QF (XW A v σ ρ')) (hdk : 20 ≤ dk) (hz : Rp A h σ ρ) (hr : fX14_function kE ρ = some (.error v, ρ')) : ∀ l : Launch, Sp l mX14_function (dk + 1) 1 8 [.ref (A 14 0 0)] h QF (XW A v σ ρ') := by
  intro l
  refine Sp.of rfl rfl (lv := [(0, .ref (A 14 0 0))]) (Nat.le_of_ble_eq_true rfl) rfl (fun x hf hrm => ?_)
  rw [fX14_function.eq_1] at hr
  refine w_aload_n 0 dX14_function_0 rfl rfl rfl ?_
  refine g_X14_24 dX14_function_1 rfl (hz.o14 rfl) (hz.r902 rfl) ?_
  refine w_aload_n 0 dX14_function_4 rfl rfl rfl ?_
  refine g_X14_204 dX14_function_5 rfl (hz.o14 rfl) (hz.i905 rfl) ?_
  obtain ⟨g1, hr⟩ := gd hr
  refine w_iald dX14_function_8 rfl (hz.k902 rfl) (gin (hz.n902 rfl) g1) (hz.x902 rfl) ?_
  refine w_istore_n [(1, .int (zI ρ 1926 0 0 (Int32.toNatClampNeg (zI ρ 905 0 0 0)))), (0, .ref (A 14 0 0))] dX14_function_9 rfl rfl (by decide) rfl ?_
  refine w_aload_n 1 dX14_function_10 rfl rfl rfl ?_
  refine g_X14_27 dX14_function_11 rfl (hz.o14 rfl) (hz.r903 rfl) ?_
  refine w_aload_n 1 dX14_function_14 rfl rfl rfl ?_
  refine g_X14_204 dX14_function_15 rfl (hz.o14 rfl) (hz.i905 rfl) ?_
  obtain ⟨g2, hr⟩ := gd hr
  refine w_iald dX14_function_18 rfl (hz.k903 rfl) (gin (hz.n903 rfl) g2) (hz.x903 rfl) ?_
  refine w_istore_n [(2, .int (zI ρ 1927 0 0 (Int32.toNatClampNeg (zI ρ 905 0 0 0)))), (1, .int (zI ρ 1926 0 0 (Int32.toNatClampNeg (zI ρ 905 0 0 0)))), (0, .ref (A 14 0 0))] dX14_function_19 rfl rfl (by decide) rfl ?_
  refine w_iload_n 1 dX14_function_20 rfl rfl rfl ?_
  refine w_bipush 31 dX14_function_21 rfl rfl ?_
  refine w_icmp_eq 43 dX14_function_23 rfl rfl (fun q23 => ?_) (fun q23 => ?_)
  · have hr := bt q23 hr
    refine w_lv [(0, .ref (A 14 0 0)), (1, .int (zI ρ 1926 0 0 (Int32.toNatClampNeg (zI ρ 905 0 0 0)))), (2, .int (zI ρ 1927 0 0 (Int32.toNatClampNeg (zI ρ 905 0 0 0))))] [2, 1, 0] rfl ?_
    exact x_X14_function_43 hf hrm hkE gkE hdk  (zI ρ 1926 0 0 (Int32.toNatClampNeg (zI ρ 905 0 0 0))) (zI ρ 1927 0 0 (Int32.toNatClampNeg (zI ρ 905 0 0 0))) _ _ hz  hr
  · have hr := bf q23 hr
    refine w_iload_n 1 dX14_function_26 rfl rfl rfl ?_
    refine w_bipush 24 dX14_function_27 rfl rfl ?_
    refine w_icmp_eq 43 dX14_function_29 rfl rfl (fun q29 => ?_) (fun q29 => ?_)
    · have hr := bt q29 hr
      refine w_lv [(0, .ref (A 14 0 0)), (1, .int (zI ρ 1926 0 0 (Int32.toNatClampNeg (zI ρ 905 0 0 0)))), (2, .int (zI ρ 1927 0 0 (Int32.toNatClampNeg (zI ρ 905 0 0 0))))] [2, 1, 0] rfl ?_
      exact x_X14_function_43 hf hrm hkE gkE hdk  (zI ρ 1926 0 0 (Int32.toNatClampNeg (zI ρ 905 0 0 0))) (zI ρ 1927 0 0 (Int32.toNatClampNeg (zI ρ 905 0 0 0))) _ _ hz  hr
    · have hr := bf q29 hr
      refine w_iload_n 1 dX14_function_32 rfl rfl rfl ?_
      refine w_bipush 25 dX14_function_33 rfl rfl ?_
      refine w_icmp_eq 43 dX14_function_35 rfl rfl (fun q35 => ?_) (fun q35 => ?_)
      · have hr := bt q35 hr
        refine w_lv [(0, .ref (A 14 0 0)), (1, .int (zI ρ 1926 0 0 (Int32.toNatClampNeg (zI ρ 905 0 0 0)))), (2, .int (zI ρ 1927 0 0 (Int32.toNatClampNeg (zI ρ 905 0 0 0))))] [2, 1, 0] rfl ?_
        exact x_X14_function_43 hf hrm hkE gkE hdk  (zI ρ 1926 0 0 (Int32.toNatClampNeg (zI ρ 905 0 0 0))) (zI ρ 1927 0 0 (Int32.toNatClampNeg (zI ρ 905 0 0 0))) _ _ hz  hr
      · have hr := bf q35 hr
        refine w_aload_n 2 dX14_function_38 rfl rfl rfl ?_
        obtain ⟨w63, ρ64, e65, hr⟩ := bq_some hr
        refine c_X14_219 (As := []) (rest := []) (fun l => s_X14_wrong hz e65 l) hrm dX14_function_39 rfl rfl (by omega) (Nat.le_of_ble_eq_true rfl) (Nat.le_of_ble_eq_true rfl) (hz.o14 rfl) rfl (Nat.le_of_ble_eq_true rfl) (fun vr h2 hq => ?_) (fun E9 h9 hq => hq.elim)
        obtain ⟨q, rfl, hq⟩ := hq
        obtain ⟨rfl, rfl⟩ := rete hr
        show wp _ _ 42 [(2, .int (zI ρ 1927 0 0 (Int32.toNatClampNeg (zI ρ 905 0 0 0)))), (1, .int (zI ρ 1926 0 0 (Int32.toNatClampNeg (zI ρ 905 0 0 0)))), (0, .ref (A 14 0 0))] [.ref q] _ _ _
        refine w_athrow dX14_function_42 (q := q) hq.1 ?_
        exact w_out hf (Nat.le_of_ble_eq_true rfl) (Nat.le_of_ble_eq_true rfl) hq.gh

set_option maxRecDepth 20000 in
set_option maxHeartbeats 4000000 in
theorem u_X14_factor_204 {A : Nat → Nat → Nat → Nat} {σ ρ' : Zs} {v : Unit} {x : Cxt} {kE : Zs → Option (Except (Int32 × Int32) (Unit) × Zs)} {kF : Zs → Option (Except (Int32 × Int32) (Unit) × Zs)} {dk : Nat} {dj : Nat}  (hf : m_fin 0 0 (QV A v σ ρ') X0 x) (hrm : m_rm (dk + 2) 0 0 x) (hkE : ∀ {h : Hp} {σ ρ ρ' : Zs} {v : Unit} , Rp A h σ ρ → kE  ρ = some (.ok v, ρ') → ∀ l : Launch, Sp l mX14_expression dk 0 0 [.ref (A 14 0 0)] h (QV A v σ ρ') X0) (hkF : ∀ {h : Hp} {σ ρ ρ' : Zs} {v : Unit} , Rp A h σ ρ → kF  ρ = some (.ok v, ρ') → ∀ l : Launch, Sp l mX14_factor dj 0 0 [.ref (A 14 0 0)] h (QV A v σ ρ') X0) (hdk : 20 ≤ dk) (hdj : dj ≤ dk) : ∀ (z0 : Int32) (ρ : Zs) (h : Hp), Rp A h σ ρ → fX14_factor_204 kE kF  z0 ρ = some (.ok v, ρ') → wp x mX14_factor 204 [(0, .ref (A 14 0 0))] [.int z0] h 0 0 := by
  intro z0 ρ h hz hr
  rw [fX14_factor_204.eq_1] at hr
  refine w_istore_n [(1, .int z0), (0, .ref (A 14 0 0))] dX14_factor_204 rfl rfl (by decide) rfl ?_
  refine w_aload_n 1 dX14_factor_205 rfl rfl rfl ?_
  obtain ⟨v25, ρ26, e27, hr⟩ := bw_some hr
  rcases v25 with w29e | w29
  · exact noko (bw_er hr)
  have hr := bw_ok hr
  refine c_X14_281 (As := []) (rest := []) (fun l => t_X14_deeper  hz e27 l) hrm dX14_factor_206 rfl rfl (by omega) (Nat.le_of_ble_eq_true rfl) (Nat.le_of_ble_eq_true rfl) (hz.o14 rfl) rfl (Nat.le_of_ble_eq_true rfl) (fun vr h2 hq => ?_) (fun E9 h9 hq => hq.elim)
  obtain ⟨rfl, hz⟩ := hq
  show wp _ _ 209 [(1, .int z0), (0, .ref (A 14 0 0))] [] _ _ _
  refine w_aload_n 1 dX14_factor_209 rfl rfl rfl ?_
  obtain ⟨v30, ρ31, e32, hr⟩ := bw_some hr
  rcases v30 with w34e | w34
  · exact noko (bw_er hr)
  have hr := bw_ok hr
  refine c_X14_226 (As := []) (rest := []) (fun l => t_X14_take  hz e32 l) hrm dX14_factor_210 rfl rfl (by omega) (Nat.le_of_ble_eq_true rfl) (Nat.le_of_ble_eq_true rfl) (hz.o14 rfl) rfl (Nat.le_of_ble_eq_true rfl) (fun vr h2 hq => ?_) (fun E9 h9 hq => hq.elim)
  obtain ⟨rfl, hz⟩ := hq
  show wp _ _ 213 [(1, .int z0), (0, .ref (A 14 0 0))] [] _ _ _
  refine w_aload_n 1 dX14_factor_213 rfl rfl rfl ?_
  obtain ⟨v35, ρ36, e37, hr⟩ := bw_some hr
  rcases v35 with w39e | w39
  · exact noko (bw_er hr)
  have hr := bw_ok hr
  refine c_X14_263 (As := []) (rest := []) (fun l => hkF  hz e37 l) hrm dX14_factor_214 rfl rfl (by omega) (Nat.le_of_ble_eq_true rfl) (Nat.le_of_ble_eq_true rfl) (hz.o14 rfl) rfl (Nat.le_of_ble_eq_true rfl) (fun vr h2 hq => ?_) (fun E9 h9 hq => hq.elim)
  obtain ⟨rfl, hz⟩ := hq
  show wp _ _ 217 [(1, .int z0), (0, .ref (A 14 0 0))] [] _ _ _
  refine w_aload_n 1 dX14_factor_217 rfl rfl rfl ?_
  refine w_dup dX14_factor_218 rfl rfl ?_
  refine g_X14_229 dX14_factor_219 rfl (hz.o14 rfl) (hz.i907 rfl) ?_
  refine w_iconst 1 dX14_factor_222 rfl rfl ?_
  refine w_isub dX14_factor_223 rfl ?_
  refine p_X14_229 dX14_factor_224 rfl (hz.o14 rfl) ?_
  obtain ⟨ρ40, e41, hr⟩ := lt_e hr
  have hz := (hz.s907 (v := ((zI ρ36 907 0 0 0) - 1)) rfl).tr e41
  refine w_aload_n 1 dX14_factor_227 rfl rfl rfl ?_
  refine w_iload_n 0 dX14_factor_228 rfl rfl rfl ?_
  refine w_lconst 0 dX14_factor_229 rfl rfl ?_
  obtain ⟨v42, ρ43, e44, hr⟩ := bq_some hr
  refine c_X14_247 (As := [.int z0, .long 0]) (rest := []) (fun l => s_X14_emit  hz e44 l) hrm dX14_factor_230 rfl rfl (by omega) (Nat.le_of_ble_eq_true rfl) (Nat.le_of_ble_eq_true rfl) (hz.o14 rfl) rfl (Nat.le_of_ble_eq_true rfl) (fun vr h2 hq => ?_) (fun E9 h9 hq => hq.elim)
  obtain ⟨rfl, hz⟩ := hq
  show wp _ _ 233 [(1, .int z0), (0, .ref (A 14 0 0))] [] _ _ _
  refine w_goto 240 dX14_factor_233 rfl ?_
  refine w_vret hf dX14_factor_240 rfl (Nat.le_of_ble_eq_true rfl) (Nat.le_of_ble_eq_true rfl) ?_
  obtain ⟨rfl, rfl⟩ := retw hr
  exact ⟨rfl, hz⟩
set_option maxRecDepth 20000 in
set_option maxHeartbeats 4000000 in
theorem u_X14_factor_81 {A : Nat → Nat → Nat → Nat} {σ ρ' : Zs} {v : Unit} {x : Cxt} {kE : Zs → Option (Except (Int32 × Int32) (Unit) × Zs)} {kF : Zs → Option (Except (Int32 × Int32) (Unit) × Zs)} {dk : Nat} {dj : Nat}  (hf : m_fin 0 0 (QV A v σ ρ') X0 x) (hrm : m_rm (dk + 2) 0 0 x) (hkE : ∀ {h : Hp} {σ ρ ρ' : Zs} {v : Unit} , Rp A h σ ρ → kE  ρ = some (.ok v, ρ') → ∀ l : Launch, Sp l mX14_expression dk 0 0 [.ref (A 14 0 0)] h (QV A v σ ρ') X0) (hkF : ∀ {h : Hp} {σ ρ ρ' : Zs} {v : Unit} , Rp A h σ ρ → kF  ρ = some (.ok v, ρ') → ∀ l : Launch, Sp l mX14_factor dj 0 0 [.ref (A 14 0 0)] h (QV A v σ ρ') X0) (hdk : 20 ≤ dk) (hdj : dj ≤ dk) : ∀ (y1 : Int32) (z0 : Int32) (ρ : Zs) (h : Hp), Rp A h σ ρ → fX14_factor_81 kE kF  y1 z0 ρ = some (.ok v, ρ') → wp x mX14_factor 81 [(0, .ref (A 14 0 0)), (1, .int y1)] [.int z0, .ref (A 14 0 0)] h 0 0 := by
  intro y1 z0 ρ h hz hr
  rw [fX14_factor_81.eq_1] at hr
  refine w_iconst 2 dX14_factor_81 rfl rfl ?_
  refine w_aload_n 0 dX14_factor_82 rfl rfl rfl ?_
  refine g_X14_27 dX14_factor_83 rfl (hz.o14 rfl) (hz.r903 rfl) ?_
  refine w_aload_n 0 dX14_factor_86 rfl rfl rfl ?_
  refine g_X14_204 dX14_factor_87 rfl (hz.o14 rfl) (hz.i905 rfl) ?_
  obtain ⟨g90, hr⟩ := gd hr
  refine w_iald dX14_factor_90 rfl (hz.k903 rfl) (gin (hz.n903 rfl) g90) (hz.x903 rfl) ?_
  obtain ⟨v91, ρ92, e93, hr⟩ := bw_some hr
  rcases v91 with w95e | w95
  · exact noko (bw_er hr)
  have hr := bw_ok hr
  refine c_X14_277 (As := [.int z0, .int 2, .int (zI ρ 1927 0 0 (Int32.toNatClampNeg (zI ρ 905 0 0 0)))]) (rest := []) (fun l => t_X14_must  hz e93 l) hrm dX14_factor_91 rfl rfl (by omega) (Nat.le_of_ble_eq_true rfl) (Nat.le_of_ble_eq_true rfl) (hz.o14 rfl) rfl (Nat.le_of_ble_eq_true rfl) (fun vr h2 hq => ?_) (fun E9 h9 hq => hq.elim)
  obtain ⟨rfl, hz⟩ := hq
  show wp _ _ 94 [(0, .ref (A 14 0 0)), (1, .int y1)] [] _ _ _
  refine w_aload_n 0 dX14_factor_94 rfl rfl rfl ?_
  refine w_iconst 1 dX14_factor_95 rfl rfl ?_
  refine w_iload_n 1 dX14_factor_96 rfl rfl rfl ?_
  refine w_i2l dX14_factor_97 rfl ?_
  obtain ⟨v96, ρ97, e98, hr⟩ := bq_some hr
  refine c_X14_247 (As := [.int 1, .long ((y1 : Int32).toInt64)]) (rest := []) (fun l => s_X14_emit  hz e98 l) hrm dX14_factor_98 rfl rfl (by omega) (Nat.le_of_ble_eq_true rfl) (Nat.le_of_ble_eq_true rfl) (hz.o14 rfl) rfl (Nat.le_of_ble_eq_true rfl) (fun vr h2 hq => ?_) (fun E9 h9 hq => hq.elim)
  obtain ⟨rfl, hz⟩ := hq
  show wp _ _ 101 [(0, .ref (A 14 0 0)), (1, .int y1)] [] _ _ _
  refine w_aload_n 0 dX14_factor_101 rfl rfl rfl ?_
  obtain ⟨v100, ρ101, e102, hr⟩ := bw_some hr
  rcases v100 with w104e | w104
  · exact noko (bw_er hr)
  have hr := bw_ok hr
  refine c_X14_226 (As := []) (rest := []) (fun l => t_X14_take  hz e102 l) hrm dX14_factor_102 rfl rfl (by omega) (Nat.le_of_ble_eq_true rfl) (Nat.le_of_ble_eq_true rfl) (hz.o14 rfl) rfl (Nat.le_of_ble_eq_true rfl) (fun vr h2 hq => ?_) (fun E9 h9 hq => hq.elim)
  obtain ⟨rfl, hz⟩ := hq
  show wp _ _ 105 [(0, .ref (A 14 0 0)), (1, .int y1)] [] _ _ _
  refine w_goto 240 dX14_factor_105 rfl ?_
  refine w_vret hf dX14_factor_240 rfl (Nat.le_of_ble_eq_true rfl) (Nat.le_of_ble_eq_true rfl) ?_
  obtain ⟨rfl, rfl⟩ := retw hr
  exact ⟨rfl, hz⟩
set_option maxRecDepth 20000 in
set_option maxHeartbeats 4000000 in
theorem t_X14_factor {A : Nat → Nat → Nat → Nat} {h : Hp} {σ ρ ρ' : Zs} {v : Unit} {kE : Zs → Option (Except (Int32 × Int32) (Unit) × Zs)} {kF : Zs → Option (Except (Int32 × Int32) (Unit) × Zs)} {dk : Nat} {dj : Nat} (hkE : ∀ {h : Hp} {σ ρ ρ' : Zs} {v : Unit} , Rp A h σ ρ → kE  ρ = some (.ok v, ρ') → ∀ l : Launch, Sp l mX14_expression dk 0 0 [.ref (A 14 0 0)] h (QV A v σ ρ') X0) (hkF : ∀ {h : Hp} {σ ρ ρ' : Zs} {v : Unit} , Rp A h σ ρ → kF  ρ = some (.ok v, ρ') → ∀ l : Launch, Sp l mX14_factor dj 0 0 [.ref (A 14 0 0)] h (QV A v σ ρ') X0) (hdk : 20 ≤ dk) (hdj : dj ≤ dk) (hz : Rp A h σ ρ) (hr : fX14_factor kE kF ρ = some (.ok v, ρ')) : ∀ l : Launch, Sp l mX14_factor (dk + 2) 0 0 [.ref (A 14 0 0)] h (QV A v σ ρ') X0 := by
  intro l
  refine Sp.of rfl rfl (lv := [(0, .ref (A 14 0 0))]) (Nat.le_of_ble_eq_true rfl) rfl (fun x hf hrm => ?_)
  rw [fX14_factor.eq_1] at hr
  refine w_aload_n 0 dX14_factor_0 rfl rfl rfl ?_
  refine w_sipush 201 dX14_factor_1 rfl rfl ?_
  obtain ⟨v1, ρ2, e3, hr⟩ := bq_some hr
  refine c_X14_223 (As := [.int 201]) (rest := []) (fun l => s_X14_is  hz e3 l) hrm dX14_factor_4 rfl rfl (by omega) (Nat.le_of_ble_eq_true rfl) (Nat.le_of_ble_eq_true rfl) (hz.o14 rfl) rfl (Nat.le_of_ble_eq_true rfl) (fun vr h2 hq => ?_) (fun E9 h9 hq => hq.elim)
  obtain ⟨rfl, hz⟩ := hq
  show wp _ _ 7 [(0, .ref (A 14 0 0))] [.int v1] _ _ _
  refine w_if_eq 31 dX14_factor_7 rfl rfl (fun q7 => ?_) (fun q7 => ?_)
  · have hr := bt q7 hr
    refine w_aload_n 0 dX14_factor_31 rfl rfl rfl ?_
    refine w_sipush 200 dX14_factor_32 rfl rfl ?_
    obtain ⟨v5, ρ6, e7, hr⟩ := bq_some hr
    refine c_X14_223 (As := [.int 200]) (rest := []) (fun l => s_X14_is  hz e7 l) hrm dX14_factor_35 rfl rfl (by omega) (Nat.le_of_ble_eq_true rfl) (Nat.le_of_ble_eq_true rfl) (hz.o14 rfl) rfl (Nat.le_of_ble_eq_true rfl) (fun vr h2 hq => ?_) (fun E9 h9 hq => hq.elim)
    obtain ⟨rfl, hz⟩ := hq
    show wp _ _ 38 [(0, .ref (A 14 0 0))] [.int v5] _ _ _
    refine w_if_eq 108 dX14_factor_38 rfl rfl (fun q38 => ?_) (fun q38 => ?_)
    · have hr := bt q38 hr
      refine w_aload_n 0 dX14_factor_108 rfl rfl rfl ?_
      refine w_bipush 27 dX14_factor_109 rfl rfl ?_
      obtain ⟨v9, ρ10, e11, hr⟩ := bq_some hr
      refine c_X14_223 (As := [.int 27]) (rest := []) (fun l => s_X14_is  hz e11 l) hrm dX14_factor_111 rfl rfl (by omega) (Nat.le_of_ble_eq_true rfl) (Nat.le_of_ble_eq_true rfl) (hz.o14 rfl) rfl (Nat.le_of_ble_eq_true rfl) (fun vr h2 hq => ?_) (fun E9 h9 hq => hq.elim)
      obtain ⟨rfl, hz⟩ := hq
      show wp _ _ 114 [(0, .ref (A 14 0 0))] [.int v9] _ _ _
      refine w_if_eq 130 dX14_factor_114 rfl rfl (fun q114 => ?_) (fun q114 => ?_)
      · have hr := bt q114 hr
        refine w_aload_n 0 dX14_factor_130 rfl rfl rfl ?_
        refine w_bipush 100 dX14_factor_131 rfl rfl ?_
        obtain ⟨v13, ρ14, e15, hr⟩ := bq_some hr
        refine c_X14_223 (As := [.int 100]) (rest := []) (fun l => s_X14_is  hz e15 l) hrm dX14_factor_133 rfl rfl (by omega) (Nat.le_of_ble_eq_true rfl) (Nat.le_of_ble_eq_true rfl) (hz.o14 rfl) rfl (Nat.le_of_ble_eq_true rfl) (fun vr h2 hq => ?_) (fun E9 h9 hq => hq.elim)
        obtain ⟨rfl, hz⟩ := hq
        show wp _ _ 136 [(0, .ref (A 14 0 0))] [.int v13] _ _ _
        refine w_if_eq 170 dX14_factor_136 rfl rfl (fun q136 => ?_) (fun q136 => ?_)
        · have hr := bt q136 hr
          refine w_aload_n 0 dX14_factor_170 rfl rfl rfl ?_
          refine w_bipush 106 dX14_factor_171 rfl rfl ?_
          obtain ⟨v17, ρ18, e19, hr⟩ := bq_some hr
          refine c_X14_223 (As := [.int 106]) (rest := []) (fun l => s_X14_is  hz e19 l) hrm dX14_factor_173 rfl rfl (by omega) (Nat.le_of_ble_eq_true rfl) (Nat.le_of_ble_eq_true rfl) (hz.o14 rfl) rfl (Nat.le_of_ble_eq_true rfl) (fun vr h2 hq => ?_) (fun E9 h9 hq => hq.elim)
          obtain ⟨rfl, hz⟩ := hq
          show wp _ _ 176 [(0, .ref (A 14 0 0))] [.int v17] _ _ _
          refine w_if_ne 188 dX14_factor_176 rfl rfl (fun q176 => ?_) (fun q176 => ?_)
          · have hr := bf q176 hr
            refine w_aload_n 0 dX14_factor_188 rfl rfl rfl ?_
            refine w_bipush 106 dX14_factor_189 rfl rfl ?_
            obtain ⟨v21, ρ22, e23, hr⟩ := bq_some hr
            refine c_X14_223 (As := [.int 106]) (rest := []) (fun l => s_X14_is  hz e23 l) hrm dX14_factor_191 rfl rfl (by omega) (Nat.le_of_ble_eq_true rfl) (Nat.le_of_ble_eq_true rfl) (hz.o14 rfl) rfl (Nat.le_of_ble_eq_true rfl) (fun vr h2 hq => ?_) (fun E9 h9 hq => hq.elim)
            obtain ⟨rfl, hz⟩ := hq
            show wp _ _ 194 [(0, .ref (A 14 0 0))] [.int v21] _ _ _
            refine w_if_eq 202 dX14_factor_194 rfl rfl (fun q194 => ?_) (fun q194 => ?_)
            · have hr := bt q194 hr
              refine w_bipush 40 dX14_factor_202 rfl rfl ?_
              refine w_lv [(0, .ref (A 14 0 0))] [0] rfl ?_
              exact u_X14_factor_204 hf hrm hkE hkF hdk hdj  40 _ _ hz  hr
            · have hr := bf q194 hr
              refine w_bipush 41 dX14_factor_197 rfl rfl ?_
              refine w_goto 204 dX14_factor_199 rfl ?_
              refine w_lv [(0, .ref (A 14 0 0))] [0] rfl ?_
              exact u_X14_factor_204 hf hrm hkE hkF hdk hdj  41 _ _ hz  hr
          · have hr := bt q176 hr
            refine w_aload_n 0 dX14_factor_179 rfl rfl rfl ?_
            refine w_bipush 30 dX14_factor_180 rfl rfl ?_
            obtain ⟨v46, ρ47, e48, hr⟩ := bq_some hr
            refine c_X14_223 (As := [.int 30]) (rest := []) (fun l => s_X14_is  hz e48 l) hrm dX14_factor_182 rfl rfl (by omega) (Nat.le_of_ble_eq_true rfl) (Nat.le_of_ble_eq_true rfl) (hz.o14 rfl) rfl (Nat.le_of_ble_eq_true rfl) (fun vr h2 hq => ?_) (fun E9 h9 hq => hq.elim)
            obtain ⟨rfl, hz⟩ := hq
            show wp _ _ 185 [(0, .ref (A 14 0 0))] [.int v46] _ _ _
            refine w_if_eq 236 dX14_factor_185 rfl rfl (fun q185 => ?_) (fun q185 => ?_)
            · have hr := bt q185 hr
              refine w_aload_n 0 dX14_factor_236 rfl rfl rfl ?_
              obtain ⟨v50, ρ51, e52, hr⟩ := bw_some hr
              rcases v50 with w54e | w54
              · exact noko (bw_er hr)
              have hr := bw_ok hr
              refine c_X14_286 (As := []) (rest := []) (fun l => t_X14_function hkE hdk hz e52 l) hrm dX14_factor_237 rfl rfl (by omega) (Nat.le_of_ble_eq_true rfl) (Nat.le_of_ble_eq_true rfl) (hz.o14 rfl) rfl (Nat.le_of_ble_eq_true rfl) (fun vr h2 hq => ?_) (fun E9 h9 hq => hq.elim)
              obtain ⟨rfl, hz⟩ := hq
              show wp _ _ 240 [(0, .ref (A 14 0 0))] [] _ _ _
              refine w_vret hf dX14_factor_240 rfl (Nat.le_of_ble_eq_true rfl) (Nat.le_of_ble_eq_true rfl) ?_
              obtain ⟨rfl, rfl⟩ := retw hr
              exact ⟨rfl, hz⟩
            · have hr := bf q185 hr
              refine w_aload_n 0 dX14_factor_188 rfl rfl rfl ?_
              refine w_bipush 106 dX14_factor_189 rfl rfl ?_
              obtain ⟨v55, ρ56, e57, hr⟩ := bq_some hr
              refine c_X14_223 (As := [.int 106]) (rest := []) (fun l => s_X14_is  hz e57 l) hrm dX14_factor_191 rfl rfl (by omega) (Nat.le_of_ble_eq_true rfl) (Nat.le_of_ble_eq_true rfl) (hz.o14 rfl) rfl (Nat.le_of_ble_eq_true rfl) (fun vr h2 hq => ?_) (fun E9 h9 hq => hq.elim)
              obtain ⟨rfl, hz⟩ := hq
              show wp _ _ 194 [(0, .ref (A 14 0 0))] [.int v55] _ _ _
              refine w_if_eq 202 dX14_factor_194 rfl rfl (fun q194 => ?_) (fun q194 => ?_)
              · have hr := bt q194 hr
                refine w_bipush 40 dX14_factor_202 rfl rfl ?_
                refine w_lv [(0, .ref (A 14 0 0))] [0] rfl ?_
                exact u_X14_factor_204 hf hrm hkE hkF hdk hdj  40 _ _ hz  hr
              · have hr := bf q194 hr
                refine w_bipush 41 dX14_factor_197 rfl rfl ?_
                refine w_goto 204 dX14_factor_199 rfl ?_
                refine w_lv [(0, .ref (A 14 0 0))] [0] rfl ?_
                exact u_X14_factor_204 hf hrm hkE hkF hdk hdj  41 _ _ hz  hr
        · have hr := bf q136 hr
          refine w_aload_n 0 dX14_factor_139 rfl rfl rfl ?_
          obtain ⟨v59, ρ60, e61, hr⟩ := bw_some hr
          rcases v59 with w63e | w63
          · exact noko (bw_er hr)
          have hr := bw_ok hr
          refine c_X14_281 (As := []) (rest := []) (fun l => t_X14_deeper  hz e61 l) hrm dX14_factor_140 rfl rfl (by omega) (Nat.le_of_ble_eq_true rfl) (Nat.le_of_ble_eq_true rfl) (hz.o14 rfl) rfl (Nat.le_of_ble_eq_true rfl) (fun vr h2 hq => ?_) (fun E9 h9 hq => hq.elim)
          obtain ⟨rfl, hz⟩ := hq
          show wp _ _ 143 [(0, .ref (A 14 0 0))] [] _ _ _
          refine w_aload_n 0 dX14_factor_143 rfl rfl rfl ?_
          obtain ⟨v64, ρ65, e66, hr⟩ := bw_some hr
          rcases v64 with w68e | w68
          · exact noko (bw_er hr)
          have hr := bw_ok hr
          refine c_X14_226 (As := []) (rest := []) (fun l => t_X14_take  hz e66 l) hrm dX14_factor_144 rfl rfl (by omega) (Nat.le_of_ble_eq_true rfl) (Nat.le_of_ble_eq_true rfl) (hz.o14 rfl) rfl (Nat.le_of_ble_eq_true rfl) (fun vr h2 hq => ?_) (fun E9 h9 hq => hq.elim)
          obtain ⟨rfl, hz⟩ := hq
          show wp _ _ 147 [(0, .ref (A 14 0 0))] [] _ _ _
          refine w_aload_n 0 dX14_factor_147 rfl rfl rfl ?_
          obtain ⟨v69, ρ70, e71, hr⟩ := bw_some hr
          rcases v69 with w73e | w73
          · exact noko (bw_er hr)
          have hr := bw_ok hr
          refine c_X14_244 (As := []) (rest := []) (fun l => hkE  hz e71 l) hrm dX14_factor_148 rfl rfl (by omega) (Nat.le_of_ble_eq_true rfl) (Nat.le_of_ble_eq_true rfl) (hz.o14 rfl) rfl (Nat.le_of_ble_eq_true rfl) (fun vr h2 hq => ?_) (fun E9 h9 hq => hq.elim)
          obtain ⟨rfl, hz⟩ := hq
          show wp _ _ 151 [(0, .ref (A 14 0 0))] [] _ _ _
          refine w_aload_n 0 dX14_factor_151 rfl rfl rfl ?_
          refine w_bipush 101 dX14_factor_152 rfl rfl ?_
          obtain ⟨v74, ρ75, e76, hr⟩ := bw_some hr
          rcases v74 with w78e | w78
          · exact noko (bw_er hr)
          have hr := bw_ok hr
          refine c_X14_284 (As := [.int 101]) (rest := []) (fun l => t_X14_take_  hz e76 l) hrm dX14_factor_154 rfl rfl (by omega) (Nat.le_of_ble_eq_true rfl) (Nat.le_of_ble_eq_true rfl) (hz.o14 rfl) rfl (Nat.le_of_ble_eq_true rfl) (fun vr h2 hq => ?_) (fun E9 h9 hq => hq.elim)
          obtain ⟨rfl, hz⟩ := hq
          show wp _ _ 157 [(0, .ref (A 14 0 0))] [] _ _ _
          refine w_aload_n 0 dX14_factor_157 rfl rfl rfl ?_
          refine w_dup dX14_factor_158 rfl rfl ?_
          refine g_X14_229 dX14_factor_159 rfl (hz.o14 rfl) (hz.i907 rfl) ?_
          refine w_iconst 1 dX14_factor_162 rfl rfl ?_
          refine w_isub dX14_factor_163 rfl ?_
          refine p_X14_229 dX14_factor_164 rfl (hz.o14 rfl) ?_
          obtain ⟨ρ79, e80, hr⟩ := lt_e hr
          have hz := (hz.s907 (v := ((zI ρ75 907 0 0 0) - 1)) rfl).tr e80
          refine w_goto 240 dX14_factor_167 rfl ?_
          refine w_vret hf dX14_factor_240 rfl (Nat.le_of_ble_eq_true rfl) (Nat.le_of_ble_eq_true rfl) ?_
          obtain ⟨rfl, rfl⟩ := retw hr
          exact ⟨rfl, hz⟩
      · have hr := bf q114 hr
        refine w_aload_n 0 dX14_factor_117 rfl rfl rfl ?_
        refine w_iconst 2 dX14_factor_118 rfl rfl ?_
        refine w_lconst 0 dX14_factor_119 rfl rfl ?_
        obtain ⟨v81, ρ82, e83, hr⟩ := bq_some hr
        refine c_X14_247 (As := [.int 2, .long 0]) (rest := []) (fun l => s_X14_emit  hz e83 l) hrm dX14_factor_120 rfl rfl (by omega) (Nat.le_of_ble_eq_true rfl) (Nat.le_of_ble_eq_true rfl) (hz.o14 rfl) rfl (Nat.le_of_ble_eq_true rfl) (fun vr h2 hq => ?_) (fun E9 h9 hq => hq.elim)
        obtain ⟨rfl, hz⟩ := hq
        show wp _ _ 123 [(0, .ref (A 14 0 0))] [] _ _ _
        refine w_aload_n 0 dX14_factor_123 rfl rfl rfl ?_
        obtain ⟨v85, ρ86, e87, hr⟩ := bw_some hr
        rcases v85 with w89e | w89
        · exact noko (bw_er hr)
        have hr := bw_ok hr
        refine c_X14_226 (As := []) (rest := []) (fun l => t_X14_take  hz e87 l) hrm dX14_factor_124 rfl rfl (by omega) (Nat.le_of_ble_eq_true rfl) (Nat.le_of_ble_eq_true rfl) (hz.o14 rfl) rfl (Nat.le_of_ble_eq_true rfl) (fun vr h2 hq => ?_) (fun E9 h9 hq => hq.elim)
        obtain ⟨rfl, hz⟩ := hq
        show wp _ _ 127 [(0, .ref (A 14 0 0))] [] _ _ _
        refine w_goto 240 dX14_factor_127 rfl ?_
        refine w_vret hf dX14_factor_240 rfl (Nat.le_of_ble_eq_true rfl) (Nat.le_of_ble_eq_true rfl) ?_
        obtain ⟨rfl, rfl⟩ := retw hr
        exact ⟨rfl, hz⟩
    · have hr := bf q38 hr
      refine w_aload_n 0 dX14_factor_41 rfl rfl rfl ?_
      refine g_X14_212 dX14_factor_42 rfl (hz.o14 rfl) (hz.i906 rfl) ?_
      refine w_if_eq 68 dX14_factor_45 rfl rfl (fun q45 => ?_) (fun q45 => ?_)
      · have hr := bt q45 hr
        refine w_iconst 0 dX14_factor_68 rfl rfl ?_
        refine w_istore_n [(1, .int 0), (0, .ref (A 14 0 0))] dX14_factor_69 rfl rfl (by decide) rfl ?_
        refine w_aload_n 1 dX14_factor_70 rfl rfl rfl ?_
        refine w_iload_n 0 dX14_factor_71 rfl rfl rfl ?_
        refine w_iconst (-1) dX14_factor_72 rfl rfl ?_
        refine w_icmp_eq 80 dX14_factor_73 rfl rfl (fun q73 => ?_) (fun q73 => ?_)
        · have hr := bt q73 hr
          refine w_iconst 0 dX14_factor_80 rfl rfl ?_
          refine w_lv [(0, .ref (A 14 0 0)), (1, .int 0)] [1, 0] rfl ?_
          exact u_X14_factor_81 hf hrm hkE hkF hdk hdj  0 0 _ _ hz  hr
        · have hr := bf q73 hr
          refine w_iconst 1 dX14_factor_76 rfl rfl ?_
          refine w_goto 81 dX14_factor_77 rfl ?_
          refine w_lv [(0, .ref (A 14 0 0)), (1, .int 0)] [1, 0] rfl ?_
          exact u_X14_factor_81 hf hrm hkE hkF hdk hdj  0 1 _ _ hz  hr
      · have hr := bf q45 hr
        refine w_aload_n 0 dX14_factor_48 rfl rfl rfl ?_
        refine w_aload_n 0 dX14_factor_49 rfl rfl rfl ?_
        refine g_X14_270 dX14_factor_50 rfl (hz.o14 rfl) (hz.i910 rfl) ?_
        refine w_aload_n 0 dX14_factor_53 rfl rfl rfl ?_
        refine g_X14_30 dX14_factor_54 rfl (hz.o14 rfl) (hz.r904 rfl) ?_
        refine w_aload_n 0 dX14_factor_57 rfl rfl rfl ?_
        refine g_X14_204 dX14_factor_58 rfl (hz.o14 rfl) (hz.i905 rfl) ?_
        obtain ⟨g105, hr⟩ := gd hr
        refine w_lald dX14_factor_61 rfl (hz.k904 rfl) (gin (hz.n904 rfl) g105) (hz.x904 rfl) ?_
        obtain ⟨v106, ρ107, e108, hr⟩ := bq_some hr
        refine c_X14_273 (As := [.int (zI ρ6 910 0 0 0), .long (zJ ρ6 1928 0 0 (Int32.toNatClampNeg (zI ρ6 905 0 0 0)))]) (rest := []) (fun l => s_X14_columnOf  hz e108 l) hrm dX14_factor_62 rfl rfl (by omega) (Nat.le_of_ble_eq_true rfl) (Nat.le_of_ble_eq_true rfl) (hz.o14 rfl) rfl (Nat.le_of_ble_eq_true rfl) (fun vr h2 hq => ?_) (fun E9 h9 hq => hq.elim)
        obtain ⟨rfl, hz⟩ := hq
        show wp _ _ 65 [(0, .ref (A 14 0 0))] [.int v106] _ _ _
        refine w_goto 69 dX14_factor_65 rfl ?_
        refine w_istore_n [(1, .int v106), (0, .ref (A 14 0 0))] dX14_factor_69 rfl rfl (by decide) rfl ?_
        refine w_aload_n 1 dX14_factor_70 rfl rfl rfl ?_
        refine w_iload_n 0 dX14_factor_71 rfl rfl rfl ?_
        refine w_iconst (-1) dX14_factor_72 rfl rfl ?_
        refine w_icmp_eq 80 dX14_factor_73 rfl rfl (fun q73 => ?_) (fun q73 => ?_)
        · have hr := bt q73 hr
          refine w_iconst 0 dX14_factor_80 rfl rfl ?_
          refine w_lv [(0, .ref (A 14 0 0)), (1, .int v106)] [1, 0] rfl ?_
          exact u_X14_factor_81 hf hrm hkE hkF hdk hdj  v106 0 _ _ hz  hr
        · have hr := bf q73 hr
          refine w_iconst 1 dX14_factor_76 rfl rfl ?_
          refine w_goto 81 dX14_factor_77 rfl ?_
          refine w_lv [(0, .ref (A 14 0 0)), (1, .int v106)] [1, 0] rfl ?_
          exact u_X14_factor_81 hf hrm hkE hkF hdk hdj  v106 1 _ _ hz  hr
  · have hr := bf q7 hr
    refine w_aload_n 0 dX14_factor_10 rfl rfl rfl ?_
    refine w_iconst 0 dX14_factor_11 rfl rfl ?_
    refine w_aload_n 0 dX14_factor_12 rfl rfl rfl ?_
    refine g_X14_30 dX14_factor_13 rfl (hz.o14 rfl) (hz.r904 rfl) ?_
    refine w_aload_n 0 dX14_factor_16 rfl rfl rfl ?_
    refine g_X14_204 dX14_factor_17 rfl (hz.o14 rfl) (hz.i905 rfl) ?_
    obtain ⟨g110, hr⟩ := gd hr
    refine w_lald dX14_factor_20 rfl (hz.k904 rfl) (gin (hz.n904 rfl) g110) (hz.x904 rfl) ?_
    obtain ⟨v111, ρ112, e113, hr⟩ := bq_some hr
    refine c_X14_247 (As := [.int 0, .long (zJ ρ2 1928 0 0 (Int32.toNatClampNeg (zI ρ2 905 0 0 0)))]) (rest := []) (fun l => s_X14_emit  hz e113 l) hrm dX14_factor_21 rfl rfl (by omega) (Nat.le_of_ble_eq_true rfl) (Nat.le_of_ble_eq_true rfl) (hz.o14 rfl) rfl (Nat.le_of_ble_eq_true rfl) (fun vr h2 hq => ?_) (fun E9 h9 hq => hq.elim)
    obtain ⟨rfl, hz⟩ := hq
    show wp _ _ 24 [(0, .ref (A 14 0 0))] [] _ _ _
    refine w_aload_n 0 dX14_factor_24 rfl rfl rfl ?_
    obtain ⟨v115, ρ116, e117, hr⟩ := bw_some hr
    rcases v115 with w119e | w119
    · exact noko (bw_er hr)
    have hr := bw_ok hr
    refine c_X14_226 (As := []) (rest := []) (fun l => t_X14_take  hz e117 l) hrm dX14_factor_25 rfl rfl (by omega) (Nat.le_of_ble_eq_true rfl) (Nat.le_of_ble_eq_true rfl) (hz.o14 rfl) rfl (Nat.le_of_ble_eq_true rfl) (fun vr h2 hq => ?_) (fun E9 h9 hq => hq.elim)
    obtain ⟨rfl, hz⟩ := hq
    show wp _ _ 28 [(0, .ref (A 14 0 0))] [] _ _ _
    refine w_goto 240 dX14_factor_28 rfl ?_
    refine w_vret hf dX14_factor_240 rfl (Nat.le_of_ble_eq_true rfl) (Nat.le_of_ble_eq_true rfl) ?_
    obtain ⟨rfl, rfl⟩ := retw hr
    exact ⟨rfl, hz⟩

set_option maxRecDepth 20000 in
set_option maxHeartbeats 4000000 in
theorem x_X14_factor_204 {A : Nat → Nat → Nat → Nat} {σ ρ' : Zs} {v : Int32 × Int32} {x : Cxt} {kE : Zs → Option (Except (Int32 × Int32) (Unit) × Zs)} {kF : Zs → Option (Except (Int32 × Int32) (Unit) × Zs)} {dk : Nat} {dj : Nat}  (hf : m_fin 1 8 QF (XW A v σ ρ') x) (hrm : m_rm (dk + 2) 1 8 x) (hkE : ∀ {h : Hp} {σ ρ ρ' : Zs} {v : Unit} , Rp A h σ ρ → kE  ρ = some (.ok v, ρ') → ∀ l : Launch, Sp l mX14_expression dk 0 0 [.ref (A 14 0 0)] h (QV A v σ ρ') X0) (gkE : ∀ {h : Hp} {σ ρ ρ' : Zs} {v : Int32 × Int32} , Rp A h σ ρ → kE  ρ = some (.error v, ρ') → ∀ l : Launch, Sp l mX14_expression dk 1 8 [.ref (A 14 0 0)] h QF (XW A v σ ρ')) (hkF : ∀ {h : Hp} {σ ρ ρ' : Zs} {v : Unit} , Rp A h σ ρ → kF  ρ = some (.ok v, ρ') → ∀ l : Launch, Sp l mX14_factor dj 0 0 [.ref (A 14 0 0)] h (QV A v σ ρ') X0) (gkF : ∀ {h : Hp} {σ ρ ρ' : Zs} {v : Int32 × Int32} , Rp A h σ ρ → kF  ρ = some (.error v, ρ') → ∀ l : Launch, Sp l mX14_factor dj 1 8 [.ref (A 14 0 0)] h QF (XW A v σ ρ')) (hdk : 20 ≤ dk) (hdj : dj ≤ dk) : ∀ (z0 : Int32) (ρ : Zs) (h : Hp), Rp A h σ ρ → fX14_factor_204 kE kF  z0 ρ = some (.error v, ρ') → wp x mX14_factor 204 [(0, .ref (A 14 0 0))] [.int z0] h 0 0 := by
  intro z0 ρ h hz hr
  rw [fX14_factor_204.eq_1] at hr
  refine w_istore_n [(1, .int z0), (0, .ref (A 14 0 0))] dX14_factor_204 rfl rfl (by decide) rfl ?_
  refine w_aload_n 1 dX14_factor_205 rfl rfl rfl ?_
  obtain ⟨v25, ρ26, e27, hr⟩ := bw_some hr
  rcases v25 with w29e | w29
  · obtain ⟨rfl, rfl⟩ := rete (bw_er hr)
    refine c_X14_281 (As := []) (rest := []) (fun l => e_X14_deeper  hz e27 l) hrm dX14_factor_206 rfl rfl (by omega) (Nat.le_of_ble_eq_true rfl) (Nat.le_of_ble_eq_true rfl) (hz.o14 rfl) rfl (Nat.le_of_ble_eq_true rfl) (fun vr h2 hq => hq.elim) (fun E9 h9 hq => ?_)
    exact w_out hf (Nat.le_of_ble_eq_true rfl) (Nat.le_of_ble_eq_true rfl) hq
  have hr := bw_ok hr
  refine c_X14_281 (As := []) (rest := []) (fun l => t_X14_deeper  hz e27 l) hrm dX14_factor_206 rfl rfl (by omega) (Nat.le_of_ble_eq_true rfl) (Nat.le_of_ble_eq_true rfl) (hz.o14 rfl) rfl (Nat.le_of_ble_eq_true rfl) (fun vr h2 hq => ?_) (fun E9 h9 hq => hq.elim)
  obtain ⟨rfl, hz⟩ := hq
  show wp _ _ 209 [(1, .int z0), (0, .ref (A 14 0 0))] [] _ _ _
  refine w_aload_n 1 dX14_factor_209 rfl rfl rfl ?_
  obtain ⟨v30, ρ31, e32, hr⟩ := bw_some hr
  rcases v30 with w34e | w34
  · obtain ⟨rfl, rfl⟩ := rete (bw_er hr)
    refine c_X14_226 (As := []) (rest := []) (fun l => e_X14_take  hz e32 l) hrm dX14_factor_210 rfl rfl (by omega) (Nat.le_of_ble_eq_true rfl) (Nat.le_of_ble_eq_true rfl) (hz.o14 rfl) rfl (Nat.le_of_ble_eq_true rfl) (fun vr h2 hq => hq.elim) (fun E9 h9 hq => ?_)
    exact w_out hf (Nat.le_of_ble_eq_true rfl) (Nat.le_of_ble_eq_true rfl) hq
  have hr := bw_ok hr
  refine c_X14_226 (As := []) (rest := []) (fun l => t_X14_take  hz e32 l) hrm dX14_factor_210 rfl rfl (by omega) (Nat.le_of_ble_eq_true rfl) (Nat.le_of_ble_eq_true rfl) (hz.o14 rfl) rfl (Nat.le_of_ble_eq_true rfl) (fun vr h2 hq => ?_) (fun E9 h9 hq => hq.elim)
  obtain ⟨rfl, hz⟩ := hq
  show wp _ _ 213 [(1, .int z0), (0, .ref (A 14 0 0))] [] _ _ _
  refine w_aload_n 1 dX14_factor_213 rfl rfl rfl ?_
  obtain ⟨v35, ρ36, e37, hr⟩ := bw_some hr
  rcases v35 with w39e | w39
  · obtain ⟨rfl, rfl⟩ := rete (bw_er hr)
    refine c_X14_263 (As := []) (rest := []) (fun l => gkF  hz e37 l) hrm dX14_factor_214 rfl rfl (by omega) (Nat.le_of_ble_eq_true rfl) (Nat.le_of_ble_eq_true rfl) (hz.o14 rfl) rfl (Nat.le_of_ble_eq_true rfl) (fun vr h2 hq => hq.elim) (fun E9 h9 hq => ?_)
    exact w_out hf (Nat.le_of_ble_eq_true rfl) (Nat.le_of_ble_eq_true rfl) hq
  have hr := bw_ok hr
  refine c_X14_263 (As := []) (rest := []) (fun l => hkF  hz e37 l) hrm dX14_factor_214 rfl rfl (by omega) (Nat.le_of_ble_eq_true rfl) (Nat.le_of_ble_eq_true rfl) (hz.o14 rfl) rfl (Nat.le_of_ble_eq_true rfl) (fun vr h2 hq => ?_) (fun E9 h9 hq => hq.elim)
  obtain ⟨rfl, hz⟩ := hq
  show wp _ _ 217 [(1, .int z0), (0, .ref (A 14 0 0))] [] _ _ _
  refine w_aload_n 1 dX14_factor_217 rfl rfl rfl ?_
  refine w_dup dX14_factor_218 rfl rfl ?_
  refine g_X14_229 dX14_factor_219 rfl (hz.o14 rfl) (hz.i907 rfl) ?_
  refine w_iconst 1 dX14_factor_222 rfl rfl ?_
  refine w_isub dX14_factor_223 rfl ?_
  refine p_X14_229 dX14_factor_224 rfl (hz.o14 rfl) ?_
  obtain ⟨ρ40, e41, hr⟩ := lt_e hr
  have hz := (hz.s907 (v := ((zI ρ36 907 0 0 0) - 1)) rfl).tr e41
  refine w_aload_n 1 dX14_factor_227 rfl rfl rfl ?_
  refine w_iload_n 0 dX14_factor_228 rfl rfl rfl ?_
  refine w_lconst 0 dX14_factor_229 rfl rfl ?_
  obtain ⟨v42, ρ43, e44, hr⟩ := bq_some hr
  refine c_X14_247 (As := [.int z0, .long 0]) (rest := []) (fun l => s_X14_emit  hz e44 l) hrm dX14_factor_230 rfl rfl (by omega) (Nat.le_of_ble_eq_true rfl) (Nat.le_of_ble_eq_true rfl) (hz.o14 rfl) rfl (Nat.le_of_ble_eq_true rfl) (fun vr h2 hq => ?_) (fun E9 h9 hq => hq.elim)
  obtain ⟨rfl, hz⟩ := hq
  show wp _ _ 233 [(1, .int z0), (0, .ref (A 14 0 0))] [] _ _ _
  refine w_goto 240 dX14_factor_233 rfl ?_
  exact noek hr
set_option maxRecDepth 20000 in
set_option maxHeartbeats 4000000 in
theorem x_X14_factor_81 {A : Nat → Nat → Nat → Nat} {σ ρ' : Zs} {v : Int32 × Int32} {x : Cxt} {kE : Zs → Option (Except (Int32 × Int32) (Unit) × Zs)} {kF : Zs → Option (Except (Int32 × Int32) (Unit) × Zs)} {dk : Nat} {dj : Nat}  (hf : m_fin 1 8 QF (XW A v σ ρ') x) (hrm : m_rm (dk + 2) 1 8 x) (hkE : ∀ {h : Hp} {σ ρ ρ' : Zs} {v : Unit} , Rp A h σ ρ → kE  ρ = some (.ok v, ρ') → ∀ l : Launch, Sp l mX14_expression dk 0 0 [.ref (A 14 0 0)] h (QV A v σ ρ') X0) (gkE : ∀ {h : Hp} {σ ρ ρ' : Zs} {v : Int32 × Int32} , Rp A h σ ρ → kE  ρ = some (.error v, ρ') → ∀ l : Launch, Sp l mX14_expression dk 1 8 [.ref (A 14 0 0)] h QF (XW A v σ ρ')) (hkF : ∀ {h : Hp} {σ ρ ρ' : Zs} {v : Unit} , Rp A h σ ρ → kF  ρ = some (.ok v, ρ') → ∀ l : Launch, Sp l mX14_factor dj 0 0 [.ref (A 14 0 0)] h (QV A v σ ρ') X0) (gkF : ∀ {h : Hp} {σ ρ ρ' : Zs} {v : Int32 × Int32} , Rp A h σ ρ → kF  ρ = some (.error v, ρ') → ∀ l : Launch, Sp l mX14_factor dj 1 8 [.ref (A 14 0 0)] h QF (XW A v σ ρ')) (hdk : 20 ≤ dk) (hdj : dj ≤ dk) : ∀ (y1 : Int32) (z0 : Int32) (ρ : Zs) (h : Hp), Rp A h σ ρ → fX14_factor_81 kE kF  y1 z0 ρ = some (.error v, ρ') → wp x mX14_factor 81 [(0, .ref (A 14 0 0)), (1, .int y1)] [.int z0, .ref (A 14 0 0)] h 0 0 := by
  intro y1 z0 ρ h hz hr
  rw [fX14_factor_81.eq_1] at hr
  refine w_iconst 2 dX14_factor_81 rfl rfl ?_
  refine w_aload_n 0 dX14_factor_82 rfl rfl rfl ?_
  refine g_X14_27 dX14_factor_83 rfl (hz.o14 rfl) (hz.r903 rfl) ?_
  refine w_aload_n 0 dX14_factor_86 rfl rfl rfl ?_
  refine g_X14_204 dX14_factor_87 rfl (hz.o14 rfl) (hz.i905 rfl) ?_
  obtain ⟨g90, hr⟩ := gd hr
  refine w_iald dX14_factor_90 rfl (hz.k903 rfl) (gin (hz.n903 rfl) g90) (hz.x903 rfl) ?_
  obtain ⟨v91, ρ92, e93, hr⟩ := bw_some hr
  rcases v91 with w95e | w95
  · obtain ⟨rfl, rfl⟩ := rete (bw_er hr)
    refine c_X14_277 (As := [.int z0, .int 2, .int (zI ρ 1927 0 0 (Int32.toNatClampNeg (zI ρ 905 0 0 0)))]) (rest := []) (fun l => e_X14_must  hz e93 l) hrm dX14_factor_91 rfl rfl (by omega) (Nat.le_of_ble_eq_true rfl) (Nat.le_of_ble_eq_true rfl) (hz.o14 rfl) rfl (Nat.le_of_ble_eq_true rfl) (fun vr h2 hq => hq.elim) (fun E9 h9 hq => ?_)
    exact w_out hf (Nat.le_of_ble_eq_true rfl) (Nat.le_of_ble_eq_true rfl) hq
  have hr := bw_ok hr
  refine c_X14_277 (As := [.int z0, .int 2, .int (zI ρ 1927 0 0 (Int32.toNatClampNeg (zI ρ 905 0 0 0)))]) (rest := []) (fun l => t_X14_must  hz e93 l) hrm dX14_factor_91 rfl rfl (by omega) (Nat.le_of_ble_eq_true rfl) (Nat.le_of_ble_eq_true rfl) (hz.o14 rfl) rfl (Nat.le_of_ble_eq_true rfl) (fun vr h2 hq => ?_) (fun E9 h9 hq => hq.elim)
  obtain ⟨rfl, hz⟩ := hq
  show wp _ _ 94 [(0, .ref (A 14 0 0)), (1, .int y1)] [] _ _ _
  refine w_aload_n 0 dX14_factor_94 rfl rfl rfl ?_
  refine w_iconst 1 dX14_factor_95 rfl rfl ?_
  refine w_iload_n 1 dX14_factor_96 rfl rfl rfl ?_
  refine w_i2l dX14_factor_97 rfl ?_
  obtain ⟨v96, ρ97, e98, hr⟩ := bq_some hr
  refine c_X14_247 (As := [.int 1, .long ((y1 : Int32).toInt64)]) (rest := []) (fun l => s_X14_emit  hz e98 l) hrm dX14_factor_98 rfl rfl (by omega) (Nat.le_of_ble_eq_true rfl) (Nat.le_of_ble_eq_true rfl) (hz.o14 rfl) rfl (Nat.le_of_ble_eq_true rfl) (fun vr h2 hq => ?_) (fun E9 h9 hq => hq.elim)
  obtain ⟨rfl, hz⟩ := hq
  show wp _ _ 101 [(0, .ref (A 14 0 0)), (1, .int y1)] [] _ _ _
  refine w_aload_n 0 dX14_factor_101 rfl rfl rfl ?_
  obtain ⟨v100, ρ101, e102, hr⟩ := bw_some hr
  rcases v100 with w104e | w104
  · obtain ⟨rfl, rfl⟩ := rete (bw_er hr)
    refine c_X14_226 (As := []) (rest := []) (fun l => e_X14_take  hz e102 l) hrm dX14_factor_102 rfl rfl (by omega) (Nat.le_of_ble_eq_true rfl) (Nat.le_of_ble_eq_true rfl) (hz.o14 rfl) rfl (Nat.le_of_ble_eq_true rfl) (fun vr h2 hq => hq.elim) (fun E9 h9 hq => ?_)
    exact w_out hf (Nat.le_of_ble_eq_true rfl) (Nat.le_of_ble_eq_true rfl) hq
  have hr := bw_ok hr
  refine c_X14_226 (As := []) (rest := []) (fun l => t_X14_take  hz e102 l) hrm dX14_factor_102 rfl rfl (by omega) (Nat.le_of_ble_eq_true rfl) (Nat.le_of_ble_eq_true rfl) (hz.o14 rfl) rfl (Nat.le_of_ble_eq_true rfl) (fun vr h2 hq => ?_) (fun E9 h9 hq => hq.elim)
  obtain ⟨rfl, hz⟩ := hq
  show wp _ _ 105 [(0, .ref (A 14 0 0)), (1, .int y1)] [] _ _ _
  refine w_goto 240 dX14_factor_105 rfl ?_
  exact noek hr
set_option maxRecDepth 20000 in
set_option maxHeartbeats 4000000 in
theorem e_X14_factor {A : Nat → Nat → Nat → Nat} {h : Hp} {σ ρ ρ' : Zs} {v : Int32 × Int32} {kE : Zs → Option (Except (Int32 × Int32) (Unit) × Zs)} {kF : Zs → Option (Except (Int32 × Int32) (Unit) × Zs)} {dk : Nat} {dj : Nat} (hkE : ∀ {h : Hp} {σ ρ ρ' : Zs} {v : Unit} , Rp A h σ ρ → kE  ρ = some (.ok v, ρ') → ∀ l : Launch, Sp l mX14_expression dk 0 0 [.ref (A 14 0 0)] h (QV A v σ ρ') X0) (gkE : ∀ {h : Hp} {σ ρ ρ' : Zs} {v : Int32 × Int32} , Rp A h σ ρ → kE  ρ = some (.error v, ρ') → ∀ l : Launch, Sp l mX14_expression dk 1 8 [.ref (A 14 0 0)] h QF (XW A v σ ρ')) (hkF : ∀ {h : Hp} {σ ρ ρ' : Zs} {v : Unit} , Rp A h σ ρ → kF  ρ = some (.ok v, ρ') → ∀ l : Launch, Sp l mX14_factor dj 0 0 [.ref (A 14 0 0)] h (QV A v σ ρ') X0) (gkF : ∀ {h : Hp} {σ ρ ρ' : Zs} {v : Int32 × Int32} , Rp A h σ ρ → kF  ρ = some (.error v, ρ') → ∀ l : Launch, Sp l mX14_factor dj 1 8 [.ref (A 14 0 0)] h QF (XW A v σ ρ')) (hdk : 20 ≤ dk) (hdj : dj ≤ dk) (hz : Rp A h σ ρ) (hr : fX14_factor kE kF ρ = some (.error v, ρ')) : ∀ l : Launch, Sp l mX14_factor (dk + 2) 1 8 [.ref (A 14 0 0)] h QF (XW A v σ ρ') := by
  intro l
  refine Sp.of rfl rfl (lv := [(0, .ref (A 14 0 0))]) (Nat.le_of_ble_eq_true rfl) rfl (fun x hf hrm => ?_)
  rw [fX14_factor.eq_1] at hr
  refine w_aload_n 0 dX14_factor_0 rfl rfl rfl ?_
  refine w_sipush 201 dX14_factor_1 rfl rfl ?_
  obtain ⟨v1, ρ2, e3, hr⟩ := bq_some hr
  refine c_X14_223 (As := [.int 201]) (rest := []) (fun l => s_X14_is  hz e3 l) hrm dX14_factor_4 rfl rfl (by omega) (Nat.le_of_ble_eq_true rfl) (Nat.le_of_ble_eq_true rfl) (hz.o14 rfl) rfl (Nat.le_of_ble_eq_true rfl) (fun vr h2 hq => ?_) (fun E9 h9 hq => hq.elim)
  obtain ⟨rfl, hz⟩ := hq
  show wp _ _ 7 [(0, .ref (A 14 0 0))] [.int v1] _ _ _
  refine w_if_eq 31 dX14_factor_7 rfl rfl (fun q7 => ?_) (fun q7 => ?_)
  · have hr := bt q7 hr
    refine w_aload_n 0 dX14_factor_31 rfl rfl rfl ?_
    refine w_sipush 200 dX14_factor_32 rfl rfl ?_
    obtain ⟨v5, ρ6, e7, hr⟩ := bq_some hr
    refine c_X14_223 (As := [.int 200]) (rest := []) (fun l => s_X14_is  hz e7 l) hrm dX14_factor_35 rfl rfl (by omega) (Nat.le_of_ble_eq_true rfl) (Nat.le_of_ble_eq_true rfl) (hz.o14 rfl) rfl (Nat.le_of_ble_eq_true rfl) (fun vr h2 hq => ?_) (fun E9 h9 hq => hq.elim)
    obtain ⟨rfl, hz⟩ := hq
    show wp _ _ 38 [(0, .ref (A 14 0 0))] [.int v5] _ _ _
    refine w_if_eq 108 dX14_factor_38 rfl rfl (fun q38 => ?_) (fun q38 => ?_)
    · have hr := bt q38 hr
      refine w_aload_n 0 dX14_factor_108 rfl rfl rfl ?_
      refine w_bipush 27 dX14_factor_109 rfl rfl ?_
      obtain ⟨v9, ρ10, e11, hr⟩ := bq_some hr
      refine c_X14_223 (As := [.int 27]) (rest := []) (fun l => s_X14_is  hz e11 l) hrm dX14_factor_111 rfl rfl (by omega) (Nat.le_of_ble_eq_true rfl) (Nat.le_of_ble_eq_true rfl) (hz.o14 rfl) rfl (Nat.le_of_ble_eq_true rfl) (fun vr h2 hq => ?_) (fun E9 h9 hq => hq.elim)
      obtain ⟨rfl, hz⟩ := hq
      show wp _ _ 114 [(0, .ref (A 14 0 0))] [.int v9] _ _ _
      refine w_if_eq 130 dX14_factor_114 rfl rfl (fun q114 => ?_) (fun q114 => ?_)
      · have hr := bt q114 hr
        refine w_aload_n 0 dX14_factor_130 rfl rfl rfl ?_
        refine w_bipush 100 dX14_factor_131 rfl rfl ?_
        obtain ⟨v13, ρ14, e15, hr⟩ := bq_some hr
        refine c_X14_223 (As := [.int 100]) (rest := []) (fun l => s_X14_is  hz e15 l) hrm dX14_factor_133 rfl rfl (by omega) (Nat.le_of_ble_eq_true rfl) (Nat.le_of_ble_eq_true rfl) (hz.o14 rfl) rfl (Nat.le_of_ble_eq_true rfl) (fun vr h2 hq => ?_) (fun E9 h9 hq => hq.elim)
        obtain ⟨rfl, hz⟩ := hq
        show wp _ _ 136 [(0, .ref (A 14 0 0))] [.int v13] _ _ _
        refine w_if_eq 170 dX14_factor_136 rfl rfl (fun q136 => ?_) (fun q136 => ?_)
        · have hr := bt q136 hr
          refine w_aload_n 0 dX14_factor_170 rfl rfl rfl ?_
          refine w_bipush 106 dX14_factor_171 rfl rfl ?_
          obtain ⟨v17, ρ18, e19, hr⟩ := bq_some hr
          refine c_X14_223 (As := [.int 106]) (rest := []) (fun l => s_X14_is  hz e19 l) hrm dX14_factor_173 rfl rfl (by omega) (Nat.le_of_ble_eq_true rfl) (Nat.le_of_ble_eq_true rfl) (hz.o14 rfl) rfl (Nat.le_of_ble_eq_true rfl) (fun vr h2 hq => ?_) (fun E9 h9 hq => hq.elim)
          obtain ⟨rfl, hz⟩ := hq
          show wp _ _ 176 [(0, .ref (A 14 0 0))] [.int v17] _ _ _
          refine w_if_ne 188 dX14_factor_176 rfl rfl (fun q176 => ?_) (fun q176 => ?_)
          · have hr := bf q176 hr
            refine w_aload_n 0 dX14_factor_188 rfl rfl rfl ?_
            refine w_bipush 106 dX14_factor_189 rfl rfl ?_
            obtain ⟨v21, ρ22, e23, hr⟩ := bq_some hr
            refine c_X14_223 (As := [.int 106]) (rest := []) (fun l => s_X14_is  hz e23 l) hrm dX14_factor_191 rfl rfl (by omega) (Nat.le_of_ble_eq_true rfl) (Nat.le_of_ble_eq_true rfl) (hz.o14 rfl) rfl (Nat.le_of_ble_eq_true rfl) (fun vr h2 hq => ?_) (fun E9 h9 hq => hq.elim)
            obtain ⟨rfl, hz⟩ := hq
            show wp _ _ 194 [(0, .ref (A 14 0 0))] [.int v21] _ _ _
            refine w_if_eq 202 dX14_factor_194 rfl rfl (fun q194 => ?_) (fun q194 => ?_)
            · have hr := bt q194 hr
              refine w_bipush 40 dX14_factor_202 rfl rfl ?_
              refine w_lv [(0, .ref (A 14 0 0))] [0] rfl ?_
              exact x_X14_factor_204 hf hrm hkE gkE hkF gkF hdk hdj  40 _ _ hz  hr
            · have hr := bf q194 hr
              refine w_bipush 41 dX14_factor_197 rfl rfl ?_
              refine w_goto 204 dX14_factor_199 rfl ?_
              refine w_lv [(0, .ref (A 14 0 0))] [0] rfl ?_
              exact x_X14_factor_204 hf hrm hkE gkE hkF gkF hdk hdj  41 _ _ hz  hr
          · have hr := bt q176 hr
            refine w_aload_n 0 dX14_factor_179 rfl rfl rfl ?_
            refine w_bipush 30 dX14_factor_180 rfl rfl ?_
            obtain ⟨v46, ρ47, e48, hr⟩ := bq_some hr
            refine c_X14_223 (As := [.int 30]) (rest := []) (fun l => s_X14_is  hz e48 l) hrm dX14_factor_182 rfl rfl (by omega) (Nat.le_of_ble_eq_true rfl) (Nat.le_of_ble_eq_true rfl) (hz.o14 rfl) rfl (Nat.le_of_ble_eq_true rfl) (fun vr h2 hq => ?_) (fun E9 h9 hq => hq.elim)
            obtain ⟨rfl, hz⟩ := hq
            show wp _ _ 185 [(0, .ref (A 14 0 0))] [.int v46] _ _ _
            refine w_if_eq 236 dX14_factor_185 rfl rfl (fun q185 => ?_) (fun q185 => ?_)
            · have hr := bt q185 hr
              refine w_aload_n 0 dX14_factor_236 rfl rfl rfl ?_
              obtain ⟨v50, ρ51, e52, hr⟩ := bw_some hr
              rcases v50 with w54e | w54
              · obtain ⟨rfl, rfl⟩ := rete (bw_er hr)
                refine c_X14_286 (As := []) (rest := []) (fun l => e_X14_function hkE gkE hdk hz e52 l) hrm dX14_factor_237 rfl rfl (by omega) (Nat.le_of_ble_eq_true rfl) (Nat.le_of_ble_eq_true rfl) (hz.o14 rfl) rfl (Nat.le_of_ble_eq_true rfl) (fun vr h2 hq => hq.elim) (fun E9 h9 hq => ?_)
                exact w_out hf (Nat.le_of_ble_eq_true rfl) (Nat.le_of_ble_eq_true rfl) hq
              have hr := bw_ok hr
              refine c_X14_286 (As := []) (rest := []) (fun l => t_X14_function hkE hdk hz e52 l) hrm dX14_factor_237 rfl rfl (by omega) (Nat.le_of_ble_eq_true rfl) (Nat.le_of_ble_eq_true rfl) (hz.o14 rfl) rfl (Nat.le_of_ble_eq_true rfl) (fun vr h2 hq => ?_) (fun E9 h9 hq => hq.elim)
              obtain ⟨rfl, hz⟩ := hq
              show wp _ _ 240 [(0, .ref (A 14 0 0))] [] _ _ _
              exact noek hr
            · have hr := bf q185 hr
              refine w_aload_n 0 dX14_factor_188 rfl rfl rfl ?_
              refine w_bipush 106 dX14_factor_189 rfl rfl ?_
              obtain ⟨v55, ρ56, e57, hr⟩ := bq_some hr
              refine c_X14_223 (As := [.int 106]) (rest := []) (fun l => s_X14_is  hz e57 l) hrm dX14_factor_191 rfl rfl (by omega) (Nat.le_of_ble_eq_true rfl) (Nat.le_of_ble_eq_true rfl) (hz.o14 rfl) rfl (Nat.le_of_ble_eq_true rfl) (fun vr h2 hq => ?_) (fun E9 h9 hq => hq.elim)
              obtain ⟨rfl, hz⟩ := hq
              show wp _ _ 194 [(0, .ref (A 14 0 0))] [.int v55] _ _ _
              refine w_if_eq 202 dX14_factor_194 rfl rfl (fun q194 => ?_) (fun q194 => ?_)
              · have hr := bt q194 hr
                refine w_bipush 40 dX14_factor_202 rfl rfl ?_
                refine w_lv [(0, .ref (A 14 0 0))] [0] rfl ?_
                exact x_X14_factor_204 hf hrm hkE gkE hkF gkF hdk hdj  40 _ _ hz  hr
              · have hr := bf q194 hr
                refine w_bipush 41 dX14_factor_197 rfl rfl ?_
                refine w_goto 204 dX14_factor_199 rfl ?_
                refine w_lv [(0, .ref (A 14 0 0))] [0] rfl ?_
                exact x_X14_factor_204 hf hrm hkE gkE hkF gkF hdk hdj  41 _ _ hz  hr
        · have hr := bf q136 hr
          refine w_aload_n 0 dX14_factor_139 rfl rfl rfl ?_
          obtain ⟨v59, ρ60, e61, hr⟩ := bw_some hr
          rcases v59 with w63e | w63
          · obtain ⟨rfl, rfl⟩ := rete (bw_er hr)
            refine c_X14_281 (As := []) (rest := []) (fun l => e_X14_deeper  hz e61 l) hrm dX14_factor_140 rfl rfl (by omega) (Nat.le_of_ble_eq_true rfl) (Nat.le_of_ble_eq_true rfl) (hz.o14 rfl) rfl (Nat.le_of_ble_eq_true rfl) (fun vr h2 hq => hq.elim) (fun E9 h9 hq => ?_)
            exact w_out hf (Nat.le_of_ble_eq_true rfl) (Nat.le_of_ble_eq_true rfl) hq
          have hr := bw_ok hr
          refine c_X14_281 (As := []) (rest := []) (fun l => t_X14_deeper  hz e61 l) hrm dX14_factor_140 rfl rfl (by omega) (Nat.le_of_ble_eq_true rfl) (Nat.le_of_ble_eq_true rfl) (hz.o14 rfl) rfl (Nat.le_of_ble_eq_true rfl) (fun vr h2 hq => ?_) (fun E9 h9 hq => hq.elim)
          obtain ⟨rfl, hz⟩ := hq
          show wp _ _ 143 [(0, .ref (A 14 0 0))] [] _ _ _
          refine w_aload_n 0 dX14_factor_143 rfl rfl rfl ?_
          obtain ⟨v64, ρ65, e66, hr⟩ := bw_some hr
          rcases v64 with w68e | w68
          · obtain ⟨rfl, rfl⟩ := rete (bw_er hr)
            refine c_X14_226 (As := []) (rest := []) (fun l => e_X14_take  hz e66 l) hrm dX14_factor_144 rfl rfl (by omega) (Nat.le_of_ble_eq_true rfl) (Nat.le_of_ble_eq_true rfl) (hz.o14 rfl) rfl (Nat.le_of_ble_eq_true rfl) (fun vr h2 hq => hq.elim) (fun E9 h9 hq => ?_)
            exact w_out hf (Nat.le_of_ble_eq_true rfl) (Nat.le_of_ble_eq_true rfl) hq
          have hr := bw_ok hr
          refine c_X14_226 (As := []) (rest := []) (fun l => t_X14_take  hz e66 l) hrm dX14_factor_144 rfl rfl (by omega) (Nat.le_of_ble_eq_true rfl) (Nat.le_of_ble_eq_true rfl) (hz.o14 rfl) rfl (Nat.le_of_ble_eq_true rfl) (fun vr h2 hq => ?_) (fun E9 h9 hq => hq.elim)
          obtain ⟨rfl, hz⟩ := hq
          show wp _ _ 147 [(0, .ref (A 14 0 0))] [] _ _ _
          refine w_aload_n 0 dX14_factor_147 rfl rfl rfl ?_
          obtain ⟨v69, ρ70, e71, hr⟩ := bw_some hr
          rcases v69 with w73e | w73
          · obtain ⟨rfl, rfl⟩ := rete (bw_er hr)
            refine c_X14_244 (As := []) (rest := []) (fun l => gkE  hz e71 l) hrm dX14_factor_148 rfl rfl (by omega) (Nat.le_of_ble_eq_true rfl) (Nat.le_of_ble_eq_true rfl) (hz.o14 rfl) rfl (Nat.le_of_ble_eq_true rfl) (fun vr h2 hq => hq.elim) (fun E9 h9 hq => ?_)
            exact w_out hf (Nat.le_of_ble_eq_true rfl) (Nat.le_of_ble_eq_true rfl) hq
          have hr := bw_ok hr
          refine c_X14_244 (As := []) (rest := []) (fun l => hkE  hz e71 l) hrm dX14_factor_148 rfl rfl (by omega) (Nat.le_of_ble_eq_true rfl) (Nat.le_of_ble_eq_true rfl) (hz.o14 rfl) rfl (Nat.le_of_ble_eq_true rfl) (fun vr h2 hq => ?_) (fun E9 h9 hq => hq.elim)
          obtain ⟨rfl, hz⟩ := hq
          show wp _ _ 151 [(0, .ref (A 14 0 0))] [] _ _ _
          refine w_aload_n 0 dX14_factor_151 rfl rfl rfl ?_
          refine w_bipush 101 dX14_factor_152 rfl rfl ?_
          obtain ⟨v74, ρ75, e76, hr⟩ := bw_some hr
          rcases v74 with w78e | w78
          · obtain ⟨rfl, rfl⟩ := rete (bw_er hr)
            refine c_X14_284 (As := [.int 101]) (rest := []) (fun l => e_X14_take_  hz e76 l) hrm dX14_factor_154 rfl rfl (by omega) (Nat.le_of_ble_eq_true rfl) (Nat.le_of_ble_eq_true rfl) (hz.o14 rfl) rfl (Nat.le_of_ble_eq_true rfl) (fun vr h2 hq => hq.elim) (fun E9 h9 hq => ?_)
            exact w_out hf (Nat.le_of_ble_eq_true rfl) (Nat.le_of_ble_eq_true rfl) hq
          have hr := bw_ok hr
          refine c_X14_284 (As := [.int 101]) (rest := []) (fun l => t_X14_take_  hz e76 l) hrm dX14_factor_154 rfl rfl (by omega) (Nat.le_of_ble_eq_true rfl) (Nat.le_of_ble_eq_true rfl) (hz.o14 rfl) rfl (Nat.le_of_ble_eq_true rfl) (fun vr h2 hq => ?_) (fun E9 h9 hq => hq.elim)
          obtain ⟨rfl, hz⟩ := hq
          show wp _ _ 157 [(0, .ref (A 14 0 0))] [] _ _ _
          refine w_aload_n 0 dX14_factor_157 rfl rfl rfl ?_
          refine w_dup dX14_factor_158 rfl rfl ?_
          refine g_X14_229 dX14_factor_159 rfl (hz.o14 rfl) (hz.i907 rfl) ?_
          refine w_iconst 1 dX14_factor_162 rfl rfl ?_
          refine w_isub dX14_factor_163 rfl ?_
          refine p_X14_229 dX14_factor_164 rfl (hz.o14 rfl) ?_
          obtain ⟨ρ79, e80, hr⟩ := lt_e hr
          have hz := (hz.s907 (v := ((zI ρ75 907 0 0 0) - 1)) rfl).tr e80
          refine w_goto 240 dX14_factor_167 rfl ?_
          exact noek hr
      · have hr := bf q114 hr
        refine w_aload_n 0 dX14_factor_117 rfl rfl rfl ?_
        refine w_iconst 2 dX14_factor_118 rfl rfl ?_
        refine w_lconst 0 dX14_factor_119 rfl rfl ?_
        obtain ⟨v81, ρ82, e83, hr⟩ := bq_some hr
        refine c_X14_247 (As := [.int 2, .long 0]) (rest := []) (fun l => s_X14_emit  hz e83 l) hrm dX14_factor_120 rfl rfl (by omega) (Nat.le_of_ble_eq_true rfl) (Nat.le_of_ble_eq_true rfl) (hz.o14 rfl) rfl (Nat.le_of_ble_eq_true rfl) (fun vr h2 hq => ?_) (fun E9 h9 hq => hq.elim)
        obtain ⟨rfl, hz⟩ := hq
        show wp _ _ 123 [(0, .ref (A 14 0 0))] [] _ _ _
        refine w_aload_n 0 dX14_factor_123 rfl rfl rfl ?_
        obtain ⟨v85, ρ86, e87, hr⟩ := bw_some hr
        rcases v85 with w89e | w89
        · obtain ⟨rfl, rfl⟩ := rete (bw_er hr)
          refine c_X14_226 (As := []) (rest := []) (fun l => e_X14_take  hz e87 l) hrm dX14_factor_124 rfl rfl (by omega) (Nat.le_of_ble_eq_true rfl) (Nat.le_of_ble_eq_true rfl) (hz.o14 rfl) rfl (Nat.le_of_ble_eq_true rfl) (fun vr h2 hq => hq.elim) (fun E9 h9 hq => ?_)
          exact w_out hf (Nat.le_of_ble_eq_true rfl) (Nat.le_of_ble_eq_true rfl) hq
        have hr := bw_ok hr
        refine c_X14_226 (As := []) (rest := []) (fun l => t_X14_take  hz e87 l) hrm dX14_factor_124 rfl rfl (by omega) (Nat.le_of_ble_eq_true rfl) (Nat.le_of_ble_eq_true rfl) (hz.o14 rfl) rfl (Nat.le_of_ble_eq_true rfl) (fun vr h2 hq => ?_) (fun E9 h9 hq => hq.elim)
        obtain ⟨rfl, hz⟩ := hq
        show wp _ _ 127 [(0, .ref (A 14 0 0))] [] _ _ _
        refine w_goto 240 dX14_factor_127 rfl ?_
        exact noek hr
    · have hr := bf q38 hr
      refine w_aload_n 0 dX14_factor_41 rfl rfl rfl ?_
      refine g_X14_212 dX14_factor_42 rfl (hz.o14 rfl) (hz.i906 rfl) ?_
      refine w_if_eq 68 dX14_factor_45 rfl rfl (fun q45 => ?_) (fun q45 => ?_)
      · have hr := bt q45 hr
        refine w_iconst 0 dX14_factor_68 rfl rfl ?_
        refine w_istore_n [(1, .int 0), (0, .ref (A 14 0 0))] dX14_factor_69 rfl rfl (by decide) rfl ?_
        refine w_aload_n 1 dX14_factor_70 rfl rfl rfl ?_
        refine w_iload_n 0 dX14_factor_71 rfl rfl rfl ?_
        refine w_iconst (-1) dX14_factor_72 rfl rfl ?_
        refine w_icmp_eq 80 dX14_factor_73 rfl rfl (fun q73 => ?_) (fun q73 => ?_)
        · have hr := bt q73 hr
          refine w_iconst 0 dX14_factor_80 rfl rfl ?_
          refine w_lv [(0, .ref (A 14 0 0)), (1, .int 0)] [1, 0] rfl ?_
          exact x_X14_factor_81 hf hrm hkE gkE hkF gkF hdk hdj  0 0 _ _ hz  hr
        · have hr := bf q73 hr
          refine w_iconst 1 dX14_factor_76 rfl rfl ?_
          refine w_goto 81 dX14_factor_77 rfl ?_
          refine w_lv [(0, .ref (A 14 0 0)), (1, .int 0)] [1, 0] rfl ?_
          exact x_X14_factor_81 hf hrm hkE gkE hkF gkF hdk hdj  0 1 _ _ hz  hr
      · have hr := bf q45 hr
        refine w_aload_n 0 dX14_factor_48 rfl rfl rfl ?_
        refine w_aload_n 0 dX14_factor_49 rfl rfl rfl ?_
        refine g_X14_270 dX14_factor_50 rfl (hz.o14 rfl) (hz.i910 rfl) ?_
        refine w_aload_n 0 dX14_factor_53 rfl rfl rfl ?_
        refine g_X14_30 dX14_factor_54 rfl (hz.o14 rfl) (hz.r904 rfl) ?_
        refine w_aload_n 0 dX14_factor_57 rfl rfl rfl ?_
        refine g_X14_204 dX14_factor_58 rfl (hz.o14 rfl) (hz.i905 rfl) ?_
        obtain ⟨g105, hr⟩ := gd hr
        refine w_lald dX14_factor_61 rfl (hz.k904 rfl) (gin (hz.n904 rfl) g105) (hz.x904 rfl) ?_
        obtain ⟨v106, ρ107, e108, hr⟩ := bq_some hr
        refine c_X14_273 (As := [.int (zI ρ6 910 0 0 0), .long (zJ ρ6 1928 0 0 (Int32.toNatClampNeg (zI ρ6 905 0 0 0)))]) (rest := []) (fun l => s_X14_columnOf  hz e108 l) hrm dX14_factor_62 rfl rfl (by omega) (Nat.le_of_ble_eq_true rfl) (Nat.le_of_ble_eq_true rfl) (hz.o14 rfl) rfl (Nat.le_of_ble_eq_true rfl) (fun vr h2 hq => ?_) (fun E9 h9 hq => hq.elim)
        obtain ⟨rfl, hz⟩ := hq
        show wp _ _ 65 [(0, .ref (A 14 0 0))] [.int v106] _ _ _
        refine w_goto 69 dX14_factor_65 rfl ?_
        refine w_istore_n [(1, .int v106), (0, .ref (A 14 0 0))] dX14_factor_69 rfl rfl (by decide) rfl ?_
        refine w_aload_n 1 dX14_factor_70 rfl rfl rfl ?_
        refine w_iload_n 0 dX14_factor_71 rfl rfl rfl ?_
        refine w_iconst (-1) dX14_factor_72 rfl rfl ?_
        refine w_icmp_eq 80 dX14_factor_73 rfl rfl (fun q73 => ?_) (fun q73 => ?_)
        · have hr := bt q73 hr
          refine w_iconst 0 dX14_factor_80 rfl rfl ?_
          refine w_lv [(0, .ref (A 14 0 0)), (1, .int v106)] [1, 0] rfl ?_
          exact x_X14_factor_81 hf hrm hkE gkE hkF gkF hdk hdj  v106 0 _ _ hz  hr
        · have hr := bf q73 hr
          refine w_iconst 1 dX14_factor_76 rfl rfl ?_
          refine w_goto 81 dX14_factor_77 rfl ?_
          refine w_lv [(0, .ref (A 14 0 0)), (1, .int v106)] [1, 0] rfl ?_
          exact x_X14_factor_81 hf hrm hkE gkE hkF gkF hdk hdj  v106 1 _ _ hz  hr
  · have hr := bf q7 hr
    refine w_aload_n 0 dX14_factor_10 rfl rfl rfl ?_
    refine w_iconst 0 dX14_factor_11 rfl rfl ?_
    refine w_aload_n 0 dX14_factor_12 rfl rfl rfl ?_
    refine g_X14_30 dX14_factor_13 rfl (hz.o14 rfl) (hz.r904 rfl) ?_
    refine w_aload_n 0 dX14_factor_16 rfl rfl rfl ?_
    refine g_X14_204 dX14_factor_17 rfl (hz.o14 rfl) (hz.i905 rfl) ?_
    obtain ⟨g110, hr⟩ := gd hr
    refine w_lald dX14_factor_20 rfl (hz.k904 rfl) (gin (hz.n904 rfl) g110) (hz.x904 rfl) ?_
    obtain ⟨v111, ρ112, e113, hr⟩ := bq_some hr
    refine c_X14_247 (As := [.int 0, .long (zJ ρ2 1928 0 0 (Int32.toNatClampNeg (zI ρ2 905 0 0 0)))]) (rest := []) (fun l => s_X14_emit  hz e113 l) hrm dX14_factor_21 rfl rfl (by omega) (Nat.le_of_ble_eq_true rfl) (Nat.le_of_ble_eq_true rfl) (hz.o14 rfl) rfl (Nat.le_of_ble_eq_true rfl) (fun vr h2 hq => ?_) (fun E9 h9 hq => hq.elim)
    obtain ⟨rfl, hz⟩ := hq
    show wp _ _ 24 [(0, .ref (A 14 0 0))] [] _ _ _
    refine w_aload_n 0 dX14_factor_24 rfl rfl rfl ?_
    obtain ⟨v115, ρ116, e117, hr⟩ := bw_some hr
    rcases v115 with w119e | w119
    · obtain ⟨rfl, rfl⟩ := rete (bw_er hr)
      refine c_X14_226 (As := []) (rest := []) (fun l => e_X14_take  hz e117 l) hrm dX14_factor_25 rfl rfl (by omega) (Nat.le_of_ble_eq_true rfl) (Nat.le_of_ble_eq_true rfl) (hz.o14 rfl) rfl (Nat.le_of_ble_eq_true rfl) (fun vr h2 hq => hq.elim) (fun E9 h9 hq => ?_)
      exact w_out hf (Nat.le_of_ble_eq_true rfl) (Nat.le_of_ble_eq_true rfl) hq
    have hr := bw_ok hr
    refine c_X14_226 (As := []) (rest := []) (fun l => t_X14_take  hz e117 l) hrm dX14_factor_25 rfl rfl (by omega) (Nat.le_of_ble_eq_true rfl) (Nat.le_of_ble_eq_true rfl) (hz.o14 rfl) rfl (Nat.le_of_ble_eq_true rfl) (fun vr h2 hq => ?_) (fun E9 h9 hq => hq.elim)
    obtain ⟨rfl, hz⟩ := hq
    show wp _ _ 28 [(0, .ref (A 14 0 0))] [] _ _ _
    refine w_goto 240 dX14_factor_28 rfl ?_
    exact noek hr

set_option maxRecDepth 20000 in
set_option maxHeartbeats 4000000 in
theorem u_X14_product_4 {A : Nat → Nat → Nat → Nat} {σ ρ' : Zs} {v : Unit} {x : Cxt} {kF : Zs → Option (Except (Int32 × Int32) (Unit) × Zs)} {dk : Nat}  (hf : m_fin 0 0 (QV A v σ ρ') X0 x) (hrm : m_rm (dk + 1) 0 0 x) (hkF : ∀ {h : Hp} {σ ρ ρ' : Zs} {v : Unit} , Rp A h σ ρ → kF  ρ = some (.ok v, ρ') → ∀ l : Launch, Sp l mX14_factor dk 0 0 [.ref (A 14 0 0)] h (QV A v σ ρ') X0) (hdk : 20 ≤ dk) : ∀ (n : Nat) (ρ : Zs) (h : Hp), Rp A h σ ρ → fX14_product_4 kF  n  ρ = some (.ok v, ρ') → wp x mX14_product 4 [(0, .ref (A 14 0 0))] [] h 0 0
  | 0, ρ, h => fun hz hr => by
    rw [fX14_product_4.eq_1] at hr
    exact nono hr
  | n + 1, ρ, h => fun hz hr => by
    rw [fX14_product_4.eq_2] at hr
    refine w_aload_n 0 dX14_product_4 rfl rfl rfl ?_
    refine g_X14_24 dX14_product_5 rfl (hz.o14 rfl) (hz.r902 rfl) ?_
    refine w_aload_n 0 dX14_product_8 rfl rfl rfl ?_
    refine g_X14_204 dX14_product_9 rfl (hz.o14 rfl) (hz.i905 rfl) ?_
    obtain ⟨g6, hr⟩ := gd hr
    refine w_iald dX14_product_12 rfl (hz.k902 rfl) (gin (hz.n902 rfl) g6) (hz.x902 rfl) ?_
    refine w_i2l dX14_product_13 rfl ?_
    refine w_ldc2 dX14_product_14 rfl k_X14_266 ?_
    refine w_ldc2 dX14_product_17 rfl k_X14_268 ?_
    obtain ⟨v7, ρ8, e9, hr⟩ := bq_some hr
    refine c_X14_163 (b := 0) (As := [.long (((zI ρ 1926 0 0 (Int32.toNatClampNeg (zI ρ 905 0 0 0))) : Int32).toInt64), .long 107, .long 109]) (rest := []) (fun l => s_X14_isIn  hz e9 l) hrm dX14_product_20 rfl rfl (by omega) (Nat.le_of_ble_eq_true rfl) (Nat.le_of_ble_eq_true rfl) rfl (Nat.le_of_ble_eq_true rfl) (fun vr h2 hq => ?_) (fun E9 h9 hq => hq.elim)
    obtain ⟨rfl, hz⟩ := hq
    show wp _ _ 23 [(0, .ref (A 14 0 0))] [.int v7] _ _ _
    refine w_if_eq 59 dX14_product_23 rfl rfl (fun q23 => ?_) (fun q23 => ?_)
    · have hr := bt q23 hr
      refine w_vret hf dX14_product_59 rfl (Nat.le_of_ble_eq_true rfl) (Nat.le_of_ble_eq_true rfl) ?_
      obtain ⟨rfl, rfl⟩ := retw hr
      exact ⟨rfl, hz⟩
    · have hr := bf q23 hr
      refine w_aload_n 0 dX14_product_26 rfl rfl rfl ?_
      refine g_X14_24 dX14_product_27 rfl (hz.o14 rfl) (hz.r902 rfl) ?_
      refine w_aload_n 0 dX14_product_30 rfl rfl rfl ?_
      refine g_X14_204 dX14_product_31 rfl (hz.o14 rfl) (hz.i905 rfl) ?_
      obtain ⟨g11, hr⟩ := gd hr
      refine w_iald dX14_product_34 rfl (hz.k902 rfl) (gin (hz.n902 rfl) g11) (hz.x902 rfl) ?_
      refine w_bipush 105 dX14_product_35 rfl rfl ?_
      refine w_isub dX14_product_37 rfl ?_
      refine w_istore_n [(1, .int ((zI ρ8 1926 0 0 (Int32.toNatClampNeg (zI ρ8 905 0 0 0))) - 105)), (0, .ref (A 14 0 0))] dX14_product_38 rfl rfl (by decide) rfl ?_
      refine w_aload_n 1 dX14_product_39 rfl rfl rfl ?_
      obtain ⟨v12, ρ13, e14, hr⟩ := bw_some hr
      rcases v12 with w16e | w16
      · exact noko (bw_er hr)
      have hr := bw_ok hr
      refine c_X14_226 (As := []) (rest := []) (fun l => t_X14_take  hz e14 l) hrm dX14_product_40 rfl rfl (by omega) (Nat.le_of_ble_eq_true rfl) (Nat.le_of_ble_eq_true rfl) (hz.o14 rfl) rfl (Nat.le_of_ble_eq_true rfl) (fun vr h2 hq => ?_) (fun E9 h9 hq => hq.elim)
      obtain ⟨rfl, hz⟩ := hq
      show wp _ _ 43 [(1, .int ((zI ρ8 1926 0 0 (Int32.toNatClampNeg (zI ρ8 905 0 0 0))) - 105)), (0, .ref (A 14 0 0))] [] _ _ _
      refine w_aload_n 1 dX14_product_43 rfl rfl rfl ?_
      obtain ⟨v17, ρ18, e19, hr⟩ := bw_some hr
      rcases v17 with w21e | w21
      · exact noko (bw_er hr)
      have hr := bw_ok hr
      refine c_X14_263 (As := []) (rest := []) (fun l => hkF  hz e19 l) hrm dX14_product_44 rfl rfl (by omega) (Nat.le_of_ble_eq_true rfl) (Nat.le_of_ble_eq_true rfl) (hz.o14 rfl) rfl (Nat.le_of_ble_eq_true rfl) (fun vr h2 hq => ?_) (fun E9 h9 hq => hq.elim)
      obtain ⟨rfl, hz⟩ := hq
      show wp _ _ 47 [(1, .int ((zI ρ8 1926 0 0 (Int32.toNatClampNeg (zI ρ8 905 0 0 0))) - 105)), (0, .ref (A 14 0 0))] [] _ _ _
      refine w_aload_n 1 dX14_product_47 rfl rfl rfl ?_
      refine w_bipush 10 dX14_product_48 rfl rfl ?_
      refine w_iload_n 0 dX14_product_50 rfl rfl rfl ?_
      refine w_iadd dX14_product_51 rfl ?_
      refine w_lconst 0 dX14_product_52 rfl rfl ?_
      obtain ⟨v22, ρ23, e24, hr⟩ := bq_some hr
      refine c_X14_247 (As := [.int (10 + ((zI ρ8 1926 0 0 (Int32.toNatClampNeg (zI ρ8 905 0 0 0))) - 105)), .long 0]) (rest := []) (fun l => s_X14_emit  hz e24 l) hrm dX14_product_53 rfl rfl (by omega) (Nat.le_of_ble_eq_true rfl) (Nat.le_of_ble_eq_true rfl) (hz.o14 rfl) rfl (Nat.le_of_ble_eq_true rfl) (fun vr h2 hq => ?_) (fun E9 h9 hq => hq.elim)
      obtain ⟨rfl, hz⟩ := hq
      show wp _ _ 56 [(1, .int ((zI ρ8 1926 0 0 (Int32.toNatClampNeg (zI ρ8 905 0 0 0))) - 105)), (0, .ref (A 14 0 0))] [] _ _ _
      refine w_goto 4 dX14_product_56 rfl ?_
      refine w_lv [(0, .ref (A 14 0 0))] [1] rfl ?_
      exact u_X14_product_4 hf hrm hkF hdk  n  _ _ hz  hr
set_option maxRecDepth 20000 in
set_option maxHeartbeats 4000000 in
theorem t_X14_product {A : Nat → Nat → Nat → Nat} {h : Hp} {σ ρ ρ' : Zs} {v : Unit} {kF : Zs → Option (Except (Int32 × Int32) (Unit) × Zs)} {dk : Nat} (hkF : ∀ {h : Hp} {σ ρ ρ' : Zs} {v : Unit} , Rp A h σ ρ → kF  ρ = some (.ok v, ρ') → ∀ l : Launch, Sp l mX14_factor dk 0 0 [.ref (A 14 0 0)] h (QV A v σ ρ') X0) (hdk : 20 ≤ dk) (hz : Rp A h σ ρ) (hr : fX14_product kF ρ = some (.ok v, ρ')) : ∀ l : Launch, Sp l mX14_product (dk + 1) 0 0 [.ref (A 14 0 0)] h (QV A v σ ρ') X0 := by
  intro l
  refine Sp.of rfl rfl (lv := [(0, .ref (A 14 0 0))]) (Nat.le_of_ble_eq_true rfl) rfl (fun x hf hrm => ?_)
  rw [fX14_product.eq_1] at hr
  refine w_aload_n 0 dX14_product_0 rfl rfl rfl ?_
  obtain ⟨v1, ρ2, e3, hr⟩ := bw_some hr
  rcases v1 with w5e | w5
  · exact noko (bw_er hr)
  have hr := bw_ok hr
  refine c_X14_263 (As := []) (rest := []) (fun l => hkF  hz e3 l) hrm dX14_product_1 rfl rfl (by omega) (Nat.le_of_ble_eq_true rfl) (Nat.le_of_ble_eq_true rfl) (hz.o14 rfl) rfl (Nat.le_of_ble_eq_true rfl) (fun vr h2 hq => ?_) (fun E9 h9 hq => hq.elim)
  obtain ⟨rfl, hz⟩ := hq
  show wp _ _ 4 [(0, .ref (A 14 0 0))] [] _ _ _
  refine w_lv [(0, .ref (A 14 0 0))] [0] rfl ?_
  exact u_X14_product_4 hf hrm hkF hdk  FU  _ _ hz  hr

set_option maxRecDepth 20000 in
set_option maxHeartbeats 4000000 in
theorem x_X14_product_4 {A : Nat → Nat → Nat → Nat} {σ ρ' : Zs} {v : Int32 × Int32} {x : Cxt} {kF : Zs → Option (Except (Int32 × Int32) (Unit) × Zs)} {dk : Nat}  (hf : m_fin 1 8 QF (XW A v σ ρ') x) (hrm : m_rm (dk + 1) 1 8 x) (hkF : ∀ {h : Hp} {σ ρ ρ' : Zs} {v : Unit} , Rp A h σ ρ → kF  ρ = some (.ok v, ρ') → ∀ l : Launch, Sp l mX14_factor dk 0 0 [.ref (A 14 0 0)] h (QV A v σ ρ') X0) (gkF : ∀ {h : Hp} {σ ρ ρ' : Zs} {v : Int32 × Int32} , Rp A h σ ρ → kF  ρ = some (.error v, ρ') → ∀ l : Launch, Sp l mX14_factor dk 1 8 [.ref (A 14 0 0)] h QF (XW A v σ ρ')) (hdk : 20 ≤ dk) : ∀ (n : Nat) (ρ : Zs) (h : Hp), Rp A h σ ρ → fX14_product_4 kF  n  ρ = some (.error v, ρ') → wp x mX14_product 4 [(0, .ref (A 14 0 0))] [] h 0 0
  | 0, ρ, h => fun hz hr => by
    rw [fX14_product_4.eq_1] at hr
    exact nono hr
  | n + 1, ρ, h => fun hz hr => by
    rw [fX14_product_4.eq_2] at hr
    refine w_aload_n 0 dX14_product_4 rfl rfl rfl ?_
    refine g_X14_24 dX14_product_5 rfl (hz.o14 rfl) (hz.r902 rfl) ?_
    refine w_aload_n 0 dX14_product_8 rfl rfl rfl ?_
    refine g_X14_204 dX14_product_9 rfl (hz.o14 rfl) (hz.i905 rfl) ?_
    obtain ⟨g6, hr⟩ := gd hr
    refine w_iald dX14_product_12 rfl (hz.k902 rfl) (gin (hz.n902 rfl) g6) (hz.x902 rfl) ?_
    refine w_i2l dX14_product_13 rfl ?_
    refine w_ldc2 dX14_product_14 rfl k_X14_266 ?_
    refine w_ldc2 dX14_product_17 rfl k_X14_268 ?_
    obtain ⟨v7, ρ8, e9, hr⟩ := bq_some hr
    refine c_X14_163 (b := 0) (As := [.long (((zI ρ 1926 0 0 (Int32.toNatClampNeg (zI ρ 905 0 0 0))) : Int32).toInt64), .long 107, .long 109]) (rest := []) (fun l => s_X14_isIn  hz e9 l) hrm dX14_product_20 rfl rfl (by omega) (Nat.le_of_ble_eq_true rfl) (Nat.le_of_ble_eq_true rfl) rfl (Nat.le_of_ble_eq_true rfl) (fun vr h2 hq => ?_) (fun E9 h9 hq => hq.elim)
    obtain ⟨rfl, hz⟩ := hq
    show wp _ _ 23 [(0, .ref (A 14 0 0))] [.int v7] _ _ _
    refine w_if_eq 59 dX14_product_23 rfl rfl (fun q23 => ?_) (fun q23 => ?_)
    · have hr := bt q23 hr
      exact noek hr
    · have hr := bf q23 hr
      refine w_aload_n 0 dX14_product_26 rfl rfl rfl ?_
      refine g_X14_24 dX14_product_27 rfl (hz.o14 rfl) (hz.r902 rfl) ?_
      refine w_aload_n 0 dX14_product_30 rfl rfl rfl ?_
      refine g_X14_204 dX14_product_31 rfl (hz.o14 rfl) (hz.i905 rfl) ?_
      obtain ⟨g11, hr⟩ := gd hr
      refine w_iald dX14_product_34 rfl (hz.k902 rfl) (gin (hz.n902 rfl) g11) (hz.x902 rfl) ?_
      refine w_bipush 105 dX14_product_35 rfl rfl ?_
      refine w_isub dX14_product_37 rfl ?_
      refine w_istore_n [(1, .int ((zI ρ8 1926 0 0 (Int32.toNatClampNeg (zI ρ8 905 0 0 0))) - 105)), (0, .ref (A 14 0 0))] dX14_product_38 rfl rfl (by decide) rfl ?_
      refine w_aload_n 1 dX14_product_39 rfl rfl rfl ?_
      obtain ⟨v12, ρ13, e14, hr⟩ := bw_some hr
      rcases v12 with w16e | w16
      · obtain ⟨rfl, rfl⟩ := rete (bw_er hr)
        refine c_X14_226 (As := []) (rest := []) (fun l => e_X14_take  hz e14 l) hrm dX14_product_40 rfl rfl (by omega) (Nat.le_of_ble_eq_true rfl) (Nat.le_of_ble_eq_true rfl) (hz.o14 rfl) rfl (Nat.le_of_ble_eq_true rfl) (fun vr h2 hq => hq.elim) (fun E9 h9 hq => ?_)
        exact w_out hf (Nat.le_of_ble_eq_true rfl) (Nat.le_of_ble_eq_true rfl) hq
      have hr := bw_ok hr
      refine c_X14_226 (As := []) (rest := []) (fun l => t_X14_take  hz e14 l) hrm dX14_product_40 rfl rfl (by omega) (Nat.le_of_ble_eq_true rfl) (Nat.le_of_ble_eq_true rfl) (hz.o14 rfl) rfl (Nat.le_of_ble_eq_true rfl) (fun vr h2 hq => ?_) (fun E9 h9 hq => hq.elim)
      obtain ⟨rfl, hz⟩ := hq
      show wp _ _ 43 [(1, .int ((zI ρ8 1926 0 0 (Int32.toNatClampNeg (zI ρ8 905 0 0 0))) - 105)), (0, .ref (A 14 0 0))] [] _ _ _
      refine w_aload_n 1 dX14_product_43 rfl rfl rfl ?_
      obtain ⟨v17, ρ18, e19, hr⟩ := bw_some hr
      rcases v17 with w21e | w21
      · obtain ⟨rfl, rfl⟩ := rete (bw_er hr)
        refine c_X14_263 (As := []) (rest := []) (fun l => gkF  hz e19 l) hrm dX14_product_44 rfl rfl (by omega) (Nat.le_of_ble_eq_true rfl) (Nat.le_of_ble_eq_true rfl) (hz.o14 rfl) rfl (Nat.le_of_ble_eq_true rfl) (fun vr h2 hq => hq.elim) (fun E9 h9 hq => ?_)
        exact w_out hf (Nat.le_of_ble_eq_true rfl) (Nat.le_of_ble_eq_true rfl) hq
      have hr := bw_ok hr
      refine c_X14_263 (As := []) (rest := []) (fun l => hkF  hz e19 l) hrm dX14_product_44 rfl rfl (by omega) (Nat.le_of_ble_eq_true rfl) (Nat.le_of_ble_eq_true rfl) (hz.o14 rfl) rfl (Nat.le_of_ble_eq_true rfl) (fun vr h2 hq => ?_) (fun E9 h9 hq => hq.elim)
      obtain ⟨rfl, hz⟩ := hq
      show wp _ _ 47 [(1, .int ((zI ρ8 1926 0 0 (Int32.toNatClampNeg (zI ρ8 905 0 0 0))) - 105)), (0, .ref (A 14 0 0))] [] _ _ _
      refine w_aload_n 1 dX14_product_47 rfl rfl rfl ?_
      refine w_bipush 10 dX14_product_48 rfl rfl ?_
      refine w_iload_n 0 dX14_product_50 rfl rfl rfl ?_
      refine w_iadd dX14_product_51 rfl ?_
      refine w_lconst 0 dX14_product_52 rfl rfl ?_
      obtain ⟨v22, ρ23, e24, hr⟩ := bq_some hr
      refine c_X14_247 (As := [.int (10 + ((zI ρ8 1926 0 0 (Int32.toNatClampNeg (zI ρ8 905 0 0 0))) - 105)), .long 0]) (rest := []) (fun l => s_X14_emit  hz e24 l) hrm dX14_product_53 rfl rfl (by omega) (Nat.le_of_ble_eq_true rfl) (Nat.le_of_ble_eq_true rfl) (hz.o14 rfl) rfl (Nat.le_of_ble_eq_true rfl) (fun vr h2 hq => ?_) (fun E9 h9 hq => hq.elim)
      obtain ⟨rfl, hz⟩ := hq
      show wp _ _ 56 [(1, .int ((zI ρ8 1926 0 0 (Int32.toNatClampNeg (zI ρ8 905 0 0 0))) - 105)), (0, .ref (A 14 0 0))] [] _ _ _
      refine w_goto 4 dX14_product_56 rfl ?_
      refine w_lv [(0, .ref (A 14 0 0))] [1] rfl ?_
      exact x_X14_product_4 hf hrm hkF gkF hdk  n  _ _ hz  hr
set_option maxRecDepth 20000 in
set_option maxHeartbeats 4000000 in
theorem e_X14_product {A : Nat → Nat → Nat → Nat} {h : Hp} {σ ρ ρ' : Zs} {v : Int32 × Int32} {kF : Zs → Option (Except (Int32 × Int32) (Unit) × Zs)} {dk : Nat} (hkF : ∀ {h : Hp} {σ ρ ρ' : Zs} {v : Unit} , Rp A h σ ρ → kF  ρ = some (.ok v, ρ') → ∀ l : Launch, Sp l mX14_factor dk 0 0 [.ref (A 14 0 0)] h (QV A v σ ρ') X0) (gkF : ∀ {h : Hp} {σ ρ ρ' : Zs} {v : Int32 × Int32} , Rp A h σ ρ → kF  ρ = some (.error v, ρ') → ∀ l : Launch, Sp l mX14_factor dk 1 8 [.ref (A 14 0 0)] h QF (XW A v σ ρ')) (hdk : 20 ≤ dk) (hz : Rp A h σ ρ) (hr : fX14_product kF ρ = some (.error v, ρ')) : ∀ l : Launch, Sp l mX14_product (dk + 1) 1 8 [.ref (A 14 0 0)] h QF (XW A v σ ρ') := by
  intro l
  refine Sp.of rfl rfl (lv := [(0, .ref (A 14 0 0))]) (Nat.le_of_ble_eq_true rfl) rfl (fun x hf hrm => ?_)
  rw [fX14_product.eq_1] at hr
  refine w_aload_n 0 dX14_product_0 rfl rfl rfl ?_
  obtain ⟨v1, ρ2, e3, hr⟩ := bw_some hr
  rcases v1 with w5e | w5
  · obtain ⟨rfl, rfl⟩ := rete (bw_er hr)
    refine c_X14_263 (As := []) (rest := []) (fun l => gkF  hz e3 l) hrm dX14_product_1 rfl rfl (by omega) (Nat.le_of_ble_eq_true rfl) (Nat.le_of_ble_eq_true rfl) (hz.o14 rfl) rfl (Nat.le_of_ble_eq_true rfl) (fun vr h2 hq => hq.elim) (fun E9 h9 hq => ?_)
    exact w_out hf (Nat.le_of_ble_eq_true rfl) (Nat.le_of_ble_eq_true rfl) hq
  have hr := bw_ok hr
  refine c_X14_263 (As := []) (rest := []) (fun l => hkF  hz e3 l) hrm dX14_product_1 rfl rfl (by omega) (Nat.le_of_ble_eq_true rfl) (Nat.le_of_ble_eq_true rfl) (hz.o14 rfl) rfl (Nat.le_of_ble_eq_true rfl) (fun vr h2 hq => ?_) (fun E9 h9 hq => hq.elim)
  obtain ⟨rfl, hz⟩ := hq
  show wp _ _ 4 [(0, .ref (A 14 0 0))] [] _ _ _
  refine w_lv [(0, .ref (A 14 0 0))] [0] rfl ?_
  exact x_X14_product_4 hf hrm hkF gkF hdk  FU  _ _ hz  hr

set_option maxRecDepth 20000 in
set_option maxHeartbeats 4000000 in
theorem u_X14_sum_22 {A : Nat → Nat → Nat → Nat} {σ ρ' : Zs} {v : Unit} {x : Cxt} {kF : Zs → Option (Except (Int32 × Int32) (Unit) × Zs)} {dk : Nat} {k4 : Zs → Option (Except (Int32 × Int32) (Unit) × Zs)}  (hf : m_fin 0 0 (QV A v σ ρ') X0 x) (hrm : m_rm (dk + 2) 0 0 x) (hkF : ∀ {h : Hp} {σ ρ ρ' : Zs} {v : Unit} , Rp A h σ ρ → kF  ρ = some (.ok v, ρ') → ∀ l : Launch, Sp l mX14_factor dk 0 0 [.ref (A 14 0 0)] h (QV A v σ ρ') X0) (hdk : 20 ≤ dk) (hk4 : ∀ (ρ : Zs) (h : Hp), Rp A h σ ρ → k4  ρ = some (.ok v, ρ') → wp x mX14_sum 4 [(0, .ref (A 14 0 0))] [] h 0 0) : ∀ (ρ : Zs) (h : Hp), Rp A h σ ρ → fX14_sum_22 kF k4  ρ = some (.ok v, ρ') → wp x mX14_sum 22 [(0, .ref (A 14 0 0))] [] h 0 0 := by
  intro ρ h hz hr
  rw [fX14_sum_22.eq_1] at hr
  refine w_aload_n 0 dX14_sum_22 rfl rfl rfl ?_
  refine g_X14_24 dX14_sum_23 rfl (hz.o14 rfl) (hz.r902 rfl) ?_
  refine w_aload_n 0 dX14_sum_26 rfl rfl rfl ?_
  refine g_X14_204 dX14_sum_27 rfl (hz.o14 rfl) (hz.i905 rfl) ?_
  obtain ⟨g10, hr⟩ := gd hr
  refine w_iald dX14_sum_30 rfl (hz.k902 rfl) (gin (hz.n902 rfl) g10) (hz.x902 rfl) ?_
  refine w_bipush 105 dX14_sum_31 rfl rfl ?_
  refine w_isub dX14_sum_33 rfl ?_
  refine w_istore_n [(1, .int ((zI ρ 1926 0 0 (Int32.toNatClampNeg (zI ρ 905 0 0 0))) - 105)), (0, .ref (A 14 0 0))] dX14_sum_34 rfl rfl (by decide) rfl ?_
  refine w_aload_n 1 dX14_sum_35 rfl rfl rfl ?_
  obtain ⟨v11, ρ12, e13, hr⟩ := bw_some hr
  rcases v11 with w15e | w15
  · exact noko (bw_er hr)
  have hr := bw_ok hr
  refine c_X14_226 (As := []) (rest := []) (fun l => t_X14_take  hz e13 l) hrm dX14_sum_36 rfl rfl (by omega) (Nat.le_of_ble_eq_true rfl) (Nat.le_of_ble_eq_true rfl) (hz.o14 rfl) rfl (Nat.le_of_ble_eq_true rfl) (fun vr h2 hq => ?_) (fun E9 h9 hq => hq.elim)
  obtain ⟨rfl, hz⟩ := hq
  show wp _ _ 39 [(1, .int ((zI ρ 1926 0 0 (Int32.toNatClampNeg (zI ρ 905 0 0 0))) - 105)), (0, .ref (A 14 0 0))] [] _ _ _
  refine w_aload_n 1 dX14_sum_39 rfl rfl rfl ?_
  obtain ⟨v16, ρ17, e18, hr⟩ := bw_some hr
  rcases v16 with w20e | w20
  · exact noko (bw_er hr)
  have hr := bw_ok hr
  refine c_X14_260 (As := []) (rest := []) (fun l => t_X14_product hkF hdk hz e18 l) hrm dX14_sum_40 rfl rfl (by omega) (Nat.le_of_ble_eq_true rfl) (Nat.le_of_ble_eq_true rfl) (hz.o14 rfl) rfl (Nat.le_of_ble_eq_true rfl) (fun vr h2 hq => ?_) (fun E9 h9 hq => hq.elim)
  obtain ⟨rfl, hz⟩ := hq
  show wp _ _ 43 [(1, .int ((zI ρ 1926 0 0 (Int32.toNatClampNeg (zI ρ 905 0 0 0))) - 105)), (0, .ref (A 14 0 0))] [] _ _ _
  refine w_aload_n 1 dX14_sum_43 rfl rfl rfl ?_
  refine w_bipush 10 dX14_sum_44 rfl rfl ?_
  refine w_iload_n 0 dX14_sum_46 rfl rfl rfl ?_
  refine w_iadd dX14_sum_47 rfl ?_
  refine w_lconst 0 dX14_sum_48 rfl rfl ?_
  obtain ⟨v21, ρ22, e23, hr⟩ := bq_some hr
  refine c_X14_247 (As := [.int (10 + ((zI ρ 1926 0 0 (Int32.toNatClampNeg (zI ρ 905 0 0 0))) - 105)), .long 0]) (rest := []) (fun l => s_X14_emit  hz e23 l) hrm dX14_sum_49 rfl rfl (by omega) (Nat.le_of_ble_eq_true rfl) (Nat.le_of_ble_eq_true rfl) (hz.o14 rfl) rfl (Nat.le_of_ble_eq_true rfl) (fun vr h2 hq => ?_) (fun E9 h9 hq => hq.elim)
  obtain ⟨rfl, hz⟩ := hq
  show wp _ _ 52 [(1, .int ((zI ρ 1926 0 0 (Int32.toNatClampNeg (zI ρ 905 0 0 0))) - 105)), (0, .ref (A 14 0 0))] [] _ _ _
  refine w_goto 4 dX14_sum_52 rfl ?_
  refine w_lv [(0, .ref (A 14 0 0))] [1] rfl ?_
  exact hk4  _ _ hz  hr
set_option maxRecDepth 20000 in
set_option maxHeartbeats 4000000 in
theorem u_X14_sum_4 {A : Nat → Nat → Nat → Nat} {σ ρ' : Zs} {v : Unit} {x : Cxt} {kF : Zs → Option (Except (Int32 × Int32) (Unit) × Zs)} {dk : Nat}  (hf : m_fin 0 0 (QV A v σ ρ') X0 x) (hrm : m_rm (dk + 2) 0 0 x) (hkF : ∀ {h : Hp} {σ ρ ρ' : Zs} {v : Unit} , Rp A h σ ρ → kF  ρ = some (.ok v, ρ') → ∀ l : Launch, Sp l mX14_factor dk 0 0 [.ref (A 14 0 0)] h (QV A v σ ρ') X0) (hdk : 20 ≤ dk) : ∀ (n : Nat) (ρ : Zs) (h : Hp), Rp A h σ ρ → fX14_sum_4 kF  n  ρ = some (.ok v, ρ') → wp x mX14_sum 4 [(0, .ref (A 14 0 0))] [] h 0 0
  | 0, ρ, h => fun hz hr => by
    rw [fX14_sum_4.eq_1] at hr
    exact nono hr
  | n + 1, ρ, h => fun hz hr => by
    rw [fX14_sum_4.eq_2] at hr
    refine w_aload_n 0 dX14_sum_4 rfl rfl rfl ?_
    refine w_bipush 105 dX14_sum_5 rfl rfl ?_
    obtain ⟨v6, ρ7, e8, hr⟩ := bq_some hr
    refine c_X14_223 (As := [.int 105]) (rest := []) (fun l => s_X14_is  hz e8 l) hrm dX14_sum_7 rfl rfl (by omega) (Nat.le_of_ble_eq_true rfl) (Nat.le_of_ble_eq_true rfl) (hz.o14 rfl) rfl (Nat.le_of_ble_eq_true rfl) (fun vr h2 hq => ?_) (fun E9 h9 hq => hq.elim)
    obtain ⟨rfl, hz⟩ := hq
    show wp _ _ 10 [(0, .ref (A 14 0 0))] [.int v6] _ _ _
    refine w_if_ne 22 dX14_sum_10 rfl rfl (fun q10 => ?_) (fun q10 => ?_)
    · have hr := bf q10 hr
      refine w_lv [(0, .ref (A 14 0 0))] [0] rfl ?_
      exact u_X14_sum_22 hf hrm hkF hdk (fun  zb hb hzb  hrb => u_X14_sum_4 hf hrm hkF hdk  n  zb hb hzb  hrb)  _ _ hz  hr
    · have hr := bt q10 hr
      refine w_aload_n 0 dX14_sum_13 rfl rfl rfl ?_
      refine w_bipush 106 dX14_sum_14 rfl rfl ?_
      obtain ⟨v25, ρ26, e27, hr⟩ := bq_some hr
      refine c_X14_223 (As := [.int 106]) (rest := []) (fun l => s_X14_is  hz e27 l) hrm dX14_sum_16 rfl rfl (by omega) (Nat.le_of_ble_eq_true rfl) (Nat.le_of_ble_eq_true rfl) (hz.o14 rfl) rfl (Nat.le_of_ble_eq_true rfl) (fun vr h2 hq => ?_) (fun E9 h9 hq => hq.elim)
      obtain ⟨rfl, hz⟩ := hq
      show wp _ _ 19 [(0, .ref (A 14 0 0))] [.int v25] _ _ _
      refine w_if_eq 55 dX14_sum_19 rfl rfl (fun q19 => ?_) (fun q19 => ?_)
      · have hr := bt q19 hr
        refine w_vret hf dX14_sum_55 rfl (Nat.le_of_ble_eq_true rfl) (Nat.le_of_ble_eq_true rfl) ?_
        obtain ⟨rfl, rfl⟩ := retw hr
        exact ⟨rfl, hz⟩
      · have hr := bf q19 hr
        refine w_lv [(0, .ref (A 14 0 0))] [0] rfl ?_
        exact u_X14_sum_22 hf hrm hkF hdk (fun  zb hb hzb  hrb => u_X14_sum_4 hf hrm hkF hdk  n  zb hb hzb  hrb)  _ _ hz  hr
set_option maxRecDepth 20000 in
set_option maxHeartbeats 4000000 in
theorem t_X14_sum {A : Nat → Nat → Nat → Nat} {h : Hp} {σ ρ ρ' : Zs} {v : Unit} {kF : Zs → Option (Except (Int32 × Int32) (Unit) × Zs)} {dk : Nat} (hkF : ∀ {h : Hp} {σ ρ ρ' : Zs} {v : Unit} , Rp A h σ ρ → kF  ρ = some (.ok v, ρ') → ∀ l : Launch, Sp l mX14_factor dk 0 0 [.ref (A 14 0 0)] h (QV A v σ ρ') X0) (hdk : 20 ≤ dk) (hz : Rp A h σ ρ) (hr : fX14_sum kF ρ = some (.ok v, ρ')) : ∀ l : Launch, Sp l mX14_sum (dk + 2) 0 0 [.ref (A 14 0 0)] h (QV A v σ ρ') X0 := by
  intro l
  refine Sp.of rfl rfl (lv := [(0, .ref (A 14 0 0))]) (Nat.le_of_ble_eq_true rfl) rfl (fun x hf hrm => ?_)
  rw [fX14_sum.eq_1] at hr
  refine w_aload_n 0 dX14_sum_0 rfl rfl rfl ?_
  obtain ⟨v1, ρ2, e3, hr⟩ := bw_some hr
  rcases v1 with w5e | w5
  · exact noko (bw_er hr)
  have hr := bw_ok hr
  refine c_X14_260 (As := []) (rest := []) (fun l => t_X14_product hkF hdk hz e3 l) hrm dX14_sum_1 rfl rfl (by omega) (Nat.le_of_ble_eq_true rfl) (Nat.le_of_ble_eq_true rfl) (hz.o14 rfl) rfl (Nat.le_of_ble_eq_true rfl) (fun vr h2 hq => ?_) (fun E9 h9 hq => hq.elim)
  obtain ⟨rfl, hz⟩ := hq
  show wp _ _ 4 [(0, .ref (A 14 0 0))] [] _ _ _
  refine w_lv [(0, .ref (A 14 0 0))] [0] rfl ?_
  exact u_X14_sum_4 hf hrm hkF hdk  FU  _ _ hz  hr

set_option maxRecDepth 20000 in
set_option maxHeartbeats 4000000 in
theorem x_X14_sum_22 {A : Nat → Nat → Nat → Nat} {σ ρ' : Zs} {v : Int32 × Int32} {x : Cxt} {kF : Zs → Option (Except (Int32 × Int32) (Unit) × Zs)} {dk : Nat} {k4 : Zs → Option (Except (Int32 × Int32) (Unit) × Zs)}  (hf : m_fin 1 8 QF (XW A v σ ρ') x) (hrm : m_rm (dk + 2) 1 8 x) (hkF : ∀ {h : Hp} {σ ρ ρ' : Zs} {v : Unit} , Rp A h σ ρ → kF  ρ = some (.ok v, ρ') → ∀ l : Launch, Sp l mX14_factor dk 0 0 [.ref (A 14 0 0)] h (QV A v σ ρ') X0) (gkF : ∀ {h : Hp} {σ ρ ρ' : Zs} {v : Int32 × Int32} , Rp A h σ ρ → kF  ρ = some (.error v, ρ') → ∀ l : Launch, Sp l mX14_factor dk 1 8 [.ref (A 14 0 0)] h QF (XW A v σ ρ')) (hdk : 20 ≤ dk) (hk4 : ∀ (ρ : Zs) (h : Hp), Rp A h σ ρ → k4  ρ = some (.error v, ρ') → wp x mX14_sum 4 [(0, .ref (A 14 0 0))] [] h 0 0) : ∀ (ρ : Zs) (h : Hp), Rp A h σ ρ → fX14_sum_22 kF k4  ρ = some (.error v, ρ') → wp x mX14_sum 22 [(0, .ref (A 14 0 0))] [] h 0 0 := by
  intro ρ h hz hr
  rw [fX14_sum_22.eq_1] at hr
  refine w_aload_n 0 dX14_sum_22 rfl rfl rfl ?_
  refine g_X14_24 dX14_sum_23 rfl (hz.o14 rfl) (hz.r902 rfl) ?_
  refine w_aload_n 0 dX14_sum_26 rfl rfl rfl ?_
  refine g_X14_204 dX14_sum_27 rfl (hz.o14 rfl) (hz.i905 rfl) ?_
  obtain ⟨g10, hr⟩ := gd hr
  refine w_iald dX14_sum_30 rfl (hz.k902 rfl) (gin (hz.n902 rfl) g10) (hz.x902 rfl) ?_
  refine w_bipush 105 dX14_sum_31 rfl rfl ?_
  refine w_isub dX14_sum_33 rfl ?_
  refine w_istore_n [(1, .int ((zI ρ 1926 0 0 (Int32.toNatClampNeg (zI ρ 905 0 0 0))) - 105)), (0, .ref (A 14 0 0))] dX14_sum_34 rfl rfl (by decide) rfl ?_
  refine w_aload_n 1 dX14_sum_35 rfl rfl rfl ?_
  obtain ⟨v11, ρ12, e13, hr⟩ := bw_some hr
  rcases v11 with w15e | w15
  · obtain ⟨rfl, rfl⟩ := rete (bw_er hr)
    refine c_X14_226 (As := []) (rest := []) (fun l => e_X14_take  hz e13 l) hrm dX14_sum_36 rfl rfl (by omega) (Nat.le_of_ble_eq_true rfl) (Nat.le_of_ble_eq_true rfl) (hz.o14 rfl) rfl (Nat.le_of_ble_eq_true rfl) (fun vr h2 hq => hq.elim) (fun E9 h9 hq => ?_)
    exact w_out hf (Nat.le_of_ble_eq_true rfl) (Nat.le_of_ble_eq_true rfl) hq
  have hr := bw_ok hr
  refine c_X14_226 (As := []) (rest := []) (fun l => t_X14_take  hz e13 l) hrm dX14_sum_36 rfl rfl (by omega) (Nat.le_of_ble_eq_true rfl) (Nat.le_of_ble_eq_true rfl) (hz.o14 rfl) rfl (Nat.le_of_ble_eq_true rfl) (fun vr h2 hq => ?_) (fun E9 h9 hq => hq.elim)
  obtain ⟨rfl, hz⟩ := hq
  show wp _ _ 39 [(1, .int ((zI ρ 1926 0 0 (Int32.toNatClampNeg (zI ρ 905 0 0 0))) - 105)), (0, .ref (A 14 0 0))] [] _ _ _
  refine w_aload_n 1 dX14_sum_39 rfl rfl rfl ?_
  obtain ⟨v16, ρ17, e18, hr⟩ := bw_some hr
  rcases v16 with w20e | w20
  · obtain ⟨rfl, rfl⟩ := rete (bw_er hr)
    refine c_X14_260 (As := []) (rest := []) (fun l => e_X14_product hkF gkF hdk hz e18 l) hrm dX14_sum_40 rfl rfl (by omega) (Nat.le_of_ble_eq_true rfl) (Nat.le_of_ble_eq_true rfl) (hz.o14 rfl) rfl (Nat.le_of_ble_eq_true rfl) (fun vr h2 hq => hq.elim) (fun E9 h9 hq => ?_)
    exact w_out hf (Nat.le_of_ble_eq_true rfl) (Nat.le_of_ble_eq_true rfl) hq
  have hr := bw_ok hr
  refine c_X14_260 (As := []) (rest := []) (fun l => t_X14_product hkF hdk hz e18 l) hrm dX14_sum_40 rfl rfl (by omega) (Nat.le_of_ble_eq_true rfl) (Nat.le_of_ble_eq_true rfl) (hz.o14 rfl) rfl (Nat.le_of_ble_eq_true rfl) (fun vr h2 hq => ?_) (fun E9 h9 hq => hq.elim)
  obtain ⟨rfl, hz⟩ := hq
  show wp _ _ 43 [(1, .int ((zI ρ 1926 0 0 (Int32.toNatClampNeg (zI ρ 905 0 0 0))) - 105)), (0, .ref (A 14 0 0))] [] _ _ _
  refine w_aload_n 1 dX14_sum_43 rfl rfl rfl ?_
  refine w_bipush 10 dX14_sum_44 rfl rfl ?_
  refine w_iload_n 0 dX14_sum_46 rfl rfl rfl ?_
  refine w_iadd dX14_sum_47 rfl ?_
  refine w_lconst 0 dX14_sum_48 rfl rfl ?_
  obtain ⟨v21, ρ22, e23, hr⟩ := bq_some hr
  refine c_X14_247 (As := [.int (10 + ((zI ρ 1926 0 0 (Int32.toNatClampNeg (zI ρ 905 0 0 0))) - 105)), .long 0]) (rest := []) (fun l => s_X14_emit  hz e23 l) hrm dX14_sum_49 rfl rfl (by omega) (Nat.le_of_ble_eq_true rfl) (Nat.le_of_ble_eq_true rfl) (hz.o14 rfl) rfl (Nat.le_of_ble_eq_true rfl) (fun vr h2 hq => ?_) (fun E9 h9 hq => hq.elim)
  obtain ⟨rfl, hz⟩ := hq
  show wp _ _ 52 [(1, .int ((zI ρ 1926 0 0 (Int32.toNatClampNeg (zI ρ 905 0 0 0))) - 105)), (0, .ref (A 14 0 0))] [] _ _ _
  refine w_goto 4 dX14_sum_52 rfl ?_
  refine w_lv [(0, .ref (A 14 0 0))] [1] rfl ?_
  exact hk4  _ _ hz  hr
set_option maxRecDepth 20000 in
set_option maxHeartbeats 4000000 in
theorem x_X14_sum_4 {A : Nat → Nat → Nat → Nat} {σ ρ' : Zs} {v : Int32 × Int32} {x : Cxt} {kF : Zs → Option (Except (Int32 × Int32) (Unit) × Zs)} {dk : Nat}  (hf : m_fin 1 8 QF (XW A v σ ρ') x) (hrm : m_rm (dk + 2) 1 8 x) (hkF : ∀ {h : Hp} {σ ρ ρ' : Zs} {v : Unit} , Rp A h σ ρ → kF  ρ = some (.ok v, ρ') → ∀ l : Launch, Sp l mX14_factor dk 0 0 [.ref (A 14 0 0)] h (QV A v σ ρ') X0) (gkF : ∀ {h : Hp} {σ ρ ρ' : Zs} {v : Int32 × Int32} , Rp A h σ ρ → kF  ρ = some (.error v, ρ') → ∀ l : Launch, Sp l mX14_factor dk 1 8 [.ref (A 14 0 0)] h QF (XW A v σ ρ')) (hdk : 20 ≤ dk) : ∀ (n : Nat) (ρ : Zs) (h : Hp), Rp A h σ ρ → fX14_sum_4 kF  n  ρ = some (.error v, ρ') → wp x mX14_sum 4 [(0, .ref (A 14 0 0))] [] h 0 0
  | 0, ρ, h => fun hz hr => by
    rw [fX14_sum_4.eq_1] at hr
    exact nono hr
  | n + 1, ρ, h => fun hz hr => by
    rw [fX14_sum_4.eq_2] at hr
    refine w_aload_n 0 dX14_sum_4 rfl rfl rfl ?_
    refine w_bipush 105 dX14_sum_5 rfl rfl ?_
    obtain ⟨v6, ρ7, e8, hr⟩ := bq_some hr
    refine c_X14_223 (As := [.int 105]) (rest := []) (fun l => s_X14_is  hz e8 l) hrm dX14_sum_7 rfl rfl (by omega) (Nat.le_of_ble_eq_true rfl) (Nat.le_of_ble_eq_true rfl) (hz.o14 rfl) rfl (Nat.le_of_ble_eq_true rfl) (fun vr h2 hq => ?_) (fun E9 h9 hq => hq.elim)
    obtain ⟨rfl, hz⟩ := hq
    show wp _ _ 10 [(0, .ref (A 14 0 0))] [.int v6] _ _ _
    refine w_if_ne 22 dX14_sum_10 rfl rfl (fun q10 => ?_) (fun q10 => ?_)
    · have hr := bf q10 hr
      refine w_lv [(0, .ref (A 14 0 0))] [0] rfl ?_
      exact x_X14_sum_22 hf hrm hkF gkF hdk (fun  zb hb hzb  hrb => x_X14_sum_4 hf hrm hkF gkF hdk  n  zb hb hzb  hrb)  _ _ hz  hr
    · have hr := bt q10 hr
      refine w_aload_n 0 dX14_sum_13 rfl rfl rfl ?_
      refine w_bipush 106 dX14_sum_14 rfl rfl ?_
      obtain ⟨v25, ρ26, e27, hr⟩ := bq_some hr
      refine c_X14_223 (As := [.int 106]) (rest := []) (fun l => s_X14_is  hz e27 l) hrm dX14_sum_16 rfl rfl (by omega) (Nat.le_of_ble_eq_true rfl) (Nat.le_of_ble_eq_true rfl) (hz.o14 rfl) rfl (Nat.le_of_ble_eq_true rfl) (fun vr h2 hq => ?_) (fun E9 h9 hq => hq.elim)
      obtain ⟨rfl, hz⟩ := hq
      show wp _ _ 19 [(0, .ref (A 14 0 0))] [.int v25] _ _ _
      refine w_if_eq 55 dX14_sum_19 rfl rfl (fun q19 => ?_) (fun q19 => ?_)
      · have hr := bt q19 hr
        exact noek hr
      · have hr := bf q19 hr
        refine w_lv [(0, .ref (A 14 0 0))] [0] rfl ?_
        exact x_X14_sum_22 hf hrm hkF gkF hdk (fun  zb hb hzb  hrb => x_X14_sum_4 hf hrm hkF gkF hdk  n  zb hb hzb  hrb)  _ _ hz  hr
set_option maxRecDepth 20000 in
set_option maxHeartbeats 4000000 in
theorem e_X14_sum {A : Nat → Nat → Nat → Nat} {h : Hp} {σ ρ ρ' : Zs} {v : Int32 × Int32} {kF : Zs → Option (Except (Int32 × Int32) (Unit) × Zs)} {dk : Nat} (hkF : ∀ {h : Hp} {σ ρ ρ' : Zs} {v : Unit} , Rp A h σ ρ → kF  ρ = some (.ok v, ρ') → ∀ l : Launch, Sp l mX14_factor dk 0 0 [.ref (A 14 0 0)] h (QV A v σ ρ') X0) (gkF : ∀ {h : Hp} {σ ρ ρ' : Zs} {v : Int32 × Int32} , Rp A h σ ρ → kF  ρ = some (.error v, ρ') → ∀ l : Launch, Sp l mX14_factor dk 1 8 [.ref (A 14 0 0)] h QF (XW A v σ ρ')) (hdk : 20 ≤ dk) (hz : Rp A h σ ρ) (hr : fX14_sum kF ρ = some (.error v, ρ')) : ∀ l : Launch, Sp l mX14_sum (dk + 2) 1 8 [.ref (A 14 0 0)] h QF (XW A v σ ρ') := by
  intro l
  refine Sp.of rfl rfl (lv := [(0, .ref (A 14 0 0))]) (Nat.le_of_ble_eq_true rfl) rfl (fun x hf hrm => ?_)
  rw [fX14_sum.eq_1] at hr
  refine w_aload_n 0 dX14_sum_0 rfl rfl rfl ?_
  obtain ⟨v1, ρ2, e3, hr⟩ := bw_some hr
  rcases v1 with w5e | w5
  · obtain ⟨rfl, rfl⟩ := rete (bw_er hr)
    refine c_X14_260 (As := []) (rest := []) (fun l => e_X14_product hkF gkF hdk hz e3 l) hrm dX14_sum_1 rfl rfl (by omega) (Nat.le_of_ble_eq_true rfl) (Nat.le_of_ble_eq_true rfl) (hz.o14 rfl) rfl (Nat.le_of_ble_eq_true rfl) (fun vr h2 hq => hq.elim) (fun E9 h9 hq => ?_)
    exact w_out hf (Nat.le_of_ble_eq_true rfl) (Nat.le_of_ble_eq_true rfl) hq
  have hr := bw_ok hr
  refine c_X14_260 (As := []) (rest := []) (fun l => t_X14_product hkF hdk hz e3 l) hrm dX14_sum_1 rfl rfl (by omega) (Nat.le_of_ble_eq_true rfl) (Nat.le_of_ble_eq_true rfl) (hz.o14 rfl) rfl (Nat.le_of_ble_eq_true rfl) (fun vr h2 hq => ?_) (fun E9 h9 hq => hq.elim)
  obtain ⟨rfl, hz⟩ := hq
  show wp _ _ 4 [(0, .ref (A 14 0 0))] [] _ _ _
  refine w_lv [(0, .ref (A 14 0 0))] [0] rfl ?_
  exact x_X14_sum_4 hf hrm hkF gkF hdk  FU  _ _ hz  hr

set_option maxRecDepth 20000 in
set_option maxHeartbeats 4000000 in
theorem u_X14_relation_83 {A : Nat → Nat → Nat → Nat} {σ ρ' : Zs} {v : Unit} {x : Cxt} {kF : Zs → Option (Except (Int32 × Int32) (Unit) × Zs)} {dk : Nat}  (hf : m_fin 0 0 (QV A v σ ρ') X0 x) (hrm : m_rm (dk + 3) 0 0 x) (hkF : ∀ {h : Hp} {σ ρ ρ' : Zs} {v : Unit} , Rp A h σ ρ → kF  ρ = some (.ok v, ρ') → ∀ l : Launch, Sp l mX14_factor dk 0 0 [.ref (A 14 0 0)] h (QV A v σ ρ') X0) (hdk : 20 ≤ dk) : ∀ (z0 : Int32) (ρ : Zs) (h : Hp), Rp A h σ ρ → fX14_relation_83 kF  z0 ρ = some (.ok v, ρ') → wp x mX14_relation 83 [(0, .ref (A 14 0 0))] [.int z0] h 0 0 := by
  intro z0 ρ h hz hr
  rw [fX14_relation_83.eq_1] at hr
  refine w_istore_n [(1, .int z0), (0, .ref (A 14 0 0))] dX14_relation_83 rfl rfl (by decide) rfl ?_
  refine w_iload_n 0 dX14_relation_84 rfl rfl rfl ?_
  refine w_iconst (-1) dX14_relation_85 rfl rfl ?_
  refine w_icmp_ne 90 dX14_relation_86 rfl rfl (fun q86 => ?_) (fun q86 => ?_)
  · have hr := bf q86 hr
    refine w_aload_n 1 dX14_relation_90 rfl rfl rfl ?_
    obtain ⟨v30, ρ31, e32, hr⟩ := bw_some hr
    rcases v30 with w34e | w34
    · exact noko (bw_er hr)
    have hr := bw_ok hr
    refine c_X14_226 (As := []) (rest := []) (fun l => t_X14_take  hz e32 l) hrm dX14_relation_91 rfl rfl (by omega) (Nat.le_of_ble_eq_true rfl) (Nat.le_of_ble_eq_true rfl) (hz.o14 rfl) rfl (Nat.le_of_ble_eq_true rfl) (fun vr h2 hq => ?_) (fun E9 h9 hq => hq.elim)
    obtain ⟨rfl, hz⟩ := hq
    show wp _ _ 94 [(1, .int z0), (0, .ref (A 14 0 0))] [] _ _ _
    refine w_aload_n 1 dX14_relation_94 rfl rfl rfl ?_
    obtain ⟨v35, ρ36, e37, hr⟩ := bw_some hr
    rcases v35 with w39e | w39
    · exact noko (bw_er hr)
    have hr := bw_ok hr
    refine c_X14_257 (As := []) (rest := []) (fun l => t_X14_sum hkF hdk hz e37 l) hrm dX14_relation_95 rfl rfl (by omega) (Nat.le_of_ble_eq_true rfl) (Nat.le_of_ble_eq_true rfl) (hz.o14 rfl) rfl (Nat.le_of_ble_eq_true rfl) (fun vr h2 hq => ?_) (fun E9 h9 hq => hq.elim)
    obtain ⟨rfl, hz⟩ := hq
    show wp _ _ 98 [(1, .int z0), (0, .ref (A 14 0 0))] [] _ _ _
    refine w_aload_n 1 dX14_relation_98 rfl rfl rfl ?_
    refine w_bipush 20 dX14_relation_99 rfl rfl ?_
    refine w_iload_n 0 dX14_relation_101 rfl rfl rfl ?_
    refine w_iadd dX14_relation_102 rfl ?_
    refine w_lconst 0 dX14_relation_103 rfl rfl ?_
    obtain ⟨v40, ρ41, e42, hr⟩ := bq_some hr
    refine c_X14_247 (As := [.int (20 + z0), .long 0]) (rest := []) (fun l => s_X14_emit  hz e42 l) hrm dX14_relation_104 rfl rfl (by omega) (Nat.le_of_ble_eq_true rfl) (Nat.le_of_ble_eq_true rfl) (hz.o14 rfl) rfl (Nat.le_of_ble_eq_true rfl) (fun vr h2 hq => ?_) (fun E9 h9 hq => hq.elim)
    obtain ⟨rfl, hz⟩ := hq
    show wp _ _ 107 [(1, .int z0), (0, .ref (A 14 0 0))] [] _ _ _
    refine w_vret hf dX14_relation_107 rfl (Nat.le_of_ble_eq_true rfl) (Nat.le_of_ble_eq_true rfl) ?_
    obtain ⟨rfl, rfl⟩ := retw hr
    exact ⟨rfl, hz⟩
  · have hr := bt q86 hr
    refine w_vret hf dX14_relation_89 rfl (Nat.le_of_ble_eq_true rfl) (Nat.le_of_ble_eq_true rfl) ?_
    obtain ⟨rfl, rfl⟩ := retw hr
    exact ⟨rfl, hz⟩
set_option maxRecDepth 20000 in
set_option maxHeartbeats 4000000 in
theorem t_X14_relation {A : Nat → Nat → Nat → Nat} {h : Hp} {σ ρ ρ' : Zs} {v : Unit} {kF : Zs → Option (Except (Int32 × Int32) (Unit) × Zs)} {dk : Nat} (hkF : ∀ {h : Hp} {σ ρ ρ' : Zs} {v : Unit} , Rp A h σ ρ → kF  ρ = some (.ok v, ρ') → ∀ l : Launch, Sp l mX14_factor dk 0 0 [.ref (A 14 0 0)] h (QV A v σ ρ') X0) (hdk : 20 ≤ dk) (hz : Rp A h σ ρ) (hr : fX14_relation kF ρ = some (.ok v, ρ')) : ∀ l : Launch, Sp l mX14_relation (dk + 3) 0 0 [.ref (A 14 0 0)] h (QV A v σ ρ') X0 := by
  intro l
  refine Sp.of rfl rfl (lv := [(0, .ref (A 14 0 0))]) (Nat.le_of_ble_eq_true rfl) rfl (fun x hf hrm => ?_)
  rw [fX14_relation.eq_1] at hr
  refine w_aload_n 0 dX14_relation_0 rfl rfl rfl ?_
  obtain ⟨v1, ρ2, e3, hr⟩ := bw_some hr
  rcases v1 with w5e | w5
  · exact noko (bw_er hr)
  have hr := bw_ok hr
  refine c_X14_257 (As := []) (rest := []) (fun l => t_X14_sum hkF hdk hz e3 l) hrm dX14_relation_1 rfl rfl (by omega) (Nat.le_of_ble_eq_true rfl) (Nat.le_of_ble_eq_true rfl) (hz.o14 rfl) rfl (Nat.le_of_ble_eq_true rfl) (fun vr h2 hq => ?_) (fun E9 h9 hq => hq.elim)
  obtain ⟨rfl, hz⟩ := hq
  show wp _ _ 4 [(0, .ref (A 14 0 0))] [] _ _ _
  refine w_aload_n 0 dX14_relation_4 rfl rfl rfl ?_
  refine w_bipush 104 dX14_relation_5 rfl rfl ?_
  obtain ⟨v6, ρ7, e8, hr⟩ := bq_some hr
  refine c_X14_223 (As := [.int 104]) (rest := []) (fun l => s_X14_is  hz e8 l) hrm dX14_relation_7 rfl rfl (by omega) (Nat.le_of_ble_eq_true rfl) (Nat.le_of_ble_eq_true rfl) (hz.o14 rfl) rfl (Nat.le_of_ble_eq_true rfl) (fun vr h2 hq => ?_) (fun E9 h9 hq => hq.elim)
  obtain ⟨rfl, hz⟩ := hq
  show wp _ _ 10 [(0, .ref (A 14 0 0))] [.int v6] _ _ _
  refine w_if_eq 17 dX14_relation_10 rfl rfl (fun q10 => ?_) (fun q10 => ?_)
  · have hr := bt q10 hr
    refine w_aload_n 0 dX14_relation_17 rfl rfl rfl ?_
    refine w_bipush 114 dX14_relation_18 rfl rfl ?_
    obtain ⟨v10, ρ11, e12, hr⟩ := bq_some hr
    refine c_X14_223 (As := [.int 114]) (rest := []) (fun l => s_X14_is  hz e12 l) hrm dX14_relation_20 rfl rfl (by omega) (Nat.le_of_ble_eq_true rfl) (Nat.le_of_ble_eq_true rfl) (hz.o14 rfl) rfl (Nat.le_of_ble_eq_true rfl) (fun vr h2 hq => ?_) (fun E9 h9 hq => hq.elim)
    obtain ⟨rfl, hz⟩ := hq
    show wp _ _ 23 [(0, .ref (A 14 0 0))] [.int v10] _ _ _
    refine w_if_eq 30 dX14_relation_23 rfl rfl (fun q23 => ?_) (fun q23 => ?_)
    · have hr := bt q23 hr
      refine w_aload_n 0 dX14_relation_30 rfl rfl rfl ?_
      refine w_bipush 110 dX14_relation_31 rfl rfl ?_
      obtain ⟨v14, ρ15, e16, hr⟩ := bq_some hr
      refine c_X14_223 (As := [.int 110]) (rest := []) (fun l => s_X14_is  hz e16 l) hrm dX14_relation_33 rfl rfl (by omega) (Nat.le_of_ble_eq_true rfl) (Nat.le_of_ble_eq_true rfl) (hz.o14 rfl) rfl (Nat.le_of_ble_eq_true rfl) (fun vr h2 hq => ?_) (fun E9 h9 hq => hq.elim)
      obtain ⟨rfl, hz⟩ := hq
      show wp _ _ 36 [(0, .ref (A 14 0 0))] [.int v14] _ _ _
      refine w_if_eq 43 dX14_relation_36 rfl rfl (fun q36 => ?_) (fun q36 => ?_)
      · have hr := bt q36 hr
        refine w_aload_n 0 dX14_relation_43 rfl rfl rfl ?_
        refine w_bipush 111 dX14_relation_44 rfl rfl ?_
        obtain ⟨v18, ρ19, e20, hr⟩ := bq_some hr
        refine c_X14_223 (As := [.int 111]) (rest := []) (fun l => s_X14_is  hz e20 l) hrm dX14_relation_46 rfl rfl (by omega) (Nat.le_of_ble_eq_true rfl) (Nat.le_of_ble_eq_true rfl) (hz.o14 rfl) rfl (Nat.le_of_ble_eq_true rfl) (fun vr h2 hq => ?_) (fun E9 h9 hq => hq.elim)
        obtain ⟨rfl, hz⟩ := hq
        show wp _ _ 49 [(0, .ref (A 14 0 0))] [.int v18] _ _ _
        refine w_if_eq 56 dX14_relation_49 rfl rfl (fun q49 => ?_) (fun q49 => ?_)
        · have hr := bt q49 hr
          refine w_aload_n 0 dX14_relation_56 rfl rfl rfl ?_
          refine w_bipush 112 dX14_relation_57 rfl rfl ?_
          obtain ⟨v22, ρ23, e24, hr⟩ := bq_some hr
          refine c_X14_223 (As := [.int 112]) (rest := []) (fun l => s_X14_is  hz e24 l) hrm dX14_relation_59 rfl rfl (by omega) (Nat.le_of_ble_eq_true rfl) (Nat.le_of_ble_eq_true rfl) (hz.o14 rfl) rfl (Nat.le_of_ble_eq_true rfl) (fun vr h2 hq => ?_) (fun E9 h9 hq => hq.elim)
          obtain ⟨rfl, hz⟩ := hq
          show wp _ _ 62 [(0, .ref (A 14 0 0))] [.int v22] _ _ _
          refine w_if_eq 69 dX14_relation_62 rfl rfl (fun q62 => ?_) (fun q62 => ?_)
          · have hr := bt q62 hr
            refine w_aload_n 0 dX14_relation_69 rfl rfl rfl ?_
            refine w_bipush 113 dX14_relation_70 rfl rfl ?_
            obtain ⟨v26, ρ27, e28, hr⟩ := bq_some hr
            refine c_X14_223 (As := [.int 113]) (rest := []) (fun l => s_X14_is  hz e28 l) hrm dX14_relation_72 rfl rfl (by omega) (Nat.le_of_ble_eq_true rfl) (Nat.le_of_ble_eq_true rfl) (hz.o14 rfl) rfl (Nat.le_of_ble_eq_true rfl) (fun vr h2 hq => ?_) (fun E9 h9 hq => hq.elim)
            obtain ⟨rfl, hz⟩ := hq
            show wp _ _ 75 [(0, .ref (A 14 0 0))] [.int v26] _ _ _
            refine w_if_eq 82 dX14_relation_75 rfl rfl (fun q75 => ?_) (fun q75 => ?_)
            · have hr := bt q75 hr
              refine w_iconst (-1) dX14_relation_82 rfl rfl ?_
              refine w_lv [(0, .ref (A 14 0 0))] [0] rfl ?_
              exact u_X14_relation_83 hf hrm hkF hdk  (-1) _ _ hz  hr
            · have hr := bf q75 hr
              refine w_iconst 5 dX14_relation_78 rfl rfl ?_
              refine w_goto 83 dX14_relation_79 rfl ?_
              refine w_lv [(0, .ref (A 14 0 0))] [0] rfl ?_
              exact u_X14_relation_83 hf hrm hkF hdk  5 _ _ hz  hr
          · have hr := bf q62 hr
            refine w_iconst 4 dX14_relation_65 rfl rfl ?_
            refine w_goto 83 dX14_relation_66 rfl ?_
            refine w_lv [(0, .ref (A 14 0 0))] [0] rfl ?_
            exact u_X14_relation_83 hf hrm hkF hdk  4 _ _ hz  hr
        · have hr := bf q49 hr
          refine w_iconst 3 dX14_relation_52 rfl rfl ?_
          refine w_goto 83 dX14_relation_53 rfl ?_
          refine w_lv [(0, .ref (A 14 0 0))] [0] rfl ?_
          exact u_X14_relation_83 hf hrm hkF hdk  3 _ _ hz  hr
      · have hr := bf q36 hr
        refine w_iconst 2 dX14_relation_39 rfl rfl ?_
        refine w_goto 83 dX14_relation_40 rfl ?_
        refine w_lv [(0, .ref (A 14 0 0))] [0] rfl ?_
        exact u_X14_relation_83 hf hrm hkF hdk  2 _ _ hz  hr
    · have hr := bf q23 hr
      refine w_iconst 1 dX14_relation_26 rfl rfl ?_
      refine w_goto 83 dX14_relation_27 rfl ?_
      refine w_lv [(0, .ref (A 14 0 0))] [0] rfl ?_
      exact u_X14_relation_83 hf hrm hkF hdk  1 _ _ hz  hr
  · have hr := bf q10 hr
    refine w_iconst 0 dX14_relation_13 rfl rfl ?_
    refine w_goto 83 dX14_relation_14 rfl ?_
    refine w_lv [(0, .ref (A 14 0 0))] [0] rfl ?_
    exact u_X14_relation_83 hf hrm hkF hdk  0 _ _ hz  hr

set_option maxRecDepth 20000 in
set_option maxHeartbeats 4000000 in
theorem x_X14_relation_83 {A : Nat → Nat → Nat → Nat} {σ ρ' : Zs} {v : Int32 × Int32} {x : Cxt} {kF : Zs → Option (Except (Int32 × Int32) (Unit) × Zs)} {dk : Nat}  (hf : m_fin 1 8 QF (XW A v σ ρ') x) (hrm : m_rm (dk + 3) 1 8 x) (hkF : ∀ {h : Hp} {σ ρ ρ' : Zs} {v : Unit} , Rp A h σ ρ → kF  ρ = some (.ok v, ρ') → ∀ l : Launch, Sp l mX14_factor dk 0 0 [.ref (A 14 0 0)] h (QV A v σ ρ') X0) (gkF : ∀ {h : Hp} {σ ρ ρ' : Zs} {v : Int32 × Int32} , Rp A h σ ρ → kF  ρ = some (.error v, ρ') → ∀ l : Launch, Sp l mX14_factor dk 1 8 [.ref (A 14 0 0)] h QF (XW A v σ ρ')) (hdk : 20 ≤ dk) : ∀ (z0 : Int32) (ρ : Zs) (h : Hp), Rp A h σ ρ → fX14_relation_83 kF  z0 ρ = some (.error v, ρ') → wp x mX14_relation 83 [(0, .ref (A 14 0 0))] [.int z0] h 0 0 := by
  intro z0 ρ h hz hr
  rw [fX14_relation_83.eq_1] at hr
  refine w_istore_n [(1, .int z0), (0, .ref (A 14 0 0))] dX14_relation_83 rfl rfl (by decide) rfl ?_
  refine w_iload_n 0 dX14_relation_84 rfl rfl rfl ?_
  refine w_iconst (-1) dX14_relation_85 rfl rfl ?_
  refine w_icmp_ne 90 dX14_relation_86 rfl rfl (fun q86 => ?_) (fun q86 => ?_)
  · have hr := bf q86 hr
    refine w_aload_n 1 dX14_relation_90 rfl rfl rfl ?_
    obtain ⟨v30, ρ31, e32, hr⟩ := bw_some hr
    rcases v30 with w34e | w34
    · obtain ⟨rfl, rfl⟩ := rete (bw_er hr)
      refine c_X14_226 (As := []) (rest := []) (fun l => e_X14_take  hz e32 l) hrm dX14_relation_91 rfl rfl (by omega) (Nat.le_of_ble_eq_true rfl) (Nat.le_of_ble_eq_true rfl) (hz.o14 rfl) rfl (Nat.le_of_ble_eq_true rfl) (fun vr h2 hq => hq.elim) (fun E9 h9 hq => ?_)
      exact w_out hf (Nat.le_of_ble_eq_true rfl) (Nat.le_of_ble_eq_true rfl) hq
    have hr := bw_ok hr
    refine c_X14_226 (As := []) (rest := []) (fun l => t_X14_take  hz e32 l) hrm dX14_relation_91 rfl rfl (by omega) (Nat.le_of_ble_eq_true rfl) (Nat.le_of_ble_eq_true rfl) (hz.o14 rfl) rfl (Nat.le_of_ble_eq_true rfl) (fun vr h2 hq => ?_) (fun E9 h9 hq => hq.elim)
    obtain ⟨rfl, hz⟩ := hq
    show wp _ _ 94 [(1, .int z0), (0, .ref (A 14 0 0))] [] _ _ _
    refine w_aload_n 1 dX14_relation_94 rfl rfl rfl ?_
    obtain ⟨v35, ρ36, e37, hr⟩ := bw_some hr
    rcases v35 with w39e | w39
    · obtain ⟨rfl, rfl⟩ := rete (bw_er hr)
      refine c_X14_257 (As := []) (rest := []) (fun l => e_X14_sum hkF gkF hdk hz e37 l) hrm dX14_relation_95 rfl rfl (by omega) (Nat.le_of_ble_eq_true rfl) (Nat.le_of_ble_eq_true rfl) (hz.o14 rfl) rfl (Nat.le_of_ble_eq_true rfl) (fun vr h2 hq => hq.elim) (fun E9 h9 hq => ?_)
      exact w_out hf (Nat.le_of_ble_eq_true rfl) (Nat.le_of_ble_eq_true rfl) hq
    have hr := bw_ok hr
    refine c_X14_257 (As := []) (rest := []) (fun l => t_X14_sum hkF hdk hz e37 l) hrm dX14_relation_95 rfl rfl (by omega) (Nat.le_of_ble_eq_true rfl) (Nat.le_of_ble_eq_true rfl) (hz.o14 rfl) rfl (Nat.le_of_ble_eq_true rfl) (fun vr h2 hq => ?_) (fun E9 h9 hq => hq.elim)
    obtain ⟨rfl, hz⟩ := hq
    show wp _ _ 98 [(1, .int z0), (0, .ref (A 14 0 0))] [] _ _ _
    refine w_aload_n 1 dX14_relation_98 rfl rfl rfl ?_
    refine w_bipush 20 dX14_relation_99 rfl rfl ?_
    refine w_iload_n 0 dX14_relation_101 rfl rfl rfl ?_
    refine w_iadd dX14_relation_102 rfl ?_
    refine w_lconst 0 dX14_relation_103 rfl rfl ?_
    obtain ⟨v40, ρ41, e42, hr⟩ := bq_some hr
    refine c_X14_247 (As := [.int (20 + z0), .long 0]) (rest := []) (fun l => s_X14_emit  hz e42 l) hrm dX14_relation_104 rfl rfl (by omega) (Nat.le_of_ble_eq_true rfl) (Nat.le_of_ble_eq_true rfl) (hz.o14 rfl) rfl (Nat.le_of_ble_eq_true rfl) (fun vr h2 hq => ?_) (fun E9 h9 hq => hq.elim)
    obtain ⟨rfl, hz⟩ := hq
    show wp _ _ 107 [(1, .int z0), (0, .ref (A 14 0 0))] [] _ _ _
    exact noek hr
  · have hr := bt q86 hr
    exact noek hr
set_option maxRecDepth 20000 in
set_option maxHeartbeats 4000000 in
theorem e_X14_relation {A : Nat → Nat → Nat → Nat} {h : Hp} {σ ρ ρ' : Zs} {v : Int32 × Int32} {kF : Zs → Option (Except (Int32 × Int32) (Unit) × Zs)} {dk : Nat} (hkF : ∀ {h : Hp} {σ ρ ρ' : Zs} {v : Unit} , Rp A h σ ρ → kF  ρ = some (.ok v, ρ') → ∀ l : Launch, Sp l mX14_factor dk 0 0 [.ref (A 14 0 0)] h (QV A v σ ρ') X0) (gkF : ∀ {h : Hp} {σ ρ ρ' : Zs} {v : Int32 × Int32} , Rp A h σ ρ → kF  ρ = some (.error v, ρ') → ∀ l : Launch, Sp l mX14_factor dk 1 8 [.ref (A 14 0 0)] h QF (XW A v σ ρ')) (hdk : 20 ≤ dk) (hz : Rp A h σ ρ) (hr : fX14_relation kF ρ = some (.error v, ρ')) : ∀ l : Launch, Sp l mX14_relation (dk + 3) 1 8 [.ref (A 14 0 0)] h QF (XW A v σ ρ') := by
  intro l
  refine Sp.of rfl rfl (lv := [(0, .ref (A 14 0 0))]) (Nat.le_of_ble_eq_true rfl) rfl (fun x hf hrm => ?_)
  rw [fX14_relation.eq_1] at hr
  refine w_aload_n 0 dX14_relation_0 rfl rfl rfl ?_
  obtain ⟨v1, ρ2, e3, hr⟩ := bw_some hr
  rcases v1 with w5e | w5
  · obtain ⟨rfl, rfl⟩ := rete (bw_er hr)
    refine c_X14_257 (As := []) (rest := []) (fun l => e_X14_sum hkF gkF hdk hz e3 l) hrm dX14_relation_1 rfl rfl (by omega) (Nat.le_of_ble_eq_true rfl) (Nat.le_of_ble_eq_true rfl) (hz.o14 rfl) rfl (Nat.le_of_ble_eq_true rfl) (fun vr h2 hq => hq.elim) (fun E9 h9 hq => ?_)
    exact w_out hf (Nat.le_of_ble_eq_true rfl) (Nat.le_of_ble_eq_true rfl) hq
  have hr := bw_ok hr
  refine c_X14_257 (As := []) (rest := []) (fun l => t_X14_sum hkF hdk hz e3 l) hrm dX14_relation_1 rfl rfl (by omega) (Nat.le_of_ble_eq_true rfl) (Nat.le_of_ble_eq_true rfl) (hz.o14 rfl) rfl (Nat.le_of_ble_eq_true rfl) (fun vr h2 hq => ?_) (fun E9 h9 hq => hq.elim)
  obtain ⟨rfl, hz⟩ := hq
  show wp _ _ 4 [(0, .ref (A 14 0 0))] [] _ _ _
  refine w_aload_n 0 dX14_relation_4 rfl rfl rfl ?_
  refine w_bipush 104 dX14_relation_5 rfl rfl ?_
  obtain ⟨v6, ρ7, e8, hr⟩ := bq_some hr
  refine c_X14_223 (As := [.int 104]) (rest := []) (fun l => s_X14_is  hz e8 l) hrm dX14_relation_7 rfl rfl (by omega) (Nat.le_of_ble_eq_true rfl) (Nat.le_of_ble_eq_true rfl) (hz.o14 rfl) rfl (Nat.le_of_ble_eq_true rfl) (fun vr h2 hq => ?_) (fun E9 h9 hq => hq.elim)
  obtain ⟨rfl, hz⟩ := hq
  show wp _ _ 10 [(0, .ref (A 14 0 0))] [.int v6] _ _ _
  refine w_if_eq 17 dX14_relation_10 rfl rfl (fun q10 => ?_) (fun q10 => ?_)
  · have hr := bt q10 hr
    refine w_aload_n 0 dX14_relation_17 rfl rfl rfl ?_
    refine w_bipush 114 dX14_relation_18 rfl rfl ?_
    obtain ⟨v10, ρ11, e12, hr⟩ := bq_some hr
    refine c_X14_223 (As := [.int 114]) (rest := []) (fun l => s_X14_is  hz e12 l) hrm dX14_relation_20 rfl rfl (by omega) (Nat.le_of_ble_eq_true rfl) (Nat.le_of_ble_eq_true rfl) (hz.o14 rfl) rfl (Nat.le_of_ble_eq_true rfl) (fun vr h2 hq => ?_) (fun E9 h9 hq => hq.elim)
    obtain ⟨rfl, hz⟩ := hq
    show wp _ _ 23 [(0, .ref (A 14 0 0))] [.int v10] _ _ _
    refine w_if_eq 30 dX14_relation_23 rfl rfl (fun q23 => ?_) (fun q23 => ?_)
    · have hr := bt q23 hr
      refine w_aload_n 0 dX14_relation_30 rfl rfl rfl ?_
      refine w_bipush 110 dX14_relation_31 rfl rfl ?_
      obtain ⟨v14, ρ15, e16, hr⟩ := bq_some hr
      refine c_X14_223 (As := [.int 110]) (rest := []) (fun l => s_X14_is  hz e16 l) hrm dX14_relation_33 rfl rfl (by omega) (Nat.le_of_ble_eq_true rfl) (Nat.le_of_ble_eq_true rfl) (hz.o14 rfl) rfl (Nat.le_of_ble_eq_true rfl) (fun vr h2 hq => ?_) (fun E9 h9 hq => hq.elim)
      obtain ⟨rfl, hz⟩ := hq
      show wp _ _ 36 [(0, .ref (A 14 0 0))] [.int v14] _ _ _
      refine w_if_eq 43 dX14_relation_36 rfl rfl (fun q36 => ?_) (fun q36 => ?_)
      · have hr := bt q36 hr
        refine w_aload_n 0 dX14_relation_43 rfl rfl rfl ?_
        refine w_bipush 111 dX14_relation_44 rfl rfl ?_
        obtain ⟨v18, ρ19, e20, hr⟩ := bq_some hr
        refine c_X14_223 (As := [.int 111]) (rest := []) (fun l => s_X14_is  hz e20 l) hrm dX14_relation_46 rfl rfl (by omega) (Nat.le_of_ble_eq_true rfl) (Nat.le_of_ble_eq_true rfl) (hz.o14 rfl) rfl (Nat.le_of_ble_eq_true rfl) (fun vr h2 hq => ?_) (fun E9 h9 hq => hq.elim)
        obtain ⟨rfl, hz⟩ := hq
        show wp _ _ 49 [(0, .ref (A 14 0 0))] [.int v18] _ _ _
        refine w_if_eq 56 dX14_relation_49 rfl rfl (fun q49 => ?_) (fun q49 => ?_)
        · have hr := bt q49 hr
          refine w_aload_n 0 dX14_relation_56 rfl rfl rfl ?_
          refine w_bipush 112 dX14_relation_57 rfl rfl ?_
          obtain ⟨v22, ρ23, e24, hr⟩ := bq_some hr
          refine c_X14_223 (As := [.int 112]) (rest := []) (fun l => s_X14_is  hz e24 l) hrm dX14_relation_59 rfl rfl (by omega) (Nat.le_of_ble_eq_true rfl) (Nat.le_of_ble_eq_true rfl) (hz.o14 rfl) rfl (Nat.le_of_ble_eq_true rfl) (fun vr h2 hq => ?_) (fun E9 h9 hq => hq.elim)
          obtain ⟨rfl, hz⟩ := hq
          show wp _ _ 62 [(0, .ref (A 14 0 0))] [.int v22] _ _ _
          refine w_if_eq 69 dX14_relation_62 rfl rfl (fun q62 => ?_) (fun q62 => ?_)
          · have hr := bt q62 hr
            refine w_aload_n 0 dX14_relation_69 rfl rfl rfl ?_
            refine w_bipush 113 dX14_relation_70 rfl rfl ?_
            obtain ⟨v26, ρ27, e28, hr⟩ := bq_some hr
            refine c_X14_223 (As := [.int 113]) (rest := []) (fun l => s_X14_is  hz e28 l) hrm dX14_relation_72 rfl rfl (by omega) (Nat.le_of_ble_eq_true rfl) (Nat.le_of_ble_eq_true rfl) (hz.o14 rfl) rfl (Nat.le_of_ble_eq_true rfl) (fun vr h2 hq => ?_) (fun E9 h9 hq => hq.elim)
            obtain ⟨rfl, hz⟩ := hq
            show wp _ _ 75 [(0, .ref (A 14 0 0))] [.int v26] _ _ _
            refine w_if_eq 82 dX14_relation_75 rfl rfl (fun q75 => ?_) (fun q75 => ?_)
            · have hr := bt q75 hr
              refine w_iconst (-1) dX14_relation_82 rfl rfl ?_
              refine w_lv [(0, .ref (A 14 0 0))] [0] rfl ?_
              exact x_X14_relation_83 hf hrm hkF gkF hdk  (-1) _ _ hz  hr
            · have hr := bf q75 hr
              refine w_iconst 5 dX14_relation_78 rfl rfl ?_
              refine w_goto 83 dX14_relation_79 rfl ?_
              refine w_lv [(0, .ref (A 14 0 0))] [0] rfl ?_
              exact x_X14_relation_83 hf hrm hkF gkF hdk  5 _ _ hz  hr
          · have hr := bf q62 hr
            refine w_iconst 4 dX14_relation_65 rfl rfl ?_
            refine w_goto 83 dX14_relation_66 rfl ?_
            refine w_lv [(0, .ref (A 14 0 0))] [0] rfl ?_
            exact x_X14_relation_83 hf hrm hkF gkF hdk  4 _ _ hz  hr
        · have hr := bf q49 hr
          refine w_iconst 3 dX14_relation_52 rfl rfl ?_
          refine w_goto 83 dX14_relation_53 rfl ?_
          refine w_lv [(0, .ref (A 14 0 0))] [0] rfl ?_
          exact x_X14_relation_83 hf hrm hkF gkF hdk  3 _ _ hz  hr
      · have hr := bf q36 hr
        refine w_iconst 2 dX14_relation_39 rfl rfl ?_
        refine w_goto 83 dX14_relation_40 rfl ?_
        refine w_lv [(0, .ref (A 14 0 0))] [0] rfl ?_
        exact x_X14_relation_83 hf hrm hkF gkF hdk  2 _ _ hz  hr
    · have hr := bf q23 hr
      refine w_iconst 1 dX14_relation_26 rfl rfl ?_
      refine w_goto 83 dX14_relation_27 rfl ?_
      refine w_lv [(0, .ref (A 14 0 0))] [0] rfl ?_
      exact x_X14_relation_83 hf hrm hkF gkF hdk  1 _ _ hz  hr
  · have hr := bf q10 hr
    refine w_iconst 0 dX14_relation_13 rfl rfl ?_
    refine w_goto 83 dX14_relation_14 rfl ?_
    refine w_lv [(0, .ref (A 14 0 0))] [0] rfl ?_
    exact x_X14_relation_83 hf hrm hkF gkF hdk  0 _ _ hz  hr

set_option maxRecDepth 20000 in
set_option maxHeartbeats 4000000 in
theorem u_X14_both_4 {A : Nat → Nat → Nat → Nat} {σ ρ' : Zs} {v : Unit} {x : Cxt} {kF : Zs → Option (Except (Int32 × Int32) (Unit) × Zs)} {dk : Nat}  (hf : m_fin 0 0 (QV A v σ ρ') X0 x) (hrm : m_rm (dk + 4) 0 0 x) (hkF : ∀ {h : Hp} {σ ρ ρ' : Zs} {v : Unit} , Rp A h σ ρ → kF  ρ = some (.ok v, ρ') → ∀ l : Launch, Sp l mX14_factor dk 0 0 [.ref (A 14 0 0)] h (QV A v σ ρ') X0) (hdk : 20 ≤ dk) : ∀ (n : Nat) (ρ : Zs) (h : Hp), Rp A h σ ρ → fX14_both_4 kF  n  ρ = some (.ok v, ρ') → wp x mX14_both 4 [(0, .ref (A 14 0 0))] [] h 0 0
  | 0, ρ, h => fun hz hr => by
    rw [fX14_both_4.eq_1] at hr
    exact nono hr
  | n + 1, ρ, h => fun hz hr => by
    rw [fX14_both_4.eq_2] at hr
    refine w_aload_n 0 dX14_both_4 rfl rfl rfl ?_
    refine w_bipush 28 dX14_both_5 rfl rfl ?_
    obtain ⟨v6, ρ7, e8, hr⟩ := bq_some hr
    refine c_X14_223 (As := [.int 28]) (rest := []) (fun l => s_X14_is  hz e8 l) hrm dX14_both_7 rfl rfl (by omega) (Nat.le_of_ble_eq_true rfl) (Nat.le_of_ble_eq_true rfl) (hz.o14 rfl) rfl (Nat.le_of_ble_eq_true rfl) (fun vr h2 hq => ?_) (fun E9 h9 hq => hq.elim)
    obtain ⟨rfl, hz⟩ := hq
    show wp _ _ 10 [(0, .ref (A 14 0 0))] [.int v6] _ _ _
    refine w_if_eq 31 dX14_both_10 rfl rfl (fun q10 => ?_) (fun q10 => ?_)
    · have hr := bt q10 hr
      refine w_vret hf dX14_both_31 rfl (Nat.le_of_ble_eq_true rfl) (Nat.le_of_ble_eq_true rfl) ?_
      obtain ⟨rfl, rfl⟩ := retw hr
      exact ⟨rfl, hz⟩
    · have hr := bf q10 hr
      refine w_aload_n 0 dX14_both_13 rfl rfl rfl ?_
      obtain ⟨v10, ρ11, e12, hr⟩ := bw_some hr
      rcases v10 with w14e | w14
      · exact noko (bw_er hr)
      have hr := bw_ok hr
      refine c_X14_226 (As := []) (rest := []) (fun l => t_X14_take  hz e12 l) hrm dX14_both_14 rfl rfl (by omega) (Nat.le_of_ble_eq_true rfl) (Nat.le_of_ble_eq_true rfl) (hz.o14 rfl) rfl (Nat.le_of_ble_eq_true rfl) (fun vr h2 hq => ?_) (fun E9 h9 hq => hq.elim)
      obtain ⟨rfl, hz⟩ := hq
      show wp _ _ 17 [(0, .ref (A 14 0 0))] [] _ _ _
      refine w_aload_n 0 dX14_both_17 rfl rfl rfl ?_
      obtain ⟨v15, ρ16, e17, hr⟩ := bw_some hr
      rcases v15 with w19e | w19
      · exact noko (bw_er hr)
      have hr := bw_ok hr
      refine c_X14_254 (As := []) (rest := []) (fun l => t_X14_relation hkF hdk hz e17 l) hrm dX14_both_18 rfl rfl (by omega) (Nat.le_of_ble_eq_true rfl) (Nat.le_of_ble_eq_true rfl) (hz.o14 rfl) rfl (Nat.le_of_ble_eq_true rfl) (fun vr h2 hq => ?_) (fun E9 h9 hq => hq.elim)
      obtain ⟨rfl, hz⟩ := hq
      show wp _ _ 21 [(0, .ref (A 14 0 0))] [] _ _ _
      refine w_aload_n 0 dX14_both_21 rfl rfl rfl ?_
      refine w_bipush 30 dX14_both_22 rfl rfl ?_
      refine w_lconst 0 dX14_both_24 rfl rfl ?_
      obtain ⟨v20, ρ21, e22, hr⟩ := bq_some hr
      refine c_X14_247 (As := [.int 30, .long 0]) (rest := []) (fun l => s_X14_emit  hz e22 l) hrm dX14_both_25 rfl rfl (by omega) (Nat.le_of_ble_eq_true rfl) (Nat.le_of_ble_eq_true rfl) (hz.o14 rfl) rfl (Nat.le_of_ble_eq_true rfl) (fun vr h2 hq => ?_) (fun E9 h9 hq => hq.elim)
      obtain ⟨rfl, hz⟩ := hq
      show wp _ _ 28 [(0, .ref (A 14 0 0))] [] _ _ _
      refine w_goto 4 dX14_both_28 rfl ?_
      refine w_lv [(0, .ref (A 14 0 0))] [0] rfl ?_
      exact u_X14_both_4 hf hrm hkF hdk  n  _ _ hz  hr
set_option maxRecDepth 20000 in
set_option maxHeartbeats 4000000 in
theorem t_X14_both {A : Nat → Nat → Nat → Nat} {h : Hp} {σ ρ ρ' : Zs} {v : Unit} {kF : Zs → Option (Except (Int32 × Int32) (Unit) × Zs)} {dk : Nat} (hkF : ∀ {h : Hp} {σ ρ ρ' : Zs} {v : Unit} , Rp A h σ ρ → kF  ρ = some (.ok v, ρ') → ∀ l : Launch, Sp l mX14_factor dk 0 0 [.ref (A 14 0 0)] h (QV A v σ ρ') X0) (hdk : 20 ≤ dk) (hz : Rp A h σ ρ) (hr : fX14_both kF ρ = some (.ok v, ρ')) : ∀ l : Launch, Sp l mX14_both (dk + 4) 0 0 [.ref (A 14 0 0)] h (QV A v σ ρ') X0 := by
  intro l
  refine Sp.of rfl rfl (lv := [(0, .ref (A 14 0 0))]) (Nat.le_of_ble_eq_true rfl) rfl (fun x hf hrm => ?_)
  rw [fX14_both.eq_1] at hr
  refine w_aload_n 0 dX14_both_0 rfl rfl rfl ?_
  obtain ⟨v1, ρ2, e3, hr⟩ := bw_some hr
  rcases v1 with w5e | w5
  · exact noko (bw_er hr)
  have hr := bw_ok hr
  refine c_X14_254 (As := []) (rest := []) (fun l => t_X14_relation hkF hdk hz e3 l) hrm dX14_both_1 rfl rfl (by omega) (Nat.le_of_ble_eq_true rfl) (Nat.le_of_ble_eq_true rfl) (hz.o14 rfl) rfl (Nat.le_of_ble_eq_true rfl) (fun vr h2 hq => ?_) (fun E9 h9 hq => hq.elim)
  obtain ⟨rfl, hz⟩ := hq
  show wp _ _ 4 [(0, .ref (A 14 0 0))] [] _ _ _
  refine w_lv [(0, .ref (A 14 0 0))] [0] rfl ?_
  exact u_X14_both_4 hf hrm hkF hdk  FU  _ _ hz  hr

set_option maxRecDepth 20000 in
set_option maxHeartbeats 4000000 in
theorem x_X14_both_4 {A : Nat → Nat → Nat → Nat} {σ ρ' : Zs} {v : Int32 × Int32} {x : Cxt} {kF : Zs → Option (Except (Int32 × Int32) (Unit) × Zs)} {dk : Nat}  (hf : m_fin 1 8 QF (XW A v σ ρ') x) (hrm : m_rm (dk + 4) 1 8 x) (hkF : ∀ {h : Hp} {σ ρ ρ' : Zs} {v : Unit} , Rp A h σ ρ → kF  ρ = some (.ok v, ρ') → ∀ l : Launch, Sp l mX14_factor dk 0 0 [.ref (A 14 0 0)] h (QV A v σ ρ') X0) (gkF : ∀ {h : Hp} {σ ρ ρ' : Zs} {v : Int32 × Int32} , Rp A h σ ρ → kF  ρ = some (.error v, ρ') → ∀ l : Launch, Sp l mX14_factor dk 1 8 [.ref (A 14 0 0)] h QF (XW A v σ ρ')) (hdk : 20 ≤ dk) : ∀ (n : Nat) (ρ : Zs) (h : Hp), Rp A h σ ρ → fX14_both_4 kF  n  ρ = some (.error v, ρ') → wp x mX14_both 4 [(0, .ref (A 14 0 0))] [] h 0 0
  | 0, ρ, h => fun hz hr => by
    rw [fX14_both_4.eq_1] at hr
    exact nono hr
  | n + 1, ρ, h => fun hz hr => by
    rw [fX14_both_4.eq_2] at hr
    refine w_aload_n 0 dX14_both_4 rfl rfl rfl ?_
    refine w_bipush 28 dX14_both_5 rfl rfl ?_
    obtain ⟨v6, ρ7, e8, hr⟩ := bq_some hr
    refine c_X14_223 (As := [.int 28]) (rest := []) (fun l => s_X14_is  hz e8 l) hrm dX14_both_7 rfl rfl (by omega) (Nat.le_of_ble_eq_true rfl) (Nat.le_of_ble_eq_true rfl) (hz.o14 rfl) rfl (Nat.le_of_ble_eq_true rfl) (fun vr h2 hq => ?_) (fun E9 h9 hq => hq.elim)
    obtain ⟨rfl, hz⟩ := hq
    show wp _ _ 10 [(0, .ref (A 14 0 0))] [.int v6] _ _ _
    refine w_if_eq 31 dX14_both_10 rfl rfl (fun q10 => ?_) (fun q10 => ?_)
    · have hr := bt q10 hr
      exact noek hr
    · have hr := bf q10 hr
      refine w_aload_n 0 dX14_both_13 rfl rfl rfl ?_
      obtain ⟨v10, ρ11, e12, hr⟩ := bw_some hr
      rcases v10 with w14e | w14
      · obtain ⟨rfl, rfl⟩ := rete (bw_er hr)
        refine c_X14_226 (As := []) (rest := []) (fun l => e_X14_take  hz e12 l) hrm dX14_both_14 rfl rfl (by omega) (Nat.le_of_ble_eq_true rfl) (Nat.le_of_ble_eq_true rfl) (hz.o14 rfl) rfl (Nat.le_of_ble_eq_true rfl) (fun vr h2 hq => hq.elim) (fun E9 h9 hq => ?_)
        exact w_out hf (Nat.le_of_ble_eq_true rfl) (Nat.le_of_ble_eq_true rfl) hq
      have hr := bw_ok hr
      refine c_X14_226 (As := []) (rest := []) (fun l => t_X14_take  hz e12 l) hrm dX14_both_14 rfl rfl (by omega) (Nat.le_of_ble_eq_true rfl) (Nat.le_of_ble_eq_true rfl) (hz.o14 rfl) rfl (Nat.le_of_ble_eq_true rfl) (fun vr h2 hq => ?_) (fun E9 h9 hq => hq.elim)
      obtain ⟨rfl, hz⟩ := hq
      show wp _ _ 17 [(0, .ref (A 14 0 0))] [] _ _ _
      refine w_aload_n 0 dX14_both_17 rfl rfl rfl ?_
      obtain ⟨v15, ρ16, e17, hr⟩ := bw_some hr
      rcases v15 with w19e | w19
      · obtain ⟨rfl, rfl⟩ := rete (bw_er hr)
        refine c_X14_254 (As := []) (rest := []) (fun l => e_X14_relation hkF gkF hdk hz e17 l) hrm dX14_both_18 rfl rfl (by omega) (Nat.le_of_ble_eq_true rfl) (Nat.le_of_ble_eq_true rfl) (hz.o14 rfl) rfl (Nat.le_of_ble_eq_true rfl) (fun vr h2 hq => hq.elim) (fun E9 h9 hq => ?_)
        exact w_out hf (Nat.le_of_ble_eq_true rfl) (Nat.le_of_ble_eq_true rfl) hq
      have hr := bw_ok hr
      refine c_X14_254 (As := []) (rest := []) (fun l => t_X14_relation hkF hdk hz e17 l) hrm dX14_both_18 rfl rfl (by omega) (Nat.le_of_ble_eq_true rfl) (Nat.le_of_ble_eq_true rfl) (hz.o14 rfl) rfl (Nat.le_of_ble_eq_true rfl) (fun vr h2 hq => ?_) (fun E9 h9 hq => hq.elim)
      obtain ⟨rfl, hz⟩ := hq
      show wp _ _ 21 [(0, .ref (A 14 0 0))] [] _ _ _
      refine w_aload_n 0 dX14_both_21 rfl rfl rfl ?_
      refine w_bipush 30 dX14_both_22 rfl rfl ?_
      refine w_lconst 0 dX14_both_24 rfl rfl ?_
      obtain ⟨v20, ρ21, e22, hr⟩ := bq_some hr
      refine c_X14_247 (As := [.int 30, .long 0]) (rest := []) (fun l => s_X14_emit  hz e22 l) hrm dX14_both_25 rfl rfl (by omega) (Nat.le_of_ble_eq_true rfl) (Nat.le_of_ble_eq_true rfl) (hz.o14 rfl) rfl (Nat.le_of_ble_eq_true rfl) (fun vr h2 hq => ?_) (fun E9 h9 hq => hq.elim)
      obtain ⟨rfl, hz⟩ := hq
      show wp _ _ 28 [(0, .ref (A 14 0 0))] [] _ _ _
      refine w_goto 4 dX14_both_28 rfl ?_
      refine w_lv [(0, .ref (A 14 0 0))] [0] rfl ?_
      exact x_X14_both_4 hf hrm hkF gkF hdk  n  _ _ hz  hr
set_option maxRecDepth 20000 in
set_option maxHeartbeats 4000000 in
theorem e_X14_both {A : Nat → Nat → Nat → Nat} {h : Hp} {σ ρ ρ' : Zs} {v : Int32 × Int32} {kF : Zs → Option (Except (Int32 × Int32) (Unit) × Zs)} {dk : Nat} (hkF : ∀ {h : Hp} {σ ρ ρ' : Zs} {v : Unit} , Rp A h σ ρ → kF  ρ = some (.ok v, ρ') → ∀ l : Launch, Sp l mX14_factor dk 0 0 [.ref (A 14 0 0)] h (QV A v σ ρ') X0) (gkF : ∀ {h : Hp} {σ ρ ρ' : Zs} {v : Int32 × Int32} , Rp A h σ ρ → kF  ρ = some (.error v, ρ') → ∀ l : Launch, Sp l mX14_factor dk 1 8 [.ref (A 14 0 0)] h QF (XW A v σ ρ')) (hdk : 20 ≤ dk) (hz : Rp A h σ ρ) (hr : fX14_both kF ρ = some (.error v, ρ')) : ∀ l : Launch, Sp l mX14_both (dk + 4) 1 8 [.ref (A 14 0 0)] h QF (XW A v σ ρ') := by
  intro l
  refine Sp.of rfl rfl (lv := [(0, .ref (A 14 0 0))]) (Nat.le_of_ble_eq_true rfl) rfl (fun x hf hrm => ?_)
  rw [fX14_both.eq_1] at hr
  refine w_aload_n 0 dX14_both_0 rfl rfl rfl ?_
  obtain ⟨v1, ρ2, e3, hr⟩ := bw_some hr
  rcases v1 with w5e | w5
  · obtain ⟨rfl, rfl⟩ := rete (bw_er hr)
    refine c_X14_254 (As := []) (rest := []) (fun l => e_X14_relation hkF gkF hdk hz e3 l) hrm dX14_both_1 rfl rfl (by omega) (Nat.le_of_ble_eq_true rfl) (Nat.le_of_ble_eq_true rfl) (hz.o14 rfl) rfl (Nat.le_of_ble_eq_true rfl) (fun vr h2 hq => hq.elim) (fun E9 h9 hq => ?_)
    exact w_out hf (Nat.le_of_ble_eq_true rfl) (Nat.le_of_ble_eq_true rfl) hq
  have hr := bw_ok hr
  refine c_X14_254 (As := []) (rest := []) (fun l => t_X14_relation hkF hdk hz e3 l) hrm dX14_both_1 rfl rfl (by omega) (Nat.le_of_ble_eq_true rfl) (Nat.le_of_ble_eq_true rfl) (hz.o14 rfl) rfl (Nat.le_of_ble_eq_true rfl) (fun vr h2 hq => ?_) (fun E9 h9 hq => hq.elim)
  obtain ⟨rfl, hz⟩ := hq
  show wp _ _ 4 [(0, .ref (A 14 0 0))] [] _ _ _
  refine w_lv [(0, .ref (A 14 0 0))] [0] rfl ?_
  exact x_X14_both_4 hf hrm hkF gkF hdk  FU  _ _ hz  hr

set_option maxRecDepth 20000 in
set_option maxHeartbeats 4000000 in
theorem u_X14_expression_4 {A : Nat → Nat → Nat → Nat} {σ ρ' : Zs} {v : Unit} {x : Cxt} {kF : Zs → Option (Except (Int32 × Int32) (Unit) × Zs)} {dk : Nat}  (hf : m_fin 0 0 (QV A v σ ρ') X0 x) (hrm : m_rm (dk + 5) 0 0 x) (hkF : ∀ {h : Hp} {σ ρ ρ' : Zs} {v : Unit} , Rp A h σ ρ → kF  ρ = some (.ok v, ρ') → ∀ l : Launch, Sp l mX14_factor dk 0 0 [.ref (A 14 0 0)] h (QV A v σ ρ') X0) (hdk : 20 ≤ dk) : ∀ (n : Nat) (ρ : Zs) (h : Hp), Rp A h σ ρ → fX14_expression_4 kF  n  ρ = some (.ok v, ρ') → wp x mX14_expression 4 [(0, .ref (A 14 0 0))] [] h 0 0
  | 0, ρ, h => fun hz hr => by
    rw [fX14_expression_4.eq_1] at hr
    exact nono hr
  | n + 1, ρ, h => fun hz hr => by
    rw [fX14_expression_4.eq_2] at hr
    refine w_aload_n 0 dX14_expression_4 rfl rfl rfl ?_
    refine w_bipush 29 dX14_expression_5 rfl rfl ?_
    obtain ⟨v6, ρ7, e8, hr⟩ := bq_some hr
    refine c_X14_223 (As := [.int 29]) (rest := []) (fun l => s_X14_is  hz e8 l) hrm dX14_expression_7 rfl rfl (by omega) (Nat.le_of_ble_eq_true rfl) (Nat.le_of_ble_eq_true rfl) (hz.o14 rfl) rfl (Nat.le_of_ble_eq_true rfl) (fun vr h2 hq => ?_) (fun E9 h9 hq => hq.elim)
    obtain ⟨rfl, hz⟩ := hq
    show wp _ _ 10 [(0, .ref (A 14 0 0))] [.int v6] _ _ _
    refine w_if_eq 31 dX14_expression_10 rfl rfl (fun q10 => ?_) (fun q10 => ?_)
    · have hr := bt q10 hr
      refine w_vret hf dX14_expression_31 rfl (Nat.le_of_ble_eq_true rfl) (Nat.le_of_ble_eq_true rfl) ?_
      obtain ⟨rfl, rfl⟩ := retw hr
      exact ⟨rfl, hz⟩
    · have hr := bf q10 hr
      refine w_aload_n 0 dX14_expression_13 rfl rfl rfl ?_
      obtain ⟨v10, ρ11, e12, hr⟩ := bw_some hr
      rcases v10 with w14e | w14
      · exact noko (bw_er hr)
      have hr := bw_ok hr
      refine c_X14_226 (As := []) (rest := []) (fun l => t_X14_take  hz e12 l) hrm dX14_expression_14 rfl rfl (by omega) (Nat.le_of_ble_eq_true rfl) (Nat.le_of_ble_eq_true rfl) (hz.o14 rfl) rfl (Nat.le_of_ble_eq_true rfl) (fun vr h2 hq => ?_) (fun E9 h9 hq => hq.elim)
      obtain ⟨rfl, hz⟩ := hq
      show wp _ _ 17 [(0, .ref (A 14 0 0))] [] _ _ _
      refine w_aload_n 0 dX14_expression_17 rfl rfl rfl ?_
      obtain ⟨v15, ρ16, e17, hr⟩ := bw_some hr
      rcases v15 with w19e | w19
      · exact noko (bw_er hr)
      have hr := bw_ok hr
      refine c_X14_251 (As := []) (rest := []) (fun l => t_X14_both hkF hdk hz e17 l) hrm dX14_expression_18 rfl rfl (by omega) (Nat.le_of_ble_eq_true rfl) (Nat.le_of_ble_eq_true rfl) (hz.o14 rfl) rfl (Nat.le_of_ble_eq_true rfl) (fun vr h2 hq => ?_) (fun E9 h9 hq => hq.elim)
      obtain ⟨rfl, hz⟩ := hq
      show wp _ _ 21 [(0, .ref (A 14 0 0))] [] _ _ _
      refine w_aload_n 0 dX14_expression_21 rfl rfl rfl ?_
      refine w_bipush 31 dX14_expression_22 rfl rfl ?_
      refine w_lconst 0 dX14_expression_24 rfl rfl ?_
      obtain ⟨v20, ρ21, e22, hr⟩ := bq_some hr
      refine c_X14_247 (As := [.int 31, .long 0]) (rest := []) (fun l => s_X14_emit  hz e22 l) hrm dX14_expression_25 rfl rfl (by omega) (Nat.le_of_ble_eq_true rfl) (Nat.le_of_ble_eq_true rfl) (hz.o14 rfl) rfl (Nat.le_of_ble_eq_true rfl) (fun vr h2 hq => ?_) (fun E9 h9 hq => hq.elim)
      obtain ⟨rfl, hz⟩ := hq
      show wp _ _ 28 [(0, .ref (A 14 0 0))] [] _ _ _
      refine w_goto 4 dX14_expression_28 rfl ?_
      refine w_lv [(0, .ref (A 14 0 0))] [0] rfl ?_
      exact u_X14_expression_4 hf hrm hkF hdk  n  _ _ hz  hr
set_option maxRecDepth 20000 in
set_option maxHeartbeats 4000000 in
theorem t_X14_expression {A : Nat → Nat → Nat → Nat} {h : Hp} {σ ρ ρ' : Zs} {v : Unit} {kF : Zs → Option (Except (Int32 × Int32) (Unit) × Zs)} {dk : Nat} (hkF : ∀ {h : Hp} {σ ρ ρ' : Zs} {v : Unit} , Rp A h σ ρ → kF  ρ = some (.ok v, ρ') → ∀ l : Launch, Sp l mX14_factor dk 0 0 [.ref (A 14 0 0)] h (QV A v σ ρ') X0) (hdk : 20 ≤ dk) (hz : Rp A h σ ρ) (hr : fX14_expression kF ρ = some (.ok v, ρ')) : ∀ l : Launch, Sp l mX14_expression (dk + 5) 0 0 [.ref (A 14 0 0)] h (QV A v σ ρ') X0 := by
  intro l
  refine Sp.of rfl rfl (lv := [(0, .ref (A 14 0 0))]) (Nat.le_of_ble_eq_true rfl) rfl (fun x hf hrm => ?_)
  rw [fX14_expression.eq_1] at hr
  refine w_aload_n 0 dX14_expression_0 rfl rfl rfl ?_
  obtain ⟨v1, ρ2, e3, hr⟩ := bw_some hr
  rcases v1 with w5e | w5
  · exact noko (bw_er hr)
  have hr := bw_ok hr
  refine c_X14_251 (As := []) (rest := []) (fun l => t_X14_both hkF hdk hz e3 l) hrm dX14_expression_1 rfl rfl (by omega) (Nat.le_of_ble_eq_true rfl) (Nat.le_of_ble_eq_true rfl) (hz.o14 rfl) rfl (Nat.le_of_ble_eq_true rfl) (fun vr h2 hq => ?_) (fun E9 h9 hq => hq.elim)
  obtain ⟨rfl, hz⟩ := hq
  show wp _ _ 4 [(0, .ref (A 14 0 0))] [] _ _ _
  refine w_lv [(0, .ref (A 14 0 0))] [0] rfl ?_
  exact u_X14_expression_4 hf hrm hkF hdk  FU  _ _ hz  hr

set_option maxRecDepth 20000 in
set_option maxHeartbeats 4000000 in
theorem x_X14_expression_4 {A : Nat → Nat → Nat → Nat} {σ ρ' : Zs} {v : Int32 × Int32} {x : Cxt} {kF : Zs → Option (Except (Int32 × Int32) (Unit) × Zs)} {dk : Nat}  (hf : m_fin 1 8 QF (XW A v σ ρ') x) (hrm : m_rm (dk + 5) 1 8 x) (hkF : ∀ {h : Hp} {σ ρ ρ' : Zs} {v : Unit} , Rp A h σ ρ → kF  ρ = some (.ok v, ρ') → ∀ l : Launch, Sp l mX14_factor dk 0 0 [.ref (A 14 0 0)] h (QV A v σ ρ') X0) (gkF : ∀ {h : Hp} {σ ρ ρ' : Zs} {v : Int32 × Int32} , Rp A h σ ρ → kF  ρ = some (.error v, ρ') → ∀ l : Launch, Sp l mX14_factor dk 1 8 [.ref (A 14 0 0)] h QF (XW A v σ ρ')) (hdk : 20 ≤ dk) : ∀ (n : Nat) (ρ : Zs) (h : Hp), Rp A h σ ρ → fX14_expression_4 kF  n  ρ = some (.error v, ρ') → wp x mX14_expression 4 [(0, .ref (A 14 0 0))] [] h 0 0
  | 0, ρ, h => fun hz hr => by
    rw [fX14_expression_4.eq_1] at hr
    exact nono hr
  | n + 1, ρ, h => fun hz hr => by
    rw [fX14_expression_4.eq_2] at hr
    refine w_aload_n 0 dX14_expression_4 rfl rfl rfl ?_
    refine w_bipush 29 dX14_expression_5 rfl rfl ?_
    obtain ⟨v6, ρ7, e8, hr⟩ := bq_some hr
    refine c_X14_223 (As := [.int 29]) (rest := []) (fun l => s_X14_is  hz e8 l) hrm dX14_expression_7 rfl rfl (by omega) (Nat.le_of_ble_eq_true rfl) (Nat.le_of_ble_eq_true rfl) (hz.o14 rfl) rfl (Nat.le_of_ble_eq_true rfl) (fun vr h2 hq => ?_) (fun E9 h9 hq => hq.elim)
    obtain ⟨rfl, hz⟩ := hq
    show wp _ _ 10 [(0, .ref (A 14 0 0))] [.int v6] _ _ _
    refine w_if_eq 31 dX14_expression_10 rfl rfl (fun q10 => ?_) (fun q10 => ?_)
    · have hr := bt q10 hr
      exact noek hr
    · have hr := bf q10 hr
      refine w_aload_n 0 dX14_expression_13 rfl rfl rfl ?_
      obtain ⟨v10, ρ11, e12, hr⟩ := bw_some hr
      rcases v10 with w14e | w14
      · obtain ⟨rfl, rfl⟩ := rete (bw_er hr)
        refine c_X14_226 (As := []) (rest := []) (fun l => e_X14_take  hz e12 l) hrm dX14_expression_14 rfl rfl (by omega) (Nat.le_of_ble_eq_true rfl) (Nat.le_of_ble_eq_true rfl) (hz.o14 rfl) rfl (Nat.le_of_ble_eq_true rfl) (fun vr h2 hq => hq.elim) (fun E9 h9 hq => ?_)
        exact w_out hf (Nat.le_of_ble_eq_true rfl) (Nat.le_of_ble_eq_true rfl) hq
      have hr := bw_ok hr
      refine c_X14_226 (As := []) (rest := []) (fun l => t_X14_take  hz e12 l) hrm dX14_expression_14 rfl rfl (by omega) (Nat.le_of_ble_eq_true rfl) (Nat.le_of_ble_eq_true rfl) (hz.o14 rfl) rfl (Nat.le_of_ble_eq_true rfl) (fun vr h2 hq => ?_) (fun E9 h9 hq => hq.elim)
      obtain ⟨rfl, hz⟩ := hq
      show wp _ _ 17 [(0, .ref (A 14 0 0))] [] _ _ _
      refine w_aload_n 0 dX14_expression_17 rfl rfl rfl ?_
      obtain ⟨v15, ρ16, e17, hr⟩ := bw_some hr
      rcases v15 with w19e | w19
      · obtain ⟨rfl, rfl⟩ := rete (bw_er hr)
        refine c_X14_251 (As := []) (rest := []) (fun l => e_X14_both hkF gkF hdk hz e17 l) hrm dX14_expression_18 rfl rfl (by omega) (Nat.le_of_ble_eq_true rfl) (Nat.le_of_ble_eq_true rfl) (hz.o14 rfl) rfl (Nat.le_of_ble_eq_true rfl) (fun vr h2 hq => hq.elim) (fun E9 h9 hq => ?_)
        exact w_out hf (Nat.le_of_ble_eq_true rfl) (Nat.le_of_ble_eq_true rfl) hq
      have hr := bw_ok hr
      refine c_X14_251 (As := []) (rest := []) (fun l => t_X14_both hkF hdk hz e17 l) hrm dX14_expression_18 rfl rfl (by omega) (Nat.le_of_ble_eq_true rfl) (Nat.le_of_ble_eq_true rfl) (hz.o14 rfl) rfl (Nat.le_of_ble_eq_true rfl) (fun vr h2 hq => ?_) (fun E9 h9 hq => hq.elim)
      obtain ⟨rfl, hz⟩ := hq
      show wp _ _ 21 [(0, .ref (A 14 0 0))] [] _ _ _
      refine w_aload_n 0 dX14_expression_21 rfl rfl rfl ?_
      refine w_bipush 31 dX14_expression_22 rfl rfl ?_
      refine w_lconst 0 dX14_expression_24 rfl rfl ?_
      obtain ⟨v20, ρ21, e22, hr⟩ := bq_some hr
      refine c_X14_247 (As := [.int 31, .long 0]) (rest := []) (fun l => s_X14_emit  hz e22 l) hrm dX14_expression_25 rfl rfl (by omega) (Nat.le_of_ble_eq_true rfl) (Nat.le_of_ble_eq_true rfl) (hz.o14 rfl) rfl (Nat.le_of_ble_eq_true rfl) (fun vr h2 hq => ?_) (fun E9 h9 hq => hq.elim)
      obtain ⟨rfl, hz⟩ := hq
      show wp _ _ 28 [(0, .ref (A 14 0 0))] [] _ _ _
      refine w_goto 4 dX14_expression_28 rfl ?_
      refine w_lv [(0, .ref (A 14 0 0))] [0] rfl ?_
      exact x_X14_expression_4 hf hrm hkF gkF hdk  n  _ _ hz  hr
set_option maxRecDepth 20000 in
set_option maxHeartbeats 4000000 in
theorem e_X14_expression {A : Nat → Nat → Nat → Nat} {h : Hp} {σ ρ ρ' : Zs} {v : Int32 × Int32} {kF : Zs → Option (Except (Int32 × Int32) (Unit) × Zs)} {dk : Nat} (hkF : ∀ {h : Hp} {σ ρ ρ' : Zs} {v : Unit} , Rp A h σ ρ → kF  ρ = some (.ok v, ρ') → ∀ l : Launch, Sp l mX14_factor dk 0 0 [.ref (A 14 0 0)] h (QV A v σ ρ') X0) (gkF : ∀ {h : Hp} {σ ρ ρ' : Zs} {v : Int32 × Int32} , Rp A h σ ρ → kF  ρ = some (.error v, ρ') → ∀ l : Launch, Sp l mX14_factor dk 1 8 [.ref (A 14 0 0)] h QF (XW A v σ ρ')) (hdk : 20 ≤ dk) (hz : Rp A h σ ρ) (hr : fX14_expression kF ρ = some (.error v, ρ')) : ∀ l : Launch, Sp l mX14_expression (dk + 5) 1 8 [.ref (A 14 0 0)] h QF (XW A v σ ρ') := by
  intro l
  refine Sp.of rfl rfl (lv := [(0, .ref (A 14 0 0))]) (Nat.le_of_ble_eq_true rfl) rfl (fun x hf hrm => ?_)
  rw [fX14_expression.eq_1] at hr
  refine w_aload_n 0 dX14_expression_0 rfl rfl rfl ?_
  obtain ⟨v1, ρ2, e3, hr⟩ := bw_some hr
  rcases v1 with w5e | w5
  · obtain ⟨rfl, rfl⟩ := rete (bw_er hr)
    refine c_X14_251 (As := []) (rest := []) (fun l => e_X14_both hkF gkF hdk hz e3 l) hrm dX14_expression_1 rfl rfl (by omega) (Nat.le_of_ble_eq_true rfl) (Nat.le_of_ble_eq_true rfl) (hz.o14 rfl) rfl (Nat.le_of_ble_eq_true rfl) (fun vr h2 hq => hq.elim) (fun E9 h9 hq => ?_)
    exact w_out hf (Nat.le_of_ble_eq_true rfl) (Nat.le_of_ble_eq_true rfl) hq
  have hr := bw_ok hr
  refine c_X14_251 (As := []) (rest := []) (fun l => t_X14_both hkF hdk hz e3 l) hrm dX14_expression_1 rfl rfl (by omega) (Nat.le_of_ble_eq_true rfl) (Nat.le_of_ble_eq_true rfl) (hz.o14 rfl) rfl (Nat.le_of_ble_eq_true rfl) (fun vr h2 hq => ?_) (fun E9 h9 hq => hq.elim)
  obtain ⟨rfl, hz⟩ := hq
  show wp _ _ 4 [(0, .ref (A 14 0 0))] [] _ _ _
  refine w_lv [(0, .ref (A 14 0 0))] [0] rfl ?_
  exact x_X14_expression_4 hf hrm hkF gkF hdk  FU  _ _ hz  hr

