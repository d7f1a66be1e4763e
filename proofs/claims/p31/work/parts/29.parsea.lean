/-! LIFTED: 29.parsea -/
noncomputable def fX4_fail  (σ : Zs) : Option (Unit × Zs) :=
  if 0 ≤ (zI σ 258 0 0 0) then (lt (sI σ 260 0 0 0 1) fun σ1 => some ((), σ1)) else (lt (sI σ 258 0 0 0 (zI σ 261 0 0 0)) fun σ3 => lt (sI σ3 260 0 0 0 1) fun σ5 => some ((), σ5))

noncomputable def fX4_advance  (σ : Zs) : Option (Unit × Zs) :=
  if 0 ≤ (zI σ 258 0 0 0) then (some ((), σ)) else (if (((zI σ 259 0 0 0) + 1) : Int32) < 0 then (some ((), σ)) else (if (((zI σ 259 0 0 0) + 1) : Int32) < (zI σ 580 0 0 0) then (lt (sI σ 259 0 0 0 ((zI σ 259 0 0 0) + 1)) fun σ1 => if gi (zI σ1 259 0 0 0) 1501 then lt (sI σ1 260 0 0 0 (zI σ1 1600 0 0 (Int32.toNatClampNeg (zI σ1 259 0 0 0)))) fun σ4 => if gi (zI σ4 259 0 0 0) 1501 then lt (sI σ4 261 0 0 0 (zI σ4 1601 0 0 (Int32.toNatClampNeg (zI σ4 259 0 0 0)))) fun σ7 => if gi (zI σ7 259 0 0 0) 1501 then lt (sJ σ7 262 0 0 0 (zJ σ7 1602 0 0 (Int32.toNatClampNeg (zI σ7 259 0 0 0)))) fun σ10 => some ((), σ10) else none else none else none) else (some ((), σ))))

noncomputable def fX4_take (x1 : Int32) (σ : Zs) : Option (Unit × Zs) :=
  if (zI σ 260 0 0 0) = x1 then (bq (fX4_advance  σ) fun v5 σ6 => some ((), σ6)) else (bq (fX4_fail  σ) fun v1 σ2 => some ((), σ2))

noncomputable def fX4_takeInExpression (x1 : Int32) (x2 : Int32) (σ : Zs) : Option (Int32 × Zs) :=
  if (zI σ 260 0 0 0) = x1 then (if 60 ≤ (zI σ 263 0 0 0) then (bq (fX4_fail  σ) fun v5 σ6 => some (0, σ6)) else (if x2 ≤ 8 then (lt (sI σ 263 0 0 0 ((zI σ 263 0 0 0) + 1)) fun σ9 => bq (fX4_advance  σ9) fun v11 σ12 => some (1, σ12)) else (bq (fX4_fail  σ) fun v15 σ16 => some (0, σ16)))) else (bq (fX4_fail  σ) fun v1 σ2 => some (0, σ2))

noncomputable def fX4_takeComma (x1 : Int32) (σ : Zs) : Option (Unit × Zs) :=
  if x1 ≤ 0 then (some ((), σ)) else (bq (fX4_take 44 σ) fun v1 σ2 => some ((), σ2))

noncomputable def fX4_takeName (x1 : Int32) (σ : Zs) : Option (Unit × Zs) :=
  if (zI σ 260 0 0 0) = 2 then (bq (fX3_lookAtName x1 (zJ σ 262 0 0 0) (zI σ 261 0 0 0) σ) fun v5 σ6 => bq (fX4_take 2 σ6) fun v9 σ10 => some ((), σ10)) else (bq (fX4_take 2 σ) fun v1 σ2 => some ((), σ2))

noncomputable def fX4_takeRange (x1 : Int32) (σ : Zs) : Option (Unit × Zs) :=
  bq (fX4_take x1 σ) fun v1 σ2 => if (zI σ2 260 0 0 0) = 3 then (bq (fX3_lookAtRange x1 (zJ σ2 262 0 0 0) (zI σ2 261 0 0 0) σ2) fun v9 σ10 => bq (fX4_take 3 σ10) fun v13 σ14 => some ((), σ14)) else (bq (fX4_take 3 σ2) fun v5 σ6 => some ((), σ6))

noncomputable def fX4_takeNames_8 (x1 : Int32)  : Nat → Int32 → Zs → Option (Unit × Zs)
  | 0, _, _ => none
  | n + 1, y2, σ =>
    if 1500 ≤ y2 then (bq (fX4_take 41 σ) fun v5 σ6 => some ((), σ6)) else (if y2 = 0 then (bq (fX4_takeComma y2 σ) fun v9 σ10 => bq (fX4_takeName x1 σ10) fun v13 σ14 => fX4_takeNames_8 x1  n (y2 + 1) σ14) else (if (zI σ 260 0 0 0) = 44 then (bq (fX4_takeComma y2 σ) fun v21 σ22 => bq (fX4_takeName x1 σ22) fun v25 σ26 => fX4_takeNames_8 x1  n (y2 + 1) σ26) else (bq (fX4_take 41 σ) fun v17 σ18 => some ((), σ18))))
noncomputable def fX4_takeNames (x1 : Int32) (σ : Zs) : Option (Unit × Zs) :=
  bq (fX4_take 40 σ) fun v1 σ2 => fX4_takeNames_8 x1  FU 0 σ2

noncomputable def fX4_secondInput  (σ : Zs) : Option (Unit × Zs) :=
  bq (fX4_take 44 σ) fun v1 σ2 => bq (fX4_takeName 3 σ2) fun v5 σ6 => some ((), σ6)

noncomputable def fX4_kindOfWork (x0 : Int32) (σ : Zs) : Option (Int32 × Zs) :=
  if (x0 : Int32) = 131 then (some (1, σ)) else if (x0 : Int32) = 132 then (some (0, σ)) else if (x0 : Int32) = 133 then (some (2, σ)) else if (x0 : Int32) = 134 then (some (0, σ)) else if (x0 : Int32) = 135 then (some (3, σ)) else if (x0 : Int32) = 136 then (some (4, σ)) else if (x0 : Int32) = 137 then (some (5, σ)) else if (x0 : Int32) = 138 then (some (0, σ)) else if (x0 : Int32) = 139 then (some (0, σ)) else if (x0 : Int32) = 140 then (some (6, σ)) else if (x0 : Int32) = 141 then (some (0, σ)) else if (x0 : Int32) = 142 then (some (7, σ)) else (some (0, σ))

noncomputable def fX4_takeTotal  (σ : Zs) : Option (Int32 × Zs) :=
  if (zI σ 260 0 0 0) = 151 then (bq (fX3_setTotal (zI σ 260 0 0 0) σ) fun v1 σ2 => bq (fX4_take (zI σ 260 0 0 0) σ2) fun v5 σ6 => some ((zI σ 260 0 0 0), σ6)) else (if (zI σ 260 0 0 0) = 150 then (bq (fX3_setTotal (zI σ 260 0 0 0) σ) fun v9 σ10 => bq (fX4_take (zI σ 260 0 0 0) σ10) fun v13 σ14 => some ((zI σ 260 0 0 0), σ14)) else (if (zI σ 260 0 0 0) = 152 then (bq (fX3_setTotal (zI σ 260 0 0 0) σ) fun v17 σ18 => bq (fX4_take (zI σ 260 0 0 0) σ18) fun v21 σ22 => some ((zI σ 260 0 0 0), σ22)) else (if (zI σ 260 0 0 0) = 153 then (bq (fX3_setTotal (zI σ 260 0 0 0) σ) fun v25 σ26 => bq (fX4_take (zI σ 260 0 0 0) σ26) fun v29 σ30 => some ((zI σ 260 0 0 0), σ30)) else (if (zI σ 260 0 0 0) = 154 then (bq (fX3_setTotal (zI σ 260 0 0 0) σ) fun v37 σ38 => bq (fX4_take (zI σ 260 0 0 0) σ38) fun v41 σ42 => some ((zI σ 260 0 0 0), σ42)) else (bq (fX4_fail  σ) fun v33 σ34 => some ((zI σ 260 0 0 0), σ34))))))

noncomputable def fX4_function_38 (x1 : Int32) (x2 : Int32) (kE : Int32 → Zs → Option (Unit × Zs))  : Nat → Int32 → Int32 → Int32 → Zs → Option (Unit × Zs)
  | 0, _, _, _, _ => none
  | n + 1, y3, y4, y5, σ =>
    if 60 ≤ y5 then (bq (fX4_takeInExpression 41 x2 σ) fun v13 σ14 => bq (fX3_endFunction x1 y4 y3 σ14) fun v17 σ18 => some ((), σ18)) else (if (zI σ 260 0 0 0) = 44 then (bq (fX4_takeInExpression 44 (x2 + 1) σ) fun v29 σ30 => bq (kE (x2 + 1) σ30) fun v33 σ34 => fX4_function_38 x1 x2 kE  n y3 (y4 + 1) (y5 + 1) σ34) else (bq (fX4_takeInExpression 41 x2 σ) fun v21 σ22 => bq (fX3_endFunction x1 y4 y3 σ22) fun v25 σ26 => some ((), σ26)))
noncomputable def fX4_function (x1 : Int32) (x2 : Int32) (kE : Int32 → Zs → Option (Unit × Zs)) (σ : Zs) : Option (Unit × Zs) :=
  bq (fX4_takeInExpression x1 x2 σ) fun v1 σ2 => bq (fX4_takeInExpression 40 (x2 + 1) σ2) fun v5 σ6 => if v5 = 0 then (some ((), σ6)) else (bq (kE (x2 + 1) σ6) fun v9 σ10 => fX4_function_38 x1 x2 kE  FU (zI σ 261 0 0 0) 1 0 σ10)

noncomputable def fX4_factor (x1 : Int32) (kE : Int32 → Zs → Option (Unit × Zs)) (kF : Int32 → Zs → Option (Unit × Zs)) (σ : Zs) : Option (Unit × Zs) :=
  if ((zI σ 260 0 0 0) : Int32) = 2 then (bq (fX3_useColumn (zJ σ 262 0 0 0) (zI σ 261 0 0 0) σ) fun v1 σ2 => bq (fX4_takeInExpression (zI σ 260 0 0 0) x1 σ2) fun v5 σ6 => some ((), σ6)) else if ((zI σ 260 0 0 0) : Int32) = 3 then (bq (fX3_emit (zI σ 260 0 0 0) (zJ σ 262 0 0 0) σ) fun v9 σ10 => bq (fX4_takeInExpression (zI σ 260 0 0 0) x1 σ10) fun v13 σ14 => some ((), σ14)) else if ((zI σ 260 0 0 0) : Int32) = 40 then (bq (fX4_takeInExpression 40 (x1 + 1) σ) fun v17 σ18 => if v17 = 0 then (some ((), σ18)) else (bq (kE (x1 + 1) σ18) fun v21 σ22 => bq (fX4_takeInExpression 41 x1 σ22) fun v25 σ26 => some ((), σ26))) else if ((zI σ 260 0 0 0) : Int32) = 45 then (bq (fX4_takeInExpression (zI σ 260 0 0 0) (x1 + 1) σ) fun v29 σ30 => if v29 = 0 then (some ((), σ30)) else (bq (kF (x1 + 1) σ30) fun v33 σ34 => if (zI σ 260 0 0 0) = 45 then (bq (fX3_emit 160 0 σ34) fun v41 σ42 => some ((), σ42)) else (bq (fX3_emit 158 0 σ34) fun v37 σ38 => some ((), σ38)))) else if ((zI σ 260 0 0 0) : Int32) = 152 then (bq (fX4_function (zI σ 260 0 0 0) x1 kE σ) fun v45 σ46 => some ((), σ46)) else if ((zI σ 260 0 0 0) : Int32) = 153 then (bq (fX4_function (zI σ 260 0 0 0) x1 kE σ) fun v49 σ50 => some ((), σ50)) else if ((zI σ 260 0 0 0) : Int32) = 155 then (bq (fX3_emit (zI σ 260 0 0 0) (zJ σ 262 0 0 0) σ) fun v53 σ54 => bq (fX4_takeInExpression (zI σ 260 0 0 0) x1 σ54) fun v57 σ58 => some ((), σ58)) else if ((zI σ 260 0 0 0) : Int32) = 158 then (bq (fX4_takeInExpression (zI σ 260 0 0 0) (x1 + 1) σ) fun v61 σ62 => if v61 = 0 then (some ((), σ62)) else (bq (kF (x1 + 1) σ62) fun v65 σ66 => if (zI σ 260 0 0 0) = 45 then (bq (fX3_emit 160 0 σ66) fun v73 σ74 => some ((), σ74)) else (bq (fX3_emit 158 0 σ66) fun v69 σ70 => some ((), σ70)))) else if ((zI σ 260 0 0 0) : Int32) = 159 then (bq (fX4_function (zI σ 260 0 0 0) x1 kE σ) fun v77 σ78 => some ((), σ78)) else (bq (fX4_fail  σ) fun v81 σ82 => some ((), σ82))

noncomputable def fX4_product_40 (x1 : Int32) (kF : Int32 → Zs → Option (Unit × Zs)) (k7 : Int32 → Zs → Option (Unit × Zs)) (y2 : Int32) (σ : Zs) : Option (Unit × Zs) :=
  bq (fX4_takeInExpression (zI σ 260 0 0 0) x1 σ) fun v5 σ6 => bq (kF x1 σ6) fun v9 σ10 => bq (fX3_emit (zI σ 260 0 0 0) 0 σ10) fun v13 σ14 => k7 (y2 + 1) σ14
noncomputable def fX4_product_7 (x1 : Int32) (kF : Int32 → Zs → Option (Unit × Zs))  : Nat → Int32 → Zs → Option (Unit × Zs)
  | 0, _, _ => none
  | n + 1, y2, σ =>
    if 60 ≤ y2 then (some ((), σ)) else (if (zI σ 260 0 0 0) = 42 then (fX4_product_40 x1 kF (fun by2 σb => fX4_product_7 x1 kF  n by2 σb) y2 σ) else (if (zI σ 260 0 0 0) = 47 then (fX4_product_40 x1 kF (fun by2 σb => fX4_product_7 x1 kF  n by2 σb) y2 σ) else (if (zI σ 260 0 0 0) = 37 then (fX4_product_40 x1 kF (fun by2 σb => fX4_product_7 x1 kF  n by2 σb) y2 σ) else (some ((), σ)))))
noncomputable def fX4_product (x1 : Int32) (kF : Int32 → Zs → Option (Unit × Zs)) (σ : Zs) : Option (Unit × Zs) :=
  bq (kF x1 σ) fun v1 σ2 => fX4_product_7 x1 kF  FU 0 σ2

noncomputable def fX4_sum_31 (x1 : Int32) (kF : Int32 → Zs → Option (Unit × Zs)) (k7 : Int32 → Zs → Option (Unit × Zs)) (y2 : Int32) (σ : Zs) : Option (Unit × Zs) :=
  bq (fX4_takeInExpression (zI σ 260 0 0 0) x1 σ) fun v5 σ6 => bq (fX4_product x1 kF σ6) fun v9 σ10 => bq (fX3_emit (zI σ 260 0 0 0) 0 σ10) fun v13 σ14 => k7 (y2 + 1) σ14
noncomputable def fX4_sum_7 (x1 : Int32) (kF : Int32 → Zs → Option (Unit × Zs))  : Nat → Int32 → Zs → Option (Unit × Zs)
  | 0, _, _ => none
  | n + 1, y2, σ =>
    if 60 ≤ y2 then (some ((), σ)) else (if (zI σ 260 0 0 0) = 43 then (fX4_sum_31 x1 kF (fun by2 σb => fX4_sum_7 x1 kF  n by2 σb) y2 σ) else (if (zI σ 260 0 0 0) = 45 then (fX4_sum_31 x1 kF (fun by2 σb => fX4_sum_7 x1 kF  n by2 σb) y2 σ) else (some ((), σ))))
noncomputable def fX4_sum (x1 : Int32) (kF : Int32 → Zs → Option (Unit × Zs)) (σ : Zs) : Option (Unit × Zs) :=
  bq (fX4_product x1 kF σ) fun v1 σ2 => fX4_sum_7 x1 kF  FU 0 σ2

noncomputable def fX4_relation_49 (x1 : Int32) (kF : Int32 → Zs → Option (Unit × Zs))  (y2 : Int32) (σ : Zs) : Option (Unit × Zs) :=
  bq (fX4_takeInExpression y2 x1 σ) fun v5 σ6 => bq (fX4_sum x1 kF σ6) fun v9 σ10 => bq (fX3_emit y2 0 σ10) fun v13 σ14 => some ((), σ14)
noncomputable def fX4_relation (x1 : Int32) (kF : Int32 → Zs → Option (Unit × Zs)) (σ : Zs) : Option (Unit × Zs) :=
  bq (fX4_sum x1 kF σ) fun v1 σ2 => if (zI σ2 260 0 0 0) = 61 then (fX4_relation_49 x1 kF  (zI σ2 260 0 0 0) σ2) else (if (zI σ2 260 0 0 0) = 60 then (fX4_relation_49 x1 kF  (zI σ2 260 0 0 0) σ2) else (if (zI σ2 260 0 0 0) = 62 then (fX4_relation_49 x1 kF  (zI σ2 260 0 0 0) σ2) else (if (zI σ2 260 0 0 0) = 15422 then (fX4_relation_49 x1 kF  (zI σ2 260 0 0 0) σ2) else (if (zI σ2 260 0 0 0) = 15421 then (fX4_relation_49 x1 kF  (zI σ2 260 0 0 0) σ2) else (if (zI σ2 260 0 0 0) = 15933 then (fX4_relation_49 x1 kF  (zI σ2 260 0 0 0) σ2) else (some ((), σ2)))))))

noncomputable def fX4_both_7 (x1 : Int32) (kF : Int32 → Zs → Option (Unit × Zs))  : Nat → Int32 → Zs → Option (Unit × Zs)
  | 0, _, _ => none
  | n + 1, y2, σ =>
    if 60 ≤ y2 then (some ((), σ)) else (if (zI σ 260 0 0 0) = 156 then (bq (fX4_takeInExpression 156 x1 σ) fun v5 σ6 => bq (fX4_relation x1 kF σ6) fun v9 σ10 => bq (fX3_emit 156 0 σ10) fun v13 σ14 => fX4_both_7 x1 kF  n (y2 + 1) σ14) else (some ((), σ)))
noncomputable def fX4_both (x1 : Int32) (kF : Int32 → Zs → Option (Unit × Zs)) (σ : Zs) : Option (Unit × Zs) :=
  bq (fX4_relation x1 kF σ) fun v1 σ2 => fX4_both_7 x1 kF  FU 0 σ2

noncomputable def fX4_expression_7 (x1 : Int32) (kF : Int32 → Zs → Option (Unit × Zs))  : Nat → Int32 → Zs → Option (Unit × Zs)
  | 0, _, _ => none
  | n + 1, y2, σ =>
    if 60 ≤ y2 then (some ((), σ)) else (if (zI σ 260 0 0 0) = 157 then (bq (fX4_takeInExpression 157 x1 σ) fun v5 σ6 => bq (fX4_both x1 kF σ6) fun v9 σ10 => bq (fX3_emit 157 0 σ10) fun v13 σ14 => fX4_expression_7 x1 kF  n (y2 + 1) σ14) else (some ((), σ)))
noncomputable def fX4_expression (x1 : Int32) (kF : Int32 → Zs → Option (Unit × Zs)) (σ : Zs) : Option (Unit × Zs) :=
  bq (fX4_both x1 kF σ) fun v1 σ2 => fX4_expression_7 x1 kF  FU 0 σ2

set_option maxRecDepth 20000 in
set_option maxHeartbeats 4000000 in
theorem s_X4_fail {A : Nat → Nat → Nat → Nat} {h : Hp} {σ ρ σ' : Zs} {v : Unit}   (hz : Rp A h σ ρ) (hr : fX4_fail  σ = some (v, σ')) : ∀ l : Launch, Sp l mX4_fail 0 0 0 [.ref (A 4 0 0)] h (QV A v σ' ρ) X0 := by
  intro l
  refine Sp.of rfl rfl (lv := [(0, .ref (A 4 0 0))]) (Nat.le_of_ble_eq_true rfl) rfl (fun x hf hrm => ?_)
  rw [fX4_fail.eq_1] at hr
  refine w_aload_n 0 dX4_fail_0 rfl rfl rfl ?_
  refine g_X4_19 dX4_fail_1 rfl (hz.o4 rfl) (hz.i258 rfl) ?_
  refine w_if_ge 15 dX4_fail_4 rfl rfl (fun q4 => ?_) (fun q4 => ?_)
  · have hr := bt q4 hr
    refine w_aload_n 0 dX4_fail_15 rfl rfl rfl ?_
    refine w_iconst 1 dX4_fail_16 rfl rfl ?_
    refine p_X4_29 dX4_fail_17 rfl (hz.o4 rfl) ?_
    obtain ⟨σ1, e2, hr⟩ := lt_e hr
    have hz := (hz.s260 (v := 1) rfl).ts e2
    refine w_vret hf dX4_fail_20 rfl (Nat.le_of_ble_eq_true rfl) (Nat.le_of_ble_eq_true rfl) ?_
    obtain ⟨rfl, rfl⟩ := ret_inj hr
    exact ⟨rfl, hz⟩
  · have hr := bf q4 hr
    refine w_aload_n 0 dX4_fail_7 rfl rfl rfl ?_
    refine w_aload_n 0 dX4_fail_8 rfl rfl rfl ?_
    refine g_X4_44 dX4_fail_9 rfl (hz.o4 rfl) (hz.i261 rfl) ?_
    refine p_X4_19 dX4_fail_12 rfl (hz.o4 rfl) ?_
    obtain ⟨σ3, e4, hr⟩ := lt_e hr
    have hz := (hz.s258 (v := (zI σ 261 0 0 0)) rfl).ts e4
    refine w_aload_n 0 dX4_fail_15 rfl rfl rfl ?_
    refine w_iconst 1 dX4_fail_16 rfl rfl ?_
    refine p_X4_29 dX4_fail_17 rfl (hz.o4 rfl) ?_
    obtain ⟨σ5, e6, hr⟩ := lt_e hr
    have hz := (hz.s260 (v := 1) rfl).ts e6
    refine w_vret hf dX4_fail_20 rfl (Nat.le_of_ble_eq_true rfl) (Nat.le_of_ble_eq_true rfl) ?_
    obtain ⟨rfl, rfl⟩ := ret_inj hr
    exact ⟨rfl, hz⟩

set_option maxRecDepth 20000 in
set_option maxHeartbeats 4000000 in
theorem s_X4_advance {A : Nat → Nat → Nat → Nat} {h : Hp} {σ ρ σ' : Zs} {v : Unit}   (hz : Rp A h σ ρ) (hr : fX4_advance  σ = some (v, σ')) : ∀ l : Launch, Sp l mX4_advance 0 0 0 [.ref (A 4 0 0)] h (QV A v σ' ρ) X0 := by
  intro l
  refine Sp.of rfl rfl (lv := [(0, .ref (A 4 0 0))]) (Nat.le_of_ble_eq_true rfl) rfl (fun x hf hrm => ?_)
  rw [fX4_advance.eq_1] at hr
  refine w_aload_n 0 dX4_advance_0 rfl rfl rfl ?_
  refine g_X4_23 dX4_advance_1 rfl (hz.o4 rfl) (hz.i259 rfl) ?_
  refine w_iconst 1 dX4_advance_4 rfl rfl ?_
  refine w_iadd dX4_advance_5 rfl ?_
  refine w_istore_n [(1, .int ((zI σ 259 0 0 0) + 1)), (0, .ref (A 4 0 0))] dX4_advance_6 rfl rfl (by decide) rfl ?_
  refine w_aload_n 1 dX4_advance_7 rfl rfl rfl ?_
  refine g_X4_19 dX4_advance_8 rfl (hz.o4 rfl) (hz.i258 rfl) ?_
  refine w_if_ge 29 dX4_advance_11 rfl rfl (fun q11 => ?_) (fun q11 => ?_)
  · have hr := bt q11 hr
    refine w_vret hf dX4_advance_29 rfl (Nat.le_of_ble_eq_true rfl) (Nat.le_of_ble_eq_true rfl) ?_
    obtain ⟨rfl, rfl⟩ := ret_inj hr
    exact ⟨rfl, hz⟩
  · have hr := bf q11 hr
    refine w_iload_n 0 dX4_advance_14 rfl rfl rfl ?_
    refine w_if_lt 29 dX4_advance_15 rfl rfl (fun q15 => ?_) (fun q15 => ?_)
    · have hr := bt q15 hr
      refine w_vret hf dX4_advance_29 rfl (Nat.le_of_ble_eq_true rfl) (Nat.le_of_ble_eq_true rfl) ?_
      obtain ⟨rfl, rfl⟩ := ret_inj hr
      exact ⟨rfl, hz⟩
    · have hr := bf q15 hr
      refine w_iload_n 0 dX4_advance_18 rfl rfl rfl ?_
      refine w_aload_n 1 dX4_advance_19 rfl rfl rfl ?_
      refine g_X4_9 dX4_advance_20 rfl (hz.o4 rfl) (hz.r256 rfl) ?_
      refine g_X4_161 dX4_advance_23 rfl (hz.o9 rfl) (hz.i580 rfl) ?_
      refine w_icmp_lt 30 dX4_advance_26 rfl rfl (fun q26 => ?_) (fun q26 => ?_)
      · have hr := bt q26 hr
        refine w_aload_n 1 dX4_advance_30 rfl rfl rfl ?_
        refine w_iload_n 0 dX4_advance_31 rfl rfl rfl ?_
        refine p_X4_23 dX4_advance_32 rfl (hz.o4 rfl) ?_
        obtain ⟨σ1, e2, hr⟩ := lt_e hr
        have hz := (hz.s259 (v := ((zI σ 259 0 0 0) + 1)) rfl).ts e2
        refine w_aload_n 1 dX4_advance_35 rfl rfl rfl ?_
        refine w_aload_n 1 dX4_advance_36 rfl rfl rfl ?_
        refine g_X4_9 dX4_advance_37 rfl (hz.o4 rfl) (hz.r256 rfl) ?_
        refine g_X4_166 dX4_advance_40 rfl (hz.o9 rfl) (hz.r576 rfl) ?_
        refine w_aload_n 1 dX4_advance_43 rfl rfl rfl ?_
        refine g_X4_23 dX4_advance_44 rfl (hz.o4 rfl) (hz.i259 rfl) ?_
        obtain ⟨g3, hr⟩ := gd hr
        refine w_iald dX4_advance_47 rfl (hz.k576 rfl) (gin (hz.n576 rfl) g3) (hz.x576 rfl) ?_
        refine p_X4_29 dX4_advance_48 rfl (hz.o4 rfl) ?_
        obtain ⟨σ4, e5, hr⟩ := lt_e hr
        have hz := (hz.s260 (v := (zI σ1 1600 0 0 (Int32.toNatClampNeg (zI σ1 259 0 0 0)))) rfl).ts e5
        refine w_aload_n 1 dX4_advance_51 rfl rfl rfl ?_
        refine w_aload_n 1 dX4_advance_52 rfl rfl rfl ?_
        refine g_X4_9 dX4_advance_53 rfl (hz.o4 rfl) (hz.r256 rfl) ?_
        refine g_X4_170 dX4_advance_56 rfl (hz.o9 rfl) (hz.r577 rfl) ?_
        refine w_aload_n 1 dX4_advance_59 rfl rfl rfl ?_
        refine g_X4_23 dX4_advance_60 rfl (hz.o4 rfl) (hz.i259 rfl) ?_
        obtain ⟨g6, hr⟩ := gd hr
        refine w_iald dX4_advance_63 rfl (hz.k577 rfl) (gin (hz.n577 rfl) g6) (hz.x577 rfl) ?_
        refine p_X4_44 dX4_advance_64 rfl (hz.o4 rfl) ?_
        obtain ⟨σ7, e8, hr⟩ := lt_e hr
        have hz := (hz.s261 (v := (zI σ4 1601 0 0 (Int32.toNatClampNeg (zI σ4 259 0 0 0)))) rfl).ts e8
        refine w_aload_n 1 dX4_advance_67 rfl rfl rfl ?_
        refine w_aload_n 1 dX4_advance_68 rfl rfl rfl ?_
        refine g_X4_9 dX4_advance_69 rfl (hz.o4 rfl) (hz.r256 rfl) ?_
        refine g_X4_173 dX4_advance_72 rfl (hz.o9 rfl) (hz.r578 rfl) ?_
        refine w_aload_n 1 dX4_advance_75 rfl rfl rfl ?_
        refine g_X4_23 dX4_advance_76 rfl (hz.o4 rfl) (hz.i259 rfl) ?_
        obtain ⟨g9, hr⟩ := gd hr
        refine w_lald dX4_advance_79 rfl (hz.k578 rfl) (gin (hz.n578 rfl) g9) (hz.x578 rfl) ?_
        refine p_X4_139 dX4_advance_80 rfl (hz.o4 rfl) ?_
        obtain ⟨σ10, e11, hr⟩ := lt_e hr
        have hz := (hz.s262 (v := (zJ σ7 1602 0 0 (Int32.toNatClampNeg (zI σ7 259 0 0 0)))) rfl).ts e11
        refine w_vret hf dX4_advance_83 rfl (Nat.le_of_ble_eq_true rfl) (Nat.le_of_ble_eq_true rfl) ?_
        obtain ⟨rfl, rfl⟩ := ret_inj hr
        exact ⟨rfl, hz⟩
      · have hr := bf q26 hr
        refine w_vret hf dX4_advance_29 rfl (Nat.le_of_ble_eq_true rfl) (Nat.le_of_ble_eq_true rfl) ?_
        obtain ⟨rfl, rfl⟩ := ret_inj hr
        exact ⟨rfl, hz⟩

set_option maxRecDepth 20000 in
set_option maxHeartbeats 4000000 in
theorem s_X4_take {A : Nat → Nat → Nat → Nat} {h : Hp} {σ ρ σ' : Zs} {v : Unit} {x1 : Int32}  (hz : Rp A h σ ρ) (hr : fX4_take x1 σ = some (v, σ')) : ∀ l : Launch, Sp l mX4_take 1 0 0 [.ref (A 4 0 0), .int x1] h (QV A v σ' ρ) X0 := by
  intro l
  refine Sp.of rfl rfl (lv := [(0, .ref (A 4 0 0)), (1, .int x1)]) (Nat.le_of_ble_eq_true rfl) rfl (fun x hf hrm => ?_)
  rw [fX4_take.eq_1] at hr
  refine w_aload_n 0 dX4_take_0 rfl rfl rfl ?_
  refine g_X4_29 dX4_take_1 rfl (hz.o4 rfl) (hz.i260 rfl) ?_
  refine w_iload_n 1 dX4_take_4 rfl rfl rfl ?_
  refine w_icmp_ne 15 dX4_take_5 rfl rfl (fun q5 => ?_) (fun q5 => ?_)
  · have hr := bf q5 hr
    refine w_aload_n 0 dX4_take_15 rfl rfl rfl ?_
    obtain ⟨v1, σ2, e3, hr⟩ := bq_some hr
    refine c_X4_41 (As := []) (rest := []) (fun l => s_X4_fail  hz e3 l) hrm dX4_take_16 rfl rfl (Nat.le_of_ble_eq_true rfl) (Nat.le_of_ble_eq_true rfl) (Nat.le_of_ble_eq_true rfl) (hz.o4 rfl) rfl (Nat.le_of_ble_eq_true rfl) (fun vr h2 hq => ?_) (fun E9 h9 hq => hq.elim)
    obtain ⟨rfl, hz⟩ := hq
    show wp _ _ 19 [(0, .ref (A 4 0 0)), (1, .int x1)] [] _ _ _
    refine w_vret hf dX4_take_19 rfl (Nat.le_of_ble_eq_true rfl) (Nat.le_of_ble_eq_true rfl) ?_
    obtain ⟨rfl, rfl⟩ := ret_inj hr
    exact ⟨rfl, hz⟩
  · have hr := bt q5 hr
    refine w_aload_n 0 dX4_take_8 rfl rfl rfl ?_
    obtain ⟨v5, σ6, e7, hr⟩ := bq_some hr
    refine c_X4_26 (As := []) (rest := []) (fun l => s_X4_advance  hz e7 l) hrm dX4_take_9 rfl rfl (Nat.le_of_ble_eq_true rfl) (Nat.le_of_ble_eq_true rfl) (Nat.le_of_ble_eq_true rfl) (hz.o4 rfl) rfl (Nat.le_of_ble_eq_true rfl) (fun vr h2 hq => ?_) (fun E9 h9 hq => hq.elim)
    obtain ⟨rfl, hz⟩ := hq
    show wp _ _ 12 [(0, .ref (A 4 0 0)), (1, .int x1)] [] _ _ _
    refine w_goto 19 dX4_take_12 rfl ?_
    refine w_vret hf dX4_take_19 rfl (Nat.le_of_ble_eq_true rfl) (Nat.le_of_ble_eq_true rfl) ?_
    obtain ⟨rfl, rfl⟩ := ret_inj hr
    exact ⟨rfl, hz⟩

set_option maxRecDepth 20000 in
set_option maxHeartbeats 4000000 in
theorem s_X4_takeInExpression {A : Nat → Nat → Nat → Nat} {h : Hp} {σ ρ σ' : Zs} {v : Int32} {x1 : Int32} {x2 : Int32}  (hz : Rp A h σ ρ) (hr : fX4_takeInExpression x1 x2 σ = some (v, σ')) : ∀ l : Launch, Sp l mX4_takeInExpression 1 0 0 [.ref (A 4 0 0), .int x1, .int x2] h (QI A v σ' ρ) X0 := by
  intro l
  refine Sp.of rfl rfl (lv := [(0, .ref (A 4 0 0)), (1, .int x1), (2, .int x2)]) (Nat.le_of_ble_eq_true rfl) rfl (fun x hf hrm => ?_)
  rw [fX4_takeInExpression.eq_1] at hr
  refine w_aload_n 0 dX4_takeInExpression_0 rfl rfl rfl ?_
  refine g_X4_29 dX4_takeInExpression_1 rfl (hz.o4 rfl) (hz.i260 rfl) ?_
  refine w_iload_n 1 dX4_takeInExpression_4 rfl rfl rfl ?_
  refine w_icmp_ne 23 dX4_takeInExpression_5 rfl rfl (fun q5 => ?_) (fun q5 => ?_)
  · have hr := bf q5 hr
    refine w_aload_n 0 dX4_takeInExpression_23 rfl rfl rfl ?_
    obtain ⟨v1, σ2, e3, hr⟩ := bq_some hr
    refine c_X4_41 (As := []) (rest := []) (fun l => s_X4_fail  hz e3 l) hrm dX4_takeInExpression_24 rfl rfl (Nat.le_of_ble_eq_true rfl) (Nat.le_of_ble_eq_true rfl) (Nat.le_of_ble_eq_true rfl) (hz.o4 rfl) rfl (Nat.le_of_ble_eq_true rfl) (fun vr h2 hq => ?_) (fun E9 h9 hq => hq.elim)
    obtain ⟨rfl, hz⟩ := hq
    show wp _ _ 27 [(0, .ref (A 4 0 0)), (1, .int x1), (2, .int x2)] [] _ _ _
    refine w_iconst 0 dX4_takeInExpression_27 rfl rfl ?_
    refine w_zret hf dX4_takeInExpression_28 rfl rfl (Nat.le_of_ble_eq_true rfl) (Nat.le_of_ble_eq_true rfl) ?_
    obtain ⟨rfl, rfl⟩ := ret_inj hr
    exact ⟨rfl, hz⟩
  · have hr := bt q5 hr
    refine w_aload_n 0 dX4_takeInExpression_8 rfl rfl rfl ?_
    refine g_X4_104 dX4_takeInExpression_9 rfl (hz.o4 rfl) (hz.i263 rfl) ?_
    refine w_bipush 60 dX4_takeInExpression_12 rfl rfl ?_
    refine w_icmp_ge 23 dX4_takeInExpression_14 rfl rfl (fun q14 => ?_) (fun q14 => ?_)
    · have hr := bt q14 hr
      refine w_aload_n 0 dX4_takeInExpression_23 rfl rfl rfl ?_
      obtain ⟨v5, σ6, e7, hr⟩ := bq_some hr
      refine c_X4_41 (As := []) (rest := []) (fun l => s_X4_fail  hz e7 l) hrm dX4_takeInExpression_24 rfl rfl (Nat.le_of_ble_eq_true rfl) (Nat.le_of_ble_eq_true rfl) (Nat.le_of_ble_eq_true rfl) (hz.o4 rfl) rfl (Nat.le_of_ble_eq_true rfl) (fun vr h2 hq => ?_) (fun E9 h9 hq => hq.elim)
      obtain ⟨rfl, hz⟩ := hq
      show wp _ _ 27 [(0, .ref (A 4 0 0)), (1, .int x1), (2, .int x2)] [] _ _ _
      refine w_iconst 0 dX4_takeInExpression_27 rfl rfl ?_
      refine w_zret hf dX4_takeInExpression_28 rfl rfl (Nat.le_of_ble_eq_true rfl) (Nat.le_of_ble_eq_true rfl) ?_
      obtain ⟨rfl, rfl⟩ := ret_inj hr
      exact ⟨rfl, hz⟩
    · have hr := bf q14 hr
      refine w_iload_n 2 dX4_takeInExpression_17 rfl rfl rfl ?_
      refine w_bipush 8 dX4_takeInExpression_18 rfl rfl ?_
      refine w_icmp_le 29 dX4_takeInExpression_20 rfl rfl (fun q20 => ?_) (fun q20 => ?_)
      · have hr := bt q20 hr
        refine w_aload_n 0 dX4_takeInExpression_29 rfl rfl rfl ?_
        refine w_dup dX4_takeInExpression_30 rfl rfl ?_
        refine g_X4_104 dX4_takeInExpression_31 rfl (hz.o4 rfl) (hz.i263 rfl) ?_
        refine w_iconst 1 dX4_takeInExpression_34 rfl rfl ?_
        refine w_iadd dX4_takeInExpression_35 rfl ?_
        refine p_X4_104 dX4_takeInExpression_36 rfl (hz.o4 rfl) ?_
        obtain ⟨σ9, e10, hr⟩ := lt_e hr
        have hz := (hz.s263 (v := ((zI σ 263 0 0 0) + 1)) rfl).ts e10
        refine w_aload_n 0 dX4_takeInExpression_39 rfl rfl rfl ?_
        obtain ⟨v11, σ12, e13, hr⟩ := bq_some hr
        refine c_X4_26 (As := []) (rest := []) (fun l => s_X4_advance  hz e13 l) hrm dX4_takeInExpression_40 rfl rfl (Nat.le_of_ble_eq_true rfl) (Nat.le_of_ble_eq_true rfl) (Nat.le_of_ble_eq_true rfl) (hz.o4 rfl) rfl (Nat.le_of_ble_eq_true rfl) (fun vr h2 hq => ?_) (fun E9 h9 hq => hq.elim)
        obtain ⟨rfl, hz⟩ := hq
        show wp _ _ 43 [(0, .ref (A 4 0 0)), (1, .int x1), (2, .int x2)] [] _ _ _
        refine w_iconst 1 dX4_takeInExpression_43 rfl rfl ?_
        refine w_zret hf dX4_takeInExpression_44 rfl rfl (Nat.le_of_ble_eq_true rfl) (Nat.le_of_ble_eq_true rfl) ?_
        obtain ⟨rfl, rfl⟩ := ret_inj hr
        exact ⟨rfl, hz⟩
      · have hr := bf q20 hr
        refine w_aload_n 0 dX4_takeInExpression_23 rfl rfl rfl ?_
        obtain ⟨v15, σ16, e17, hr⟩ := bq_some hr
        refine c_X4_41 (As := []) (rest := []) (fun l => s_X4_fail  hz e17 l) hrm dX4_takeInExpression_24 rfl rfl (Nat.le_of_ble_eq_true rfl) (Nat.le_of_ble_eq_true rfl) (Nat.le_of_ble_eq_true rfl) (hz.o4 rfl) rfl (Nat.le_of_ble_eq_true rfl) (fun vr h2 hq => ?_) (fun E9 h9 hq => hq.elim)
        obtain ⟨rfl, hz⟩ := hq
        show wp _ _ 27 [(0, .ref (A 4 0 0)), (1, .int x1), (2, .int x2)] [] _ _ _
        refine w_iconst 0 dX4_takeInExpression_27 rfl rfl ?_
        refine w_zret hf dX4_takeInExpression_28 rfl rfl (Nat.le_of_ble_eq_true rfl) (Nat.le_of_ble_eq_true rfl) ?_
        obtain ⟨rfl, rfl⟩ := ret_inj hr
        exact ⟨rfl, hz⟩

set_option maxRecDepth 20000 in
set_option maxHeartbeats 4000000 in
theorem s_X4_takeComma {A : Nat → Nat → Nat → Nat} {h : Hp} {σ ρ σ' : Zs} {v : Unit} {x1 : Int32}  (hz : Rp A h σ ρ) (hr : fX4_takeComma x1 σ = some (v, σ')) : ∀ l : Launch, Sp l mX4_takeComma 2 0 0 [.ref (A 4 0 0), .int x1] h (QV A v σ' ρ) X0 := by
  intro l
  refine Sp.of rfl rfl (lv := [(0, .ref (A 4 0 0)), (1, .int x1)]) (Nat.le_of_ble_eq_true rfl) rfl (fun x hf hrm => ?_)
  rw [fX4_takeComma.eq_1] at hr
  refine w_iload_n 1 dX4_takeComma_0 rfl rfl rfl ?_
  refine w_if_le 10 dX4_takeComma_1 rfl rfl (fun q1 => ?_) (fun q1 => ?_)
  · have hr := bt q1 hr
    refine w_vret hf dX4_takeComma_10 rfl (Nat.le_of_ble_eq_true rfl) (Nat.le_of_ble_eq_true rfl) ?_
    obtain ⟨rfl, rfl⟩ := ret_inj hr
    exact ⟨rfl, hz⟩
  · have hr := bf q1 hr
    refine w_aload_n 0 dX4_takeComma_4 rfl rfl rfl ?_
    refine w_bipush 44 dX4_takeComma_5 rfl rfl ?_
    obtain ⟨v1, σ2, e3, hr⟩ := bq_some hr
    refine c_X4_57 (As := [.int 44]) (rest := []) (fun l => s_X4_take  hz e3 l) hrm dX4_takeComma_7 rfl rfl (Nat.le_of_ble_eq_true rfl) (Nat.le_of_ble_eq_true rfl) (Nat.le_of_ble_eq_true rfl) (hz.o4 rfl) rfl (Nat.le_of_ble_eq_true rfl) (fun vr h2 hq => ?_) (fun E9 h9 hq => hq.elim)
    obtain ⟨rfl, hz⟩ := hq
    show wp _ _ 10 [(0, .ref (A 4 0 0)), (1, .int x1)] [] _ _ _
    refine w_vret hf dX4_takeComma_10 rfl (Nat.le_of_ble_eq_true rfl) (Nat.le_of_ble_eq_true rfl) ?_
    obtain ⟨rfl, rfl⟩ := ret_inj hr
    exact ⟨rfl, hz⟩

set_option maxRecDepth 20000 in
set_option maxHeartbeats 4000000 in
theorem s_X4_takeName {A : Nat → Nat → Nat → Nat} {h : Hp} {σ ρ σ' : Zs} {v : Unit} {x1 : Int32}  (hz : Rp A h σ ρ) (hr : fX4_takeName x1 σ = some (v, σ')) : ∀ l : Launch, Sp l mX4_takeName 3 0 0 [.ref (A 4 0 0), .int x1] h (QV A v σ' ρ) X0 := by
  intro l
  refine Sp.of rfl rfl (lv := [(0, .ref (A 4 0 0)), (1, .int x1)]) (Nat.le_of_ble_eq_true rfl) rfl (fun x hf hrm => ?_)
  rw [fX4_takeName.eq_1] at hr
  refine w_aload_n 0 dX4_takeName_0 rfl rfl rfl ?_
  refine g_X4_29 dX4_takeName_1 rfl (hz.o4 rfl) (hz.i260 rfl) ?_
  refine w_iconst 2 dX4_takeName_4 rfl rfl ?_
  refine w_icmp_ne 24 dX4_takeName_5 rfl rfl (fun q5 => ?_) (fun q5 => ?_)
  · have hr := bf q5 hr
    refine w_aload_n 0 dX4_takeName_24 rfl rfl rfl ?_
    refine w_iconst 2 dX4_takeName_25 rfl rfl ?_
    obtain ⟨v1, σ2, e3, hr⟩ := bq_some hr
    refine c_X4_57 (As := [.int 2]) (rest := []) (fun l => s_X4_take  hz e3 l) hrm dX4_takeName_26 rfl rfl (Nat.le_of_ble_eq_true rfl) (Nat.le_of_ble_eq_true rfl) (Nat.le_of_ble_eq_true rfl) (hz.o4 rfl) rfl (Nat.le_of_ble_eq_true rfl) (fun vr h2 hq => ?_) (fun E9 h9 hq => hq.elim)
    obtain ⟨rfl, hz⟩ := hq
    show wp _ _ 29 [(0, .ref (A 4 0 0)), (1, .int x1)] [] _ _ _
    refine w_vret hf dX4_takeName_29 rfl (Nat.le_of_ble_eq_true rfl) (Nat.le_of_ble_eq_true rfl) ?_
    obtain ⟨rfl, rfl⟩ := ret_inj hr
    exact ⟨rfl, hz⟩
  · have hr := bt q5 hr
    refine w_aload_n 0 dX4_takeName_8 rfl rfl rfl ?_
    refine g_X4_15 dX4_takeName_9 rfl (hz.o4 rfl) (hz.r257 rfl) ?_
    refine w_iload_n 1 dX4_takeName_12 rfl rfl rfl ?_
    refine w_aload_n 0 dX4_takeName_13 rfl rfl rfl ?_
    refine g_X4_139 dX4_takeName_14 rfl (hz.o4 rfl) (hz.i262 rfl) ?_
    refine w_aload_n 0 dX4_takeName_17 rfl rfl rfl ?_
    refine g_X4_44 dX4_takeName_18 rfl (hz.o4 rfl) (hz.i261 rfl) ?_
    obtain ⟨v5, σ6, e7, hr⟩ := bq_some hr
    refine c_X4_154 (As := [.int x1, .long (zJ σ 262 0 0 0), .int (zI σ 261 0 0 0)]) (rest := []) (fun l => s_X3_lookAtName  hz e7 l) hrm dX4_takeName_21 rfl rfl (Nat.le_of_ble_eq_true rfl) (Nat.le_of_ble_eq_true rfl) (Nat.le_of_ble_eq_true rfl) (hz.o3 rfl) rfl (Nat.le_of_ble_eq_true rfl) (fun vr h2 hq => ?_) (fun E9 h9 hq => hq.elim)
    obtain ⟨rfl, hz⟩ := hq
    show wp _ _ 24 [(0, .ref (A 4 0 0)), (1, .int x1)] [] _ _ _
    refine w_aload_n 0 dX4_takeName_24 rfl rfl rfl ?_
    refine w_iconst 2 dX4_takeName_25 rfl rfl ?_
    obtain ⟨v9, σ10, e11, hr⟩ := bq_some hr
    refine c_X4_57 (As := [.int 2]) (rest := []) (fun l => s_X4_take  hz e11 l) hrm dX4_takeName_26 rfl rfl (Nat.le_of_ble_eq_true rfl) (Nat.le_of_ble_eq_true rfl) (Nat.le_of_ble_eq_true rfl) (hz.o4 rfl) rfl (Nat.le_of_ble_eq_true rfl) (fun vr h2 hq => ?_) (fun E9 h9 hq => hq.elim)
    obtain ⟨rfl, hz⟩ := hq
    show wp _ _ 29 [(0, .ref (A 4 0 0)), (1, .int x1)] [] _ _ _
    refine w_vret hf dX4_takeName_29 rfl (Nat.le_of_ble_eq_true rfl) (Nat.le_of_ble_eq_true rfl) ?_
    obtain ⟨rfl, rfl⟩ := ret_inj hr
    exact ⟨rfl, hz⟩

set_option maxRecDepth 20000 in
set_option maxHeartbeats 4000000 in
theorem s_X4_takeRange {A : Nat → Nat → Nat → Nat} {h : Hp} {σ ρ σ' : Zs} {v : Unit} {x1 : Int32}  (hz : Rp A h σ ρ) (hr : fX4_takeRange x1 σ = some (v, σ')) : ∀ l : Launch, Sp l mX4_takeRange 2 0 0 [.ref (A 4 0 0), .int x1] h (QV A v σ' ρ) X0 := by
  intro l
  refine Sp.of rfl rfl (lv := [(0, .ref (A 4 0 0)), (1, .int x1)]) (Nat.le_of_ble_eq_true rfl) rfl (fun x hf hrm => ?_)
  rw [fX4_takeRange.eq_1] at hr
  refine w_aload_n 0 dX4_takeRange_0 rfl rfl rfl ?_
  refine w_iload_n 1 dX4_takeRange_1 rfl rfl rfl ?_
  obtain ⟨v1, σ2, e3, hr⟩ := bq_some hr
  refine c_X4_57 (As := [.int x1]) (rest := []) (fun l => s_X4_take  hz e3 l) hrm dX4_takeRange_2 rfl rfl (Nat.le_of_ble_eq_true rfl) (Nat.le_of_ble_eq_true rfl) (Nat.le_of_ble_eq_true rfl) (hz.o4 rfl) rfl (Nat.le_of_ble_eq_true rfl) (fun vr h2 hq => ?_) (fun E9 h9 hq => hq.elim)
  obtain ⟨rfl, hz⟩ := hq
  show wp _ _ 5 [(0, .ref (A 4 0 0)), (1, .int x1)] [] _ _ _
  refine w_aload_n 0 dX4_takeRange_5 rfl rfl rfl ?_
  refine g_X4_29 dX4_takeRange_6 rfl (hz.o4 rfl) (hz.i260 rfl) ?_
  refine w_iconst 3 dX4_takeRange_9 rfl rfl ?_
  refine w_icmp_ne 29 dX4_takeRange_10 rfl rfl (fun q10 => ?_) (fun q10 => ?_)
  · have hr := bf q10 hr
    refine w_aload_n 0 dX4_takeRange_29 rfl rfl rfl ?_
    refine w_iconst 3 dX4_takeRange_30 rfl rfl ?_
    obtain ⟨v5, σ6, e7, hr⟩ := bq_some hr
    refine c_X4_57 (As := [.int 3]) (rest := []) (fun l => s_X4_take  hz e7 l) hrm dX4_takeRange_31 rfl rfl (Nat.le_of_ble_eq_true rfl) (Nat.le_of_ble_eq_true rfl) (Nat.le_of_ble_eq_true rfl) (hz.o4 rfl) rfl (Nat.le_of_ble_eq_true rfl) (fun vr h2 hq => ?_) (fun E9 h9 hq => hq.elim)
    obtain ⟨rfl, hz⟩ := hq
    show wp _ _ 34 [(0, .ref (A 4 0 0)), (1, .int x1)] [] _ _ _
    refine w_vret hf dX4_takeRange_34 rfl (Nat.le_of_ble_eq_true rfl) (Nat.le_of_ble_eq_true rfl) ?_
    obtain ⟨rfl, rfl⟩ := ret_inj hr
    exact ⟨rfl, hz⟩
  · have hr := bt q10 hr
    refine w_aload_n 0 dX4_takeRange_13 rfl rfl rfl ?_
    refine g_X4_15 dX4_takeRange_14 rfl (hz.o4 rfl) (hz.r257 rfl) ?_
    refine w_iload_n 1 dX4_takeRange_17 rfl rfl rfl ?_
    refine w_aload_n 0 dX4_takeRange_18 rfl rfl rfl ?_
    refine g_X4_139 dX4_takeRange_19 rfl (hz.o4 rfl) (hz.i262 rfl) ?_
    refine w_aload_n 0 dX4_takeRange_22 rfl rfl rfl ?_
    refine g_X4_44 dX4_takeRange_23 rfl (hz.o4 rfl) (hz.i261 rfl) ?_
    obtain ⟨v9, σ10, e11, hr⟩ := bq_some hr
    refine c_X4_158 (As := [.int x1, .long (zJ σ2 262 0 0 0), .int (zI σ2 261 0 0 0)]) (rest := []) (fun l => s_X3_lookAtRange  hz e11 l) hrm dX4_takeRange_26 rfl rfl (Nat.le_of_ble_eq_true rfl) (Nat.le_of_ble_eq_true rfl) (Nat.le_of_ble_eq_true rfl) (hz.o3 rfl) rfl (Nat.le_of_ble_eq_true rfl) (fun vr h2 hq => ?_) (fun E9 h9 hq => hq.elim)
    obtain ⟨rfl, hz⟩ := hq
    show wp _ _ 29 [(0, .ref (A 4 0 0)), (1, .int x1)] [] _ _ _
    refine w_aload_n 0 dX4_takeRange_29 rfl rfl rfl ?_
    refine w_iconst 3 dX4_takeRange_30 rfl rfl ?_
    obtain ⟨v13, σ14, e15, hr⟩ := bq_some hr
    refine c_X4_57 (As := [.int 3]) (rest := []) (fun l => s_X4_take  hz e15 l) hrm dX4_takeRange_31 rfl rfl (Nat.le_of_ble_eq_true rfl) (Nat.le_of_ble_eq_true rfl) (Nat.le_of_ble_eq_true rfl) (hz.o4 rfl) rfl (Nat.le_of_ble_eq_true rfl) (fun vr h2 hq => ?_) (fun E9 h9 hq => hq.elim)
    obtain ⟨rfl, hz⟩ := hq
    show wp _ _ 34 [(0, .ref (A 4 0 0)), (1, .int x1)] [] _ _ _
    refine w_vret hf dX4_takeRange_34 rfl (Nat.le_of_ble_eq_true rfl) (Nat.le_of_ble_eq_true rfl) ?_
    obtain ⟨rfl, rfl⟩ := ret_inj hr
    exact ⟨rfl, hz⟩

set_option maxRecDepth 20000 in
set_option maxHeartbeats 4000000 in
theorem w_X4_takeNames_8 {A : Nat → Nat → Nat → Nat} {ρ σ' : Zs} {v : Unit} {x : Cxt} {x1 : Int32}  (hf : m_fin 0 0 (QV A v σ' ρ) X0 x) (hrm : m_rm 4 0 0 x)  : ∀ (n : Nat) (y2 : Int32) (σ : Zs) (h : Hp), Rp A h σ ρ → fX4_takeNames_8 x1  n y2 σ = some (v, σ') → wp x mX4_takeNames 8 [(0, .ref (A 4 0 0)), (1, .int x1), (2, .int y2)] [] h 0 0
  | 0, _, σ, h => fun hz hr => by
    rw [fX4_takeNames_8.eq_1] at hr
    exact nono hr
  | n + 1, y2, σ, h => fun hz hr => by
    rw [fX4_takeNames_8.eq_2] at hr
    refine w_iload_n 2 dX4_takeNames_8 rfl rfl rfl ?_
    refine w_sipush 1500 dX4_takeNames_9 rfl rfl ?_
    refine w_icmp_ge 44 dX4_takeNames_12 rfl rfl (fun q12 => ?_) (fun q12 => ?_)
    · have hr := bt q12 hr
      refine w_aload_n 0 dX4_takeNames_44 rfl rfl rfl ?_
      refine w_bipush 41 dX4_takeNames_45 rfl rfl ?_
      obtain ⟨v5, σ6, e7, hr⟩ := bq_some hr
      refine c_X4_57 (As := [.int 41]) (rest := []) (fun l => s_X4_take  hz e7 l) hrm dX4_takeNames_47 rfl rfl (Nat.le_of_ble_eq_true rfl) (Nat.le_of_ble_eq_true rfl) (Nat.le_of_ble_eq_true rfl) (hz.o4 rfl) rfl (Nat.le_of_ble_eq_true rfl) (fun vr h2 hq => ?_) (fun E9 h9 hq => hq.elim)
      obtain ⟨rfl, hz⟩ := hq
      show wp _ _ 50 [(0, .ref (A 4 0 0)), (1, .int x1), (2, .int y2)] [] _ _ _
      refine w_vret hf dX4_takeNames_50 rfl (Nat.le_of_ble_eq_true rfl) (Nat.le_of_ble_eq_true rfl) ?_
      obtain ⟨rfl, rfl⟩ := ret_inj hr
      exact ⟨rfl, hz⟩
    · have hr := bf q12 hr
      refine w_iload_n 2 dX4_takeNames_15 rfl rfl rfl ?_
      refine w_if_eq 28 dX4_takeNames_16 rfl rfl (fun q16 => ?_) (fun q16 => ?_)
      · have hr := bt q16 hr
        refine w_aload_n 0 dX4_takeNames_28 rfl rfl rfl ?_
        refine w_iload_n 2 dX4_takeNames_29 rfl rfl rfl ?_
        obtain ⟨v9, σ10, e11, hr⟩ := bq_some hr
        refine c_X4_94 (As := [.int y2]) (rest := []) (fun l => s_X4_takeComma  hz e11 l) hrm dX4_takeNames_30 rfl rfl (Nat.le_of_ble_eq_true rfl) (Nat.le_of_ble_eq_true rfl) (Nat.le_of_ble_eq_true rfl) (hz.o4 rfl) rfl (Nat.le_of_ble_eq_true rfl) (fun vr h2 hq => ?_) (fun E9 h9 hq => hq.elim)
        obtain ⟨rfl, hz⟩ := hq
        show wp _ _ 33 [(0, .ref (A 4 0 0)), (1, .int x1), (2, .int y2)] [] _ _ _
        refine w_aload_n 0 dX4_takeNames_33 rfl rfl rfl ?_
        refine w_iload_n 1 dX4_takeNames_34 rfl rfl rfl ?_
        obtain ⟨v13, σ14, e15, hr⟩ := bq_some hr
        refine c_X4_60 (As := [.int x1]) (rest := []) (fun l => s_X4_takeName  hz e15 l) hrm dX4_takeNames_35 rfl rfl (Nat.le_of_ble_eq_true rfl) (Nat.le_of_ble_eq_true rfl) (Nat.le_of_ble_eq_true rfl) (hz.o4 rfl) rfl (Nat.le_of_ble_eq_true rfl) (fun vr h2 hq => ?_) (fun E9 h9 hq => hq.elim)
        obtain ⟨rfl, hz⟩ := hq
        show wp _ _ 38 [(0, .ref (A 4 0 0)), (1, .int x1), (2, .int y2)] [] _ _ _
        refine w_iinc 2 (y2 + 1) [(2, .int (y2 + 1)), (0, .ref (A 4 0 0)), (1, .int x1)] dX4_takeNames_38 rfl rfl rfl (by decide) rfl ?_
        refine w_goto 8 dX4_takeNames_41 rfl ?_
        refine w_lv [(0, .ref (A 4 0 0)), (1, .int x1), (2, .int (y2 + 1))] [1, 2, 0] rfl ?_
        exact w_X4_takeNames_8 hf hrm   n (y2 + 1) _ _ hz  hr
      · have hr := bf q16 hr
        refine w_aload_n 0 dX4_takeNames_19 rfl rfl rfl ?_
        refine g_X4_29 dX4_takeNames_20 rfl (hz.o4 rfl) (hz.i260 rfl) ?_
        refine w_bipush 44 dX4_takeNames_23 rfl rfl ?_
        refine w_icmp_ne 44 dX4_takeNames_25 rfl rfl (fun q25 => ?_) (fun q25 => ?_)
        · have hr := bf q25 hr
          refine w_aload_n 0 dX4_takeNames_44 rfl rfl rfl ?_
          refine w_bipush 41 dX4_takeNames_45 rfl rfl ?_
          obtain ⟨v17, σ18, e19, hr⟩ := bq_some hr
          refine c_X4_57 (As := [.int 41]) (rest := []) (fun l => s_X4_take  hz e19 l) hrm dX4_takeNames_47 rfl rfl (Nat.le_of_ble_eq_true rfl) (Nat.le_of_ble_eq_true rfl) (Nat.le_of_ble_eq_true rfl) (hz.o4 rfl) rfl (Nat.le_of_ble_eq_true rfl) (fun vr h2 hq => ?_) (fun E9 h9 hq => hq.elim)
          obtain ⟨rfl, hz⟩ := hq
          show wp _ _ 50 [(0, .ref (A 4 0 0)), (1, .int x1), (2, .int y2)] [] _ _ _
          refine w_vret hf dX4_takeNames_50 rfl (Nat.le_of_ble_eq_true rfl) (Nat.le_of_ble_eq_true rfl) ?_
          obtain ⟨rfl, rfl⟩ := ret_inj hr
          exact ⟨rfl, hz⟩
        · have hr := bt q25 hr
          refine w_aload_n 0 dX4_takeNames_28 rfl rfl rfl ?_
          refine w_iload_n 2 dX4_takeNames_29 rfl rfl rfl ?_
          obtain ⟨v21, σ22, e23, hr⟩ := bq_some hr
          refine c_X4_94 (As := [.int y2]) (rest := []) (fun l => s_X4_takeComma  hz e23 l) hrm dX4_takeNames_30 rfl rfl (Nat.le_of_ble_eq_true rfl) (Nat.le_of_ble_eq_true rfl) (Nat.le_of_ble_eq_true rfl) (hz.o4 rfl) rfl (Nat.le_of_ble_eq_true rfl) (fun vr h2 hq => ?_) (fun E9 h9 hq => hq.elim)
          obtain ⟨rfl, hz⟩ := hq
          show wp _ _ 33 [(0, .ref (A 4 0 0)), (1, .int x1), (2, .int y2)] [] _ _ _
          refine w_aload_n 0 dX4_takeNames_33 rfl rfl rfl ?_
          refine w_iload_n 1 dX4_takeNames_34 rfl rfl rfl ?_
          obtain ⟨v25, σ26, e27, hr⟩ := bq_some hr
          refine c_X4_60 (As := [.int x1]) (rest := []) (fun l => s_X4_takeName  hz e27 l) hrm dX4_takeNames_35 rfl rfl (Nat.le_of_ble_eq_true rfl) (Nat.le_of_ble_eq_true rfl) (Nat.le_of_ble_eq_true rfl) (hz.o4 rfl) rfl (Nat.le_of_ble_eq_true rfl) (fun vr h2 hq => ?_) (fun E9 h9 hq => hq.elim)
          obtain ⟨rfl, hz⟩ := hq
          show wp _ _ 38 [(0, .ref (A 4 0 0)), (1, .int x1), (2, .int y2)] [] _ _ _
          refine w_iinc 2 (y2 + 1) [(2, .int (y2 + 1)), (0, .ref (A 4 0 0)), (1, .int x1)] dX4_takeNames_38 rfl rfl rfl (by decide) rfl ?_
          refine w_goto 8 dX4_takeNames_41 rfl ?_
          refine w_lv [(0, .ref (A 4 0 0)), (1, .int x1), (2, .int (y2 + 1))] [1, 2, 0] rfl ?_
          exact w_X4_takeNames_8 hf hrm   n (y2 + 1) _ _ hz  hr
set_option maxRecDepth 20000 in
set_option maxHeartbeats 4000000 in
theorem s_X4_takeNames {A : Nat → Nat → Nat → Nat} {h : Hp} {σ ρ σ' : Zs} {v : Unit} {x1 : Int32}  (hz : Rp A h σ ρ) (hr : fX4_takeNames x1 σ = some (v, σ')) : ∀ l : Launch, Sp l mX4_takeNames 4 0 0 [.ref (A 4 0 0), .int x1] h (QV A v σ' ρ) X0 := by
  intro l
  refine Sp.of rfl rfl (lv := [(0, .ref (A 4 0 0)), (1, .int x1)]) (Nat.le_of_ble_eq_true rfl) rfl (fun x hf hrm => ?_)
  rw [fX4_takeNames.eq_1] at hr
  refine w_aload_n 0 dX4_takeNames_0 rfl rfl rfl ?_
  refine w_bipush 40 dX4_takeNames_1 rfl rfl ?_
  obtain ⟨v1, σ2, e3, hr⟩ := bq_some hr
  refine c_X4_57 (As := [.int 40]) (rest := []) (fun l => s_X4_take  hz e3 l) hrm dX4_takeNames_3 rfl rfl (Nat.le_of_ble_eq_true rfl) (Nat.le_of_ble_eq_true rfl) (Nat.le_of_ble_eq_true rfl) (hz.o4 rfl) rfl (Nat.le_of_ble_eq_true rfl) (fun vr h2 hq => ?_) (fun E9 h9 hq => hq.elim)
  obtain ⟨rfl, hz⟩ := hq
  show wp _ _ 6 [(0, .ref (A 4 0 0)), (1, .int x1)] [] _ _ _
  refine w_iconst 0 dX4_takeNames_6 rfl rfl ?_
  refine w_istore_n [(2, .int 0), (0, .ref (A 4 0 0)), (1, .int x1)] dX4_takeNames_7 rfl rfl (by decide) rfl ?_
  refine w_lv [(0, .ref (A 4 0 0)), (1, .int x1), (2, .int 0)] [1, 2, 0] rfl ?_
  exact w_X4_takeNames_8 hf hrm   FU 0 _ _ hz  hr

set_option maxRecDepth 20000 in
set_option maxHeartbeats 4000000 in
theorem s_X4_secondInput {A : Nat → Nat → Nat → Nat} {h : Hp} {σ ρ σ' : Zs} {v : Unit}   (hz : Rp A h σ ρ) (hr : fX4_secondInput  σ = some (v, σ')) : ∀ l : Launch, Sp l mX4_secondInput 4 0 0 [.ref (A 4 0 0)] h (QV A v σ' ρ) X0 := by
  intro l
  refine Sp.of rfl rfl (lv := [(0, .ref (A 4 0 0))]) (Nat.le_of_ble_eq_true rfl) rfl (fun x hf hrm => ?_)
  rw [fX4_secondInput.eq_1] at hr
  refine w_aload_n 0 dX4_secondInput_0 rfl rfl rfl ?_
  refine w_bipush 44 dX4_secondInput_1 rfl rfl ?_
  obtain ⟨v1, σ2, e3, hr⟩ := bq_some hr
  refine c_X4_57 (As := [.int 44]) (rest := []) (fun l => s_X4_take  hz e3 l) hrm dX4_secondInput_3 rfl rfl (Nat.le_of_ble_eq_true rfl) (Nat.le_of_ble_eq_true rfl) (Nat.le_of_ble_eq_true rfl) (hz.o4 rfl) rfl (Nat.le_of_ble_eq_true rfl) (fun vr h2 hq => ?_) (fun E9 h9 hq => hq.elim)
  obtain ⟨rfl, hz⟩ := hq
  show wp _ _ 6 [(0, .ref (A 4 0 0))] [] _ _ _
  refine w_aload_n 0 dX4_secondInput_6 rfl rfl rfl ?_
  refine w_iconst 3 dX4_secondInput_7 rfl rfl ?_
  obtain ⟨v5, σ6, e7, hr⟩ := bq_some hr
  refine c_X4_60 (As := [.int 3]) (rest := []) (fun l => s_X4_takeName  hz e7 l) hrm dX4_secondInput_8 rfl rfl (Nat.le_of_ble_eq_true rfl) (Nat.le_of_ble_eq_true rfl) (Nat.le_of_ble_eq_true rfl) (hz.o4 rfl) rfl (Nat.le_of_ble_eq_true rfl) (fun vr h2 hq => ?_) (fun E9 h9 hq => hq.elim)
  obtain ⟨rfl, hz⟩ := hq
  show wp _ _ 11 [(0, .ref (A 4 0 0))] [] _ _ _
  refine w_vret hf dX4_secondInput_11 rfl (Nat.le_of_ble_eq_true rfl) (Nat.le_of_ble_eq_true rfl) ?_
  obtain ⟨rfl, rfl⟩ := ret_inj hr
  exact ⟨rfl, hz⟩

set_option maxRecDepth 20000 in
set_option maxHeartbeats 4000000 in
theorem s_X4_kindOfWork {A : Nat → Nat → Nat → Nat} {h : Hp} {σ ρ σ' : Zs} {v : Int32} {x0 : Int32}  (hz : Rp A h σ ρ) (hr : fX4_kindOfWork x0 σ = some (v, σ')) : ∀ l : Launch, Sp l mX4_kindOfWork 0 0 0 [.int x0] h (QI A v σ' ρ) X0 := by
  intro l
  refine Sp.of rfl rfl (lv := [(0, .int x0)]) (Nat.le_of_ble_eq_true rfl) rfl (fun x hf hrm => ?_)
  rw [fX4_kindOfWork.eq_1] at hr
  refine w_iload_n 0 dX4_kindOfWork_0 rfl rfl rfl ?_
  by_cases q1_0 : (x0 : Int32) = 131
  · have hr := bt q1_0 hr
    refine w_tableIn 64 dX4_kindOfWork_1 (by rw [q1_0]; decide) (by rw [q1_0]; decide) (by rw [q1_0]; rfl) rfl ?_
    refine w_iconst 1 dX4_kindOfWork_64 rfl rfl ?_
    refine w_iret hf dX4_kindOfWork_65 rfl (Nat.le_of_ble_eq_true rfl) (Nat.le_of_ble_eq_true rfl) ?_
    obtain ⟨rfl, rfl⟩ := ret_inj hr
    exact ⟨rfl, hz⟩
  have hr := bf q1_0 hr
  by_cases q1_1 : (x0 : Int32) = 132
  · have hr := bt q1_1 hr
    refine w_tableIn 80 dX4_kindOfWork_1 (by rw [q1_1]; decide) (by rw [q1_1]; decide) (by rw [q1_1]; rfl) rfl ?_
    refine w_iconst 0 dX4_kindOfWork_80 rfl rfl ?_
    refine w_iret hf dX4_kindOfWork_81 rfl (Nat.le_of_ble_eq_true rfl) (Nat.le_of_ble_eq_true rfl) ?_
    obtain ⟨rfl, rfl⟩ := ret_inj hr
    exact ⟨rfl, hz⟩
  have hr := bf q1_1 hr
  by_cases q1_2 : (x0 : Int32) = 133
  · have hr := bt q1_2 hr
    refine w_tableIn 66 dX4_kindOfWork_1 (by rw [q1_2]; decide) (by rw [q1_2]; decide) (by rw [q1_2]; rfl) rfl ?_
    refine w_iconst 2 dX4_kindOfWork_66 rfl rfl ?_
    refine w_iret hf dX4_kindOfWork_67 rfl (Nat.le_of_ble_eq_true rfl) (Nat.le_of_ble_eq_true rfl) ?_
    obtain ⟨rfl, rfl⟩ := ret_inj hr
    exact ⟨rfl, hz⟩
  have hr := bf q1_2 hr
  by_cases q1_3 : (x0 : Int32) = 134
  · have hr := bt q1_3 hr
    refine w_tableIn 80 dX4_kindOfWork_1 (by rw [q1_3]; decide) (by rw [q1_3]; decide) (by rw [q1_3]; rfl) rfl ?_
    refine w_iconst 0 dX4_kindOfWork_80 rfl rfl ?_
    refine w_iret hf dX4_kindOfWork_81 rfl (Nat.le_of_ble_eq_true rfl) (Nat.le_of_ble_eq_true rfl) ?_
    obtain ⟨rfl, rfl⟩ := ret_inj hr
    exact ⟨rfl, hz⟩
  have hr := bf q1_3 hr
  by_cases q1_4 : (x0 : Int32) = 135
  · have hr := bt q1_4 hr
    refine w_tableIn 68 dX4_kindOfWork_1 (by rw [q1_4]; decide) (by rw [q1_4]; decide) (by rw [q1_4]; rfl) rfl ?_
    refine w_iconst 3 dX4_kindOfWork_68 rfl rfl ?_
    refine w_iret hf dX4_kindOfWork_69 rfl (Nat.le_of_ble_eq_true rfl) (Nat.le_of_ble_eq_true rfl) ?_
    obtain ⟨rfl, rfl⟩ := ret_inj hr
    exact ⟨rfl, hz⟩
  have hr := bf q1_4 hr
  by_cases q1_5 : (x0 : Int32) = 136
  · have hr := bt q1_5 hr
    refine w_tableIn 70 dX4_kindOfWork_1 (by rw [q1_5]; decide) (by rw [q1_5]; decide) (by rw [q1_5]; rfl) rfl ?_
    refine w_iconst 4 dX4_kindOfWork_70 rfl rfl ?_
    refine w_iret hf dX4_kindOfWork_71 rfl (Nat.le_of_ble_eq_true rfl) (Nat.le_of_ble_eq_true rfl) ?_
    obtain ⟨rfl, rfl⟩ := ret_inj hr
    exact ⟨rfl, hz⟩
  have hr := bf q1_5 hr
  by_cases q1_6 : (x0 : Int32) = 137
  · have hr := bt q1_6 hr
    refine w_tableIn 72 dX4_kindOfWork_1 (by rw [q1_6]; decide) (by rw [q1_6]; decide) (by rw [q1_6]; rfl) rfl ?_
    refine w_iconst 5 dX4_kindOfWork_72 rfl rfl ?_
    refine w_iret hf dX4_kindOfWork_73 rfl (Nat.le_of_ble_eq_true rfl) (Nat.le_of_ble_eq_true rfl) ?_
    obtain ⟨rfl, rfl⟩ := ret_inj hr
    exact ⟨rfl, hz⟩
  have hr := bf q1_6 hr
  by_cases q1_7 : (x0 : Int32) = 138
  · have hr := bt q1_7 hr
    refine w_tableIn 80 dX4_kindOfWork_1 (by rw [q1_7]; decide) (by rw [q1_7]; decide) (by rw [q1_7]; rfl) rfl ?_
    refine w_iconst 0 dX4_kindOfWork_80 rfl rfl ?_
    refine w_iret hf dX4_kindOfWork_81 rfl (Nat.le_of_ble_eq_true rfl) (Nat.le_of_ble_eq_true rfl) ?_
    obtain ⟨rfl, rfl⟩ := ret_inj hr
    exact ⟨rfl, hz⟩
  have hr := bf q1_7 hr
  by_cases q1_8 : (x0 : Int32) = 139
  · have hr := bt q1_8 hr
    refine w_tableIn 80 dX4_kindOfWork_1 (by rw [q1_8]; decide) (by rw [q1_8]; decide) (by rw [q1_8]; rfl) rfl ?_
    refine w_iconst 0 dX4_kindOfWork_80 rfl rfl ?_
    refine w_iret hf dX4_kindOfWork_81 rfl (Nat.le_of_ble_eq_true rfl) (Nat.le_of_ble_eq_true rfl) ?_
    obtain ⟨rfl, rfl⟩ := ret_inj hr
    exact ⟨rfl, hz⟩
  have hr := bf q1_8 hr
  by_cases q1_9 : (x0 : Int32) = 140
  · have hr := bt q1_9 hr
    refine w_tableIn 74 dX4_kindOfWork_1 (by rw [q1_9]; decide) (by rw [q1_9]; decide) (by rw [q1_9]; rfl) rfl ?_
    refine w_bipush 6 dX4_kindOfWork_74 rfl rfl ?_
    refine w_iret hf dX4_kindOfWork_76 rfl (Nat.le_of_ble_eq_true rfl) (Nat.le_of_ble_eq_true rfl) ?_
    obtain ⟨rfl, rfl⟩ := ret_inj hr
    exact ⟨rfl, hz⟩
  have hr := bf q1_9 hr
  by_cases q1_10 : (x0 : Int32) = 141
  · have hr := bt q1_10 hr
    refine w_tableIn 80 dX4_kindOfWork_1 (by rw [q1_10]; decide) (by rw [q1_10]; decide) (by rw [q1_10]; rfl) rfl ?_
    refine w_iconst 0 dX4_kindOfWork_80 rfl rfl ?_
    refine w_iret hf dX4_kindOfWork_81 rfl (Nat.le_of_ble_eq_true rfl) (Nat.le_of_ble_eq_true rfl) ?_
    obtain ⟨rfl, rfl⟩ := ret_inj hr
    exact ⟨rfl, hz⟩
  have hr := bf q1_10 hr
  by_cases q1_11 : (x0 : Int32) = 142
  · have hr := bt q1_11 hr
    refine w_tableIn 77 dX4_kindOfWork_1 (by rw [q1_11]; decide) (by rw [q1_11]; decide) (by rw [q1_11]; rfl) rfl ?_
    refine w_bipush 7 dX4_kindOfWork_77 rfl rfl ?_
    refine w_iret hf dX4_kindOfWork_79 rfl (Nat.le_of_ble_eq_true rfl) (Nat.le_of_ble_eq_true rfl) ?_
    obtain ⟨rfl, rfl⟩ := ret_inj hr
    exact ⟨rfl, hz⟩
  have hr := bf q1_11 hr
  refine w_tableOut 80 dX4_kindOfWork_1 (tabout 131 142 (fun k h1 h2 => by
        intro e
        have h3 : k = 131 ∨ k = 132 ∨ k = 133 ∨ k = 134 ∨ k = 135 ∨ k = 136 ∨ k = 137 ∨ k = 138 ∨ k = 139 ∨ k = 140 ∨ k = 141 ∨ k = 142 := by omega
        rcases h3 with h3 | h3 | h3 | h3 | h3 | h3 | h3 | h3 | h3 | h3 | h3 | h3 <;> subst h3 <;> contradiction)) rfl ?_
  refine w_iconst 0 dX4_kindOfWork_80 rfl rfl ?_
  refine w_iret hf dX4_kindOfWork_81 rfl (Nat.le_of_ble_eq_true rfl) (Nat.le_of_ble_eq_true rfl) ?_
  obtain ⟨rfl, rfl⟩ := ret_inj hr
  exact ⟨rfl, hz⟩

set_option maxRecDepth 20000 in
set_option maxHeartbeats 4000000 in
theorem s_X4_takeTotal {A : Nat → Nat → Nat → Nat} {h : Hp} {σ ρ σ' : Zs} {v : Int32}   (hz : Rp A h σ ρ) (hr : fX4_takeTotal  σ = some (v, σ')) : ∀ l : Launch, Sp l mX4_takeTotal 2 0 0 [.ref (A 4 0 0)] h (QI A v σ' ρ) X0 := by
  intro l
  refine Sp.of rfl rfl (lv := [(0, .ref (A 4 0 0))]) (Nat.le_of_ble_eq_true rfl) rfl (fun x hf hrm => ?_)
  rw [fX4_takeTotal.eq_1] at hr
  refine w_aload_n 0 dX4_takeTotal_0 rfl rfl rfl ?_
  refine g_X4_29 dX4_takeTotal_1 rfl (hz.o4 rfl) (hz.i260 rfl) ?_
  refine w_istore_n [(1, .int (zI σ 260 0 0 0)), (0, .ref (A 4 0 0))] dX4_takeTotal_4 rfl rfl (by decide) rfl ?_
  refine w_iload_n 0 dX4_takeTotal_5 rfl rfl rfl ?_
  refine w_sipush 151 dX4_takeTotal_6 rfl rfl ?_
  refine w_icmp_eq 40 dX4_takeTotal_9 rfl rfl (fun q9 => ?_) (fun q9 => ?_)
  · have hr := bt q9 hr
    refine w_aload_n 1 dX4_takeTotal_40 rfl rfl rfl ?_
    refine g_X4_15 dX4_takeTotal_41 rfl (hz.o4 rfl) (hz.r257 rfl) ?_
    refine w_iload_n 0 dX4_takeTotal_44 rfl rfl rfl ?_
    obtain ⟨v1, σ2, e3, hr⟩ := bq_some hr
    refine c_X4_101 (As := [.int (zI σ 260 0 0 0)]) (rest := []) (fun l => s_X3_setTotal  hz e3 l) hrm dX4_takeTotal_45 rfl rfl (Nat.le_of_ble_eq_true rfl) (Nat.le_of_ble_eq_true rfl) (Nat.le_of_ble_eq_true rfl) (hz.o3 rfl) rfl (Nat.le_of_ble_eq_true rfl) (fun vr h2 hq => ?_) (fun E9 h9 hq => hq.elim)
    obtain ⟨rfl, hz⟩ := hq
    show wp _ _ 48 [(1, .int (zI σ 260 0 0 0)), (0, .ref (A 4 0 0))] [] _ _ _
    refine w_aload_n 1 dX4_takeTotal_48 rfl rfl rfl ?_
    refine w_iload_n 0 dX4_takeTotal_49 rfl rfl rfl ?_
    obtain ⟨v5, σ6, e7, hr⟩ := bq_some hr
    refine c_X4_57 (As := [.int (zI σ 260 0 0 0)]) (rest := []) (fun l => s_X4_take  hz e7 l) hrm dX4_takeTotal_50 rfl rfl (Nat.le_of_ble_eq_true rfl) (Nat.le_of_ble_eq_true rfl) (Nat.le_of_ble_eq_true rfl) (hz.o4 rfl) rfl (Nat.le_of_ble_eq_true rfl) (fun vr h2 hq => ?_) (fun E9 h9 hq => hq.elim)
    obtain ⟨rfl, hz⟩ := hq
    show wp _ _ 53 [(1, .int (zI σ 260 0 0 0)), (0, .ref (A 4 0 0))] [] _ _ _
    refine w_goto 60 dX4_takeTotal_53 rfl ?_
    refine w_iload_n 0 dX4_takeTotal_60 rfl rfl rfl ?_
    refine w_iret hf dX4_takeTotal_61 rfl (Nat.le_of_ble_eq_true rfl) (Nat.le_of_ble_eq_true rfl) ?_
    obtain ⟨rfl, rfl⟩ := ret_inj hr
    exact ⟨rfl, hz⟩
  · have hr := bf q9 hr
    refine w_iload_n 0 dX4_takeTotal_12 rfl rfl rfl ?_
    refine w_sipush 150 dX4_takeTotal_13 rfl rfl ?_
    refine w_icmp_eq 40 dX4_takeTotal_16 rfl rfl (fun q16 => ?_) (fun q16 => ?_)
    · have hr := bt q16 hr
      refine w_aload_n 1 dX4_takeTotal_40 rfl rfl rfl ?_
      refine g_X4_15 dX4_takeTotal_41 rfl (hz.o4 rfl) (hz.r257 rfl) ?_
      refine w_iload_n 0 dX4_takeTotal_44 rfl rfl rfl ?_
      obtain ⟨v9, σ10, e11, hr⟩ := bq_some hr
      refine c_X4_101 (As := [.int (zI σ 260 0 0 0)]) (rest := []) (fun l => s_X3_setTotal  hz e11 l) hrm dX4_takeTotal_45 rfl rfl (Nat.le_of_ble_eq_true rfl) (Nat.le_of_ble_eq_true rfl) (Nat.le_of_ble_eq_true rfl) (hz.o3 rfl) rfl (Nat.le_of_ble_eq_true rfl) (fun vr h2 hq => ?_) (fun E9 h9 hq => hq.elim)
      obtain ⟨rfl, hz⟩ := hq
      show wp _ _ 48 [(1, .int (zI σ 260 0 0 0)), (0, .ref (A 4 0 0))] [] _ _ _
      refine w_aload_n 1 dX4_takeTotal_48 rfl rfl rfl ?_
      refine w_iload_n 0 dX4_takeTotal_49 rfl rfl rfl ?_
      obtain ⟨v13, σ14, e15, hr⟩ := bq_some hr
      refine c_X4_57 (As := [.int (zI σ 260 0 0 0)]) (rest := []) (fun l => s_X4_take  hz e15 l) hrm dX4_takeTotal_50 rfl rfl (Nat.le_of_ble_eq_true rfl) (Nat.le_of_ble_eq_true rfl) (Nat.le_of_ble_eq_true rfl) (hz.o4 rfl) rfl (Nat.le_of_ble_eq_true rfl) (fun vr h2 hq => ?_) (fun E9 h9 hq => hq.elim)
      obtain ⟨rfl, hz⟩ := hq
      show wp _ _ 53 [(1, .int (zI σ 260 0 0 0)), (0, .ref (A 4 0 0))] [] _ _ _
      refine w_goto 60 dX4_takeTotal_53 rfl ?_
      refine w_iload_n 0 dX4_takeTotal_60 rfl rfl rfl ?_
      refine w_iret hf dX4_takeTotal_61 rfl (Nat.le_of_ble_eq_true rfl) (Nat.le_of_ble_eq_true rfl) ?_
      obtain ⟨rfl, rfl⟩ := ret_inj hr
      exact ⟨rfl, hz⟩
    · have hr := bf q16 hr
      refine w_iload_n 0 dX4_takeTotal_19 rfl rfl rfl ?_
      refine w_sipush 152 dX4_takeTotal_20 rfl rfl ?_
      refine w_icmp_eq 40 dX4_takeTotal_23 rfl rfl (fun q23 => ?_) (fun q23 => ?_)
      · have hr := bt q23 hr
        refine w_aload_n 1 dX4_takeTotal_40 rfl rfl rfl ?_
        refine g_X4_15 dX4_takeTotal_41 rfl (hz.o4 rfl) (hz.r257 rfl) ?_
        refine w_iload_n 0 dX4_takeTotal_44 rfl rfl rfl ?_
        obtain ⟨v17, σ18, e19, hr⟩ := bq_some hr
        refine c_X4_101 (As := [.int (zI σ 260 0 0 0)]) (rest := []) (fun l => s_X3_setTotal  hz e19 l) hrm dX4_takeTotal_45 rfl rfl (Nat.le_of_ble_eq_true rfl) (Nat.le_of_ble_eq_true rfl) (Nat.le_of_ble_eq_true rfl) (hz.o3 rfl) rfl (Nat.le_of_ble_eq_true rfl) (fun vr h2 hq => ?_) (fun E9 h9 hq => hq.elim)
        obtain ⟨rfl, hz⟩ := hq
        show wp _ _ 48 [(1, .int (zI σ 260 0 0 0)), (0, .ref (A 4 0 0))] [] _ _ _
        refine w_aload_n 1 dX4_takeTotal_48 rfl rfl rfl ?_
        refine w_iload_n 0 dX4_takeTotal_49 rfl rfl rfl ?_
        obtain ⟨v21, σ22, e23, hr⟩ := bq_some hr
        refine c_X4_57 (As := [.int (zI σ 260 0 0 0)]) (rest := []) (fun l => s_X4_take  hz e23 l) hrm dX4_takeTotal_50 rfl rfl (Nat.le_of_ble_eq_true rfl) (Nat.le_of_ble_eq_true rfl) (Nat.le_of_ble_eq_true rfl) (hz.o4 rfl) rfl (Nat.le_of_ble_eq_true rfl) (fun vr h2 hq => ?_) (fun E9 h9 hq => hq.elim)
        obtain ⟨rfl, hz⟩ := hq
        show wp _ _ 53 [(1, .int (zI σ 260 0 0 0)), (0, .ref (A 4 0 0))] [] _ _ _
        refine w_goto 60 dX4_takeTotal_53 rfl ?_
        refine w_iload_n 0 dX4_takeTotal_60 rfl rfl rfl ?_
        refine w_iret hf dX4_takeTotal_61 rfl (Nat.le_of_ble_eq_true rfl) (Nat.le_of_ble_eq_true rfl) ?_
        obtain ⟨rfl, rfl⟩ := ret_inj hr
        exact ⟨rfl, hz⟩
      · have hr := bf q23 hr
        refine w_iload_n 0 dX4_takeTotal_26 rfl rfl rfl ?_
        refine w_sipush 153 dX4_takeTotal_27 rfl rfl ?_
        refine w_icmp_eq 40 dX4_takeTotal_30 rfl rfl (fun q30 => ?_) (fun q30 => ?_)
        · have hr := bt q30 hr
          refine w_aload_n 1 dX4_takeTotal_40 rfl rfl rfl ?_
          refine g_X4_15 dX4_takeTotal_41 rfl (hz.o4 rfl) (hz.r257 rfl) ?_
          refine w_iload_n 0 dX4_takeTotal_44 rfl rfl rfl ?_
          obtain ⟨v25, σ26, e27, hr⟩ := bq_some hr
          refine c_X4_101 (As := [.int (zI σ 260 0 0 0)]) (rest := []) (fun l => s_X3_setTotal  hz e27 l) hrm dX4_takeTotal_45 rfl rfl (Nat.le_of_ble_eq_true rfl) (Nat.le_of_ble_eq_true rfl) (Nat.le_of_ble_eq_true rfl) (hz.o3 rfl) rfl (Nat.le_of_ble_eq_true rfl) (fun vr h2 hq => ?_) (fun E9 h9 hq => hq.elim)
          obtain ⟨rfl, hz⟩ := hq
          show wp _ _ 48 [(1, .int (zI σ 260 0 0 0)), (0, .ref (A 4 0 0))] [] _ _ _
          refine w_aload_n 1 dX4_takeTotal_48 rfl rfl rfl ?_
          refine w_iload_n 0 dX4_takeTotal_49 rfl rfl rfl ?_
          obtain ⟨v29, σ30, e31, hr⟩ := bq_some hr
          refine c_X4_57 (As := [.int (zI σ 260 0 0 0)]) (rest := []) (fun l => s_X4_take  hz e31 l) hrm dX4_takeTotal_50 rfl rfl (Nat.le_of_ble_eq_true rfl) (Nat.le_of_ble_eq_true rfl) (Nat.le_of_ble_eq_true rfl) (hz.o4 rfl) rfl (Nat.le_of_ble_eq_true rfl) (fun vr h2 hq => ?_) (fun E9 h9 hq => hq.elim)
          obtain ⟨rfl, hz⟩ := hq
          show wp _ _ 53 [(1, .int (zI σ 260 0 0 0)), (0, .ref (A 4 0 0))] [] _ _ _
          refine w_goto 60 dX4_takeTotal_53 rfl ?_
          refine w_iload_n 0 dX4_takeTotal_60 rfl rfl rfl ?_
          refine w_iret hf dX4_takeTotal_61 rfl (Nat.le_of_ble_eq_true rfl) (Nat.le_of_ble_eq_true rfl) ?_
          obtain ⟨rfl, rfl⟩ := ret_inj hr
          exact ⟨rfl, hz⟩
        · have hr := bf q30 hr
          refine w_iload_n 0 dX4_takeTotal_33 rfl rfl rfl ?_
          refine w_sipush 154 dX4_takeTotal_34 rfl rfl ?_
          refine w_icmp_ne 56 dX4_takeTotal_37 rfl rfl (fun q37 => ?_) (fun q37 => ?_)
          · have hr := bf q37 hr
            refine w_aload_n 1 dX4_takeTotal_56 rfl rfl rfl ?_
            obtain ⟨v33, σ34, e35, hr⟩ := bq_some hr
            refine c_X4_41 (As := []) (rest := []) (fun l => s_X4_fail  hz e35 l) hrm dX4_takeTotal_57 rfl rfl (Nat.le_of_ble_eq_true rfl) (Nat.le_of_ble_eq_true rfl) (Nat.le_of_ble_eq_true rfl) (hz.o4 rfl) rfl (Nat.le_of_ble_eq_true rfl) (fun vr h2 hq => ?_) (fun E9 h9 hq => hq.elim)
            obtain ⟨rfl, hz⟩ := hq
            show wp _ _ 60 [(1, .int (zI σ 260 0 0 0)), (0, .ref (A 4 0 0))] [] _ _ _
            refine w_iload_n 0 dX4_takeTotal_60 rfl rfl rfl ?_
            refine w_iret hf dX4_takeTotal_61 rfl (Nat.le_of_ble_eq_true rfl) (Nat.le_of_ble_eq_true rfl) ?_
            obtain ⟨rfl, rfl⟩ := ret_inj hr
            exact ⟨rfl, hz⟩
          · have hr := bt q37 hr
            refine w_aload_n 1 dX4_takeTotal_40 rfl rfl rfl ?_
            refine g_X4_15 dX4_takeTotal_41 rfl (hz.o4 rfl) (hz.r257 rfl) ?_
            refine w_iload_n 0 dX4_takeTotal_44 rfl rfl rfl ?_
            obtain ⟨v37, σ38, e39, hr⟩ := bq_some hr
            refine c_X4_101 (As := [.int (zI σ 260 0 0 0)]) (rest := []) (fun l => s_X3_setTotal  hz e39 l) hrm dX4_takeTotal_45 rfl rfl (Nat.le_of_ble_eq_true rfl) (Nat.le_of_ble_eq_true rfl) (Nat.le_of_ble_eq_true rfl) (hz.o3 rfl) rfl (Nat.le_of_ble_eq_true rfl) (fun vr h2 hq => ?_) (fun E9 h9 hq => hq.elim)
            obtain ⟨rfl, hz⟩ := hq
            show wp _ _ 48 [(1, .int (zI σ 260 0 0 0)), (0, .ref (A 4 0 0))] [] _ _ _
            refine w_aload_n 1 dX4_takeTotal_48 rfl rfl rfl ?_
            refine w_iload_n 0 dX4_takeTotal_49 rfl rfl rfl ?_
            obtain ⟨v41, σ42, e43, hr⟩ := bq_some hr
            refine c_X4_57 (As := [.int (zI σ 260 0 0 0)]) (rest := []) (fun l => s_X4_take  hz e43 l) hrm dX4_takeTotal_50 rfl rfl (Nat.le_of_ble_eq_true rfl) (Nat.le_of_ble_eq_true rfl) (Nat.le_of_ble_eq_true rfl) (hz.o4 rfl) rfl (Nat.le_of_ble_eq_true rfl) (fun vr h2 hq => ?_) (fun E9 h9 hq => hq.elim)
            obtain ⟨rfl, hz⟩ := hq
            show wp _ _ 53 [(1, .int (zI σ 260 0 0 0)), (0, .ref (A 4 0 0))] [] _ _ _
            refine w_goto 60 dX4_takeTotal_53 rfl ?_
            refine w_iload_n 0 dX4_takeTotal_60 rfl rfl rfl ?_
            refine w_iret hf dX4_takeTotal_61 rfl (Nat.le_of_ble_eq_true rfl) (Nat.le_of_ble_eq_true rfl) ?_
            obtain ⟨rfl, rfl⟩ := ret_inj hr
            exact ⟨rfl, hz⟩

set_option maxRecDepth 20000 in
set_option maxHeartbeats 4000000 in
theorem w_X4_function_38 {A : Nat → Nat → Nat → Nat} {ρ σ' : Zs} {v : Unit} {x : Cxt} {x1 : Int32} {x2 : Int32} {kE : Int32 → Zs → Option (Unit × Zs)} {dk : Nat}  (hf : m_fin 0 0 (QV A v σ' ρ) X0 x) (hrm : m_rm (dk + 1) 0 0 x) (hkE : ∀ {h : Hp} {σ ρ σ' : Zs} {v : Unit} {x1 : Int32}, Rp A h σ ρ → kE x1 σ = some (v, σ') → ∀ l : Launch, Sp l mX4_expression dk 0 0 [.ref (A 4 0 0), .int x1] h (QV A v σ' ρ) X0) (hdk : 20 ≤ dk) : ∀ (n : Nat) (y3 : Int32) (y4 : Int32) (y5 : Int32) (σ : Zs) (h : Hp), Rp A h σ ρ → fX4_function_38 x1 x2 kE  n y3 y4 y5 σ = some (v, σ') → wp x mX4_function 38 [(0, .ref (A 4 0 0)), (1, .int x1), (2, .int x2), (3, .int y3), (4, .int y4), (5, .int y5)] [] h 0 0
  | 0, _, _, _, σ, h => fun hz hr => by
    rw [fX4_function_38.eq_1] at hr
    exact nono hr
  | n + 1, y3, y4, y5, σ, h => fun hz hr => by
    rw [fX4_function_38.eq_2] at hr
    refine w_iload 5 dX4_function_38 rfl rfl ?_
    refine w_bipush 60 dX4_function_40 rfl rfl ?_
    refine w_icmp_ge 80 dX4_function_42 rfl rfl (fun q42 => ?_) (fun q42 => ?_)
    · have hr := bt q42 hr
      refine w_aload_n 0 dX4_function_80 rfl rfl rfl ?_
      refine w_bipush 41 dX4_function_81 rfl rfl ?_
      refine w_iload_n 2 dX4_function_83 rfl rfl rfl ?_
      obtain ⟨v13, σ14, e15, hr⟩ := bq_some hr
      refine c_X4_119 (As := [.int 41, .int x2]) (rest := []) (fun l => s_X4_takeInExpression  hz e15 l) hrm dX4_function_84 rfl rfl (by omega) (Nat.le_of_ble_eq_true rfl) (Nat.le_of_ble_eq_true rfl) (hz.o4 rfl) rfl (Nat.le_of_ble_eq_true rfl) (fun vr h2 hq => ?_) (fun E9 h9 hq => hq.elim)
      obtain ⟨rfl, hz⟩ := hq
      show wp _ _ 87 [(0, .ref (A 4 0 0)), (1, .int x1), (2, .int x2), (3, .int y3), (4, .int y4), (5, .int y5)] [.int v13] _ _ _
      refine w_pop dX4_function_87 rfl rfl ?_
      refine w_aload_n 0 dX4_function_88 rfl rfl rfl ?_
      refine g_X4_15 dX4_function_89 rfl (hz.o4 rfl) (hz.r257 rfl) ?_
      refine w_iload_n 1 dX4_function_92 rfl rfl rfl ?_
      refine w_iload 4 dX4_function_93 rfl rfl ?_
      refine w_iload_n 3 dX4_function_95 rfl rfl rfl ?_
      obtain ⟨v17, σ18, e19, hr⟩ := bq_some hr
      refine c_X4_150 (As := [.int x1, .int y4, .int y3]) (rest := []) (fun l => s_X3_endFunction  hz e19 l) hrm dX4_function_96 rfl rfl (by omega) (Nat.le_of_ble_eq_true rfl) (Nat.le_of_ble_eq_true rfl) (hz.o3 rfl) rfl (Nat.le_of_ble_eq_true rfl) (fun vr h2 hq => ?_) (fun E9 h9 hq => hq.elim)
      obtain ⟨rfl, hz⟩ := hq
      show wp _ _ 99 [(0, .ref (A 4 0 0)), (1, .int x1), (2, .int x2), (3, .int y3), (4, .int y4), (5, .int y5)] [] _ _ _
      refine w_vret hf dX4_function_99 rfl (Nat.le_of_ble_eq_true rfl) (Nat.le_of_ble_eq_true rfl) ?_
      obtain ⟨rfl, rfl⟩ := ret_inj hr
      exact ⟨rfl, hz⟩
    · have hr := bf q42 hr
      refine w_aload_n 0 dX4_function_45 rfl rfl rfl ?_
      refine g_X4_29 dX4_function_46 rfl (hz.o4 rfl) (hz.i260 rfl) ?_
      refine w_bipush 44 dX4_function_49 rfl rfl ?_
      refine w_icmp_ne 80 dX4_function_51 rfl rfl (fun q51 => ?_) (fun q51 => ?_)
      · have hr := bf q51 hr
        refine w_aload_n 0 dX4_function_80 rfl rfl rfl ?_
        refine w_bipush 41 dX4_function_81 rfl rfl ?_
        refine w_iload_n 2 dX4_function_83 rfl rfl rfl ?_
        obtain ⟨v21, σ22, e23, hr⟩ := bq_some hr
        refine c_X4_119 (As := [.int 41, .int x2]) (rest := []) (fun l => s_X4_takeInExpression  hz e23 l) hrm dX4_function_84 rfl rfl (by omega) (Nat.le_of_ble_eq_true rfl) (Nat.le_of_ble_eq_true rfl) (hz.o4 rfl) rfl (Nat.le_of_ble_eq_true rfl) (fun vr h2 hq => ?_) (fun E9 h9 hq => hq.elim)
        obtain ⟨rfl, hz⟩ := hq
        show wp _ _ 87 [(0, .ref (A 4 0 0)), (1, .int x1), (2, .int x2), (3, .int y3), (4, .int y4), (5, .int y5)] [.int v21] _ _ _
        refine w_pop dX4_function_87 rfl rfl ?_
        refine w_aload_n 0 dX4_function_88 rfl rfl rfl ?_
        refine g_X4_15 dX4_function_89 rfl (hz.o4 rfl) (hz.r257 rfl) ?_
        refine w_iload_n 1 dX4_function_92 rfl rfl rfl ?_
        refine w_iload 4 dX4_function_93 rfl rfl ?_
        refine w_iload_n 3 dX4_function_95 rfl rfl rfl ?_
        obtain ⟨v25, σ26, e27, hr⟩ := bq_some hr
        refine c_X4_150 (As := [.int x1, .int y4, .int y3]) (rest := []) (fun l => s_X3_endFunction  hz e27 l) hrm dX4_function_96 rfl rfl (by omega) (Nat.le_of_ble_eq_true rfl) (Nat.le_of_ble_eq_true rfl) (hz.o3 rfl) rfl (Nat.le_of_ble_eq_true rfl) (fun vr h2 hq => ?_) (fun E9 h9 hq => hq.elim)
        obtain ⟨rfl, hz⟩ := hq
        show wp _ _ 99 [(0, .ref (A 4 0 0)), (1, .int x1), (2, .int x2), (3, .int y3), (4, .int y4), (5, .int y5)] [] _ _ _
        refine w_vret hf dX4_function_99 rfl (Nat.le_of_ble_eq_true rfl) (Nat.le_of_ble_eq_true rfl) ?_
        obtain ⟨rfl, rfl⟩ := ret_inj hr
        exact ⟨rfl, hz⟩
      · have hr := bt q51 hr
        refine w_aload_n 0 dX4_function_54 rfl rfl rfl ?_
        refine w_bipush 44 dX4_function_55 rfl rfl ?_
        refine w_iload_n 2 dX4_function_57 rfl rfl rfl ?_
        refine w_iconst 1 dX4_function_58 rfl rfl ?_
        refine w_iadd dX4_function_59 rfl ?_
        obtain ⟨v29, σ30, e31, hr⟩ := bq_some hr
        refine c_X4_119 (As := [.int 44, .int (x2 + 1)]) (rest := []) (fun l => s_X4_takeInExpression  hz e31 l) hrm dX4_function_60 rfl rfl (by omega) (Nat.le_of_ble_eq_true rfl) (Nat.le_of_ble_eq_true rfl) (hz.o4 rfl) rfl (Nat.le_of_ble_eq_true rfl) (fun vr h2 hq => ?_) (fun E9 h9 hq => hq.elim)
        obtain ⟨rfl, hz⟩ := hq
        show wp _ _ 63 [(0, .ref (A 4 0 0)), (1, .int x1), (2, .int x2), (3, .int y3), (4, .int y4), (5, .int y5)] [.int v29] _ _ _
        refine w_pop dX4_function_63 rfl rfl ?_
        refine w_aload_n 0 dX4_function_64 rfl rfl rfl ?_
        refine w_iload_n 2 dX4_function_65 rfl rfl rfl ?_
        refine w_iconst 1 dX4_function_66 rfl rfl ?_
        refine w_iadd dX4_function_67 rfl ?_
        obtain ⟨v33, σ34, e35, hr⟩ := bq_some hr
        refine c_X4_110 (As := [.int (x2 + 1)]) (rest := []) (fun l => hkE  hz e35 l) hrm dX4_function_68 rfl rfl (by omega) (Nat.le_of_ble_eq_true rfl) (Nat.le_of_ble_eq_true rfl) (hz.o4 rfl) rfl (Nat.le_of_ble_eq_true rfl) (fun vr h2 hq => ?_) (fun E9 h9 hq => hq.elim)
        obtain ⟨rfl, hz⟩ := hq
        show wp _ _ 71 [(0, .ref (A 4 0 0)), (1, .int x1), (2, .int x2), (3, .int y3), (4, .int y4), (5, .int y5)] [] _ _ _
        refine w_iinc 4 (y4 + 1) [(4, .int (y4 + 1)), (0, .ref (A 4 0 0)), (1, .int x1), (2, .int x2), (3, .int y3), (5, .int y5)] dX4_function_71 rfl rfl rfl (by decide) rfl ?_
        refine w_iinc 5 (y5 + 1) [(5, .int (y5 + 1)), (4, .int (y4 + 1)), (0, .ref (A 4 0 0)), (1, .int x1), (2, .int x2), (3, .int y3)] dX4_function_74 rfl rfl rfl (by decide) rfl ?_
        refine w_goto 38 dX4_function_77 rfl ?_
        refine w_lv [(0, .ref (A 4 0 0)), (1, .int x1), (2, .int x2), (3, .int y3), (4, .int (y4 + 1)), (5, .int (y5 + 1))] [2, 3, 4, 5, 1, 0] rfl ?_
        exact w_X4_function_38 hf hrm hkE hdk  n y3 (y4 + 1) (y5 + 1) _ _ hz  hr
set_option maxRecDepth 20000 in
set_option maxHeartbeats 4000000 in
theorem s_X4_function {A : Nat → Nat → Nat → Nat} {h : Hp} {σ ρ σ' : Zs} {v : Unit} {x1 : Int32} {x2 : Int32} {kE : Int32 → Zs → Option (Unit × Zs)} {dk : Nat} (hkE : ∀ {h : Hp} {σ ρ σ' : Zs} {v : Unit} {x1 : Int32}, Rp A h σ ρ → kE x1 σ = some (v, σ') → ∀ l : Launch, Sp l mX4_expression dk 0 0 [.ref (A 4 0 0), .int x1] h (QV A v σ' ρ) X0) (hdk : 20 ≤ dk) (hz : Rp A h σ ρ) (hr : fX4_function x1 x2 kE σ = some (v, σ')) : ∀ l : Launch, Sp l mX4_function (dk + 1) 0 0 [.ref (A 4 0 0), .int x1, .int x2] h (QV A v σ' ρ) X0 := by
  intro l
  refine Sp.of rfl rfl (lv := [(0, .ref (A 4 0 0)), (1, .int x1), (2, .int x2)]) (Nat.le_of_ble_eq_true rfl) rfl (fun x hf hrm => ?_)
  rw [fX4_function.eq_1] at hr
  refine w_aload_n 0 dX4_function_0 rfl rfl rfl ?_
  refine g_X4_44 dX4_function_1 rfl (hz.o4 rfl) (hz.i261 rfl) ?_
  refine w_istore_n [(3, .int (zI σ 261 0 0 0)), (0, .ref (A 4 0 0)), (1, .int x1), (2, .int x2)] dX4_function_4 rfl rfl (by decide) rfl ?_
  refine w_aload_n 1 dX4_function_5 rfl rfl rfl ?_
  refine w_iload_n 2 dX4_function_6 rfl rfl rfl ?_
  refine w_iload_n 3 dX4_function_7 rfl rfl rfl ?_
  obtain ⟨v1, σ2, e3, hr⟩ := bq_some hr
  refine c_X4_119 (As := [.int x1, .int x2]) (rest := []) (fun l => s_X4_takeInExpression  hz e3 l) hrm dX4_function_8 rfl rfl (by omega) (Nat.le_of_ble_eq_true rfl) (Nat.le_of_ble_eq_true rfl) (hz.o4 rfl) rfl (Nat.le_of_ble_eq_true rfl) (fun vr h2 hq => ?_) (fun E9 h9 hq => hq.elim)
  obtain ⟨rfl, hz⟩ := hq
  show wp _ _ 11 [(3, .int (zI σ 261 0 0 0)), (0, .ref (A 4 0 0)), (1, .int x1), (2, .int x2)] [.int v1] _ _ _
  refine w_pop dX4_function_11 rfl rfl ?_
  refine w_aload_n 1 dX4_function_12 rfl rfl rfl ?_
  refine w_bipush 40 dX4_function_13 rfl rfl ?_
  refine w_iload_n 3 dX4_function_15 rfl rfl rfl ?_
  refine w_iconst 1 dX4_function_16 rfl rfl ?_
  refine w_iadd dX4_function_17 rfl ?_
  obtain ⟨v5, σ6, e7, hr⟩ := bq_some hr
  refine c_X4_119 (As := [.int 40, .int (x2 + 1)]) (rest := []) (fun l => s_X4_takeInExpression  hz e7 l) hrm dX4_function_18 rfl rfl (by omega) (Nat.le_of_ble_eq_true rfl) (Nat.le_of_ble_eq_true rfl) (hz.o4 rfl) rfl (Nat.le_of_ble_eq_true rfl) (fun vr h2 hq => ?_) (fun E9 h9 hq => hq.elim)
  obtain ⟨rfl, hz⟩ := hq
  show wp _ _ 21 [(3, .int (zI σ 261 0 0 0)), (0, .ref (A 4 0 0)), (1, .int x1), (2, .int x2)] [.int v5] _ _ _
  refine w_if_ne 25 dX4_function_21 rfl rfl (fun q21 => ?_) (fun q21 => ?_)
  · have hr := bf q21 hr
    refine w_aload_n 1 dX4_function_25 rfl rfl rfl ?_
    refine w_iload_n 3 dX4_function_26 rfl rfl rfl ?_
    refine w_iconst 1 dX4_function_27 rfl rfl ?_
    refine w_iadd dX4_function_28 rfl ?_
    obtain ⟨v9, σ10, e11, hr⟩ := bq_some hr
    refine c_X4_110 (As := [.int (x2 + 1)]) (rest := []) (fun l => hkE  hz e11 l) hrm dX4_function_29 rfl rfl (by omega) (Nat.le_of_ble_eq_true rfl) (Nat.le_of_ble_eq_true rfl) (hz.o4 rfl) rfl (Nat.le_of_ble_eq_true rfl) (fun vr h2 hq => ?_) (fun E9 h9 hq => hq.elim)
    obtain ⟨rfl, hz⟩ := hq
    show wp _ _ 32 [(3, .int (zI σ 261 0 0 0)), (0, .ref (A 4 0 0)), (1, .int x1), (2, .int x2)] [] _ _ _
    refine w_iconst 1 dX4_function_32 rfl rfl ?_
    refine w_istore [(4, .int 1), (3, .int (zI σ 261 0 0 0)), (0, .ref (A 4 0 0)), (1, .int x1), (2, .int x2)] dX4_function_33 rfl (by decide) rfl ?_
    refine w_iconst 0 dX4_function_35 rfl rfl ?_
    refine w_istore [(5, .int 0), (4, .int 1), (3, .int (zI σ 261 0 0 0)), (0, .ref (A 4 0 0)), (1, .int x1), (2, .int x2)] dX4_function_36 rfl (by decide) rfl ?_
    refine w_lv [(0, .ref (A 4 0 0)), (1, .int x1), (2, .int x2), (3, .int (zI σ 261 0 0 0)), (4, .int 1), (5, .int 0)] [3, 4, 5, 2, 1, 0] rfl ?_
    exact w_X4_function_38 hf hrm hkE hdk  FU (zI σ 261 0 0 0) 1 0 _ _ hz  hr
  · have hr := bt q21 hr
    refine w_vret hf dX4_function_24 rfl (Nat.le_of_ble_eq_true rfl) (Nat.le_of_ble_eq_true rfl) ?_
    obtain ⟨rfl, rfl⟩ := ret_inj hr
    exact ⟨rfl, hz⟩

set_option maxRecDepth 20000 in
set_option maxHeartbeats 4000000 in
theorem s_X4_factor {A : Nat → Nat → Nat → Nat} {h : Hp} {σ ρ σ' : Zs} {v : Unit} {x1 : Int32} {kE : Int32 → Zs → Option (Unit × Zs)} {kF : Int32 → Zs → Option (Unit × Zs)} {dk : Nat} {dj : Nat} (hkE : ∀ {h : Hp} {σ ρ σ' : Zs} {v : Unit} {x1 : Int32}, Rp A h σ ρ → kE x1 σ = some (v, σ') → ∀ l : Launch, Sp l mX4_expression dk 0 0 [.ref (A 4 0 0), .int x1] h (QV A v σ' ρ) X0) (hkF : ∀ {h : Hp} {σ ρ σ' : Zs} {v : Unit} {x1 : Int32}, Rp A h σ ρ → kF x1 σ = some (v, σ') → ∀ l : Launch, Sp l mX4_factor dj 0 0 [.ref (A 4 0 0), .int x1] h (QV A v σ' ρ) X0) (hdk : 20 ≤ dk) (hdj : dj ≤ dk) (hz : Rp A h σ ρ) (hr : fX4_factor x1 kE kF σ = some (v, σ')) : ∀ l : Launch, Sp l mX4_factor (dk + 2) 0 0 [.ref (A 4 0 0), .int x1] h (QV A v σ' ρ) X0 := by
  intro l
  refine Sp.of rfl rfl (lv := [(0, .ref (A 4 0 0)), (1, .int x1)]) (Nat.le_of_ble_eq_true rfl) rfl (fun x hf hrm => ?_)
  rw [fX4_factor.eq_1] at hr
  refine w_aload_n 0 dX4_factor_0 rfl rfl rfl ?_
  refine g_X4_29 dX4_factor_1 rfl (hz.o4 rfl) (hz.i260 rfl) ?_
  refine w_istore_n [(2, .int (zI σ 260 0 0 0)), (0, .ref (A 4 0 0)), (1, .int x1)] dX4_factor_4 rfl rfl (by decide) rfl ?_
  refine w_iload_n 0 dX4_factor_5 rfl rfl rfl ?_
  by_cases q6_0 : ((zI σ 260 0 0 0) : Int32) = 2
  · have hr := bt q6_0 hr
    refine w_lookup 110 dX4_factor_6 (by decide) (by rw [q6_0] <;> rfl) rfl ?_
    refine w_aload_n 1 dX4_factor_110 rfl rfl rfl ?_
    refine g_X4_15 dX4_factor_111 rfl (hz.o4 rfl) (hz.r257 rfl) ?_
    refine w_aload_n 1 dX4_factor_114 rfl rfl rfl ?_
    refine g_X4_139 dX4_factor_115 rfl (hz.o4 rfl) (hz.i262 rfl) ?_
    refine w_aload_n 1 dX4_factor_118 rfl rfl rfl ?_
    refine g_X4_44 dX4_factor_119 rfl (hz.o4 rfl) (hz.i261 rfl) ?_
    obtain ⟨v1, σ2, e3, hr⟩ := bq_some hr
    refine c_X4_143 (As := [.long (zJ σ 262 0 0 0), .int (zI σ 261 0 0 0)]) (rest := []) (fun l => s_X3_useColumn  hz e3 l) hrm dX4_factor_122 rfl rfl (by omega) (Nat.le_of_ble_eq_true rfl) (Nat.le_of_ble_eq_true rfl) (hz.o3 rfl) rfl (Nat.le_of_ble_eq_true rfl) (fun vr h2 hq => ?_) (fun E9 h9 hq => hq.elim)
    obtain ⟨rfl, hz⟩ := hq
    show wp _ _ 125 [(2, .int (zI σ 260 0 0 0)), (0, .ref (A 4 0 0)), (1, .int x1)] [] _ _ _
    refine w_aload_n 1 dX4_factor_125 rfl rfl rfl ?_
    refine w_iload_n 0 dX4_factor_126 rfl rfl rfl ?_
    refine w_iload_n 2 dX4_factor_127 rfl rfl rfl ?_
    obtain ⟨v5, σ6, e7, hr⟩ := bq_some hr
    refine c_X4_119 (As := [.int (zI σ 260 0 0 0), .int x1]) (rest := []) (fun l => s_X4_takeInExpression  hz e7 l) hrm dX4_factor_128 rfl rfl (by omega) (Nat.le_of_ble_eq_true rfl) (Nat.le_of_ble_eq_true rfl) (hz.o4 rfl) rfl (Nat.le_of_ble_eq_true rfl) (fun vr h2 hq => ?_) (fun E9 h9 hq => hq.elim)
    obtain ⟨rfl, hz⟩ := hq
    show wp _ _ 131 [(2, .int (zI σ 260 0 0 0)), (0, .ref (A 4 0 0)), (1, .int x1)] [.int v5] _ _ _
    refine w_pop dX4_factor_131 rfl rfl ?_
    refine w_goto 222 dX4_factor_132 rfl ?_
    refine w_vret hf dX4_factor_222 rfl (Nat.le_of_ble_eq_true rfl) (Nat.le_of_ble_eq_true rfl) ?_
    obtain ⟨rfl, rfl⟩ := ret_inj hr
    exact ⟨rfl, hz⟩
  have hr := bf q6_0 hr
  by_cases q6_1 : ((zI σ 260 0 0 0) : Int32) = 3
  · have hr := bt q6_1 hr
    refine w_lookup 88 dX4_factor_6 (by decide) (by rw [q6_1] <;> rfl) rfl ?_
    refine w_aload_n 1 dX4_factor_88 rfl rfl rfl ?_
    refine g_X4_15 dX4_factor_89 rfl (hz.o4 rfl) (hz.r257 rfl) ?_
    refine w_iload_n 0 dX4_factor_92 rfl rfl rfl ?_
    refine w_aload_n 1 dX4_factor_93 rfl rfl rfl ?_
    refine g_X4_139 dX4_factor_94 rfl (hz.o4 rfl) (hz.i262 rfl) ?_
    obtain ⟨v9, σ10, e11, hr⟩ := bq_some hr
    refine c_X4_123 (As := [.int (zI σ 260 0 0 0), .long (zJ σ 262 0 0 0)]) (rest := []) (fun l => s_X3_emit  hz e11 l) hrm dX4_factor_97 rfl rfl (by omega) (Nat.le_of_ble_eq_true rfl) (Nat.le_of_ble_eq_true rfl) (hz.o3 rfl) rfl (Nat.le_of_ble_eq_true rfl) (fun vr h2 hq => ?_) (fun E9 h9 hq => hq.elim)
    obtain ⟨rfl, hz⟩ := hq
    show wp _ _ 100 [(2, .int (zI σ 260 0 0 0)), (0, .ref (A 4 0 0)), (1, .int x1)] [] _ _ _
    refine w_aload_n 1 dX4_factor_100 rfl rfl rfl ?_
    refine w_iload_n 0 dX4_factor_101 rfl rfl rfl ?_
    refine w_iload_n 2 dX4_factor_102 rfl rfl rfl ?_
    obtain ⟨v13, σ14, e15, hr⟩ := bq_some hr
    refine c_X4_119 (As := [.int (zI σ 260 0 0 0), .int x1]) (rest := []) (fun l => s_X4_takeInExpression  hz e15 l) hrm dX4_factor_103 rfl rfl (by omega) (Nat.le_of_ble_eq_true rfl) (Nat.le_of_ble_eq_true rfl) (hz.o4 rfl) rfl (Nat.le_of_ble_eq_true rfl) (fun vr h2 hq => ?_) (fun E9 h9 hq => hq.elim)
    obtain ⟨rfl, hz⟩ := hq
    show wp _ _ 106 [(2, .int (zI σ 260 0 0 0)), (0, .ref (A 4 0 0)), (1, .int x1)] [.int v13] _ _ _
    refine w_pop dX4_factor_106 rfl rfl ?_
    refine w_goto 222 dX4_factor_107 rfl ?_
    refine w_vret hf dX4_factor_222 rfl (Nat.le_of_ble_eq_true rfl) (Nat.le_of_ble_eq_true rfl) ?_
    obtain ⟨rfl, rfl⟩ := ret_inj hr
    exact ⟨rfl, hz⟩
  have hr := bf q6_1 hr
  by_cases q6_2 : ((zI σ 260 0 0 0) : Int32) = 40
  · have hr := bt q6_2 hr
    refine w_lookup 135 dX4_factor_6 (by decide) (by rw [q6_2] <;> rfl) rfl ?_
    refine w_aload_n 1 dX4_factor_135 rfl rfl rfl ?_
    refine w_bipush 40 dX4_factor_136 rfl rfl ?_
    refine w_iload_n 2 dX4_factor_138 rfl rfl rfl ?_
    refine w_iconst 1 dX4_factor_139 rfl rfl ?_
    refine w_iadd dX4_factor_140 rfl ?_
    obtain ⟨v17, σ18, e19, hr⟩ := bq_some hr
    refine c_X4_119 (As := [.int 40, .int (x1 + 1)]) (rest := []) (fun l => s_X4_takeInExpression  hz e19 l) hrm dX4_factor_141 rfl rfl (by omega) (Nat.le_of_ble_eq_true rfl) (Nat.le_of_ble_eq_true rfl) (hz.o4 rfl) rfl (Nat.le_of_ble_eq_true rfl) (fun vr h2 hq => ?_) (fun E9 h9 hq => hq.elim)
    obtain ⟨rfl, hz⟩ := hq
    show wp _ _ 144 [(2, .int (zI σ 260 0 0 0)), (0, .ref (A 4 0 0)), (1, .int x1)] [.int v17] _ _ _
    refine w_if_eq 222 dX4_factor_144 rfl rfl (fun q144 => ?_) (fun q144 => ?_)
    · have hr := bt q144 hr
      refine w_vret hf dX4_factor_222 rfl (Nat.le_of_ble_eq_true rfl) (Nat.le_of_ble_eq_true rfl) ?_
      obtain ⟨rfl, rfl⟩ := ret_inj hr
      exact ⟨rfl, hz⟩
    · have hr := bf q144 hr
      refine w_aload_n 1 dX4_factor_147 rfl rfl rfl ?_
      refine w_iload_n 2 dX4_factor_148 rfl rfl rfl ?_
      refine w_iconst 1 dX4_factor_149 rfl rfl ?_
      refine w_iadd dX4_factor_150 rfl ?_
      obtain ⟨v21, σ22, e23, hr⟩ := bq_some hr
      refine c_X4_110 (As := [.int (x1 + 1)]) (rest := []) (fun l => hkE  hz e23 l) hrm dX4_factor_151 rfl rfl (by omega) (Nat.le_of_ble_eq_true rfl) (Nat.le_of_ble_eq_true rfl) (hz.o4 rfl) rfl (Nat.le_of_ble_eq_true rfl) (fun vr h2 hq => ?_) (fun E9 h9 hq => hq.elim)
      obtain ⟨rfl, hz⟩ := hq
      show wp _ _ 154 [(2, .int (zI σ 260 0 0 0)), (0, .ref (A 4 0 0)), (1, .int x1)] [] _ _ _
      refine w_aload_n 1 dX4_factor_154 rfl rfl rfl ?_
      refine w_bipush 41 dX4_factor_155 rfl rfl ?_
      refine w_iload_n 2 dX4_factor_157 rfl rfl rfl ?_
      obtain ⟨v25, σ26, e27, hr⟩ := bq_some hr
      refine c_X4_119 (As := [.int 41, .int x1]) (rest := []) (fun l => s_X4_takeInExpression  hz e27 l) hrm dX4_factor_158 rfl rfl (by omega) (Nat.le_of_ble_eq_true rfl) (Nat.le_of_ble_eq_true rfl) (hz.o4 rfl) rfl (Nat.le_of_ble_eq_true rfl) (fun vr h2 hq => ?_) (fun E9 h9 hq => hq.elim)
      obtain ⟨rfl, hz⟩ := hq
      show wp _ _ 161 [(2, .int (zI σ 260 0 0 0)), (0, .ref (A 4 0 0)), (1, .int x1)] [.int v25] _ _ _
      refine w_pop dX4_factor_161 rfl rfl ?_
      refine w_goto 222 dX4_factor_162 rfl ?_
      refine w_vret hf dX4_factor_222 rfl (Nat.le_of_ble_eq_true rfl) (Nat.le_of_ble_eq_true rfl) ?_
      obtain ⟨rfl, rfl⟩ := ret_inj hr
      exact ⟨rfl, hz⟩
  have hr := bf q6_2 hr
  by_cases q6_3 : ((zI σ 260 0 0 0) : Int32) = 45
  · have hr := bt q6_3 hr
    refine w_lookup 165 dX4_factor_6 (by decide) (by rw [q6_3] <;> rfl) rfl ?_
    refine w_aload_n 1 dX4_factor_165 rfl rfl rfl ?_
    refine w_iload_n 0 dX4_factor_166 rfl rfl rfl ?_
    refine w_iload_n 2 dX4_factor_167 rfl rfl rfl ?_
    refine w_iconst 1 dX4_factor_168 rfl rfl ?_
    refine w_iadd dX4_factor_169 rfl ?_
    obtain ⟨v29, σ30, e31, hr⟩ := bq_some hr
    refine c_X4_119 (As := [.int (zI σ 260 0 0 0), .int (x1 + 1)]) (rest := []) (fun l => s_X4_takeInExpression  hz e31 l) hrm dX4_factor_170 rfl rfl (by omega) (Nat.le_of_ble_eq_true rfl) (Nat.le_of_ble_eq_true rfl) (hz.o4 rfl) rfl (Nat.le_of_ble_eq_true rfl) (fun vr h2 hq => ?_) (fun E9 h9 hq => hq.elim)
    obtain ⟨rfl, hz⟩ := hq
    show wp _ _ 173 [(2, .int (zI σ 260 0 0 0)), (0, .ref (A 4 0 0)), (1, .int x1)] [.int v29] _ _ _
    refine w_if_eq 222 dX4_factor_173 rfl rfl (fun q173 => ?_) (fun q173 => ?_)
    · have hr := bt q173 hr
      refine w_vret hf dX4_factor_222 rfl (Nat.le_of_ble_eq_true rfl) (Nat.le_of_ble_eq_true rfl) ?_
      obtain ⟨rfl, rfl⟩ := ret_inj hr
      exact ⟨rfl, hz⟩
    · have hr := bf q173 hr
      refine w_aload_n 1 dX4_factor_176 rfl rfl rfl ?_
      refine w_iload_n 2 dX4_factor_177 rfl rfl rfl ?_
      refine w_iconst 1 dX4_factor_178 rfl rfl ?_
      refine w_iadd dX4_factor_179 rfl ?_
      obtain ⟨v33, σ34, e35, hr⟩ := bq_some hr
      refine c_X4_136 (As := [.int (x1 + 1)]) (rest := []) (fun l => hkF  hz e35 l) hrm dX4_factor_180 rfl rfl (by omega) (Nat.le_of_ble_eq_true rfl) (Nat.le_of_ble_eq_true rfl) (hz.o4 rfl) rfl (Nat.le_of_ble_eq_true rfl) (fun vr h2 hq => ?_) (fun E9 h9 hq => hq.elim)
      obtain ⟨rfl, hz⟩ := hq
      show wp _ _ 183 [(2, .int (zI σ 260 0 0 0)), (0, .ref (A 4 0 0)), (1, .int x1)] [] _ _ _
      refine w_aload_n 1 dX4_factor_183 rfl rfl rfl ?_
      refine g_X4_15 dX4_factor_184 rfl (hz.o4 rfl) (hz.r257 rfl) ?_
      refine w_iload_n 0 dX4_factor_187 rfl rfl rfl ?_
      refine w_bipush 45 dX4_factor_188 rfl rfl ?_
      refine w_icmp_ne 199 dX4_factor_190 rfl rfl (fun q190 => ?_) (fun q190 => ?_)
      · have hr := bf q190 hr
        refine w_sipush 158 dX4_factor_199 rfl rfl ?_
        refine w_lconst 0 dX4_factor_202 rfl rfl ?_
        obtain ⟨v37, σ38, e39, hr⟩ := bq_some hr
        refine c_X4_123 (As := [.int 158, .long 0]) (rest := []) (fun l => s_X3_emit  hz e39 l) hrm dX4_factor_203 rfl rfl (by omega) (Nat.le_of_ble_eq_true rfl) (Nat.le_of_ble_eq_true rfl) (hz.o3 rfl) rfl (Nat.le_of_ble_eq_true rfl) (fun vr h2 hq => ?_) (fun E9 h9 hq => hq.elim)
        obtain ⟨rfl, hz⟩ := hq
        show wp _ _ 206 [(2, .int (zI σ 260 0 0 0)), (0, .ref (A 4 0 0)), (1, .int x1)] [] _ _ _
        refine w_goto 222 dX4_factor_206 rfl ?_
        refine w_vret hf dX4_factor_222 rfl (Nat.le_of_ble_eq_true rfl) (Nat.le_of_ble_eq_true rfl) ?_
        obtain ⟨rfl, rfl⟩ := ret_inj hr
        exact ⟨rfl, hz⟩
      · have hr := bt q190 hr
        refine w_sipush 160 dX4_factor_193 rfl rfl ?_
        refine w_goto 202 dX4_factor_196 rfl ?_
        refine w_lconst 0 dX4_factor_202 rfl rfl ?_
        obtain ⟨v41, σ42, e43, hr⟩ := bq_some hr
        refine c_X4_123 (As := [.int 160, .long 0]) (rest := []) (fun l => s_X3_emit  hz e43 l) hrm dX4_factor_203 rfl rfl (by omega) (Nat.le_of_ble_eq_true rfl) (Nat.le_of_ble_eq_true rfl) (hz.o3 rfl) rfl (Nat.le_of_ble_eq_true rfl) (fun vr h2 hq => ?_) (fun E9 h9 hq => hq.elim)
        obtain ⟨rfl, hz⟩ := hq
        show wp _ _ 206 [(2, .int (zI σ 260 0 0 0)), (0, .ref (A 4 0 0)), (1, .int x1)] [] _ _ _
        refine w_goto 222 dX4_factor_206 rfl ?_
        refine w_vret hf dX4_factor_222 rfl (Nat.le_of_ble_eq_true rfl) (Nat.le_of_ble_eq_true rfl) ?_
        obtain ⟨rfl, rfl⟩ := ret_inj hr
        exact ⟨rfl, hz⟩
  have hr := bf q6_3 hr
  by_cases q6_4 : ((zI σ 260 0 0 0) : Int32) = 152
  · have hr := bt q6_4 hr
    refine w_lookup 209 dX4_factor_6 (by decide) (by rw [q6_4] <;> rfl) rfl ?_
    refine w_aload_n 1 dX4_factor_209 rfl rfl rfl ?_
    refine w_iload_n 0 dX4_factor_210 rfl rfl rfl ?_
    refine w_iload_n 2 dX4_factor_211 rfl rfl rfl ?_
    obtain ⟨v45, σ46, e47, hr⟩ := bq_some hr
    refine c_X4_147 (As := [.int (zI σ 260 0 0 0), .int x1]) (rest := []) (fun l => s_X4_function hkE hdk hz e47 l) hrm dX4_factor_212 rfl rfl (by omega) (Nat.le_of_ble_eq_true rfl) (Nat.le_of_ble_eq_true rfl) (hz.o4 rfl) rfl (Nat.le_of_ble_eq_true rfl) (fun vr h2 hq => ?_) (fun E9 h9 hq => hq.elim)
    obtain ⟨rfl, hz⟩ := hq
    show wp _ _ 215 [(2, .int (zI σ 260 0 0 0)), (0, .ref (A 4 0 0)), (1, .int x1)] [] _ _ _
    refine w_goto 222 dX4_factor_215 rfl ?_
    refine w_vret hf dX4_factor_222 rfl (Nat.le_of_ble_eq_true rfl) (Nat.le_of_ble_eq_true rfl) ?_
    obtain ⟨rfl, rfl⟩ := ret_inj hr
    exact ⟨rfl, hz⟩
  have hr := bf q6_4 hr
  by_cases q6_5 : ((zI σ 260 0 0 0) : Int32) = 153
  · have hr := bt q6_5 hr
    refine w_lookup 209 dX4_factor_6 (by decide) (by rw [q6_5] <;> rfl) rfl ?_
    refine w_aload_n 1 dX4_factor_209 rfl rfl rfl ?_
    refine w_iload_n 0 dX4_factor_210 rfl rfl rfl ?_
    refine w_iload_n 2 dX4_factor_211 rfl rfl rfl ?_
    obtain ⟨v49, σ50, e51, hr⟩ := bq_some hr
    refine c_X4_147 (As := [.int (zI σ 260 0 0 0), .int x1]) (rest := []) (fun l => s_X4_function hkE hdk hz e51 l) hrm dX4_factor_212 rfl rfl (by omega) (Nat.le_of_ble_eq_true rfl) (Nat.le_of_ble_eq_true rfl) (hz.o4 rfl) rfl (Nat.le_of_ble_eq_true rfl) (fun vr h2 hq => ?_) (fun E9 h9 hq => hq.elim)
    obtain ⟨rfl, hz⟩ := hq
    show wp _ _ 215 [(2, .int (zI σ 260 0 0 0)), (0, .ref (A 4 0 0)), (1, .int x1)] [] _ _ _
    refine w_goto 222 dX4_factor_215 rfl ?_
    refine w_vret hf dX4_factor_222 rfl (Nat.le_of_ble_eq_true rfl) (Nat.le_of_ble_eq_true rfl) ?_
    obtain ⟨rfl, rfl⟩ := ret_inj hr
    exact ⟨rfl, hz⟩
  have hr := bf q6_5 hr
  by_cases q6_6 : ((zI σ 260 0 0 0) : Int32) = 155
  · have hr := bt q6_6 hr
    refine w_lookup 88 dX4_factor_6 (by decide) (by rw [q6_6] <;> rfl) rfl ?_
    refine w_aload_n 1 dX4_factor_88 rfl rfl rfl ?_
    refine g_X4_15 dX4_factor_89 rfl (hz.o4 rfl) (hz.r257 rfl) ?_
    refine w_iload_n 0 dX4_factor_92 rfl rfl rfl ?_
    refine w_aload_n 1 dX4_factor_93 rfl rfl rfl ?_
    refine g_X4_139 dX4_factor_94 rfl (hz.o4 rfl) (hz.i262 rfl) ?_
    obtain ⟨v53, σ54, e55, hr⟩ := bq_some hr
    refine c_X4_123 (As := [.int (zI σ 260 0 0 0), .long (zJ σ 262 0 0 0)]) (rest := []) (fun l => s_X3_emit  hz e55 l) hrm dX4_factor_97 rfl rfl (by omega) (Nat.le_of_ble_eq_true rfl) (Nat.le_of_ble_eq_true rfl) (hz.o3 rfl) rfl (Nat.le_of_ble_eq_true rfl) (fun vr h2 hq => ?_) (fun E9 h9 hq => hq.elim)
    obtain ⟨rfl, hz⟩ := hq
    show wp _ _ 100 [(2, .int (zI σ 260 0 0 0)), (0, .ref (A 4 0 0)), (1, .int x1)] [] _ _ _
    refine w_aload_n 1 dX4_factor_100 rfl rfl rfl ?_
    refine w_iload_n 0 dX4_factor_101 rfl rfl rfl ?_
    refine w_iload_n 2 dX4_factor_102 rfl rfl rfl ?_
    obtain ⟨v57, σ58, e59, hr⟩ := bq_some hr
    refine c_X4_119 (As := [.int (zI σ 260 0 0 0), .int x1]) (rest := []) (fun l => s_X4_takeInExpression  hz e59 l) hrm dX4_factor_103 rfl rfl (by omega) (Nat.le_of_ble_eq_true rfl) (Nat.le_of_ble_eq_true rfl) (hz.o4 rfl) rfl (Nat.le_of_ble_eq_true rfl) (fun vr h2 hq => ?_) (fun E9 h9 hq => hq.elim)
    obtain ⟨rfl, hz⟩ := hq
    show wp _ _ 106 [(2, .int (zI σ 260 0 0 0)), (0, .ref (A 4 0 0)), (1, .int x1)] [.int v57] _ _ _
    refine w_pop dX4_factor_106 rfl rfl ?_
    refine w_goto 222 dX4_factor_107 rfl ?_
    refine w_vret hf dX4_factor_222 rfl (Nat.le_of_ble_eq_true rfl) (Nat.le_of_ble_eq_true rfl) ?_
    obtain ⟨rfl, rfl⟩ := ret_inj hr
    exact ⟨rfl, hz⟩
  have hr := bf q6_6 hr
  by_cases q6_7 : ((zI σ 260 0 0 0) : Int32) = 158
  · have hr := bt q6_7 hr
    refine w_lookup 165 dX4_factor_6 (by decide) (by rw [q6_7] <;> rfl) rfl ?_
    refine w_aload_n 1 dX4_factor_165 rfl rfl rfl ?_
    refine w_iload_n 0 dX4_factor_166 rfl rfl rfl ?_
    refine w_iload_n 2 dX4_factor_167 rfl rfl rfl ?_
    refine w_iconst 1 dX4_factor_168 rfl rfl ?_
    refine w_iadd dX4_factor_169 rfl ?_
    obtain ⟨v61, σ62, e63, hr⟩ := bq_some hr
    refine c_X4_119 (As := [.int (zI σ 260 0 0 0), .int (x1 + 1)]) (rest := []) (fun l => s_X4_takeInExpression  hz e63 l) hrm dX4_factor_170 rfl rfl (by omega) (Nat.le_of_ble_eq_true rfl) (Nat.le_of_ble_eq_true rfl) (hz.o4 rfl) rfl (Nat.le_of_ble_eq_true rfl) (fun vr h2 hq => ?_) (fun E9 h9 hq => hq.elim)
    obtain ⟨rfl, hz⟩ := hq
    show wp _ _ 173 [(2, .int (zI σ 260 0 0 0)), (0, .ref (A 4 0 0)), (1, .int x1)] [.int v61] _ _ _
    refine w_if_eq 222 dX4_factor_173 rfl rfl (fun q173 => ?_) (fun q173 => ?_)
    · have hr := bt q173 hr
      refine w_vret hf dX4_factor_222 rfl (Nat.le_of_ble_eq_true rfl) (Nat.le_of_ble_eq_true rfl) ?_
      obtain ⟨rfl, rfl⟩ := ret_inj hr
      exact ⟨rfl, hz⟩
    · have hr := bf q173 hr
      refine w_aload_n 1 dX4_factor_176 rfl rfl rfl ?_
      refine w_iload_n 2 dX4_factor_177 rfl rfl rfl ?_
      refine w_iconst 1 dX4_factor_178 rfl rfl ?_
      refine w_iadd dX4_factor_179 rfl ?_
      obtain ⟨v65, σ66, e67, hr⟩ := bq_some hr
      refine c_X4_136 (As := [.int (x1 + 1)]) (rest := []) (fun l => hkF  hz e67 l) hrm dX4_factor_180 rfl rfl (by omega) (Nat.le_of_ble_eq_true rfl) (Nat.le_of_ble_eq_true rfl) (hz.o4 rfl) rfl (Nat.le_of_ble_eq_true rfl) (fun vr h2 hq => ?_) (fun E9 h9 hq => hq.elim)
      obtain ⟨rfl, hz⟩ := hq
      show wp _ _ 183 [(2, .int (zI σ 260 0 0 0)), (0, .ref (A 4 0 0)), (1, .int x1)] [] _ _ _
      refine w_aload_n 1 dX4_factor_183 rfl rfl rfl ?_
      refine g_X4_15 dX4_factor_184 rfl (hz.o4 rfl) (hz.r257 rfl) ?_
      refine w_iload_n 0 dX4_factor_187 rfl rfl rfl ?_
      refine w_bipush 45 dX4_factor_188 rfl rfl ?_
      refine w_icmp_ne 199 dX4_factor_190 rfl rfl (fun q190 => ?_) (fun q190 => ?_)
      · have hr := bf q190 hr
        refine w_sipush 158 dX4_factor_199 rfl rfl ?_
        refine w_lconst 0 dX4_factor_202 rfl rfl ?_
        obtain ⟨v69, σ70, e71, hr⟩ := bq_some hr
        refine c_X4_123 (As := [.int 158, .long 0]) (rest := []) (fun l => s_X3_emit  hz e71 l) hrm dX4_factor_203 rfl rfl (by omega) (Nat.le_of_ble_eq_true rfl) (Nat.le_of_ble_eq_true rfl) (hz.o3 rfl) rfl (Nat.le_of_ble_eq_true rfl) (fun vr h2 hq => ?_) (fun E9 h9 hq => hq.elim)
        obtain ⟨rfl, hz⟩ := hq
        show wp _ _ 206 [(2, .int (zI σ 260 0 0 0)), (0, .ref (A 4 0 0)), (1, .int x1)] [] _ _ _
        refine w_goto 222 dX4_factor_206 rfl ?_
        refine w_vret hf dX4_factor_222 rfl (Nat.le_of_ble_eq_true rfl) (Nat.le_of_ble_eq_true rfl) ?_
        obtain ⟨rfl, rfl⟩ := ret_inj hr
        exact ⟨rfl, hz⟩
      · have hr := bt q190 hr
        refine w_sipush 160 dX4_factor_193 rfl rfl ?_
        refine w_goto 202 dX4_factor_196 rfl ?_
        refine w_lconst 0 dX4_factor_202 rfl rfl ?_
        obtain ⟨v73, σ74, e75, hr⟩ := bq_some hr
        refine c_X4_123 (As := [.int 160, .long 0]) (rest := []) (fun l => s_X3_emit  hz e75 l) hrm dX4_factor_203 rfl rfl (by omega) (Nat.le_of_ble_eq_true rfl) (Nat.le_of_ble_eq_true rfl) (hz.o3 rfl) rfl (Nat.le_of_ble_eq_true rfl) (fun vr h2 hq => ?_) (fun E9 h9 hq => hq.elim)
        obtain ⟨rfl, hz⟩ := hq
        show wp _ _ 206 [(2, .int (zI σ 260 0 0 0)), (0, .ref (A 4 0 0)), (1, .int x1)] [] _ _ _
        refine w_goto 222 dX4_factor_206 rfl ?_
        refine w_vret hf dX4_factor_222 rfl (Nat.le_of_ble_eq_true rfl) (Nat.le_of_ble_eq_true rfl) ?_
        obtain ⟨rfl, rfl⟩ := ret_inj hr
        exact ⟨rfl, hz⟩
  have hr := bf q6_7 hr
  by_cases q6_8 : ((zI σ 260 0 0 0) : Int32) = 159
  · have hr := bt q6_8 hr
    refine w_lookup 209 dX4_factor_6 (by decide) (by rw [q6_8] <;> rfl) rfl ?_
    refine w_aload_n 1 dX4_factor_209 rfl rfl rfl ?_
    refine w_iload_n 0 dX4_factor_210 rfl rfl rfl ?_
    refine w_iload_n 2 dX4_factor_211 rfl rfl rfl ?_
    obtain ⟨v77, σ78, e79, hr⟩ := bq_some hr
    refine c_X4_147 (As := [.int (zI σ 260 0 0 0), .int x1]) (rest := []) (fun l => s_X4_function hkE hdk hz e79 l) hrm dX4_factor_212 rfl rfl (by omega) (Nat.le_of_ble_eq_true rfl) (Nat.le_of_ble_eq_true rfl) (hz.o4 rfl) rfl (Nat.le_of_ble_eq_true rfl) (fun vr h2 hq => ?_) (fun E9 h9 hq => hq.elim)
    obtain ⟨rfl, hz⟩ := hq
    show wp _ _ 215 [(2, .int (zI σ 260 0 0 0)), (0, .ref (A 4 0 0)), (1, .int x1)] [] _ _ _
    refine w_goto 222 dX4_factor_215 rfl ?_
    refine w_vret hf dX4_factor_222 rfl (Nat.le_of_ble_eq_true rfl) (Nat.le_of_ble_eq_true rfl) ?_
    obtain ⟨rfl, rfl⟩ := ret_inj hr
    exact ⟨rfl, hz⟩
  have hr := bf q6_8 hr
  refine w_lookup 218 dX4_factor_6 (by decide) ((lv_osw q6_0 rfl).trans ((lv_osw q6_1 rfl).trans ((lv_osw q6_2 rfl).trans ((lv_osw q6_3 rfl).trans ((lv_osw q6_4 rfl).trans ((lv_osw q6_5 rfl).trans ((lv_osw q6_6 rfl).trans ((lv_osw q6_7 rfl).trans ((lv_osw q6_8 rfl).trans rfl))))))))) rfl ?_
  refine w_aload_n 1 dX4_factor_218 rfl rfl rfl ?_
  obtain ⟨v81, σ82, e83, hr⟩ := bq_some hr
  refine c_X4_41 (As := []) (rest := []) (fun l => s_X4_fail  hz e83 l) hrm dX4_factor_219 rfl rfl (by omega) (Nat.le_of_ble_eq_true rfl) (Nat.le_of_ble_eq_true rfl) (hz.o4 rfl) rfl (Nat.le_of_ble_eq_true rfl) (fun vr h2 hq => ?_) (fun E9 h9 hq => hq.elim)
  obtain ⟨rfl, hz⟩ := hq
  show wp _ _ 222 [(2, .int (zI σ 260 0 0 0)), (0, .ref (A 4 0 0)), (1, .int x1)] [] _ _ _
  refine w_vret hf dX4_factor_222 rfl (Nat.le_of_ble_eq_true rfl) (Nat.le_of_ble_eq_true rfl) ?_
  obtain ⟨rfl, rfl⟩ := ret_inj hr
  exact ⟨rfl, hz⟩

set_option maxRecDepth 20000 in
set_option maxHeartbeats 4000000 in
theorem w_X4_product_40 {A : Nat → Nat → Nat → Nat} {ρ σ' : Zs} {v : Unit} {x : Cxt} {x1 : Int32} {kF : Int32 → Zs → Option (Unit × Zs)} {dk : Nat} {k7 : Int32 → Zs → Option (Unit × Zs)}  (hf : m_fin 0 0 (QV A v σ' ρ) X0 x) (hrm : m_rm (dk + 1) 0 0 x) (hkF : ∀ {h : Hp} {σ ρ σ' : Zs} {v : Unit} {x1 : Int32}, Rp A h σ ρ → kF x1 σ = some (v, σ') → ∀ l : Launch, Sp l mX4_factor dk 0 0 [.ref (A 4 0 0), .int x1] h (QV A v σ' ρ) X0) (hdk : 20 ≤ dk) (hk7 : ∀ (y2 : Int32) (σ : Zs) (h : Hp), Rp A h σ ρ → k7 y2 σ = some (v, σ') → wp x mX4_product 7 [(0, .ref (A 4 0 0)), (1, .int x1), (2, .int y2)] [] h 0 0) : ∀ (y2 : Int32) (σ : Zs) (h : Hp), Rp A h σ ρ → fX4_product_40 x1 kF k7 y2 σ = some (v, σ') → wp x mX4_product 40 [(0, .ref (A 4 0 0)), (1, .int x1), (2, .int y2)] [] h 0 0 := by
  intro y2 σ h hz hr
  rw [fX4_product_40.eq_1] at hr
  refine w_aload_n 0 dX4_product_40 rfl rfl rfl ?_
  refine g_X4_29 dX4_product_41 rfl (hz.o4 rfl) (hz.i260 rfl) ?_
  refine w_istore_n [(3, .int (zI σ 260 0 0 0)), (0, .ref (A 4 0 0)), (1, .int x1), (2, .int y2)] dX4_product_44 rfl rfl (by decide) rfl ?_
  refine w_aload_n 1 dX4_product_45 rfl rfl rfl ?_
  refine w_iload_n 0 dX4_product_46 rfl rfl rfl ?_
  refine w_iload_n 2 dX4_product_47 rfl rfl rfl ?_
  obtain ⟨v5, σ6, e7, hr⟩ := bq_some hr
  refine c_X4_119 (As := [.int (zI σ 260 0 0 0), .int x1]) (rest := []) (fun l => s_X4_takeInExpression  hz e7 l) hrm dX4_product_48 rfl rfl (by omega) (Nat.le_of_ble_eq_true rfl) (Nat.le_of_ble_eq_true rfl) (hz.o4 rfl) rfl (Nat.le_of_ble_eq_true rfl) (fun vr h2 hq => ?_) (fun E9 h9 hq => hq.elim)
  obtain ⟨rfl, hz⟩ := hq
  show wp _ _ 51 [(3, .int (zI σ 260 0 0 0)), (0, .ref (A 4 0 0)), (1, .int x1), (2, .int y2)] [.int v5] _ _ _
  refine w_pop dX4_product_51 rfl rfl ?_
  refine w_aload_n 1 dX4_product_52 rfl rfl rfl ?_
  refine w_iload_n 2 dX4_product_53 rfl rfl rfl ?_
  obtain ⟨v9, σ10, e11, hr⟩ := bq_some hr
  refine c_X4_136 (As := [.int x1]) (rest := []) (fun l => hkF  hz e11 l) hrm dX4_product_54 rfl rfl (by omega) (Nat.le_of_ble_eq_true rfl) (Nat.le_of_ble_eq_true rfl) (hz.o4 rfl) rfl (Nat.le_of_ble_eq_true rfl) (fun vr h2 hq => ?_) (fun E9 h9 hq => hq.elim)
  obtain ⟨rfl, hz⟩ := hq
  show wp _ _ 57 [(3, .int (zI σ 260 0 0 0)), (0, .ref (A 4 0 0)), (1, .int x1), (2, .int y2)] [] _ _ _
  refine w_aload_n 1 dX4_product_57 rfl rfl rfl ?_
  refine g_X4_15 dX4_product_58 rfl (hz.o4 rfl) (hz.r257 rfl) ?_
  refine w_iload_n 0 dX4_product_61 rfl rfl rfl ?_
  refine w_lconst 0 dX4_product_62 rfl rfl ?_
  obtain ⟨v13, σ14, e15, hr⟩ := bq_some hr
  refine c_X4_123 (As := [.int (zI σ 260 0 0 0), .long 0]) (rest := []) (fun l => s_X3_emit  hz e15 l) hrm dX4_product_63 rfl rfl (by omega) (Nat.le_of_ble_eq_true rfl) (Nat.le_of_ble_eq_true rfl) (hz.o3 rfl) rfl (Nat.le_of_ble_eq_true rfl) (fun vr h2 hq => ?_) (fun E9 h9 hq => hq.elim)
  obtain ⟨rfl, hz⟩ := hq
  show wp _ _ 66 [(3, .int (zI σ 260 0 0 0)), (0, .ref (A 4 0 0)), (1, .int x1), (2, .int y2)] [] _ _ _
  refine w_iinc 3 (y2 + 1) [(2, .int (y2 + 1)), (3, .int (zI σ 260 0 0 0)), (0, .ref (A 4 0 0)), (1, .int x1)] dX4_product_66 rfl rfl rfl (by decide) rfl ?_
  refine w_goto 7 dX4_product_69 rfl ?_
  refine w_lv [(0, .ref (A 4 0 0)), (1, .int x1), (2, .int (y2 + 1))] [2, 3, 0] rfl ?_
  exact hk7 (y2 + 1) _ _ hz  hr
set_option maxRecDepth 20000 in
set_option maxHeartbeats 4000000 in
theorem w_X4_product_7 {A : Nat → Nat → Nat → Nat} {ρ σ' : Zs} {v : Unit} {x : Cxt} {x1 : Int32} {kF : Int32 → Zs → Option (Unit × Zs)} {dk : Nat}  (hf : m_fin 0 0 (QV A v σ' ρ) X0 x) (hrm : m_rm (dk + 1) 0 0 x) (hkF : ∀ {h : Hp} {σ ρ σ' : Zs} {v : Unit} {x1 : Int32}, Rp A h σ ρ → kF x1 σ = some (v, σ') → ∀ l : Launch, Sp l mX4_factor dk 0 0 [.ref (A 4 0 0), .int x1] h (QV A v σ' ρ) X0) (hdk : 20 ≤ dk) : ∀ (n : Nat) (y2 : Int32) (σ : Zs) (h : Hp), Rp A h σ ρ → fX4_product_7 x1 kF  n y2 σ = some (v, σ') → wp x mX4_product 7 [(0, .ref (A 4 0 0)), (1, .int x1), (2, .int y2)] [] h 0 0
  | 0, _, σ, h => fun hz hr => by
    rw [fX4_product_7.eq_1] at hr
    exact nono hr
  | n + 1, y2, σ, h => fun hz hr => by
    rw [fX4_product_7.eq_2] at hr
    refine w_iload_n 2 dX4_product_7 rfl rfl rfl ?_
    refine w_bipush 60 dX4_product_8 rfl rfl ?_
    refine w_icmp_ge 72 dX4_product_10 rfl rfl (fun q10 => ?_) (fun q10 => ?_)
    · have hr := bt q10 hr
      refine w_vret hf dX4_product_72 rfl (Nat.le_of_ble_eq_true rfl) (Nat.le_of_ble_eq_true rfl) ?_
      obtain ⟨rfl, rfl⟩ := ret_inj hr
      exact ⟨rfl, hz⟩
    · have hr := bf q10 hr
      refine w_aload_n 0 dX4_product_13 rfl rfl rfl ?_
      refine g_X4_29 dX4_product_14 rfl (hz.o4 rfl) (hz.i260 rfl) ?_
      refine w_bipush 42 dX4_product_17 rfl rfl ?_
      refine w_icmp_eq 40 dX4_product_19 rfl rfl (fun q19 => ?_) (fun q19 => ?_)
      · have hr := bt q19 hr
        refine w_lv [(0, .ref (A 4 0 0)), (1, .int x1), (2, .int y2)] [0, 1, 2] rfl ?_
        exact w_X4_product_40 hf hrm hkF hdk (fun by2 zb hb hzb  hrb => w_X4_product_7 hf hrm hkF hdk  n by2 zb hb hzb  hrb) y2 _ _ hz  hr
      · have hr := bf q19 hr
        refine w_aload_n 0 dX4_product_22 rfl rfl rfl ?_
        refine g_X4_29 dX4_product_23 rfl (hz.o4 rfl) (hz.i260 rfl) ?_
        refine w_bipush 47 dX4_product_26 rfl rfl ?_
        refine w_icmp_eq 40 dX4_product_28 rfl rfl (fun q28 => ?_) (fun q28 => ?_)
        · have hr := bt q28 hr
          refine w_lv [(0, .ref (A 4 0 0)), (1, .int x1), (2, .int y2)] [0, 1, 2] rfl ?_
          exact w_X4_product_40 hf hrm hkF hdk (fun by2 zb hb hzb  hrb => w_X4_product_7 hf hrm hkF hdk  n by2 zb hb hzb  hrb) y2 _ _ hz  hr
        · have hr := bf q28 hr
          refine w_aload_n 0 dX4_product_31 rfl rfl rfl ?_
          refine g_X4_29 dX4_product_32 rfl (hz.o4 rfl) (hz.i260 rfl) ?_
          refine w_bipush 37 dX4_product_35 rfl rfl ?_
          refine w_icmp_ne 72 dX4_product_37 rfl rfl (fun q37 => ?_) (fun q37 => ?_)
          · have hr := bf q37 hr
            refine w_vret hf dX4_product_72 rfl (Nat.le_of_ble_eq_true rfl) (Nat.le_of_ble_eq_true rfl) ?_
            obtain ⟨rfl, rfl⟩ := ret_inj hr
            exact ⟨rfl, hz⟩
          · have hr := bt q37 hr
            refine w_lv [(0, .ref (A 4 0 0)), (1, .int x1), (2, .int y2)] [0, 1, 2] rfl ?_
            exact w_X4_product_40 hf hrm hkF hdk (fun by2 zb hb hzb  hrb => w_X4_product_7 hf hrm hkF hdk  n by2 zb hb hzb  hrb) y2 _ _ hz  hr
set_option maxRecDepth 20000 in
set_option maxHeartbeats 4000000 in
theorem s_X4_product {A : Nat → Nat → Nat → Nat} {h : Hp} {σ ρ σ' : Zs} {v : Unit} {x1 : Int32} {kF : Int32 → Zs → Option (Unit × Zs)} {dk : Nat} (hkF : ∀ {h : Hp} {σ ρ σ' : Zs} {v : Unit} {x1 : Int32}, Rp A h σ ρ → kF x1 σ = some (v, σ') → ∀ l : Launch, Sp l mX4_factor dk 0 0 [.ref (A 4 0 0), .int x1] h (QV A v σ' ρ) X0) (hdk : 20 ≤ dk) (hz : Rp A h σ ρ) (hr : fX4_product x1 kF σ = some (v, σ')) : ∀ l : Launch, Sp l mX4_product (dk + 1) 0 0 [.ref (A 4 0 0), .int x1] h (QV A v σ' ρ) X0 := by
  intro l
  refine Sp.of rfl rfl (lv := [(0, .ref (A 4 0 0)), (1, .int x1)]) (Nat.le_of_ble_eq_true rfl) rfl (fun x hf hrm => ?_)
  rw [fX4_product.eq_1] at hr
  refine w_aload_n 0 dX4_product_0 rfl rfl rfl ?_
  refine w_iload_n 1 dX4_product_1 rfl rfl rfl ?_
  obtain ⟨v1, σ2, e3, hr⟩ := bq_some hr
  refine c_X4_136 (As := [.int x1]) (rest := []) (fun l => hkF  hz e3 l) hrm dX4_product_2 rfl rfl (by omega) (Nat.le_of_ble_eq_true rfl) (Nat.le_of_ble_eq_true rfl) (hz.o4 rfl) rfl (Nat.le_of_ble_eq_true rfl) (fun vr h2 hq => ?_) (fun E9 h9 hq => hq.elim)
  obtain ⟨rfl, hz⟩ := hq
  show wp _ _ 5 [(0, .ref (A 4 0 0)), (1, .int x1)] [] _ _ _
  refine w_iconst 0 dX4_product_5 rfl rfl ?_
  refine w_istore_n [(2, .int 0), (0, .ref (A 4 0 0)), (1, .int x1)] dX4_product_6 rfl rfl (by decide) rfl ?_
  refine w_lv [(0, .ref (A 4 0 0)), (1, .int x1), (2, .int 0)] [1, 2, 0] rfl ?_
  exact w_X4_product_7 hf hrm hkF hdk  FU 0 _ _ hz  hr

set_option maxRecDepth 20000 in
set_option maxHeartbeats 4000000 in
theorem w_X4_sum_31 {A : Nat → Nat → Nat → Nat} {ρ σ' : Zs} {v : Unit} {x : Cxt} {x1 : Int32} {kF : Int32 → Zs → Option (Unit × Zs)} {dk : Nat} {k7 : Int32 → Zs → Option (Unit × Zs)}  (hf : m_fin 0 0 (QV A v σ' ρ) X0 x) (hrm : m_rm (dk + 2) 0 0 x) (hkF : ∀ {h : Hp} {σ ρ σ' : Zs} {v : Unit} {x1 : Int32}, Rp A h σ ρ → kF x1 σ = some (v, σ') → ∀ l : Launch, Sp l mX4_factor dk 0 0 [.ref (A 4 0 0), .int x1] h (QV A v σ' ρ) X0) (hdk : 20 ≤ dk) (hk7 : ∀ (y2 : Int32) (σ : Zs) (h : Hp), Rp A h σ ρ → k7 y2 σ = some (v, σ') → wp x mX4_sum 7 [(0, .ref (A 4 0 0)), (1, .int x1), (2, .int y2)] [] h 0 0) : ∀ (y2 : Int32) (σ : Zs) (h : Hp), Rp A h σ ρ → fX4_sum_31 x1 kF k7 y2 σ = some (v, σ') → wp x mX4_sum 31 [(0, .ref (A 4 0 0)), (1, .int x1), (2, .int y2)] [] h 0 0 := by
  intro y2 σ h hz hr
  rw [fX4_sum_31.eq_1] at hr
  refine w_aload_n 0 dX4_sum_31 rfl rfl rfl ?_
  refine g_X4_29 dX4_sum_32 rfl (hz.o4 rfl) (hz.i260 rfl) ?_
  refine w_istore_n [(3, .int (zI σ 260 0 0 0)), (0, .ref (A 4 0 0)), (1, .int x1), (2, .int y2)] dX4_sum_35 rfl rfl (by decide) rfl ?_
  refine w_aload_n 1 dX4_sum_36 rfl rfl rfl ?_
  refine w_iload_n 0 dX4_sum_37 rfl rfl rfl ?_
  refine w_iload_n 2 dX4_sum_38 rfl rfl rfl ?_
  obtain ⟨v5, σ6, e7, hr⟩ := bq_some hr
  refine c_X4_119 (As := [.int (zI σ 260 0 0 0), .int x1]) (rest := []) (fun l => s_X4_takeInExpression  hz e7 l) hrm dX4_sum_39 rfl rfl (by omega) (Nat.le_of_ble_eq_true rfl) (Nat.le_of_ble_eq_true rfl) (hz.o4 rfl) rfl (Nat.le_of_ble_eq_true rfl) (fun vr h2 hq => ?_) (fun E9 h9 hq => hq.elim)
  obtain ⟨rfl, hz⟩ := hq
  show wp _ _ 42 [(3, .int (zI σ 260 0 0 0)), (0, .ref (A 4 0 0)), (1, .int x1), (2, .int y2)] [.int v5] _ _ _
  refine w_pop dX4_sum_42 rfl rfl ?_
  refine w_aload_n 1 dX4_sum_43 rfl rfl rfl ?_
  refine w_iload_n 2 dX4_sum_44 rfl rfl rfl ?_
  obtain ⟨v9, σ10, e11, hr⟩ := bq_some hr
  refine c_X4_133 (As := [.int x1]) (rest := []) (fun l => s_X4_product hkF hdk hz e11 l) hrm dX4_sum_45 rfl rfl (by omega) (Nat.le_of_ble_eq_true rfl) (Nat.le_of_ble_eq_true rfl) (hz.o4 rfl) rfl (Nat.le_of_ble_eq_true rfl) (fun vr h2 hq => ?_) (fun E9 h9 hq => hq.elim)
  obtain ⟨rfl, hz⟩ := hq
  show wp _ _ 48 [(3, .int (zI σ 260 0 0 0)), (0, .ref (A 4 0 0)), (1, .int x1), (2, .int y2)] [] _ _ _
  refine w_aload_n 1 dX4_sum_48 rfl rfl rfl ?_
  refine g_X4_15 dX4_sum_49 rfl (hz.o4 rfl) (hz.r257 rfl) ?_
  refine w_iload_n 0 dX4_sum_52 rfl rfl rfl ?_
  refine w_lconst 0 dX4_sum_53 rfl rfl ?_
  obtain ⟨v13, σ14, e15, hr⟩ := bq_some hr
  refine c_X4_123 (As := [.int (zI σ 260 0 0 0), .long 0]) (rest := []) (fun l => s_X3_emit  hz e15 l) hrm dX4_sum_54 rfl rfl (by omega) (Nat.le_of_ble_eq_true rfl) (Nat.le_of_ble_eq_true rfl) (hz.o3 rfl) rfl (Nat.le_of_ble_eq_true rfl) (fun vr h2 hq => ?_) (fun E9 h9 hq => hq.elim)
  obtain ⟨rfl, hz⟩ := hq
  show wp _ _ 57 [(3, .int (zI σ 260 0 0 0)), (0, .ref (A 4 0 0)), (1, .int x1), (2, .int y2)] [] _ _ _
  refine w_iinc 3 (y2 + 1) [(2, .int (y2 + 1)), (3, .int (zI σ 260 0 0 0)), (0, .ref (A 4 0 0)), (1, .int x1)] dX4_sum_57 rfl rfl rfl (by decide) rfl ?_
  refine w_goto 7 dX4_sum_60 rfl ?_
  refine w_lv [(0, .ref (A 4 0 0)), (1, .int x1), (2, .int (y2 + 1))] [2, 3, 0] rfl ?_
  exact hk7 (y2 + 1) _ _ hz  hr
set_option maxRecDepth 20000 in
set_option maxHeartbeats 4000000 in
theorem w_X4_sum_7 {A : Nat → Nat → Nat → Nat} {ρ σ' : Zs} {v : Unit} {x : Cxt} {x1 : Int32} {kF : Int32 → Zs → Option (Unit × Zs)} {dk : Nat}  (hf : m_fin 0 0 (QV A v σ' ρ) X0 x) (hrm : m_rm (dk + 2) 0 0 x) (hkF : ∀ {h : Hp} {σ ρ σ' : Zs} {v : Unit} {x1 : Int32}, Rp A h σ ρ → kF x1 σ = some (v, σ') → ∀ l : Launch, Sp l mX4_factor dk 0 0 [.ref (A 4 0 0), .int x1] h (QV A v σ' ρ) X0) (hdk : 20 ≤ dk) : ∀ (n : Nat) (y2 : Int32) (σ : Zs) (h : Hp), Rp A h σ ρ → fX4_sum_7 x1 kF  n y2 σ = some (v, σ') → wp x mX4_sum 7 [(0, .ref (A 4 0 0)), (1, .int x1), (2, .int y2)] [] h 0 0
  | 0, _, σ, h => fun hz hr => by
    rw [fX4_sum_7.eq_1] at hr
    exact nono hr
  | n + 1, y2, σ, h => fun hz hr => by
    rw [fX4_sum_7.eq_2] at hr
    refine w_iload_n 2 dX4_sum_7 rfl rfl rfl ?_
    refine w_bipush 60 dX4_sum_8 rfl rfl ?_
    refine w_icmp_ge 63 dX4_sum_10 rfl rfl (fun q10 => ?_) (fun q10 => ?_)
    · have hr := bt q10 hr
      refine w_vret hf dX4_sum_63 rfl (Nat.le_of_ble_eq_true rfl) (Nat.le_of_ble_eq_true rfl) ?_
      obtain ⟨rfl, rfl⟩ := ret_inj hr
      exact ⟨rfl, hz⟩
    · have hr := bf q10 hr
      refine w_aload_n 0 dX4_sum_13 rfl rfl rfl ?_
      refine g_X4_29 dX4_sum_14 rfl (hz.o4 rfl) (hz.i260 rfl) ?_
      refine w_bipush 43 dX4_sum_17 rfl rfl ?_
      refine w_icmp_eq 31 dX4_sum_19 rfl rfl (fun q19 => ?_) (fun q19 => ?_)
      · have hr := bt q19 hr
        refine w_lv [(0, .ref (A 4 0 0)), (1, .int x1), (2, .int y2)] [0, 1, 2] rfl ?_
        exact w_X4_sum_31 hf hrm hkF hdk (fun by2 zb hb hzb  hrb => w_X4_sum_7 hf hrm hkF hdk  n by2 zb hb hzb  hrb) y2 _ _ hz  hr
      · have hr := bf q19 hr
        refine w_aload_n 0 dX4_sum_22 rfl rfl rfl ?_
        refine g_X4_29 dX4_sum_23 rfl (hz.o4 rfl) (hz.i260 rfl) ?_
        refine w_bipush 45 dX4_sum_26 rfl rfl ?_
        refine w_icmp_ne 63 dX4_sum_28 rfl rfl (fun q28 => ?_) (fun q28 => ?_)
        · have hr := bf q28 hr
          refine w_vret hf dX4_sum_63 rfl (Nat.le_of_ble_eq_true rfl) (Nat.le_of_ble_eq_true rfl) ?_
          obtain ⟨rfl, rfl⟩ := ret_inj hr
          exact ⟨rfl, hz⟩
        · have hr := bt q28 hr
          refine w_lv [(0, .ref (A 4 0 0)), (1, .int x1), (2, .int y2)] [0, 1, 2] rfl ?_
          exact w_X4_sum_31 hf hrm hkF hdk (fun by2 zb hb hzb  hrb => w_X4_sum_7 hf hrm hkF hdk  n by2 zb hb hzb  hrb) y2 _ _ hz  hr
set_option maxRecDepth 20000 in
set_option maxHeartbeats 4000000 in
theorem s_X4_sum {A : Nat → Nat → Nat → Nat} {h : Hp} {σ ρ σ' : Zs} {v : Unit} {x1 : Int32} {kF : Int32 → Zs → Option (Unit × Zs)} {dk : Nat} (hkF : ∀ {h : Hp} {σ ρ σ' : Zs} {v : Unit} {x1 : Int32}, Rp A h σ ρ → kF x1 σ = some (v, σ') → ∀ l : Launch, Sp l mX4_factor dk 0 0 [.ref (A 4 0 0), .int x1] h (QV A v σ' ρ) X0) (hdk : 20 ≤ dk) (hz : Rp A h σ ρ) (hr : fX4_sum x1 kF σ = some (v, σ')) : ∀ l : Launch, Sp l mX4_sum (dk + 2) 0 0 [.ref (A 4 0 0), .int x1] h (QV A v σ' ρ) X0 := by
  intro l
  refine Sp.of rfl rfl (lv := [(0, .ref (A 4 0 0)), (1, .int x1)]) (Nat.le_of_ble_eq_true rfl) rfl (fun x hf hrm => ?_)
  rw [fX4_sum.eq_1] at hr
  refine w_aload_n 0 dX4_sum_0 rfl rfl rfl ?_
  refine w_iload_n 1 dX4_sum_1 rfl rfl rfl ?_
  obtain ⟨v1, σ2, e3, hr⟩ := bq_some hr
  refine c_X4_133 (As := [.int x1]) (rest := []) (fun l => s_X4_product hkF hdk hz e3 l) hrm dX4_sum_2 rfl rfl (by omega) (Nat.le_of_ble_eq_true rfl) (Nat.le_of_ble_eq_true rfl) (hz.o4 rfl) rfl (Nat.le_of_ble_eq_true rfl) (fun vr h2 hq => ?_) (fun E9 h9 hq => hq.elim)
  obtain ⟨rfl, hz⟩ := hq
  show wp _ _ 5 [(0, .ref (A 4 0 0)), (1, .int x1)] [] _ _ _
  refine w_iconst 0 dX4_sum_5 rfl rfl ?_
  refine w_istore_n [(2, .int 0), (0, .ref (A 4 0 0)), (1, .int x1)] dX4_sum_6 rfl rfl (by decide) rfl ?_
  refine w_lv [(0, .ref (A 4 0 0)), (1, .int x1), (2, .int 0)] [1, 2, 0] rfl ?_
  exact w_X4_sum_7 hf hrm hkF hdk  FU 0 _ _ hz  hr

set_option maxRecDepth 20000 in
set_option maxHeartbeats 4000000 in
theorem w_X4_relation_49 {A : Nat → Nat → Nat → Nat} {ρ σ' : Zs} {v : Unit} {x : Cxt} {x1 : Int32} {kF : Int32 → Zs → Option (Unit × Zs)} {dk : Nat}  (hf : m_fin 0 0 (QV A v σ' ρ) X0 x) (hrm : m_rm (dk + 3) 0 0 x) (hkF : ∀ {h : Hp} {σ ρ σ' : Zs} {v : Unit} {x1 : Int32}, Rp A h σ ρ → kF x1 σ = some (v, σ') → ∀ l : Launch, Sp l mX4_factor dk 0 0 [.ref (A 4 0 0), .int x1] h (QV A v σ' ρ) X0) (hdk : 20 ≤ dk) : ∀ (y2 : Int32) (σ : Zs) (h : Hp), Rp A h σ ρ → fX4_relation_49 x1 kF  y2 σ = some (v, σ') → wp x mX4_relation 49 [(0, .ref (A 4 0 0)), (1, .int x1), (2, .int y2)] [] h 0 0 := by
  intro y2 σ h hz hr
  rw [fX4_relation_49.eq_1] at hr
  refine w_aload_n 0 dX4_relation_49 rfl rfl rfl ?_
  refine w_iload_n 2 dX4_relation_50 rfl rfl rfl ?_
  refine w_iload_n 1 dX4_relation_51 rfl rfl rfl ?_
  obtain ⟨v5, σ6, e7, hr⟩ := bq_some hr
  refine c_X4_119 (As := [.int y2, .int x1]) (rest := []) (fun l => s_X4_takeInExpression  hz e7 l) hrm dX4_relation_52 rfl rfl (by omega) (Nat.le_of_ble_eq_true rfl) (Nat.le_of_ble_eq_true rfl) (hz.o4 rfl) rfl (Nat.le_of_ble_eq_true rfl) (fun vr h2 hq => ?_) (fun E9 h9 hq => hq.elim)
  obtain ⟨rfl, hz⟩ := hq
  show wp _ _ 55 [(0, .ref (A 4 0 0)), (1, .int x1), (2, .int y2)] [.int v5] _ _ _
  refine w_pop dX4_relation_55 rfl rfl ?_
  refine w_aload_n 0 dX4_relation_56 rfl rfl rfl ?_
  refine w_iload_n 1 dX4_relation_57 rfl rfl rfl ?_
  obtain ⟨v9, σ10, e11, hr⟩ := bq_some hr
  refine c_X4_130 (As := [.int x1]) (rest := []) (fun l => s_X4_sum hkF hdk hz e11 l) hrm dX4_relation_58 rfl rfl (by omega) (Nat.le_of_ble_eq_true rfl) (Nat.le_of_ble_eq_true rfl) (hz.o4 rfl) rfl (Nat.le_of_ble_eq_true rfl) (fun vr h2 hq => ?_) (fun E9 h9 hq => hq.elim)
  obtain ⟨rfl, hz⟩ := hq
  show wp _ _ 61 [(0, .ref (A 4 0 0)), (1, .int x1), (2, .int y2)] [] _ _ _
  refine w_aload_n 0 dX4_relation_61 rfl rfl rfl ?_
  refine g_X4_15 dX4_relation_62 rfl (hz.o4 rfl) (hz.r257 rfl) ?_
  refine w_iload_n 2 dX4_relation_65 rfl rfl rfl ?_
  refine w_lconst 0 dX4_relation_66 rfl rfl ?_
  obtain ⟨v13, σ14, e15, hr⟩ := bq_some hr
  refine c_X4_123 (As := [.int y2, .long 0]) (rest := []) (fun l => s_X3_emit  hz e15 l) hrm dX4_relation_67 rfl rfl (by omega) (Nat.le_of_ble_eq_true rfl) (Nat.le_of_ble_eq_true rfl) (hz.o3 rfl) rfl (Nat.le_of_ble_eq_true rfl) (fun vr h2 hq => ?_) (fun E9 h9 hq => hq.elim)
  obtain ⟨rfl, hz⟩ := hq
  show wp _ _ 70 [(0, .ref (A 4 0 0)), (1, .int x1), (2, .int y2)] [] _ _ _
  refine w_vret hf dX4_relation_70 rfl (Nat.le_of_ble_eq_true rfl) (Nat.le_of_ble_eq_true rfl) ?_
  obtain ⟨rfl, rfl⟩ := ret_inj hr
  exact ⟨rfl, hz⟩
set_option maxRecDepth 20000 in
set_option maxHeartbeats 4000000 in
theorem s_X4_relation {A : Nat → Nat → Nat → Nat} {h : Hp} {σ ρ σ' : Zs} {v : Unit} {x1 : Int32} {kF : Int32 → Zs → Option (Unit × Zs)} {dk : Nat} (hkF : ∀ {h : Hp} {σ ρ σ' : Zs} {v : Unit} {x1 : Int32}, Rp A h σ ρ → kF x1 σ = some (v, σ') → ∀ l : Launch, Sp l mX4_factor dk 0 0 [.ref (A 4 0 0), .int x1] h (QV A v σ' ρ) X0) (hdk : 20 ≤ dk) (hz : Rp A h σ ρ) (hr : fX4_relation x1 kF σ = some (v, σ')) : ∀ l : Launch, Sp l mX4_relation (dk + 3) 0 0 [.ref (A 4 0 0), .int x1] h (QV A v σ' ρ) X0 := by
  intro l
  refine Sp.of rfl rfl (lv := [(0, .ref (A 4 0 0)), (1, .int x1)]) (Nat.le_of_ble_eq_true rfl) rfl (fun x hf hrm => ?_)
  rw [fX4_relation.eq_1] at hr
  refine w_aload_n 0 dX4_relation_0 rfl rfl rfl ?_
  refine w_iload_n 1 dX4_relation_1 rfl rfl rfl ?_
  obtain ⟨v1, σ2, e3, hr⟩ := bq_some hr
  refine c_X4_130 (As := [.int x1]) (rest := []) (fun l => s_X4_sum hkF hdk hz e3 l) hrm dX4_relation_2 rfl rfl (by omega) (Nat.le_of_ble_eq_true rfl) (Nat.le_of_ble_eq_true rfl) (hz.o4 rfl) rfl (Nat.le_of_ble_eq_true rfl) (fun vr h2 hq => ?_) (fun E9 h9 hq => hq.elim)
  obtain ⟨rfl, hz⟩ := hq
  show wp _ _ 5 [(0, .ref (A 4 0 0)), (1, .int x1)] [] _ _ _
  refine w_aload_n 0 dX4_relation_5 rfl rfl rfl ?_
  refine g_X4_29 dX4_relation_6 rfl (hz.o4 rfl) (hz.i260 rfl) ?_
  refine w_istore_n [(2, .int (zI σ2 260 0 0 0)), (0, .ref (A 4 0 0)), (1, .int x1)] dX4_relation_9 rfl rfl (by decide) rfl ?_
  refine w_iload_n 0 dX4_relation_10 rfl rfl rfl ?_
  refine w_bipush 61 dX4_relation_11 rfl rfl ?_
  refine w_icmp_eq 49 dX4_relation_13 rfl rfl (fun q13 => ?_) (fun q13 => ?_)
  · have hr := bt q13 hr
    refine w_lv [(0, .ref (A 4 0 0)), (1, .int x1), (2, .int (zI σ2 260 0 0 0))] [1, 2, 0] rfl ?_
    exact w_X4_relation_49 hf hrm hkF hdk  (zI σ2 260 0 0 0) _ _ hz  hr
  · have hr := bf q13 hr
    refine w_iload_n 0 dX4_relation_16 rfl rfl rfl ?_
    refine w_bipush 60 dX4_relation_17 rfl rfl ?_
    refine w_icmp_eq 49 dX4_relation_19 rfl rfl (fun q19 => ?_) (fun q19 => ?_)
    · have hr := bt q19 hr
      refine w_lv [(0, .ref (A 4 0 0)), (1, .int x1), (2, .int (zI σ2 260 0 0 0))] [1, 2, 0] rfl ?_
      exact w_X4_relation_49 hf hrm hkF hdk  (zI σ2 260 0 0 0) _ _ hz  hr
    · have hr := bf q19 hr
      refine w_iload_n 0 dX4_relation_22 rfl rfl rfl ?_
      refine w_bipush 62 dX4_relation_23 rfl rfl ?_
      refine w_icmp_eq 49 dX4_relation_25 rfl rfl (fun q25 => ?_) (fun q25 => ?_)
      · have hr := bt q25 hr
        refine w_lv [(0, .ref (A 4 0 0)), (1, .int x1), (2, .int (zI σ2 260 0 0 0))] [1, 2, 0] rfl ?_
        exact w_X4_relation_49 hf hrm hkF hdk  (zI σ2 260 0 0 0) _ _ hz  hr
      · have hr := bf q25 hr
        refine w_iload_n 0 dX4_relation_28 rfl rfl rfl ?_
        refine w_sipush 15422 dX4_relation_29 rfl rfl ?_
        refine w_icmp_eq 49 dX4_relation_32 rfl rfl (fun q32 => ?_) (fun q32 => ?_)
        · have hr := bt q32 hr
          refine w_lv [(0, .ref (A 4 0 0)), (1, .int x1), (2, .int (zI σ2 260 0 0 0))] [1, 2, 0] rfl ?_
          exact w_X4_relation_49 hf hrm hkF hdk  (zI σ2 260 0 0 0) _ _ hz  hr
        · have hr := bf q32 hr
          refine w_iload_n 0 dX4_relation_35 rfl rfl rfl ?_
          refine w_sipush 15421 dX4_relation_36 rfl rfl ?_
          refine w_icmp_eq 49 dX4_relation_39 rfl rfl (fun q39 => ?_) (fun q39 => ?_)
          · have hr := bt q39 hr
            refine w_lv [(0, .ref (A 4 0 0)), (1, .int x1), (2, .int (zI σ2 260 0 0 0))] [1, 2, 0] rfl ?_
            exact w_X4_relation_49 hf hrm hkF hdk  (zI σ2 260 0 0 0) _ _ hz  hr
          · have hr := bf q39 hr
            refine w_iload_n 0 dX4_relation_42 rfl rfl rfl ?_
            refine w_sipush 15933 dX4_relation_43 rfl rfl ?_
            refine w_icmp_ne 70 dX4_relation_46 rfl rfl (fun q46 => ?_) (fun q46 => ?_)
            · have hr := bf q46 hr
              refine w_vret hf dX4_relation_70 rfl (Nat.le_of_ble_eq_true rfl) (Nat.le_of_ble_eq_true rfl) ?_
              obtain ⟨rfl, rfl⟩ := ret_inj hr
              exact ⟨rfl, hz⟩
            · have hr := bt q46 hr
              refine w_lv [(0, .ref (A 4 0 0)), (1, .int x1), (2, .int (zI σ2 260 0 0 0))] [1, 2, 0] rfl ?_
              exact w_X4_relation_49 hf hrm hkF hdk  (zI σ2 260 0 0 0) _ _ hz  hr

set_option maxRecDepth 20000 in
set_option maxHeartbeats 4000000 in
theorem w_X4_both_7 {A : Nat → Nat → Nat → Nat} {ρ σ' : Zs} {v : Unit} {x : Cxt} {x1 : Int32} {kF : Int32 → Zs → Option (Unit × Zs)} {dk : Nat}  (hf : m_fin 0 0 (QV A v σ' ρ) X0 x) (hrm : m_rm (dk + 4) 0 0 x) (hkF : ∀ {h : Hp} {σ ρ σ' : Zs} {v : Unit} {x1 : Int32}, Rp A h σ ρ → kF x1 σ = some (v, σ') → ∀ l : Launch, Sp l mX4_factor dk 0 0 [.ref (A 4 0 0), .int x1] h (QV A v σ' ρ) X0) (hdk : 20 ≤ dk) : ∀ (n : Nat) (y2 : Int32) (σ : Zs) (h : Hp), Rp A h σ ρ → fX4_both_7 x1 kF  n y2 σ = some (v, σ') → wp x mX4_both 7 [(0, .ref (A 4 0 0)), (1, .int x1), (2, .int y2)] [] h 0 0
  | 0, _, σ, h => fun hz hr => by
    rw [fX4_both_7.eq_1] at hr
    exact nono hr
  | n + 1, y2, σ, h => fun hz hr => by
    rw [fX4_both_7.eq_2] at hr
    refine w_iload_n 2 dX4_both_7 rfl rfl rfl ?_
    refine w_bipush 60 dX4_both_8 rfl rfl ?_
    refine w_icmp_ge 54 dX4_both_10 rfl rfl (fun q10 => ?_) (fun q10 => ?_)
    · have hr := bt q10 hr
      refine w_vret hf dX4_both_54 rfl (Nat.le_of_ble_eq_true rfl) (Nat.le_of_ble_eq_true rfl) ?_
      obtain ⟨rfl, rfl⟩ := ret_inj hr
      exact ⟨rfl, hz⟩
    · have hr := bf q10 hr
      refine w_aload_n 0 dX4_both_13 rfl rfl rfl ?_
      refine g_X4_29 dX4_both_14 rfl (hz.o4 rfl) (hz.i260 rfl) ?_
      refine w_sipush 156 dX4_both_17 rfl rfl ?_
      refine w_icmp_ne 54 dX4_both_20 rfl rfl (fun q20 => ?_) (fun q20 => ?_)
      · have hr := bf q20 hr
        refine w_vret hf dX4_both_54 rfl (Nat.le_of_ble_eq_true rfl) (Nat.le_of_ble_eq_true rfl) ?_
        obtain ⟨rfl, rfl⟩ := ret_inj hr
        exact ⟨rfl, hz⟩
      · have hr := bt q20 hr
        refine w_aload_n 0 dX4_both_23 rfl rfl rfl ?_
        refine w_sipush 156 dX4_both_24 rfl rfl ?_
        refine w_iload_n 1 dX4_both_27 rfl rfl rfl ?_
        obtain ⟨v5, σ6, e7, hr⟩ := bq_some hr
        refine c_X4_119 (As := [.int 156, .int x1]) (rest := []) (fun l => s_X4_takeInExpression  hz e7 l) hrm dX4_both_28 rfl rfl (by omega) (Nat.le_of_ble_eq_true rfl) (Nat.le_of_ble_eq_true rfl) (hz.o4 rfl) rfl (Nat.le_of_ble_eq_true rfl) (fun vr h2 hq => ?_) (fun E9 h9 hq => hq.elim)
        obtain ⟨rfl, hz⟩ := hq
        show wp _ _ 31 [(0, .ref (A 4 0 0)), (1, .int x1), (2, .int y2)] [.int v5] _ _ _
        refine w_pop dX4_both_31 rfl rfl ?_
        refine w_aload_n 0 dX4_both_32 rfl rfl rfl ?_
        refine w_iload_n 1 dX4_both_33 rfl rfl rfl ?_
        obtain ⟨v9, σ10, e11, hr⟩ := bq_some hr
        refine c_X4_127 (As := [.int x1]) (rest := []) (fun l => s_X4_relation hkF hdk hz e11 l) hrm dX4_both_34 rfl rfl (by omega) (Nat.le_of_ble_eq_true rfl) (Nat.le_of_ble_eq_true rfl) (hz.o4 rfl) rfl (Nat.le_of_ble_eq_true rfl) (fun vr h2 hq => ?_) (fun E9 h9 hq => hq.elim)
        obtain ⟨rfl, hz⟩ := hq
        show wp _ _ 37 [(0, .ref (A 4 0 0)), (1, .int x1), (2, .int y2)] [] _ _ _
        refine w_aload_n 0 dX4_both_37 rfl rfl rfl ?_
        refine g_X4_15 dX4_both_38 rfl (hz.o4 rfl) (hz.r257 rfl) ?_
        refine w_sipush 156 dX4_both_41 rfl rfl ?_
        refine w_lconst 0 dX4_both_44 rfl rfl ?_
        obtain ⟨v13, σ14, e15, hr⟩ := bq_some hr
        refine c_X4_123 (As := [.int 156, .long 0]) (rest := []) (fun l => s_X3_emit  hz e15 l) hrm dX4_both_45 rfl rfl (by omega) (Nat.le_of_ble_eq_true rfl) (Nat.le_of_ble_eq_true rfl) (hz.o3 rfl) rfl (Nat.le_of_ble_eq_true rfl) (fun vr h2 hq => ?_) (fun E9 h9 hq => hq.elim)
        obtain ⟨rfl, hz⟩ := hq
        show wp _ _ 48 [(0, .ref (A 4 0 0)), (1, .int x1), (2, .int y2)] [] _ _ _
        refine w_iinc 2 (y2 + 1) [(2, .int (y2 + 1)), (0, .ref (A 4 0 0)), (1, .int x1)] dX4_both_48 rfl rfl rfl (by decide) rfl ?_
        refine w_goto 7 dX4_both_51 rfl ?_
        refine w_lv [(0, .ref (A 4 0 0)), (1, .int x1), (2, .int (y2 + 1))] [1, 2, 0] rfl ?_
        exact w_X4_both_7 hf hrm hkF hdk  n (y2 + 1) _ _ hz  hr
set_option maxRecDepth 20000 in
set_option maxHeartbeats 4000000 in
theorem s_X4_both {A : Nat → Nat → Nat → Nat} {h : Hp} {σ ρ σ' : Zs} {v : Unit} {x1 : Int32} {kF : Int32 → Zs → Option (Unit × Zs)} {dk : Nat} (hkF : ∀ {h : Hp} {σ ρ σ' : Zs} {v : Unit} {x1 : Int32}, Rp A h σ ρ → kF x1 σ = some (v, σ') → ∀ l : Launch, Sp l mX4_factor dk 0 0 [.ref (A 4 0 0), .int x1] h (QV A v σ' ρ) X0) (hdk : 20 ≤ dk) (hz : Rp A h σ ρ) (hr : fX4_both x1 kF σ = some (v, σ')) : ∀ l : Launch, Sp l mX4_both (dk + 4) 0 0 [.ref (A 4 0 0), .int x1] h (QV A v σ' ρ) X0 := by
  intro l
  refine Sp.of rfl rfl (lv := [(0, .ref (A 4 0 0)), (1, .int x1)]) (Nat.le_of_ble_eq_true rfl) rfl (fun x hf hrm => ?_)
  rw [fX4_both.eq_1] at hr
  refine w_aload_n 0 dX4_both_0 rfl rfl rfl ?_
  refine w_iload_n 1 dX4_both_1 rfl rfl rfl ?_
  obtain ⟨v1, σ2, e3, hr⟩ := bq_some hr
  refine c_X4_127 (As := [.int x1]) (rest := []) (fun l => s_X4_relation hkF hdk hz e3 l) hrm dX4_both_2 rfl rfl (by omega) (Nat.le_of_ble_eq_true rfl) (Nat.le_of_ble_eq_true rfl) (hz.o4 rfl) rfl (Nat.le_of_ble_eq_true rfl) (fun vr h2 hq => ?_) (fun E9 h9 hq => hq.elim)
  obtain ⟨rfl, hz⟩ := hq
  show wp _ _ 5 [(0, .ref (A 4 0 0)), (1, .int x1)] [] _ _ _
  refine w_iconst 0 dX4_both_5 rfl rfl ?_
  refine w_istore_n [(2, .int 0), (0, .ref (A 4 0 0)), (1, .int x1)] dX4_both_6 rfl rfl (by decide) rfl ?_
  refine w_lv [(0, .ref (A 4 0 0)), (1, .int x1), (2, .int 0)] [1, 2, 0] rfl ?_
  exact w_X4_both_7 hf hrm hkF hdk  FU 0 _ _ hz  hr

set_option maxRecDepth 20000 in
set_option maxHeartbeats 4000000 in
theorem w_X4_expression_7 {A : Nat → Nat → Nat → Nat} {ρ σ' : Zs} {v : Unit} {x : Cxt} {x1 : Int32} {kF : Int32 → Zs → Option (Unit × Zs)} {dk : Nat}  (hf : m_fin 0 0 (QV A v σ' ρ) X0 x) (hrm : m_rm (dk + 5) 0 0 x) (hkF : ∀ {h : Hp} {σ ρ σ' : Zs} {v : Unit} {x1 : Int32}, Rp A h σ ρ → kF x1 σ = some (v, σ') → ∀ l : Launch, Sp l mX4_factor dk 0 0 [.ref (A 4 0 0), .int x1] h (QV A v σ' ρ) X0) (hdk : 20 ≤ dk) : ∀ (n : Nat) (y2 : Int32) (σ : Zs) (h : Hp), Rp A h σ ρ → fX4_expression_7 x1 kF  n y2 σ = some (v, σ') → wp x mX4_expression 7 [(0, .ref (A 4 0 0)), (1, .int x1), (2, .int y2)] [] h 0 0
  | 0, _, σ, h => fun hz hr => by
    rw [fX4_expression_7.eq_1] at hr
    exact nono hr
  | n + 1, y2, σ, h => fun hz hr => by
    rw [fX4_expression_7.eq_2] at hr
    refine w_iload_n 2 dX4_expression_7 rfl rfl rfl ?_
    refine w_bipush 60 dX4_expression_8 rfl rfl ?_
    refine w_icmp_ge 54 dX4_expression_10 rfl rfl (fun q10 => ?_) (fun q10 => ?_)
    · have hr := bt q10 hr
      refine w_vret hf dX4_expression_54 rfl (Nat.le_of_ble_eq_true rfl) (Nat.le_of_ble_eq_true rfl) ?_
      obtain ⟨rfl, rfl⟩ := ret_inj hr
      exact ⟨rfl, hz⟩
    · have hr := bf q10 hr
      refine w_aload_n 0 dX4_expression_13 rfl rfl rfl ?_
      refine g_X4_29 dX4_expression_14 rfl (hz.o4 rfl) (hz.i260 rfl) ?_
      refine w_sipush 157 dX4_expression_17 rfl rfl ?_
      refine w_icmp_ne 54 dX4_expression_20 rfl rfl (fun q20 => ?_) (fun q20 => ?_)
      · have hr := bf q20 hr
        refine w_vret hf dX4_expression_54 rfl (Nat.le_of_ble_eq_true rfl) (Nat.le_of_ble_eq_true rfl) ?_
        obtain ⟨rfl, rfl⟩ := ret_inj hr
        exact ⟨rfl, hz⟩
      · have hr := bt q20 hr
        refine w_aload_n 0 dX4_expression_23 rfl rfl rfl ?_
        refine w_sipush 157 dX4_expression_24 rfl rfl ?_
        refine w_iload_n 1 dX4_expression_27 rfl rfl rfl ?_
        obtain ⟨v5, σ6, e7, hr⟩ := bq_some hr
        refine c_X4_119 (As := [.int 157, .int x1]) (rest := []) (fun l => s_X4_takeInExpression  hz e7 l) hrm dX4_expression_28 rfl rfl (by omega) (Nat.le_of_ble_eq_true rfl) (Nat.le_of_ble_eq_true rfl) (hz.o4 rfl) rfl (Nat.le_of_ble_eq_true rfl) (fun vr h2 hq => ?_) (fun E9 h9 hq => hq.elim)
        obtain ⟨rfl, hz⟩ := hq
        show wp _ _ 31 [(0, .ref (A 4 0 0)), (1, .int x1), (2, .int y2)] [.int v5] _ _ _
        refine w_pop dX4_expression_31 rfl rfl ?_
        refine w_aload_n 0 dX4_expression_32 rfl rfl rfl ?_
        refine w_iload_n 1 dX4_expression_33 rfl rfl rfl ?_
        obtain ⟨v9, σ10, e11, hr⟩ := bq_some hr
        refine c_X4_116 (As := [.int x1]) (rest := []) (fun l => s_X4_both hkF hdk hz e11 l) hrm dX4_expression_34 rfl rfl (by omega) (Nat.le_of_ble_eq_true rfl) (Nat.le_of_ble_eq_true rfl) (hz.o4 rfl) rfl (Nat.le_of_ble_eq_true rfl) (fun vr h2 hq => ?_) (fun E9 h9 hq => hq.elim)
        obtain ⟨rfl, hz⟩ := hq
        show wp _ _ 37 [(0, .ref (A 4 0 0)), (1, .int x1), (2, .int y2)] [] _ _ _
        refine w_aload_n 0 dX4_expression_37 rfl rfl rfl ?_
        refine g_X4_15 dX4_expression_38 rfl (hz.o4 rfl) (hz.r257 rfl) ?_
        refine w_sipush 157 dX4_expression_41 rfl rfl ?_
        refine w_lconst 0 dX4_expression_44 rfl rfl ?_
        obtain ⟨v13, σ14, e15, hr⟩ := bq_some hr
        refine c_X4_123 (As := [.int 157, .long 0]) (rest := []) (fun l => s_X3_emit  hz e15 l) hrm dX4_expression_45 rfl rfl (by omega) (Nat.le_of_ble_eq_true rfl) (Nat.le_of_ble_eq_true rfl) (hz.o3 rfl) rfl (Nat.le_of_ble_eq_true rfl) (fun vr h2 hq => ?_) (fun E9 h9 hq => hq.elim)
        obtain ⟨rfl, hz⟩ := hq
        show wp _ _ 48 [(0, .ref (A 4 0 0)), (1, .int x1), (2, .int y2)] [] _ _ _
        refine w_iinc 2 (y2 + 1) [(2, .int (y2 + 1)), (0, .ref (A 4 0 0)), (1, .int x1)] dX4_expression_48 rfl rfl rfl (by decide) rfl ?_
        refine w_goto 7 dX4_expression_51 rfl ?_
        refine w_lv [(0, .ref (A 4 0 0)), (1, .int x1), (2, .int (y2 + 1))] [1, 2, 0] rfl ?_
        exact w_X4_expression_7 hf hrm hkF hdk  n (y2 + 1) _ _ hz  hr
set_option maxRecDepth 20000 in
set_option maxHeartbeats 4000000 in
theorem s_X4_expression {A : Nat → Nat → Nat → Nat} {h : Hp} {σ ρ σ' : Zs} {v : Unit} {x1 : Int32} {kF : Int32 → Zs → Option (Unit × Zs)} {dk : Nat} (hkF : ∀ {h : Hp} {σ ρ σ' : Zs} {v : Unit} {x1 : Int32}, Rp A h σ ρ → kF x1 σ = some (v, σ') → ∀ l : Launch, Sp l mX4_factor dk 0 0 [.ref (A 4 0 0), .int x1] h (QV A v σ' ρ) X0) (hdk : 20 ≤ dk) (hz : Rp A h σ ρ) (hr : fX4_expression x1 kF σ = some (v, σ')) : ∀ l : Launch, Sp l mX4_expression (dk + 5) 0 0 [.ref (A 4 0 0), .int x1] h (QV A v σ' ρ) X0 := by
  intro l
  refine Sp.of rfl rfl (lv := [(0, .ref (A 4 0 0)), (1, .int x1)]) (Nat.le_of_ble_eq_true rfl) rfl (fun x hf hrm => ?_)
  rw [fX4_expression.eq_1] at hr
  refine w_aload_n 0 dX4_expression_0 rfl rfl rfl ?_
  refine w_iload_n 1 dX4_expression_1 rfl rfl rfl ?_
  obtain ⟨v1, σ2, e3, hr⟩ := bq_some hr
  refine c_X4_116 (As := [.int x1]) (rest := []) (fun l => s_X4_both hkF hdk hz e3 l) hrm dX4_expression_2 rfl rfl (by omega) (Nat.le_of_ble_eq_true rfl) (Nat.le_of_ble_eq_true rfl) (hz.o4 rfl) rfl (Nat.le_of_ble_eq_true rfl) (fun vr h2 hq => ?_) (fun E9 h9 hq => hq.elim)
  obtain ⟨rfl, hz⟩ := hq
  show wp _ _ 5 [(0, .ref (A 4 0 0)), (1, .int x1)] [] _ _ _
  refine w_iconst 0 dX4_expression_5 rfl rfl ?_
  refine w_istore_n [(2, .int 0), (0, .ref (A 4 0 0)), (1, .int x1)] dX4_expression_6 rfl rfl (by decide) rfl ?_
  refine w_lv [(0, .ref (A 4 0 0)), (1, .int x1), (2, .int 0)] [1, 2, 0] rfl ?_
  exact w_X4_expression_7 hf hrm hkF hdk  FU 0 _ _ hz  hr

