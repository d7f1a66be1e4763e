/-! LIFTED: 30.parseb -/
/-- the factor at most n deep -/
noncomputable def pfac : Nat → Int32 → Zs → Option (Unit × Zs)
  | 0, _, _ => none
  | n + 1, d, z => fX4_factor d (fun d z => fX4_expression d (pfac n) z) (pfac n) z
theorem s_pfac {A : Nat → Nat → Nat → Nat} : ∀ (n : Nat) {h : Hp} {σ ρ σ' : Zs} {v : Unit} {x1 : Int32}, Rp A h σ ρ → pfac n x1 σ = some (v, σ') → ∀ l : Launch, Sp l mX4_factor (20 + 7 * n) 0 0 [.ref (A 4 0 0), .int x1] h (QV A v σ' ρ) X0
  | 0 => fun hz hr => by
    rw [pfac.eq_1] at hr
    exact nono hr
  | n + 1 => fun hz hr => by
    rw [pfac.eq_2] at hr
    have ih := fun {h : Hp} {σ ρ σ' : Zs} {v : Unit} {x1 : Int32} (hz : Rp A h σ ρ) (hr : pfac n x1 σ = some (v, σ')) => s_pfac n hz hr
    exact s_X4_factor (dk := 20 + 7 * n + 5) (dj := 20 + 7 * n) (fun hz hr => s_X4_expression (dk := 20 + 7 * n) (fun hz hr => ih hz hr) (by omega) hz hr) (fun hz hr => ih hz hr) (by omega) (by omega) hz hr
noncomputable def fX4_expression' (d : Int32) (z : Zs) : Option (Unit × Zs) := fX4_expression d (pfac 10) z
theorem s_X4_expression' {A : Nat → Nat → Nat → Nat} {h : Hp} {σ ρ σ' : Zs} {v : Unit} {x1 : Int32} (hz : Rp A h σ ρ) (hr : fX4_expression' x1 σ = some (v, σ')) : ∀ l : Launch, Sp l mX4_expression 95 0 0 [.ref (A 4 0 0), .int x1] h (QV A v σ' ρ) X0 := s_X4_expression (dk := 90) (fun hz hr => s_pfac 10 hz hr) (by decide) hz hr
noncomputable def fX4_wholeExpression  (σ : Zs) : Option (Unit × Zs) :=
  lt (sI σ 263 0 0 0 0) fun σ1 => bq (fX3_startExpression  σ1) fun v3 σ4 => bq (fX4_expression' 0 σ4) fun v7 σ8 => bq (fX3_endExpression  σ8) fun v11 σ12 => some ((), σ12)

noncomputable def fX4_newColumns_29  (k9 : Int32 → Zs → Option (Unit × Zs)) (y1 : Int32) (σ : Zs) : Option (Unit × Zs) :=
  bq (fX4_takeComma y1 σ) fun v5 σ6 => bq (fX4_takeName 1 σ6) fun v9 σ10 => bq (fX4_take 61 σ10) fun v13 σ14 => bq (fX4_wholeExpression  σ14) fun v17 σ18 => k9 (y1 + 1) σ18
noncomputable def fX4_newColumns_9   : Nat → Int32 → Zs → Option (Unit × Zs)
  | 0, _, _ => none
  | n + 1, y1, σ =>
    if 1500 ≤ y1 then (some ((), σ)) else (if y1 = 0 then (fX4_newColumns_29  (fun by1 σb => fX4_newColumns_9   n by1 σb) y1 σ) else (if (zI σ 260 0 0 0) = 44 then (fX4_newColumns_29  (fun by1 σb => fX4_newColumns_9   n by1 σb) y1 σ) else (some ((), σ))))
noncomputable def fX4_newColumns  (σ : Zs) : Option (Unit × Zs) :=
  bq (fX4_take 134 σ) fun v1 σ2 => fX4_newColumns_9   FU 0 σ2

noncomputable def fX4_window_64  (k44 : Int32 → Zs → Option (Unit × Zs)) (y1 : Int32) (σ : Zs) : Option (Unit × Zs) :=
  bq (fX4_takeComma y1 σ) fun v21 σ22 => bq (fX4_takeName 1 σ22) fun v25 σ26 => bq (fX4_take 61 σ26) fun v29 σ30 => bq (fX4_takeTotal  σ30) fun v33 σ34 => if v33 = 151 then (k44 (y1 + 1) σ34) else (bq (fX4_wholeExpression  σ34) fun v37 σ38 => k44 (y1 + 1) σ38)
noncomputable def fX4_window_44   : Nat → Int32 → Zs → Option (Unit × Zs)
  | 0, _, _ => none
  | n + 1, y1, σ =>
    if 1500 ≤ y1 then (bq (fX4_take 41 σ) fun v17 σ18 => some ((), σ18)) else (if y1 = 0 then (fX4_window_64  (fun by1 σb => fX4_window_44   n by1 σb) y1 σ) else (if (zI σ 260 0 0 0) = 44 then (fX4_window_64  (fun by1 σb => fX4_window_44   n by1 σb) y1 σ) else (bq (fX4_take 41 σ) fun v41 σ42 => some ((), σ42))))
noncomputable def fX4_window  (σ : Zs) : Option (Unit × Zs) :=
  bq (fX4_take 141 σ) fun v1 σ2 => bq (fX4_takeName 4 σ2) fun v5 σ6 => bq (fX4_takeRange 143 σ6) fun v9 σ10 => if (zI σ10 260 0 0 0) = 144 then (bq (fX4_takeRange 144 σ10) fun v45 σ46 => bq (fX4_take 40 σ46) fun v49 σ50 => fX4_window_44   FU 0 σ50) else (bq (fX4_take 40 σ10) fun v13 σ14 => fX4_window_44   FU 0 σ14)

noncomputable def fX4_source  (σ : Zs) : Option (Unit × Zs) :=
  bq (fX3_startStream (zI σ 261 0 0 0) σ) fun v1 σ2 => bq (fX3_startWork 0 (zI σ2 261 0 0 0) σ2) fun v5 σ6 => bq (fX4_take 128 σ6) fun v9 σ10 => bq (fX4_takeName 0 σ10) fun v13 σ14 => bq (fX4_takeNames 1 σ14) fun v17 σ18 => if (zI σ18 260 0 0 0) = 129 then (bq (fX4_takeRange 129 σ18) fun v25 σ26 => bq (fX3_endStream  σ26) fun v29 σ30 => some ((), σ30)) else (bq (fX3_endStream  σ18) fun v21 σ22 => some ((), σ22))

noncomputable def fX4_check  (σ : Zs) : Option (Unit × Zs) :=
  bq (fX3_startCheck (zI σ 261 0 0 0) σ) fun v1 σ2 => bq (fX4_take 145 σ2) fun v5 σ6 => bq (fX4_takeName 2 σ6) fun v9 σ10 => bq (fX4_take 58 σ10) fun v13 σ14 => bq (fX4_wholeExpression  σ14) fun v17 σ18 => bq (fX4_take 146 σ18) fun v21 σ22 => if (zI σ22 260 0 0 0) = 147 then (bq (fX4_take (zI σ22 260 0 0 0) σ22) fun v25 σ26 => bq (fX3_endCheck (zI σ22 260 0 0 0) σ26) fun v29 σ30 => some ((), σ30)) else (if (zI σ22 260 0 0 0) = 148 then (bq (fX4_take (zI σ22 260 0 0 0) σ22) fun v33 σ34 => bq (fX3_endCheck (zI σ22 260 0 0 0) σ34) fun v37 σ38 => some ((), σ38)) else (if (zI σ22 260 0 0 0) = 149 then (bq (fX4_take (zI σ22 260 0 0 0) σ22) fun v45 σ46 => bq (fX3_endCheck (zI σ22 260 0 0 0) σ46) fun v49 σ50 => some ((), σ50)) else (bq (fX4_fail  σ22) fun v41 σ42 => some ((), σ42))))

noncomputable def fX4_step_45   (y1 : Int32) (σ : Zs) : Option (Unit × Zs) :=
  bq (fX4_kindOfWork y1 σ) fun v21 σ22 => bq (fX3_startWork v21 (zI σ22 261 0 0 0) σ22) fun v25 σ26 => bq (fX4_take y1 σ26) fun v29 σ30 => bq (fX4_takeName 2 σ30) fun v33 σ34 => if (y1 : Int32) = 131 then (bq (fX4_take 132 σ34) fun v37 σ38 => bq (fX4_wholeExpression  σ38) fun v41 σ42 => bq (fX3_endStream  σ42) fun v45 σ46 => some ((), σ46)) else if (y1 : Int32) = 132 then (bq (fX3_endStream  σ34) fun v49 σ50 => some ((), σ50)) else if (y1 : Int32) = 133 then (bq (fX4_newColumns  σ34) fun v53 σ54 => bq (fX3_endStream  σ54) fun v57 σ58 => some ((), σ58)) else if (y1 : Int32) = 134 then (bq (fX3_endStream  σ34) fun v61 σ62 => some ((), σ62)) else if (y1 : Int32) = 135 then (bq (fX4_takeNames 5 σ34) fun v65 σ66 => bq (fX3_endStream  σ66) fun v69 σ70 => some ((), σ70)) else if (y1 : Int32) = 136 then (bq (fX4_secondInput  σ34) fun v73 σ74 => bq (fX3_endStream  σ74) fun v77 σ78 => some ((), σ78)) else if (y1 : Int32) = 137 then (bq (fX4_secondInput  σ34) fun v81 σ82 => bq (fX4_take 138 σ82) fun v85 σ86 => bq (fX4_takeName 4 σ86) fun v89 σ90 => bq (fX4_takeRange 139 σ90) fun v93 σ94 => bq (fX3_endStream  σ94) fun v97 σ98 => some ((), σ98)) else if (y1 : Int32) = 138 then (bq (fX3_endStream  σ34) fun v101 σ102 => some ((), σ102)) else if (y1 : Int32) = 139 then (bq (fX3_endStream  σ34) fun v105 σ106 => some ((), σ106)) else if (y1 : Int32) = 140 then (bq (fX4_take 141 σ34) fun v109 σ110 => bq (fX4_takeName 4 σ110) fun v113 σ114 => bq (fX4_takeRange 139 σ114) fun v117 σ118 => bq (fX3_endStream  σ118) fun v121 σ122 => some ((), σ122)) else if (y1 : Int32) = 141 then (bq (fX3_endStream  σ34) fun v125 σ126 => some ((), σ126)) else if (y1 : Int32) = 142 then (bq (fX4_window  σ34) fun v129 σ130 => bq (fX3_endStream  σ130) fun v133 σ134 => some ((), σ134)) else (bq (fX3_endStream  σ34) fun v137 σ138 => some ((), σ138))
noncomputable def fX4_step  (σ : Zs) : Option (Unit × Zs) :=
  bq (fX3_startStream (zI σ 261 0 0 0) σ) fun v1 σ2 => bq (fX4_take 130 σ2) fun v5 σ6 => bq (fX4_takeName 0 σ6) fun v9 σ10 => bq (fX4_take 61 σ10) fun v13 σ14 => bq (fX4_kindOfWork (zI σ14 260 0 0 0) σ14) fun v17 σ18 => if v17 = 0 then (bq (fX4_fail  σ18) fun v141 σ142 => fX4_step_45   (zI σ14 260 0 0 0) σ142) else (fX4_step_45   (zI σ14 260 0 0 0) σ18)

noncomputable def fX4_parse_41  (k16 : Int32 → Zs → Option (Int32 × Zs)) (y1 : Int32) (σ : Zs) : Option (Int32 × Zs) :=
  if ((zI σ 260 0 0 0) : Int32) = 128 then (bq (fX4_source  σ) fun v9 σ10 => k16 (y1 + 1) σ10) else if ((zI σ 260 0 0 0) : Int32) = 130 then (bq (fX4_step  σ) fun v13 σ14 => k16 (y1 + 1) σ14) else if ((zI σ 260 0 0 0) : Int32) = 145 then (bq (fX4_check  σ) fun v17 σ18 => k16 (y1 + 1) σ18) else (bq (fX4_fail  σ) fun v21 σ22 => k16 (y1 + 1) σ22)
noncomputable def fX4_parse_16   : Nat → Int32 → Zs → Option (Int32 × Zs)
  | 0, _, _ => none
  | n + 1, y1, σ =>
    if 1500 ≤ y1 then (some ((zI σ 258 0 0 0), σ)) else (if 0 ≤ (zI σ 258 0 0 0) then (some ((zI σ 258 0 0 0), σ)) else (if y1 = 0 then (fX4_parse_41  (fun by1 σb => fX4_parse_16   n by1 σb) y1 σ) else (if (zI σ 260 0 0 0) = 0 then (some ((zI σ 258 0 0 0), σ)) else (fX4_parse_41  (fun by1 σb => fX4_parse_16   n by1 σb) y1 σ))))
noncomputable def fX4_parse  (σ : Zs) : Option (Int32 × Zs) :=
  lt (sI σ 258 0 0 0 (-1)) fun σ1 => lt (sI σ1 259 0 0 0 (-1)) fun σ3 => bq (fX4_advance  σ3) fun v5 σ6 => fX4_parse_16   FU 0 σ6

set_option maxRecDepth 20000 in
set_option maxHeartbeats 4000000 in
theorem s_X4_wholeExpression {A : Nat → Nat → Nat → Nat} {h : Hp} {σ ρ σ' : Zs} {v : Unit}   (hz : Rp A h σ ρ) (hr : fX4_wholeExpression  σ = some (v, σ')) : ∀ l : Launch, Sp l mX4_wholeExpression 96 0 0 [.ref (A 4 0 0)] h (QV A v σ' ρ) X0 := by
  intro l
  refine Sp.of rfl rfl (lv := [(0, .ref (A 4 0 0))]) (Nat.le_of_ble_eq_true rfl) rfl (fun x hf hrm => ?_)
  rw [fX4_wholeExpression.eq_1] at hr
  refine w_aload_n 0 dX4_wholeExpression_0 rfl rfl rfl ?_
  refine w_iconst 0 dX4_wholeExpression_1 rfl rfl ?_
  refine p_X4_104 dX4_wholeExpression_2 rfl (hz.o4 rfl) ?_
  obtain ⟨σ1, e2, hr⟩ := lt_e hr
  have hz := (hz.s263 (v := 0) rfl).ts e2
  refine w_aload_n 0 dX4_wholeExpression_5 rfl rfl rfl ?_
  refine g_X4_15 dX4_wholeExpression_6 rfl (hz.o4 rfl) (hz.r257 rfl) ?_
  obtain ⟨v3, σ4, e5, hr⟩ := bq_some hr
  refine c_X4_107 (As := []) (rest := []) (fun l => s_X3_startExpression  hz e5 l) hrm dX4_wholeExpression_9 rfl rfl (Nat.le_of_ble_eq_true rfl) (Nat.le_of_ble_eq_true rfl) (Nat.le_of_ble_eq_true rfl) (hz.o3 rfl) rfl (Nat.le_of_ble_eq_true rfl) (fun vr h2 hq => ?_) (fun E9 h9 hq => hq.elim)
  obtain ⟨rfl, hz⟩ := hq
  show wp _ _ 12 [(0, .ref (A 4 0 0))] [] _ _ _
  refine w_aload_n 0 dX4_wholeExpression_12 rfl rfl rfl ?_
  refine w_iconst 0 dX4_wholeExpression_13 rfl rfl ?_
  obtain ⟨v7, σ8, e9, hr⟩ := bq_some hr
  refine c_X4_110 (As := [.int 0]) (rest := []) (fun l => s_X4_expression'  hz e9 l) hrm dX4_wholeExpression_14 rfl rfl (Nat.le_of_ble_eq_true rfl) (Nat.le_of_ble_eq_true rfl) (Nat.le_of_ble_eq_true rfl) (hz.o4 rfl) rfl (Nat.le_of_ble_eq_true rfl) (fun vr h2 hq => ?_) (fun E9 h9 hq => hq.elim)
  obtain ⟨rfl, hz⟩ := hq
  show wp _ _ 17 [(0, .ref (A 4 0 0))] [] _ _ _
  refine w_aload_n 0 dX4_wholeExpression_17 rfl rfl rfl ?_
  refine g_X4_15 dX4_wholeExpression_18 rfl (hz.o4 rfl) (hz.r257 rfl) ?_
  obtain ⟨v11, σ12, e13, hr⟩ := bq_some hr
  refine c_X4_113 (As := []) (rest := []) (fun l => s_X3_endExpression  hz e13 l) hrm dX4_wholeExpression_21 rfl rfl (Nat.le_of_ble_eq_true rfl) (Nat.le_of_ble_eq_true rfl) (Nat.le_of_ble_eq_true rfl) (hz.o3 rfl) rfl (Nat.le_of_ble_eq_true rfl) (fun vr h2 hq => ?_) (fun E9 h9 hq => hq.elim)
  obtain ⟨rfl, hz⟩ := hq
  show wp _ _ 24 [(0, .ref (A 4 0 0))] [] _ _ _
  refine w_vret hf dX4_wholeExpression_24 rfl (Nat.le_of_ble_eq_true rfl) (Nat.le_of_ble_eq_true rfl) ?_
  obtain ⟨rfl, rfl⟩ := ret_inj hr
  exact ⟨rfl, hz⟩

set_option maxRecDepth 20000 in
set_option maxHeartbeats 4000000 in
theorem w_X4_newColumns_29 {A : Nat → Nat → Nat → Nat} {ρ σ' : Zs} {v : Unit} {x : Cxt}  {k9 : Int32 → Zs → Option (Unit × Zs)}  (hf : m_fin 0 0 (QV A v σ' ρ) X0 x) (hrm : m_rm 97 0 0 x)  (hk9 : ∀ (y1 : Int32) (σ : Zs) (h : Hp), Rp A h σ ρ → k9 y1 σ = some (v, σ') → wp x mX4_newColumns 9 [(0, .ref (A 4 0 0)), (1, .int y1)] [] h 0 0) : ∀ (y1 : Int32) (σ : Zs) (h : Hp), Rp A h σ ρ → fX4_newColumns_29  k9 y1 σ = some (v, σ') → wp x mX4_newColumns 29 [(0, .ref (A 4 0 0)), (1, .int y1)] [] h 0 0 := by
  intro y1 σ h hz hr
  rw [fX4_newColumns_29.eq_1] at hr
  refine w_aload_n 0 dX4_newColumns_29 rfl rfl rfl ?_
  refine w_iload_n 1 dX4_newColumns_30 rfl rfl rfl ?_
  obtain ⟨v5, σ6, e7, hr⟩ := bq_some hr
  refine c_X4_94 (As := [.int y1]) (rest := []) (fun l => s_X4_takeComma  hz e7 l) hrm dX4_newColumns_31 rfl rfl (Nat.le_of_ble_eq_true rfl) (Nat.le_of_ble_eq_true rfl) (Nat.le_of_ble_eq_true rfl) (hz.o4 rfl) rfl (Nat.le_of_ble_eq_true rfl) (fun vr h2 hq => ?_) (fun E9 h9 hq => hq.elim)
  obtain ⟨rfl, hz⟩ := hq
  show wp _ _ 34 [(0, .ref (A 4 0 0)), (1, .int y1)] [] _ _ _
  refine w_aload_n 0 dX4_newColumns_34 rfl rfl rfl ?_
  refine w_iconst 1 dX4_newColumns_35 rfl rfl ?_
  obtain ⟨v9, σ10, e11, hr⟩ := bq_some hr
  refine c_X4_60 (As := [.int 1]) (rest := []) (fun l => s_X4_takeName  hz e11 l) hrm dX4_newColumns_36 rfl rfl (Nat.le_of_ble_eq_true rfl) (Nat.le_of_ble_eq_true rfl) (Nat.le_of_ble_eq_true rfl) (hz.o4 rfl) rfl (Nat.le_of_ble_eq_true rfl) (fun vr h2 hq => ?_) (fun E9 h9 hq => hq.elim)
  obtain ⟨rfl, hz⟩ := hq
  show wp _ _ 39 [(0, .ref (A 4 0 0)), (1, .int y1)] [] _ _ _
  refine w_aload_n 0 dX4_newColumns_39 rfl rfl rfl ?_
  refine w_bipush 61 dX4_newColumns_40 rfl rfl ?_
  obtain ⟨v13, σ14, e15, hr⟩ := bq_some hr
  refine c_X4_57 (As := [.int 61]) (rest := []) (fun l => s_X4_take  hz e15 l) hrm dX4_newColumns_42 rfl rfl (Nat.le_of_ble_eq_true rfl) (Nat.le_of_ble_eq_true rfl) (Nat.le_of_ble_eq_true rfl) (hz.o4 rfl) rfl (Nat.le_of_ble_eq_true rfl) (fun vr h2 hq => ?_) (fun E9 h9 hq => hq.elim)
  obtain ⟨rfl, hz⟩ := hq
  show wp _ _ 45 [(0, .ref (A 4 0 0)), (1, .int y1)] [] _ _ _
  refine w_aload_n 0 dX4_newColumns_45 rfl rfl rfl ?_
  obtain ⟨v17, σ18, e19, hr⟩ := bq_some hr
  refine c_X4_75 (As := []) (rest := []) (fun l => s_X4_wholeExpression  hz e19 l) hrm dX4_newColumns_46 rfl rfl (Nat.le_of_ble_eq_true rfl) (Nat.le_of_ble_eq_true rfl) (Nat.le_of_ble_eq_true rfl) (hz.o4 rfl) rfl (Nat.le_of_ble_eq_true rfl) (fun vr h2 hq => ?_) (fun E9 h9 hq => hq.elim)
  obtain ⟨rfl, hz⟩ := hq
  show wp _ _ 49 [(0, .ref (A 4 0 0)), (1, .int y1)] [] _ _ _
  refine w_iinc 1 (y1 + 1) [(1, .int (y1 + 1)), (0, .ref (A 4 0 0))] dX4_newColumns_49 rfl rfl rfl (by decide) rfl ?_
  refine w_goto 9 dX4_newColumns_52 rfl ?_
  refine w_lv [(0, .ref (A 4 0 0)), (1, .int (y1 + 1))] [1, 0] rfl ?_
  exact hk9 (y1 + 1) _ _ hz  hr
set_option maxRecDepth 20000 in
set_option maxHeartbeats 4000000 in
theorem w_X4_newColumns_9 {A : Nat → Nat → Nat → Nat} {ρ σ' : Zs} {v : Unit} {x : Cxt}   (hf : m_fin 0 0 (QV A v σ' ρ) X0 x) (hrm : m_rm 97 0 0 x)  : ∀ (n : Nat) (y1 : Int32) (σ : Zs) (h : Hp), Rp A h σ ρ → fX4_newColumns_9   n y1 σ = some (v, σ') → wp x mX4_newColumns 9 [(0, .ref (A 4 0 0)), (1, .int y1)] [] h 0 0
  | 0, _, σ, h => fun hz hr => by
    rw [fX4_newColumns_9.eq_1] at hr
    exact nono hr
  | n + 1, y1, σ, h => fun hz hr => by
    rw [fX4_newColumns_9.eq_2] at hr
    refine w_iload_n 1 dX4_newColumns_9 rfl rfl rfl ?_
    refine w_sipush 1500 dX4_newColumns_10 rfl rfl ?_
    refine w_icmp_ge 55 dX4_newColumns_13 rfl rfl (fun q13 => ?_) (fun q13 => ?_)
    · have hr := bt q13 hr
      refine w_vret hf dX4_newColumns_55 rfl (Nat.le_of_ble_eq_true rfl) (Nat.le_of_ble_eq_true rfl) ?_
      obtain ⟨rfl, rfl⟩ := ret_inj hr
      exact ⟨rfl, hz⟩
    · have hr := bf q13 hr
      refine w_iload_n 1 dX4_newColumns_16 rfl rfl rfl ?_
      refine w_if_eq 29 dX4_newColumns_17 rfl rfl (fun q17 => ?_) (fun q17 => ?_)
      · have hr := bt q17 hr
        refine w_lv [(0, .ref (A 4 0 0)), (1, .int y1)] [0, 1] rfl ?_
        exact w_X4_newColumns_29 hf hrm  (fun by1 zb hb hzb  hrb => w_X4_newColumns_9 hf hrm   n by1 zb hb hzb  hrb) y1 _ _ hz  hr
      · have hr := bf q17 hr
        refine w_aload_n 0 dX4_newColumns_20 rfl rfl rfl ?_
        refine g_X4_29 dX4_newColumns_21 rfl (hz.o4 rfl) (hz.i260 rfl) ?_
        refine w_bipush 44 dX4_newColumns_24 rfl rfl ?_
        refine w_icmp_ne 55 dX4_newColumns_26 rfl rfl (fun q26 => ?_) (fun q26 => ?_)
        · have hr := bf q26 hr
          refine w_vret hf dX4_newColumns_55 rfl (Nat.le_of_ble_eq_true rfl) (Nat.le_of_ble_eq_true rfl) ?_
          obtain ⟨rfl, rfl⟩ := ret_inj hr
          exact ⟨rfl, hz⟩
        · have hr := bt q26 hr
          refine w_lv [(0, .ref (A 4 0 0)), (1, .int y1)] [0, 1] rfl ?_
          exact w_X4_newColumns_29 hf hrm  (fun by1 zb hb hzb  hrb => w_X4_newColumns_9 hf hrm   n by1 zb hb hzb  hrb) y1 _ _ hz  hr
set_option maxRecDepth 20000 in
set_option maxHeartbeats 4000000 in
theorem s_X4_newColumns {A : Nat → Nat → Nat → Nat} {h : Hp} {σ ρ σ' : Zs} {v : Unit}   (hz : Rp A h σ ρ) (hr : fX4_newColumns  σ = some (v, σ')) : ∀ l : Launch, Sp l mX4_newColumns 97 0 0 [.ref (A 4 0 0)] h (QV A v σ' ρ) X0 := by
  intro l
  refine Sp.of rfl rfl (lv := [(0, .ref (A 4 0 0))]) (Nat.le_of_ble_eq_true rfl) rfl (fun x hf hrm => ?_)
  rw [fX4_newColumns.eq_1] at hr
  refine w_aload_n 0 dX4_newColumns_0 rfl rfl rfl ?_
  refine w_sipush 134 dX4_newColumns_1 rfl rfl ?_
  obtain ⟨v1, σ2, e3, hr⟩ := bq_some hr
  refine c_X4_57 (As := [.int 134]) (rest := []) (fun l => s_X4_take  hz e3 l) hrm dX4_newColumns_4 rfl rfl (Nat.le_of_ble_eq_true rfl) (Nat.le_of_ble_eq_true rfl) (Nat.le_of_ble_eq_true rfl) (hz.o4 rfl) rfl (Nat.le_of_ble_eq_true rfl) (fun vr h2 hq => ?_) (fun E9 h9 hq => hq.elim)
  obtain ⟨rfl, hz⟩ := hq
  show wp _ _ 7 [(0, .ref (A 4 0 0))] [] _ _ _
  refine w_iconst 0 dX4_newColumns_7 rfl rfl ?_
  refine w_istore_n [(1, .int 0), (0, .ref (A 4 0 0))] dX4_newColumns_8 rfl rfl (by decide) rfl ?_
  refine w_lv [(0, .ref (A 4 0 0)), (1, .int 0)] [1, 0] rfl ?_
  exact w_X4_newColumns_9 hf hrm   FU 0 _ _ hz  hr

set_option maxRecDepth 20000 in
set_option maxHeartbeats 4000000 in
theorem w_X4_window_64 {A : Nat → Nat → Nat → Nat} {ρ σ' : Zs} {v : Unit} {x : Cxt}  {k44 : Int32 → Zs → Option (Unit × Zs)}  (hf : m_fin 0 0 (QV A v σ' ρ) X0 x) (hrm : m_rm 97 0 0 x)  (hk44 : ∀ (y1 : Int32) (σ : Zs) (h : Hp), Rp A h σ ρ → k44 y1 σ = some (v, σ') → wp x mX4_window 44 [(0, .ref (A 4 0 0)), (1, .int y1)] [] h 0 0) : ∀ (y1 : Int32) (σ : Zs) (h : Hp), Rp A h σ ρ → fX4_window_64  k44 y1 σ = some (v, σ') → wp x mX4_window 64 [(0, .ref (A 4 0 0)), (1, .int y1)] [] h 0 0 := by
  intro y1 σ h hz hr
  rw [fX4_window_64.eq_1] at hr
  refine w_aload_n 0 dX4_window_64 rfl rfl rfl ?_
  refine w_iload_n 1 dX4_window_65 rfl rfl rfl ?_
  obtain ⟨v21, σ22, e23, hr⟩ := bq_some hr
  refine c_X4_94 (As := [.int y1]) (rest := []) (fun l => s_X4_takeComma  hz e23 l) hrm dX4_window_66 rfl rfl (Nat.le_of_ble_eq_true rfl) (Nat.le_of_ble_eq_true rfl) (Nat.le_of_ble_eq_true rfl) (hz.o4 rfl) rfl (Nat.le_of_ble_eq_true rfl) (fun vr h2 hq => ?_) (fun E9 h9 hq => hq.elim)
  obtain ⟨rfl, hz⟩ := hq
  show wp _ _ 69 [(0, .ref (A 4 0 0)), (1, .int y1)] [] _ _ _
  refine w_aload_n 0 dX4_window_69 rfl rfl rfl ?_
  refine w_iconst 1 dX4_window_70 rfl rfl ?_
  obtain ⟨v25, σ26, e27, hr⟩ := bq_some hr
  refine c_X4_60 (As := [.int 1]) (rest := []) (fun l => s_X4_takeName  hz e27 l) hrm dX4_window_71 rfl rfl (Nat.le_of_ble_eq_true rfl) (Nat.le_of_ble_eq_true rfl) (Nat.le_of_ble_eq_true rfl) (hz.o4 rfl) rfl (Nat.le_of_ble_eq_true rfl) (fun vr h2 hq => ?_) (fun E9 h9 hq => hq.elim)
  obtain ⟨rfl, hz⟩ := hq
  show wp _ _ 74 [(0, .ref (A 4 0 0)), (1, .int y1)] [] _ _ _
  refine w_aload_n 0 dX4_window_74 rfl rfl rfl ?_
  refine w_bipush 61 dX4_window_75 rfl rfl ?_
  obtain ⟨v29, σ30, e31, hr⟩ := bq_some hr
  refine c_X4_57 (As := [.int 61]) (rest := []) (fun l => s_X4_take  hz e31 l) hrm dX4_window_77 rfl rfl (Nat.le_of_ble_eq_true rfl) (Nat.le_of_ble_eq_true rfl) (Nat.le_of_ble_eq_true rfl) (hz.o4 rfl) rfl (Nat.le_of_ble_eq_true rfl) (fun vr h2 hq => ?_) (fun E9 h9 hq => hq.elim)
  obtain ⟨rfl, hz⟩ := hq
  show wp _ _ 80 [(0, .ref (A 4 0 0)), (1, .int y1)] [] _ _ _
  refine w_aload_n 0 dX4_window_80 rfl rfl rfl ?_
  obtain ⟨v33, σ34, e35, hr⟩ := bq_some hr
  refine c_X4_97 (As := []) (rest := []) (fun l => s_X4_takeTotal  hz e35 l) hrm dX4_window_81 rfl rfl (Nat.le_of_ble_eq_true rfl) (Nat.le_of_ble_eq_true rfl) (Nat.le_of_ble_eq_true rfl) (hz.o4 rfl) rfl (Nat.le_of_ble_eq_true rfl) (fun vr h2 hq => ?_) (fun E9 h9 hq => hq.elim)
  obtain ⟨rfl, hz⟩ := hq
  show wp _ _ 84 [(0, .ref (A 4 0 0)), (1, .int y1)] [.int v33] _ _ _
  refine w_sipush 151 dX4_window_84 rfl rfl ?_
  refine w_icmp_eq 94 dX4_window_87 rfl rfl (fun q87 => ?_) (fun q87 => ?_)
  · have hr := bt q87 hr
    refine w_iinc 1 (y1 + 1) [(1, .int (y1 + 1)), (0, .ref (A 4 0 0))] dX4_window_94 rfl rfl rfl (by decide) rfl ?_
    refine w_goto 44 dX4_window_97 rfl ?_
    refine w_lv [(0, .ref (A 4 0 0)), (1, .int (y1 + 1))] [1, 0] rfl ?_
    exact hk44 (y1 + 1) _ _ hz  hr
  · have hr := bf q87 hr
    refine w_aload_n 0 dX4_window_90 rfl rfl rfl ?_
    obtain ⟨v37, σ38, e39, hr⟩ := bq_some hr
    refine c_X4_75 (As := []) (rest := []) (fun l => s_X4_wholeExpression  hz e39 l) hrm dX4_window_91 rfl rfl (Nat.le_of_ble_eq_true rfl) (Nat.le_of_ble_eq_true rfl) (Nat.le_of_ble_eq_true rfl) (hz.o4 rfl) rfl (Nat.le_of_ble_eq_true rfl) (fun vr h2 hq => ?_) (fun E9 h9 hq => hq.elim)
    obtain ⟨rfl, hz⟩ := hq
    show wp _ _ 94 [(0, .ref (A 4 0 0)), (1, .int y1)] [] _ _ _
    refine w_iinc 1 (y1 + 1) [(1, .int (y1 + 1)), (0, .ref (A 4 0 0))] dX4_window_94 rfl rfl rfl (by decide) rfl ?_
    refine w_goto 44 dX4_window_97 rfl ?_
    refine w_lv [(0, .ref (A 4 0 0)), (1, .int (y1 + 1))] [1, 0] rfl ?_
    exact hk44 (y1 + 1) _ _ hz  hr
set_option maxRecDepth 20000 in
set_option maxHeartbeats 4000000 in
theorem w_X4_window_44 {A : Nat → Nat → Nat → Nat} {ρ σ' : Zs} {v : Unit} {x : Cxt}   (hf : m_fin 0 0 (QV A v σ' ρ) X0 x) (hrm : m_rm 97 0 0 x)  : ∀ (n : Nat) (y1 : Int32) (σ : Zs) (h : Hp), Rp A h σ ρ → fX4_window_44   n y1 σ = some (v, σ') → wp x mX4_window 44 [(0, .ref (A 4 0 0)), (1, .int y1)] [] h 0 0
  | 0, _, σ, h => fun hz hr => by
    rw [fX4_window_44.eq_1] at hr
    exact nono hr
  | n + 1, y1, σ, h => fun hz hr => by
    rw [fX4_window_44.eq_2] at hr
    refine w_iload_n 1 dX4_window_44 rfl rfl rfl ?_
    refine w_sipush 1500 dX4_window_45 rfl rfl ?_
    refine w_icmp_ge 100 dX4_window_48 rfl rfl (fun q48 => ?_) (fun q48 => ?_)
    · have hr := bt q48 hr
      refine w_aload_n 0 dX4_window_100 rfl rfl rfl ?_
      refine w_bipush 41 dX4_window_101 rfl rfl ?_
      obtain ⟨v17, σ18, e19, hr⟩ := bq_some hr
      refine c_X4_57 (As := [.int 41]) (rest := []) (fun l => s_X4_take  hz e19 l) hrm dX4_window_103 rfl rfl (Nat.le_of_ble_eq_true rfl) (Nat.le_of_ble_eq_true rfl) (Nat.le_of_ble_eq_true rfl) (hz.o4 rfl) rfl (Nat.le_of_ble_eq_true rfl) (fun vr h2 hq => ?_) (fun E9 h9 hq => hq.elim)
      obtain ⟨rfl, hz⟩ := hq
      show wp _ _ 106 [(0, .ref (A 4 0 0)), (1, .int y1)] [] _ _ _
      refine w_vret hf dX4_window_106 rfl (Nat.le_of_ble_eq_true rfl) (Nat.le_of_ble_eq_true rfl) ?_
      obtain ⟨rfl, rfl⟩ := ret_inj hr
      exact ⟨rfl, hz⟩
    · have hr := bf q48 hr
      refine w_iload_n 1 dX4_window_51 rfl rfl rfl ?_
      refine w_if_eq 64 dX4_window_52 rfl rfl (fun q52 => ?_) (fun q52 => ?_)
      · have hr := bt q52 hr
        refine w_lv [(0, .ref (A 4 0 0)), (1, .int y1)] [0, 1] rfl ?_
        exact w_X4_window_64 hf hrm  (fun by1 zb hb hzb  hrb => w_X4_window_44 hf hrm   n by1 zb hb hzb  hrb) y1 _ _ hz  hr
      · have hr := bf q52 hr
        refine w_aload_n 0 dX4_window_55 rfl rfl rfl ?_
        refine g_X4_29 dX4_window_56 rfl (hz.o4 rfl) (hz.i260 rfl) ?_
        refine w_bipush 44 dX4_window_59 rfl rfl ?_
        refine w_icmp_ne 100 dX4_window_61 rfl rfl (fun q61 => ?_) (fun q61 => ?_)
        · have hr := bf q61 hr
          refine w_aload_n 0 dX4_window_100 rfl rfl rfl ?_
          refine w_bipush 41 dX4_window_101 rfl rfl ?_
          obtain ⟨v41, σ42, e43, hr⟩ := bq_some hr
          refine c_X4_57 (As := [.int 41]) (rest := []) (fun l => s_X4_take  hz e43 l) hrm dX4_window_103 rfl rfl (Nat.le_of_ble_eq_true rfl) (Nat.le_of_ble_eq_true rfl) (Nat.le_of_ble_eq_true rfl) (hz.o4 rfl) rfl (Nat.le_of_ble_eq_true rfl) (fun vr h2 hq => ?_) (fun E9 h9 hq => hq.elim)
          obtain ⟨rfl, hz⟩ := hq
          show wp _ _ 106 [(0, .ref (A 4 0 0)), (1, .int y1)] [] _ _ _
          refine w_vret hf dX4_window_106 rfl (Nat.le_of_ble_eq_true rfl) (Nat.le_of_ble_eq_true rfl) ?_
          obtain ⟨rfl, rfl⟩ := ret_inj hr
          exact ⟨rfl, hz⟩
        · have hr := bt q61 hr
          refine w_lv [(0, .ref (A 4 0 0)), (1, .int y1)] [0, 1] rfl ?_
          exact w_X4_window_64 hf hrm  (fun by1 zb hb hzb  hrb => w_X4_window_44 hf hrm   n by1 zb hb hzb  hrb) y1 _ _ hz  hr
set_option maxRecDepth 20000 in
set_option maxHeartbeats 4000000 in
theorem s_X4_window {A : Nat → Nat → Nat → Nat} {h : Hp} {σ ρ σ' : Zs} {v : Unit}   (hz : Rp A h σ ρ) (hr : fX4_window  σ = some (v, σ')) : ∀ l : Launch, Sp l mX4_window 97 0 0 [.ref (A 4 0 0)] h (QV A v σ' ρ) X0 := by
  intro l
  refine Sp.of rfl rfl (lv := [(0, .ref (A 4 0 0))]) (Nat.le_of_ble_eq_true rfl) rfl (fun x hf hrm => ?_)
  rw [fX4_window.eq_1] at hr
  refine w_aload_n 0 dX4_window_0 rfl rfl rfl ?_
  refine w_sipush 141 dX4_window_1 rfl rfl ?_
  obtain ⟨v1, σ2, e3, hr⟩ := bq_some hr
  refine c_X4_57 (As := [.int 141]) (rest := []) (fun l => s_X4_take  hz e3 l) hrm dX4_window_4 rfl rfl (Nat.le_of_ble_eq_true rfl) (Nat.le_of_ble_eq_true rfl) (Nat.le_of_ble_eq_true rfl) (hz.o4 rfl) rfl (Nat.le_of_ble_eq_true rfl) (fun vr h2 hq => ?_) (fun E9 h9 hq => hq.elim)
  obtain ⟨rfl, hz⟩ := hq
  show wp _ _ 7 [(0, .ref (A 4 0 0))] [] _ _ _
  refine w_aload_n 0 dX4_window_7 rfl rfl rfl ?_
  refine w_iconst 4 dX4_window_8 rfl rfl ?_
  obtain ⟨v5, σ6, e7, hr⟩ := bq_some hr
  refine c_X4_60 (As := [.int 4]) (rest := []) (fun l => s_X4_takeName  hz e7 l) hrm dX4_window_9 rfl rfl (Nat.le_of_ble_eq_true rfl) (Nat.le_of_ble_eq_true rfl) (Nat.le_of_ble_eq_true rfl) (hz.o4 rfl) rfl (Nat.le_of_ble_eq_true rfl) (fun vr h2 hq => ?_) (fun E9 h9 hq => hq.elim)
  obtain ⟨rfl, hz⟩ := hq
  show wp _ _ 12 [(0, .ref (A 4 0 0))] [] _ _ _
  refine w_aload_n 0 dX4_window_12 rfl rfl rfl ?_
  refine w_sipush 143 dX4_window_13 rfl rfl ?_
  obtain ⟨v9, σ10, e11, hr⟩ := bq_some hr
  refine c_X4_66 (As := [.int 143]) (rest := []) (fun l => s_X4_takeRange  hz e11 l) hrm dX4_window_16 rfl rfl (Nat.le_of_ble_eq_true rfl) (Nat.le_of_ble_eq_true rfl) (Nat.le_of_ble_eq_true rfl) (hz.o4 rfl) rfl (Nat.le_of_ble_eq_true rfl) (fun vr h2 hq => ?_) (fun E9 h9 hq => hq.elim)
  obtain ⟨rfl, hz⟩ := hq
  show wp _ _ 19 [(0, .ref (A 4 0 0))] [] _ _ _
  refine w_aload_n 0 dX4_window_19 rfl rfl rfl ?_
  refine g_X4_29 dX4_window_20 rfl (hz.o4 rfl) (hz.i260 rfl) ?_
  refine w_sipush 144 dX4_window_23 rfl rfl ?_
  refine w_icmp_ne 36 dX4_window_26 rfl rfl (fun q26 => ?_) (fun q26 => ?_)
  · have hr := bf q26 hr
    refine w_aload_n 0 dX4_window_36 rfl rfl rfl ?_
    refine w_bipush 40 dX4_window_37 rfl rfl ?_
    obtain ⟨v13, σ14, e15, hr⟩ := bq_some hr
    refine c_X4_57 (As := [.int 40]) (rest := []) (fun l => s_X4_take  hz e15 l) hrm dX4_window_39 rfl rfl (Nat.le_of_ble_eq_true rfl) (Nat.le_of_ble_eq_true rfl) (Nat.le_of_ble_eq_true rfl) (hz.o4 rfl) rfl (Nat.le_of_ble_eq_true rfl) (fun vr h2 hq => ?_) (fun E9 h9 hq => hq.elim)
    obtain ⟨rfl, hz⟩ := hq
    show wp _ _ 42 [(0, .ref (A 4 0 0))] [] _ _ _
    refine w_iconst 0 dX4_window_42 rfl rfl ?_
    refine w_istore_n [(1, .int 0), (0, .ref (A 4 0 0))] dX4_window_43 rfl rfl (by decide) rfl ?_
    refine w_lv [(0, .ref (A 4 0 0)), (1, .int 0)] [1, 0] rfl ?_
    exact w_X4_window_44 hf hrm   FU 0 _ _ hz  hr
  · have hr := bt q26 hr
    refine w_aload_n 0 dX4_window_29 rfl rfl rfl ?_
    refine w_sipush 144 dX4_window_30 rfl rfl ?_
    obtain ⟨v45, σ46, e47, hr⟩ := bq_some hr
    refine c_X4_66 (As := [.int 144]) (rest := []) (fun l => s_X4_takeRange  hz e47 l) hrm dX4_window_33 rfl rfl (Nat.le_of_ble_eq_true rfl) (Nat.le_of_ble_eq_true rfl) (Nat.le_of_ble_eq_true rfl) (hz.o4 rfl) rfl (Nat.le_of_ble_eq_true rfl) (fun vr h2 hq => ?_) (fun E9 h9 hq => hq.elim)
    obtain ⟨rfl, hz⟩ := hq
    show wp _ _ 36 [(0, .ref (A 4 0 0))] [] _ _ _
    refine w_aload_n 0 dX4_window_36 rfl rfl rfl ?_
    refine w_bipush 40 dX4_window_37 rfl rfl ?_
    obtain ⟨v49, σ50, e51, hr⟩ := bq_some hr
    refine c_X4_57 (As := [.int 40]) (rest := []) (fun l => s_X4_take  hz e51 l) hrm dX4_window_39 rfl rfl (Nat.le_of_ble_eq_true rfl) (Nat.le_of_ble_eq_true rfl) (Nat.le_of_ble_eq_true rfl) (hz.o4 rfl) rfl (Nat.le_of_ble_eq_true rfl) (fun vr h2 hq => ?_) (fun E9 h9 hq => hq.elim)
    obtain ⟨rfl, hz⟩ := hq
    show wp _ _ 42 [(0, .ref (A 4 0 0))] [] _ _ _
    refine w_iconst 0 dX4_window_42 rfl rfl ?_
    refine w_istore_n [(1, .int 0), (0, .ref (A 4 0 0))] dX4_window_43 rfl rfl (by decide) rfl ?_
    refine w_lv [(0, .ref (A 4 0 0)), (1, .int 0)] [1, 0] rfl ?_
    exact w_X4_window_44 hf hrm   FU 0 _ _ hz  hr

set_option maxRecDepth 20000 in
set_option maxHeartbeats 4000000 in
theorem s_X4_source {A : Nat → Nat → Nat → Nat} {h : Hp} {σ ρ σ' : Zs} {v : Unit}   (hz : Rp A h σ ρ) (hr : fX4_source  σ = some (v, σ')) : ∀ l : Launch, Sp l mX4_source 5 0 0 [.ref (A 4 0 0)] h (QV A v σ' ρ) X0 := by
  intro l
  refine Sp.of rfl rfl (lv := [(0, .ref (A 4 0 0))]) (Nat.le_of_ble_eq_true rfl) rfl (fun x hf hrm => ?_)
  rw [fX4_source.eq_1] at hr
  refine w_aload_n 0 dX4_source_0 rfl rfl rfl ?_
  refine g_X4_15 dX4_source_1 rfl (hz.o4 rfl) (hz.r257 rfl) ?_
  refine w_aload_n 0 dX4_source_4 rfl rfl rfl ?_
  refine g_X4_44 dX4_source_5 rfl (hz.o4 rfl) (hz.i261 rfl) ?_
  obtain ⟨v1, σ2, e3, hr⟩ := bq_some hr
  refine c_X4_47 (As := [.int (zI σ 261 0 0 0)]) (rest := []) (fun l => s_X3_startStream  hz e3 l) hrm dX4_source_8 rfl rfl (Nat.le_of_ble_eq_true rfl) (Nat.le_of_ble_eq_true rfl) (Nat.le_of_ble_eq_true rfl) (hz.o3 rfl) rfl (Nat.le_of_ble_eq_true rfl) (fun vr h2 hq => ?_) (fun E9 h9 hq => hq.elim)
  obtain ⟨rfl, hz⟩ := hq
  show wp _ _ 11 [(0, .ref (A 4 0 0))] [] _ _ _
  refine w_aload_n 0 dX4_source_11 rfl rfl rfl ?_
  refine g_X4_15 dX4_source_12 rfl (hz.o4 rfl) (hz.r257 rfl) ?_
  refine w_iconst 0 dX4_source_15 rfl rfl ?_
  refine w_aload_n 0 dX4_source_16 rfl rfl rfl ?_
  refine g_X4_44 dX4_source_17 rfl (hz.o4 rfl) (hz.i261 rfl) ?_
  obtain ⟨v5, σ6, e7, hr⟩ := bq_some hr
  refine c_X4_53 (As := [.int 0, .int (zI σ2 261 0 0 0)]) (rest := []) (fun l => s_X3_startWork  hz e7 l) hrm dX4_source_20 rfl rfl (Nat.le_of_ble_eq_true rfl) (Nat.le_of_ble_eq_true rfl) (Nat.le_of_ble_eq_true rfl) (hz.o3 rfl) rfl (Nat.le_of_ble_eq_true rfl) (fun vr h2 hq => ?_) (fun E9 h9 hq => hq.elim)
  obtain ⟨rfl, hz⟩ := hq
  show wp _ _ 23 [(0, .ref (A 4 0 0))] [] _ _ _
  refine w_aload_n 0 dX4_source_23 rfl rfl rfl ?_
  refine w_sipush 128 dX4_source_24 rfl rfl ?_
  obtain ⟨v9, σ10, e11, hr⟩ := bq_some hr
  refine c_X4_57 (As := [.int 128]) (rest := []) (fun l => s_X4_take  hz e11 l) hrm dX4_source_27 rfl rfl (Nat.le_of_ble_eq_true rfl) (Nat.le_of_ble_eq_true rfl) (Nat.le_of_ble_eq_true rfl) (hz.o4 rfl) rfl (Nat.le_of_ble_eq_true rfl) (fun vr h2 hq => ?_) (fun E9 h9 hq => hq.elim)
  obtain ⟨rfl, hz⟩ := hq
  show wp _ _ 30 [(0, .ref (A 4 0 0))] [] _ _ _
  refine w_aload_n 0 dX4_source_30 rfl rfl rfl ?_
  refine w_iconst 0 dX4_source_31 rfl rfl ?_
  obtain ⟨v13, σ14, e15, hr⟩ := bq_some hr
  refine c_X4_60 (As := [.int 0]) (rest := []) (fun l => s_X4_takeName  hz e15 l) hrm dX4_source_32 rfl rfl (Nat.le_of_ble_eq_true rfl) (Nat.le_of_ble_eq_true rfl) (Nat.le_of_ble_eq_true rfl) (hz.o4 rfl) rfl (Nat.le_of_ble_eq_true rfl) (fun vr h2 hq => ?_) (fun E9 h9 hq => hq.elim)
  obtain ⟨rfl, hz⟩ := hq
  show wp _ _ 35 [(0, .ref (A 4 0 0))] [] _ _ _
  refine w_aload_n 0 dX4_source_35 rfl rfl rfl ?_
  refine w_iconst 1 dX4_source_36 rfl rfl ?_
  obtain ⟨v17, σ18, e19, hr⟩ := bq_some hr
  refine c_X4_63 (As := [.int 1]) (rest := []) (fun l => s_X4_takeNames  hz e19 l) hrm dX4_source_37 rfl rfl (Nat.le_of_ble_eq_true rfl) (Nat.le_of_ble_eq_true rfl) (Nat.le_of_ble_eq_true rfl) (hz.o4 rfl) rfl (Nat.le_of_ble_eq_true rfl) (fun vr h2 hq => ?_) (fun E9 h9 hq => hq.elim)
  obtain ⟨rfl, hz⟩ := hq
  show wp _ _ 40 [(0, .ref (A 4 0 0))] [] _ _ _
  refine w_aload_n 0 dX4_source_40 rfl rfl rfl ?_
  refine g_X4_29 dX4_source_41 rfl (hz.o4 rfl) (hz.i260 rfl) ?_
  refine w_sipush 129 dX4_source_44 rfl rfl ?_
  refine w_icmp_ne 57 dX4_source_47 rfl rfl (fun q47 => ?_) (fun q47 => ?_)
  · have hr := bf q47 hr
    refine w_aload_n 0 dX4_source_57 rfl rfl rfl ?_
    refine g_X4_15 dX4_source_58 rfl (hz.o4 rfl) (hz.r257 rfl) ?_
    obtain ⟨v21, σ22, e23, hr⟩ := bq_some hr
    refine c_X4_69 (As := []) (rest := []) (fun l => s_X3_endStream  hz e23 l) hrm dX4_source_61 rfl rfl (Nat.le_of_ble_eq_true rfl) (Nat.le_of_ble_eq_true rfl) (Nat.le_of_ble_eq_true rfl) (hz.o3 rfl) rfl (Nat.le_of_ble_eq_true rfl) (fun vr h2 hq => ?_) (fun E9 h9 hq => hq.elim)
    obtain ⟨rfl, hz⟩ := hq
    show wp _ _ 64 [(0, .ref (A 4 0 0))] [] _ _ _
    refine w_vret hf dX4_source_64 rfl (Nat.le_of_ble_eq_true rfl) (Nat.le_of_ble_eq_true rfl) ?_
    obtain ⟨rfl, rfl⟩ := ret_inj hr
    exact ⟨rfl, hz⟩
  · have hr := bt q47 hr
    refine w_aload_n 0 dX4_source_50 rfl rfl rfl ?_
    refine w_sipush 129 dX4_source_51 rfl rfl ?_
    obtain ⟨v25, σ26, e27, hr⟩ := bq_some hr
    refine c_X4_66 (As := [.int 129]) (rest := []) (fun l => s_X4_takeRange  hz e27 l) hrm dX4_source_54 rfl rfl (Nat.le_of_ble_eq_true rfl) (Nat.le_of_ble_eq_true rfl) (Nat.le_of_ble_eq_true rfl) (hz.o4 rfl) rfl (Nat.le_of_ble_eq_true rfl) (fun vr h2 hq => ?_) (fun E9 h9 hq => hq.elim)
    obtain ⟨rfl, hz⟩ := hq
    show wp _ _ 57 [(0, .ref (A 4 0 0))] [] _ _ _
    refine w_aload_n 0 dX4_source_57 rfl rfl rfl ?_
    refine g_X4_15 dX4_source_58 rfl (hz.o4 rfl) (hz.r257 rfl) ?_
    obtain ⟨v29, σ30, e31, hr⟩ := bq_some hr
    refine c_X4_69 (As := []) (rest := []) (fun l => s_X3_endStream  hz e31 l) hrm dX4_source_61 rfl rfl (Nat.le_of_ble_eq_true rfl) (Nat.le_of_ble_eq_true rfl) (Nat.le_of_ble_eq_true rfl) (hz.o3 rfl) rfl (Nat.le_of_ble_eq_true rfl) (fun vr h2 hq => ?_) (fun E9 h9 hq => hq.elim)
    obtain ⟨rfl, hz⟩ := hq
    show wp _ _ 64 [(0, .ref (A 4 0 0))] [] _ _ _
    refine w_vret hf dX4_source_64 rfl (Nat.le_of_ble_eq_true rfl) (Nat.le_of_ble_eq_true rfl) ?_
    obtain ⟨rfl, rfl⟩ := ret_inj hr
    exact ⟨rfl, hz⟩

set_option maxRecDepth 20000 in
set_option maxHeartbeats 4000000 in
theorem s_X4_check {A : Nat → Nat → Nat → Nat} {h : Hp} {σ ρ σ' : Zs} {v : Unit}   (hz : Rp A h σ ρ) (hr : fX4_check  σ = some (v, σ')) : ∀ l : Launch, Sp l mX4_check 97 0 0 [.ref (A 4 0 0)] h (QV A v σ' ρ) X0 := by
  intro l
  refine Sp.of rfl rfl (lv := [(0, .ref (A 4 0 0))]) (Nat.le_of_ble_eq_true rfl) rfl (fun x hf hrm => ?_)
  rw [fX4_check.eq_1] at hr
  refine w_aload_n 0 dX4_check_0 rfl rfl rfl ?_
  refine g_X4_15 dX4_check_1 rfl (hz.o4 rfl) (hz.r257 rfl) ?_
  refine w_aload_n 0 dX4_check_4 rfl rfl rfl ?_
  refine g_X4_44 dX4_check_5 rfl (hz.o4 rfl) (hz.i261 rfl) ?_
  obtain ⟨v1, σ2, e3, hr⟩ := bq_some hr
  refine c_X4_72 (As := [.int (zI σ 261 0 0 0)]) (rest := []) (fun l => s_X3_startCheck  hz e3 l) hrm dX4_check_8 rfl rfl (Nat.le_of_ble_eq_true rfl) (Nat.le_of_ble_eq_true rfl) (Nat.le_of_ble_eq_true rfl) (hz.o3 rfl) rfl (Nat.le_of_ble_eq_true rfl) (fun vr h2 hq => ?_) (fun E9 h9 hq => hq.elim)
  obtain ⟨rfl, hz⟩ := hq
  show wp _ _ 11 [(0, .ref (A 4 0 0))] [] _ _ _
  refine w_aload_n 0 dX4_check_11 rfl rfl rfl ?_
  refine w_sipush 145 dX4_check_12 rfl rfl ?_
  obtain ⟨v5, σ6, e7, hr⟩ := bq_some hr
  refine c_X4_57 (As := [.int 145]) (rest := []) (fun l => s_X4_take  hz e7 l) hrm dX4_check_15 rfl rfl (Nat.le_of_ble_eq_true rfl) (Nat.le_of_ble_eq_true rfl) (Nat.le_of_ble_eq_true rfl) (hz.o4 rfl) rfl (Nat.le_of_ble_eq_true rfl) (fun vr h2 hq => ?_) (fun E9 h9 hq => hq.elim)
  obtain ⟨rfl, hz⟩ := hq
  show wp _ _ 18 [(0, .ref (A 4 0 0))] [] _ _ _
  refine w_aload_n 0 dX4_check_18 rfl rfl rfl ?_
  refine w_iconst 2 dX4_check_19 rfl rfl ?_
  obtain ⟨v9, σ10, e11, hr⟩ := bq_some hr
  refine c_X4_60 (As := [.int 2]) (rest := []) (fun l => s_X4_takeName  hz e11 l) hrm dX4_check_20 rfl rfl (Nat.le_of_ble_eq_true rfl) (Nat.le_of_ble_eq_true rfl) (Nat.le_of_ble_eq_true rfl) (hz.o4 rfl) rfl (Nat.le_of_ble_eq_true rfl) (fun vr h2 hq => ?_) (fun E9 h9 hq => hq.elim)
  obtain ⟨rfl, hz⟩ := hq
  show wp _ _ 23 [(0, .ref (A 4 0 0))] [] _ _ _
  refine w_aload_n 0 dX4_check_23 rfl rfl rfl ?_
  refine w_bipush 58 dX4_check_24 rfl rfl ?_
  obtain ⟨v13, σ14, e15, hr⟩ := bq_some hr
  refine c_X4_57 (As := [.int 58]) (rest := []) (fun l => s_X4_take  hz e15 l) hrm dX4_check_26 rfl rfl (Nat.le_of_ble_eq_true rfl) (Nat.le_of_ble_eq_true rfl) (Nat.le_of_ble_eq_true rfl) (hz.o4 rfl) rfl (Nat.le_of_ble_eq_true rfl) (fun vr h2 hq => ?_) (fun E9 h9 hq => hq.elim)
  obtain ⟨rfl, hz⟩ := hq
  show wp _ _ 29 [(0, .ref (A 4 0 0))] [] _ _ _
  refine w_aload_n 0 dX4_check_29 rfl rfl rfl ?_
  obtain ⟨v17, σ18, e19, hr⟩ := bq_some hr
  refine c_X4_75 (As := []) (rest := []) (fun l => s_X4_wholeExpression  hz e19 l) hrm dX4_check_30 rfl rfl (Nat.le_of_ble_eq_true rfl) (Nat.le_of_ble_eq_true rfl) (Nat.le_of_ble_eq_true rfl) (hz.o4 rfl) rfl (Nat.le_of_ble_eq_true rfl) (fun vr h2 hq => ?_) (fun E9 h9 hq => hq.elim)
  obtain ⟨rfl, hz⟩ := hq
  show wp _ _ 33 [(0, .ref (A 4 0 0))] [] _ _ _
  refine w_aload_n 0 dX4_check_33 rfl rfl rfl ?_
  refine w_sipush 146 dX4_check_34 rfl rfl ?_
  obtain ⟨v21, σ22, e23, hr⟩ := bq_some hr
  refine c_X4_57 (As := [.int 146]) (rest := []) (fun l => s_X4_take  hz e23 l) hrm dX4_check_37 rfl rfl (Nat.le_of_ble_eq_true rfl) (Nat.le_of_ble_eq_true rfl) (Nat.le_of_ble_eq_true rfl) (hz.o4 rfl) rfl (Nat.le_of_ble_eq_true rfl) (fun vr h2 hq => ?_) (fun E9 h9 hq => hq.elim)
  obtain ⟨rfl, hz⟩ := hq
  show wp _ _ 40 [(0, .ref (A 4 0 0))] [] _ _ _
  refine w_aload_n 0 dX4_check_40 rfl rfl rfl ?_
  refine g_X4_29 dX4_check_41 rfl (hz.o4 rfl) (hz.i260 rfl) ?_
  refine w_istore_n [(1, .int (zI σ22 260 0 0 0)), (0, .ref (A 4 0 0))] dX4_check_44 rfl rfl (by decide) rfl ?_
  refine w_iload_n 0 dX4_check_45 rfl rfl rfl ?_
  refine w_sipush 147 dX4_check_46 rfl rfl ?_
  refine w_icmp_eq 66 dX4_check_49 rfl rfl (fun q49 => ?_) (fun q49 => ?_)
  · have hr := bt q49 hr
    refine w_aload_n 1 dX4_check_66 rfl rfl rfl ?_
    refine w_iload_n 0 dX4_check_67 rfl rfl rfl ?_
    obtain ⟨v25, σ26, e27, hr⟩ := bq_some hr
    refine c_X4_57 (As := [.int (zI σ22 260 0 0 0)]) (rest := []) (fun l => s_X4_take  hz e27 l) hrm dX4_check_68 rfl rfl (Nat.le_of_ble_eq_true rfl) (Nat.le_of_ble_eq_true rfl) (Nat.le_of_ble_eq_true rfl) (hz.o4 rfl) rfl (Nat.le_of_ble_eq_true rfl) (fun vr h2 hq => ?_) (fun E9 h9 hq => hq.elim)
    obtain ⟨rfl, hz⟩ := hq
    show wp _ _ 71 [(1, .int (zI σ22 260 0 0 0)), (0, .ref (A 4 0 0))] [] _ _ _
    refine w_aload_n 1 dX4_check_71 rfl rfl rfl ?_
    refine g_X4_15 dX4_check_72 rfl (hz.o4 rfl) (hz.r257 rfl) ?_
    refine w_iload_n 0 dX4_check_75 rfl rfl rfl ?_
    obtain ⟨v29, σ30, e31, hr⟩ := bq_some hr
    refine c_X4_78 (As := [.int (zI σ22 260 0 0 0)]) (rest := []) (fun l => s_X3_endCheck  hz e31 l) hrm dX4_check_76 rfl rfl (Nat.le_of_ble_eq_true rfl) (Nat.le_of_ble_eq_true rfl) (Nat.le_of_ble_eq_true rfl) (hz.o3 rfl) rfl (Nat.le_of_ble_eq_true rfl) (fun vr h2 hq => ?_) (fun E9 h9 hq => hq.elim)
    obtain ⟨rfl, hz⟩ := hq
    show wp _ _ 79 [(1, .int (zI σ22 260 0 0 0)), (0, .ref (A 4 0 0))] [] _ _ _
    refine w_goto 86 dX4_check_79 rfl ?_
    refine w_vret hf dX4_check_86 rfl (Nat.le_of_ble_eq_true rfl) (Nat.le_of_ble_eq_true rfl) ?_
    obtain ⟨rfl, rfl⟩ := ret_inj hr
    exact ⟨rfl, hz⟩
  · have hr := bf q49 hr
    refine w_iload_n 0 dX4_check_52 rfl rfl rfl ?_
    refine w_sipush 148 dX4_check_53 rfl rfl ?_
    refine w_icmp_eq 66 dX4_check_56 rfl rfl (fun q56 => ?_) (fun q56 => ?_)
    · have hr := bt q56 hr
      refine w_aload_n 1 dX4_check_66 rfl rfl rfl ?_
      refine w_iload_n 0 dX4_check_67 rfl rfl rfl ?_
      obtain ⟨v33, σ34, e35, hr⟩ := bq_some hr
      refine c_X4_57 (As := [.int (zI σ22 260 0 0 0)]) (rest := []) (fun l => s_X4_take  hz e35 l) hrm dX4_check_68 rfl rfl (Nat.le_of_ble_eq_true rfl) (Nat.le_of_ble_eq_true rfl) (Nat.le_of_ble_eq_true rfl) (hz.o4 rfl) rfl (Nat.le_of_ble_eq_true rfl) (fun vr h2 hq => ?_) (fun E9 h9 hq => hq.elim)
      obtain ⟨rfl, hz⟩ := hq
      show wp _ _ 71 [(1, .int (zI σ22 260 0 0 0)), (0, .ref (A 4 0 0))] [] _ _ _
      refine w_aload_n 1 dX4_check_71 rfl rfl rfl ?_
      refine g_X4_15 dX4_check_72 rfl (hz.o4 rfl) (hz.r257 rfl) ?_
      refine w_iload_n 0 dX4_check_75 rfl rfl rfl ?_
      obtain ⟨v37, σ38, e39, hr⟩ := bq_some hr
      refine c_X4_78 (As := [.int (zI σ22 260 0 0 0)]) (rest := []) (fun l => s_X3_endCheck  hz e39 l) hrm dX4_check_76 rfl rfl (Nat.le_of_ble_eq_true rfl) (Nat.le_of_ble_eq_true rfl) (Nat.le_of_ble_eq_true rfl) (hz.o3 rfl) rfl (Nat.le_of_ble_eq_true rfl) (fun vr h2 hq => ?_) (fun E9 h9 hq => hq.elim)
      obtain ⟨rfl, hz⟩ := hq
      show wp _ _ 79 [(1, .int (zI σ22 260 0 0 0)), (0, .ref (A 4 0 0))] [] _ _ _
      refine w_goto 86 dX4_check_79 rfl ?_
      refine w_vret hf dX4_check_86 rfl (Nat.le_of_ble_eq_true rfl) (Nat.le_of_ble_eq_true rfl) ?_
      obtain ⟨rfl, rfl⟩ := ret_inj hr
      exact ⟨rfl, hz⟩
    · have hr := bf q56 hr
      refine w_iload_n 0 dX4_check_59 rfl rfl rfl ?_
      refine w_sipush 149 dX4_check_60 rfl rfl ?_
      refine w_icmp_ne 82 dX4_check_63 rfl rfl (fun q63 => ?_) (fun q63 => ?_)
      · have hr := bf q63 hr
        refine w_aload_n 1 dX4_check_82 rfl rfl rfl ?_
        obtain ⟨v41, σ42, e43, hr⟩ := bq_some hr
        refine c_X4_41 (As := []) (rest := []) (fun l => s_X4_fail  hz e43 l) hrm dX4_check_83 rfl rfl (Nat.le_of_ble_eq_true rfl) (Nat.le_of_ble_eq_true rfl) (Nat.le_of_ble_eq_true rfl) (hz.o4 rfl) rfl (Nat.le_of_ble_eq_true rfl) (fun vr h2 hq => ?_) (fun E9 h9 hq => hq.elim)
        obtain ⟨rfl, hz⟩ := hq
        show wp _ _ 86 [(1, .int (zI σ22 260 0 0 0)), (0, .ref (A 4 0 0))] [] _ _ _
        refine w_vret hf dX4_check_86 rfl (Nat.le_of_ble_eq_true rfl) (Nat.le_of_ble_eq_true rfl) ?_
        obtain ⟨rfl, rfl⟩ := ret_inj hr
        exact ⟨rfl, hz⟩
      · have hr := bt q63 hr
        refine w_aload_n 1 dX4_check_66 rfl rfl rfl ?_
        refine w_iload_n 0 dX4_check_67 rfl rfl rfl ?_
        obtain ⟨v45, σ46, e47, hr⟩ := bq_some hr
        refine c_X4_57 (As := [.int (zI σ22 260 0 0 0)]) (rest := []) (fun l => s_X4_take  hz e47 l) hrm dX4_check_68 rfl rfl (Nat.le_of_ble_eq_true rfl) (Nat.le_of_ble_eq_true rfl) (Nat.le_of_ble_eq_true rfl) (hz.o4 rfl) rfl (Nat.le_of_ble_eq_true rfl) (fun vr h2 hq => ?_) (fun E9 h9 hq => hq.elim)
        obtain ⟨rfl, hz⟩ := hq
        show wp _ _ 71 [(1, .int (zI σ22 260 0 0 0)), (0, .ref (A 4 0 0))] [] _ _ _
        refine w_aload_n 1 dX4_check_71 rfl rfl rfl ?_
        refine g_X4_15 dX4_check_72 rfl (hz.o4 rfl) (hz.r257 rfl) ?_
        refine w_iload_n 0 dX4_check_75 rfl rfl rfl ?_
        obtain ⟨v49, σ50, e51, hr⟩ := bq_some hr
        refine c_X4_78 (As := [.int (zI σ22 260 0 0 0)]) (rest := []) (fun l => s_X3_endCheck  hz e51 l) hrm dX4_check_76 rfl rfl (Nat.le_of_ble_eq_true rfl) (Nat.le_of_ble_eq_true rfl) (Nat.le_of_ble_eq_true rfl) (hz.o3 rfl) rfl (Nat.le_of_ble_eq_true rfl) (fun vr h2 hq => ?_) (fun E9 h9 hq => hq.elim)
        obtain ⟨rfl, hz⟩ := hq
        show wp _ _ 79 [(1, .int (zI σ22 260 0 0 0)), (0, .ref (A 4 0 0))] [] _ _ _
        refine w_goto 86 dX4_check_79 rfl ?_
        refine w_vret hf dX4_check_86 rfl (Nat.le_of_ble_eq_true rfl) (Nat.le_of_ble_eq_true rfl) ?_
        obtain ⟨rfl, rfl⟩ := ret_inj hr
        exact ⟨rfl, hz⟩

set_option maxRecDepth 20000 in
set_option maxHeartbeats 4000000 in
theorem w_X4_step_45 {A : Nat → Nat → Nat → Nat} {ρ σ' : Zs} {v : Unit} {x : Cxt}   (hf : m_fin 0 0 (QV A v σ' ρ) X0 x) (hrm : m_rm 98 0 0 x)  : ∀ (y1 : Int32) (σ : Zs) (h : Hp), Rp A h σ ρ → fX4_step_45   y1 σ = some (v, σ') → wp x mX4_step 45 [(0, .ref (A 4 0 0)), (1, .int y1)] [] h 0 0 := by
  intro y1 σ h hz hr
  rw [fX4_step_45.eq_1] at hr
  refine w_aload_n 0 dX4_step_45 rfl rfl rfl ?_
  refine g_X4_15 dX4_step_46 rfl (hz.o4 rfl) (hz.r257 rfl) ?_
  refine w_iload_n 1 dX4_step_49 rfl rfl rfl ?_
  obtain ⟨v21, σ22, e23, hr⟩ := bq_some hr
  refine c_X4_81 (b := 0) (As := [.int y1]) (rest := [.ref (A 3 0 0)]) (fun l => s_X4_kindOfWork  hz e23 l) hrm dX4_step_50 rfl rfl (Nat.le_of_ble_eq_true rfl) (Nat.le_of_ble_eq_true rfl) (Nat.le_of_ble_eq_true rfl) rfl (Nat.le_of_ble_eq_true rfl) (fun vr h2 hq => ?_) (fun E9 h9 hq => hq.elim)
  obtain ⟨rfl, hz⟩ := hq
  show wp _ _ 53 [(0, .ref (A 4 0 0)), (1, .int y1)] [.int v21, .ref (A 3 0 0)] _ _ _
  refine w_aload_n 0 dX4_step_53 rfl rfl rfl ?_
  refine g_X4_44 dX4_step_54 rfl (hz.o4 rfl) (hz.i261 rfl) ?_
  obtain ⟨v25, σ26, e27, hr⟩ := bq_some hr
  refine c_X4_53 (As := [.int v21, .int (zI σ22 261 0 0 0)]) (rest := []) (fun l => s_X3_startWork  hz e27 l) hrm dX4_step_57 rfl rfl (Nat.le_of_ble_eq_true rfl) (Nat.le_of_ble_eq_true rfl) (Nat.le_of_ble_eq_true rfl) (hz.o3 rfl) rfl (Nat.le_of_ble_eq_true rfl) (fun vr h2 hq => ?_) (fun E9 h9 hq => hq.elim)
  obtain ⟨rfl, hz⟩ := hq
  show wp _ _ 60 [(0, .ref (A 4 0 0)), (1, .int y1)] [] _ _ _
  refine w_aload_n 0 dX4_step_60 rfl rfl rfl ?_
  refine w_iload_n 1 dX4_step_61 rfl rfl rfl ?_
  obtain ⟨v29, σ30, e31, hr⟩ := bq_some hr
  refine c_X4_57 (As := [.int y1]) (rest := []) (fun l => s_X4_take  hz e31 l) hrm dX4_step_62 rfl rfl (Nat.le_of_ble_eq_true rfl) (Nat.le_of_ble_eq_true rfl) (Nat.le_of_ble_eq_true rfl) (hz.o4 rfl) rfl (Nat.le_of_ble_eq_true rfl) (fun vr h2 hq => ?_) (fun E9 h9 hq => hq.elim)
  obtain ⟨rfl, hz⟩ := hq
  show wp _ _ 65 [(0, .ref (A 4 0 0)), (1, .int y1)] [] _ _ _
  refine w_aload_n 0 dX4_step_65 rfl rfl rfl ?_
  refine w_iconst 2 dX4_step_66 rfl rfl ?_
  obtain ⟨v33, σ34, e35, hr⟩ := bq_some hr
  refine c_X4_60 (As := [.int 2]) (rest := []) (fun l => s_X4_takeName  hz e35 l) hrm dX4_step_67 rfl rfl (Nat.le_of_ble_eq_true rfl) (Nat.le_of_ble_eq_true rfl) (Nat.le_of_ble_eq_true rfl) (hz.o4 rfl) rfl (Nat.le_of_ble_eq_true rfl) (fun vr h2 hq => ?_) (fun E9 h9 hq => hq.elim)
  obtain ⟨rfl, hz⟩ := hq
  show wp _ _ 70 [(0, .ref (A 4 0 0)), (1, .int y1)] [] _ _ _
  refine w_iload_n 1 dX4_step_70 rfl rfl rfl ?_
  by_cases q71_0 : (y1 : Int32) = 131
  · have hr := bt q71_0 hr
    refine w_tableIn 132 dX4_step_71 (by rw [q71_0]; decide) (by rw [q71_0]; decide) (by rw [q71_0]; rfl) rfl ?_
    refine w_aload_n 0 dX4_step_132 rfl rfl rfl ?_
    refine w_sipush 132 dX4_step_133 rfl rfl ?_
    obtain ⟨v37, σ38, e39, hr⟩ := bq_some hr
    refine c_X4_57 (As := [.int 132]) (rest := []) (fun l => s_X4_take  hz e39 l) hrm dX4_step_136 rfl rfl (Nat.le_of_ble_eq_true rfl) (Nat.le_of_ble_eq_true rfl) (Nat.le_of_ble_eq_true rfl) (hz.o4 rfl) rfl (Nat.le_of_ble_eq_true rfl) (fun vr h2 hq => ?_) (fun E9 h9 hq => hq.elim)
    obtain ⟨rfl, hz⟩ := hq
    show wp _ _ 139 [(0, .ref (A 4 0 0)), (1, .int y1)] [] _ _ _
    refine w_aload_n 0 dX4_step_139 rfl rfl rfl ?_
    obtain ⟨v41, σ42, e43, hr⟩ := bq_some hr
    refine c_X4_75 (As := []) (rest := []) (fun l => s_X4_wholeExpression  hz e43 l) hrm dX4_step_140 rfl rfl (Nat.le_of_ble_eq_true rfl) (Nat.le_of_ble_eq_true rfl) (Nat.le_of_ble_eq_true rfl) (hz.o4 rfl) rfl (Nat.le_of_ble_eq_true rfl) (fun vr h2 hq => ?_) (fun E9 h9 hq => hq.elim)
    obtain ⟨rfl, hz⟩ := hq
    show wp _ _ 143 [(0, .ref (A 4 0 0)), (1, .int y1)] [] _ _ _
    refine w_goto 223 dX4_step_143 rfl ?_
    refine w_aload_n 0 dX4_step_223 rfl rfl rfl ?_
    refine g_X4_15 dX4_step_224 rfl (hz.o4 rfl) (hz.r257 rfl) ?_
    obtain ⟨v45, σ46, e47, hr⟩ := bq_some hr
    refine c_X4_69 (As := []) (rest := []) (fun l => s_X3_endStream  hz e47 l) hrm dX4_step_227 rfl rfl (Nat.le_of_ble_eq_true rfl) (Nat.le_of_ble_eq_true rfl) (Nat.le_of_ble_eq_true rfl) (hz.o3 rfl) rfl (Nat.le_of_ble_eq_true rfl) (fun vr h2 hq => ?_) (fun E9 h9 hq => hq.elim)
    obtain ⟨rfl, hz⟩ := hq
    show wp _ _ 230 [(0, .ref (A 4 0 0)), (1, .int y1)] [] _ _ _
    refine w_vret hf dX4_step_230 rfl (Nat.le_of_ble_eq_true rfl) (Nat.le_of_ble_eq_true rfl) ?_
    obtain ⟨rfl, rfl⟩ := ret_inj hr
    exact ⟨rfl, hz⟩
  have hr := bf q71_0 hr
  by_cases q71_1 : (y1 : Int32) = 132
  · have hr := bt q71_1 hr
    refine w_tableIn 223 dX4_step_71 (by rw [q71_1]; decide) (by rw [q71_1]; decide) (by rw [q71_1]; rfl) rfl ?_
    refine w_aload_n 0 dX4_step_223 rfl rfl rfl ?_
    refine g_X4_15 dX4_step_224 rfl (hz.o4 rfl) (hz.r257 rfl) ?_
    obtain ⟨v49, σ50, e51, hr⟩ := bq_some hr
    refine c_X4_69 (As := []) (rest := []) (fun l => s_X3_endStream  hz e51 l) hrm dX4_step_227 rfl rfl (Nat.le_of_ble_eq_true rfl) (Nat.le_of_ble_eq_true rfl) (Nat.le_of_ble_eq_true rfl) (hz.o3 rfl) rfl (Nat.le_of_ble_eq_true rfl) (fun vr h2 hq => ?_) (fun E9 h9 hq => hq.elim)
    obtain ⟨rfl, hz⟩ := hq
    show wp _ _ 230 [(0, .ref (A 4 0 0)), (1, .int y1)] [] _ _ _
    refine w_vret hf dX4_step_230 rfl (Nat.le_of_ble_eq_true rfl) (Nat.le_of_ble_eq_true rfl) ?_
    obtain ⟨rfl, rfl⟩ := ret_inj hr
    exact ⟨rfl, hz⟩
  have hr := bf q71_1 hr
  by_cases q71_2 : (y1 : Int32) = 133
  · have hr := bt q71_2 hr
    refine w_tableIn 146 dX4_step_71 (by rw [q71_2]; decide) (by rw [q71_2]; decide) (by rw [q71_2]; rfl) rfl ?_
    refine w_aload_n 0 dX4_step_146 rfl rfl rfl ?_
    obtain ⟨v53, σ54, e55, hr⟩ := bq_some hr
    refine c_X4_85 (As := []) (rest := []) (fun l => s_X4_newColumns  hz e55 l) hrm dX4_step_147 rfl rfl (Nat.le_of_ble_eq_true rfl) (Nat.le_of_ble_eq_true rfl) (Nat.le_of_ble_eq_true rfl) (hz.o4 rfl) rfl (Nat.le_of_ble_eq_true rfl) (fun vr h2 hq => ?_) (fun E9 h9 hq => hq.elim)
    obtain ⟨rfl, hz⟩ := hq
    show wp _ _ 150 [(0, .ref (A 4 0 0)), (1, .int y1)] [] _ _ _
    refine w_goto 223 dX4_step_150 rfl ?_
    refine w_aload_n 0 dX4_step_223 rfl rfl rfl ?_
    refine g_X4_15 dX4_step_224 rfl (hz.o4 rfl) (hz.r257 rfl) ?_
    obtain ⟨v57, σ58, e59, hr⟩ := bq_some hr
    refine c_X4_69 (As := []) (rest := []) (fun l => s_X3_endStream  hz e59 l) hrm dX4_step_227 rfl rfl (Nat.le_of_ble_eq_true rfl) (Nat.le_of_ble_eq_true rfl) (Nat.le_of_ble_eq_true rfl) (hz.o3 rfl) rfl (Nat.le_of_ble_eq_true rfl) (fun vr h2 hq => ?_) (fun E9 h9 hq => hq.elim)
    obtain ⟨rfl, hz⟩ := hq
    show wp _ _ 230 [(0, .ref (A 4 0 0)), (1, .int y1)] [] _ _ _
    refine w_vret hf dX4_step_230 rfl (Nat.le_of_ble_eq_true rfl) (Nat.le_of_ble_eq_true rfl) ?_
    obtain ⟨rfl, rfl⟩ := ret_inj hr
    exact ⟨rfl, hz⟩
  have hr := bf q71_2 hr
  by_cases q71_3 : (y1 : Int32) = 134
  · have hr := bt q71_3 hr
    refine w_tableIn 223 dX4_step_71 (by rw [q71_3]; decide) (by rw [q71_3]; decide) (by rw [q71_3]; rfl) rfl ?_
    refine w_aload_n 0 dX4_step_223 rfl rfl rfl ?_
    refine g_X4_15 dX4_step_224 rfl (hz.o4 rfl) (hz.r257 rfl) ?_
    obtain ⟨v61, σ62, e63, hr⟩ := bq_some hr
    refine c_X4_69 (As := []) (rest := []) (fun l => s_X3_endStream  hz e63 l) hrm dX4_step_227 rfl rfl (Nat.le_of_ble_eq_true rfl) (Nat.le_of_ble_eq_true rfl) (Nat.le_of_ble_eq_true rfl) (hz.o3 rfl) rfl (Nat.le_of_ble_eq_true rfl) (fun vr h2 hq => ?_) (fun E9 h9 hq => hq.elim)
    obtain ⟨rfl, hz⟩ := hq
    show wp _ _ 230 [(0, .ref (A 4 0 0)), (1, .int y1)] [] _ _ _
    refine w_vret hf dX4_step_230 rfl (Nat.le_of_ble_eq_true rfl) (Nat.le_of_ble_eq_true rfl) ?_
    obtain ⟨rfl, rfl⟩ := ret_inj hr
    exact ⟨rfl, hz⟩
  have hr := bf q71_3 hr
  by_cases q71_4 : (y1 : Int32) = 135
  · have hr := bt q71_4 hr
    refine w_tableIn 153 dX4_step_71 (by rw [q71_4]; decide) (by rw [q71_4]; decide) (by rw [q71_4]; rfl) rfl ?_
    refine w_aload_n 0 dX4_step_153 rfl rfl rfl ?_
    refine w_iconst 5 dX4_step_154 rfl rfl ?_
    obtain ⟨v65, σ66, e67, hr⟩ := bq_some hr
    refine c_X4_63 (As := [.int 5]) (rest := []) (fun l => s_X4_takeNames  hz e67 l) hrm dX4_step_155 rfl rfl (Nat.le_of_ble_eq_true rfl) (Nat.le_of_ble_eq_true rfl) (Nat.le_of_ble_eq_true rfl) (hz.o4 rfl) rfl (Nat.le_of_ble_eq_true rfl) (fun vr h2 hq => ?_) (fun E9 h9 hq => hq.elim)
    obtain ⟨rfl, hz⟩ := hq
    show wp _ _ 158 [(0, .ref (A 4 0 0)), (1, .int y1)] [] _ _ _
    refine w_goto 223 dX4_step_158 rfl ?_
    refine w_aload_n 0 dX4_step_223 rfl rfl rfl ?_
    refine g_X4_15 dX4_step_224 rfl (hz.o4 rfl) (hz.r257 rfl) ?_
    obtain ⟨v69, σ70, e71, hr⟩ := bq_some hr
    refine c_X4_69 (As := []) (rest := []) (fun l => s_X3_endStream  hz e71 l) hrm dX4_step_227 rfl rfl (Nat.le_of_ble_eq_true rfl) (Nat.le_of_ble_eq_true rfl) (Nat.le_of_ble_eq_true rfl) (hz.o3 rfl) rfl (Nat.le_of_ble_eq_true rfl) (fun vr h2 hq => ?_) (fun E9 h9 hq => hq.elim)
    obtain ⟨rfl, hz⟩ := hq
    show wp _ _ 230 [(0, .ref (A 4 0 0)), (1, .int y1)] [] _ _ _
    refine w_vret hf dX4_step_230 rfl (Nat.le_of_ble_eq_true rfl) (Nat.le_of_ble_eq_true rfl) ?_
    obtain ⟨rfl, rfl⟩ := ret_inj hr
    exact ⟨rfl, hz⟩
  have hr := bf q71_4 hr
  by_cases q71_5 : (y1 : Int32) = 136
  · have hr := bt q71_5 hr
    refine w_tableIn 161 dX4_step_71 (by rw [q71_5]; decide) (by rw [q71_5]; decide) (by rw [q71_5]; rfl) rfl ?_
    refine w_aload_n 0 dX4_step_161 rfl rfl rfl ?_
    obtain ⟨v73, σ74, e75, hr⟩ := bq_some hr
    refine c_X4_88 (As := []) (rest := []) (fun l => s_X4_secondInput  hz e75 l) hrm dX4_step_162 rfl rfl (Nat.le_of_ble_eq_true rfl) (Nat.le_of_ble_eq_true rfl) (Nat.le_of_ble_eq_true rfl) (hz.o4 rfl) rfl (Nat.le_of_ble_eq_true rfl) (fun vr h2 hq => ?_) (fun E9 h9 hq => hq.elim)
    obtain ⟨rfl, hz⟩ := hq
    show wp _ _ 165 [(0, .ref (A 4 0 0)), (1, .int y1)] [] _ _ _
    refine w_goto 223 dX4_step_165 rfl ?_
    refine w_aload_n 0 dX4_step_223 rfl rfl rfl ?_
    refine g_X4_15 dX4_step_224 rfl (hz.o4 rfl) (hz.r257 rfl) ?_
    obtain ⟨v77, σ78, e79, hr⟩ := bq_some hr
    refine c_X4_69 (As := []) (rest := []) (fun l => s_X3_endStream  hz e79 l) hrm dX4_step_227 rfl rfl (Nat.le_of_ble_eq_true rfl) (Nat.le_of_ble_eq_true rfl) (Nat.le_of_ble_eq_true rfl) (hz.o3 rfl) rfl (Nat.le_of_ble_eq_true rfl) (fun vr h2 hq => ?_) (fun E9 h9 hq => hq.elim)
    obtain ⟨rfl, hz⟩ := hq
    show wp _ _ 230 [(0, .ref (A 4 0 0)), (1, .int y1)] [] _ _ _
    refine w_vret hf dX4_step_230 rfl (Nat.le_of_ble_eq_true rfl) (Nat.le_of_ble_eq_true rfl) ?_
    obtain ⟨rfl, rfl⟩ := ret_inj hr
    exact ⟨rfl, hz⟩
  have hr := bf q71_5 hr
  by_cases q71_6 : (y1 : Int32) = 137
  · have hr := bt q71_6 hr
    refine w_tableIn 168 dX4_step_71 (by rw [q71_6]; decide) (by rw [q71_6]; decide) (by rw [q71_6]; rfl) rfl ?_
    refine w_aload_n 0 dX4_step_168 rfl rfl rfl ?_
    obtain ⟨v81, σ82, e83, hr⟩ := bq_some hr
    refine c_X4_88 (As := []) (rest := []) (fun l => s_X4_secondInput  hz e83 l) hrm dX4_step_169 rfl rfl (Nat.le_of_ble_eq_true rfl) (Nat.le_of_ble_eq_true rfl) (Nat.le_of_ble_eq_true rfl) (hz.o4 rfl) rfl (Nat.le_of_ble_eq_true rfl) (fun vr h2 hq => ?_) (fun E9 h9 hq => hq.elim)
    obtain ⟨rfl, hz⟩ := hq
    show wp _ _ 172 [(0, .ref (A 4 0 0)), (1, .int y1)] [] _ _ _
    refine w_aload_n 0 dX4_step_172 rfl rfl rfl ?_
    refine w_sipush 138 dX4_step_173 rfl rfl ?_
    obtain ⟨v85, σ86, e87, hr⟩ := bq_some hr
    refine c_X4_57 (As := [.int 138]) (rest := []) (fun l => s_X4_take  hz e87 l) hrm dX4_step_176 rfl rfl (Nat.le_of_ble_eq_true rfl) (Nat.le_of_ble_eq_true rfl) (Nat.le_of_ble_eq_true rfl) (hz.o4 rfl) rfl (Nat.le_of_ble_eq_true rfl) (fun vr h2 hq => ?_) (fun E9 h9 hq => hq.elim)
    obtain ⟨rfl, hz⟩ := hq
    show wp _ _ 179 [(0, .ref (A 4 0 0)), (1, .int y1)] [] _ _ _
    refine w_aload_n 0 dX4_step_179 rfl rfl rfl ?_
    refine w_iconst 4 dX4_step_180 rfl rfl ?_
    obtain ⟨v89, σ90, e91, hr⟩ := bq_some hr
    refine c_X4_60 (As := [.int 4]) (rest := []) (fun l => s_X4_takeName  hz e91 l) hrm dX4_step_181 rfl rfl (Nat.le_of_ble_eq_true rfl) (Nat.le_of_ble_eq_true rfl) (Nat.le_of_ble_eq_true rfl) (hz.o4 rfl) rfl (Nat.le_of_ble_eq_true rfl) (fun vr h2 hq => ?_) (fun E9 h9 hq => hq.elim)
    obtain ⟨rfl, hz⟩ := hq
    show wp _ _ 184 [(0, .ref (A 4 0 0)), (1, .int y1)] [] _ _ _
    refine w_aload_n 0 dX4_step_184 rfl rfl rfl ?_
    refine w_sipush 139 dX4_step_185 rfl rfl ?_
    obtain ⟨v93, σ94, e95, hr⟩ := bq_some hr
    refine c_X4_66 (As := [.int 139]) (rest := []) (fun l => s_X4_takeRange  hz e95 l) hrm dX4_step_188 rfl rfl (Nat.le_of_ble_eq_true rfl) (Nat.le_of_ble_eq_true rfl) (Nat.le_of_ble_eq_true rfl) (hz.o4 rfl) rfl (Nat.le_of_ble_eq_true rfl) (fun vr h2 hq => ?_) (fun E9 h9 hq => hq.elim)
    obtain ⟨rfl, hz⟩ := hq
    show wp _ _ 191 [(0, .ref (A 4 0 0)), (1, .int y1)] [] _ _ _
    refine w_goto 223 dX4_step_191 rfl ?_
    refine w_aload_n 0 dX4_step_223 rfl rfl rfl ?_
    refine g_X4_15 dX4_step_224 rfl (hz.o4 rfl) (hz.r257 rfl) ?_
    obtain ⟨v97, σ98, e99, hr⟩ := bq_some hr
    refine c_X4_69 (As := []) (rest := []) (fun l => s_X3_endStream  hz e99 l) hrm dX4_step_227 rfl rfl (Nat.le_of_ble_eq_true rfl) (Nat.le_of_ble_eq_true rfl) (Nat.le_of_ble_eq_true rfl) (hz.o3 rfl) rfl (Nat.le_of_ble_eq_true rfl) (fun vr h2 hq => ?_) (fun E9 h9 hq => hq.elim)
    obtain ⟨rfl, hz⟩ := hq
    show wp _ _ 230 [(0, .ref (A 4 0 0)), (1, .int y1)] [] _ _ _
    refine w_vret hf dX4_step_230 rfl (Nat.le_of_ble_eq_true rfl) (Nat.le_of_ble_eq_true rfl) ?_
    obtain ⟨rfl, rfl⟩ := ret_inj hr
    exact ⟨rfl, hz⟩
  have hr := bf q71_6 hr
  by_cases q71_7 : (y1 : Int32) = 138
  · have hr := bt q71_7 hr
    refine w_tableIn 223 dX4_step_71 (by rw [q71_7]; decide) (by rw [q71_7]; decide) (by rw [q71_7]; rfl) rfl ?_
    refine w_aload_n 0 dX4_step_223 rfl rfl rfl ?_
    refine g_X4_15 dX4_step_224 rfl (hz.o4 rfl) (hz.r257 rfl) ?_
    obtain ⟨v101, σ102, e103, hr⟩ := bq_some hr
    refine c_X4_69 (As := []) (rest := []) (fun l => s_X3_endStream  hz e103 l) hrm dX4_step_227 rfl rfl (Nat.le_of_ble_eq_true rfl) (Nat.le_of_ble_eq_true rfl) (Nat.le_of_ble_eq_true rfl) (hz.o3 rfl) rfl (Nat.le_of_ble_eq_true rfl) (fun vr h2 hq => ?_) (fun E9 h9 hq => hq.elim)
    obtain ⟨rfl, hz⟩ := hq
    show wp _ _ 230 [(0, .ref (A 4 0 0)), (1, .int y1)] [] _ _ _
    refine w_vret hf dX4_step_230 rfl (Nat.le_of_ble_eq_true rfl) (Nat.le_of_ble_eq_true rfl) ?_
    obtain ⟨rfl, rfl⟩ := ret_inj hr
    exact ⟨rfl, hz⟩
  have hr := bf q71_7 hr
  by_cases q71_8 : (y1 : Int32) = 139
  · have hr := bt q71_8 hr
    refine w_tableIn 223 dX4_step_71 (by rw [q71_8]; decide) (by rw [q71_8]; decide) (by rw [q71_8]; rfl) rfl ?_
    refine w_aload_n 0 dX4_step_223 rfl rfl rfl ?_
    refine g_X4_15 dX4_step_224 rfl (hz.o4 rfl) (hz.r257 rfl) ?_
    obtain ⟨v105, σ106, e107, hr⟩ := bq_some hr
    refine c_X4_69 (As := []) (rest := []) (fun l => s_X3_endStream  hz e107 l) hrm dX4_step_227 rfl rfl (Nat.le_of_ble_eq_true rfl) (Nat.le_of_ble_eq_true rfl) (Nat.le_of_ble_eq_true rfl) (hz.o3 rfl) rfl (Nat.le_of_ble_eq_true rfl) (fun vr h2 hq => ?_) (fun E9 h9 hq => hq.elim)
    obtain ⟨rfl, hz⟩ := hq
    show wp _ _ 230 [(0, .ref (A 4 0 0)), (1, .int y1)] [] _ _ _
    refine w_vret hf dX4_step_230 rfl (Nat.le_of_ble_eq_true rfl) (Nat.le_of_ble_eq_true rfl) ?_
    obtain ⟨rfl, rfl⟩ := ret_inj hr
    exact ⟨rfl, hz⟩
  have hr := bf q71_8 hr
  by_cases q71_9 : (y1 : Int32) = 140
  · have hr := bt q71_9 hr
    refine w_tableIn 194 dX4_step_71 (by rw [q71_9]; decide) (by rw [q71_9]; decide) (by rw [q71_9]; rfl) rfl ?_
    refine w_aload_n 0 dX4_step_194 rfl rfl rfl ?_
    refine w_sipush 141 dX4_step_195 rfl rfl ?_
    obtain ⟨v109, σ110, e111, hr⟩ := bq_some hr
    refine c_X4_57 (As := [.int 141]) (rest := []) (fun l => s_X4_take  hz e111 l) hrm dX4_step_198 rfl rfl (Nat.le_of_ble_eq_true rfl) (Nat.le_of_ble_eq_true rfl) (Nat.le_of_ble_eq_true rfl) (hz.o4 rfl) rfl (Nat.le_of_ble_eq_true rfl) (fun vr h2 hq => ?_) (fun E9 h9 hq => hq.elim)
    obtain ⟨rfl, hz⟩ := hq
    show wp _ _ 201 [(0, .ref (A 4 0 0)), (1, .int y1)] [] _ _ _
    refine w_aload_n 0 dX4_step_201 rfl rfl rfl ?_
    refine w_iconst 4 dX4_step_202 rfl rfl ?_
    obtain ⟨v113, σ114, e115, hr⟩ := bq_some hr
    refine c_X4_60 (As := [.int 4]) (rest := []) (fun l => s_X4_takeName  hz e115 l) hrm dX4_step_203 rfl rfl (Nat.le_of_ble_eq_true rfl) (Nat.le_of_ble_eq_true rfl) (Nat.le_of_ble_eq_true rfl) (hz.o4 rfl) rfl (Nat.le_of_ble_eq_true rfl) (fun vr h2 hq => ?_) (fun E9 h9 hq => hq.elim)
    obtain ⟨rfl, hz⟩ := hq
    show wp _ _ 206 [(0, .ref (A 4 0 0)), (1, .int y1)] [] _ _ _
    refine w_aload_n 0 dX4_step_206 rfl rfl rfl ?_
    refine w_sipush 139 dX4_step_207 rfl rfl ?_
    obtain ⟨v117, σ118, e119, hr⟩ := bq_some hr
    refine c_X4_66 (As := [.int 139]) (rest := []) (fun l => s_X4_takeRange  hz e119 l) hrm dX4_step_210 rfl rfl (Nat.le_of_ble_eq_true rfl) (Nat.le_of_ble_eq_true rfl) (Nat.le_of_ble_eq_true rfl) (hz.o4 rfl) rfl (Nat.le_of_ble_eq_true rfl) (fun vr h2 hq => ?_) (fun E9 h9 hq => hq.elim)
    obtain ⟨rfl, hz⟩ := hq
    show wp _ _ 213 [(0, .ref (A 4 0 0)), (1, .int y1)] [] _ _ _
    refine w_goto 223 dX4_step_213 rfl ?_
    refine w_aload_n 0 dX4_step_223 rfl rfl rfl ?_
    refine g_X4_15 dX4_step_224 rfl (hz.o4 rfl) (hz.r257 rfl) ?_
    obtain ⟨v121, σ122, e123, hr⟩ := bq_some hr
    refine c_X4_69 (As := []) (rest := []) (fun l => s_X3_endStream  hz e123 l) hrm dX4_step_227 rfl rfl (Nat.le_of_ble_eq_true rfl) (Nat.le_of_ble_eq_true rfl) (Nat.le_of_ble_eq_true rfl) (hz.o3 rfl) rfl (Nat.le_of_ble_eq_true rfl) (fun vr h2 hq => ?_) (fun E9 h9 hq => hq.elim)
    obtain ⟨rfl, hz⟩ := hq
    show wp _ _ 230 [(0, .ref (A 4 0 0)), (1, .int y1)] [] _ _ _
    refine w_vret hf dX4_step_230 rfl (Nat.le_of_ble_eq_true rfl) (Nat.le_of_ble_eq_true rfl) ?_
    obtain ⟨rfl, rfl⟩ := ret_inj hr
    exact ⟨rfl, hz⟩
  have hr := bf q71_9 hr
  by_cases q71_10 : (y1 : Int32) = 141
  · have hr := bt q71_10 hr
    refine w_tableIn 223 dX4_step_71 (by rw [q71_10]; decide) (by rw [q71_10]; decide) (by rw [q71_10]; rfl) rfl ?_
    refine w_aload_n 0 dX4_step_223 rfl rfl rfl ?_
    refine g_X4_15 dX4_step_224 rfl (hz.o4 rfl) (hz.r257 rfl) ?_
    obtain ⟨v125, σ126, e127, hr⟩ := bq_some hr
    refine c_X4_69 (As := []) (rest := []) (fun l => s_X3_endStream  hz e127 l) hrm dX4_step_227 rfl rfl (Nat.le_of_ble_eq_true rfl) (Nat.le_of_ble_eq_true rfl) (Nat.le_of_ble_eq_true rfl) (hz.o3 rfl) rfl (Nat.le_of_ble_eq_true rfl) (fun vr h2 hq => ?_) (fun E9 h9 hq => hq.elim)
    obtain ⟨rfl, hz⟩ := hq
    show wp _ _ 230 [(0, .ref (A 4 0 0)), (1, .int y1)] [] _ _ _
    refine w_vret hf dX4_step_230 rfl (Nat.le_of_ble_eq_true rfl) (Nat.le_of_ble_eq_true rfl) ?_
    obtain ⟨rfl, rfl⟩ := ret_inj hr
    exact ⟨rfl, hz⟩
  have hr := bf q71_10 hr
  by_cases q71_11 : (y1 : Int32) = 142
  · have hr := bt q71_11 hr
    refine w_tableIn 216 dX4_step_71 (by rw [q71_11]; decide) (by rw [q71_11]; decide) (by rw [q71_11]; rfl) rfl ?_
    refine w_aload_n 0 dX4_step_216 rfl rfl rfl ?_
    obtain ⟨v129, σ130, e131, hr⟩ := bq_some hr
    refine c_X4_91 (As := []) (rest := []) (fun l => s_X4_window  hz e131 l) hrm dX4_step_217 rfl rfl (Nat.le_of_ble_eq_true rfl) (Nat.le_of_ble_eq_true rfl) (Nat.le_of_ble_eq_true rfl) (hz.o4 rfl) rfl (Nat.le_of_ble_eq_true rfl) (fun vr h2 hq => ?_) (fun E9 h9 hq => hq.elim)
    obtain ⟨rfl, hz⟩ := hq
    show wp _ _ 220 [(0, .ref (A 4 0 0)), (1, .int y1)] [] _ _ _
    refine w_goto 223 dX4_step_220 rfl ?_
    refine w_aload_n 0 dX4_step_223 rfl rfl rfl ?_
    refine g_X4_15 dX4_step_224 rfl (hz.o4 rfl) (hz.r257 rfl) ?_
    obtain ⟨v133, σ134, e135, hr⟩ := bq_some hr
    refine c_X4_69 (As := []) (rest := []) (fun l => s_X3_endStream  hz e135 l) hrm dX4_step_227 rfl rfl (Nat.le_of_ble_eq_true rfl) (Nat.le_of_ble_eq_true rfl) (Nat.le_of_ble_eq_true rfl) (hz.o3 rfl) rfl (Nat.le_of_ble_eq_true rfl) (fun vr h2 hq => ?_) (fun E9 h9 hq => hq.elim)
    obtain ⟨rfl, hz⟩ := hq
    show wp _ _ 230 [(0, .ref (A 4 0 0)), (1, .int y1)] [] _ _ _
    refine w_vret hf dX4_step_230 rfl (Nat.le_of_ble_eq_true rfl) (Nat.le_of_ble_eq_true rfl) ?_
    obtain ⟨rfl, rfl⟩ := ret_inj hr
    exact ⟨rfl, hz⟩
  have hr := bf q71_11 hr
  refine w_tableOut 223 dX4_step_71 (tabout 131 142 (fun k h1 h2 => by
        intro e
        have h3 : k = 131 ∨ k = 132 ∨ k = 133 ∨ k = 134 ∨ k = 135 ∨ k = 136 ∨ k = 137 ∨ k = 138 ∨ k = 139 ∨ k = 140 ∨ k = 141 ∨ k = 142 := by omega
        rcases h3 with h3 | h3 | h3 | h3 | h3 | h3 | h3 | h3 | h3 | h3 | h3 | h3 <;> subst h3 <;> contradiction)) rfl ?_
  refine w_aload_n 0 dX4_step_223 rfl rfl rfl ?_
  refine g_X4_15 dX4_step_224 rfl (hz.o4 rfl) (hz.r257 rfl) ?_
  obtain ⟨v137, σ138, e139, hr⟩ := bq_some hr
  refine c_X4_69 (As := []) (rest := []) (fun l => s_X3_endStream  hz e139 l) hrm dX4_step_227 rfl rfl (Nat.le_of_ble_eq_true rfl) (Nat.le_of_ble_eq_true rfl) (Nat.le_of_ble_eq_true rfl) (hz.o3 rfl) rfl (Nat.le_of_ble_eq_true rfl) (fun vr h2 hq => ?_) (fun E9 h9 hq => hq.elim)
  obtain ⟨rfl, hz⟩ := hq
  show wp _ _ 230 [(0, .ref (A 4 0 0)), (1, .int y1)] [] _ _ _
  refine w_vret hf dX4_step_230 rfl (Nat.le_of_ble_eq_true rfl) (Nat.le_of_ble_eq_true rfl) ?_
  obtain ⟨rfl, rfl⟩ := ret_inj hr
  exact ⟨rfl, hz⟩
set_option maxRecDepth 20000 in
set_option maxHeartbeats 4000000 in
theorem s_X4_step {A : Nat → Nat → Nat → Nat} {h : Hp} {σ ρ σ' : Zs} {v : Unit}   (hz : Rp A h σ ρ) (hr : fX4_step  σ = some (v, σ')) : ∀ l : Launch, Sp l mX4_step 98 0 0 [.ref (A 4 0 0)] h (QV A v σ' ρ) X0 := by
  intro l
  refine Sp.of rfl rfl (lv := [(0, .ref (A 4 0 0))]) (Nat.le_of_ble_eq_true rfl) rfl (fun x hf hrm => ?_)
  rw [fX4_step.eq_1] at hr
  refine w_aload_n 0 dX4_step_0 rfl rfl rfl ?_
  refine g_X4_15 dX4_step_1 rfl (hz.o4 rfl) (hz.r257 rfl) ?_
  refine w_aload_n 0 dX4_step_4 rfl rfl rfl ?_
  refine g_X4_44 dX4_step_5 rfl (hz.o4 rfl) (hz.i261 rfl) ?_
  obtain ⟨v1, σ2, e3, hr⟩ := bq_some hr
  refine c_X4_47 (As := [.int (zI σ 261 0 0 0)]) (rest := []) (fun l => s_X3_startStream  hz e3 l) hrm dX4_step_8 rfl rfl (Nat.le_of_ble_eq_true rfl) (Nat.le_of_ble_eq_true rfl) (Nat.le_of_ble_eq_true rfl) (hz.o3 rfl) rfl (Nat.le_of_ble_eq_true rfl) (fun vr h2 hq => ?_) (fun E9 h9 hq => hq.elim)
  obtain ⟨rfl, hz⟩ := hq
  show wp _ _ 11 [(0, .ref (A 4 0 0))] [] _ _ _
  refine w_aload_n 0 dX4_step_11 rfl rfl rfl ?_
  refine w_sipush 130 dX4_step_12 rfl rfl ?_
  obtain ⟨v5, σ6, e7, hr⟩ := bq_some hr
  refine c_X4_57 (As := [.int 130]) (rest := []) (fun l => s_X4_take  hz e7 l) hrm dX4_step_15 rfl rfl (Nat.le_of_ble_eq_true rfl) (Nat.le_of_ble_eq_true rfl) (Nat.le_of_ble_eq_true rfl) (hz.o4 rfl) rfl (Nat.le_of_ble_eq_true rfl) (fun vr h2 hq => ?_) (fun E9 h9 hq => hq.elim)
  obtain ⟨rfl, hz⟩ := hq
  show wp _ _ 18 [(0, .ref (A 4 0 0))] [] _ _ _
  refine w_aload_n 0 dX4_step_18 rfl rfl rfl ?_
  refine w_iconst 0 dX4_step_19 rfl rfl ?_
  obtain ⟨v9, σ10, e11, hr⟩ := bq_some hr
  refine c_X4_60 (As := [.int 0]) (rest := []) (fun l => s_X4_takeName  hz e11 l) hrm dX4_step_20 rfl rfl (Nat.le_of_ble_eq_true rfl) (Nat.le_of_ble_eq_true rfl) (Nat.le_of_ble_eq_true rfl) (hz.o4 rfl) rfl (Nat.le_of_ble_eq_true rfl) (fun vr h2 hq => ?_) (fun E9 h9 hq => hq.elim)
  obtain ⟨rfl, hz⟩ := hq
  show wp _ _ 23 [(0, .ref (A 4 0 0))] [] _ _ _
  refine w_aload_n 0 dX4_step_23 rfl rfl rfl ?_
  refine w_bipush 61 dX4_step_24 rfl rfl ?_
  obtain ⟨v13, σ14, e15, hr⟩ := bq_some hr
  refine c_X4_57 (As := [.int 61]) (rest := []) (fun l => s_X4_take  hz e15 l) hrm dX4_step_26 rfl rfl (Nat.le_of_ble_eq_true rfl) (Nat.le_of_ble_eq_true rfl) (Nat.le_of_ble_eq_true rfl) (hz.o4 rfl) rfl (Nat.le_of_ble_eq_true rfl) (fun vr h2 hq => ?_) (fun E9 h9 hq => hq.elim)
  obtain ⟨rfl, hz⟩ := hq
  show wp _ _ 29 [(0, .ref (A 4 0 0))] [] _ _ _
  refine w_aload_n 0 dX4_step_29 rfl rfl rfl ?_
  refine g_X4_29 dX4_step_30 rfl (hz.o4 rfl) (hz.i260 rfl) ?_
  refine w_istore_n [(1, .int (zI σ14 260 0 0 0)), (0, .ref (A 4 0 0))] dX4_step_33 rfl rfl (by decide) rfl ?_
  refine w_iload_n 0 dX4_step_34 rfl rfl rfl ?_
  obtain ⟨v17, σ18, e19, hr⟩ := bq_some hr
  refine c_X4_81 (b := 0) (As := [.int (zI σ14 260 0 0 0)]) (rest := []) (fun l => s_X4_kindOfWork  hz e19 l) hrm dX4_step_35 rfl rfl (Nat.le_of_ble_eq_true rfl) (Nat.le_of_ble_eq_true rfl) (Nat.le_of_ble_eq_true rfl) rfl (Nat.le_of_ble_eq_true rfl) (fun vr h2 hq => ?_) (fun E9 h9 hq => hq.elim)
  obtain ⟨rfl, hz⟩ := hq
  show wp _ _ 38 [(1, .int (zI σ14 260 0 0 0)), (0, .ref (A 4 0 0))] [.int v17] _ _ _
  refine w_if_ne 45 dX4_step_38 rfl rfl (fun q38 => ?_) (fun q38 => ?_)
  · have hr := bf q38 hr
    refine w_lv [(0, .ref (A 4 0 0)), (1, .int (zI σ14 260 0 0 0))] [1, 0] rfl ?_
    exact w_X4_step_45 hf hrm   (zI σ14 260 0 0 0) _ _ hz  hr
  · have hr := bt q38 hr
    refine w_aload_n 1 dX4_step_41 rfl rfl rfl ?_
    obtain ⟨v141, σ142, e143, hr⟩ := bq_some hr
    refine c_X4_41 (As := []) (rest := []) (fun l => s_X4_fail  hz e143 l) hrm dX4_step_42 rfl rfl (Nat.le_of_ble_eq_true rfl) (Nat.le_of_ble_eq_true rfl) (Nat.le_of_ble_eq_true rfl) (hz.o4 rfl) rfl (Nat.le_of_ble_eq_true rfl) (fun vr h2 hq => ?_) (fun E9 h9 hq => hq.elim)
    obtain ⟨rfl, hz⟩ := hq
    show wp _ _ 45 [(1, .int (zI σ14 260 0 0 0)), (0, .ref (A 4 0 0))] [] _ _ _
    refine w_lv [(0, .ref (A 4 0 0)), (1, .int (zI σ14 260 0 0 0))] [1, 0] rfl ?_
    exact w_X4_step_45 hf hrm   (zI σ14 260 0 0 0) _ _ hz  hr

set_option maxRecDepth 20000 in
set_option maxHeartbeats 4000000 in
theorem w_X4_parse_41 {A : Nat → Nat → Nat → Nat} {ρ σ' : Zs} {v : Int32} {x : Cxt}  {k16 : Int32 → Zs → Option (Int32 × Zs)}  (hf : m_fin 0 0 (QI A v σ' ρ) X0 x) (hrm : m_rm 99 0 0 x)  (hk16 : ∀ (y1 : Int32) (σ : Zs) (h : Hp), Rp A h σ ρ → k16 y1 σ = some (v, σ') → wp x mX4_parse 16 [(0, .ref (A 4 0 0)), (1, .int y1)] [] h 0 0) : ∀ (y1 : Int32) (σ : Zs) (h : Hp), Rp A h σ ρ → fX4_parse_41  k16 y1 σ = some (v, σ') → wp x mX4_parse 41 [(0, .ref (A 4 0 0)), (1, .int y1)] [] h 0 0 := by
  intro y1 σ h hz hr
  rw [fX4_parse_41.eq_1] at hr
  refine w_aload_n 0 dX4_parse_41 rfl rfl rfl ?_
  refine g_X4_29 dX4_parse_42 rfl (hz.o4 rfl) (hz.i260 rfl) ?_
  by_cases q45_0 : ((zI σ 260 0 0 0) : Int32) = 128
  · have hr := bt q45_0 hr
    refine w_lookup 80 dX4_parse_45 (by decide) (by rw [q45_0] <;> rfl) rfl ?_
    refine w_aload_n 0 dX4_parse_80 rfl rfl rfl ?_
    obtain ⟨v9, σ10, e11, hr⟩ := bq_some hr
    refine c_X4_32 (As := []) (rest := []) (fun l => s_X4_source  hz e11 l) hrm dX4_parse_81 rfl rfl (Nat.le_of_ble_eq_true rfl) (Nat.le_of_ble_eq_true rfl) (Nat.le_of_ble_eq_true rfl) (hz.o4 rfl) rfl (Nat.le_of_ble_eq_true rfl) (fun vr h2 hq => ?_) (fun E9 h9 hq => hq.elim)
    obtain ⟨rfl, hz⟩ := hq
    show wp _ _ 84 [(0, .ref (A 4 0 0)), (1, .int y1)] [] _ _ _
    refine w_goto 105 dX4_parse_84 rfl ?_
    refine w_iinc 1 (y1 + 1) [(1, .int (y1 + 1)), (0, .ref (A 4 0 0))] dX4_parse_105 rfl rfl rfl (by decide) rfl ?_
    refine w_goto 16 dX4_parse_108 rfl ?_
    refine w_lv [(0, .ref (A 4 0 0)), (1, .int (y1 + 1))] [1, 0] rfl ?_
    exact hk16 (y1 + 1) _ _ hz  hr
  have hr := bf q45_0 hr
  by_cases q45_1 : ((zI σ 260 0 0 0) : Int32) = 130
  · have hr := bt q45_1 hr
    refine w_lookup 87 dX4_parse_45 (by decide) (by rw [q45_1] <;> rfl) rfl ?_
    refine w_aload_n 0 dX4_parse_87 rfl rfl rfl ?_
    obtain ⟨v13, σ14, e15, hr⟩ := bq_some hr
    refine c_X4_35 (As := []) (rest := []) (fun l => s_X4_step  hz e15 l) hrm dX4_parse_88 rfl rfl (Nat.le_of_ble_eq_true rfl) (Nat.le_of_ble_eq_true rfl) (Nat.le_of_ble_eq_true rfl) (hz.o4 rfl) rfl (Nat.le_of_ble_eq_true rfl) (fun vr h2 hq => ?_) (fun E9 h9 hq => hq.elim)
    obtain ⟨rfl, hz⟩ := hq
    show wp _ _ 91 [(0, .ref (A 4 0 0)), (1, .int y1)] [] _ _ _
    refine w_goto 105 dX4_parse_91 rfl ?_
    refine w_iinc 1 (y1 + 1) [(1, .int (y1 + 1)), (0, .ref (A 4 0 0))] dX4_parse_105 rfl rfl rfl (by decide) rfl ?_
    refine w_goto 16 dX4_parse_108 rfl ?_
    refine w_lv [(0, .ref (A 4 0 0)), (1, .int (y1 + 1))] [1, 0] rfl ?_
    exact hk16 (y1 + 1) _ _ hz  hr
  have hr := bf q45_1 hr
  by_cases q45_2 : ((zI σ 260 0 0 0) : Int32) = 145
  · have hr := bt q45_2 hr
    refine w_lookup 94 dX4_parse_45 (by decide) (by rw [q45_2] <;> rfl) rfl ?_
    refine w_aload_n 0 dX4_parse_94 rfl rfl rfl ?_
    obtain ⟨v17, σ18, e19, hr⟩ := bq_some hr
    refine c_X4_38 (As := []) (rest := []) (fun l => s_X4_check  hz e19 l) hrm dX4_parse_95 rfl rfl (Nat.le_of_ble_eq_true rfl) (Nat.le_of_ble_eq_true rfl) (Nat.le_of_ble_eq_true rfl) (hz.o4 rfl) rfl (Nat.le_of_ble_eq_true rfl) (fun vr h2 hq => ?_) (fun E9 h9 hq => hq.elim)
    obtain ⟨rfl, hz⟩ := hq
    show wp _ _ 98 [(0, .ref (A 4 0 0)), (1, .int y1)] [] _ _ _
    refine w_goto 105 dX4_parse_98 rfl ?_
    refine w_iinc 1 (y1 + 1) [(1, .int (y1 + 1)), (0, .ref (A 4 0 0))] dX4_parse_105 rfl rfl rfl (by decide) rfl ?_
    refine w_goto 16 dX4_parse_108 rfl ?_
    refine w_lv [(0, .ref (A 4 0 0)), (1, .int (y1 + 1))] [1, 0] rfl ?_
    exact hk16 (y1 + 1) _ _ hz  hr
  have hr := bf q45_2 hr
  refine w_lookup 101 dX4_parse_45 (by decide) ((lv_osw q45_0 rfl).trans ((lv_osw q45_1 rfl).trans ((lv_osw q45_2 rfl).trans rfl))) rfl ?_
  refine w_aload_n 0 dX4_parse_101 rfl rfl rfl ?_
  obtain ⟨v21, σ22, e23, hr⟩ := bq_some hr
  refine c_X4_41 (As := []) (rest := []) (fun l => s_X4_fail  hz e23 l) hrm dX4_parse_102 rfl rfl (Nat.le_of_ble_eq_true rfl) (Nat.le_of_ble_eq_true rfl) (Nat.le_of_ble_eq_true rfl) (hz.o4 rfl) rfl (Nat.le_of_ble_eq_true rfl) (fun vr h2 hq => ?_) (fun E9 h9 hq => hq.elim)
  obtain ⟨rfl, hz⟩ := hq
  show wp _ _ 105 [(0, .ref (A 4 0 0)), (1, .int y1)] [] _ _ _
  refine w_iinc 1 (y1 + 1) [(1, .int (y1 + 1)), (0, .ref (A 4 0 0))] dX4_parse_105 rfl rfl rfl (by decide) rfl ?_
  refine w_goto 16 dX4_parse_108 rfl ?_
  refine w_lv [(0, .ref (A 4 0 0)), (1, .int (y1 + 1))] [1, 0] rfl ?_
  exact hk16 (y1 + 1) _ _ hz  hr
set_option maxRecDepth 20000 in
set_option maxHeartbeats 4000000 in
theorem w_X4_parse_16 {A : Nat → Nat → Nat → Nat} {ρ σ' : Zs} {v : Int32} {x : Cxt}   (hf : m_fin 0 0 (QI A v σ' ρ) X0 x) (hrm : m_rm 99 0 0 x)  : ∀ (n : Nat) (y1 : Int32) (σ : Zs) (h : Hp), Rp A h σ ρ → fX4_parse_16   n y1 σ = some (v, σ') → wp x mX4_parse 16 [(0, .ref (A 4 0 0)), (1, .int y1)] [] h 0 0
  | 0, _, σ, h => fun hz hr => by
    rw [fX4_parse_16.eq_1] at hr
    exact nono hr
  | n + 1, y1, σ, h => fun hz hr => by
    rw [fX4_parse_16.eq_2] at hr
    refine w_iload_n 1 dX4_parse_16 rfl rfl rfl ?_
    refine w_sipush 1500 dX4_parse_17 rfl rfl ?_
    refine w_icmp_ge 111 dX4_parse_20 rfl rfl (fun q20 => ?_) (fun q20 => ?_)
    · have hr := bt q20 hr
      refine w_aload_n 0 dX4_parse_111 rfl rfl rfl ?_
      refine g_X4_19 dX4_parse_112 rfl (hz.o4 rfl) (hz.i258 rfl) ?_
      refine w_iret hf dX4_parse_115 rfl (Nat.le_of_ble_eq_true rfl) (Nat.le_of_ble_eq_true rfl) ?_
      obtain ⟨rfl, rfl⟩ := ret_inj hr
      exact ⟨rfl, hz⟩
    · have hr := bf q20 hr
      refine w_aload_n 0 dX4_parse_23 rfl rfl rfl ?_
      refine g_X4_19 dX4_parse_24 rfl (hz.o4 rfl) (hz.i258 rfl) ?_
      refine w_if_ge 111 dX4_parse_27 rfl rfl (fun q27 => ?_) (fun q27 => ?_)
      · have hr := bt q27 hr
        refine w_aload_n 0 dX4_parse_111 rfl rfl rfl ?_
        refine g_X4_19 dX4_parse_112 rfl (hz.o4 rfl) (hz.i258 rfl) ?_
        refine w_iret hf dX4_parse_115 rfl (Nat.le_of_ble_eq_true rfl) (Nat.le_of_ble_eq_true rfl) ?_
        obtain ⟨rfl, rfl⟩ := ret_inj hr
        exact ⟨rfl, hz⟩
      · have hr := bf q27 hr
        refine w_iload_n 1 dX4_parse_30 rfl rfl rfl ?_
        refine w_if_eq 41 dX4_parse_31 rfl rfl (fun q31 => ?_) (fun q31 => ?_)
        · have hr := bt q31 hr
          refine w_lv [(0, .ref (A 4 0 0)), (1, .int y1)] [0, 1] rfl ?_
          exact w_X4_parse_41 hf hrm  (fun by1 zb hb hzb  hrb => w_X4_parse_16 hf hrm   n by1 zb hb hzb  hrb) y1 _ _ hz  hr
        · have hr := bf q31 hr
          refine w_aload_n 0 dX4_parse_34 rfl rfl rfl ?_
          refine g_X4_29 dX4_parse_35 rfl (hz.o4 rfl) (hz.i260 rfl) ?_
          refine w_if_eq 111 dX4_parse_38 rfl rfl (fun q38 => ?_) (fun q38 => ?_)
          · have hr := bt q38 hr
            refine w_aload_n 0 dX4_parse_111 rfl rfl rfl ?_
            refine g_X4_19 dX4_parse_112 rfl (hz.o4 rfl) (hz.i258 rfl) ?_
            refine w_iret hf dX4_parse_115 rfl (Nat.le_of_ble_eq_true rfl) (Nat.le_of_ble_eq_true rfl) ?_
            obtain ⟨rfl, rfl⟩ := ret_inj hr
            exact ⟨rfl, hz⟩
          · have hr := bf q38 hr
            refine w_lv [(0, .ref (A 4 0 0)), (1, .int y1)] [0, 1] rfl ?_
            exact w_X4_parse_41 hf hrm  (fun by1 zb hb hzb  hrb => w_X4_parse_16 hf hrm   n by1 zb hb hzb  hrb) y1 _ _ hz  hr
set_option maxRecDepth 20000 in
set_option maxHeartbeats 4000000 in
theorem s_X4_parse {A : Nat → Nat → Nat → Nat} {h : Hp} {σ ρ σ' : Zs} {v : Int32}   (hz : Rp A h σ ρ) (hr : fX4_parse  σ = some (v, σ')) : ∀ l : Launch, Sp l mX4_parse 99 0 0 [.ref (A 4 0 0)] h (QI A v σ' ρ) X0 := by
  intro l
  refine Sp.of rfl rfl (lv := [(0, .ref (A 4 0 0))]) (Nat.le_of_ble_eq_true rfl) rfl (fun x hf hrm => ?_)
  rw [fX4_parse.eq_1] at hr
  refine w_aload_n 0 dX4_parse_0 rfl rfl rfl ?_
  refine w_iconst (-1) dX4_parse_1 rfl rfl ?_
  refine p_X4_19 dX4_parse_2 rfl (hz.o4 rfl) ?_
  obtain ⟨σ1, e2, hr⟩ := lt_e hr
  have hz := (hz.s258 (v := (-1)) rfl).ts e2
  refine w_aload_n 0 dX4_parse_5 rfl rfl rfl ?_
  refine w_iconst (-1) dX4_parse_6 rfl rfl ?_
  refine p_X4_23 dX4_parse_7 rfl (hz.o4 rfl) ?_
  obtain ⟨σ3, e4, hr⟩ := lt_e hr
  have hz := (hz.s259 (v := (-1)) rfl).ts e4
  refine w_aload_n 0 dX4_parse_10 rfl rfl rfl ?_
  obtain ⟨v5, σ6, e7, hr⟩ := bq_some hr
  refine c_X4_26 (As := []) (rest := []) (fun l => s_X4_advance  hz e7 l) hrm dX4_parse_11 rfl rfl (Nat.le_of_ble_eq_true rfl) (Nat.le_of_ble_eq_true rfl) (Nat.le_of_ble_eq_true rfl) (hz.o4 rfl) rfl (Nat.le_of_ble_eq_true rfl) (fun vr h2 hq => ?_) (fun E9 h9 hq => hq.elim)
  obtain ⟨rfl, hz⟩ := hq
  show wp _ _ 14 [(0, .ref (A 4 0 0))] [] _ _ _
  refine w_iconst 0 dX4_parse_14 rfl rfl ?_
  refine w_istore_n [(1, .int 0), (0, .ref (A 4 0 0))] dX4_parse_15 rfl rfl (by decide) rfl ?_
  refine w_lv [(0, .ref (A 4 0 0)), (1, .int 0)] [1, 0] rfl ?_
  exact w_X4_parse_16 hf hrm   FU 0 _ _ hz  hr

