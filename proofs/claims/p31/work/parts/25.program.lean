/-! LIFTED: 25.program -/
noncomputable def fX5_streamNamed_2 (p : Nat) (x1 : Int64)  : Nat → Int32 → Zs → Option (Int32 × Zs)
  | 0, _, _ => none
  | n + 1, y3, σ =>
    if (zI σ 321 p 0 0) ≤ y3 then (some ((-1), σ)) else (if 12 ≤ y3 then (some ((-1), σ)) else (if gi y3 12 then if ((lg_cmp (zJ σ 448 p (Int32.toNatClampNeg y3) 0) x1) : Int32) = 0 then (some (y3, σ)) else (fX5_streamNamed_2 p x1  n (y3 + 1) σ) else none))
noncomputable def fX5_streamNamed (p : Nat) (x1 : Int64) (σ : Zs) : Option (Int32 × Zs) :=
  fX5_streamNamed_2 p x1  FU 0 σ

noncomputable def fX5_emit (p : Nat) (x1 : Int32) (x2 : Int64) (σ : Zs) : Option (Unit × Zs) :=
  if 1500 ≤ (zI σ 326 p 0 0) then (some ((), σ)) else (if gi (zI σ 326 p 0 0) 1500 then lt (sI σ 1348 p 0 (Int32.toNatClampNeg (zI σ 326 p 0 0)) x1) fun σ2 => if gi (zI σ2 326 p 0 0) 1500 then lt (sJ σ2 1349 p 0 (Int32.toNatClampNeg (zI σ2 326 p 0 0)) x2) fun σ5 => lt (sI σ5 326 p 0 0 ((zI σ5 326 p 0 0) + 1)) fun σ7 => some ((), σ7) else none else none)

noncomputable def fX5_unary (x0 : Int32) (x1 : Int64) (σ : Zs) : Option (Int64 × Zs) :=
  if (x0 : Int32) = 158 then (if ((lg_cmp x1 0) : Int32) = 0 then (some (1, σ)) else (some (0, σ))) else if (x0 : Int32) = 160 then (some ((-x1), σ)) else (if 0 ≤ ((lg_cmp x1 0) : Int32) then (some (x1, σ)) else (some ((-x1), σ)))

noncomputable def fX5_binary (x0 : Int32) (x1 : Int64) (x3 : Int64) (σ : Zs) : Option (Int64 × Zs) :=
  if (x0 : Int32) = 37 then (if ((lg_cmp x3 0) : Int32) = 0 then (some (0, σ)) else (if ¬ (x3 : Int64) = 0 then some ((x1 - x1 / x3 * x3), σ) else none)) else if (x0 : Int32) = 42 then (some ((x1 * x3), σ)) else if (x0 : Int32) = 43 then (some ((x1 + x3), σ)) else if (x0 : Int32) = 45 then (some ((x1 - x3), σ)) else if (x0 : Int32) = 47 then (if ((lg_cmp x3 0) : Int32) = 0 then (some (0, σ)) else (if ¬ (x3 : Int64) = 0 then some ((x1 / x3), σ) else none)) else if (x0 : Int32) = 60 then (if 0 ≤ ((lg_cmp x1 x3) : Int32) then (some (0, σ)) else (some (1, σ))) else if (x0 : Int32) = 61 then (if ((lg_cmp x1 x3) : Int32) = 0 then (some (1, σ)) else (some (0, σ))) else if (x0 : Int32) = 62 then (if ((lg_cmp x1 x3) : Int32) ≤ 0 then (some (0, σ)) else (some (1, σ))) else if (x0 : Int32) = 152 then (if 0 ≤ ((lg_cmp x1 x3) : Int32) then (some (x3, σ)) else (some (x1, σ))) else if (x0 : Int32) = 153 then (if ((lg_cmp x1 x3) : Int32) ≤ 0 then (some (x3, σ)) else (some (x1, σ))) else if (x0 : Int32) = 156 then (if ((lg_cmp x1 0) : Int32) = 0 then (some (0, σ)) else (if ((lg_cmp x3 0) : Int32) = 0 then (some (0, σ)) else (some (1, σ)))) else if (x0 : Int32) = 157 then (if ((lg_cmp x1 0) : Int32) = 0 then (if ((lg_cmp x3 0) : Int32) = 0 then (some (0, σ)) else (some (1, σ))) else (some (1, σ))) else if (x0 : Int32) = 15421 then (if 0 < ((lg_cmp x1 x3) : Int32) then (some (0, σ)) else (some (1, σ))) else if (x0 : Int32) = 15422 then (if ((lg_cmp x1 x3) : Int32) = 0 then (some (0, σ)) else (some (1, σ))) else if (x0 : Int32) = 15933 then (if ((lg_cmp x1 x3) : Int32) < 0 then (some (0, σ)) else (some (1, σ))) else (some (0, σ))

noncomputable def fX5_reckon_55 (p : Nat) (x1 : Int32) (x2 : Int32) (p3 : Nat) (s3 : Nat) (k6 : Int32 → Int32 → Zs → Option (Int64 × Zs)) (y4 : Int32) (y5 : Int32) (y6 : Int32) (σ : Zs) : Option (Int64 × Zs) :=
  if 60 ≤ y4 then (k6 y4 (y5 + 1) σ) else (if y6 = 2 then (if gi y5 1500 then bq (fX6_numberAt p3 s3 (((zJ σ 1349 p 0 (Int32.toNatClampNeg y5)) : Int64).toInt32) σ) fun v13 σ14 => if gi y4 60 then lt (sJ σ14 1351 p 0 (Int32.toNatClampNeg y4) v13) fun σ18 => k6 (y4 + 1) (y5 + 1) σ18 else none else none) else (if y6 = 155 then (if gi y4 60 then lt (sJ σ 1351 p 0 (Int32.toNatClampNeg y4) (((zI σ 384 p3 s3 0) : Int32).toInt64)) fun σ10 => k6 (y4 + 1) (y5 + 1) σ10 else none) else (if gi y5 1500 then if gi y4 60 then lt (sJ σ 1351 p 0 (Int32.toNatClampNeg y4) (zJ σ 1349 p 0 (Int32.toNatClampNeg y5))) fun σ7 => k6 (y4 + 1) (y5 + 1) σ7 else none else none)))
noncomputable def fX5_reckon_146 (p : Nat) (x1 : Int32) (x2 : Int32) (p3 : Nat) (s3 : Nat) (k6 : Int32 → Int32 → Zs → Option (Int64 × Zs)) (y4 : Int32) (y5 : Int32) (y6 : Int32) (σ : Zs) : Option (Int64 × Zs) :=
  if y4 ≤ 0 then (k6 y4 (y5 + 1) σ) else (if gi (y4 - 1) 60 then bq (fX5_unary y6 (zJ σ 1351 p 0 (Int32.toNatClampNeg (y4 - 1))) σ) fun v21 σ22 => if gi (y4 - 1) 60 then lt (sJ σ22 1351 p 0 (Int32.toNatClampNeg (y4 - 1)) v21) fun σ26 => k6 y4 (y5 + 1) σ26 else none else none)
noncomputable def fX5_reckon_6 (p : Nat) (x1 : Int32) (x2 : Int32) (p3 : Nat) (s3 : Nat)  : Nat → Int32 → Int32 → Zs → Option (Int64 × Zs)
  | 0, _, _, _ => none
  | n + 1, y4, y5, σ =>
    if y5 < 0 then (if y4 ≤ 0 then (some (0, σ)) else (if gi 0 60 then some ((zJ σ 1351 p 0 (Int32.toNatClampNeg 0)), σ) else none)) else (if x2 ≤ y5 then (if y4 ≤ 0 then (some (0, σ)) else (if gi 0 60 then some ((zJ σ 1351 p 0 (Int32.toNatClampNeg 0)), σ) else none)) else (if (zI σ 326 p 0 0) ≤ y5 then (if y4 ≤ 0 then (some (0, σ)) else (if gi 0 60 then some ((zJ σ 1351 p 0 (Int32.toNatClampNeg 0)), σ) else none)) else (if gi y5 1500 then if (zI σ 1348 p 0 (Int32.toNatClampNeg y5)) = 3 then (fX5_reckon_55 p x1 x2 p3 s3 (fun by4 by5 σb => fX5_reckon_6 p x1 x2 p3 s3  n by4 by5 σb) y4 y5 (zI σ 1348 p 0 (Int32.toNatClampNeg y5)) σ) else (if (zI σ 1348 p 0 (Int32.toNatClampNeg y5)) = 2 then (fX5_reckon_55 p x1 x2 p3 s3 (fun by4 by5 σb => fX5_reckon_6 p x1 x2 p3 s3  n by4 by5 σb) y4 y5 (zI σ 1348 p 0 (Int32.toNatClampNeg y5)) σ) else (if (zI σ 1348 p 0 (Int32.toNatClampNeg y5)) = 155 then (fX5_reckon_55 p x1 x2 p3 s3 (fun by4 by5 σb => fX5_reckon_6 p x1 x2 p3 s3  n by4 by5 σb) y4 y5 (zI σ 1348 p 0 (Int32.toNatClampNeg y5)) σ) else (if (zI σ 1348 p 0 (Int32.toNatClampNeg y5)) = 160 then (fX5_reckon_146 p x1 x2 p3 s3 (fun by4 by5 σb => fX5_reckon_6 p x1 x2 p3 s3  n by4 by5 σb) y4 y5 (zI σ 1348 p 0 (Int32.toNatClampNeg y5)) σ) else (if (zI σ 1348 p 0 (Int32.toNatClampNeg y5)) = 158 then (fX5_reckon_146 p x1 x2 p3 s3 (fun by4 by5 σb => fX5_reckon_6 p x1 x2 p3 s3  n by4 by5 σb) y4 y5 (zI σ 1348 p 0 (Int32.toNatClampNeg y5)) σ) else (if (zI σ 1348 p 0 (Int32.toNatClampNeg y5)) = 159 then (fX5_reckon_146 p x1 x2 p3 s3 (fun by4 by5 σb => fX5_reckon_6 p x1 x2 p3 s3  n by4 by5 σb) y4 y5 (zI σ 1348 p 0 (Int32.toNatClampNeg y5)) σ) else (if y4 ≤ 1 then (fX5_reckon_6 p x1 x2 p3 s3  n y4 (y5 + 1) σ) else (if gi ((y4 + (-1)) - 1) 60 then if gi (y4 + (-1)) 60 then bq (fX5_binary (zI σ 1348 p 0 (Int32.toNatClampNeg y5)) (zJ σ 1351 p 0 (Int32.toNatClampNeg ((y4 + (-1)) - 1))) (zJ σ 1351 p 0 (Int32.toNatClampNeg (y4 + (-1)))) σ) fun v30 σ31 => if gi ((y4 + (-1)) - 1) 60 then lt (sJ σ31 1351 p 0 (Int32.toNatClampNeg ((y4 + (-1)) - 1)) v30) fun σ35 => fX5_reckon_6 p x1 x2 p3 s3  n (y4 + (-1)) (y5 + 1) σ35 else none else none else none))))))) else none)))
noncomputable def fX5_reckon (p : Nat) (x1 : Int32) (x2 : Int32) (p3 : Nat) (s3 : Nat) (σ : Zs) : Option (Int64 × Zs) :=
  fX5_reckon_6 p x1 x2 p3 s3  FU 0 x1 σ

set_option maxRecDepth 20000 in
set_option maxHeartbeats 4000000 in
theorem w_X5_streamNamed_2 {A : Nat → Nat → Nat → Nat} {ρ σ' : Zs} {v : Int32} {x : Cxt} {p : Nat} {x1 : Int64}  (hf : m_fin 0 0 (QI A v σ' ρ) X0 x) (hrm : m_rm 0 0 0 x) (hv : vdb (A 16 0 0) 5 p 0 = true) : ∀ (n : Nat) (y3 : Int32) (σ : Zs) (h : Hp), Rp A h σ ρ → fX5_streamNamed_2 p x1  n y3 σ = some (v, σ') → wp x mX5_streamNamed 2 [(0, .ref (A 5 p 0)), (1, .long x1), (3, .int y3)] [] h 0 0
  | 0, _, σ, h => fun hz hr => by
    rw [fX5_streamNamed_2.eq_1] at hr
    exact nono hr
  | n + 1, y3, σ, h => fun hz hr => by
    rw [fX5_streamNamed_2.eq_2] at hr
    refine w_iload_n 2 dX5_streamNamed_2 rfl rfl rfl ?_
    refine w_aload_n 0 dX5_streamNamed_3 rfl rfl rfl ?_
    refine g_X5_36 dX5_streamNamed_4 rfl (hz.o5 hv) (hz.i321 hv) ?_
    refine w_icmp_ge 41 dX5_streamNamed_7 rfl rfl (fun q7 => ?_) (fun q7 => ?_)
    · have hr := bt q7 hr
      refine w_iconst (-1) dX5_streamNamed_41 rfl rfl ?_
      refine w_iret hf dX5_streamNamed_42 rfl (Nat.le_of_ble_eq_true rfl) (Nat.le_of_ble_eq_true rfl) ?_
      obtain ⟨rfl, rfl⟩ := ret_inj hr
      exact ⟨rfl, hz⟩
    · have hr := bf q7 hr
      refine w_iload_n 2 dX5_streamNamed_10 rfl rfl rfl ?_
      refine w_aload_n 0 dX5_streamNamed_11 rfl rfl rfl ?_
      refine g_X5_11 dX5_streamNamed_12 rfl (hz.o5 hv) (hz.r320 hv) ?_
      refine w_alen 7 dX5_streamNamed_15 rfl (by decide) (by decide) (fun _ => rfl) (hz.k320 hv) (v := 12) (by rw [hz.n320 hv]; rfl) ?_
      refine w_icmp_ge 41 dX5_streamNamed_16 rfl rfl (fun q16 => ?_) (fun q16 => ?_)
      · have hr := bt q16 hr
        refine w_iconst (-1) dX5_streamNamed_41 rfl rfl ?_
        refine w_iret hf dX5_streamNamed_42 rfl (Nat.le_of_ble_eq_true rfl) (Nat.le_of_ble_eq_true rfl) ?_
        obtain ⟨rfl, rfl⟩ := ret_inj hr
        exact ⟨rfl, hz⟩
      · have hr := bf q16 hr
        refine w_aload_n 0 dX5_streamNamed_19 rfl rfl rfl ?_
        refine g_X5_11 dX5_streamNamed_20 rfl (hz.o5 hv) (hz.r320 hv) ?_
        refine w_iload_n 2 dX5_streamNamed_23 rfl rfl rfl ?_
        obtain ⟨g1, hr⟩ := gd hr
        have hv2 := vdb_320 (p := p) hv (gi_lt g1)
        refine w_aald 7 dX5_streamNamed_24 rfl (by decide) (by decide) (fun _ => rfl) (hz.k320 hv) (gin (hz.n320 hv) g1) (hz.e320 hv (gi_lt g1)) ?_
        refine g_X5_40 dX5_streamNamed_25 rfl (hz.o7 hv2) (hz.i448 hv2) ?_
        refine w_lload_n 1 dX5_streamNamed_28 rfl rfl rfl ?_
        refine w_lcmp dX5_streamNamed_29 rfl ?_
        refine w_if_ne 35 dX5_streamNamed_30 rfl rfl (fun q30 => ?_) (fun q30 => ?_)
        · have hr := bf q30 hr
          refine w_iinc 2 (y3 + 1) [(3, .int (y3 + 1)), (0, .ref (A 5 p 0)), (1, .long x1)] dX5_streamNamed_35 rfl rfl rfl (by decide) rfl ?_
          refine w_goto 2 dX5_streamNamed_38 rfl ?_
          refine w_lv [(0, .ref (A 5 p 0)), (1, .long x1), (3, .int (y3 + 1))] [1, 2, 0] rfl ?_
          exact w_X5_streamNamed_2 hf hrm hv  n (y3 + 1) _ _ hz  hr
        · have hr := bt q30 hr
          refine w_iload_n 2 dX5_streamNamed_33 rfl rfl rfl ?_
          refine w_iret hf dX5_streamNamed_34 rfl (Nat.le_of_ble_eq_true rfl) (Nat.le_of_ble_eq_true rfl) ?_
          obtain ⟨rfl, rfl⟩ := ret_inj hr
          exact ⟨rfl, hz⟩
set_option maxRecDepth 20000 in
set_option maxHeartbeats 4000000 in
theorem s_X5_streamNamed {A : Nat → Nat → Nat → Nat} {h : Hp} {σ ρ σ' : Zs} {v : Int32} {p : Nat} {x1 : Int64} (hv : vdb (A 16 0 0) 5 p 0 = true) (hz : Rp A h σ ρ) (hr : fX5_streamNamed p x1 σ = some (v, σ')) : ∀ l : Launch, Sp l mX5_streamNamed 0 0 0 [.ref (A 5 p 0), .long x1] h (QI A v σ' ρ) X0 := by
  intro l
  refine Sp.of rfl rfl (lv := [(0, .ref (A 5 p 0)), (1, .long x1)]) (Nat.le_of_ble_eq_true rfl) rfl (fun x hf hrm => ?_)
  rw [fX5_streamNamed.eq_1] at hr
  refine w_iconst 0 dX5_streamNamed_0 rfl rfl ?_
  refine w_istore_n [(3, .int 0), (0, .ref (A 5 p 0)), (1, .long x1)] dX5_streamNamed_1 rfl rfl (by decide) rfl ?_
  refine w_lv [(0, .ref (A 5 p 0)), (1, .long x1), (3, .int 0)] [1, 2, 0] rfl ?_
  exact w_X5_streamNamed_2 hf hrm hv  FU 0 _ _ hz  hr

set_option maxRecDepth 20000 in
set_option maxHeartbeats 4000000 in
theorem s_X5_emit {A : Nat → Nat → Nat → Nat} {h : Hp} {σ ρ σ' : Zs} {v : Unit} {p : Nat} {x1 : Int32} {x2 : Int64} (hv : vdb (A 16 0 0) 5 p 0 = true) (hz : Rp A h σ ρ) (hr : fX5_emit p x1 x2 σ = some (v, σ')) : ∀ l : Launch, Sp l mX5_emit 0 0 0 [.ref (A 5 p 0), .int x1, .long x2] h (QV A v σ' ρ) X0 := by
  intro l
  refine Sp.of rfl rfl (lv := [(0, .ref (A 5 p 0)), (1, .int x1), (2, .long x2)]) (Nat.le_of_ble_eq_true rfl) rfl (fun x hf hrm => ?_)
  rw [fX5_emit.eq_1] at hr
  refine w_aload_n 0 dX5_emit_0 rfl rfl rfl ?_
  refine g_X5_44 dX5_emit_1 rfl (hz.o5 hv) (hz.i326 hv) ?_
  refine w_aload_n 0 dX5_emit_4 rfl rfl rfl ?_
  refine g_X5_23 dX5_emit_5 rfl (hz.o5 hv) (hz.r324 hv) ?_
  refine w_alen 0 dX5_emit_8 rfl (by decide) (by decide) (fun _ => rfl) (hz.k324 hv) (v := 1500) (by rw [hz.n324 hv]; rfl) ?_
  refine w_icmp_ge 42 dX5_emit_9 rfl rfl (fun q9 => ?_) (fun q9 => ?_)
  · have hr := bt q9 hr
    refine w_vret hf dX5_emit_42 rfl (Nat.le_of_ble_eq_true rfl) (Nat.le_of_ble_eq_true rfl) ?_
    obtain ⟨rfl, rfl⟩ := ret_inj hr
    exact ⟨rfl, hz⟩
  · have hr := bf q9 hr
    refine w_aload_n 0 dX5_emit_12 rfl rfl rfl ?_
    refine g_X5_23 dX5_emit_13 rfl (hz.o5 hv) (hz.r324 hv) ?_
    refine w_aload_n 0 dX5_emit_16 rfl rfl rfl ?_
    refine g_X5_44 dX5_emit_17 rfl (hz.o5 hv) (hz.i326 hv) ?_
    refine w_iload_n 1 dX5_emit_20 rfl rfl rfl ?_
    obtain ⟨g1, hr⟩ := gd hr
    refine w_iast dX5_emit_21 rfl (hz.k324 hv) (gin (hz.n324 hv) g1) ?_
    obtain ⟨σ2, e3, hr⟩ := lt_e hr
    have hz := (hz.s324 (i := (Int32.toNatClampNeg (zI σ 326 p 0 0))) (v := x1) hv).ts e3
    refine w_aload_n 0 dX5_emit_22 rfl rfl rfl ?_
    refine g_X5_27 dX5_emit_23 rfl (hz.o5 hv) (hz.r325 hv) ?_
    refine w_aload_n 0 dX5_emit_26 rfl rfl rfl ?_
    refine g_X5_44 dX5_emit_27 rfl (hz.o5 hv) (hz.i326 hv) ?_
    refine w_lload_n 2 dX5_emit_30 rfl rfl rfl ?_
    obtain ⟨g4, hr⟩ := gd hr
    refine w_last dX5_emit_31 rfl (hz.k325 hv) (gin (hz.n325 hv) g4) ?_
    obtain ⟨σ5, e6, hr⟩ := lt_e hr
    have hz := (hz.s325 (i := (Int32.toNatClampNeg (zI σ2 326 p 0 0))) (v := x2) hv).ts e6
    refine w_aload_n 0 dX5_emit_32 rfl rfl rfl ?_
    refine w_dup dX5_emit_33 rfl rfl ?_
    refine g_X5_44 dX5_emit_34 rfl (hz.o5 hv) (hz.i326 hv) ?_
    refine w_iconst 1 dX5_emit_37 rfl rfl ?_
    refine w_iadd dX5_emit_38 rfl ?_
    refine p_X5_44 dX5_emit_39 rfl (hz.o5 hv) ?_
    obtain ⟨σ7, e8, hr⟩ := lt_e hr
    have hz := (hz.s326 (v := ((zI σ5 326 p 0 0) + 1)) hv).ts e8
    refine w_vret hf dX5_emit_42 rfl (Nat.le_of_ble_eq_true rfl) (Nat.le_of_ble_eq_true rfl) ?_
    obtain ⟨rfl, rfl⟩ := ret_inj hr
    exact ⟨rfl, hz⟩

set_option maxRecDepth 20000 in
set_option maxHeartbeats 4000000 in
theorem s_X5_unary {A : Nat → Nat → Nat → Nat} {h : Hp} {σ ρ σ' : Zs} {v : Int64} {x0 : Int32} {x1 : Int64}  (hz : Rp A h σ ρ) (hr : fX5_unary x0 x1 σ = some (v, σ')) : ∀ l : Launch, Sp l mX5_unary 0 0 0 [.int x0, .long x1] h (QJ A v σ' ρ) X0 := by
  intro l
  refine Sp.of rfl rfl (lv := [(0, .int x0), (1, .long x1)]) (Nat.le_of_ble_eq_true rfl) rfl (fun x hf hrm => ?_)
  rw [fX5_unary.eq_1] at hr
  refine w_iload_n 0 dX5_unary_0 rfl rfl rfl ?_
  by_cases q1_0 : (x0 : Int32) = 158
  · have hr := bt q1_0 hr
    refine w_lookup 31 dX5_unary_1 (by decide) (by rw [q1_0] <;> rfl) rfl ?_
    refine w_lload_n 1 dX5_unary_31 rfl rfl rfl ?_
    refine w_lconst 0 dX5_unary_32 rfl rfl ?_
    refine w_lcmp dX5_unary_33 rfl ?_
    refine w_if_ne 41 dX5_unary_34 rfl rfl (fun q34 => ?_) (fun q34 => ?_)
    · have hr := bf q34 hr
      refine w_lconst 0 dX5_unary_41 rfl rfl ?_
      refine w_lret hf dX5_unary_42 rfl (Nat.le_of_ble_eq_true rfl) (Nat.le_of_ble_eq_true rfl) ?_
      obtain ⟨rfl, rfl⟩ := ret_inj hr
      exact ⟨rfl, hz⟩
    · have hr := bt q34 hr
      refine w_lconst 1 dX5_unary_37 rfl rfl ?_
      refine w_goto 42 dX5_unary_38 rfl ?_
      refine w_lret hf dX5_unary_42 rfl (Nat.le_of_ble_eq_true rfl) (Nat.le_of_ble_eq_true rfl) ?_
      obtain ⟨rfl, rfl⟩ := ret_inj hr
      exact ⟨rfl, hz⟩
  have hr := bf q1_0 hr
  by_cases q1_1 : (x0 : Int32) = 160
  · have hr := bt q1_1 hr
    refine w_lookup 28 dX5_unary_1 (by decide) (by rw [q1_1] <;> rfl) rfl ?_
    refine w_lload_n 1 dX5_unary_28 rfl rfl rfl ?_
    refine w_lneg dX5_unary_29 rfl ?_
    refine w_lret hf dX5_unary_30 rfl (Nat.le_of_ble_eq_true rfl) (Nat.le_of_ble_eq_true rfl) ?_
    obtain ⟨rfl, rfl⟩ := ret_inj hr
    exact ⟨rfl, hz⟩
  have hr := bf q1_1 hr
  refine w_lookup 43 dX5_unary_1 (by decide) ((lv_osw q1_0 rfl).trans ((lv_osw q1_1 rfl).trans rfl)) rfl ?_
  refine w_lload_n 1 dX5_unary_43 rfl rfl rfl ?_
  refine w_lconst 0 dX5_unary_44 rfl rfl ?_
  refine w_lcmp dX5_unary_45 rfl ?_
  refine w_if_ge 54 dX5_unary_46 rfl rfl (fun q46 => ?_) (fun q46 => ?_)
  · have hr := bt q46 hr
    refine w_lload_n 1 dX5_unary_54 rfl rfl rfl ?_
    refine w_lret hf dX5_unary_55 rfl (Nat.le_of_ble_eq_true rfl) (Nat.le_of_ble_eq_true rfl) ?_
    obtain ⟨rfl, rfl⟩ := ret_inj hr
    exact ⟨rfl, hz⟩
  · have hr := bf q46 hr
    refine w_lload_n 1 dX5_unary_49 rfl rfl rfl ?_
    refine w_lneg dX5_unary_50 rfl ?_
    refine w_goto 55 dX5_unary_51 rfl ?_
    refine w_lret hf dX5_unary_55 rfl (Nat.le_of_ble_eq_true rfl) (Nat.le_of_ble_eq_true rfl) ?_
    obtain ⟨rfl, rfl⟩ := ret_inj hr
    exact ⟨rfl, hz⟩

set_option maxRecDepth 20000 in
set_option maxHeartbeats 4000000 in
theorem s_X5_binary {A : Nat → Nat → Nat → Nat} {h : Hp} {σ ρ σ' : Zs} {v : Int64} {x0 : Int32} {x1 : Int64} {x3 : Int64}  (hz : Rp A h σ ρ) (hr : fX5_binary x0 x1 x3 σ = some (v, σ')) : ∀ l : Launch, Sp l mX5_binary 0 0 0 [.int x0, .long x1, .long x3] h (QJ A v σ' ρ) X0 := by
  intro l
  refine Sp.of rfl rfl (lv := [(0, .int x0), (1, .long x1), (3, .long x3)]) (Nat.le_of_ble_eq_true rfl) rfl (fun x hf hrm => ?_)
  rw [fX5_binary.eq_1] at hr
  refine w_iload_n 0 dX5_binary_0 rfl rfl rfl ?_
  by_cases q1_0 : (x0 : Int32) = 37
  · have hr := bt q1_0 hr
    refine w_lookup 158 dX5_binary_1 (by decide) (by rw [q1_0] <;> rfl) rfl ?_
    refine w_lload_n 2 dX5_binary_158 rfl rfl rfl ?_
    refine w_lconst 0 dX5_binary_159 rfl rfl ?_
    refine w_lcmp dX5_binary_160 rfl ?_
    refine w_if_ne 168 dX5_binary_161 rfl rfl (fun q161 => ?_) (fun q161 => ?_)
    · have hr := bf q161 hr
      refine w_lload_n 1 dX5_binary_168 rfl rfl rfl ?_
      refine w_lload_n 2 dX5_binary_169 rfl rfl rfl ?_
      obtain ⟨g1, hr⟩ := gd hr
      refine w_lrem dX5_binary_170 rfl g1 ?_
      refine w_lret hf dX5_binary_171 rfl (Nat.le_of_ble_eq_true rfl) (Nat.le_of_ble_eq_true rfl) ?_
      obtain ⟨rfl, rfl⟩ := ret_inj hr
      exact ⟨rfl, hz⟩
    · have hr := bt q161 hr
      refine w_lconst 0 dX5_binary_164 rfl rfl ?_
      refine w_goto 171 dX5_binary_165 rfl ?_
      refine w_lret hf dX5_binary_171 rfl (Nat.le_of_ble_eq_true rfl) (Nat.le_of_ble_eq_true rfl) ?_
      obtain ⟨rfl, rfl⟩ := ret_inj hr
      exact ⟨rfl, hz⟩
  have hr := bf q1_0 hr
  by_cases q1_1 : (x0 : Int32) = 42
  · have hr := bt q1_1 hr
    refine w_lookup 140 dX5_binary_1 (by decide) (by rw [q1_1] <;> rfl) rfl ?_
    refine w_lload_n 1 dX5_binary_140 rfl rfl rfl ?_
    refine w_lload_n 2 dX5_binary_141 rfl rfl rfl ?_
    refine w_lmul dX5_binary_142 rfl ?_
    refine w_lret hf dX5_binary_143 rfl (Nat.le_of_ble_eq_true rfl) (Nat.le_of_ble_eq_true rfl) ?_
    obtain ⟨rfl, rfl⟩ := ret_inj hr
    exact ⟨rfl, hz⟩
  have hr := bf q1_1 hr
  by_cases q1_2 : (x0 : Int32) = 43
  · have hr := bt q1_2 hr
    refine w_lookup 132 dX5_binary_1 (by decide) (by rw [q1_2] <;> rfl) rfl ?_
    refine w_lload_n 1 dX5_binary_132 rfl rfl rfl ?_
    refine w_lload_n 2 dX5_binary_133 rfl rfl rfl ?_
    refine w_ladd dX5_binary_134 rfl ?_
    refine w_lret hf dX5_binary_135 rfl (Nat.le_of_ble_eq_true rfl) (Nat.le_of_ble_eq_true rfl) ?_
    obtain ⟨rfl, rfl⟩ := ret_inj hr
    exact ⟨rfl, hz⟩
  have hr := bf q1_2 hr
  by_cases q1_3 : (x0 : Int32) = 45
  · have hr := bt q1_3 hr
    refine w_lookup 136 dX5_binary_1 (by decide) (by rw [q1_3] <;> rfl) rfl ?_
    refine w_lload_n 1 dX5_binary_136 rfl rfl rfl ?_
    refine w_lload_n 2 dX5_binary_137 rfl rfl rfl ?_
    refine w_lsub dX5_binary_138 rfl ?_
    refine w_lret hf dX5_binary_139 rfl (Nat.le_of_ble_eq_true rfl) (Nat.le_of_ble_eq_true rfl) ?_
    obtain ⟨rfl, rfl⟩ := ret_inj hr
    exact ⟨rfl, hz⟩
  have hr := bf q1_3 hr
  by_cases q1_4 : (x0 : Int32) = 47
  · have hr := bt q1_4 hr
    refine w_lookup 144 dX5_binary_1 (by decide) (by rw [q1_4] <;> rfl) rfl ?_
    refine w_lload_n 2 dX5_binary_144 rfl rfl rfl ?_
    refine w_lconst 0 dX5_binary_145 rfl rfl ?_
    refine w_lcmp dX5_binary_146 rfl ?_
    refine w_if_ne 154 dX5_binary_147 rfl rfl (fun q147 => ?_) (fun q147 => ?_)
    · have hr := bf q147 hr
      refine w_lload_n 1 dX5_binary_154 rfl rfl rfl ?_
      refine w_lload_n 2 dX5_binary_155 rfl rfl rfl ?_
      obtain ⟨g2, hr⟩ := gd hr
      refine w_ldiv dX5_binary_156 rfl g2 ?_
      refine w_lret hf dX5_binary_157 rfl (Nat.le_of_ble_eq_true rfl) (Nat.le_of_ble_eq_true rfl) ?_
      obtain ⟨rfl, rfl⟩ := ret_inj hr
      exact ⟨rfl, hz⟩
    · have hr := bt q147 hr
      refine w_lconst 0 dX5_binary_150 rfl rfl ?_
      refine w_goto 157 dX5_binary_151 rfl ?_
      refine w_lret hf dX5_binary_157 rfl (Nat.le_of_ble_eq_true rfl) (Nat.le_of_ble_eq_true rfl) ?_
      obtain ⟨rfl, rfl⟩ := ret_inj hr
      exact ⟨rfl, hz⟩
  have hr := bf q1_4 hr
  by_cases q1_5 : (x0 : Int32) = 60
  · have hr := bt q1_5 hr
    refine w_lookup 196 dX5_binary_1 (by decide) (by rw [q1_5] <;> rfl) rfl ?_
    refine w_lload_n 1 dX5_binary_196 rfl rfl rfl ?_
    refine w_lload_n 2 dX5_binary_197 rfl rfl rfl ?_
    refine w_lcmp dX5_binary_198 rfl ?_
    refine w_if_ge 206 dX5_binary_199 rfl rfl (fun q199 => ?_) (fun q199 => ?_)
    · have hr := bt q199 hr
      refine w_lconst 0 dX5_binary_206 rfl rfl ?_
      refine w_lret hf dX5_binary_207 rfl (Nat.le_of_ble_eq_true rfl) (Nat.le_of_ble_eq_true rfl) ?_
      obtain ⟨rfl, rfl⟩ := ret_inj hr
      exact ⟨rfl, hz⟩
    · have hr := bf q199 hr
      refine w_lconst 1 dX5_binary_202 rfl rfl ?_
      refine w_goto 207 dX5_binary_203 rfl ?_
      refine w_lret hf dX5_binary_207 rfl (Nat.le_of_ble_eq_true rfl) (Nat.le_of_ble_eq_true rfl) ?_
      obtain ⟨rfl, rfl⟩ := ret_inj hr
      exact ⟨rfl, hz⟩
  have hr := bf q1_5 hr
  by_cases q1_6 : (x0 : Int32) = 61
  · have hr := bt q1_6 hr
    refine w_lookup 172 dX5_binary_1 (by decide) (by rw [q1_6] <;> rfl) rfl ?_
    refine w_lload_n 1 dX5_binary_172 rfl rfl rfl ?_
    refine w_lload_n 2 dX5_binary_173 rfl rfl rfl ?_
    refine w_lcmp dX5_binary_174 rfl ?_
    refine w_if_ne 182 dX5_binary_175 rfl rfl (fun q175 => ?_) (fun q175 => ?_)
    · have hr := bf q175 hr
      refine w_lconst 0 dX5_binary_182 rfl rfl ?_
      refine w_lret hf dX5_binary_183 rfl (Nat.le_of_ble_eq_true rfl) (Nat.le_of_ble_eq_true rfl) ?_
      obtain ⟨rfl, rfl⟩ := ret_inj hr
      exact ⟨rfl, hz⟩
    · have hr := bt q175 hr
      refine w_lconst 1 dX5_binary_178 rfl rfl ?_
      refine w_goto 183 dX5_binary_179 rfl ?_
      refine w_lret hf dX5_binary_183 rfl (Nat.le_of_ble_eq_true rfl) (Nat.le_of_ble_eq_true rfl) ?_
      obtain ⟨rfl, rfl⟩ := ret_inj hr
      exact ⟨rfl, hz⟩
  have hr := bf q1_6 hr
  by_cases q1_7 : (x0 : Int32) = 62
  · have hr := bt q1_7 hr
    refine w_lookup 208 dX5_binary_1 (by decide) (by rw [q1_7] <;> rfl) rfl ?_
    refine w_lload_n 1 dX5_binary_208 rfl rfl rfl ?_
    refine w_lload_n 2 dX5_binary_209 rfl rfl rfl ?_
    refine w_lcmp dX5_binary_210 rfl ?_
    refine w_if_le 218 dX5_binary_211 rfl rfl (fun q211 => ?_) (fun q211 => ?_)
    · have hr := bt q211 hr
      refine w_lconst 0 dX5_binary_218 rfl rfl ?_
      refine w_lret hf dX5_binary_219 rfl (Nat.le_of_ble_eq_true rfl) (Nat.le_of_ble_eq_true rfl) ?_
      obtain ⟨rfl, rfl⟩ := ret_inj hr
      exact ⟨rfl, hz⟩
    · have hr := bf q211 hr
      refine w_lconst 1 dX5_binary_214 rfl rfl ?_
      refine w_goto 219 dX5_binary_215 rfl ?_
      refine w_lret hf dX5_binary_219 rfl (Nat.le_of_ble_eq_true rfl) (Nat.le_of_ble_eq_true rfl) ?_
      obtain ⟨rfl, rfl⟩ := ret_inj hr
      exact ⟨rfl, hz⟩
  have hr := bf q1_7 hr
  by_cases q1_8 : (x0 : Int32) = 152
  · have hr := bt q1_8 hr
    refine w_lookup 280 dX5_binary_1 (by decide) (by rw [q1_8] <;> rfl) rfl ?_
    refine w_lload_n 1 dX5_binary_280 rfl rfl rfl ?_
    refine w_lload_n 2 dX5_binary_281 rfl rfl rfl ?_
    refine w_lcmp dX5_binary_282 rfl ?_
    refine w_if_ge 290 dX5_binary_283 rfl rfl (fun q283 => ?_) (fun q283 => ?_)
    · have hr := bt q283 hr
      refine w_lload_n 2 dX5_binary_290 rfl rfl rfl ?_
      refine w_lret hf dX5_binary_291 rfl (Nat.le_of_ble_eq_true rfl) (Nat.le_of_ble_eq_true rfl) ?_
      obtain ⟨rfl, rfl⟩ := ret_inj hr
      exact ⟨rfl, hz⟩
    · have hr := bf q283 hr
      refine w_lload_n 1 dX5_binary_286 rfl rfl rfl ?_
      refine w_goto 291 dX5_binary_287 rfl ?_
      refine w_lret hf dX5_binary_291 rfl (Nat.le_of_ble_eq_true rfl) (Nat.le_of_ble_eq_true rfl) ?_
      obtain ⟨rfl, rfl⟩ := ret_inj hr
      exact ⟨rfl, hz⟩
  have hr := bf q1_8 hr
  by_cases q1_9 : (x0 : Int32) = 153
  · have hr := bt q1_9 hr
    refine w_lookup 292 dX5_binary_1 (by decide) (by rw [q1_9] <;> rfl) rfl ?_
    refine w_lload_n 1 dX5_binary_292 rfl rfl rfl ?_
    refine w_lload_n 2 dX5_binary_293 rfl rfl rfl ?_
    refine w_lcmp dX5_binary_294 rfl ?_
    refine w_if_le 302 dX5_binary_295 rfl rfl (fun q295 => ?_) (fun q295 => ?_)
    · have hr := bt q295 hr
      refine w_lload_n 2 dX5_binary_302 rfl rfl rfl ?_
      refine w_lret hf dX5_binary_303 rfl (Nat.le_of_ble_eq_true rfl) (Nat.le_of_ble_eq_true rfl) ?_
      obtain ⟨rfl, rfl⟩ := ret_inj hr
      exact ⟨rfl, hz⟩
    · have hr := bf q295 hr
      refine w_lload_n 1 dX5_binary_298 rfl rfl rfl ?_
      refine w_goto 303 dX5_binary_299 rfl ?_
      refine w_lret hf dX5_binary_303 rfl (Nat.le_of_ble_eq_true rfl) (Nat.le_of_ble_eq_true rfl) ?_
      obtain ⟨rfl, rfl⟩ := ret_inj hr
      exact ⟨rfl, hz⟩
  have hr := bf q1_9 hr
  by_cases q1_10 : (x0 : Int32) = 156
  · have hr := bt q1_10 hr
    refine w_lookup 244 dX5_binary_1 (by decide) (by rw [q1_10] <;> rfl) rfl ?_
    refine w_lload_n 1 dX5_binary_244 rfl rfl rfl ?_
    refine w_lconst 0 dX5_binary_245 rfl rfl ?_
    refine w_lcmp dX5_binary_246 rfl ?_
    refine w_if_eq 260 dX5_binary_247 rfl rfl (fun q247 => ?_) (fun q247 => ?_)
    · have hr := bt q247 hr
      refine w_lconst 0 dX5_binary_260 rfl rfl ?_
      refine w_lret hf dX5_binary_261 rfl (Nat.le_of_ble_eq_true rfl) (Nat.le_of_ble_eq_true rfl) ?_
      obtain ⟨rfl, rfl⟩ := ret_inj hr
      exact ⟨rfl, hz⟩
    · have hr := bf q247 hr
      refine w_lload_n 2 dX5_binary_250 rfl rfl rfl ?_
      refine w_lconst 0 dX5_binary_251 rfl rfl ?_
      refine w_lcmp dX5_binary_252 rfl ?_
      refine w_if_eq 260 dX5_binary_253 rfl rfl (fun q253 => ?_) (fun q253 => ?_)
      · have hr := bt q253 hr
        refine w_lconst 0 dX5_binary_260 rfl rfl ?_
        refine w_lret hf dX5_binary_261 rfl (Nat.le_of_ble_eq_true rfl) (Nat.le_of_ble_eq_true rfl) ?_
        obtain ⟨rfl, rfl⟩ := ret_inj hr
        exact ⟨rfl, hz⟩
      · have hr := bf q253 hr
        refine w_lconst 1 dX5_binary_256 rfl rfl ?_
        refine w_goto 261 dX5_binary_257 rfl ?_
        refine w_lret hf dX5_binary_261 rfl (Nat.le_of_ble_eq_true rfl) (Nat.le_of_ble_eq_true rfl) ?_
        obtain ⟨rfl, rfl⟩ := ret_inj hr
        exact ⟨rfl, hz⟩
  have hr := bf q1_10 hr
  by_cases q1_11 : (x0 : Int32) = 157
  · have hr := bt q1_11 hr
    refine w_lookup 262 dX5_binary_1 (by decide) (by rw [q1_11] <;> rfl) rfl ?_
    refine w_lload_n 1 dX5_binary_262 rfl rfl rfl ?_
    refine w_lconst 0 dX5_binary_263 rfl rfl ?_
    refine w_lcmp dX5_binary_264 rfl ?_
    refine w_if_ne 274 dX5_binary_265 rfl rfl (fun q265 => ?_) (fun q265 => ?_)
    · have hr := bf q265 hr
      refine w_lconst 1 dX5_binary_274 rfl rfl ?_
      refine w_goto 279 dX5_binary_275 rfl ?_
      refine w_lret hf dX5_binary_279 rfl (Nat.le_of_ble_eq_true rfl) (Nat.le_of_ble_eq_true rfl) ?_
      obtain ⟨rfl, rfl⟩ := ret_inj hr
      exact ⟨rfl, hz⟩
    · have hr := bt q265 hr
      refine w_lload_n 2 dX5_binary_268 rfl rfl rfl ?_
      refine w_lconst 0 dX5_binary_269 rfl rfl ?_
      refine w_lcmp dX5_binary_270 rfl ?_
      refine w_if_eq 278 dX5_binary_271 rfl rfl (fun q271 => ?_) (fun q271 => ?_)
      · have hr := bt q271 hr
        refine w_lconst 0 dX5_binary_278 rfl rfl ?_
        refine w_lret hf dX5_binary_279 rfl (Nat.le_of_ble_eq_true rfl) (Nat.le_of_ble_eq_true rfl) ?_
        obtain ⟨rfl, rfl⟩ := ret_inj hr
        exact ⟨rfl, hz⟩
      · have hr := bf q271 hr
        refine w_lconst 1 dX5_binary_274 rfl rfl ?_
        refine w_goto 279 dX5_binary_275 rfl ?_
        refine w_lret hf dX5_binary_279 rfl (Nat.le_of_ble_eq_true rfl) (Nat.le_of_ble_eq_true rfl) ?_
        obtain ⟨rfl, rfl⟩ := ret_inj hr
        exact ⟨rfl, hz⟩
  have hr := bf q1_11 hr
  by_cases q1_12 : (x0 : Int32) = 15421
  · have hr := bt q1_12 hr
    refine w_lookup 220 dX5_binary_1 (by decide) (by rw [q1_12] <;> rfl) rfl ?_
    refine w_lload_n 1 dX5_binary_220 rfl rfl rfl ?_
    refine w_lload_n 2 dX5_binary_221 rfl rfl rfl ?_
    refine w_lcmp dX5_binary_222 rfl ?_
    refine w_if_gt 230 dX5_binary_223 rfl rfl (fun q223 => ?_) (fun q223 => ?_)
    · have hr := bt q223 hr
      refine w_lconst 0 dX5_binary_230 rfl rfl ?_
      refine w_lret hf dX5_binary_231 rfl (Nat.le_of_ble_eq_true rfl) (Nat.le_of_ble_eq_true rfl) ?_
      obtain ⟨rfl, rfl⟩ := ret_inj hr
      exact ⟨rfl, hz⟩
    · have hr := bf q223 hr
      refine w_lconst 1 dX5_binary_226 rfl rfl ?_
      refine w_goto 231 dX5_binary_227 rfl ?_
      refine w_lret hf dX5_binary_231 rfl (Nat.le_of_ble_eq_true rfl) (Nat.le_of_ble_eq_true rfl) ?_
      obtain ⟨rfl, rfl⟩ := ret_inj hr
      exact ⟨rfl, hz⟩
  have hr := bf q1_12 hr
  by_cases q1_13 : (x0 : Int32) = 15422
  · have hr := bt q1_13 hr
    refine w_lookup 184 dX5_binary_1 (by decide) (by rw [q1_13] <;> rfl) rfl ?_
    refine w_lload_n 1 dX5_binary_184 rfl rfl rfl ?_
    refine w_lload_n 2 dX5_binary_185 rfl rfl rfl ?_
    refine w_lcmp dX5_binary_186 rfl ?_
    refine w_if_eq 194 dX5_binary_187 rfl rfl (fun q187 => ?_) (fun q187 => ?_)
    · have hr := bt q187 hr
      refine w_lconst 0 dX5_binary_194 rfl rfl ?_
      refine w_lret hf dX5_binary_195 rfl (Nat.le_of_ble_eq_true rfl) (Nat.le_of_ble_eq_true rfl) ?_
      obtain ⟨rfl, rfl⟩ := ret_inj hr
      exact ⟨rfl, hz⟩
    · have hr := bf q187 hr
      refine w_lconst 1 dX5_binary_190 rfl rfl ?_
      refine w_goto 195 dX5_binary_191 rfl ?_
      refine w_lret hf dX5_binary_195 rfl (Nat.le_of_ble_eq_true rfl) (Nat.le_of_ble_eq_true rfl) ?_
      obtain ⟨rfl, rfl⟩ := ret_inj hr
      exact ⟨rfl, hz⟩
  have hr := bf q1_13 hr
  by_cases q1_14 : (x0 : Int32) = 15933
  · have hr := bt q1_14 hr
    refine w_lookup 232 dX5_binary_1 (by decide) (by rw [q1_14] <;> rfl) rfl ?_
    refine w_lload_n 1 dX5_binary_232 rfl rfl rfl ?_
    refine w_lload_n 2 dX5_binary_233 rfl rfl rfl ?_
    refine w_lcmp dX5_binary_234 rfl ?_
    refine w_if_lt 242 dX5_binary_235 rfl rfl (fun q235 => ?_) (fun q235 => ?_)
    · have hr := bt q235 hr
      refine w_lconst 0 dX5_binary_242 rfl rfl ?_
      refine w_lret hf dX5_binary_243 rfl (Nat.le_of_ble_eq_true rfl) (Nat.le_of_ble_eq_true rfl) ?_
      obtain ⟨rfl, rfl⟩ := ret_inj hr
      exact ⟨rfl, hz⟩
    · have hr := bf q235 hr
      refine w_lconst 1 dX5_binary_238 rfl rfl ?_
      refine w_goto 243 dX5_binary_239 rfl ?_
      refine w_lret hf dX5_binary_243 rfl (Nat.le_of_ble_eq_true rfl) (Nat.le_of_ble_eq_true rfl) ?_
      obtain ⟨rfl, rfl⟩ := ret_inj hr
      exact ⟨rfl, hz⟩
  have hr := bf q1_14 hr
  refine w_lookup 304 dX5_binary_1 (by decide) ((lv_osw q1_0 rfl).trans ((lv_osw q1_1 rfl).trans ((lv_osw q1_2 rfl).trans ((lv_osw q1_3 rfl).trans ((lv_osw q1_4 rfl).trans ((lv_osw q1_5 rfl).trans ((lv_osw q1_6 rfl).trans ((lv_osw q1_7 rfl).trans ((lv_osw q1_8 rfl).trans ((lv_osw q1_9 rfl).trans ((lv_osw q1_10 rfl).trans ((lv_osw q1_11 rfl).trans ((lv_osw q1_12 rfl).trans ((lv_osw q1_13 rfl).trans ((lv_osw q1_14 rfl).trans rfl))))))))))))))) rfl ?_
  refine w_lconst 0 dX5_binary_304 rfl rfl ?_
  refine w_lret hf dX5_binary_305 rfl (Nat.le_of_ble_eq_true rfl) (Nat.le_of_ble_eq_true rfl) ?_
  obtain ⟨rfl, rfl⟩ := ret_inj hr
  exact ⟨rfl, hz⟩

set_option maxRecDepth 20000 in
set_option maxHeartbeats 4000000 in
theorem w_X5_reckon_55 {A : Nat → Nat → Nat → Nat} {ρ σ' : Zs} {v : Int64} {x : Cxt} {p : Nat} {x1 : Int32} {x2 : Int32} {p3 : Nat} {s3 : Nat} {k6 : Int32 → Int32 → Zs → Option (Int64 × Zs)}  (hf : m_fin 0 0 (QJ A v σ' ρ) X0 x) (hrm : m_rm 1 0 0 x) (hv : vdb (A 16 0 0) 5 p 0 = true) (hV3 : vdb (A 16 0 0) 6 p3 s3 = true) (hk6 : ∀ (y4 : Int32) (y5 : Int32) (σ : Zs) (h : Hp), Rp A h σ ρ → k6 y4 y5 σ = some (v, σ') → wp x mX5_reckon 6 [(0, .ref (A 5 p 0)), (1, .int x1), (2, .int x2), (3, .ref (A 6 p3 s3)), (4, .int y4), (5, .int y5)] [] h 0 0) : ∀ (y4 : Int32) (y5 : Int32) (y6 : Int32) (σ : Zs) (h : Hp), Rp A h σ ρ → fX5_reckon_55 p x1 x2 p3 s3 k6 y4 y5 y6 σ = some (v, σ') → wp x mX5_reckon 55 [(0, .ref (A 5 p 0)), (1, .int x1), (2, .int x2), (3, .ref (A 6 p3 s3)), (4, .int y4), (5, .int y5), (6, .int y6)] [] h 0 0 := by
  intro y4 y5 y6 σ h hz hr
  rw [fX5_reckon_55.eq_1] at hr
  refine w_iload 4 dX5_reckon_55 rfl rfl ?_
  refine w_aload_n 0 dX5_reckon_57 rfl rfl rfl ?_
  refine g_X5_31 dX5_reckon_58 rfl (hz.o5 hv) (hz.r327 hv) ?_
  refine w_alen 1 dX5_reckon_61 rfl (by decide) (by decide) (fun _ => rfl) (hz.k327 hv) (v := 60) (by rw [hz.n327 hv]; rfl) ?_
  refine w_icmp_ge 216 dX5_reckon_62 rfl rfl (fun q62 => ?_) (fun q62 => ?_)
  · have hr := bt q62 hr
    refine w_iinc 5 (y5 + 1) [(5, .int (y5 + 1)), (0, .ref (A 5 p 0)), (1, .int x1), (2, .int x2), (3, .ref (A 6 p3 s3)), (4, .int y4), (6, .int y6)] dX5_reckon_216 rfl rfl rfl (by decide) rfl ?_
    refine w_goto 6 dX5_reckon_219 rfl ?_
    refine w_lv [(0, .ref (A 5 p 0)), (1, .int x1), (2, .int x2), (3, .ref (A 6 p3 s3)), (4, .int y4), (5, .int (y5 + 1))] [1, 2, 3, 4, 5, 0] rfl ?_
    exact hk6 y4 (y5 + 1) _ _ hz  hr
  · have hr := bf q62 hr
    refine w_aload_n 0 dX5_reckon_65 rfl rfl rfl ?_
    refine g_X5_31 dX5_reckon_66 rfl (hz.o5 hv) (hz.r327 hv) ?_
    refine w_iload 4 dX5_reckon_69 rfl rfl ?_
    refine w_iload 6 dX5_reckon_71 rfl rfl ?_
    refine w_iconst 2 dX5_reckon_73 rfl rfl ?_
    refine w_icmp_ne 92 dX5_reckon_74 rfl rfl (fun q74 => ?_) (fun q74 => ?_)
    · have hr := bf q74 hr
      refine w_iload 6 dX5_reckon_92 rfl rfl ?_
      refine w_sipush 155 dX5_reckon_94 rfl rfl ?_
      refine w_icmp_ne 108 dX5_reckon_97 rfl rfl (fun q97 => ?_) (fun q97 => ?_)
      · have hr := bf q97 hr
        refine w_aload_n 0 dX5_reckon_108 rfl rfl rfl ?_
        refine g_X5_27 dX5_reckon_109 rfl (hz.o5 hv) (hz.r325 hv) ?_
        refine w_iload 5 dX5_reckon_112 rfl rfl ?_
        obtain ⟨g5, hr⟩ := gd hr
        refine w_lald dX5_reckon_114 rfl (hz.k325 hv) (gin (hz.n325 hv) g5) (hz.x325 hv) ?_
        obtain ⟨g6, hr⟩ := gd hr
        refine w_last dX5_reckon_115 rfl (hz.k327 hv) (gin (hz.n327 hv) g6) ?_
        obtain ⟨σ7, e8, hr⟩ := lt_e hr
        have hz := (hz.s327 (i := (Int32.toNatClampNeg y4)) (v := (zJ σ 1349 p 0 (Int32.toNatClampNeg y5))) hv).ts e8
        refine w_iinc 4 (y4 + 1) [(4, .int (y4 + 1)), (0, .ref (A 5 p 0)), (1, .int x1), (2, .int x2), (3, .ref (A 6 p3 s3)), (5, .int y5), (6, .int y6)] dX5_reckon_116 rfl rfl rfl (by decide) rfl ?_
        refine w_goto 216 dX5_reckon_119 rfl ?_
        refine w_iinc 5 (y5 + 1) [(5, .int (y5 + 1)), (4, .int (y4 + 1)), (0, .ref (A 5 p 0)), (1, .int x1), (2, .int x2), (3, .ref (A 6 p3 s3)), (6, .int y6)] dX5_reckon_216 rfl rfl rfl (by decide) rfl ?_
        refine w_goto 6 dX5_reckon_219 rfl ?_
        refine w_lv [(0, .ref (A 5 p 0)), (1, .int x1), (2, .int x2), (3, .ref (A 6 p3 s3)), (4, .int (y4 + 1)), (5, .int (y5 + 1))] [2, 3, 4, 5, 1, 0] rfl ?_
        exact hk6 (y4 + 1) (y5 + 1) _ _ hz  hr
      · have hr := bt q97 hr
        refine w_aload_n 3 dX5_reckon_100 rfl rfl rfl ?_
        refine g_X5_53 dX5_reckon_101 rfl (hz.o6 hV3) (hz.i384 hV3) ?_
        refine w_i2l dX5_reckon_104 rfl ?_
        refine w_goto 115 dX5_reckon_105 rfl ?_
        obtain ⟨g9, hr⟩ := gd hr
        refine w_last dX5_reckon_115 rfl (hz.k327 hv) (gin (hz.n327 hv) g9) ?_
        obtain ⟨σ10, e11, hr⟩ := lt_e hr
        have hz := (hz.s327 (i := (Int32.toNatClampNeg y4)) (v := (((zI σ 384 p3 s3 0) : Int32).toInt64)) hv).ts e11
        refine w_iinc 4 (y4 + 1) [(4, .int (y4 + 1)), (0, .ref (A 5 p 0)), (1, .int x1), (2, .int x2), (3, .ref (A 6 p3 s3)), (5, .int y5), (6, .int y6)] dX5_reckon_116 rfl rfl rfl (by decide) rfl ?_
        refine w_goto 216 dX5_reckon_119 rfl ?_
        refine w_iinc 5 (y5 + 1) [(5, .int (y5 + 1)), (4, .int (y4 + 1)), (0, .ref (A 5 p 0)), (1, .int x1), (2, .int x2), (3, .ref (A 6 p3 s3)), (6, .int y6)] dX5_reckon_216 rfl rfl rfl (by decide) rfl ?_
        refine w_goto 6 dX5_reckon_219 rfl ?_
        refine w_lv [(0, .ref (A 5 p 0)), (1, .int x1), (2, .int x2), (3, .ref (A 6 p3 s3)), (4, .int (y4 + 1)), (5, .int (y5 + 1))] [2, 3, 4, 5, 1, 0] rfl ?_
        exact hk6 (y4 + 1) (y5 + 1) _ _ hz  hr
    · have hr := bt q74 hr
      refine w_aload_n 3 dX5_reckon_77 rfl rfl rfl ?_
      refine w_aload_n 0 dX5_reckon_78 rfl rfl rfl ?_
      refine g_X5_27 dX5_reckon_79 rfl (hz.o5 hv) (hz.r325 hv) ?_
      refine w_iload 5 dX5_reckon_82 rfl rfl ?_
      obtain ⟨g12, hr⟩ := gd hr
      refine w_lald dX5_reckon_84 rfl (hz.k325 hv) (gin (hz.n325 hv) g12) (hz.x325 hv) ?_
      refine w_l2i dX5_reckon_85 rfl ?_
      obtain ⟨v13, σ14, e15, hr⟩ := bq_some hr
      refine c_X5_47 (As := [.int (((zJ σ 1349 p 0 (Int32.toNatClampNeg y5)) : Int64).toInt32)]) (rest := [.int y4, .ref (A 1351 p 0)]) (fun l => s_X6_numberAt hV3 hz e15 l) hrm dX5_reckon_86 rfl rfl (Nat.le_of_ble_eq_true rfl) (Nat.le_of_ble_eq_true rfl) (Nat.le_of_ble_eq_true rfl) (hz.o6 hV3) rfl (Nat.le_of_ble_eq_true rfl) (fun vr h2 hq => ?_) (fun E9 h9 hq => hq.elim)
      obtain ⟨rfl, hz⟩ := hq
      show wp _ _ 89 [(0, .ref (A 5 p 0)), (1, .int x1), (2, .int x2), (3, .ref (A 6 p3 s3)), (4, .int y4), (5, .int y5), (6, .int y6)] [.long v13, .int y4, .ref (A 1351 p 0)] _ _ _
      refine w_goto 115 dX5_reckon_89 rfl ?_
      obtain ⟨g17, hr⟩ := gd hr
      refine w_last dX5_reckon_115 rfl (hz.k327 hv) (gin (hz.n327 hv) g17) ?_
      obtain ⟨σ18, e19, hr⟩ := lt_e hr
      have hz := (hz.s327 (i := (Int32.toNatClampNeg y4)) (v := v13) hv).ts e19
      refine w_iinc 4 (y4 + 1) [(4, .int (y4 + 1)), (0, .ref (A 5 p 0)), (1, .int x1), (2, .int x2), (3, .ref (A 6 p3 s3)), (5, .int y5), (6, .int y6)] dX5_reckon_116 rfl rfl rfl (by decide) rfl ?_
      refine w_goto 216 dX5_reckon_119 rfl ?_
      refine w_iinc 5 (y5 + 1) [(5, .int (y5 + 1)), (4, .int (y4 + 1)), (0, .ref (A 5 p 0)), (1, .int x1), (2, .int x2), (3, .ref (A 6 p3 s3)), (6, .int y6)] dX5_reckon_216 rfl rfl rfl (by decide) rfl ?_
      refine w_goto 6 dX5_reckon_219 rfl ?_
      refine w_lv [(0, .ref (A 5 p 0)), (1, .int x1), (2, .int x2), (3, .ref (A 6 p3 s3)), (4, .int (y4 + 1)), (5, .int (y5 + 1))] [2, 3, 4, 5, 1, 0] rfl ?_
      exact hk6 (y4 + 1) (y5 + 1) _ _ hz  hr
set_option maxRecDepth 20000 in
set_option maxHeartbeats 4000000 in
theorem w_X5_reckon_146 {A : Nat → Nat → Nat → Nat} {ρ σ' : Zs} {v : Int64} {x : Cxt} {p : Nat} {x1 : Int32} {x2 : Int32} {p3 : Nat} {s3 : Nat} {k6 : Int32 → Int32 → Zs → Option (Int64 × Zs)}  (hf : m_fin 0 0 (QJ A v σ' ρ) X0 x) (hrm : m_rm 1 0 0 x) (hv : vdb (A 16 0 0) 5 p 0 = true) (hV3 : vdb (A 16 0 0) 6 p3 s3 = true) (hk6 : ∀ (y4 : Int32) (y5 : Int32) (σ : Zs) (h : Hp), Rp A h σ ρ → k6 y4 y5 σ = some (v, σ') → wp x mX5_reckon 6 [(0, .ref (A 5 p 0)), (1, .int x1), (2, .int x2), (3, .ref (A 6 p3 s3)), (4, .int y4), (5, .int y5)] [] h 0 0) : ∀ (y4 : Int32) (y5 : Int32) (y6 : Int32) (σ : Zs) (h : Hp), Rp A h σ ρ → fX5_reckon_146 p x1 x2 p3 s3 k6 y4 y5 y6 σ = some (v, σ') → wp x mX5_reckon 146 [(0, .ref (A 5 p 0)), (1, .int x1), (2, .int x2), (3, .ref (A 6 p3 s3)), (4, .int y4), (5, .int y5), (6, .int y6)] [] h 0 0 := by
  intro y4 y5 y6 σ h hz hr
  rw [fX5_reckon_146.eq_1] at hr
  refine w_iload 4 dX5_reckon_146 rfl rfl ?_
  refine w_if_le 216 dX5_reckon_148 rfl rfl (fun q148 => ?_) (fun q148 => ?_)
  · have hr := bt q148 hr
    refine w_iinc 5 (y5 + 1) [(5, .int (y5 + 1)), (0, .ref (A 5 p 0)), (1, .int x1), (2, .int x2), (3, .ref (A 6 p3 s3)), (4, .int y4), (6, .int y6)] dX5_reckon_216 rfl rfl rfl (by decide) rfl ?_
    refine w_goto 6 dX5_reckon_219 rfl ?_
    refine w_lv [(0, .ref (A 5 p 0)), (1, .int x1), (2, .int x2), (3, .ref (A 6 p3 s3)), (4, .int y4), (5, .int (y5 + 1))] [1, 2, 3, 4, 5, 0] rfl ?_
    exact hk6 y4 (y5 + 1) _ _ hz  hr
  · have hr := bf q148 hr
    refine w_aload_n 0 dX5_reckon_151 rfl rfl rfl ?_
    refine g_X5_31 dX5_reckon_152 rfl (hz.o5 hv) (hz.r327 hv) ?_
    refine w_iload 4 dX5_reckon_155 rfl rfl ?_
    refine w_iconst 1 dX5_reckon_157 rfl rfl ?_
    refine w_isub dX5_reckon_158 rfl ?_
    refine w_iload 6 dX5_reckon_159 rfl rfl ?_
    refine w_aload_n 0 dX5_reckon_161 rfl rfl rfl ?_
    refine g_X5_31 dX5_reckon_162 rfl (hz.o5 hv) (hz.r327 hv) ?_
    refine w_iload 4 dX5_reckon_165 rfl rfl ?_
    refine w_iconst 1 dX5_reckon_167 rfl rfl ?_
    refine w_isub dX5_reckon_168 rfl ?_
    obtain ⟨g20, hr⟩ := gd hr
    refine w_lald dX5_reckon_169 rfl (hz.k327 hv) (gin (hz.n327 hv) g20) (hz.x327 hv) ?_
    obtain ⟨v21, σ22, e23, hr⟩ := bq_some hr
    refine c_X5_56 (b := 0) (As := [.int y6, .long (zJ σ 1351 p 0 (Int32.toNatClampNeg (y4 - 1)))]) (rest := [.int (y4 - 1), .ref (A 1351 p 0)]) (fun l => s_X5_unary  hz e23 l) hrm dX5_reckon_170 rfl rfl (Nat.le_of_ble_eq_true rfl) (Nat.le_of_ble_eq_true rfl) (Nat.le_of_ble_eq_true rfl) rfl (Nat.le_of_ble_eq_true rfl) (fun vr h2 hq => ?_) (fun E9 h9 hq => hq.elim)
    obtain ⟨rfl, hz⟩ := hq
    show wp _ _ 173 [(0, .ref (A 5 p 0)), (1, .int x1), (2, .int x2), (3, .ref (A 6 p3 s3)), (4, .int y4), (5, .int y5), (6, .int y6)] [.long v21, .int (y4 - 1), .ref (A 1351 p 0)] _ _ _
    obtain ⟨g25, hr⟩ := gd hr
    refine w_last dX5_reckon_173 rfl (hz.k327 hv) (gin (hz.n327 hv) g25) ?_
    obtain ⟨σ26, e27, hr⟩ := lt_e hr
    have hz := (hz.s327 (i := (Int32.toNatClampNeg (y4 - 1))) (v := v21) hv).ts e27
    refine w_goto 216 dX5_reckon_174 rfl ?_
    refine w_iinc 5 (y5 + 1) [(5, .int (y5 + 1)), (0, .ref (A 5 p 0)), (1, .int x1), (2, .int x2), (3, .ref (A 6 p3 s3)), (4, .int y4), (6, .int y6)] dX5_reckon_216 rfl rfl rfl (by decide) rfl ?_
    refine w_goto 6 dX5_reckon_219 rfl ?_
    refine w_lv [(0, .ref (A 5 p 0)), (1, .int x1), (2, .int x2), (3, .ref (A 6 p3 s3)), (4, .int y4), (5, .int (y5 + 1))] [1, 2, 3, 4, 5, 0] rfl ?_
    exact hk6 y4 (y5 + 1) _ _ hz  hr
set_option maxRecDepth 20000 in
set_option maxHeartbeats 4000000 in
theorem w_X5_reckon_6 {A : Nat → Nat → Nat → Nat} {ρ σ' : Zs} {v : Int64} {x : Cxt} {p : Nat} {x1 : Int32} {x2 : Int32} {p3 : Nat} {s3 : Nat}  (hf : m_fin 0 0 (QJ A v σ' ρ) X0 x) (hrm : m_rm 1 0 0 x) (hv : vdb (A 16 0 0) 5 p 0 = true) (hV3 : vdb (A 16 0 0) 6 p3 s3 = true) : ∀ (n : Nat) (y4 : Int32) (y5 : Int32) (σ : Zs) (h : Hp), Rp A h σ ρ → fX5_reckon_6 p x1 x2 p3 s3  n y4 y5 σ = some (v, σ') → wp x mX5_reckon 6 [(0, .ref (A 5 p 0)), (1, .int x1), (2, .int x2), (3, .ref (A 6 p3 s3)), (4, .int y4), (5, .int y5)] [] h 0 0
  | 0, _, _, σ, h => fun hz hr => by
    rw [fX5_reckon_6.eq_1] at hr
    exact nono hr
  | n + 1, y4, y5, σ, h => fun hz hr => by
    rw [fX5_reckon_6.eq_2] at hr
    refine w_iload 5 dX5_reckon_6 rfl rfl ?_
    refine w_if_lt 222 dX5_reckon_8 rfl rfl (fun q8 => ?_) (fun q8 => ?_)
    · have hr := bt q8 hr
      refine w_iload 4 dX5_reckon_222 rfl rfl ?_
      refine w_if_le 236 dX5_reckon_224 rfl rfl (fun q224 => ?_) (fun q224 => ?_)
      · have hr := bt q224 hr
        refine w_lconst 0 dX5_reckon_236 rfl rfl ?_
        refine w_lret hf dX5_reckon_237 rfl (Nat.le_of_ble_eq_true rfl) (Nat.le_of_ble_eq_true rfl) ?_
        obtain ⟨rfl, rfl⟩ := ret_inj hr
        exact ⟨rfl, hz⟩
      · have hr := bf q224 hr
        refine w_aload_n 0 dX5_reckon_227 rfl rfl rfl ?_
        refine g_X5_31 dX5_reckon_228 rfl (hz.o5 hv) (hz.r327 hv) ?_
        refine w_iconst 0 dX5_reckon_231 rfl rfl ?_
        obtain ⟨g1, hr⟩ := gd hr
        refine w_lald dX5_reckon_232 rfl (hz.k327 hv) (gin (hz.n327 hv) g1) (hz.x327 hv) ?_
        refine w_goto 237 dX5_reckon_233 rfl ?_
        refine w_lret hf dX5_reckon_237 rfl (Nat.le_of_ble_eq_true rfl) (Nat.le_of_ble_eq_true rfl) ?_
        obtain ⟨rfl, rfl⟩ := ret_inj hr
        exact ⟨rfl, hz⟩
    · have hr := bf q8 hr
      refine w_iload 5 dX5_reckon_11 rfl rfl ?_
      refine w_iload_n 2 dX5_reckon_13 rfl rfl rfl ?_
      refine w_icmp_ge 222 dX5_reckon_14 rfl rfl (fun q14 => ?_) (fun q14 => ?_)
      · have hr := bt q14 hr
        refine w_iload 4 dX5_reckon_222 rfl rfl ?_
        refine w_if_le 236 dX5_reckon_224 rfl rfl (fun q224 => ?_) (fun q224 => ?_)
        · have hr := bt q224 hr
          refine w_lconst 0 dX5_reckon_236 rfl rfl ?_
          refine w_lret hf dX5_reckon_237 rfl (Nat.le_of_ble_eq_true rfl) (Nat.le_of_ble_eq_true rfl) ?_
          obtain ⟨rfl, rfl⟩ := ret_inj hr
          exact ⟨rfl, hz⟩
        · have hr := bf q224 hr
          refine w_aload_n 0 dX5_reckon_227 rfl rfl rfl ?_
          refine g_X5_31 dX5_reckon_228 rfl (hz.o5 hv) (hz.r327 hv) ?_
          refine w_iconst 0 dX5_reckon_231 rfl rfl ?_
          obtain ⟨g2, hr⟩ := gd hr
          refine w_lald dX5_reckon_232 rfl (hz.k327 hv) (gin (hz.n327 hv) g2) (hz.x327 hv) ?_
          refine w_goto 237 dX5_reckon_233 rfl ?_
          refine w_lret hf dX5_reckon_237 rfl (Nat.le_of_ble_eq_true rfl) (Nat.le_of_ble_eq_true rfl) ?_
          obtain ⟨rfl, rfl⟩ := ret_inj hr
          exact ⟨rfl, hz⟩
      · have hr := bf q14 hr
        refine w_iload 5 dX5_reckon_17 rfl rfl ?_
        refine w_aload_n 0 dX5_reckon_19 rfl rfl rfl ?_
        refine g_X5_44 dX5_reckon_20 rfl (hz.o5 hv) (hz.i326 hv) ?_
        refine w_icmp_ge 222 dX5_reckon_23 rfl rfl (fun q23 => ?_) (fun q23 => ?_)
        · have hr := bt q23 hr
          refine w_iload 4 dX5_reckon_222 rfl rfl ?_
          refine w_if_le 236 dX5_reckon_224 rfl rfl (fun q224 => ?_) (fun q224 => ?_)
          · have hr := bt q224 hr
            refine w_lconst 0 dX5_reckon_236 rfl rfl ?_
            refine w_lret hf dX5_reckon_237 rfl (Nat.le_of_ble_eq_true rfl) (Nat.le_of_ble_eq_true rfl) ?_
            obtain ⟨rfl, rfl⟩ := ret_inj hr
            exact ⟨rfl, hz⟩
          · have hr := bf q224 hr
            refine w_aload_n 0 dX5_reckon_227 rfl rfl rfl ?_
            refine g_X5_31 dX5_reckon_228 rfl (hz.o5 hv) (hz.r327 hv) ?_
            refine w_iconst 0 dX5_reckon_231 rfl rfl ?_
            obtain ⟨g3, hr⟩ := gd hr
            refine w_lald dX5_reckon_232 rfl (hz.k327 hv) (gin (hz.n327 hv) g3) (hz.x327 hv) ?_
            refine w_goto 237 dX5_reckon_233 rfl ?_
            refine w_lret hf dX5_reckon_237 rfl (Nat.le_of_ble_eq_true rfl) (Nat.le_of_ble_eq_true rfl) ?_
            obtain ⟨rfl, rfl⟩ := ret_inj hr
            exact ⟨rfl, hz⟩
        · have hr := bf q23 hr
          refine w_aload_n 0 dX5_reckon_26 rfl rfl rfl ?_
          refine g_X5_23 dX5_reckon_27 rfl (hz.o5 hv) (hz.r324 hv) ?_
          refine w_iload 5 dX5_reckon_30 rfl rfl ?_
          obtain ⟨g4, hr⟩ := gd hr
          refine w_iald dX5_reckon_32 rfl (hz.k324 hv) (gin (hz.n324 hv) g4) (hz.x324 hv) ?_
          refine w_istore [(6, .int (zI σ 1348 p 0 (Int32.toNatClampNeg y5))), (0, .ref (A 5 p 0)), (1, .int x1), (2, .int x2), (3, .ref (A 6 p3 s3)), (4, .int y4), (5, .int y5)] dX5_reckon_33 rfl (by decide) rfl ?_
          refine w_iload 0 dX5_reckon_35 rfl rfl ?_
          refine w_iconst 3 dX5_reckon_37 rfl rfl ?_
          refine w_icmp_eq 55 dX5_reckon_38 rfl rfl (fun q38 => ?_) (fun q38 => ?_)
          · have hr := bt q38 hr
            refine w_lv [(0, .ref (A 5 p 0)), (1, .int x1), (2, .int x2), (3, .ref (A 6 p3 s3)), (4, .int y4), (5, .int y5), (6, .int (zI σ 1348 p 0 (Int32.toNatClampNeg y5)))] [1, 2, 3, 4, 5, 6, 0] rfl ?_
            exact w_X5_reckon_55 hf hrm hv hV3 (fun by4 by5 zb hb hzb  hrb => w_X5_reckon_6 hf hrm hv hV3  n by4 by5 zb hb hzb  hrb) y4 y5 (zI σ 1348 p 0 (Int32.toNatClampNeg y5)) _ _ hz  hr
          · have hr := bf q38 hr
            refine w_iload 0 dX5_reckon_41 rfl rfl ?_
            refine w_iconst 2 dX5_reckon_43 rfl rfl ?_
            refine w_icmp_eq 55 dX5_reckon_44 rfl rfl (fun q44 => ?_) (fun q44 => ?_)
            · have hr := bt q44 hr
              refine w_lv [(0, .ref (A 5 p 0)), (1, .int x1), (2, .int x2), (3, .ref (A 6 p3 s3)), (4, .int y4), (5, .int y5), (6, .int (zI σ 1348 p 0 (Int32.toNatClampNeg y5)))] [1, 2, 3, 4, 5, 6, 0] rfl ?_
              exact w_X5_reckon_55 hf hrm hv hV3 (fun by4 by5 zb hb hzb  hrb => w_X5_reckon_6 hf hrm hv hV3  n by4 by5 zb hb hzb  hrb) y4 y5 (zI σ 1348 p 0 (Int32.toNatClampNeg y5)) _ _ hz  hr
            · have hr := bf q44 hr
              refine w_iload 0 dX5_reckon_47 rfl rfl ?_
              refine w_sipush 155 dX5_reckon_49 rfl rfl ?_
              refine w_icmp_ne 122 dX5_reckon_52 rfl rfl (fun q52 => ?_) (fun q52 => ?_)
              · have hr := bf q52 hr
                refine w_iload 0 dX5_reckon_122 rfl rfl ?_
                refine w_sipush 160 dX5_reckon_124 rfl rfl ?_
                refine w_icmp_eq 146 dX5_reckon_127 rfl rfl (fun q127 => ?_) (fun q127 => ?_)
                · have hr := bt q127 hr
                  refine w_lv [(0, .ref (A 5 p 0)), (1, .int x1), (2, .int x2), (3, .ref (A 6 p3 s3)), (4, .int y4), (5, .int y5), (6, .int (zI σ 1348 p 0 (Int32.toNatClampNeg y5)))] [1, 2, 3, 4, 5, 6, 0] rfl ?_
                  exact w_X5_reckon_146 hf hrm hv hV3 (fun by4 by5 zb hb hzb  hrb => w_X5_reckon_6 hf hrm hv hV3  n by4 by5 zb hb hzb  hrb) y4 y5 (zI σ 1348 p 0 (Int32.toNatClampNeg y5)) _ _ hz  hr
                · have hr := bf q127 hr
                  refine w_iload 0 dX5_reckon_130 rfl rfl ?_
                  refine w_sipush 158 dX5_reckon_132 rfl rfl ?_
                  refine w_icmp_eq 146 dX5_reckon_135 rfl rfl (fun q135 => ?_) (fun q135 => ?_)
                  · have hr := bt q135 hr
                    refine w_lv [(0, .ref (A 5 p 0)), (1, .int x1), (2, .int x2), (3, .ref (A 6 p3 s3)), (4, .int y4), (5, .int y5), (6, .int (zI σ 1348 p 0 (Int32.toNatClampNeg y5)))] [1, 2, 3, 4, 5, 6, 0] rfl ?_
                    exact w_X5_reckon_146 hf hrm hv hV3 (fun by4 by5 zb hb hzb  hrb => w_X5_reckon_6 hf hrm hv hV3  n by4 by5 zb hb hzb  hrb) y4 y5 (zI σ 1348 p 0 (Int32.toNatClampNeg y5)) _ _ hz  hr
                  · have hr := bf q135 hr
                    refine w_iload 0 dX5_reckon_138 rfl rfl ?_
                    refine w_sipush 159 dX5_reckon_140 rfl rfl ?_
                    refine w_icmp_ne 177 dX5_reckon_143 rfl rfl (fun q143 => ?_) (fun q143 => ?_)
                    · have hr := bf q143 hr
                      refine w_iload 5 dX5_reckon_177 rfl rfl ?_
                      refine w_iconst 1 dX5_reckon_179 rfl rfl ?_
                      refine w_icmp_le 216 dX5_reckon_180 rfl rfl (fun q180 => ?_) (fun q180 => ?_)
                      · have hr := bt q180 hr
                        refine w_iinc 6 (y5 + 1) [(5, .int (y5 + 1)), (6, .int (zI σ 1348 p 0 (Int32.toNatClampNeg y5))), (0, .ref (A 5 p 0)), (1, .int x1), (2, .int x2), (3, .ref (A 6 p3 s3)), (4, .int y4)] dX5_reckon_216 rfl rfl rfl (by decide) rfl ?_
                        refine w_goto 6 dX5_reckon_219 rfl ?_
                        refine w_lv [(0, .ref (A 5 p 0)), (1, .int x1), (2, .int x2), (3, .ref (A 6 p3 s3)), (4, .int y4), (5, .int (y5 + 1))] [2, 3, 4, 5, 6, 0] rfl ?_
                        exact w_X5_reckon_6 hf hrm hv hV3  n y4 (y5 + 1) _ _ hz  hr
                      · have hr := bf q180 hr
                        refine w_iinc 5 (y4 + (-1)) [(4, .int (y4 + (-1))), (6, .int (zI σ 1348 p 0 (Int32.toNatClampNeg y5))), (0, .ref (A 5 p 0)), (1, .int x1), (2, .int x2), (3, .ref (A 6 p3 s3)), (5, .int y5)] dX5_reckon_183 rfl rfl rfl (by decide) rfl ?_
                        refine w_aload_n 2 dX5_reckon_186 rfl rfl rfl ?_
                        refine g_X5_31 dX5_reckon_187 rfl (hz.o5 hv) (hz.r327 hv) ?_
                        refine w_iload 0 dX5_reckon_190 rfl rfl ?_
                        refine w_iconst 1 dX5_reckon_192 rfl rfl ?_
                        refine w_isub dX5_reckon_193 rfl ?_
                        refine w_iload 1 dX5_reckon_194 rfl rfl ?_
                        refine w_aload_n 2 dX5_reckon_196 rfl rfl rfl ?_
                        refine g_X5_31 dX5_reckon_197 rfl (hz.o5 hv) (hz.r327 hv) ?_
                        refine w_iload 0 dX5_reckon_200 rfl rfl ?_
                        refine w_iconst 1 dX5_reckon_202 rfl rfl ?_
                        refine w_isub dX5_reckon_203 rfl ?_
                        obtain ⟨g28, hr⟩ := gd hr
                        refine w_lald dX5_reckon_204 rfl (hz.k327 hv) (gin (hz.n327 hv) g28) (hz.x327 hv) ?_
                        refine w_aload_n 2 dX5_reckon_205 rfl rfl rfl ?_
                        refine g_X5_31 dX5_reckon_206 rfl (hz.o5 hv) (hz.r327 hv) ?_
                        refine w_iload 0 dX5_reckon_209 rfl rfl ?_
                        obtain ⟨g29, hr⟩ := gd hr
                        refine w_lald dX5_reckon_211 rfl (hz.k327 hv) (gin (hz.n327 hv) g29) (hz.x327 hv) ?_
                        obtain ⟨v30, σ31, e32, hr⟩ := bq_some hr
                        refine c_X5_60 (b := 0) (As := [.int (zI σ 1348 p 0 (Int32.toNatClampNeg y5)), .long (zJ σ 1351 p 0 (Int32.toNatClampNeg ((y4 + (-1)) - 1))), .long (zJ σ 1351 p 0 (Int32.toNatClampNeg (y4 + (-1))))]) (rest := [.int ((y4 + (-1)) - 1), .ref (A 1351 p 0)]) (fun l => s_X5_binary  hz e32 l) hrm dX5_reckon_212 rfl rfl (Nat.le_of_ble_eq_true rfl) (Nat.le_of_ble_eq_true rfl) (Nat.le_of_ble_eq_true rfl) rfl (Nat.le_of_ble_eq_true rfl) (fun vr h2 hq => ?_) (fun E9 h9 hq => hq.elim)
                        obtain ⟨rfl, hz⟩ := hq
                        show wp _ _ 215 [(4, .int (y4 + (-1))), (6, .int (zI σ 1348 p 0 (Int32.toNatClampNeg y5))), (0, .ref (A 5 p 0)), (1, .int x1), (2, .int x2), (3, .ref (A 6 p3 s3)), (5, .int y5)] [.long v30, .int ((y4 + (-1)) - 1), .ref (A 1351 p 0)] _ _ _
                        obtain ⟨g34, hr⟩ := gd hr
                        refine w_last dX5_reckon_215 rfl (hz.k327 hv) (gin (hz.n327 hv) g34) ?_
                        obtain ⟨σ35, e36, hr⟩ := lt_e hr
                        have hz := (hz.s327 (i := (Int32.toNatClampNeg ((y4 + (-1)) - 1))) (v := v30) hv).ts e36
                        refine w_iinc 6 (y5 + 1) [(5, .int (y5 + 1)), (4, .int (y4 + (-1))), (6, .int (zI σ 1348 p 0 (Int32.toNatClampNeg y5))), (0, .ref (A 5 p 0)), (1, .int x1), (2, .int x2), (3, .ref (A 6 p3 s3))] dX5_reckon_216 rfl rfl rfl (by decide) rfl ?_
                        refine w_goto 6 dX5_reckon_219 rfl ?_
                        refine w_lv [(0, .ref (A 5 p 0)), (1, .int x1), (2, .int x2), (3, .ref (A 6 p3 s3)), (4, .int (y4 + (-1))), (5, .int (y5 + 1))] [3, 4, 5, 6, 1, 0] rfl ?_
                        exact w_X5_reckon_6 hf hrm hv hV3  n (y4 + (-1)) (y5 + 1) _ _ hz  hr
                    · have hr := bt q143 hr
                      refine w_lv [(0, .ref (A 5 p 0)), (1, .int x1), (2, .int x2), (3, .ref (A 6 p3 s3)), (4, .int y4), (5, .int y5), (6, .int (zI σ 1348 p 0 (Int32.toNatClampNeg y5)))] [1, 2, 3, 4, 5, 6, 0] rfl ?_
                      exact w_X5_reckon_146 hf hrm hv hV3 (fun by4 by5 zb hb hzb  hrb => w_X5_reckon_6 hf hrm hv hV3  n by4 by5 zb hb hzb  hrb) y4 y5 (zI σ 1348 p 0 (Int32.toNatClampNeg y5)) _ _ hz  hr
              · have hr := bt q52 hr
                refine w_lv [(0, .ref (A 5 p 0)), (1, .int x1), (2, .int x2), (3, .ref (A 6 p3 s3)), (4, .int y4), (5, .int y5), (6, .int (zI σ 1348 p 0 (Int32.toNatClampNeg y5)))] [1, 2, 3, 4, 5, 6, 0] rfl ?_
                exact w_X5_reckon_55 hf hrm hv hV3 (fun by4 by5 zb hb hzb  hrb => w_X5_reckon_6 hf hrm hv hV3  n by4 by5 zb hb hzb  hrb) y4 y5 (zI σ 1348 p 0 (Int32.toNatClampNeg y5)) _ _ hz  hr
set_option maxRecDepth 20000 in
set_option maxHeartbeats 4000000 in
theorem s_X5_reckon {A : Nat → Nat → Nat → Nat} {h : Hp} {σ ρ σ' : Zs} {v : Int64} {p : Nat} {x1 : Int32} {x2 : Int32} {p3 : Nat} {s3 : Nat} (hv : vdb (A 16 0 0) 5 p 0 = true) (hV3 : vdb (A 16 0 0) 6 p3 s3 = true) (hz : Rp A h σ ρ) (hr : fX5_reckon p x1 x2 p3 s3 σ = some (v, σ')) : ∀ l : Launch, Sp l mX5_reckon 1 0 0 [.ref (A 5 p 0), .int x1, .int x2, .ref (A 6 p3 s3)] h (QJ A v σ' ρ) X0 := by
  intro l
  refine Sp.of rfl rfl (lv := [(0, .ref (A 5 p 0)), (1, .int x1), (2, .int x2), (3, .ref (A 6 p3 s3))]) (Nat.le_of_ble_eq_true rfl) rfl (fun x hf hrm => ?_)
  rw [fX5_reckon.eq_1] at hr
  refine w_iconst 0 dX5_reckon_0 rfl rfl ?_
  refine w_istore [(4, .int 0), (0, .ref (A 5 p 0)), (1, .int x1), (2, .int x2), (3, .ref (A 6 p3 s3))] dX5_reckon_1 rfl (by decide) rfl ?_
  refine w_iload_n 2 dX5_reckon_3 rfl rfl rfl ?_
  refine w_istore [(5, .int x1), (4, .int 0), (0, .ref (A 5 p 0)), (1, .int x1), (2, .int x2), (3, .ref (A 6 p3 s3))] dX5_reckon_4 rfl (by decide) rfl ?_
  refine w_lv [(0, .ref (A 5 p 0)), (1, .int x1), (2, .int x2), (3, .ref (A 6 p3 s3)), (4, .int 0), (5, .int x1)] [2, 3, 4, 5, 1, 0] rfl ?_
  exact w_X5_reckon_6 hf hrm hv hV3  FU 0 x1 _ _ hz  hr

