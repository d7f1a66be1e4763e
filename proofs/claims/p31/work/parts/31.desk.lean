/-! LIFTED: 31.desk -/
noncomputable def fX11_appendBytes_3 (x1 : Int32)  : Nat → Int32 → Zs → Option (Unit × Zs)
  | 0, _, _ => none
  | n + 1, y2, σ =>
    if y2 < 0 then (some ((), σ)) else (if 1500 ≤ (zI σ 705 0 0 0) then (fX11_appendBytes_3 x1  n (y2 + (-8)) σ) else (if gi (zI σ 705 0 0 0) 1500 then lt (sI σ 1728 0 0 (Int32.toNatClampNeg (zI σ 705 0 0 0)) (vp_nar .byte (((x1 >>> (y2 &&& 31)) : Int32).toInt8.toInt32))) fun σ2 => lt (sI σ2 705 0 0 0 ((zI σ2 705 0 0 0) + 1)) fun σ4 => fX11_appendBytes_3 x1  n (y2 + (-8)) σ4 else none))
noncomputable def fX11_appendBytes (x1 : Int32) (σ : Zs) : Option (Unit × Zs) :=
  fX11_appendBytes_3 x1  FU 24 σ

noncomputable def fX11_feed (x1 : Int32) (x2 : Int32) (x3 : Int32) (x4 : Int32) (x5 : Int32) (σ : Zs) : Option ((Except String (Int32)) × Zs) :=
  if (zI σ 705 0 0 0) ≤ 1480 then (bq (fX11_appendBytes x1 σ) fun v1 σ2 => bq (fX11_appendBytes x2 σ2) fun v5 σ6 => bq (fX11_appendBytes x3 σ6) fun v9 σ10 => bq (fX11_appendBytes x4 σ10) fun v13 σ14 => bq (fX11_appendBytes x5 σ14) fun v17 σ18 => some (.ok (zI σ18 705 0 0 0), σ18)) else (some (.error "java/lang/IllegalStateException", σ))

noncomputable def fX11_trim (x1 : Int32) (σ : Zs) : Option ((Except String (Int32)) × Zs) :=
  if x1 < 0 then (some (.error "java/lang/IllegalArgumentException", σ)) else (if x1 ≤ (zI σ 705 0 0 0) then (lt (sI σ 705 0 0 0 x1) fun σ1 => some (.ok x1, σ1)) else (some (.error "java/lang/IllegalArgumentException", σ)))

noncomputable def fX11_takeSpareProgram  (σ : Zs) : Option (Unit × Zs) :=
  lt (sR σ 708 0 0 0 ((zR σ 707 0 0 0).1, 0)) fun σ3 => lt (sR σ3 707 0 0 0 ((zR σ3 709 0 0 0).1, 0)) fun σ6 => lt (sR σ6 709 0 0 0 ((zR σ 708 0 0 0).1, 0)) fun σ8 => lt (sI σ8 718 0 0 0 0) fun σ10 => bq (fX1_start ((zR σ10 707 0 0 0).1) σ10) fun v13 σ14 => some ((), σ14)

noncomputable def fX11_compile  (σ : Zs) : Option (Int32 × Zs) :=
  bq (fX9_scan (zI σ 705 0 0 0) σ) fun v1 σ2 => lt (sI σ2 705 0 0 0 0) fun σ5 => bq (fX3_begin ((zR σ5 709 0 0 0).1) σ5) fun v8 σ9 => bq (fX4_parse  σ9) fun v12 σ13 => if v12 < 0 then (lt (sI σ13 712 0 0 0 (zI σ13 193 0 0 0)) fun σ16 => if (zI σ16 192 0 0 0) = 0 then (bq (fX11_takeSpareProgram  σ16) fun v18 σ19 => some ((zI σ19 192 0 0 0), σ19)) else (some ((zI σ16 192 0 0 0), σ16))) else (lt (sI σ13 712 0 0 0 v12) fun σ22 => some (1, σ22))

noncomputable def fX11_count (x1 : Int32) (σ : Zs) : Option ((Except String (Int32)) × Zs) :=
  if (x1 : Int32) = 0 then (some (.ok (zI σ 321 ((zR σ 707 0 0 0).1) 0 0), σ)) else if (x1 : Int32) = 1 then (some (.ok (zI σ 323 ((zR σ 707 0 0 0).1) 0 0), σ)) else if (x1 : Int32) = 2 then (some (.ok (zI σ 705 0 0 0), σ)) else if (x1 : Int32) = 3 then (some (.ok (zI σ 716 0 0 0), σ)) else if (x1 : Int32) = 4 then (some (.ok (zI σ 718 0 0 0), σ)) else if (x1 : Int32) = 5 then (some (.ok (zI σ 66 0 0 0), σ)) else (some (.error "java/lang/IndexOutOfBoundsException", σ))

noncomputable def fX11_streamAt (x1 : Int32) (σ : Zs) : Option ((Except String (Nat × Nat)) × Zs) :=
  if x1 < 0 then (some (.error "java/lang/IndexOutOfBoundsException", σ)) else (if x1 < (zI σ 321 ((zR σ 707 0 0 0).1) 0 0) then (if gi x1 12 then some (.ok ((zR σ 707 0 0 0).1, (Int32.toNatClampNeg x1)), σ) else none) else (some (.error "java/lang/IndexOutOfBoundsException", σ)))

noncomputable def fX11_value (x1 : Int64) (σ : Zs) : Option ((Except String (Int32)) × Zs) :=
  if (zI σ 385 3 0 0) < 6 then (bq (fX6_append 3 0 x1 σ) fun v1 σ2 => some (.ok (zI σ2 385 3 0 0), σ2)) else (some (.error "java/lang/IllegalStateException", σ))

noncomputable def fX11_newEntry (x1 : Int32) (σ : Zs) : Option ((Except String (Nat × Nat)) × Zs) :=
  if (zI σ 716 0 0 0) < 200 then (if gi (zI σ 716 0 0 0) 200 then lt (sI σ 716 0 0 0 ((zI σ 716 0 0 0) + 1)) fun σ3 => lt (sI σ3 128 0 (Int32.toNatClampNeg (zI σ 716 0 0 0)) 0 x1) fun σ5 => some (.ok (0, (Int32.toNatClampNeg (zI σ 716 0 0 0))), σ5) else none) else (some (.error "java/lang/IllegalStateException", σ))

noncomputable def fX11_rowsTakenBy (s1 : Nat) (σ : Zs) : Option (Int32 × Zs) :=
  bq (fX1_perform s1 σ) fun v1 σ2 => bq (fX1_runSteps  σ2) fun v5 σ6 => some ((zI σ6 70 0 0 0), σ6)

noncomputable def fX11_push (x1 : Int32) (x2 : Int32) (σ : Zs) : Option ((Except String (Int32)) × Zs) :=
  bx (fX11_streamAt x1 σ) fun w5 σ2 => if (zI σ2 449 w5.1 w5.2 0) = 0 then (if x2 < 0 then (some (.error "java/lang/IllegalArgumentException", σ2)) else (if 1000000 < x2 then (some (.error "java/lang/IllegalArgumentException", σ2)) else (if (zI σ2 385 3 0 0) = (zI σ2 450 w5.1 w5.2 0) then (if (zI σ2 68 0 0 0) = 0 then (bx (fX11_newEntry 0 σ2) fun w11 σ8 => lt (sJ σ8 129 0 w11.2 0 (zJ σ8 448 w5.1 w5.2 0)) fun σ13 => bq (fX6_copyFrom 5 w11.2 3 0 σ13) fun v15 σ16 => lt (sI σ16 384 5 w11.2 0 x2) fun σ19 => lt (sI σ19 385 3 0 0 0) fun σ21 => bq (fX11_rowsTakenBy w11.2 σ21) fun v23 σ24 => some (.ok v23, σ24)) else (some (.error "java/lang/IllegalStateException", σ2))) else (some (.error "java/lang/IllegalArgumentException", σ2))))) else (some (.error "java/lang/IllegalArgumentException", σ2))

noncomputable def fX11_rows (x1 : Int32) (σ : Zs) : Option ((Except String (Int32)) × Zs) :=
  bx (fX11_streamAt x1 σ) fun w5 σ2 => some (.ok (zI σ2 512 w5.1 w5.2 0), σ2)

noncomputable def fX11_cell (x1 : Int32) (x2 : Int32) (x3 : Int32) (σ : Zs) : Option ((Except String (Int64)) × Zs) :=
  bx (fX11_streamAt x1 σ) fun w5 σ2 => if x2 < 0 then (some (.error "java/lang/IndexOutOfBoundsException", σ2)) else (if (zI σ2 512 w5.1 w5.2 0) ≤ x2 then (some (.error "java/lang/IndexOutOfBoundsException", σ2)) else (if x3 < (-1) then (some (.error "java/lang/IndexOutOfBoundsException", σ2)) else (if x3 < (zI σ2 513 w5.1 w5.2 0) then (if 0 ≤ x3 then (bq (fX8_numberOf w5.1 w5.2 x2 x3 σ2) fun v7 σ8 => some (.ok v7, σ8)) else (bq (fX8_timeOf w5.1 w5.2 x2 σ2) fun v11 σ12 => some (.ok ((v11 : Int32).toInt64), σ12))) else (some (.error "java/lang/IndexOutOfBoundsException", σ2)))))

noncomputable def fX11_windows (x1 : Int32) (x2 : Int32) (σ : Zs) : Option ((Except String (Int32)) × Zs) :=
  bx (fX11_streamAt x1 σ) fun w5 σ2 => bq (fX10_countThose w5.1 w5.2 x2 σ2) fun v7 σ8 => some (.ok v7, σ8)

noncomputable def fX11_testHeldPlace (x1 : Int32) (σ : Zs) : Option ((Except String (Unit)) × Zs) :=
  if x1 < 0 then (some (.error "java/lang/IndexOutOfBoundsException", σ)) else (if x1 < (zI σ 66 0 0 0) then (some (.ok (), σ)) else (some (.error "java/lang/IndexOutOfBoundsException", σ)))

noncomputable def fX11_heldRowAt (x1 : Int32) (σ : Zs) : Option ((Except String (Nat × Nat)) × Zs) :=
  bx (fX11_testHeldPlace x1 σ) fun w5 σ2 => if gi x1 60 then some (.ok ((zR σ2 1089 0 0 (Int32.toNatClampNeg x1)).1, (zR σ2 1089 0 0 (Int32.toNatClampNeg x1)).2), σ2) else none

noncomputable def fX11_held (x1 : Int32) (x2 : Int32) (σ : Zs) : Option ((Except String (Int32)) × Zs) :=
  bx (fX11_heldRowAt x1 σ) fun w5 σ2 => if (x2 : Int32) = 0 then (some (.ok (zI σ2 387 w5.1 w5.2 0), σ2)) else if (x2 : Int32) = 1 then (some (.ok (zI σ2 388 w5.1 w5.2 0), σ2)) else if (x2 : Int32) = 2 then (some (.ok (zI σ2 384 w5.1 w5.2 0), σ2)) else (some (.error "java/lang/IndexOutOfBoundsException", σ2))

noncomputable def fX11_heldValue (x1 : Int32) (x2 : Int32) (σ : Zs) : Option ((Except String (Int64)) × Zs) :=
  bx (fX11_heldRowAt x1 σ) fun w5 σ2 => if x2 < 0 then (some (.error "java/lang/IndexOutOfBoundsException", σ2)) else (if x2 < (zI σ2 385 w5.1 w5.2 0) then (bq (fX6_numberAt w5.1 w5.2 x2 σ2) fun v7 σ8 => some (.ok v7, σ8)) else (some (.error "java/lang/IndexOutOfBoundsException", σ2)))

noncomputable def fX11_broken (x1 : Int32) (σ : Zs) : Option ((Except String (Int32)) × Zs) :=
  if x1 < 0 then (some (.error "java/lang/IndexOutOfBoundsException", σ)) else (if x1 < (zI σ 323 ((zR σ 707 0 0 0).1) 0 0) then (if gi x1 8 then some (.ok (zI σ 4 ((zR σ 707 0 0 0).1) (Int32.toNatClampNeg x1) 0), σ) else none) else (some (.error "java/lang/IndexOutOfBoundsException", σ)))

noncomputable def fX11_lost  (σ : Zs) : Option (Int32 × Zs) :=
  some ((zI σ 67 0 0 0), σ)

noncomputable def fX11_doLogAnew_15   : Nat → Int32 → Int32 → Zs → Option (Int32 × Zs)
  | 0, _, _, _ => none
  | n + 1, y1, y2, σ =>
    if (zI σ 716 0 0 0) ≤ y2 then (some (y1, σ)) else (if gi y2 200 then bq (fX1_perform (Int32.toNatClampNeg y2) σ) fun v8 σ9 => if v8 = 0 then (fX11_doLogAnew_15   n (y1 + 1) (y2 + 1) σ9) else (bq (fX1_runSteps  σ9) fun v12 σ13 => fX11_doLogAnew_15   n y1 (y2 + 1) σ13) else none)
noncomputable def fX11_doLogAnew  (σ : Zs) : Option (Int32 × Zs) :=
  bq (fX1_start ((zR σ 707 0 0 0).1) σ) fun v2 σ3 => fX11_doLogAnew_15   FU 0 0 σ3

noncomputable def fX11_replay  (σ : Zs) : Option ((Except String (Int32)) × Zs) :=
  if (zI σ 321 ((zR σ 707 0 0 0).1) 0 0) = 0 then (some (.error "java/lang/IllegalStateException", σ)) else (bq (fX11_doLogAnew  σ) fun v2 σ3 => some (.ok v2, σ3))

noncomputable def fX11_taken_4   : Nat → Int32 → Int32 → Zs → Option (UInt64 × Zs)
  | 0, _, _, _ => none
  | n + 1, y1, y2, σ =>
    if (zI σ 321 ((zR σ 707 0 0 0).1) 0 0) ≤ y2 then (if (zI σ 69 0 0 0) = 0 then (some (FP.dconst1, σ)) else (if n64 (FP.ddiv (FP.i2d (y1)) (FP.i2d ((zI σ 69 0 0 0)))) then some ((FP.ddiv (FP.i2d (y1)) (FP.i2d ((zI σ 69 0 0 0)))), σ) else none)) else (if gi y2 12 then if (zI σ 449 ((zR σ 707 0 0 0).1) (Int32.toNatClampNeg y2) 0) = 0 then (if gi y2 12 then fX11_taken_4   n (y1 + (zI σ 512 ((zR σ 707 0 0 0).1) (Int32.toNatClampNeg y2) 0)) (y2 + 1) σ else none) else (fX11_taken_4   n y1 (y2 + 1) σ) else none)
noncomputable def fX11_taken  (σ : Zs) : Option (UInt64 × Zs) :=
  fX11_taken_4   FU 0 0 σ

noncomputable def fX11_digest_126   : Nat → Int64 → Int32 → Zs → Option (Except String (Int64) × Zs)
  | 0, _, _, _ => none
  | n + 1, y1, y3, σ =>
    if (zI σ 66 0 0 0) ≤ y3 then (some (.ok y1, σ)) else (if gi y3 60 then bq (fX6_mixedInto ((zR σ 1089 0 0 (Int32.toNatClampNeg y3)).1) ((zR σ 1089 0 0 (Int32.toNatClampNeg y3)).2) y1 σ) fun v4 σ5 => fX11_digest_126   n v4 (y3 + 1) σ5 else none)
noncomputable def fX11_digest_70   : Nat → Int64 → Int32 → Zs → Option (Except String (Int64) × Zs)
  | 0, _, _, _ => none
  | n + 1, y1, y3, σ =>
    if (zI σ 321 ((zR σ 707 0 0 0).1) 0 0) ≤ y3 then (fX11_digest_126   FU y1 0 σ) else (if gi y3 12 then if gi y3 12 then bq (fX8_mixedInto ((zR σ 707 0 0 0).1) (Int32.toNatClampNeg y3) ((y1 * 31) + (((zI σ 461 ((zR σ 707 0 0 0).1) (Int32.toNatClampNeg y3) 0) : Int32).toInt64)) σ) fun v14 σ15 => fX11_digest_70   n v14 (y3 + 1) σ15 else none else none)
noncomputable def fX11_digest_50   (z0 : Int32) (z1 : Int64) (σ : Zs) : Option (Except String (Int64) × Zs) :=
  fX11_digest_70   FU (((z1 + ((z0 : Int32).toInt64)) * 31) + (((zI σ 67 0 0 0) : Int32).toInt64)) 0 σ
noncomputable def fX11_digest_6   : Nat → Int64 → Int32 → Zs → Option (Except String (Int64) × Zs)
  | 0, _, _, _ => none
  | n + 1, y1, y3, σ =>
    if 5 < y3 then (if (zI σ 68 0 0 0) = 0 then (fX11_digest_50   0 (y1 * 31) σ) else (fX11_digest_50   1 (y1 * 31) σ)) else (bx (fX11_count y3 σ) fun w22 σ19 => fX11_digest_6   n ((y1 * 31) + ((w22 : Int32).toInt64)) (y3 + 1) σ19)
noncomputable def fX11_digest  (σ : Zs) : Option (Except String (Int64) × Zs) :=
  fX11_digest_6   FU 281 0 σ

set_option maxRecDepth 20000 in
set_option maxHeartbeats 4000000 in
theorem w_X11_appendBytes_3 {A : Nat → Nat → Nat → Nat} {ρ σ' : Zs} {v : Unit} {x : Cxt} {x1 : Int32}  (hf : m_fin 0 0 (QV A v σ' ρ) X0 x) (hrm : m_rm 0 0 0 x)  : ∀ (n : Nat) (y2 : Int32) (σ : Zs) (h : Hp), Rp A h σ ρ → fX11_appendBytes_3 x1  n y2 σ = some (v, σ') → wp x mX11_appendBytes 3 [(0, .ref (A 11 0 0)), (1, .int x1), (2, .int y2)] [] h 0 0
  | 0, _, σ, h => fun hz hr => by
    rw [fX11_appendBytes_3.eq_1] at hr
    exact nono hr
  | n + 1, y2, σ, h => fun hz hr => by
    rw [fX11_appendBytes_3.eq_2] at hr
    refine w_iload_n 2 dX11_appendBytes_3 rfl rfl rfl ?_
    refine w_if_lt 48 dX11_appendBytes_4 rfl rfl (fun q4 => ?_) (fun q4 => ?_)
    · have hr := bt q4 hr
      refine w_vret hf dX11_appendBytes_48 rfl (Nat.le_of_ble_eq_true rfl) (Nat.le_of_ble_eq_true rfl) ?_
      obtain ⟨rfl, rfl⟩ := ret_inj hr
      exact ⟨rfl, hz⟩
    · have hr := bf q4 hr
      refine w_aload_n 0 dX11_appendBytes_7 rfl rfl rfl ?_
      refine g_X11_80 dX11_appendBytes_8 rfl (hz.o11 rfl) (hz.i705 rfl) ?_
      refine w_aload_n 0 dX11_appendBytes_11 rfl rfl rfl ?_
      refine g_X11_9 dX11_appendBytes_12 rfl (hz.o11 rfl) (hz.r704 rfl) ?_
      refine w_alen 2 dX11_appendBytes_15 rfl (by decide) (by decide) (fun _ => rfl) (hz.k704 rfl) (v := 1500) (by rw [hz.n704 rfl]; rfl) ?_
      refine w_icmp_ge 42 dX11_appendBytes_16 rfl rfl (fun q16 => ?_) (fun q16 => ?_)
      · have hr := bt q16 hr
        refine w_iinc 2 (y2 + (-8)) [(2, .int (y2 + (-8))), (0, .ref (A 11 0 0)), (1, .int x1)] dX11_appendBytes_42 rfl rfl rfl (by decide) rfl ?_
        refine w_goto 3 dX11_appendBytes_45 rfl ?_
        refine w_lv [(0, .ref (A 11 0 0)), (1, .int x1), (2, .int (y2 + (-8)))] [1, 2, 0] rfl ?_
        exact w_X11_appendBytes_3 hf hrm   n (y2 + (-8)) _ _ hz  hr
      · have hr := bf q16 hr
        refine w_aload_n 0 dX11_appendBytes_19 rfl rfl rfl ?_
        refine g_X11_9 dX11_appendBytes_20 rfl (hz.o11 rfl) (hz.r704 rfl) ?_
        refine w_aload_n 0 dX11_appendBytes_23 rfl rfl rfl ?_
        refine g_X11_80 dX11_appendBytes_24 rfl (hz.o11 rfl) (hz.i705 rfl) ?_
        refine w_iload_n 1 dX11_appendBytes_27 rfl rfl rfl ?_
        refine w_iload_n 2 dX11_appendBytes_28 rfl rfl rfl ?_
        refine w_ishr dX11_appendBytes_29 rfl ?_
        refine w_i2b dX11_appendBytes_30 rfl ?_
        obtain ⟨g1, hr⟩ := gd hr
        refine w_bast dX11_appendBytes_31 rfl (hz.k704 rfl) (gin (hz.n704 rfl) g1) rfl ?_
        obtain ⟨σ2, e3, hr⟩ := lt_e hr
        have hz := (hz.s704 (i := (Int32.toNatClampNeg (zI σ 705 0 0 0))) (v := (vp_nar .byte (((x1 >>> (y2 &&& 31)) : Int32).toInt8.toInt32))) rfl).ts e3
        refine w_aload_n 0 dX11_appendBytes_32 rfl rfl rfl ?_
        refine w_dup dX11_appendBytes_33 rfl rfl ?_
        refine g_X11_80 dX11_appendBytes_34 rfl (hz.o11 rfl) (hz.i705 rfl) ?_
        refine w_iconst 1 dX11_appendBytes_37 rfl rfl ?_
        refine w_iadd dX11_appendBytes_38 rfl ?_
        refine p_X11_80 dX11_appendBytes_39 rfl (hz.o11 rfl) ?_
        obtain ⟨σ4, e5, hr⟩ := lt_e hr
        have hz := (hz.s705 (v := ((zI σ2 705 0 0 0) + 1)) rfl).ts e5
        refine w_iinc 2 (y2 + (-8)) [(2, .int (y2 + (-8))), (0, .ref (A 11 0 0)), (1, .int x1)] dX11_appendBytes_42 rfl rfl rfl (by decide) rfl ?_
        refine w_goto 3 dX11_appendBytes_45 rfl ?_
        refine w_lv [(0, .ref (A 11 0 0)), (1, .int x1), (2, .int (y2 + (-8)))] [1, 2, 0] rfl ?_
        exact w_X11_appendBytes_3 hf hrm   n (y2 + (-8)) _ _ hz  hr
set_option maxRecDepth 20000 in
set_option maxHeartbeats 4000000 in
theorem s_X11_appendBytes {A : Nat → Nat → Nat → Nat} {h : Hp} {σ ρ σ' : Zs} {v : Unit} {x1 : Int32}  (hz : Rp A h σ ρ) (hr : fX11_appendBytes x1 σ = some (v, σ')) : ∀ l : Launch, Sp l mX11_appendBytes 0 0 0 [.ref (A 11 0 0), .int x1] h (QV A v σ' ρ) X0 := by
  intro l
  refine Sp.of rfl rfl (lv := [(0, .ref (A 11 0 0)), (1, .int x1)]) (Nat.le_of_ble_eq_true rfl) rfl (fun x hf hrm => ?_)
  rw [fX11_appendBytes.eq_1] at hr
  refine w_bipush 24 dX11_appendBytes_0 rfl rfl ?_
  refine w_istore_n [(2, .int 24), (0, .ref (A 11 0 0)), (1, .int x1)] dX11_appendBytes_2 rfl rfl (by decide) rfl ?_
  refine w_lv [(0, .ref (A 11 0 0)), (1, .int x1), (2, .int 24)] [1, 2, 0] rfl ?_
  exact w_X11_appendBytes_3 hf hrm   FU 24 _ _ hz  hr

set_option maxRecDepth 20000 in
set_option maxHeartbeats 4000000 in
theorem s_X11_feed {A : Nat → Nat → Nat → Nat} {h : Hp} {σ ρ σ' : Zs} {v : Except String (Int32)} {x1 : Int32} {x2 : Int32} {x3 : Int32} {x4 : Int32} {x5 : Int32}  (hz : Rp A h σ ρ) (hr : fX11_feed x1 x2 x3 x4 x5 σ = some (v, σ')) : ∀ l : Launch, Sp l mX11_feed 6 1 6 [.ref (A 11 0 0), .int x1, .int x2, .int x3, .int x4, .int x5] h ((QE QI) A v σ' ρ) (XE A v σ' ρ) := by
  intro l
  refine Sp.of rfl rfl (lv := [(0, .ref (A 11 0 0)), (1, .int x1), (2, .int x2), (3, .int x3), (4, .int x4), (5, .int x5)]) (Nat.le_of_ble_eq_true rfl) rfl (fun x hf hrm => ?_)
  rw [fX11_feed.eq_1] at hr
  refine w_aload_n 0 dX11_feed_0 rfl rfl rfl ?_
  refine g_X11_80 dX11_feed_1 rfl (hz.o11 rfl) (hz.i705 rfl) ?_
  refine w_sipush 1480 dX11_feed_4 rfl rfl ?_
  refine w_icmp_le 18 dX11_feed_7 rfl rfl (fun q7 => ?_) (fun q7 => ?_)
  · have hr := bt q7 hr
    refine w_aload_n 0 dX11_feed_18 rfl rfl rfl ?_
    refine w_iload_n 1 dX11_feed_19 rfl rfl rfl ?_
    obtain ⟨v1, σ2, e3, hr⟩ := bq_some hr
    refine c_X11_86 (As := [.int x1]) (rest := []) (fun l => s_X11_appendBytes  hz e3 l) hrm dX11_feed_20 rfl rfl (Nat.le_of_ble_eq_true rfl) (Nat.le_of_ble_eq_true rfl) (Nat.le_of_ble_eq_true rfl) (hz.o11 rfl) rfl (Nat.le_of_ble_eq_true rfl) (fun vr h2 hq => ?_) (fun E9 h9 hq => hq.elim)
    obtain ⟨rfl, hz⟩ := hq
    show wp _ _ 23 [(0, .ref (A 11 0 0)), (1, .int x1), (2, .int x2), (3, .int x3), (4, .int x4), (5, .int x5)] [] _ _ _
    refine w_aload_n 0 dX11_feed_23 rfl rfl rfl ?_
    refine w_iload_n 2 dX11_feed_24 rfl rfl rfl ?_
    obtain ⟨v5, σ6, e7, hr⟩ := bq_some hr
    refine c_X11_86 (As := [.int x2]) (rest := []) (fun l => s_X11_appendBytes  hz e7 l) hrm dX11_feed_25 rfl rfl (Nat.le_of_ble_eq_true rfl) (Nat.le_of_ble_eq_true rfl) (Nat.le_of_ble_eq_true rfl) (hz.o11 rfl) rfl (Nat.le_of_ble_eq_true rfl) (fun vr h2 hq => ?_) (fun E9 h9 hq => hq.elim)
    obtain ⟨rfl, hz⟩ := hq
    show wp _ _ 28 [(0, .ref (A 11 0 0)), (1, .int x1), (2, .int x2), (3, .int x3), (4, .int x4), (5, .int x5)] [] _ _ _
    refine w_aload_n 0 dX11_feed_28 rfl rfl rfl ?_
    refine w_iload_n 3 dX11_feed_29 rfl rfl rfl ?_
    obtain ⟨v9, σ10, e11, hr⟩ := bq_some hr
    refine c_X11_86 (As := [.int x3]) (rest := []) (fun l => s_X11_appendBytes  hz e11 l) hrm dX11_feed_30 rfl rfl (Nat.le_of_ble_eq_true rfl) (Nat.le_of_ble_eq_true rfl) (Nat.le_of_ble_eq_true rfl) (hz.o11 rfl) rfl (Nat.le_of_ble_eq_true rfl) (fun vr h2 hq => ?_) (fun E9 h9 hq => hq.elim)
    obtain ⟨rfl, hz⟩ := hq
    show wp _ _ 33 [(0, .ref (A 11 0 0)), (1, .int x1), (2, .int x2), (3, .int x3), (4, .int x4), (5, .int x5)] [] _ _ _
    refine w_aload_n 0 dX11_feed_33 rfl rfl rfl ?_
    refine w_iload 4 dX11_feed_34 rfl rfl ?_
    obtain ⟨v13, σ14, e15, hr⟩ := bq_some hr
    refine c_X11_86 (As := [.int x4]) (rest := []) (fun l => s_X11_appendBytes  hz e15 l) hrm dX11_feed_36 rfl rfl (Nat.le_of_ble_eq_true rfl) (Nat.le_of_ble_eq_true rfl) (Nat.le_of_ble_eq_true rfl) (hz.o11 rfl) rfl (Nat.le_of_ble_eq_true rfl) (fun vr h2 hq => ?_) (fun E9 h9 hq => hq.elim)
    obtain ⟨rfl, hz⟩ := hq
    show wp _ _ 39 [(0, .ref (A 11 0 0)), (1, .int x1), (2, .int x2), (3, .int x3), (4, .int x4), (5, .int x5)] [] _ _ _
    refine w_aload_n 0 dX11_feed_39 rfl rfl rfl ?_
    refine w_iload 5 dX11_feed_40 rfl rfl ?_
    obtain ⟨v17, σ18, e19, hr⟩ := bq_some hr
    refine c_X11_86 (As := [.int x5]) (rest := []) (fun l => s_X11_appendBytes  hz e19 l) hrm dX11_feed_42 rfl rfl (Nat.le_of_ble_eq_true rfl) (Nat.le_of_ble_eq_true rfl) (Nat.le_of_ble_eq_true rfl) (hz.o11 rfl) rfl (Nat.le_of_ble_eq_true rfl) (fun vr h2 hq => ?_) (fun E9 h9 hq => hq.elim)
    obtain ⟨rfl, hz⟩ := hq
    show wp _ _ 45 [(0, .ref (A 11 0 0)), (1, .int x1), (2, .int x2), (3, .int x3), (4, .int x4), (5, .int x5)] [] _ _ _
    refine w_aload_n 0 dX11_feed_45 rfl rfl rfl ?_
    refine g_X11_80 dX11_feed_46 rfl (hz.o11 rfl) (hz.i705 rfl) ?_
    refine w_iret hf dX11_feed_49 rfl (Nat.le_of_ble_eq_true rfl) (Nat.le_of_ble_eq_true rfl) ?_
    obtain ⟨rfl, rfl⟩ := ret_inj hr
    exact ⟨_, rfl, rfl, hz⟩
  · have hr := bf q7 hr
    refine w_thr85 hf hrm (by decide) dX11_feed_10 dX11_feed_13 dX11_feed_14 dX11_feed_17 (Nat.le_of_ble_eq_true rfl) (Nat.le_of_ble_eq_true rfl) (Nat.le_of_ble_eq_true rfl) (Nat.le_of_ble_eq_true rfl) (by decide) ?_
    intro q9
    obtain ⟨rfl, rfl⟩ := ret_inj hr
    exact ⟨rfl, hz.gh⟩

set_option maxRecDepth 20000 in
set_option maxHeartbeats 4000000 in
theorem s_X11_trim {A : Nat → Nat → Nat → Nat} {h : Hp} {σ ρ σ' : Zs} {v : Except String (Int32)} {x1 : Int32}  (hz : Rp A h σ ρ) (hr : fX11_trim x1 σ = some (v, σ')) : ∀ l : Launch, Sp l mX11_trim 6 1 6 [.ref (A 11 0 0), .int x1] h ((QE QI) A v σ' ρ) (XE A v σ' ρ) := by
  intro l
  refine Sp.of rfl rfl (lv := [(0, .ref (A 11 0 0)), (1, .int x1)]) (Nat.le_of_ble_eq_true rfl) rfl (fun x hf hrm => ?_)
  rw [fX11_trim.eq_1] at hr
  refine w_iload_n 1 dX11_trim_0 rfl rfl rfl ?_
  refine w_if_lt 12 dX11_trim_1 rfl rfl (fun q1 => ?_) (fun q1 => ?_)
  · have hr := bt q1 hr
    refine w_thr92 hf hrm (by decide) dX11_trim_12 dX11_trim_15 dX11_trim_16 dX11_trim_19 (Nat.le_of_ble_eq_true rfl) (Nat.le_of_ble_eq_true rfl) (Nat.le_of_ble_eq_true rfl) (Nat.le_of_ble_eq_true rfl) (by decide) ?_
    intro q9
    obtain ⟨rfl, rfl⟩ := ret_inj hr
    exact ⟨rfl, hz.gh⟩
  · have hr := bf q1 hr
    refine w_iload_n 1 dX11_trim_4 rfl rfl rfl ?_
    refine w_aload_n 0 dX11_trim_5 rfl rfl rfl ?_
    refine g_X11_80 dX11_trim_6 rfl (hz.o11 rfl) (hz.i705 rfl) ?_
    refine w_icmp_le 20 dX11_trim_9 rfl rfl (fun q9 => ?_) (fun q9 => ?_)
    · have hr := bt q9 hr
      refine w_aload_n 0 dX11_trim_20 rfl rfl rfl ?_
      refine w_iload_n 1 dX11_trim_21 rfl rfl rfl ?_
      refine p_X11_80 dX11_trim_22 rfl (hz.o11 rfl) ?_
      obtain ⟨σ1, e2, hr⟩ := lt_e hr
      have hz := (hz.s705 (v := x1) rfl).ts e2
      refine w_iload_n 1 dX11_trim_25 rfl rfl rfl ?_
      refine w_iret hf dX11_trim_26 rfl (Nat.le_of_ble_eq_true rfl) (Nat.le_of_ble_eq_true rfl) ?_
      obtain ⟨rfl, rfl⟩ := ret_inj hr
      exact ⟨_, rfl, rfl, hz⟩
    · have hr := bf q9 hr
      refine w_thr92 hf hrm (by decide) dX11_trim_12 dX11_trim_15 dX11_trim_16 dX11_trim_19 (Nat.le_of_ble_eq_true rfl) (Nat.le_of_ble_eq_true rfl) (Nat.le_of_ble_eq_true rfl) (Nat.le_of_ble_eq_true rfl) (by decide) ?_
      intro q9
      obtain ⟨rfl, rfl⟩ := ret_inj hr
      exact ⟨rfl, hz.gh⟩

set_option maxRecDepth 20000 in
set_option maxHeartbeats 4000000 in
theorem s_X11_takeSpareProgram {A : Nat → Nat → Nat → Nat} {h : Hp} {σ ρ σ' : Zs} {v : Unit}   (hz : Rp A h σ ρ) (hr : fX11_takeSpareProgram  σ = some (v, σ')) : ∀ l : Launch, Sp l mX11_takeSpareProgram 3 0 0 [.ref (A 11 0 0)] h (QV A v σ' ρ) X0 := by
  intro l
  refine Sp.of rfl rfl (lv := [(0, .ref (A 11 0 0))]) (Nat.le_of_ble_eq_true rfl) rfl (fun x hf hrm => ?_)
  rw [fX11_takeSpareProgram.eq_1] at hr
  refine w_aload_n 0 dX11_takeSpareProgram_0 rfl rfl rfl ?_
  have hv1 := hz.ww708 (p := 0) (s := 0) rfl
  refine g_X11_27 dX11_takeSpareProgram_1 rfl (hz.o11 rfl) (hz.rr708 rfl) ?_
  refine w_astore_n [(1, .ref (A 5 (zR σ 708 0 0 0).1 0)), (0, .ref (A 11 0 0))] dX11_takeSpareProgram_4 rfl rfl (by decide) rfl ?_
  refine w_aload_n 1 dX11_takeSpareProgram_5 rfl rfl rfl ?_
  refine w_aload_n 1 dX11_takeSpareProgram_6 rfl rfl rfl ?_
  have hv2 := hz.ww707 (p := 0) (s := 0) rfl
  refine g_X11_23 dX11_takeSpareProgram_7 rfl (hz.o11 rfl) (hz.rr707 rfl) ?_
  refine p_X11_27 dX11_takeSpareProgram_10 rfl (hz.o11 rfl) ?_
  obtain ⟨σ3, e4, hr⟩ := lt_e hr
  have hz := (hz.s708 rfl hv2).ts e4
  refine w_aload_n 1 dX11_takeSpareProgram_13 rfl rfl rfl ?_
  refine w_aload_n 1 dX11_takeSpareProgram_14 rfl rfl rfl ?_
  have hv5 := hz.ww709 (p := 0) (s := 0) rfl
  refine g_X11_30 dX11_takeSpareProgram_15 rfl (hz.o11 rfl) (hz.rr709 rfl) ?_
  refine p_X11_23 dX11_takeSpareProgram_18 rfl (hz.o11 rfl) ?_
  obtain ⟨σ6, e7, hr⟩ := lt_e hr
  have hz := (hz.s707 rfl hv5).ts e7
  refine w_aload_n 1 dX11_takeSpareProgram_21 rfl rfl rfl ?_
  refine w_aload_n 0 dX11_takeSpareProgram_22 rfl rfl rfl ?_
  refine p_X11_30 dX11_takeSpareProgram_23 rfl (hz.o11 rfl) ?_
  obtain ⟨σ8, e9, hr⟩ := lt_e hr
  have hz := (hz.s709 rfl hv1).ts e9
  refine w_aload_n 1 dX11_takeSpareProgram_26 rfl rfl rfl ?_
  refine w_iconst 0 dX11_takeSpareProgram_27 rfl rfl ?_
  refine p_X11_130 dX11_takeSpareProgram_28 rfl (hz.o11 rfl) ?_
  obtain ⟨σ10, e11, hr⟩ := lt_e hr
  have hz := (hz.s718 (v := 0) rfl).ts e11
  refine w_aload_n 1 dX11_takeSpareProgram_31 rfl rfl rfl ?_
  refine g_X11_58 dX11_takeSpareProgram_32 rfl (hz.o11 rfl) (hz.r713 rfl) ?_
  refine w_aload_n 1 dX11_takeSpareProgram_35 rfl rfl rfl ?_
  have hv12 := hz.ww707 (p := 0) (s := 0) rfl
  refine g_X11_23 dX11_takeSpareProgram_36 rfl (hz.o11 rfl) (hz.rr707 rfl) ?_
  obtain ⟨v13, σ14, e15, hr⟩ := bq_some hr
  refine c_X11_289 (As := [.ref (A 5 (zR σ10 707 0 0 0).1 0)]) (rest := []) (fun l => s_X1_start hv12 hz e15 l) hrm dX11_takeSpareProgram_39 rfl rfl (Nat.le_of_ble_eq_true rfl) (Nat.le_of_ble_eq_true rfl) (Nat.le_of_ble_eq_true rfl) (hz.o1 rfl) rfl (Nat.le_of_ble_eq_true rfl) (fun vr h2 hq => ?_) (fun E9 h9 hq => hq.elim)
  obtain ⟨rfl, hz⟩ := hq
  show wp _ _ 42 [(1, .ref (A 5 (zR σ 708 0 0 0).1 0)), (0, .ref (A 11 0 0))] [] _ _ _
  refine w_vret hf dX11_takeSpareProgram_42 rfl (Nat.le_of_ble_eq_true rfl) (Nat.le_of_ble_eq_true rfl) ?_
  obtain ⟨rfl, rfl⟩ := ret_inj hr
  exact ⟨rfl, hz⟩

set_option maxRecDepth 20000 in
set_option maxHeartbeats 4000000 in
theorem s_X11_compile {A : Nat → Nat → Nat → Nat} {h : Hp} {σ ρ σ' : Zs} {v : Int32}   (hz : Rp A h σ ρ) (hr : fX11_compile  σ = some (v, σ')) : ∀ l : Launch, Sp l mX11_compile 100 0 0 [.ref (A 11 0 0)] h (QI A v σ' ρ) X0 := by
  intro l
  refine Sp.of rfl rfl (lv := [(0, .ref (A 11 0 0))]) (Nat.le_of_ble_eq_true rfl) rfl (fun x hf hrm => ?_)
  rw [fX11_compile.eq_1] at hr
  refine w_aload_n 0 dX11_compile_0 rfl rfl rfl ?_
  refine g_X11_16 dX11_compile_1 rfl (hz.o11 rfl) (hz.r706 rfl) ?_
  refine w_aload_n 0 dX11_compile_4 rfl rfl rfl ?_
  refine g_X11_9 dX11_compile_5 rfl (hz.o11 rfl) (hz.r704 rfl) ?_
  refine w_aload_n 0 dX11_compile_8 rfl rfl rfl ?_
  refine g_X11_80 dX11_compile_9 rfl (hz.o11 rfl) (hz.i705 rfl) ?_
  obtain ⟨v1, σ2, e3, hr⟩ := bq_some hr
  refine c_X11_93 (As := [.ref (A 1728 0 0), .int (zI σ 705 0 0 0)]) (rest := []) (fun l => s_X9_scan  hz e3 l) hrm dX11_compile_12 rfl rfl (Nat.le_of_ble_eq_true rfl) (Nat.le_of_ble_eq_true rfl) (Nat.le_of_ble_eq_true rfl) (hz.o9 rfl) rfl (Nat.le_of_ble_eq_true rfl) (fun vr h2 hq => ?_) (fun E9 h9 hq => hq.elim)
  obtain ⟨rfl, hz⟩ := hq
  show wp _ _ 15 [(0, .ref (A 11 0 0))] [] _ _ _
  refine w_aload_n 0 dX11_compile_15 rfl rfl rfl ?_
  refine w_iconst 0 dX11_compile_16 rfl rfl ?_
  refine p_X11_80 dX11_compile_17 rfl (hz.o11 rfl) ?_
  obtain ⟨σ5, e6, hr⟩ := lt_e hr
  have hz := (hz.s705 (v := 0) rfl).ts e6
  refine w_aload_n 0 dX11_compile_20 rfl rfl rfl ?_
  refine g_X11_38 dX11_compile_21 rfl (hz.o11 rfl) (hz.r710 rfl) ?_
  refine w_aload_n 0 dX11_compile_24 rfl rfl rfl ?_
  have hv7 := hz.ww709 (p := 0) (s := 0) rfl
  refine g_X11_30 dX11_compile_25 rfl (hz.o11 rfl) (hz.rr709 rfl) ?_
  obtain ⟨v8, σ9, e10, hr⟩ := bq_some hr
  refine c_X11_97 (As := [.ref (A 5 (zR σ5 709 0 0 0).1 0)]) (rest := []) (fun l => s_X3_begin hv7 hz e10 l) hrm dX11_compile_28 rfl rfl (Nat.le_of_ble_eq_true rfl) (Nat.le_of_ble_eq_true rfl) (Nat.le_of_ble_eq_true rfl) (hz.o3 rfl) rfl (Nat.le_of_ble_eq_true rfl) (fun vr h2 hq => ?_) (fun E9 h9 hq => hq.elim)
  obtain ⟨rfl, hz⟩ := hq
  show wp _ _ 31 [(0, .ref (A 11 0 0))] [] _ _ _
  refine w_aload_n 0 dX11_compile_31 rfl rfl rfl ?_
  refine g_X11_47 dX11_compile_32 rfl (hz.o11 rfl) (hz.r711 rfl) ?_
  obtain ⟨v12, σ13, e14, hr⟩ := bq_some hr
  refine c_X11_100 (As := []) (rest := []) (fun l => s_X4_parse  hz e14 l) hrm dX11_compile_35 rfl rfl (Nat.le_of_ble_eq_true rfl) (Nat.le_of_ble_eq_true rfl) (Nat.le_of_ble_eq_true rfl) (hz.o4 rfl) rfl (Nat.le_of_ble_eq_true rfl) (fun vr h2 hq => ?_) (fun E9 h9 hq => hq.elim)
  obtain ⟨rfl, hz⟩ := hq
  show wp _ _ 38 [(0, .ref (A 11 0 0))] [.int v12] _ _ _
  refine w_istore_n [(1, .int v12), (0, .ref (A 11 0 0))] dX11_compile_38 rfl rfl (by decide) rfl ?_
  refine w_iload_n 0 dX11_compile_39 rfl rfl rfl ?_
  refine w_if_lt 50 dX11_compile_40 rfl rfl (fun q40 => ?_) (fun q40 => ?_)
  · have hr := bt q40 hr
    refine w_aload_n 1 dX11_compile_50 rfl rfl rfl ?_
    refine w_aload_n 1 dX11_compile_51 rfl rfl rfl ?_
    refine g_X11_38 dX11_compile_52 rfl (hz.o11 rfl) (hz.r710 rfl) ?_
    refine g_X11_104 dX11_compile_55 rfl (hz.o3 rfl) (hz.i193 rfl) ?_
    refine p_X11_51 dX11_compile_58 rfl (hz.o11 rfl) ?_
    obtain ⟨σ16, e17, hr⟩ := lt_e hr
    have hz := (hz.s712 (v := (zI σ13 193 0 0 0)) rfl).ts e17
    refine w_aload_n 1 dX11_compile_61 rfl rfl rfl ?_
    refine g_X11_38 dX11_compile_62 rfl (hz.o11 rfl) (hz.r710 rfl) ?_
    refine g_X11_107 dX11_compile_65 rfl (hz.o3 rfl) (hz.i192 rfl) ?_
    refine w_if_ne 75 dX11_compile_68 rfl rfl (fun q68 => ?_) (fun q68 => ?_)
    · have hr := bf q68 hr
      refine w_aload_n 1 dX11_compile_75 rfl rfl rfl ?_
      refine g_X11_38 dX11_compile_76 rfl (hz.o11 rfl) (hz.r710 rfl) ?_
      refine g_X11_107 dX11_compile_79 rfl (hz.o3 rfl) (hz.i192 rfl) ?_
      refine w_iret hf dX11_compile_82 rfl (Nat.le_of_ble_eq_true rfl) (Nat.le_of_ble_eq_true rfl) ?_
      obtain ⟨rfl, rfl⟩ := ret_inj hr
      exact ⟨rfl, hz⟩
    · have hr := bt q68 hr
      refine w_aload_n 1 dX11_compile_71 rfl rfl rfl ?_
      obtain ⟨v18, σ19, e20, hr⟩ := bq_some hr
      refine c_X11_110 (As := []) (rest := []) (fun l => s_X11_takeSpareProgram  hz e20 l) hrm dX11_compile_72 rfl rfl (Nat.le_of_ble_eq_true rfl) (Nat.le_of_ble_eq_true rfl) (Nat.le_of_ble_eq_true rfl) (hz.o11 rfl) rfl (Nat.le_of_ble_eq_true rfl) (fun vr h2 hq => ?_) (fun E9 h9 hq => hq.elim)
      obtain ⟨rfl, hz⟩ := hq
      show wp _ _ 75 [(1, .int v12), (0, .ref (A 11 0 0))] [] _ _ _
      refine w_aload_n 1 dX11_compile_75 rfl rfl rfl ?_
      refine g_X11_38 dX11_compile_76 rfl (hz.o11 rfl) (hz.r710 rfl) ?_
      refine g_X11_107 dX11_compile_79 rfl (hz.o3 rfl) (hz.i192 rfl) ?_
      refine w_iret hf dX11_compile_82 rfl (Nat.le_of_ble_eq_true rfl) (Nat.le_of_ble_eq_true rfl) ?_
      obtain ⟨rfl, rfl⟩ := ret_inj hr
      exact ⟨rfl, hz⟩
  · have hr := bf q40 hr
    refine w_aload_n 1 dX11_compile_43 rfl rfl rfl ?_
    refine w_iload_n 0 dX11_compile_44 rfl rfl rfl ?_
    refine p_X11_51 dX11_compile_45 rfl (hz.o11 rfl) ?_
    obtain ⟨σ22, e23, hr⟩ := lt_e hr
    have hz := (hz.s712 (v := v12) rfl).ts e23
    refine w_iconst 1 dX11_compile_48 rfl rfl ?_
    refine w_iret hf dX11_compile_49 rfl (Nat.le_of_ble_eq_true rfl) (Nat.le_of_ble_eq_true rfl) ?_
    obtain ⟨rfl, rfl⟩ := ret_inj hr
    exact ⟨rfl, hz⟩

set_option maxRecDepth 20000 in
set_option maxHeartbeats 4000000 in
theorem s_X11_count {A : Nat → Nat → Nat → Nat} {h : Hp} {σ ρ σ' : Zs} {v : Except String (Int32)} {x1 : Int32}  (hz : Rp A h σ ρ) (hr : fX11_count x1 σ = some (v, σ')) : ∀ l : Launch, Sp l mX11_count 6 1 6 [.ref (A 11 0 0), .int x1] h ((QE QI) A v σ' ρ) (XE A v σ' ρ) := by
  intro l
  refine Sp.of rfl rfl (lv := [(0, .ref (A 11 0 0)), (1, .int x1)]) (Nat.le_of_ble_eq_true rfl) rfl (fun x hf hrm => ?_)
  rw [fX11_count.eq_1] at hr
  refine w_iload_n 1 dX11_count_0 rfl rfl rfl ?_
  by_cases q1_0 : (x1 : Int32) = 0
  · have hr := bt q1_0 hr
    refine w_tableIn 40 dX11_count_1 (by rw [q1_0]; decide) (by rw [q1_0]; decide) (by rw [q1_0]; rfl) rfl ?_
    refine w_aload_n 0 dX11_count_40 rfl rfl rfl ?_
    have hv1 := hz.ww707 (p := 0) (s := 0) rfl
    refine g_X11_23 dX11_count_41 rfl (hz.o11 rfl) (hz.rr707 rfl) ?_
    refine g_X11_121 dX11_count_44 rfl (hz.o5 hv1) (hz.i321 hv1) ?_
    refine w_iret hf dX11_count_47 rfl (Nat.le_of_ble_eq_true rfl) (Nat.le_of_ble_eq_true rfl) ?_
    obtain ⟨rfl, rfl⟩ := ret_inj hr
    exact ⟨_, rfl, rfl, hz⟩
  have hr := bf q1_0 hr
  by_cases q1_1 : (x1 : Int32) = 1
  · have hr := bt q1_1 hr
    refine w_tableIn 48 dX11_count_1 (by rw [q1_1]; decide) (by rw [q1_1]; decide) (by rw [q1_1]; rfl) rfl ?_
    refine w_aload_n 0 dX11_count_48 rfl rfl rfl ?_
    have hv2 := hz.ww707 (p := 0) (s := 0) rfl
    refine g_X11_23 dX11_count_49 rfl (hz.o11 rfl) (hz.rr707 rfl) ?_
    refine g_X11_124 dX11_count_52 rfl (hz.o5 hv2) (hz.i323 hv2) ?_
    refine w_iret hf dX11_count_55 rfl (Nat.le_of_ble_eq_true rfl) (Nat.le_of_ble_eq_true rfl) ?_
    obtain ⟨rfl, rfl⟩ := ret_inj hr
    exact ⟨_, rfl, rfl, hz⟩
  have hr := bf q1_1 hr
  by_cases q1_2 : (x1 : Int32) = 2
  · have hr := bt q1_2 hr
    refine w_tableIn 56 dX11_count_1 (by rw [q1_2]; decide) (by rw [q1_2]; decide) (by rw [q1_2]; rfl) rfl ?_
    refine w_aload_n 0 dX11_count_56 rfl rfl rfl ?_
    refine g_X11_80 dX11_count_57 rfl (hz.o11 rfl) (hz.i705 rfl) ?_
    refine w_iret hf dX11_count_60 rfl (Nat.le_of_ble_eq_true rfl) (Nat.le_of_ble_eq_true rfl) ?_
    obtain ⟨rfl, rfl⟩ := ret_inj hr
    exact ⟨_, rfl, rfl, hz⟩
  have hr := bf q1_2 hr
  by_cases q1_3 : (x1 : Int32) = 3
  · have hr := bt q1_3 hr
    refine w_tableIn 61 dX11_count_1 (by rw [q1_3]; decide) (by rw [q1_3]; decide) (by rw [q1_3]; rfl) rfl ?_
    refine w_aload_n 0 dX11_count_61 rfl rfl rfl ?_
    refine g_X11_127 dX11_count_62 rfl (hz.o11 rfl) (hz.i716 rfl) ?_
    refine w_iret hf dX11_count_65 rfl (Nat.le_of_ble_eq_true rfl) (Nat.le_of_ble_eq_true rfl) ?_
    obtain ⟨rfl, rfl⟩ := ret_inj hr
    exact ⟨_, rfl, rfl, hz⟩
  have hr := bf q1_3 hr
  by_cases q1_4 : (x1 : Int32) = 4
  · have hr := bt q1_4 hr
    refine w_tableIn 66 dX11_count_1 (by rw [q1_4]; decide) (by rw [q1_4]; decide) (by rw [q1_4]; rfl) rfl ?_
    refine w_aload_n 0 dX11_count_66 rfl rfl rfl ?_
    refine g_X11_130 dX11_count_67 rfl (hz.o11 rfl) (hz.i718 rfl) ?_
    refine w_iret hf dX11_count_70 rfl (Nat.le_of_ble_eq_true rfl) (Nat.le_of_ble_eq_true rfl) ?_
    obtain ⟨rfl, rfl⟩ := ret_inj hr
    exact ⟨_, rfl, rfl, hz⟩
  have hr := bf q1_4 hr
  by_cases q1_5 : (x1 : Int32) = 5
  · have hr := bt q1_5 hr
    refine w_tableIn 71 dX11_count_1 (by rw [q1_5]; decide) (by rw [q1_5]; decide) (by rw [q1_5]; rfl) rfl ?_
    refine w_aload_n 0 dX11_count_71 rfl rfl rfl ?_
    refine g_X11_58 dX11_count_72 rfl (hz.o11 rfl) (hz.r713 rfl) ?_
    refine g_X11_133 dX11_count_75 rfl (hz.o1 rfl) (hz.i66 rfl) ?_
    refine w_iret hf dX11_count_78 rfl (Nat.le_of_ble_eq_true rfl) (Nat.le_of_ble_eq_true rfl) ?_
    obtain ⟨rfl, rfl⟩ := ret_inj hr
    exact ⟨_, rfl, rfl, hz⟩
  have hr := bf q1_5 hr
  refine w_tableOut 79 dX11_count_1 (tabout 0 5 (fun k h1 h2 => by
        intro e
        have h3 : k = 0 ∨ k = 1 ∨ k = 2 ∨ k = 3 ∨ k = 4 ∨ k = 5 := by omega
        rcases h3 with h3 | h3 | h3 | h3 | h3 | h3 <;> subst h3 <;> contradiction)) rfl ?_
  refine w_thr138 hf hrm (by decide) dX11_count_79 dX11_count_82 dX11_count_83 dX11_count_86 (Nat.le_of_ble_eq_true rfl) (Nat.le_of_ble_eq_true rfl) (Nat.le_of_ble_eq_true rfl) (Nat.le_of_ble_eq_true rfl) (by decide) ?_
  intro q9
  obtain ⟨rfl, rfl⟩ := ret_inj hr
  exact ⟨rfl, hz.gh⟩

set_option maxRecDepth 20000 in
set_option maxHeartbeats 4000000 in
theorem s_X11_streamAt {A : Nat → Nat → Nat → Nat} {h : Hp} {σ ρ σ' : Zs} {v : Except String (Nat × Nat)} {x1 : Int32}  (hz : Rp A h σ ρ) (hr : fX11_streamAt x1 σ = some (v, σ')) : ∀ l : Launch, Sp l mX11_streamAt 6 1 6 [.ref (A 11 0 0), .int x1] h ((QE (QO 7)) A v σ' ρ) (XE A v σ' ρ) := by
  intro l
  refine Sp.of rfl rfl (lv := [(0, .ref (A 11 0 0)), (1, .int x1)]) (Nat.le_of_ble_eq_true rfl) rfl (fun x hf hrm => ?_)
  rw [fX11_streamAt.eq_1] at hr
  refine w_iload_n 1 dX11_streamAt_0 rfl rfl rfl ?_
  refine w_if_lt 15 dX11_streamAt_1 rfl rfl (fun q1 => ?_) (fun q1 => ?_)
  · have hr := bt q1 hr
    refine w_thr138 hf hrm (by decide) dX11_streamAt_15 dX11_streamAt_18 dX11_streamAt_19 dX11_streamAt_22 (Nat.le_of_ble_eq_true rfl) (Nat.le_of_ble_eq_true rfl) (Nat.le_of_ble_eq_true rfl) (Nat.le_of_ble_eq_true rfl) (by decide) ?_
    intro q9
    obtain ⟨rfl, rfl⟩ := ret_inj hr
    exact ⟨rfl, hz.gh⟩
  · have hr := bf q1 hr
    refine w_iload_n 1 dX11_streamAt_4 rfl rfl rfl ?_
    refine w_aload_n 0 dX11_streamAt_5 rfl rfl rfl ?_
    have hv1 := hz.ww707 (p := 0) (s := 0) rfl
    refine g_X11_23 dX11_streamAt_6 rfl (hz.o11 rfl) (hz.rr707 rfl) ?_
    refine g_X11_121 dX11_streamAt_9 rfl (hz.o5 hv1) (hz.i321 hv1) ?_
    refine w_icmp_lt 23 dX11_streamAt_12 rfl rfl (fun q12 => ?_) (fun q12 => ?_)
    · have hr := bt q12 hr
      refine w_aload_n 0 dX11_streamAt_23 rfl rfl rfl ?_
      have hv2 := hz.ww707 (p := 0) (s := 0) rfl
      refine g_X11_23 dX11_streamAt_24 rfl (hz.o11 rfl) (hz.rr707 rfl) ?_
      refine g_X11_259 dX11_streamAt_27 rfl (hz.o5 hv2) (hz.r320 hv2) ?_
      refine w_iload_n 1 dX11_streamAt_30 rfl rfl rfl ?_
      obtain ⟨g3, hr⟩ := gd hr
      have hv4 := vdb_320 (p := (zR σ 707 0 0 0).1) hv2 (gi_lt g3)
      refine w_aald 7 dX11_streamAt_31 rfl (by decide) (by decide) (fun _ => rfl) (hz.k320 hv2) (gin (hz.n320 hv2) g3) (hz.e320 hv2 (gi_lt g3)) ?_
      refine w_aret hf dX11_streamAt_32 rfl (Or.inl ⟨_, rfl⟩) (Or.inr ⟨_, rfl⟩) (Nat.le_of_ble_eq_true rfl) (Nat.le_of_ble_eq_true rfl) ?_
      obtain ⟨rfl, rfl⟩ := ret_inj hr
      exact ⟨_, rfl, rfl, hv4, hz⟩
    · have hr := bf q12 hr
      refine w_thr138 hf hrm (by decide) dX11_streamAt_15 dX11_streamAt_18 dX11_streamAt_19 dX11_streamAt_22 (Nat.le_of_ble_eq_true rfl) (Nat.le_of_ble_eq_true rfl) (Nat.le_of_ble_eq_true rfl) (Nat.le_of_ble_eq_true rfl) (by decide) ?_
      intro q9
      obtain ⟨rfl, rfl⟩ := ret_inj hr
      exact ⟨rfl, hz.gh⟩

set_option maxRecDepth 20000 in
set_option maxHeartbeats 4000000 in
theorem s_X11_value {A : Nat → Nat → Nat → Nat} {h : Hp} {σ ρ σ' : Zs} {v : Except String (Int32)} {x1 : Int64}  (hz : Rp A h σ ρ) (hr : fX11_value x1 σ = some (v, σ')) : ∀ l : Launch, Sp l mX11_value 6 1 6 [.ref (A 11 0 0), .long x1] h ((QE QI) A v σ' ρ) (XE A v σ' ρ) := by
  intro l
  refine Sp.of rfl rfl (lv := [(0, .ref (A 11 0 0)), (1, .long x1)]) (Nat.le_of_ble_eq_true rfl) rfl (fun x hf hrm => ?_)
  rw [fX11_value.eq_1] at hr
  refine w_aload_n 0 dX11_value_0 rfl rfl rfl ?_
  refine g_X11_65 dX11_value_1 rfl (hz.o11 rfl) (hz.r714 rfl) ?_
  refine g_X11_154 dX11_value_4 rfl (hz.o6 rfl) (hz.i385 rfl) ?_
  refine w_bipush 6 dX11_value_7 rfl rfl ?_
  refine w_icmp_lt 20 dX11_value_9 rfl rfl (fun q9 => ?_) (fun q9 => ?_)
  · have hr := bt q9 hr
    refine w_aload_n 0 dX11_value_20 rfl rfl rfl ?_
    refine g_X11_65 dX11_value_21 rfl (hz.o11 rfl) (hz.r714 rfl) ?_
    refine w_lload_n 1 dX11_value_24 rfl rfl rfl ?_
    obtain ⟨v1, σ2, e3, hr⟩ := bq_some hr
    refine c_X11_155 (As := [.long x1]) (rest := []) (fun l => s_X6_append rfl hz e3 l) hrm dX11_value_25 rfl rfl (Nat.le_of_ble_eq_true rfl) (Nat.le_of_ble_eq_true rfl) (Nat.le_of_ble_eq_true rfl) (hz.o6 rfl) rfl (Nat.le_of_ble_eq_true rfl) (fun vr h2 hq => ?_) (fun E9 h9 hq => hq.elim)
    obtain ⟨rfl, hz⟩ := hq
    show wp _ _ 28 [(0, .ref (A 11 0 0)), (1, .long x1)] [] _ _ _
    refine w_aload_n 0 dX11_value_28 rfl rfl rfl ?_
    refine g_X11_65 dX11_value_29 rfl (hz.o11 rfl) (hz.r714 rfl) ?_
    refine g_X11_154 dX11_value_32 rfl (hz.o6 rfl) (hz.i385 rfl) ?_
    refine w_iret hf dX11_value_35 rfl (Nat.le_of_ble_eq_true rfl) (Nat.le_of_ble_eq_true rfl) ?_
    obtain ⟨rfl, rfl⟩ := ret_inj hr
    exact ⟨_, rfl, rfl, hz⟩
  · have hr := bf q9 hr
    refine w_thr85 hf hrm (by decide) dX11_value_12 dX11_value_15 dX11_value_16 dX11_value_19 (Nat.le_of_ble_eq_true rfl) (Nat.le_of_ble_eq_true rfl) (Nat.le_of_ble_eq_true rfl) (Nat.le_of_ble_eq_true rfl) (by decide) ?_
    intro q9
    obtain ⟨rfl, rfl⟩ := ret_inj hr
    exact ⟨rfl, hz.gh⟩

set_option maxRecDepth 20000 in
set_option maxHeartbeats 4000000 in
theorem s_X11_newEntry {A : Nat → Nat → Nat → Nat} {h : Hp} {σ ρ σ' : Zs} {v : Except String (Nat × Nat)} {x1 : Int32}  (hz : Rp A h σ ρ) (hr : fX11_newEntry x1 σ = some (v, σ')) : ∀ l : Launch, Sp l mX11_newEntry 6 1 6 [.ref (A 11 0 0), .int x1] h ((QE (QO 2)) A v σ' ρ) (XE A v σ' ρ) := by
  intro l
  refine Sp.of rfl rfl (lv := [(0, .ref (A 11 0 0)), (1, .int x1)]) (Nat.le_of_ble_eq_true rfl) rfl (fun x hf hrm => ?_)
  rw [fX11_newEntry.eq_1] at hr
  refine w_aload_n 0 dX11_newEntry_0 rfl rfl rfl ?_
  refine g_X11_127 dX11_newEntry_1 rfl (hz.o11 rfl) (hz.i716 rfl) ?_
  refine w_sipush 200 dX11_newEntry_4 rfl rfl ?_
  refine w_icmp_lt 18 dX11_newEntry_7 rfl rfl (fun q7 => ?_) (fun q7 => ?_)
  · have hr := bt q7 hr
    refine w_aload_n 0 dX11_newEntry_18 rfl rfl rfl ?_
    refine g_X11_71 dX11_newEntry_19 rfl (hz.o11 rfl) (hz.r715 rfl) ?_
    refine w_aload_n 0 dX11_newEntry_22 rfl rfl rfl ?_
    refine g_X11_127 dX11_newEntry_23 rfl (hz.o11 rfl) (hz.i716 rfl) ?_
    obtain ⟨g1, hr⟩ := gd hr
    have hv2 := vdb_715 (N := A 16 0 0) (p := 0) rfl (gi_lt g1)
    refine w_aald 5 dX11_newEntry_26 rfl (by decide) (by decide) (fun _ => rfl) (hz.k715 rfl) (gin (hz.n715 rfl) g1) (hz.e715 rfl (gi_lt g1)) ?_
    refine w_astore_n [(2, .ref (A 2 0 (Int32.toNatClampNeg (zI σ 716 0 0 0)))), (0, .ref (A 11 0 0)), (1, .int x1)] dX11_newEntry_27 rfl rfl (by decide) rfl ?_
    refine w_aload_n 1 dX11_newEntry_28 rfl rfl rfl ?_
    refine w_dup dX11_newEntry_29 rfl rfl ?_
    refine g_X11_127 dX11_newEntry_30 rfl (hz.o11 rfl) (hz.i716 rfl) ?_
    refine w_iconst 1 dX11_newEntry_33 rfl rfl ?_
    refine w_iadd dX11_newEntry_34 rfl ?_
    refine p_X11_127 dX11_newEntry_35 rfl (hz.o11 rfl) ?_
    obtain ⟨σ3, e4, hr⟩ := lt_e hr
    have hz := (hz.s716 (v := ((zI σ 716 0 0 0) + 1)) rfl).ts e4
    refine w_aload_n 0 dX11_newEntry_38 rfl rfl rfl ?_
    refine w_iload_n 2 dX11_newEntry_39 rfl rfl rfl ?_
    refine p_X11_292 dX11_newEntry_40 rfl (hz.o2 hv2) ?_
    obtain ⟨σ5, e6, hr⟩ := lt_e hr
    have hz := (hz.s128 (v := x1) hv2).ts e6
    refine w_aload_n 0 dX11_newEntry_43 rfl rfl rfl ?_
    refine w_aret hf dX11_newEntry_44 rfl (Or.inl ⟨_, rfl⟩) (Or.inr ⟨_, rfl⟩) (Nat.le_of_ble_eq_true rfl) (Nat.le_of_ble_eq_true rfl) ?_
    obtain ⟨rfl, rfl⟩ := ret_inj hr
    exact ⟨_, rfl, rfl, hv2, hz⟩
  · have hr := bf q7 hr
    refine w_thr85 hf hrm (by decide) dX11_newEntry_10 dX11_newEntry_13 dX11_newEntry_14 dX11_newEntry_17 (Nat.le_of_ble_eq_true rfl) (Nat.le_of_ble_eq_true rfl) (Nat.le_of_ble_eq_true rfl) (Nat.le_of_ble_eq_true rfl) (by decide) ?_
    intro q9
    obtain ⟨rfl, rfl⟩ := ret_inj hr
    exact ⟨rfl, hz.gh⟩

set_option maxRecDepth 20000 in
set_option maxHeartbeats 4000000 in
theorem s_X11_rowsTakenBy {A : Nat → Nat → Nat → Nat} {h : Hp} {σ ρ σ' : Zs} {v : Int32} {s1 : Nat} (hV1 : vdb (A 16 0 0) 2 0 s1 = true) (hz : Rp A h σ ρ) (hr : fX11_rowsTakenBy s1 σ = some (v, σ')) : ∀ l : Launch, Sp l mX11_rowsTakenBy 6 0 0 [.ref (A 11 0 0), .ref (A 2 0 s1)] h (QI A v σ' ρ) X0 := by
  intro l
  refine Sp.of rfl rfl (lv := [(0, .ref (A 11 0 0)), (1, .ref (A 2 0 s1))]) (Nat.le_of_ble_eq_true rfl) rfl (fun x hf hrm => ?_)
  rw [fX11_rowsTakenBy.eq_1] at hr
  refine w_aload_n 0 dX11_rowsTakenBy_0 rfl rfl rfl ?_
  refine g_X11_58 dX11_rowsTakenBy_1 rfl (hz.o11 rfl) (hz.r713 rfl) ?_
  refine w_aload_n 1 dX11_rowsTakenBy_4 rfl rfl rfl ?_
  obtain ⟨v1, σ2, e3, hr⟩ := bq_some hr
  refine c_X11_240 (As := [.ref (A 2 0 s1)]) (rest := []) (fun l => s_X1_perform hV1 hz e3 l) hrm dX11_rowsTakenBy_5 rfl rfl (Nat.le_of_ble_eq_true rfl) (Nat.le_of_ble_eq_true rfl) (Nat.le_of_ble_eq_true rfl) (hz.o1 rfl) rfl (Nat.le_of_ble_eq_true rfl) (fun vr h2 hq => ?_) (fun E9 h9 hq => hq.elim)
  obtain ⟨rfl, hz⟩ := hq
  show wp _ _ 8 [(0, .ref (A 11 0 0)), (1, .ref (A 2 0 s1))] [.int v1] _ _ _
  refine w_pop dX11_rowsTakenBy_8 rfl rfl ?_
  refine w_aload_n 0 dX11_rowsTakenBy_9 rfl rfl rfl ?_
  refine g_X11_58 dX11_rowsTakenBy_10 rfl (hz.o11 rfl) (hz.r713 rfl) ?_
  obtain ⟨v5, σ6, e7, hr⟩ := bq_some hr
  refine c_X11_295 (As := []) (rest := []) (fun l => s_X1_runSteps  hz e7 l) hrm dX11_rowsTakenBy_13 rfl rfl (Nat.le_of_ble_eq_true rfl) (Nat.le_of_ble_eq_true rfl) (Nat.le_of_ble_eq_true rfl) (hz.o1 rfl) rfl (Nat.le_of_ble_eq_true rfl) (fun vr h2 hq => ?_) (fun E9 h9 hq => hq.elim)
  obtain ⟨rfl, hz⟩ := hq
  show wp _ _ 16 [(0, .ref (A 11 0 0)), (1, .ref (A 2 0 s1))] [] _ _ _
  refine w_aload_n 0 dX11_rowsTakenBy_16 rfl rfl rfl ?_
  refine g_X11_58 dX11_rowsTakenBy_17 rfl (hz.o11 rfl) (hz.r713 rfl) ?_
  refine g_X11_298 dX11_rowsTakenBy_20 rfl (hz.o1 rfl) (hz.i70 rfl) ?_
  refine w_iret hf dX11_rowsTakenBy_23 rfl (Nat.le_of_ble_eq_true rfl) (Nat.le_of_ble_eq_true rfl) ?_
  obtain ⟨rfl, rfl⟩ := ret_inj hr
  exact ⟨rfl, hz⟩

set_option maxRecDepth 20000 in
set_option maxHeartbeats 4000000 in
theorem s_X11_push {A : Nat → Nat → Nat → Nat} {h : Hp} {σ ρ σ' : Zs} {v : Except String (Int32)} {x1 : Int32} {x2 : Int32}  (hz : Rp A h σ ρ) (hr : fX11_push x1 x2 σ = some (v, σ')) : ∀ l : Launch, Sp l mX11_push 7 2 12 [.ref (A 11 0 0), .int x1, .int x2] h ((QE QI) A v σ' ρ) (XE A v σ' ρ) := by
  intro l
  refine Sp.of rfl rfl (lv := [(0, .ref (A 11 0 0)), (1, .int x1), (2, .int x2)]) (Nat.le_of_ble_eq_true rfl) rfl (fun x hf hrm => ?_)
  rw [fX11_push.eq_1] at hr
  refine w_aload_n 0 dX11_push_0 rfl rfl rfl ?_
  refine w_iload_n 1 dX11_push_1 rfl rfl rfl ?_
  obtain ⟨v1, σ2, e3, hr⟩ := bx_some hr
  refine c_X11_139 (As := [.int x1]) (rest := []) (fun l => s_X11_streamAt  hz e3 l) hrm dX11_push_2 rfl rfl (Nat.le_of_ble_eq_true rfl) (Nat.le_of_ble_eq_true rfl) (Nat.le_of_ble_eq_true rfl) (hz.o11 rfl) rfl (Nat.le_of_ble_eq_true rfl) (fun vr h2 hq => ?_) (fun E9 h9 hq => ?_)
  · obtain ⟨w5, rfl, hq⟩ := hq
    have hr := bx_ok hr
    obtain ⟨rfl, hv6, hz⟩ := hq
    show wp _ _ 5 [(0, .ref (A 11 0 0)), (1, .int x1), (2, .int x2)] [.ref (A 7 w5.1 w5.2)] _ _ _
    refine w_astore_n [(3, .ref (A 7 w5.1 w5.2)), (0, .ref (A 11 0 0)), (1, .int x1), (2, .int x2)] dX11_push_5 rfl rfl (by decide) rfl ?_
    refine w_aload_n 0 dX11_push_6 rfl rfl rfl ?_
    refine g_X11_143 dX11_push_7 rfl (hz.o7 hv6) (hz.i449 hv6) ?_
    refine w_if_ne 37 dX11_push_10 rfl rfl (fun q10 => ?_) (fun q10 => ?_)
    · have hr := bf q10 hr
      refine w_thr92 hf hrm (by decide) dX11_push_37 dX11_push_40 dX11_push_41 dX11_push_44 (Nat.le_of_ble_eq_true rfl) (Nat.le_of_ble_eq_true rfl) (Nat.le_of_ble_eq_true rfl) (Nat.le_of_ble_eq_true rfl) (by decide) ?_
      intro q9
      obtain ⟨rfl, rfl⟩ := ret_inj hr
      exact ⟨rfl, hz.gh⟩
    · have hr := bt q10 hr
      refine w_iload_n 3 dX11_push_13 rfl rfl rfl ?_
      refine w_if_lt 37 dX11_push_14 rfl rfl (fun q14 => ?_) (fun q14 => ?_)
      · have hr := bt q14 hr
        refine w_thr92 hf hrm (by decide) dX11_push_37 dX11_push_40 dX11_push_41 dX11_push_44 (Nat.le_of_ble_eq_true rfl) (Nat.le_of_ble_eq_true rfl) (Nat.le_of_ble_eq_true rfl) (Nat.le_of_ble_eq_true rfl) (by decide) ?_
        intro q9
        obtain ⟨rfl, rfl⟩ := ret_inj hr
        exact ⟨rfl, hz.gh⟩
      · have hr := bf q14 hr
        refine w_iload_n 3 dX11_push_17 rfl rfl rfl ?_
        refine w_ldc dX11_push_18 rfl k_X11_159 ?_
        refine w_icmp_gt 37 dX11_push_20 rfl rfl (fun q20 => ?_) (fun q20 => ?_)
        · have hr := bt q20 hr
          refine w_thr92 hf hrm (by decide) dX11_push_37 dX11_push_40 dX11_push_41 dX11_push_44 (Nat.le_of_ble_eq_true rfl) (Nat.le_of_ble_eq_true rfl) (Nat.le_of_ble_eq_true rfl) (Nat.le_of_ble_eq_true rfl) (by decide) ?_
          intro q9
          obtain ⟨rfl, rfl⟩ := ret_inj hr
          exact ⟨rfl, hz.gh⟩
        · have hr := bf q20 hr
          refine w_aload_n 1 dX11_push_23 rfl rfl rfl ?_
          refine g_X11_65 dX11_push_24 rfl (hz.o11 rfl) (hz.r714 rfl) ?_
          refine g_X11_154 dX11_push_27 rfl (hz.o6 rfl) (hz.i385 rfl) ?_
          refine w_aload_n 0 dX11_push_30 rfl rfl rfl ?_
          refine g_X11_148 dX11_push_31 rfl (hz.o7 hv6) (hz.i450 hv6) ?_
          refine w_icmp_eq 45 dX11_push_34 rfl rfl (fun q34 => ?_) (fun q34 => ?_)
          · have hr := bt q34 hr
            refine w_aload_n 1 dX11_push_45 rfl rfl rfl ?_
            refine g_X11_58 dX11_push_46 rfl (hz.o11 rfl) (hz.r713 rfl) ?_
            refine g_X11_160 dX11_push_49 rfl (hz.o1 rfl) (hz.i68 rfl) ?_
            refine w_if_eq 63 dX11_push_52 rfl rfl (fun q52 => ?_) (fun q52 => ?_)
            · have hr := bt q52 hr
              refine w_aload_n 1 dX11_push_63 rfl rfl rfl ?_
              refine w_iconst 0 dX11_push_64 rfl rfl ?_
              obtain ⟨v7, σ8, e9, hr⟩ := bx_some hr
              refine c_X11_164 (As := [.int 0]) (rest := []) (fun l => s_X11_newEntry  hz e9 l) hrm dX11_push_65 rfl rfl (Nat.le_of_ble_eq_true rfl) (Nat.le_of_ble_eq_true rfl) (Nat.le_of_ble_eq_true rfl) (hz.o11 rfl) rfl (Nat.le_of_ble_eq_true rfl) (fun vr h2 hq => ?_) (fun E9 h9 hq => ?_)
              · obtain ⟨w11, rfl, hq⟩ := hq
                have hr := bx_ok hr
                obtain ⟨rfl, hv12, hz⟩ := hq
                rw [vdb2_0 hv12]
                have hv12 := vdb2_r hv12
                show wp _ _ 68 [(3, .ref (A 7 w5.1 w5.2)), (0, .ref (A 11 0 0)), (1, .int x1), (2, .int x2)] [.ref (A 2 0 w11.2)] _ _ _
                refine w_astore [(4, .ref (A 2 0 w11.2)), (3, .ref (A 7 w5.1 w5.2)), (0, .ref (A 11 0 0)), (1, .int x1), (2, .int x2)] dX11_push_68 rfl (by decide) rfl ?_
                refine w_aload 0 dX11_push_70 rfl rfl ?_
                refine w_aload_n 1 dX11_push_72 rfl rfl rfl ?_
                refine g_X11_168 dX11_push_73 rfl (hz.o7 hv6) (hz.i448 hv6) ?_
                refine p_X11_172 dX11_push_76 rfl (hz.o2 hv12) ?_
                obtain ⟨σ13, e14, hr⟩ := lt_e hr
                have hz := (hz.s129 (v := (zJ σ8 448 w5.1 w5.2 0)) hv12).ts e14
                refine w_aload 0 dX11_push_79 rfl rfl ?_
                refine g_X11_175 dX11_push_81 rfl (hz.o2 hv12) (hz.r130 hv12) ?_
                refine w_aload_n 2 dX11_push_84 rfl rfl rfl ?_
                refine g_X11_65 dX11_push_85 rfl (hz.o11 rfl) (hz.r714 rfl) ?_
                obtain ⟨v15, σ16, e17, hr⟩ := bq_some hr
                refine c_X11_178 (As := [.ref (A 6 3 0)]) (rest := []) (fun l => s_X6_copyFrom (vdb_e hv12) rfl hz e17 l) hrm dX11_push_88 rfl rfl (Nat.le_of_ble_eq_true rfl) (Nat.le_of_ble_eq_true rfl) (Nat.le_of_ble_eq_true rfl) (hz.o6 (vdb_e hv12)) rfl (Nat.le_of_ble_eq_true rfl) (fun vr h2 hq => ?_) (fun E9 h9 hq => hq.elim)
                obtain ⟨rfl, hz⟩ := hq
                show wp _ _ 91 [(4, .ref (A 2 0 w11.2)), (3, .ref (A 7 w5.1 w5.2)), (0, .ref (A 11 0 0)), (1, .int x1), (2, .int x2)] [] _ _ _
                refine w_aload 0 dX11_push_91 rfl rfl ?_
                refine g_X11_175 dX11_push_93 rfl (hz.o2 hv12) (hz.r130 hv12) ?_
                refine w_iload_n 4 dX11_push_96 rfl rfl rfl ?_
                refine p_X11_182 dX11_push_97 rfl (hz.o6 (vdb_e hv12)) ?_
                obtain ⟨σ19, e20, hr⟩ := lt_e hr
                have hz := (hz.s384 (v := x2) (vdb_e hv12)).ts e20
                refine w_aload_n 2 dX11_push_100 rfl rfl rfl ?_
                refine g_X11_65 dX11_push_101 rfl (hz.o11 rfl) (hz.r714 rfl) ?_
                refine w_iconst 0 dX11_push_104 rfl rfl ?_
                refine p_X11_154 dX11_push_105 rfl (hz.o6 rfl) ?_
                obtain ⟨σ21, e22, hr⟩ := lt_e hr
                have hz := (hz.s385 (v := 0) rfl).ts e22
                refine w_aload_n 2 dX11_push_108 rfl rfl rfl ?_
                refine w_aload 0 dX11_push_109 rfl rfl ?_
                obtain ⟨v23, σ24, e25, hr⟩ := bq_some hr
                refine c_X11_185 (As := [.ref (A 2 0 w11.2)]) (rest := []) (fun l => s_X11_rowsTakenBy hv12 hz e25 l) hrm dX11_push_111 rfl rfl (Nat.le_of_ble_eq_true rfl) (Nat.le_of_ble_eq_true rfl) (Nat.le_of_ble_eq_true rfl) (hz.o11 rfl) rfl (Nat.le_of_ble_eq_true rfl) (fun vr h2 hq => ?_) (fun E9 h9 hq => hq.elim)
                obtain ⟨rfl, hz⟩ := hq
                show wp _ _ 114 [(4, .ref (A 2 0 w11.2)), (3, .ref (A 7 w5.1 w5.2)), (0, .ref (A 11 0 0)), (1, .int x1), (2, .int x2)] [.int v23] _ _ _
                refine w_iret hf dX11_push_114 rfl (Nat.le_of_ble_eq_true rfl) (Nat.le_of_ble_eq_true rfl) ?_
                obtain ⟨rfl, rfl⟩ := ret_inj hr
                exact ⟨_, rfl, rfl, hz⟩
              · obtain ⟨rfl, hz⟩ := hq
                have hr := bx_er hr
                obtain ⟨rfl, rfl⟩ := ret_inj hr
                exact w_out hf (Nat.le_of_ble_eq_true rfl) (Nat.le_of_ble_eq_true rfl) ⟨rfl, hz⟩
            · have hr := bf q52 hr
              refine w_thr85 hf hrm (by decide) dX11_push_55 dX11_push_58 dX11_push_59 dX11_push_62 (Nat.le_of_ble_eq_true rfl) (Nat.le_of_ble_eq_true rfl) (Nat.le_of_ble_eq_true rfl) (Nat.le_of_ble_eq_true rfl) (by decide) ?_
              intro q9
              obtain ⟨rfl, rfl⟩ := ret_inj hr
              exact ⟨rfl, hz.gh⟩
          · have hr := bf q34 hr
            refine w_thr92 hf hrm (by decide) dX11_push_37 dX11_push_40 dX11_push_41 dX11_push_44 (Nat.le_of_ble_eq_true rfl) (Nat.le_of_ble_eq_true rfl) (Nat.le_of_ble_eq_true rfl) (Nat.le_of_ble_eq_true rfl) (by decide) ?_
            intro q9
            obtain ⟨rfl, rfl⟩ := ret_inj hr
            exact ⟨rfl, hz.gh⟩
  · obtain ⟨rfl, hz⟩ := hq
    have hr := bx_er hr
    obtain ⟨rfl, rfl⟩ := ret_inj hr
    exact w_out hf (Nat.le_of_ble_eq_true rfl) (Nat.le_of_ble_eq_true rfl) ⟨rfl, hz⟩

set_option maxRecDepth 20000 in
set_option maxHeartbeats 4000000 in
theorem s_X11_rows {A : Nat → Nat → Nat → Nat} {h : Hp} {σ ρ σ' : Zs} {v : Except String (Int32)} {x1 : Int32}  (hz : Rp A h σ ρ) (hr : fX11_rows x1 σ = some (v, σ')) : ∀ l : Launch, Sp l mX11_rows 7 1 6 [.ref (A 11 0 0), .int x1] h ((QE QI) A v σ' ρ) (XE A v σ' ρ) := by
  intro l
  refine Sp.of rfl rfl (lv := [(0, .ref (A 11 0 0)), (1, .int x1)]) (Nat.le_of_ble_eq_true rfl) rfl (fun x hf hrm => ?_)
  rw [fX11_rows.eq_1] at hr
  refine w_aload_n 0 dX11_rows_0 rfl rfl rfl ?_
  refine w_iload_n 1 dX11_rows_1 rfl rfl rfl ?_
  obtain ⟨v1, σ2, e3, hr⟩ := bx_some hr
  refine c_X11_139 (As := [.int x1]) (rest := []) (fun l => s_X11_streamAt  hz e3 l) hrm dX11_rows_2 rfl rfl (Nat.le_of_ble_eq_true rfl) (Nat.le_of_ble_eq_true rfl) (Nat.le_of_ble_eq_true rfl) (hz.o11 rfl) rfl (Nat.le_of_ble_eq_true rfl) (fun vr h2 hq => ?_) (fun E9 h9 hq => ?_)
  · obtain ⟨w5, rfl, hq⟩ := hq
    have hr := bx_ok hr
    obtain ⟨rfl, hv6, hz⟩ := hq
    show wp _ _ 5 [(0, .ref (A 11 0 0)), (1, .int x1)] [.ref (A 7 w5.1 w5.2)] _ _ _
    refine g_X11_189 dX11_rows_5 rfl (hz.o7 hv6) (hz.r460 hv6) ?_
    refine g_X11_193 dX11_rows_8 rfl (hz.o8 hv6) (hz.i512 hv6) ?_
    refine w_iret hf dX11_rows_11 rfl (Nat.le_of_ble_eq_true rfl) (Nat.le_of_ble_eq_true rfl) ?_
    obtain ⟨rfl, rfl⟩ := ret_inj hr
    exact ⟨_, rfl, rfl, hz⟩
  · obtain ⟨rfl, hz⟩ := hq
    have hr := bx_er hr
    obtain ⟨rfl, rfl⟩ := ret_inj hr
    exact w_out hf (Nat.le_of_ble_eq_true rfl) (Nat.le_of_ble_eq_true rfl) ⟨rfl, hz⟩

set_option maxRecDepth 20000 in
set_option maxHeartbeats 4000000 in
theorem s_X11_cell {A : Nat → Nat → Nat → Nat} {h : Hp} {σ ρ σ' : Zs} {v : Except String (Int64)} {x1 : Int32} {x2 : Int32} {x3 : Int32}  (hz : Rp A h σ ρ) (hr : fX11_cell x1 x2 x3 σ = some (v, σ')) : ∀ l : Launch, Sp l mX11_cell 7 2 12 [.ref (A 11 0 0), .int x1, .int x2, .int x3] h ((QE QJ) A v σ' ρ) (XE A v σ' ρ) := by
  intro l
  refine Sp.of rfl rfl (lv := [(0, .ref (A 11 0 0)), (1, .int x1), (2, .int x2), (3, .int x3)]) (Nat.le_of_ble_eq_true rfl) rfl (fun x hf hrm => ?_)
  rw [fX11_cell.eq_1] at hr
  refine w_aload_n 0 dX11_cell_0 rfl rfl rfl ?_
  refine w_iload_n 1 dX11_cell_1 rfl rfl rfl ?_
  obtain ⟨v1, σ2, e3, hr⟩ := bx_some hr
  refine c_X11_139 (As := [.int x1]) (rest := []) (fun l => s_X11_streamAt  hz e3 l) hrm dX11_cell_2 rfl rfl (Nat.le_of_ble_eq_true rfl) (Nat.le_of_ble_eq_true rfl) (Nat.le_of_ble_eq_true rfl) (hz.o11 rfl) rfl (Nat.le_of_ble_eq_true rfl) (fun vr h2 hq => ?_) (fun E9 h9 hq => ?_)
  · obtain ⟨w5, rfl, hq⟩ := hq
    have hr := bx_ok hr
    obtain ⟨rfl, hv6, hz⟩ := hq
    show wp _ _ 5 [(0, .ref (A 11 0 0)), (1, .int x1), (2, .int x2), (3, .int x3)] [.ref (A 7 w5.1 w5.2)] _ _ _
    refine g_X11_189 dX11_cell_5 rfl (hz.o7 hv6) (hz.r460 hv6) ?_
    refine w_astore [(4, .ref (A 8 w5.1 w5.2)), (0, .ref (A 11 0 0)), (1, .int x1), (2, .int x2), (3, .int x3)] dX11_cell_8 rfl (by decide) rfl ?_
    refine w_iload_n 3 dX11_cell_10 rfl rfl rfl ?_
    refine w_if_lt 37 dX11_cell_11 rfl rfl (fun q11 => ?_) (fun q11 => ?_)
    · have hr := bt q11 hr
      refine w_thr138 hf hrm (by decide) dX11_cell_37 dX11_cell_40 dX11_cell_41 dX11_cell_44 (Nat.le_of_ble_eq_true rfl) (Nat.le_of_ble_eq_true rfl) (Nat.le_of_ble_eq_true rfl) (Nat.le_of_ble_eq_true rfl) (by decide) ?_
      intro q9
      obtain ⟨rfl, rfl⟩ := ret_inj hr
      exact ⟨rfl, hz.gh⟩
    · have hr := bf q11 hr
      refine w_iload_n 3 dX11_cell_14 rfl rfl rfl ?_
      refine w_aload 0 dX11_cell_15 rfl rfl ?_
      refine g_X11_193 dX11_cell_17 rfl (hz.o8 hv6) (hz.i512 hv6) ?_
      refine w_icmp_ge 37 dX11_cell_20 rfl rfl (fun q20 => ?_) (fun q20 => ?_)
      · have hr := bt q20 hr
        refine w_thr138 hf hrm (by decide) dX11_cell_37 dX11_cell_40 dX11_cell_41 dX11_cell_44 (Nat.le_of_ble_eq_true rfl) (Nat.le_of_ble_eq_true rfl) (Nat.le_of_ble_eq_true rfl) (Nat.le_of_ble_eq_true rfl) (by decide) ?_
        intro q9
        obtain ⟨rfl, rfl⟩ := ret_inj hr
        exact ⟨rfl, hz.gh⟩
      · have hr := bf q20 hr
        refine w_iload_n 4 dX11_cell_23 rfl rfl rfl ?_
        refine w_iconst (-1) dX11_cell_24 rfl rfl ?_
        refine w_icmp_lt 37 dX11_cell_25 rfl rfl (fun q25 => ?_) (fun q25 => ?_)
        · have hr := bt q25 hr
          refine w_thr138 hf hrm (by decide) dX11_cell_37 dX11_cell_40 dX11_cell_41 dX11_cell_44 (Nat.le_of_ble_eq_true rfl) (Nat.le_of_ble_eq_true rfl) (Nat.le_of_ble_eq_true rfl) (Nat.le_of_ble_eq_true rfl) (by decide) ?_
          intro q9
          obtain ⟨rfl, rfl⟩ := ret_inj hr
          exact ⟨rfl, hz.gh⟩
        · have hr := bf q25 hr
          refine w_iload_n 4 dX11_cell_28 rfl rfl rfl ?_
          refine w_aload 0 dX11_cell_29 rfl rfl ?_
          refine g_X11_198 dX11_cell_31 rfl (hz.o8 hv6) (hz.i513 hv6) ?_
          refine w_icmp_lt 45 dX11_cell_34 rfl rfl (fun q34 => ?_) (fun q34 => ?_)
          · have hr := bt q34 hr
            refine w_iload_n 4 dX11_cell_45 rfl rfl rfl ?_
            refine w_if_ge 59 dX11_cell_46 rfl rfl (fun q46 => ?_) (fun q46 => ?_)
            · have hr := bt q46 hr
              refine w_aload 0 dX11_cell_59 rfl rfl ?_
              refine w_iload_n 3 dX11_cell_61 rfl rfl rfl ?_
              refine w_iload_n 4 dX11_cell_62 rfl rfl rfl ?_
              obtain ⟨v7, σ8, e9, hr⟩ := bq_some hr
              refine c_X11_203 (As := [.int x2, .int x3]) (rest := []) (fun l => s_X8_numberOf hv6 hz e9 l) hrm dX11_cell_63 rfl rfl (Nat.le_of_ble_eq_true rfl) (Nat.le_of_ble_eq_true rfl) (Nat.le_of_ble_eq_true rfl) (hz.o8 hv6) rfl (Nat.le_of_ble_eq_true rfl) (fun vr h2 hq => ?_) (fun E9 h9 hq => hq.elim)
              obtain ⟨rfl, hz⟩ := hq
              show wp _ _ 66 [(4, .ref (A 8 w5.1 w5.2)), (0, .ref (A 11 0 0)), (1, .int x1), (2, .int x2), (3, .int x3)] [.long v7] _ _ _
              refine w_lret hf dX11_cell_66 rfl (Nat.le_of_ble_eq_true rfl) (Nat.le_of_ble_eq_true rfl) ?_
              obtain ⟨rfl, rfl⟩ := ret_inj hr
              exact ⟨_, rfl, rfl, hz⟩
            · have hr := bf q46 hr
              refine w_aload 0 dX11_cell_49 rfl rfl ?_
              refine w_iload_n 3 dX11_cell_51 rfl rfl rfl ?_
              obtain ⟨v11, σ12, e13, hr⟩ := bq_some hr
              refine c_X11_199 (As := [.int x2]) (rest := []) (fun l => s_X8_timeOf hv6 hz e13 l) hrm dX11_cell_52 rfl rfl (Nat.le_of_ble_eq_true rfl) (Nat.le_of_ble_eq_true rfl) (Nat.le_of_ble_eq_true rfl) (hz.o8 hv6) rfl (Nat.le_of_ble_eq_true rfl) (fun vr h2 hq => ?_) (fun E9 h9 hq => hq.elim)
              obtain ⟨rfl, hz⟩ := hq
              show wp _ _ 55 [(4, .ref (A 8 w5.1 w5.2)), (0, .ref (A 11 0 0)), (1, .int x1), (2, .int x2), (3, .int x3)] [.int v11] _ _ _
              refine w_i2l dX11_cell_55 rfl ?_
              refine w_goto 66 dX11_cell_56 rfl ?_
              refine w_lret hf dX11_cell_66 rfl (Nat.le_of_ble_eq_true rfl) (Nat.le_of_ble_eq_true rfl) ?_
              obtain ⟨rfl, rfl⟩ := ret_inj hr
              exact ⟨_, rfl, rfl, hz⟩
          · have hr := bf q34 hr
            refine w_thr138 hf hrm (by decide) dX11_cell_37 dX11_cell_40 dX11_cell_41 dX11_cell_44 (Nat.le_of_ble_eq_true rfl) (Nat.le_of_ble_eq_true rfl) (Nat.le_of_ble_eq_true rfl) (Nat.le_of_ble_eq_true rfl) (by decide) ?_
            intro q9
            obtain ⟨rfl, rfl⟩ := ret_inj hr
            exact ⟨rfl, hz.gh⟩
  · obtain ⟨rfl, hz⟩ := hq
    have hr := bx_er hr
    obtain ⟨rfl, rfl⟩ := ret_inj hr
    exact w_out hf (Nat.le_of_ble_eq_true rfl) (Nat.le_of_ble_eq_true rfl) ⟨rfl, hz⟩

set_option maxRecDepth 20000 in
set_option maxHeartbeats 4000000 in
theorem s_X11_windows {A : Nat → Nat → Nat → Nat} {h : Hp} {σ ρ σ' : Zs} {v : Except String (Int32)} {x1 : Int32} {x2 : Int32}  (hz : Rp A h σ ρ) (hr : fX11_windows x1 x2 σ = some (v, σ')) : ∀ l : Launch, Sp l mX11_windows 7 1 6 [.ref (A 11 0 0), .int x1, .int x2] h ((QE QI) A v σ' ρ) (XE A v σ' ρ) := by
  intro l
  refine Sp.of rfl rfl (lv := [(0, .ref (A 11 0 0)), (1, .int x1), (2, .int x2)]) (Nat.le_of_ble_eq_true rfl) rfl (fun x hf hrm => ?_)
  rw [fX11_windows.eq_1] at hr
  refine w_aload_n 0 dX11_windows_0 rfl rfl rfl ?_
  refine w_iload_n 1 dX11_windows_1 rfl rfl rfl ?_
  obtain ⟨v1, σ2, e3, hr⟩ := bx_some hr
  refine c_X11_139 (As := [.int x1]) (rest := []) (fun l => s_X11_streamAt  hz e3 l) hrm dX11_windows_2 rfl rfl (Nat.le_of_ble_eq_true rfl) (Nat.le_of_ble_eq_true rfl) (Nat.le_of_ble_eq_true rfl) (hz.o11 rfl) rfl (Nat.le_of_ble_eq_true rfl) (fun vr h2 hq => ?_) (fun E9 h9 hq => ?_)
  · obtain ⟨w5, rfl, hq⟩ := hq
    have hr := bx_ok hr
    obtain ⟨rfl, hv6, hz⟩ := hq
    show wp _ _ 5 [(0, .ref (A 11 0 0)), (1, .int x1), (2, .int x2)] [.ref (A 7 w5.1 w5.2)] _ _ _
    refine g_X11_210 dX11_windows_5 rfl (hz.o7 hv6) (hz.r464 hv6) ?_
    refine w_iload_n 2 dX11_windows_8 rfl rfl rfl ?_
    obtain ⟨v7, σ8, e9, hr⟩ := bq_some hr
    refine c_X11_214 (As := [.int x2]) (rest := []) (fun l => s_X10_countThose hv6 hz e9 l) hrm dX11_windows_9 rfl rfl (Nat.le_of_ble_eq_true rfl) (Nat.le_of_ble_eq_true rfl) (Nat.le_of_ble_eq_true rfl) (hz.o10 hv6) rfl (Nat.le_of_ble_eq_true rfl) (fun vr h2 hq => ?_) (fun E9 h9 hq => hq.elim)
    obtain ⟨rfl, hz⟩ := hq
    show wp _ _ 12 [(0, .ref (A 11 0 0)), (1, .int x1), (2, .int x2)] [.int v7] _ _ _
    refine w_iret hf dX11_windows_12 rfl (Nat.le_of_ble_eq_true rfl) (Nat.le_of_ble_eq_true rfl) ?_
    obtain ⟨rfl, rfl⟩ := ret_inj hr
    exact ⟨_, rfl, rfl, hz⟩
  · obtain ⟨rfl, hz⟩ := hq
    have hr := bx_er hr
    obtain ⟨rfl, rfl⟩ := ret_inj hr
    exact w_out hf (Nat.le_of_ble_eq_true rfl) (Nat.le_of_ble_eq_true rfl) ⟨rfl, hz⟩

set_option maxRecDepth 20000 in
set_option maxHeartbeats 4000000 in
theorem s_X11_testHeldPlace {A : Nat → Nat → Nat → Nat} {h : Hp} {σ ρ σ' : Zs} {v : Except String (Unit)} {x1 : Int32}  (hz : Rp A h σ ρ) (hr : fX11_testHeldPlace x1 σ = some (v, σ')) : ∀ l : Launch, Sp l mX11_testHeldPlace 6 1 6 [.ref (A 11 0 0), .int x1] h ((QE QV) A v σ' ρ) (XE A v σ' ρ) := by
  intro l
  refine Sp.of rfl rfl (lv := [(0, .ref (A 11 0 0)), (1, .int x1)]) (Nat.le_of_ble_eq_true rfl) rfl (fun x hf hrm => ?_)
  rw [fX11_testHeldPlace.eq_1] at hr
  refine w_iload_n 1 dX11_testHeldPlace_0 rfl rfl rfl ?_
  refine w_if_lt 15 dX11_testHeldPlace_1 rfl rfl (fun q1 => ?_) (fun q1 => ?_)
  · have hr := bt q1 hr
    refine w_thr138 hf hrm (by decide) dX11_testHeldPlace_15 dX11_testHeldPlace_18 dX11_testHeldPlace_19 dX11_testHeldPlace_22 (Nat.le_of_ble_eq_true rfl) (Nat.le_of_ble_eq_true rfl) (Nat.le_of_ble_eq_true rfl) (Nat.le_of_ble_eq_true rfl) (by decide) ?_
    intro q9
    obtain ⟨rfl, rfl⟩ := ret_inj hr
    exact ⟨rfl, hz.gh⟩
  · have hr := bf q1 hr
    refine w_iload_n 1 dX11_testHeldPlace_4 rfl rfl rfl ?_
    refine w_aload_n 0 dX11_testHeldPlace_5 rfl rfl rfl ?_
    refine g_X11_58 dX11_testHeldPlace_6 rfl (hz.o11 rfl) (hz.r713 rfl) ?_
    refine g_X11_133 dX11_testHeldPlace_9 rfl (hz.o1 rfl) (hz.i66 rfl) ?_
    refine w_icmp_lt 23 dX11_testHeldPlace_12 rfl rfl (fun q12 => ?_) (fun q12 => ?_)
    · have hr := bt q12 hr
      refine w_vret hf dX11_testHeldPlace_23 rfl (Nat.le_of_ble_eq_true rfl) (Nat.le_of_ble_eq_true rfl) ?_
      obtain ⟨rfl, rfl⟩ := ret_inj hr
      exact ⟨_, rfl, rfl, hz⟩
    · have hr := bf q12 hr
      refine w_thr138 hf hrm (by decide) dX11_testHeldPlace_15 dX11_testHeldPlace_18 dX11_testHeldPlace_19 dX11_testHeldPlace_22 (Nat.le_of_ble_eq_true rfl) (Nat.le_of_ble_eq_true rfl) (Nat.le_of_ble_eq_true rfl) (Nat.le_of_ble_eq_true rfl) (by decide) ?_
      intro q9
      obtain ⟨rfl, rfl⟩ := ret_inj hr
      exact ⟨rfl, hz.gh⟩

set_option maxRecDepth 20000 in
set_option maxHeartbeats 4000000 in
theorem s_X11_heldRowAt {A : Nat → Nat → Nat → Nat} {h : Hp} {σ ρ σ' : Zs} {v : Except String (Nat × Nat)} {x1 : Int32}  (hz : Rp A h σ ρ) (hr : fX11_heldRowAt x1 σ = some (v, σ')) : ∀ l : Launch, Sp l mX11_heldRowAt 7 1 6 [.ref (A 11 0 0), .int x1] h ((QE (QO 6)) A v σ' ρ) (XE A v σ' ρ) := by
  intro l
  refine Sp.of rfl rfl (lv := [(0, .ref (A 11 0 0)), (1, .int x1)]) (Nat.le_of_ble_eq_true rfl) rfl (fun x hf hrm => ?_)
  rw [fX11_heldRowAt.eq_1] at hr
  refine w_aload_n 0 dX11_heldRowAt_0 rfl rfl rfl ?_
  refine w_iload_n 1 dX11_heldRowAt_1 rfl rfl rfl ?_
  obtain ⟨v1, σ2, e3, hr⟩ := bx_some hr
  refine c_X11_234 (As := [.int x1]) (rest := []) (fun l => s_X11_testHeldPlace  hz e3 l) hrm dX11_heldRowAt_2 rfl rfl (Nat.le_of_ble_eq_true rfl) (Nat.le_of_ble_eq_true rfl) (Nat.le_of_ble_eq_true rfl) (hz.o11 rfl) rfl (Nat.le_of_ble_eq_true rfl) (fun vr h2 hq => ?_) (fun E9 h9 hq => ?_)
  · obtain ⟨w5, rfl, hq⟩ := hq
    have hr := bx_ok hr
    obtain ⟨rfl, hz⟩ := hq
    show wp _ _ 5 [(0, .ref (A 11 0 0)), (1, .int x1)] [] _ _ _
    refine w_aload_n 0 dX11_heldRowAt_5 rfl rfl rfl ?_
    refine g_X11_58 dX11_heldRowAt_6 rfl (hz.o11 rfl) (hz.r713 rfl) ?_
    refine g_X11_280 dX11_heldRowAt_9 rfl (hz.o1 rfl) (hz.r65 rfl) ?_
    refine w_iload_n 1 dX11_heldRowAt_12 rfl rfl rfl ?_
    obtain ⟨g6, hr⟩ := gd hr
    have hv7 := hz.we65 (gi_lt g6)
    refine w_aald 6 dX11_heldRowAt_13 rfl (by decide) (by decide) (fun _ => rfl) (hz.k65 rfl) (gin (hz.n65 rfl) g6) (hz.e65 (gi_lt g6)) ?_
    refine w_aret hf dX11_heldRowAt_14 rfl (Or.inl ⟨_, rfl⟩) (Or.inr ⟨_, rfl⟩) (Nat.le_of_ble_eq_true rfl) (Nat.le_of_ble_eq_true rfl) ?_
    obtain ⟨rfl, rfl⟩ := ret_inj hr
    exact ⟨_, rfl, rfl, hv7, hz⟩
  · obtain ⟨rfl, hz⟩ := hq
    have hr := bx_er hr
    obtain ⟨rfl, rfl⟩ := ret_inj hr
    exact w_out hf (Nat.le_of_ble_eq_true rfl) (Nat.le_of_ble_eq_true rfl) ⟨rfl, hz⟩

set_option maxRecDepth 20000 in
set_option maxHeartbeats 4000000 in
theorem s_X11_held {A : Nat → Nat → Nat → Nat} {h : Hp} {σ ρ σ' : Zs} {v : Except String (Int32)} {x1 : Int32} {x2 : Int32}  (hz : Rp A h σ ρ) (hr : fX11_held x1 x2 σ = some (v, σ')) : ∀ l : Launch, Sp l mX11_held 8 2 12 [.ref (A 11 0 0), .int x1, .int x2] h ((QE QI) A v σ' ρ) (XE A v σ' ρ) := by
  intro l
  refine Sp.of rfl rfl (lv := [(0, .ref (A 11 0 0)), (1, .int x1), (2, .int x2)]) (Nat.le_of_ble_eq_true rfl) rfl (fun x hf hrm => ?_)
  rw [fX11_held.eq_1] at hr
  refine w_aload_n 0 dX11_held_0 rfl rfl rfl ?_
  refine w_iload_n 1 dX11_held_1 rfl rfl rfl ?_
  obtain ⟨v1, σ2, e3, hr⟩ := bx_some hr
  refine c_X11_220 (As := [.int x1]) (rest := []) (fun l => s_X11_heldRowAt  hz e3 l) hrm dX11_held_2 rfl rfl (Nat.le_of_ble_eq_true rfl) (Nat.le_of_ble_eq_true rfl) (Nat.le_of_ble_eq_true rfl) (hz.o11 rfl) rfl (Nat.le_of_ble_eq_true rfl) (fun vr h2 hq => ?_) (fun E9 h9 hq => ?_)
  · obtain ⟨w5, rfl, hq⟩ := hq
    have hr := bx_ok hr
    obtain ⟨rfl, hv6, hz⟩ := hq
    show wp _ _ 5 [(0, .ref (A 11 0 0)), (1, .int x1), (2, .int x2)] [.ref (A 6 w5.1 w5.2)] _ _ _
    refine w_astore_n [(3, .ref (A 6 w5.1 w5.2)), (0, .ref (A 11 0 0)), (1, .int x1), (2, .int x2)] dX11_held_5 rfl rfl (by decide) rfl ?_
    refine w_iload_n 3 dX11_held_6 rfl rfl rfl ?_
    by_cases q7_0 : (x2 : Int32) = 0
    · have hr := bt q7_0 hr
      refine w_tableIn 32 dX11_held_7 (by rw [q7_0]; decide) (by rw [q7_0]; decide) (by rw [q7_0]; rfl) rfl ?_
      refine w_aload_n 0 dX11_held_32 rfl rfl rfl ?_
      refine g_X11_224 dX11_held_33 rfl (hz.o6 hv6) (hz.i387 hv6) ?_
      refine w_iret hf dX11_held_36 rfl (Nat.le_of_ble_eq_true rfl) (Nat.le_of_ble_eq_true rfl) ?_
      obtain ⟨rfl, rfl⟩ := ret_inj hr
      exact ⟨_, rfl, rfl, hz⟩
    have hr := bf q7_0 hr
    by_cases q7_1 : (x2 : Int32) = 1
    · have hr := bt q7_1 hr
      refine w_tableIn 37 dX11_held_7 (by rw [q7_1]; decide) (by rw [q7_1]; decide) (by rw [q7_1]; rfl) rfl ?_
      refine w_aload_n 0 dX11_held_37 rfl rfl rfl ?_
      refine g_X11_227 dX11_held_38 rfl (hz.o6 hv6) (hz.i388 hv6) ?_
      refine w_iret hf dX11_held_41 rfl (Nat.le_of_ble_eq_true rfl) (Nat.le_of_ble_eq_true rfl) ?_
      obtain ⟨rfl, rfl⟩ := ret_inj hr
      exact ⟨_, rfl, rfl, hz⟩
    have hr := bf q7_1 hr
    by_cases q7_2 : (x2 : Int32) = 2
    · have hr := bt q7_2 hr
      refine w_tableIn 42 dX11_held_7 (by rw [q7_2]; decide) (by rw [q7_2]; decide) (by rw [q7_2]; rfl) rfl ?_
      refine w_aload_n 0 dX11_held_42 rfl rfl rfl ?_
      refine g_X11_182 dX11_held_43 rfl (hz.o6 hv6) (hz.i384 hv6) ?_
      refine w_iret hf dX11_held_46 rfl (Nat.le_of_ble_eq_true rfl) (Nat.le_of_ble_eq_true rfl) ?_
      obtain ⟨rfl, rfl⟩ := ret_inj hr
      exact ⟨_, rfl, rfl, hz⟩
    have hr := bf q7_2 hr
    refine w_tableOut 47 dX11_held_7 (tabout 0 2 (fun k h1 h2 => by
          intro e
          have h3 : k = 0 ∨ k = 1 ∨ k = 2 := by omega
          rcases h3 with h3 | h3 | h3 <;> subst h3 <;> contradiction)) rfl ?_
    refine w_thr138 hf hrm (by decide) dX11_held_47 dX11_held_50 dX11_held_51 dX11_held_54 (Nat.le_of_ble_eq_true rfl) (Nat.le_of_ble_eq_true rfl) (Nat.le_of_ble_eq_true rfl) (Nat.le_of_ble_eq_true rfl) (by decide) ?_
    intro q9
    obtain ⟨rfl, rfl⟩ := ret_inj hr
    exact ⟨rfl, hz.gh⟩
  · obtain ⟨rfl, hz⟩ := hq
    have hr := bx_er hr
    obtain ⟨rfl, rfl⟩ := ret_inj hr
    exact w_out hf (Nat.le_of_ble_eq_true rfl) (Nat.le_of_ble_eq_true rfl) ⟨rfl, hz⟩

set_option maxRecDepth 20000 in
set_option maxHeartbeats 4000000 in
theorem s_X11_heldValue {A : Nat → Nat → Nat → Nat} {h : Hp} {σ ρ σ' : Zs} {v : Except String (Int64)} {x1 : Int32} {x2 : Int32}  (hz : Rp A h σ ρ) (hr : fX11_heldValue x1 x2 σ = some (v, σ')) : ∀ l : Launch, Sp l mX11_heldValue 8 2 12 [.ref (A 11 0 0), .int x1, .int x2] h ((QE QJ) A v σ' ρ) (XE A v σ' ρ) := by
  intro l
  refine Sp.of rfl rfl (lv := [(0, .ref (A 11 0 0)), (1, .int x1), (2, .int x2)]) (Nat.le_of_ble_eq_true rfl) rfl (fun x hf hrm => ?_)
  rw [fX11_heldValue.eq_1] at hr
  refine w_aload_n 0 dX11_heldValue_0 rfl rfl rfl ?_
  refine w_iload_n 1 dX11_heldValue_1 rfl rfl rfl ?_
  obtain ⟨v1, σ2, e3, hr⟩ := bx_some hr
  refine c_X11_220 (As := [.int x1]) (rest := []) (fun l => s_X11_heldRowAt  hz e3 l) hrm dX11_heldValue_2 rfl rfl (Nat.le_of_ble_eq_true rfl) (Nat.le_of_ble_eq_true rfl) (Nat.le_of_ble_eq_true rfl) (hz.o11 rfl) rfl (Nat.le_of_ble_eq_true rfl) (fun vr h2 hq => ?_) (fun E9 h9 hq => ?_)
  · obtain ⟨w5, rfl, hq⟩ := hq
    have hr := bx_ok hr
    obtain ⟨rfl, hv6, hz⟩ := hq
    show wp _ _ 5 [(0, .ref (A 11 0 0)), (1, .int x1), (2, .int x2)] [.ref (A 6 w5.1 w5.2)] _ _ _
    refine w_astore_n [(3, .ref (A 6 w5.1 w5.2)), (0, .ref (A 11 0 0)), (1, .int x1), (2, .int x2)] dX11_heldValue_5 rfl rfl (by decide) rfl ?_
    refine w_iload_n 3 dX11_heldValue_6 rfl rfl rfl ?_
    refine w_if_lt 18 dX11_heldValue_7 rfl rfl (fun q7 => ?_) (fun q7 => ?_)
    · have hr := bt q7 hr
      refine w_thr138 hf hrm (by decide) dX11_heldValue_18 dX11_heldValue_21 dX11_heldValue_22 dX11_heldValue_25 (Nat.le_of_ble_eq_true rfl) (Nat.le_of_ble_eq_true rfl) (Nat.le_of_ble_eq_true rfl) (Nat.le_of_ble_eq_true rfl) (by decide) ?_
      intro q9
      obtain ⟨rfl, rfl⟩ := ret_inj hr
      exact ⟨rfl, hz.gh⟩
    · have hr := bf q7 hr
      refine w_iload_n 3 dX11_heldValue_10 rfl rfl rfl ?_
      refine w_aload_n 0 dX11_heldValue_11 rfl rfl rfl ?_
      refine g_X11_154 dX11_heldValue_12 rfl (hz.o6 hv6) (hz.i385 hv6) ?_
      refine w_icmp_lt 26 dX11_heldValue_15 rfl rfl (fun q15 => ?_) (fun q15 => ?_)
      · have hr := bt q15 hr
        refine w_aload_n 0 dX11_heldValue_26 rfl rfl rfl ?_
        refine w_iload_n 3 dX11_heldValue_27 rfl rfl rfl ?_
        obtain ⟨v7, σ8, e9, hr⟩ := bq_some hr
        refine c_X11_230 (As := [.int x2]) (rest := []) (fun l => s_X6_numberAt hv6 hz e9 l) hrm dX11_heldValue_28 rfl rfl (Nat.le_of_ble_eq_true rfl) (Nat.le_of_ble_eq_true rfl) (Nat.le_of_ble_eq_true rfl) (hz.o6 hv6) rfl (Nat.le_of_ble_eq_true rfl) (fun vr h2 hq => ?_) (fun E9 h9 hq => hq.elim)
        obtain ⟨rfl, hz⟩ := hq
        show wp _ _ 31 [(3, .ref (A 6 w5.1 w5.2)), (0, .ref (A 11 0 0)), (1, .int x1), (2, .int x2)] [.long v7] _ _ _
        refine w_lret hf dX11_heldValue_31 rfl (Nat.le_of_ble_eq_true rfl) (Nat.le_of_ble_eq_true rfl) ?_
        obtain ⟨rfl, rfl⟩ := ret_inj hr
        exact ⟨_, rfl, rfl, hz⟩
      · have hr := bf q15 hr
        refine w_thr138 hf hrm (by decide) dX11_heldValue_18 dX11_heldValue_21 dX11_heldValue_22 dX11_heldValue_25 (Nat.le_of_ble_eq_true rfl) (Nat.le_of_ble_eq_true rfl) (Nat.le_of_ble_eq_true rfl) (Nat.le_of_ble_eq_true rfl) (by decide) ?_
        intro q9
        obtain ⟨rfl, rfl⟩ := ret_inj hr
        exact ⟨rfl, hz.gh⟩
  · obtain ⟨rfl, hz⟩ := hq
    have hr := bx_er hr
    obtain ⟨rfl, rfl⟩ := ret_inj hr
    exact w_out hf (Nat.le_of_ble_eq_true rfl) (Nat.le_of_ble_eq_true rfl) ⟨rfl, hz⟩

set_option maxRecDepth 20000 in
set_option maxHeartbeats 4000000 in
theorem s_X11_broken {A : Nat → Nat → Nat → Nat} {h : Hp} {σ ρ σ' : Zs} {v : Except String (Int32)} {x1 : Int32}  (hz : Rp A h σ ρ) (hr : fX11_broken x1 σ = some (v, σ')) : ∀ l : Launch, Sp l mX11_broken 6 1 6 [.ref (A 11 0 0), .int x1] h ((QE QI) A v σ' ρ) (XE A v σ' ρ) := by
  intro l
  refine Sp.of rfl rfl (lv := [(0, .ref (A 11 0 0)), (1, .int x1)]) (Nat.le_of_ble_eq_true rfl) rfl (fun x hf hrm => ?_)
  rw [fX11_broken.eq_1] at hr
  refine w_iload_n 1 dX11_broken_0 rfl rfl rfl ?_
  refine w_if_lt 15 dX11_broken_1 rfl rfl (fun q1 => ?_) (fun q1 => ?_)
  · have hr := bt q1 hr
    refine w_thr138 hf hrm (by decide) dX11_broken_15 dX11_broken_18 dX11_broken_19 dX11_broken_22 (Nat.le_of_ble_eq_true rfl) (Nat.le_of_ble_eq_true rfl) (Nat.le_of_ble_eq_true rfl) (Nat.le_of_ble_eq_true rfl) (by decide) ?_
    intro q9
    obtain ⟨rfl, rfl⟩ := ret_inj hr
    exact ⟨rfl, hz.gh⟩
  · have hr := bf q1 hr
    refine w_iload_n 1 dX11_broken_4 rfl rfl rfl ?_
    refine w_aload_n 0 dX11_broken_5 rfl rfl rfl ?_
    have hv1 := hz.ww707 (p := 0) (s := 0) rfl
    refine g_X11_23 dX11_broken_6 rfl (hz.o11 rfl) (hz.rr707 rfl) ?_
    refine g_X11_124 dX11_broken_9 rfl (hz.o5 hv1) (hz.i323 hv1) ?_
    refine w_icmp_lt 23 dX11_broken_12 rfl rfl (fun q12 => ?_) (fun q12 => ?_)
    · have hr := bt q12 hr
      refine w_aload_n 0 dX11_broken_23 rfl rfl rfl ?_
      have hv2 := hz.ww707 (p := 0) (s := 0) rfl
      refine g_X11_23 dX11_broken_24 rfl (hz.o11 rfl) (hz.rr707 rfl) ?_
      refine g_X11_244 dX11_broken_27 rfl (hz.o5 hv2) (hz.r322 hv2) ?_
      refine w_iload_n 1 dX11_broken_30 rfl rfl rfl ?_
      obtain ⟨g3, hr⟩ := gd hr
      have hv4 := vdb_322 (p := (zR σ 707 0 0 0).1) hv2 (gi_lt g3)
      refine w_aald 4 dX11_broken_31 rfl (by decide) (by decide) (fun _ => rfl) (hz.k322 hv2) (gin (hz.n322 hv2) g3) (hz.e322 hv2 (gi_lt g3)) ?_
      refine g_X11_248 dX11_broken_32 rfl (hz.o0 hv4) (hz.i4 hv4) ?_
      refine w_iret hf dX11_broken_35 rfl (Nat.le_of_ble_eq_true rfl) (Nat.le_of_ble_eq_true rfl) ?_
      obtain ⟨rfl, rfl⟩ := ret_inj hr
      exact ⟨_, rfl, rfl, hz⟩
    · have hr := bf q12 hr
      refine w_thr138 hf hrm (by decide) dX11_broken_15 dX11_broken_18 dX11_broken_19 dX11_broken_22 (Nat.le_of_ble_eq_true rfl) (Nat.le_of_ble_eq_true rfl) (Nat.le_of_ble_eq_true rfl) (Nat.le_of_ble_eq_true rfl) (by decide) ?_
      intro q9
      obtain ⟨rfl, rfl⟩ := ret_inj hr
      exact ⟨rfl, hz.gh⟩

set_option maxRecDepth 20000 in
set_option maxHeartbeats 4000000 in
theorem s_X11_lost {A : Nat → Nat → Nat → Nat} {h : Hp} {σ ρ σ' : Zs} {v : Int32}   (hz : Rp A h σ ρ) (hr : fX11_lost  σ = some (v, σ')) : ∀ l : Launch, Sp l mX11_lost 0 0 0 [.ref (A 11 0 0)] h (QI A v σ' ρ) X0 := by
  intro l
  refine Sp.of rfl rfl (lv := [(0, .ref (A 11 0 0))]) (Nat.le_of_ble_eq_true rfl) rfl (fun x hf hrm => ?_)
  rw [fX11_lost.eq_1] at hr
  refine w_aload_n 0 dX11_lost_0 rfl rfl rfl ?_
  refine g_X11_58 dX11_lost_1 rfl (hz.o11 rfl) (hz.r713 rfl) ?_
  refine g_X11_253 dX11_lost_4 rfl (hz.o1 rfl) (hz.i67 rfl) ?_
  refine w_iret hf dX11_lost_7 rfl (Nat.le_of_ble_eq_true rfl) (Nat.le_of_ble_eq_true rfl) ?_
  obtain ⟨rfl, rfl⟩ := ret_inj hr
  exact ⟨rfl, hz⟩

set_option maxRecDepth 20000 in
set_option maxHeartbeats 4000000 in
theorem w_X11_doLogAnew_15 {A : Nat → Nat → Nat → Nat} {ρ σ' : Zs} {v : Int32} {x : Cxt}   (hf : m_fin 0 0 (QI A v σ' ρ) X0 x) (hrm : m_rm 6 0 0 x)  : ∀ (n : Nat) (y1 : Int32) (y2 : Int32) (σ : Zs) (h : Hp), Rp A h σ ρ → fX11_doLogAnew_15   n y1 y2 σ = some (v, σ') → wp x mX11_doLogAnew 15 [(0, .ref (A 11 0 0)), (1, .int y1), (2, .int y2)] [] h 0 0
  | 0, _, _, σ, h => fun hz hr => by
    rw [fX11_doLogAnew_15.eq_1] at hr
    exact nono hr
  | n + 1, y1, y2, σ, h => fun hz hr => by
    rw [fX11_doLogAnew_15.eq_2] at hr
    refine w_iload_n 2 dX11_doLogAnew_15 rfl rfl rfl ?_
    refine w_aload_n 0 dX11_doLogAnew_16 rfl rfl rfl ?_
    refine g_X11_127 dX11_doLogAnew_17 rfl (hz.o11 rfl) (hz.i716 rfl) ?_
    refine w_icmp_ge 58 dX11_doLogAnew_20 rfl rfl (fun q20 => ?_) (fun q20 => ?_)
    · have hr := bt q20 hr
      refine w_iload_n 1 dX11_doLogAnew_58 rfl rfl rfl ?_
      refine w_iret hf dX11_doLogAnew_59 rfl (Nat.le_of_ble_eq_true rfl) (Nat.le_of_ble_eq_true rfl) ?_
      obtain ⟨rfl, rfl⟩ := ret_inj hr
      exact ⟨rfl, hz⟩
    · have hr := bf q20 hr
      refine w_aload_n 0 dX11_doLogAnew_23 rfl rfl rfl ?_
      refine g_X11_58 dX11_doLogAnew_24 rfl (hz.o11 rfl) (hz.r713 rfl) ?_
      refine w_aload_n 0 dX11_doLogAnew_27 rfl rfl rfl ?_
      refine g_X11_71 dX11_doLogAnew_28 rfl (hz.o11 rfl) (hz.r715 rfl) ?_
      refine w_iload_n 2 dX11_doLogAnew_31 rfl rfl rfl ?_
      obtain ⟨g6, hr⟩ := gd hr
      have hv7 := vdb_715 (N := A 16 0 0) (p := 0) rfl (gi_lt g6)
      refine w_aald 5 dX11_doLogAnew_32 rfl (by decide) (by decide) (fun _ => rfl) (hz.k715 rfl) (gin (hz.n715 rfl) g6) (hz.e715 rfl (gi_lt g6)) ?_
      obtain ⟨v8, σ9, e10, hr⟩ := bq_some hr
      refine c_X11_240 (As := [.ref (A 2 0 (Int32.toNatClampNeg y2))]) (rest := []) (fun l => s_X1_perform hv7 hz e10 l) hrm dX11_doLogAnew_33 rfl rfl (Nat.le_of_ble_eq_true rfl) (Nat.le_of_ble_eq_true rfl) (Nat.le_of_ble_eq_true rfl) (hz.o1 rfl) rfl (Nat.le_of_ble_eq_true rfl) (fun vr h2 hq => ?_) (fun E9 h9 hq => hq.elim)
      obtain ⟨rfl, hz⟩ := hq
      show wp _ _ 36 [(0, .ref (A 11 0 0)), (1, .int y1), (2, .int y2)] [.int v8] _ _ _
      refine w_if_eq 49 dX11_doLogAnew_36 rfl rfl (fun q36 => ?_) (fun q36 => ?_)
      · have hr := bt q36 hr
        refine w_iinc 1 (y1 + 1) [(1, .int (y1 + 1)), (0, .ref (A 11 0 0)), (2, .int y2)] dX11_doLogAnew_49 rfl rfl rfl (by decide) rfl ?_
        refine w_iinc 2 (y2 + 1) [(2, .int (y2 + 1)), (1, .int (y1 + 1)), (0, .ref (A 11 0 0))] dX11_doLogAnew_52 rfl rfl rfl (by decide) rfl ?_
        refine w_goto 15 dX11_doLogAnew_55 rfl ?_
        refine w_lv [(0, .ref (A 11 0 0)), (1, .int (y1 + 1)), (2, .int (y2 + 1))] [2, 1, 0] rfl ?_
        exact w_X11_doLogAnew_15 hf hrm   n (y1 + 1) (y2 + 1) _ _ hz  hr
      · have hr := bf q36 hr
        refine w_aload_n 0 dX11_doLogAnew_39 rfl rfl rfl ?_
        refine g_X11_58 dX11_doLogAnew_40 rfl (hz.o11 rfl) (hz.r713 rfl) ?_
        obtain ⟨v12, σ13, e14, hr⟩ := bq_some hr
        refine c_X11_295 (As := []) (rest := []) (fun l => s_X1_runSteps  hz e14 l) hrm dX11_doLogAnew_43 rfl rfl (Nat.le_of_ble_eq_true rfl) (Nat.le_of_ble_eq_true rfl) (Nat.le_of_ble_eq_true rfl) (hz.o1 rfl) rfl (Nat.le_of_ble_eq_true rfl) (fun vr h2 hq => ?_) (fun E9 h9 hq => hq.elim)
        obtain ⟨rfl, hz⟩ := hq
        show wp _ _ 46 [(0, .ref (A 11 0 0)), (1, .int y1), (2, .int y2)] [] _ _ _
        refine w_goto 52 dX11_doLogAnew_46 rfl ?_
        refine w_iinc 2 (y2 + 1) [(2, .int (y2 + 1)), (0, .ref (A 11 0 0)), (1, .int y1)] dX11_doLogAnew_52 rfl rfl rfl (by decide) rfl ?_
        refine w_goto 15 dX11_doLogAnew_55 rfl ?_
        refine w_lv [(0, .ref (A 11 0 0)), (1, .int y1), (2, .int (y2 + 1))] [1, 2, 0] rfl ?_
        exact w_X11_doLogAnew_15 hf hrm   n y1 (y2 + 1) _ _ hz  hr
set_option maxRecDepth 20000 in
set_option maxHeartbeats 4000000 in
theorem s_X11_doLogAnew {A : Nat → Nat → Nat → Nat} {h : Hp} {σ ρ σ' : Zs} {v : Int32}   (hz : Rp A h σ ρ) (hr : fX11_doLogAnew  σ = some (v, σ')) : ∀ l : Launch, Sp l mX11_doLogAnew 6 0 0 [.ref (A 11 0 0)] h (QI A v σ' ρ) X0 := by
  intro l
  refine Sp.of rfl rfl (lv := [(0, .ref (A 11 0 0))]) (Nat.le_of_ble_eq_true rfl) rfl (fun x hf hrm => ?_)
  rw [fX11_doLogAnew.eq_1] at hr
  refine w_aload_n 0 dX11_doLogAnew_0 rfl rfl rfl ?_
  refine g_X11_58 dX11_doLogAnew_1 rfl (hz.o11 rfl) (hz.r713 rfl) ?_
  refine w_aload_n 0 dX11_doLogAnew_4 rfl rfl rfl ?_
  have hv1 := hz.ww707 (p := 0) (s := 0) rfl
  refine g_X11_23 dX11_doLogAnew_5 rfl (hz.o11 rfl) (hz.rr707 rfl) ?_
  obtain ⟨v2, σ3, e4, hr⟩ := bq_some hr
  refine c_X11_289 (As := [.ref (A 5 (zR σ 707 0 0 0).1 0)]) (rest := []) (fun l => s_X1_start hv1 hz e4 l) hrm dX11_doLogAnew_8 rfl rfl (Nat.le_of_ble_eq_true rfl) (Nat.le_of_ble_eq_true rfl) (Nat.le_of_ble_eq_true rfl) (hz.o1 rfl) rfl (Nat.le_of_ble_eq_true rfl) (fun vr h2 hq => ?_) (fun E9 h9 hq => hq.elim)
  obtain ⟨rfl, hz⟩ := hq
  show wp _ _ 11 [(0, .ref (A 11 0 0))] [] _ _ _
  refine w_iconst 0 dX11_doLogAnew_11 rfl rfl ?_
  refine w_istore_n [(1, .int 0), (0, .ref (A 11 0 0))] dX11_doLogAnew_12 rfl rfl (by decide) rfl ?_
  refine w_iconst 0 dX11_doLogAnew_13 rfl rfl ?_
  refine w_istore_n [(2, .int 0), (1, .int 0), (0, .ref (A 11 0 0))] dX11_doLogAnew_14 rfl rfl (by decide) rfl ?_
  refine w_lv [(0, .ref (A 11 0 0)), (1, .int 0), (2, .int 0)] [2, 1, 0] rfl ?_
  exact w_X11_doLogAnew_15 hf hrm   FU 0 0 _ _ hz  hr

set_option maxRecDepth 20000 in
set_option maxHeartbeats 4000000 in
theorem s_X11_replay {A : Nat → Nat → Nat → Nat} {h : Hp} {σ ρ σ' : Zs} {v : Except String (Int32)}   (hz : Rp A h σ ρ) (hr : fX11_replay  σ = some (v, σ')) : ∀ l : Launch, Sp l mX11_replay 7 1 6 [.ref (A 11 0 0)] h ((QE QI) A v σ' ρ) (XE A v σ' ρ) := by
  intro l
  refine Sp.of rfl rfl (lv := [(0, .ref (A 11 0 0))]) (Nat.le_of_ble_eq_true rfl) rfl (fun x hf hrm => ?_)
  rw [fX11_replay.eq_1] at hr
  refine w_aload_n 0 dX11_replay_0 rfl rfl rfl ?_
  have hv1 := hz.ww707 (p := 0) (s := 0) rfl
  refine g_X11_23 dX11_replay_1 rfl (hz.o11 rfl) (hz.rr707 rfl) ?_
  refine g_X11_121 dX11_replay_4 rfl (hz.o5 hv1) (hz.i321 hv1) ?_
  refine w_if_ne 18 dX11_replay_7 rfl rfl (fun q7 => ?_) (fun q7 => ?_)
  · have hr := bf q7 hr
    refine w_aload_n 0 dX11_replay_18 rfl rfl rfl ?_
    obtain ⟨v2, σ3, e4, hr⟩ := bq_some hr
    refine c_X11_256 (As := []) (rest := []) (fun l => s_X11_doLogAnew  hz e4 l) hrm dX11_replay_19 rfl rfl (Nat.le_of_ble_eq_true rfl) (Nat.le_of_ble_eq_true rfl) (Nat.le_of_ble_eq_true rfl) (hz.o11 rfl) rfl (Nat.le_of_ble_eq_true rfl) (fun vr h2 hq => ?_) (fun E9 h9 hq => hq.elim)
    obtain ⟨rfl, hz⟩ := hq
    show wp _ _ 22 [(0, .ref (A 11 0 0))] [.int v2] _ _ _
    refine w_iret hf dX11_replay_22 rfl (Nat.le_of_ble_eq_true rfl) (Nat.le_of_ble_eq_true rfl) ?_
    obtain ⟨rfl, rfl⟩ := ret_inj hr
    exact ⟨_, rfl, rfl, hz⟩
  · have hr := bt q7 hr
    refine w_thr85 hf hrm (by decide) dX11_replay_10 dX11_replay_13 dX11_replay_14 dX11_replay_17 (Nat.le_of_ble_eq_true rfl) (Nat.le_of_ble_eq_true rfl) (Nat.le_of_ble_eq_true rfl) (Nat.le_of_ble_eq_true rfl) (by decide) ?_
    intro q9
    obtain ⟨rfl, rfl⟩ := ret_inj hr
    exact ⟨rfl, hz.gh⟩

set_option maxRecDepth 20000 in
set_option maxHeartbeats 4000000 in
theorem w_X11_taken_4 {A : Nat → Nat → Nat → Nat} {ρ σ' : Zs} {v : UInt64} {x : Cxt}   (hf : m_fin 0 0 (QD A v σ' ρ) X0 x) (hrm : m_rm 0 0 0 x)  : ∀ (n : Nat) (y1 : Int32) (y2 : Int32) (σ : Zs) (h : Hp), Rp A h σ ρ → fX11_taken_4   n y1 y2 σ = some (v, σ') → wp x mX11_taken 4 [(0, .ref (A 11 0 0)), (1, .int y1), (2, .int y2)] [] h 0 0
  | 0, _, _, σ, h => fun hz hr => by
    rw [fX11_taken_4.eq_1] at hr
    exact nono hr
  | n + 1, y1, y2, σ, h => fun hz hr => by
    rw [fX11_taken_4.eq_2] at hr
    refine w_iload_n 2 dX11_taken_4 rfl rfl rfl ?_
    refine w_aload_n 0 dX11_taken_5 rfl rfl rfl ?_
    have hv1 := hz.ww707 (p := 0) (s := 0) rfl
    refine g_X11_23 dX11_taken_6 rfl (hz.o11 rfl) (hz.rr707 rfl) ?_
    refine g_X11_121 dX11_taken_9 rfl (hz.o5 hv1) (hz.i321 hv1) ?_
    refine w_icmp_ge 54 dX11_taken_12 rfl rfl (fun q12 => ?_) (fun q12 => ?_)
    · have hr := bt q12 hr
      refine w_aload_n 0 dX11_taken_54 rfl rfl rfl ?_
      refine g_X11_58 dX11_taken_55 rfl (hz.o11 rfl) (hz.r713 rfl) ?_
      refine g_X11_267 dX11_taken_58 rfl (hz.o1 rfl) (hz.i69 rfl) ?_
      refine w_if_ne 68 dX11_taken_61 rfl rfl (fun q61 => ?_) (fun q61 => ?_)
      · have hr := bf q61 hr
        refine w_iload_n 1 dX11_taken_68 rfl rfl rfl ?_
        refine w_i2d dX11_taken_69 rfl ?_
        refine w_aload_n 0 dX11_taken_70 rfl rfl rfl ?_
        refine g_X11_58 dX11_taken_71 rfl (hz.o11 rfl) (hz.r713 rfl) ?_
        refine g_X11_267 dX11_taken_74 rfl (hz.o1 rfl) (hz.i69 rfl) ?_
        refine w_i2d dX11_taken_77 rfl ?_
        obtain ⟨g2, hr⟩ := gd hr
        refine w_ddiv dX11_taken_78 rfl g2 ?_
        refine w_dret hf dX11_taken_79 rfl (Nat.le_of_ble_eq_true rfl) (Nat.le_of_ble_eq_true rfl) ?_
        obtain ⟨rfl, rfl⟩ := ret_inj hr
        exact ⟨rfl, hz⟩
      · have hr := bt q61 hr
        refine w_dconst1 dX11_taken_64 rfl ?_
        refine w_goto 79 dX11_taken_65 rfl ?_
        refine w_dret hf dX11_taken_79 rfl (Nat.le_of_ble_eq_true rfl) (Nat.le_of_ble_eq_true rfl) ?_
        obtain ⟨rfl, rfl⟩ := ret_inj hr
        exact ⟨rfl, hz⟩
    · have hr := bf q12 hr
      refine w_aload_n 0 dX11_taken_15 rfl rfl rfl ?_
      have hv3 := hz.ww707 (p := 0) (s := 0) rfl
      refine g_X11_23 dX11_taken_16 rfl (hz.o11 rfl) (hz.rr707 rfl) ?_
      refine g_X11_259 dX11_taken_19 rfl (hz.o5 hv3) (hz.r320 hv3) ?_
      refine w_iload_n 2 dX11_taken_22 rfl rfl rfl ?_
      obtain ⟨g4, hr⟩ := gd hr
      have hv5 := vdb_320 (p := (zR σ 707 0 0 0).1) hv3 (gi_lt g4)
      refine w_aald 7 dX11_taken_23 rfl (by decide) (by decide) (fun _ => rfl) (hz.k320 hv3) (gin (hz.n320 hv3) g4) (hz.e320 hv3 (gi_lt g4)) ?_
      refine g_X11_143 dX11_taken_24 rfl (hz.o7 hv5) (hz.i449 hv5) ?_
      refine w_if_ne 48 dX11_taken_27 rfl rfl (fun q27 => ?_) (fun q27 => ?_)
      · have hr := bf q27 hr
        refine w_iinc 2 (y2 + 1) [(2, .int (y2 + 1)), (0, .ref (A 11 0 0)), (1, .int y1)] dX11_taken_48 rfl rfl rfl (by decide) rfl ?_
        refine w_goto 4 dX11_taken_51 rfl ?_
        refine w_lv [(0, .ref (A 11 0 0)), (1, .int y1), (2, .int (y2 + 1))] [1, 2, 0] rfl ?_
        exact w_X11_taken_4 hf hrm   n y1 (y2 + 1) _ _ hz  hr
      · have hr := bt q27 hr
        refine w_iload_n 1 dX11_taken_30 rfl rfl rfl ?_
        refine w_aload_n 0 dX11_taken_31 rfl rfl rfl ?_
        have hv6 := hz.ww707 (p := 0) (s := 0) rfl
        refine g_X11_23 dX11_taken_32 rfl (hz.o11 rfl) (hz.rr707 rfl) ?_
        refine g_X11_259 dX11_taken_35 rfl (hz.o5 hv6) (hz.r320 hv6) ?_
        refine w_iload_n 2 dX11_taken_38 rfl rfl rfl ?_
        obtain ⟨g7, hr⟩ := gd hr
        have hv8 := vdb_320 (p := (zR σ 707 0 0 0).1) hv6 (gi_lt g7)
        refine w_aald 7 dX11_taken_39 rfl (by decide) (by decide) (fun _ => rfl) (hz.k320 hv6) (gin (hz.n320 hv6) g7) (hz.e320 hv6 (gi_lt g7)) ?_
        refine g_X11_189 dX11_taken_40 rfl (hz.o7 hv8) (hz.r460 hv8) ?_
        refine g_X11_193 dX11_taken_43 rfl (hz.o8 hv8) (hz.i512 hv8) ?_
        refine w_iadd dX11_taken_46 rfl ?_
        refine w_istore_n [(1, .int (y1 + (zI σ 512 ((zR σ 707 0 0 0).1) (Int32.toNatClampNeg y2) 0))), (0, .ref (A 11 0 0)), (2, .int y2)] dX11_taken_47 rfl rfl (by decide) rfl ?_
        refine w_iinc 2 (y2 + 1) [(2, .int (y2 + 1)), (1, .int (y1 + (zI σ 512 ((zR σ 707 0 0 0).1) (Int32.toNatClampNeg y2) 0))), (0, .ref (A 11 0 0))] dX11_taken_48 rfl rfl rfl (by decide) rfl ?_
        refine w_goto 4 dX11_taken_51 rfl ?_
        refine w_lv [(0, .ref (A 11 0 0)), (1, .int (y1 + (zI σ 512 ((zR σ 707 0 0 0).1) (Int32.toNatClampNeg y2) 0))), (2, .int (y2 + 1))] [2, 1, 0] rfl ?_
        exact w_X11_taken_4 hf hrm   n (y1 + (zI σ 512 ((zR σ 707 0 0 0).1) (Int32.toNatClampNeg y2) 0)) (y2 + 1) _ _ hz  hr
set_option maxRecDepth 20000 in
set_option maxHeartbeats 4000000 in
theorem s_X11_taken {A : Nat → Nat → Nat → Nat} {h : Hp} {σ ρ σ' : Zs} {v : UInt64}   (hz : Rp A h σ ρ) (hr : fX11_taken  σ = some (v, σ')) : ∀ l : Launch, Sp l mX11_taken 0 0 0 [.ref (A 11 0 0)] h (QD A v σ' ρ) X0 := by
  intro l
  refine Sp.of rfl rfl (lv := [(0, .ref (A 11 0 0))]) (Nat.le_of_ble_eq_true rfl) rfl (fun x hf hrm => ?_)
  rw [fX11_taken.eq_1] at hr
  refine w_iconst 0 dX11_taken_0 rfl rfl ?_
  refine w_istore_n [(1, .int 0), (0, .ref (A 11 0 0))] dX11_taken_1 rfl rfl (by decide) rfl ?_
  refine w_iconst 0 dX11_taken_2 rfl rfl ?_
  refine w_istore_n [(2, .int 0), (1, .int 0), (0, .ref (A 11 0 0))] dX11_taken_3 rfl rfl (by decide) rfl ?_
  refine w_lv [(0, .ref (A 11 0 0)), (1, .int 0), (2, .int 0)] [2, 1, 0] rfl ?_
  exact w_X11_taken_4 hf hrm   FU 0 0 _ _ hz  hr

set_option maxRecDepth 20000 in
set_option maxHeartbeats 4000000 in
theorem t_X11_count {A : Nat → Nat → Nat → Nat} {h : Hp} {σ ρ σ' : Zs} {v : Int32} {x1 : Int32}  (hz : Rp A h σ ρ) (hr : fX11_count x1 σ = some (.ok v, σ')) : ∀ l : Launch, Sp l mX11_count 6 0 0 [.ref (A 11 0 0), .int x1] h (QI A v σ' ρ) X0 := by
  intro l
  refine Sp.of rfl rfl (lv := [(0, .ref (A 11 0 0)), (1, .int x1)]) (Nat.le_of_ble_eq_true rfl) rfl (fun x hf hrm => ?_)
  rw [fX11_count.eq_1] at hr
  refine w_iload_n 1 dX11_count_0 rfl rfl rfl ?_
  by_cases q1_0 : (x1 : Int32) = 0
  · have hr := bt q1_0 hr
    refine w_tableIn 40 dX11_count_1 (by rw [q1_0]; decide) (by rw [q1_0]; decide) (by rw [q1_0]; rfl) rfl ?_
    refine w_aload_n 0 dX11_count_40 rfl rfl rfl ?_
    have hv1 := hz.ww707 (p := 0) (s := 0) rfl
    refine g_X11_23 dX11_count_41 rfl (hz.o11 rfl) (hz.rr707 rfl) ?_
    refine g_X11_121 dX11_count_44 rfl (hz.o5 hv1) (hz.i321 hv1) ?_
    refine w_iret hf dX11_count_47 rfl (Nat.le_of_ble_eq_true rfl) (Nat.le_of_ble_eq_true rfl) ?_
    obtain ⟨rfl, rfl⟩ := ret_inj2 hr
    exact ⟨rfl, hz⟩
  have hr := bf q1_0 hr
  by_cases q1_1 : (x1 : Int32) = 1
  · have hr := bt q1_1 hr
    refine w_tableIn 48 dX11_count_1 (by rw [q1_1]; decide) (by rw [q1_1]; decide) (by rw [q1_1]; rfl) rfl ?_
    refine w_aload_n 0 dX11_count_48 rfl rfl rfl ?_
    have hv2 := hz.ww707 (p := 0) (s := 0) rfl
    refine g_X11_23 dX11_count_49 rfl (hz.o11 rfl) (hz.rr707 rfl) ?_
    refine g_X11_124 dX11_count_52 rfl (hz.o5 hv2) (hz.i323 hv2) ?_
    refine w_iret hf dX11_count_55 rfl (Nat.le_of_ble_eq_true rfl) (Nat.le_of_ble_eq_true rfl) ?_
    obtain ⟨rfl, rfl⟩ := ret_inj2 hr
    exact ⟨rfl, hz⟩
  have hr := bf q1_1 hr
  by_cases q1_2 : (x1 : Int32) = 2
  · have hr := bt q1_2 hr
    refine w_tableIn 56 dX11_count_1 (by rw [q1_2]; decide) (by rw [q1_2]; decide) (by rw [q1_2]; rfl) rfl ?_
    refine w_aload_n 0 dX11_count_56 rfl rfl rfl ?_
    refine g_X11_80 dX11_count_57 rfl (hz.o11 rfl) (hz.i705 rfl) ?_
    refine w_iret hf dX11_count_60 rfl (Nat.le_of_ble_eq_true rfl) (Nat.le_of_ble_eq_true rfl) ?_
    obtain ⟨rfl, rfl⟩ := ret_inj2 hr
    exact ⟨rfl, hz⟩
  have hr := bf q1_2 hr
  by_cases q1_3 : (x1 : Int32) = 3
  · have hr := bt q1_3 hr
    refine w_tableIn 61 dX11_count_1 (by rw [q1_3]; decide) (by rw [q1_3]; decide) (by rw [q1_3]; rfl) rfl ?_
    refine w_aload_n 0 dX11_count_61 rfl rfl rfl ?_
    refine g_X11_127 dX11_count_62 rfl (hz.o11 rfl) (hz.i716 rfl) ?_
    refine w_iret hf dX11_count_65 rfl (Nat.le_of_ble_eq_true rfl) (Nat.le_of_ble_eq_true rfl) ?_
    obtain ⟨rfl, rfl⟩ := ret_inj2 hr
    exact ⟨rfl, hz⟩
  have hr := bf q1_3 hr
  by_cases q1_4 : (x1 : Int32) = 4
  · have hr := bt q1_4 hr
    refine w_tableIn 66 dX11_count_1 (by rw [q1_4]; decide) (by rw [q1_4]; decide) (by rw [q1_4]; rfl) rfl ?_
    refine w_aload_n 0 dX11_count_66 rfl rfl rfl ?_
    refine g_X11_130 dX11_count_67 rfl (hz.o11 rfl) (hz.i718 rfl) ?_
    refine w_iret hf dX11_count_70 rfl (Nat.le_of_ble_eq_true rfl) (Nat.le_of_ble_eq_true rfl) ?_
    obtain ⟨rfl, rfl⟩ := ret_inj2 hr
    exact ⟨rfl, hz⟩
  have hr := bf q1_4 hr
  by_cases q1_5 : (x1 : Int32) = 5
  · have hr := bt q1_5 hr
    refine w_tableIn 71 dX11_count_1 (by rw [q1_5]; decide) (by rw [q1_5]; decide) (by rw [q1_5]; rfl) rfl ?_
    refine w_aload_n 0 dX11_count_71 rfl rfl rfl ?_
    refine g_X11_58 dX11_count_72 rfl (hz.o11 rfl) (hz.r713 rfl) ?_
    refine g_X11_133 dX11_count_75 rfl (hz.o1 rfl) (hz.i66 rfl) ?_
    refine w_iret hf dX11_count_78 rfl (Nat.le_of_ble_eq_true rfl) (Nat.le_of_ble_eq_true rfl) ?_
    obtain ⟨rfl, rfl⟩ := ret_inj2 hr
    exact ⟨rfl, hz⟩
  have hr := bf q1_5 hr
  refine w_tableOut 79 dX11_count_1 (tabout 0 5 (fun k h1 h2 => by
        intro e
        have h3 : k = 0 ∨ k = 1 ∨ k = 2 ∨ k = 3 ∨ k = 4 ∨ k = 5 := by omega
        rcases h3 with h3 | h3 | h3 | h3 | h3 | h3 <;> subst h3 <;> contradiction)) rfl ?_
  exact noerr hr

set_option maxRecDepth 20000 in
set_option maxHeartbeats 4000000 in
theorem u_X11_digest_126 {A : Nat → Nat → Nat → Nat} {ρ σ' : Zs} {v : Int64} {x : Cxt}   (hf : m_fin 0 0 (QJ A v σ' ρ) X0 x) (hrm : m_rm 7 0 0 x)  : ∀ (n : Nat) (y1 : Int64) (y3 : Int32) (σ : Zs) (h : Hp), Rp A h σ ρ → fX11_digest_126   n y1 y3 σ = some (.ok v, σ') → wp x mX11_digest 126 [(0, .ref (A 11 0 0)), (1, .long y1), (3, .int y3)] [] h 0 0
  | 0, _, _, σ, h => fun hz hr => by
    rw [fX11_digest_126.eq_1] at hr
    exact nono hr
  | n + 1, y1, y3, σ, h => fun hz hr => by
    rw [fX11_digest_126.eq_2] at hr
    refine w_iload_n 2 dX11_digest_126 rfl rfl rfl ?_
    refine w_aload_n 0 dX11_digest_127 rfl rfl rfl ?_
    refine g_X11_58 dX11_digest_128 rfl (hz.o11 rfl) (hz.r713 rfl) ?_
    refine g_X11_133 dX11_digest_131 rfl (hz.o1 rfl) (hz.i66 rfl) ?_
    refine w_icmp_ge 157 dX11_digest_134 rfl rfl (fun q134 => ?_) (fun q134 => ?_)
    · have hr := bt q134 hr
      refine w_lload_n 1 dX11_digest_157 rfl rfl rfl ?_
      refine w_lret hf dX11_digest_158 rfl (Nat.le_of_ble_eq_true rfl) (Nat.le_of_ble_eq_true rfl) ?_
      obtain ⟨rfl, rfl⟩ := ret_inj2 hr
      exact ⟨rfl, hz⟩
    · have hr := bf q134 hr
      refine w_aload_n 0 dX11_digest_137 rfl rfl rfl ?_
      refine g_X11_58 dX11_digest_138 rfl (hz.o11 rfl) (hz.r713 rfl) ?_
      refine g_X11_280 dX11_digest_141 rfl (hz.o1 rfl) (hz.r65 rfl) ?_
      refine w_iload_n 2 dX11_digest_144 rfl rfl rfl ?_
      obtain ⟨g2, hr⟩ := gd hr
      have hv3 := hz.we65 (gi_lt g2)
      refine w_aald 6 dX11_digest_145 rfl (by decide) (by decide) (fun _ => rfl) (hz.k65 rfl) (gin (hz.n65 rfl) g2) (hz.e65 (gi_lt g2)) ?_
      refine w_lload_n 1 dX11_digest_146 rfl rfl rfl ?_
      obtain ⟨v4, σ5, e6, hr⟩ := bq_some hr
      refine c_X11_284 (As := [.long y1]) (rest := []) (fun l => s_X6_mixedInto hv3 hz e6 l) hrm dX11_digest_147 rfl rfl (Nat.le_of_ble_eq_true rfl) (Nat.le_of_ble_eq_true rfl) (Nat.le_of_ble_eq_true rfl) (hz.o6 hv3) rfl (Nat.le_of_ble_eq_true rfl) (fun vr h2 hq => ?_) (fun E9 h9 hq => hq.elim)
      obtain ⟨rfl, hz⟩ := hq
      show wp _ _ 150 [(0, .ref (A 11 0 0)), (1, .long y1), (3, .int y3)] [.long v4] _ _ _
      refine w_lstore_n [(1, .long v4), (0, .ref (A 11 0 0)), (3, .int y3)] dX11_digest_150 rfl rfl (by decide) rfl ?_
      refine w_iinc 2 (y3 + 1) [(3, .int (y3 + 1)), (1, .long v4), (0, .ref (A 11 0 0))] dX11_digest_151 rfl rfl rfl (by decide) rfl ?_
      refine w_goto 126 dX11_digest_154 rfl ?_
      refine w_lv [(0, .ref (A 11 0 0)), (1, .long v4), (3, .int (y3 + 1))] [2, 1, 0] rfl ?_
      exact u_X11_digest_126 hf hrm   n v4 (y3 + 1) _ _ hz  hr
set_option maxRecDepth 20000 in
set_option maxHeartbeats 4000000 in
theorem u_X11_digest_70 {A : Nat → Nat → Nat → Nat} {ρ σ' : Zs} {v : Int64} {x : Cxt}   (hf : m_fin 0 0 (QJ A v σ' ρ) X0 x) (hrm : m_rm 7 0 0 x)  : ∀ (n : Nat) (y1 : Int64) (y3 : Int32) (σ : Zs) (h : Hp), Rp A h σ ρ → fX11_digest_70   n y1 y3 σ = some (.ok v, σ') → wp x mX11_digest 70 [(0, .ref (A 11 0 0)), (1, .long y1), (3, .int y3)] [] h 0 0
  | 0, _, _, σ, h => fun hz hr => by
    rw [fX11_digest_70.eq_1] at hr
    exact nono hr
  | n + 1, y1, y3, σ, h => fun hz hr => by
    rw [fX11_digest_70.eq_2] at hr
    refine w_iload_n 2 dX11_digest_70 rfl rfl rfl ?_
    refine w_aload_n 0 dX11_digest_71 rfl rfl rfl ?_
    have hv1 := hz.ww707 (p := 0) (s := 0) rfl
    refine g_X11_23 dX11_digest_72 rfl (hz.o11 rfl) (hz.rr707 rfl) ?_
    refine g_X11_121 dX11_digest_75 rfl (hz.o5 hv1) (hz.i321 hv1) ?_
    refine w_icmp_ge 124 dX11_digest_78 rfl rfl (fun q78 => ?_) (fun q78 => ?_)
    · have hr := bt q78 hr
      refine w_iconst 0 dX11_digest_124 rfl rfl ?_
      refine w_istore_n [(3, .int 0), (0, .ref (A 11 0 0)), (1, .long y1)] dX11_digest_125 rfl rfl (by decide) rfl ?_
      refine w_lv [(0, .ref (A 11 0 0)), (1, .long y1), (3, .int 0)] [1, 2, 0] rfl ?_
      exact u_X11_digest_126 hf hrm   FU y1 0 _ _ hz  hr
    · have hr := bf q78 hr
      refine w_lload_n 1 dX11_digest_81 rfl rfl rfl ?_
      refine w_ldc2 dX11_digest_82 rfl k_X11_272 ?_
      refine w_lmul dX11_digest_85 rfl ?_
      refine w_aload_n 0 dX11_digest_86 rfl rfl rfl ?_
      have hv8 := hz.ww707 (p := 0) (s := 0) rfl
      refine g_X11_23 dX11_digest_87 rfl (hz.o11 rfl) (hz.rr707 rfl) ?_
      refine g_X11_259 dX11_digest_90 rfl (hz.o5 hv8) (hz.r320 hv8) ?_
      refine w_iload_n 2 dX11_digest_93 rfl rfl rfl ?_
      obtain ⟨g9, hr⟩ := gd hr
      have hv10 := vdb_320 (p := (zR σ 707 0 0 0).1) hv8 (gi_lt g9)
      refine w_aald 7 dX11_digest_94 rfl (by decide) (by decide) (fun _ => rfl) (hz.k320 hv8) (gin (hz.n320 hv8) g9) (hz.e320 hv8 (gi_lt g9)) ?_
      refine g_X11_207 dX11_digest_95 rfl (hz.o7 hv10) (hz.i461 hv10) ?_
      refine w_i2l dX11_digest_98 rfl ?_
      refine w_ladd dX11_digest_99 rfl ?_
      refine w_lstore_n [(1, .long ((y1 * 31) + (((zI σ 461 ((zR σ 707 0 0 0).1) (Int32.toNatClampNeg y3) 0) : Int32).toInt64))), (0, .ref (A 11 0 0)), (3, .int y3)] dX11_digest_100 rfl rfl (by decide) rfl ?_
      refine w_aload_n 1 dX11_digest_101 rfl rfl rfl ?_
      have hv11 := hz.ww707 (p := 0) (s := 0) rfl
      refine g_X11_23 dX11_digest_102 rfl (hz.o11 rfl) (hz.rr707 rfl) ?_
      refine g_X11_259 dX11_digest_105 rfl (hz.o5 hv11) (hz.r320 hv11) ?_
      refine w_iload_n 2 dX11_digest_108 rfl rfl rfl ?_
      obtain ⟨g12, hr⟩ := gd hr
      have hv13 := vdb_320 (p := (zR σ 707 0 0 0).1) hv11 (gi_lt g12)
      refine w_aald 7 dX11_digest_109 rfl (by decide) (by decide) (fun _ => rfl) (hz.k320 hv11) (gin (hz.n320 hv11) g12) (hz.e320 hv11 (gi_lt g12)) ?_
      refine g_X11_189 dX11_digest_110 rfl (hz.o7 hv13) (hz.r460 hv13) ?_
      refine w_lload_n 0 dX11_digest_113 rfl rfl rfl ?_
      obtain ⟨v14, σ15, e16, hr⟩ := bq_some hr
      refine c_X11_276 (As := [.long ((y1 * 31) + (((zI σ 461 ((zR σ 707 0 0 0).1) (Int32.toNatClampNeg y3) 0) : Int32).toInt64))]) (rest := []) (fun l => s_X8_mixedInto hv13 hz e16 l) hrm dX11_digest_114 rfl rfl (Nat.le_of_ble_eq_true rfl) (Nat.le_of_ble_eq_true rfl) (Nat.le_of_ble_eq_true rfl) (hz.o8 hv13) rfl (Nat.le_of_ble_eq_true rfl) (fun vr h2 hq => ?_) (fun E9 h9 hq => hq.elim)
      obtain ⟨rfl, hz⟩ := hq
      show wp _ _ 117 [(1, .long ((y1 * 31) + (((zI σ 461 ((zR σ 707 0 0 0).1) (Int32.toNatClampNeg y3) 0) : Int32).toInt64))), (0, .ref (A 11 0 0)), (3, .int y3)] [.long v14] _ _ _
      refine w_lstore_n [(1, .long v14), (0, .ref (A 11 0 0)), (3, .int y3)] dX11_digest_117 rfl rfl (by decide) rfl ?_
      refine w_iinc 2 (y3 + 1) [(3, .int (y3 + 1)), (1, .long v14), (0, .ref (A 11 0 0))] dX11_digest_118 rfl rfl rfl (by decide) rfl ?_
      refine w_goto 70 dX11_digest_121 rfl ?_
      refine w_lv [(0, .ref (A 11 0 0)), (1, .long v14), (3, .int (y3 + 1))] [2, 1, 0] rfl ?_
      exact u_X11_digest_70 hf hrm   n v14 (y3 + 1) _ _ hz  hr
set_option maxRecDepth 20000 in
set_option maxHeartbeats 4000000 in
theorem u_X11_digest_50 {A : Nat → Nat → Nat → Nat} {ρ σ' : Zs} {v : Int64} {x : Cxt}   (hf : m_fin 0 0 (QJ A v σ' ρ) X0 x) (hrm : m_rm 7 0 0 x)  : ∀ (z0 : Int32) (z1 : Int64) (σ : Zs) (h : Hp), Rp A h σ ρ → fX11_digest_50   z0 z1 σ = some (.ok v, σ') → wp x mX11_digest 50 [(0, .ref (A 11 0 0))] [.int z0, .long z1] h 0 0 := by
  intro z0 z1 σ h hz hr
  rw [fX11_digest_50.eq_1] at hr
  refine w_i2l dX11_digest_50 rfl ?_
  refine w_ladd dX11_digest_51 rfl ?_
  refine w_lstore_n [(1, .long (z1 + ((z0 : Int32).toInt64))), (0, .ref (A 11 0 0))] dX11_digest_52 rfl rfl (by decide) rfl ?_
  refine w_lload_n 0 dX11_digest_53 rfl rfl rfl ?_
  refine w_ldc2 dX11_digest_54 rfl k_X11_272 ?_
  refine w_lmul dX11_digest_57 rfl ?_
  refine w_aload_n 1 dX11_digest_58 rfl rfl rfl ?_
  refine g_X11_58 dX11_digest_59 rfl (hz.o11 rfl) (hz.r713 rfl) ?_
  refine g_X11_253 dX11_digest_62 rfl (hz.o1 rfl) (hz.i67 rfl) ?_
  refine w_i2l dX11_digest_65 rfl ?_
  refine w_ladd dX11_digest_66 rfl ?_
  refine w_lstore_n [(1, .long (((z1 + ((z0 : Int32).toInt64)) * 31) + (((zI σ 67 0 0 0) : Int32).toInt64))), (0, .ref (A 11 0 0))] dX11_digest_67 rfl rfl (by decide) rfl ?_
  refine w_iconst 0 dX11_digest_68 rfl rfl ?_
  refine w_istore_n [(3, .int 0), (1, .long (((z1 + ((z0 : Int32).toInt64)) * 31) + (((zI σ 67 0 0 0) : Int32).toInt64))), (0, .ref (A 11 0 0))] dX11_digest_69 rfl rfl (by decide) rfl ?_
  refine w_lv [(0, .ref (A 11 0 0)), (1, .long (((z1 + ((z0 : Int32).toInt64)) * 31) + (((zI σ 67 0 0 0) : Int32).toInt64))), (3, .int 0)] [2, 1, 0] rfl ?_
  exact u_X11_digest_70 hf hrm   FU (((z1 + ((z0 : Int32).toInt64)) * 31) + (((zI σ 67 0 0 0) : Int32).toInt64)) 0 _ _ hz  hr
set_option maxRecDepth 20000 in
set_option maxHeartbeats 4000000 in
theorem u_X11_digest_6 {A : Nat → Nat → Nat → Nat} {ρ σ' : Zs} {v : Int64} {x : Cxt}   (hf : m_fin 0 0 (QJ A v σ' ρ) X0 x) (hrm : m_rm 7 0 0 x)  : ∀ (n : Nat) (y1 : Int64) (y3 : Int32) (σ : Zs) (h : Hp), Rp A h σ ρ → fX11_digest_6   n y1 y3 σ = some (.ok v, σ') → wp x mX11_digest 6 [(0, .ref (A 11 0 0)), (1, .long y1), (3, .int y3)] [] h 0 0
  | 0, _, _, σ, h => fun hz hr => by
    rw [fX11_digest_6.eq_1] at hr
    exact nono hr
  | n + 1, y1, y3, σ, h => fun hz hr => by
    rw [fX11_digest_6.eq_2] at hr
    refine w_iload_n 2 dX11_digest_6 rfl rfl rfl ?_
    refine w_iconst 5 dX11_digest_7 rfl rfl ?_
    refine w_icmp_gt 30 dX11_digest_8 rfl rfl (fun q8 => ?_) (fun q8 => ?_)
    · have hr := bt q8 hr
      refine w_lload_n 1 dX11_digest_30 rfl rfl rfl ?_
      refine w_ldc2 dX11_digest_31 rfl k_X11_272 ?_
      refine w_lmul dX11_digest_34 rfl ?_
      refine w_aload_n 0 dX11_digest_35 rfl rfl rfl ?_
      refine g_X11_58 dX11_digest_36 rfl (hz.o11 rfl) (hz.r713 rfl) ?_
      refine g_X11_160 dX11_digest_39 rfl (hz.o1 rfl) (hz.i68 rfl) ?_
      refine w_if_eq 49 dX11_digest_42 rfl rfl (fun q42 => ?_) (fun q42 => ?_)
      · have hr := bt q42 hr
        refine w_iconst 0 dX11_digest_49 rfl rfl ?_
        refine w_lv [(0, .ref (A 11 0 0))] [0] rfl ?_
        exact u_X11_digest_50 hf hrm   0 (y1 * 31) _ _ hz  hr
      · have hr := bf q42 hr
        refine w_iconst 1 dX11_digest_45 rfl rfl ?_
        refine w_goto 50 dX11_digest_46 rfl ?_
        refine w_lv [(0, .ref (A 11 0 0))] [0] rfl ?_
        exact u_X11_digest_50 hf hrm   1 (y1 * 31) _ _ hz  hr
    · have hr := bf q8 hr
      refine w_lload_n 1 dX11_digest_11 rfl rfl rfl ?_
      refine w_ldc2 dX11_digest_12 rfl k_X11_272 ?_
      refine w_lmul dX11_digest_15 rfl ?_
      refine w_aload_n 0 dX11_digest_16 rfl rfl rfl ?_
      refine w_iload_n 2 dX11_digest_17 rfl rfl rfl ?_
      obtain ⟨v18, σ19, e20, hr⟩ := bx_some hr
      rcases v18 with w22e | w22
      · exact noerr (bx_er hr)
      have hr := bx_ok hr
      refine c_X11_274 (As := [.int y3]) (rest := [.long (y1 * 31)]) (fun l => t_X11_count  hz e20 l) hrm dX11_digest_18 rfl rfl (Nat.le_of_ble_eq_true rfl) (Nat.le_of_ble_eq_true rfl) (Nat.le_of_ble_eq_true rfl) (hz.o11 rfl) rfl (Nat.le_of_ble_eq_true rfl) (fun vr h2 hq => ?_) (fun E9 h9 hq => hq.elim)
      obtain ⟨rfl, hz⟩ := hq
      show wp _ _ 21 [(0, .ref (A 11 0 0)), (1, .long y1), (3, .int y3)] [.int w22, .long (y1 * 31)] _ _ _
      refine w_i2l dX11_digest_21 rfl ?_
      refine w_ladd dX11_digest_22 rfl ?_
      refine w_lstore_n [(1, .long ((y1 * 31) + ((w22 : Int32).toInt64))), (0, .ref (A 11 0 0)), (3, .int y3)] dX11_digest_23 rfl rfl (by decide) rfl ?_
      refine w_iinc 2 (y3 + 1) [(3, .int (y3 + 1)), (1, .long ((y1 * 31) + ((w22 : Int32).toInt64))), (0, .ref (A 11 0 0))] dX11_digest_24 rfl rfl rfl (by decide) rfl ?_
      refine w_goto 6 dX11_digest_27 rfl ?_
      refine w_lv [(0, .ref (A 11 0 0)), (1, .long ((y1 * 31) + ((w22 : Int32).toInt64))), (3, .int (y3 + 1))] [2, 1, 0] rfl ?_
      exact u_X11_digest_6 hf hrm   n ((y1 * 31) + ((w22 : Int32).toInt64)) (y3 + 1) _ _ hz  hr
set_option maxRecDepth 20000 in
set_option maxHeartbeats 4000000 in
theorem t_X11_digest {A : Nat → Nat → Nat → Nat} {h : Hp} {σ ρ σ' : Zs} {v : Int64}   (hz : Rp A h σ ρ) (hr : fX11_digest  σ = some (.ok v, σ')) : ∀ l : Launch, Sp l mX11_digest 7 0 0 [.ref (A 11 0 0)] h (QJ A v σ' ρ) X0 := by
  intro l
  refine Sp.of rfl rfl (lv := [(0, .ref (A 11 0 0))]) (Nat.le_of_ble_eq_true rfl) rfl (fun x hf hrm => ?_)
  rw [fX11_digest.eq_1] at hr
  refine w_ldc2 dX11_digest_0 rfl k_X11_270 ?_
  refine w_lstore_n [(1, .long 281), (0, .ref (A 11 0 0))] dX11_digest_3 rfl rfl (by decide) rfl ?_
  refine w_iconst 0 dX11_digest_4 rfl rfl ?_
  refine w_istore_n [(3, .int 0), (1, .long 281), (0, .ref (A 11 0 0))] dX11_digest_5 rfl rfl (by decide) rfl ?_
  refine w_lv [(0, .ref (A 11 0 0)), (1, .long 281), (3, .int 0)] [2, 1, 0] rfl ?_
  exact u_X11_digest_6 hf hrm   FU 281 0 _ _ hz  hr

