/-! LIFTED: 27.tokens -/
noncomputable def fX11_isLetter (x0 : Int32) (σ : Zs) : Option (Int32 × Zs) :=
  if x0 < 97 then (some (0, σ)) else (if 122 < x0 then (some (0, σ)) else (some (1, σ)))

noncomputable def fX11_isDigit (x0 : Int32) (σ : Zs) : Option (Int32 × Zs) :=
  if x0 < 48 then (some (0, σ)) else (if 57 < x0 then (some (0, σ)) else (some (1, σ)))

noncomputable def fX11_isWordByte (x0 : Int32) (σ : Zs) : Option (Int32 × Zs) :=
  bq (fX11_isLetter x0 σ) fun v1 σ2 => if v1 = 0 then (bq (fX11_isDigit x0 σ2) fun v5 σ6 => if v5 = 0 then (some (0, σ6)) else (some (1, σ6))) else (some (1, σ2))

noncomputable def fX9_addToken (x1 : Int32) (x2 : Int32) (x3 : Int64) (σ : Zs) : Option (Unit × Zs) :=
  if 1501 ≤ (zI σ 580 0 0 0) then (some ((), σ)) else (if gi (zI σ 580 0 0 0) 1501 then lt (sI σ 1600 0 0 (Int32.toNatClampNeg (zI σ 580 0 0 0)) x1) fun σ2 => if gi (zI σ2 580 0 0 0) 1501 then lt (sI σ2 1601 0 0 (Int32.toNatClampNeg (zI σ2 580 0 0 0)) x2) fun σ5 => if gi (zI σ5 580 0 0 0) 1501 then lt (sJ σ5 1602 0 0 (Int32.toNatClampNeg (zI σ5 580 0 0 0)) x3) fun σ8 => lt (sI σ8 580 0 0 0 ((zI σ8 580 0 0 0) + 1)) fun σ10 => some ((), σ10) else none else none else none)

noncomputable def fX9_scanWord_47 (x2 : Int32) (x3 : Int32)  : Nat → Int32 → Int64 → Int32 → Int32 → Zs → Option (Int32 × Zs)
  | 0, _, _, _, _, _ => none
  | n + 1, y4, y5, y7, y8, σ =>
    if 32 ≤ y8 then (if ((y4 - x3) : Int32) ≤ 8 then (bq (fX9_addToken y7 x3 y5 σ) fun v1 σ2 => some (y4, σ2)) else (bq (fX9_addToken 1 x3 y5 σ) fun v5 σ6 => some (y4, σ6))) else (if gi y8 32 then if ((lg_cmp (zJ σ 1603 0 0 (Int32.toNatClampNeg y8)) y5) : Int32) = 0 then (fX9_scanWord_47 x2 x3  n y4 y5 (128 + y8) (y8 + 1) σ) else (fX9_scanWord_47 x2 x3  n y4 y5 y7 (y8 + 1) σ) else none)
noncomputable def fX9_scanWord_6 (x2 : Int32) (x3 : Int32)  : Nat → Int32 → Int64 → Zs → Option (Int32 × Zs)
  | 0, _, _, _ => none
  | n + 1, y4, y5, σ =>
    if x2 ≤ y4 then (fX9_scanWord_47 x2 x3  FU y4 y5 2 0 σ) else (if gi y4 1500 then bq (fX11_isWordByte (zI σ 1728 0 0 (Int32.toNatClampNeg y4)) σ) fun v11 σ12 => if v11 = 0 then (fX9_scanWord_47 x2 x3  FU y4 y5 2 0 σ12) else (if gi y4 1500 then fX9_scanWord_6 x2 x3  n (y4 + 1) ((y5 <<< ((8 : Int32).toInt64 &&& 63)) ||| (((zI σ12 1728 0 0 (Int32.toNatClampNeg y4)) : Int32).toInt64)) σ12 else none) else none)
noncomputable def fX9_scanWord (x2 : Int32) (x3 : Int32) (σ : Zs) : Option (Int32 × Zs) :=
  fX9_scanWord_6 x2 x3  FU x3 0 σ

noncomputable def fX9_scanNumber_45 (x2 : Int32) (x3 : Int32)  (y4 : Int32) (y5 : Int64) (σ : Zs) : Option (Int32 × Zs) :=
  if ((y4 - x3) : Int32) ≤ 9 then (bq (fX9_addToken 3 x3 y5 σ) fun v1 σ2 => some (y4, σ2)) else (bq (fX9_addToken 1 x3 y5 σ) fun v5 σ6 => some (y4, σ6))
noncomputable def fX9_scanNumber_6 (x2 : Int32) (x3 : Int32)  : Nat → Int32 → Int64 → Zs → Option (Int32 × Zs)
  | 0, _, _, _ => none
  | n + 1, y4, y5, σ =>
    if x2 ≤ y4 then (fX9_scanNumber_45 x2 x3  y4 y5 σ) else (if gi y4 1500 then bq (fX11_isDigit (zI σ 1728 0 0 (Int32.toNatClampNeg y4)) σ) fun v10 σ11 => if v10 = 0 then (fX9_scanNumber_45 x2 x3  y4 y5 σ11) else (if gi y4 1500 then fX9_scanNumber_6 x2 x3  n (y4 + 1) ((y5 * 10) + ((((zI σ11 1728 0 0 (Int32.toNatClampNeg y4)) - 48) : Int32).toInt64)) σ11 else none) else none)
noncomputable def fX9_scanNumber (x2 : Int32) (x3 : Int32) (σ : Zs) : Option (Int32 × Zs) :=
  fX9_scanNumber_6 x2 x3  FU x3 0 σ

noncomputable def fX9_scanToken_63 (x2 : Int32) (x3 : Int32)  (y4 : Int32) (z0 : Int32) (σ : Zs) : Option (Int32 × Zs) :=
  if (((y4 * 256) + z0) : Int32) = 15421 then (bq (fX9_addToken ((y4 * 256) + z0) x3 0 σ) fun v12 σ13 => some ((x3 + 2), σ13)) else (if (((y4 * 256) + z0) : Int32) = 15933 then (bq (fX9_addToken ((y4 * 256) + z0) x3 0 σ) fun v16 σ17 => some ((x3 + 2), σ17)) else (if (((y4 * 256) + z0) : Int32) = 15422 then (bq (fX9_addToken ((y4 * 256) + z0) x3 0 σ) fun v28 σ29 => some ((x3 + 2), σ29)) else (if ((tx_ix 1 (((y4 : Int32).toUInt32 % 65536).toInt32)) : Int32) < 0 then (bq (fX9_addToken 1 x3 0 σ) fun v20 σ21 => some ((x3 + 1), σ21)) else (bq (fX9_addToken y4 x3 0 σ) fun v24 σ25 => some ((x3 + 1), σ25)))))
noncomputable def fX9_scanToken (x2 : Int32) (x3 : Int32) (σ : Zs) : Option (Int32 × Zs) :=
  if gi x3 1500 then bq (fX11_isLetter (zI σ 1728 0 0 (Int32.toNatClampNeg x3)) σ) fun v2 σ3 => if v2 = 0 then (if gi x3 1500 then bq (fX11_isDigit (zI σ3 1728 0 0 (Int32.toNatClampNeg x3)) σ3) fun v7 σ8 => if v7 = 0 then (if gi x3 1500 then if x2 ≤ ((x3 + 1) : Int32) then (fX9_scanToken_63 x2 x3  ((zI σ8 1728 0 0 (Int32.toNatClampNeg x3)) &&& 255) 0 σ8) else (if gi (x3 + 1) 1500 then fX9_scanToken_63 x2 x3  ((zI σ8 1728 0 0 (Int32.toNatClampNeg x3)) &&& 255) ((zI σ8 1728 0 0 (Int32.toNatClampNeg (x3 + 1))) &&& 255) σ8 else none) else none) else (bq (fX9_scanNumber x2 x3 σ8) fun v33 σ34 => some (v33, σ34)) else none) else (bq (fX9_scanWord x2 x3 σ3) fun v37 σ38 => some (v37, σ38)) else none

noncomputable def fX9_scan_18 (x2 : Int32)  : Nat → Int32 → Int32 → Int32 → Zs → Option (Unit × Zs)
  | 0, _, _, _, _ => none
  | n + 1, y3, y4, y5, σ =>
    if y3 ≤ y5 then (bq (fX9_addToken 0 y3 0 σ) fun v3 σ4 => some ((), σ4)) else (if y5 < y4 then (fX9_scan_18 x2  n y3 y4 (y5 + 1) σ) else (if gi y5 1500 then if (zI σ 1728 0 0 (Int32.toNatClampNeg y5)) = 32 then (fX9_scan_18 x2  n y3 y4 (y5 + 1) σ) else (if gi y5 1500 then if (zI σ 1728 0 0 (Int32.toNatClampNeg y5)) = 10 then (fX9_scan_18 x2  n y3 y4 (y5 + 1) σ) else (bq (fX9_scanToken y3 y5 σ) fun v9 σ10 => fX9_scan_18 x2  n y3 v9 (y5 + 1) σ10) else none) else none))
noncomputable def fX9_scan (x2 : Int32) (σ : Zs) : Option (Unit × Zs) :=
  lt (sI σ 580 0 0 0 0) fun σ1 => fX9_scan_18 x2  FU (p_min x2 1500) 0 0 σ1

set_option maxRecDepth 20000 in
set_option maxHeartbeats 4000000 in
theorem s_X11_isLetter {A : Nat → Nat → Nat → Nat} {h : Hp} {σ ρ σ' : Zs} {v : Int32} {x0 : Int32}  (hz : Rp A h σ ρ) (hr : fX11_isLetter x0 σ = some (v, σ')) : ∀ l : Launch, Sp l mX11_isLetter 0 0 0 [.int x0] h (QI A v σ' ρ) X0 := by
  intro l
  refine Sp.of rfl rfl (lv := [(0, .int x0)]) (Nat.le_of_ble_eq_true rfl) rfl (fun x hf hrm => ?_)
  rw [fX11_isLetter.eq_1] at hr
  refine w_iload_n 0 dX11_isLetter_0 rfl rfl rfl ?_
  refine w_bipush 97 dX11_isLetter_1 rfl rfl ?_
  refine w_icmp_lt 16 dX11_isLetter_3 rfl rfl (fun q3 => ?_) (fun q3 => ?_)
  · have hr := bt q3 hr
    refine w_iconst 0 dX11_isLetter_16 rfl rfl ?_
    refine w_zret hf dX11_isLetter_17 rfl rfl (Nat.le_of_ble_eq_true rfl) (Nat.le_of_ble_eq_true rfl) ?_
    obtain ⟨rfl, rfl⟩ := ret_inj hr
    exact ⟨rfl, hz⟩
  · have hr := bf q3 hr
    refine w_iload_n 0 dX11_isLetter_6 rfl rfl rfl ?_
    refine w_bipush 122 dX11_isLetter_7 rfl rfl ?_
    refine w_icmp_gt 16 dX11_isLetter_9 rfl rfl (fun q9 => ?_) (fun q9 => ?_)
    · have hr := bt q9 hr
      refine w_iconst 0 dX11_isLetter_16 rfl rfl ?_
      refine w_zret hf dX11_isLetter_17 rfl rfl (Nat.le_of_ble_eq_true rfl) (Nat.le_of_ble_eq_true rfl) ?_
      obtain ⟨rfl, rfl⟩ := ret_inj hr
      exact ⟨rfl, hz⟩
    · have hr := bf q9 hr
      refine w_iconst 1 dX11_isLetter_12 rfl rfl ?_
      refine w_goto 17 dX11_isLetter_13 rfl ?_
      refine w_zret hf dX11_isLetter_17 rfl rfl (Nat.le_of_ble_eq_true rfl) (Nat.le_of_ble_eq_true rfl) ?_
      obtain ⟨rfl, rfl⟩ := ret_inj hr
      exact ⟨rfl, hz⟩

set_option maxRecDepth 20000 in
set_option maxHeartbeats 4000000 in
theorem s_X11_isDigit {A : Nat → Nat → Nat → Nat} {h : Hp} {σ ρ σ' : Zs} {v : Int32} {x0 : Int32}  (hz : Rp A h σ ρ) (hr : fX11_isDigit x0 σ = some (v, σ')) : ∀ l : Launch, Sp l mX11_isDigit 0 0 0 [.int x0] h (QI A v σ' ρ) X0 := by
  intro l
  refine Sp.of rfl rfl (lv := [(0, .int x0)]) (Nat.le_of_ble_eq_true rfl) rfl (fun x hf hrm => ?_)
  rw [fX11_isDigit.eq_1] at hr
  refine w_iload_n 0 dX11_isDigit_0 rfl rfl rfl ?_
  refine w_bipush 48 dX11_isDigit_1 rfl rfl ?_
  refine w_icmp_lt 16 dX11_isDigit_3 rfl rfl (fun q3 => ?_) (fun q3 => ?_)
  · have hr := bt q3 hr
    refine w_iconst 0 dX11_isDigit_16 rfl rfl ?_
    refine w_zret hf dX11_isDigit_17 rfl rfl (Nat.le_of_ble_eq_true rfl) (Nat.le_of_ble_eq_true rfl) ?_
    obtain ⟨rfl, rfl⟩ := ret_inj hr
    exact ⟨rfl, hz⟩
  · have hr := bf q3 hr
    refine w_iload_n 0 dX11_isDigit_6 rfl rfl rfl ?_
    refine w_bipush 57 dX11_isDigit_7 rfl rfl ?_
    refine w_icmp_gt 16 dX11_isDigit_9 rfl rfl (fun q9 => ?_) (fun q9 => ?_)
    · have hr := bt q9 hr
      refine w_iconst 0 dX11_isDigit_16 rfl rfl ?_
      refine w_zret hf dX11_isDigit_17 rfl rfl (Nat.le_of_ble_eq_true rfl) (Nat.le_of_ble_eq_true rfl) ?_
      obtain ⟨rfl, rfl⟩ := ret_inj hr
      exact ⟨rfl, hz⟩
    · have hr := bf q9 hr
      refine w_iconst 1 dX11_isDigit_12 rfl rfl ?_
      refine w_goto 17 dX11_isDigit_13 rfl ?_
      refine w_zret hf dX11_isDigit_17 rfl rfl (Nat.le_of_ble_eq_true rfl) (Nat.le_of_ble_eq_true rfl) ?_
      obtain ⟨rfl, rfl⟩ := ret_inj hr
      exact ⟨rfl, hz⟩

set_option maxRecDepth 20000 in
set_option maxHeartbeats 4000000 in
theorem s_X11_isWordByte {A : Nat → Nat → Nat → Nat} {h : Hp} {σ ρ σ' : Zs} {v : Int32} {x0 : Int32}  (hz : Rp A h σ ρ) (hr : fX11_isWordByte x0 σ = some (v, σ')) : ∀ l : Launch, Sp l mX11_isWordByte 1 0 0 [.int x0] h (QI A v σ' ρ) X0 := by
  intro l
  refine Sp.of rfl rfl (lv := [(0, .int x0)]) (Nat.le_of_ble_eq_true rfl) rfl (fun x hf hrm => ?_)
  rw [fX11_isWordByte.eq_1] at hr
  refine w_iload_n 0 dX11_isWordByte_0 rfl rfl rfl ?_
  obtain ⟨v1, σ2, e3, hr⟩ := bq_some hr
  refine c_X11_301 (b := 0) (As := [.int x0]) (rest := []) (fun l => s_X11_isLetter  hz e3 l) hrm dX11_isWordByte_1 rfl rfl (Nat.le_of_ble_eq_true rfl) (Nat.le_of_ble_eq_true rfl) (Nat.le_of_ble_eq_true rfl) rfl (Nat.le_of_ble_eq_true rfl) (fun vr h2 hq => ?_) (fun E9 h9 hq => hq.elim)
  obtain ⟨rfl, hz⟩ := hq
  show wp _ _ 4 [(0, .int x0)] [.int v1] _ _ _
  refine w_if_ne 14 dX11_isWordByte_4 rfl rfl (fun q4 => ?_) (fun q4 => ?_)
  · have hr := bf q4 hr
    refine w_iconst 1 dX11_isWordByte_14 rfl rfl ?_
    refine w_goto 19 dX11_isWordByte_15 rfl ?_
    refine w_zret hf dX11_isWordByte_19 rfl rfl (Nat.le_of_ble_eq_true rfl) (Nat.le_of_ble_eq_true rfl) ?_
    obtain ⟨rfl, rfl⟩ := ret_inj hr
    exact ⟨rfl, hz⟩
  · have hr := bt q4 hr
    refine w_iload_n 0 dX11_isWordByte_7 rfl rfl rfl ?_
    obtain ⟨v5, σ6, e7, hr⟩ := bq_some hr
    refine c_X11_304 (b := 0) (As := [.int x0]) (rest := []) (fun l => s_X11_isDigit  hz e7 l) hrm dX11_isWordByte_8 rfl rfl (Nat.le_of_ble_eq_true rfl) (Nat.le_of_ble_eq_true rfl) (Nat.le_of_ble_eq_true rfl) rfl (Nat.le_of_ble_eq_true rfl) (fun vr h2 hq => ?_) (fun E9 h9 hq => hq.elim)
    obtain ⟨rfl, hz⟩ := hq
    show wp _ _ 11 [(0, .int x0)] [.int v5] _ _ _
    refine w_if_eq 18 dX11_isWordByte_11 rfl rfl (fun q11 => ?_) (fun q11 => ?_)
    · have hr := bt q11 hr
      refine w_iconst 0 dX11_isWordByte_18 rfl rfl ?_
      refine w_zret hf dX11_isWordByte_19 rfl rfl (Nat.le_of_ble_eq_true rfl) (Nat.le_of_ble_eq_true rfl) ?_
      obtain ⟨rfl, rfl⟩ := ret_inj hr
      exact ⟨rfl, hz⟩
    · have hr := bf q11 hr
      refine w_iconst 1 dX11_isWordByte_14 rfl rfl ?_
      refine w_goto 19 dX11_isWordByte_15 rfl ?_
      refine w_zret hf dX11_isWordByte_19 rfl rfl (Nat.le_of_ble_eq_true rfl) (Nat.le_of_ble_eq_true rfl) ?_
      obtain ⟨rfl, rfl⟩ := ret_inj hr
      exact ⟨rfl, hz⟩

set_option maxRecDepth 20000 in
set_option maxHeartbeats 4000000 in
theorem s_X9_addToken {A : Nat → Nat → Nat → Nat} {h : Hp} {σ ρ σ' : Zs} {v : Unit} {x1 : Int32} {x2 : Int32} {x3 : Int64}  (hz : Rp A h σ ρ) (hr : fX9_addToken x1 x2 x3 σ = some (v, σ')) : ∀ l : Launch, Sp l mX9_addToken 0 0 0 [.ref (A 9 0 0), .int x1, .int x2, .long x3] h (QV A v σ' ρ) X0 := by
  intro l
  refine Sp.of rfl rfl (lv := [(0, .ref (A 9 0 0)), (1, .int x1), (2, .int x2), (3, .long x3)]) (Nat.le_of_ble_eq_true rfl) rfl (fun x hf hrm => ?_)
  rw [fX9_addToken.eq_1] at hr
  refine w_aload_n 0 dX9_addToken_0 rfl rfl rfl ?_
  refine g_X9_37 dX9_addToken_1 rfl (hz.o9 rfl) (hz.i580 rfl) ?_
  refine w_aload_n 0 dX9_addToken_4 rfl rfl rfl ?_
  refine g_X9_9 dX9_addToken_5 rfl (hz.o9 rfl) (hz.r576 rfl) ?_
  refine w_alen 0 dX9_addToken_8 rfl (by decide) (by decide) (fun _ => rfl) (hz.k576 rfl) (v := 1501) (by rw [hz.n576 rfl]; rfl) ?_
  refine w_icmp_ge 52 dX9_addToken_9 rfl rfl (fun q9 => ?_) (fun q9 => ?_)
  · have hr := bt q9 hr
    refine w_vret hf dX9_addToken_52 rfl (Nat.le_of_ble_eq_true rfl) (Nat.le_of_ble_eq_true rfl) ?_
    obtain ⟨rfl, rfl⟩ := ret_inj hr
    exact ⟨rfl, hz⟩
  · have hr := bf q9 hr
    refine w_aload_n 0 dX9_addToken_12 rfl rfl rfl ?_
    refine g_X9_9 dX9_addToken_13 rfl (hz.o9 rfl) (hz.r576 rfl) ?_
    refine w_aload_n 0 dX9_addToken_16 rfl rfl rfl ?_
    refine g_X9_37 dX9_addToken_17 rfl (hz.o9 rfl) (hz.i580 rfl) ?_
    refine w_iload_n 1 dX9_addToken_20 rfl rfl rfl ?_
    obtain ⟨g1, hr⟩ := gd hr
    refine w_iast dX9_addToken_21 rfl (hz.k576 rfl) (gin (hz.n576 rfl) g1) ?_
    obtain ⟨σ2, e3, hr⟩ := lt_e hr
    have hz := (hz.s576 (i := (Int32.toNatClampNeg (zI σ 580 0 0 0))) (v := x1) rfl).ts e3
    refine w_aload_n 0 dX9_addToken_22 rfl rfl rfl ?_
    refine g_X9_15 dX9_addToken_23 rfl (hz.o9 rfl) (hz.r577 rfl) ?_
    refine w_aload_n 0 dX9_addToken_26 rfl rfl rfl ?_
    refine g_X9_37 dX9_addToken_27 rfl (hz.o9 rfl) (hz.i580 rfl) ?_
    refine w_iload_n 2 dX9_addToken_30 rfl rfl rfl ?_
    obtain ⟨g4, hr⟩ := gd hr
    refine w_iast dX9_addToken_31 rfl (hz.k577 rfl) (gin (hz.n577 rfl) g4) ?_
    obtain ⟨σ5, e6, hr⟩ := lt_e hr
    have hz := (hz.s577 (i := (Int32.toNatClampNeg (zI σ2 580 0 0 0))) (v := x2) rfl).ts e6
    refine w_aload_n 0 dX9_addToken_32 rfl rfl rfl ?_
    refine g_X9_18 dX9_addToken_33 rfl (hz.o9 rfl) (hz.r578 rfl) ?_
    refine w_aload_n 0 dX9_addToken_36 rfl rfl rfl ?_
    refine g_X9_37 dX9_addToken_37 rfl (hz.o9 rfl) (hz.i580 rfl) ?_
    refine w_lload_n 3 dX9_addToken_40 rfl rfl rfl ?_
    obtain ⟨g7, hr⟩ := gd hr
    refine w_last dX9_addToken_41 rfl (hz.k578 rfl) (gin (hz.n578 rfl) g7) ?_
    obtain ⟨σ8, e9, hr⟩ := lt_e hr
    have hz := (hz.s578 (i := (Int32.toNatClampNeg (zI σ5 580 0 0 0))) (v := x3) rfl).ts e9
    refine w_aload_n 0 dX9_addToken_42 rfl rfl rfl ?_
    refine w_dup dX9_addToken_43 rfl rfl ?_
    refine g_X9_37 dX9_addToken_44 rfl (hz.o9 rfl) (hz.i580 rfl) ?_
    refine w_iconst 1 dX9_addToken_47 rfl rfl ?_
    refine w_iadd dX9_addToken_48 rfl ?_
    refine p_X9_37 dX9_addToken_49 rfl (hz.o9 rfl) ?_
    obtain ⟨σ10, e11, hr⟩ := lt_e hr
    have hz := (hz.s580 (v := ((zI σ8 580 0 0 0) + 1)) rfl).ts e11
    refine w_vret hf dX9_addToken_52 rfl (Nat.le_of_ble_eq_true rfl) (Nat.le_of_ble_eq_true rfl) ?_
    obtain ⟨rfl, rfl⟩ := ret_inj hr
    exact ⟨rfl, hz⟩

set_option maxRecDepth 20000 in
set_option maxHeartbeats 4000000 in
theorem w_X9_scanWord_47 {A : Nat → Nat → Nat → Nat} {ρ σ' : Zs} {v : Int32} {x : Cxt} {x2 : Int32} {x3 : Int32}  (hf : m_fin 0 0 (QI A v σ' ρ) X0 x) (hrm : m_rm 2 0 0 x)  : ∀ (n : Nat) (y4 : Int32) (y5 : Int64) (y7 : Int32) (y8 : Int32) (σ : Zs) (h : Hp), Rp A h σ ρ → fX9_scanWord_47 x2 x3  n y4 y5 y7 y8 σ = some (v, σ') → wp x mX9_scanWord 47 [(0, .ref (A 9 0 0)), (1, .ref (A 1728 0 0)), (2, .int x2), (3, .int x3), (4, .int y4), (5, .long y5), (7, .int y7), (8, .int y8)] [] h 0 0
  | 0, _, _, _, _, σ, h => fun hz hr => by
    rw [fX9_scanWord_47.eq_1] at hr
    exact nono hr
  | n + 1, y4, y5, y7, y8, σ, h => fun hz hr => by
    rw [fX9_scanWord_47.eq_2] at hr
    refine w_iload 7 dX9_scanWord_47 rfl rfl ?_
    refine w_aload_n 0 dX9_scanWord_49 rfl rfl rfl ?_
    refine g_X9_22 dX9_scanWord_50 rfl (hz.o9 rfl) (hz.r579 rfl) ?_
    refine w_alen 1 dX9_scanWord_53 rfl (by decide) (by decide) (fun _ => rfl) (hz.k579 rfl) (v := 32) (by rw [hz.n579 rfl]; rfl) ?_
    refine w_icmp_ge 84 dX9_scanWord_54 rfl rfl (fun q54 => ?_) (fun q54 => ?_)
    · have hr := bt q54 hr
      refine w_aload_n 0 dX9_scanWord_84 rfl rfl rfl ?_
      refine w_iload 4 dX9_scanWord_85 rfl rfl ?_
      refine w_iload_n 3 dX9_scanWord_87 rfl rfl rfl ?_
      refine w_isub dX9_scanWord_88 rfl ?_
      refine w_bipush 8 dX9_scanWord_89 rfl rfl ?_
      refine w_icmp_le 98 dX9_scanWord_91 rfl rfl (fun q91 => ?_) (fun q91 => ?_)
      · have hr := bt q91 hr
        refine w_iload 6 dX9_scanWord_98 rfl rfl ?_
        refine w_iload_n 3 dX9_scanWord_100 rfl rfl rfl ?_
        refine w_lload 5 dX9_scanWord_101 rfl rfl ?_
        obtain ⟨v1, σ2, e3, hr⟩ := bq_some hr
        refine c_X9_51 (As := [.int y7, .int x3, .long y5]) (rest := []) (fun l => s_X9_addToken  hz e3 l) hrm dX9_scanWord_103 rfl rfl (Nat.le_of_ble_eq_true rfl) (Nat.le_of_ble_eq_true rfl) (Nat.le_of_ble_eq_true rfl) (hz.o9 rfl) rfl (Nat.le_of_ble_eq_true rfl) (fun vr h2 hq => ?_) (fun E9 h9 hq => hq.elim)
        obtain ⟨rfl, hz⟩ := hq
        show wp _ _ 106 [(0, .ref (A 9 0 0)), (1, .ref (A 1728 0 0)), (2, .int x2), (3, .int x3), (4, .int y4), (5, .long y5), (7, .int y7), (8, .int y8)] [] _ _ _
        refine w_iload 4 dX9_scanWord_106 rfl rfl ?_
        refine w_iret hf dX9_scanWord_108 rfl (Nat.le_of_ble_eq_true rfl) (Nat.le_of_ble_eq_true rfl) ?_
        obtain ⟨rfl, rfl⟩ := ret_inj hr
        exact ⟨rfl, hz⟩
      · have hr := bf q91 hr
        refine w_iconst 1 dX9_scanWord_94 rfl rfl ?_
        refine w_goto 100 dX9_scanWord_95 rfl ?_
        refine w_iload_n 3 dX9_scanWord_100 rfl rfl rfl ?_
        refine w_lload 5 dX9_scanWord_101 rfl rfl ?_
        obtain ⟨v5, σ6, e7, hr⟩ := bq_some hr
        refine c_X9_51 (As := [.int 1, .int x3, .long y5]) (rest := []) (fun l => s_X9_addToken  hz e7 l) hrm dX9_scanWord_103 rfl rfl (Nat.le_of_ble_eq_true rfl) (Nat.le_of_ble_eq_true rfl) (Nat.le_of_ble_eq_true rfl) (hz.o9 rfl) rfl (Nat.le_of_ble_eq_true rfl) (fun vr h2 hq => ?_) (fun E9 h9 hq => hq.elim)
        obtain ⟨rfl, hz⟩ := hq
        show wp _ _ 106 [(0, .ref (A 9 0 0)), (1, .ref (A 1728 0 0)), (2, .int x2), (3, .int x3), (4, .int y4), (5, .long y5), (7, .int y7), (8, .int y8)] [] _ _ _
        refine w_iload 4 dX9_scanWord_106 rfl rfl ?_
        refine w_iret hf dX9_scanWord_108 rfl (Nat.le_of_ble_eq_true rfl) (Nat.le_of_ble_eq_true rfl) ?_
        obtain ⟨rfl, rfl⟩ := ret_inj hr
        exact ⟨rfl, hz⟩
    · have hr := bf q54 hr
      refine w_aload_n 0 dX9_scanWord_57 rfl rfl rfl ?_
      refine g_X9_22 dX9_scanWord_58 rfl (hz.o9 rfl) (hz.r579 rfl) ?_
      refine w_iload 7 dX9_scanWord_61 rfl rfl ?_
      obtain ⟨g9, hr⟩ := gd hr
      refine w_lald dX9_scanWord_63 rfl (hz.k579 rfl) (gin (hz.n579 rfl) g9) (hz.x579 rfl) ?_
      refine w_lload 5 dX9_scanWord_64 rfl rfl ?_
      refine w_lcmp dX9_scanWord_66 rfl ?_
      refine w_if_ne 78 dX9_scanWord_67 rfl rfl (fun q67 => ?_) (fun q67 => ?_)
      · have hr := bf q67 hr
        refine w_iinc 7 (y8 + 1) [(8, .int (y8 + 1)), (0, .ref (A 9 0 0)), (1, .ref (A 1728 0 0)), (2, .int x2), (3, .int x3), (4, .int y4), (5, .long y5), (7, .int y7)] dX9_scanWord_78 rfl rfl rfl (by decide) rfl ?_
        refine w_goto 47 dX9_scanWord_81 rfl ?_
        refine w_lv [(0, .ref (A 9 0 0)), (1, .ref (A 1728 0 0)), (2, .int x2), (3, .int x3), (4, .int y4), (5, .long y5), (7, .int y7), (8, .int (y8 + 1))] [1, 2, 3, 4, 5, 6, 7, 0] rfl ?_
        exact w_X9_scanWord_47 hf hrm   n y4 y5 y7 (y8 + 1) _ _ hz  hr
      · have hr := bt q67 hr
        refine w_sipush 128 dX9_scanWord_70 rfl rfl ?_
        refine w_iload 7 dX9_scanWord_73 rfl rfl ?_
        refine w_iadd dX9_scanWord_75 rfl ?_
        refine w_istore [(7, .int (128 + y8)), (0, .ref (A 9 0 0)), (1, .ref (A 1728 0 0)), (2, .int x2), (3, .int x3), (4, .int y4), (5, .long y5), (8, .int y8)] dX9_scanWord_76 rfl (by decide) rfl ?_
        refine w_iinc 7 (y8 + 1) [(8, .int (y8 + 1)), (7, .int (128 + y8)), (0, .ref (A 9 0 0)), (1, .ref (A 1728 0 0)), (2, .int x2), (3, .int x3), (4, .int y4), (5, .long y5)] dX9_scanWord_78 rfl rfl rfl (by decide) rfl ?_
        refine w_goto 47 dX9_scanWord_81 rfl ?_
        refine w_lv [(0, .ref (A 9 0 0)), (1, .ref (A 1728 0 0)), (2, .int x2), (3, .int x3), (4, .int y4), (5, .long y5), (7, .int (128 + y8)), (8, .int (y8 + 1))] [2, 3, 4, 5, 6, 7, 1, 0] rfl ?_
        exact w_X9_scanWord_47 hf hrm   n y4 y5 (128 + y8) (y8 + 1) _ _ hz  hr
set_option maxRecDepth 20000 in
set_option maxHeartbeats 4000000 in
theorem w_X9_scanWord_6 {A : Nat → Nat → Nat → Nat} {ρ σ' : Zs} {v : Int32} {x : Cxt} {x2 : Int32} {x3 : Int32}  (hf : m_fin 0 0 (QI A v σ' ρ) X0 x) (hrm : m_rm 2 0 0 x)  : ∀ (n : Nat) (y4 : Int32) (y5 : Int64) (σ : Zs) (h : Hp), Rp A h σ ρ → fX9_scanWord_6 x2 x3  n y4 y5 σ = some (v, σ') → wp x mX9_scanWord 6 [(0, .ref (A 9 0 0)), (1, .ref (A 1728 0 0)), (2, .int x2), (3, .int x3), (4, .int y4), (5, .long y5)] [] h 0 0
  | 0, _, _, σ, h => fun hz hr => by
    rw [fX9_scanWord_6.eq_1] at hr
    exact nono hr
  | n + 1, y4, y5, σ, h => fun hz hr => by
    rw [fX9_scanWord_6.eq_2] at hr
    refine w_iload 4 dX9_scanWord_6 rfl rfl ?_
    refine w_iload_n 2 dX9_scanWord_8 rfl rfl rfl ?_
    refine w_icmp_ge 41 dX9_scanWord_9 rfl rfl (fun q9 => ?_) (fun q9 => ?_)
    · have hr := bt q9 hr
      refine w_iconst 2 dX9_scanWord_41 rfl rfl ?_
      refine w_istore [(7, .int 2), (0, .ref (A 9 0 0)), (1, .ref (A 1728 0 0)), (2, .int x2), (3, .int x3), (4, .int y4), (5, .long y5)] dX9_scanWord_42 rfl (by decide) rfl ?_
      refine w_iconst 0 dX9_scanWord_44 rfl rfl ?_
      refine w_istore [(8, .int 0), (7, .int 2), (0, .ref (A 9 0 0)), (1, .ref (A 1728 0 0)), (2, .int x2), (3, .int x3), (4, .int y4), (5, .long y5)] dX9_scanWord_45 rfl (by decide) rfl ?_
      refine w_lv [(0, .ref (A 9 0 0)), (1, .ref (A 1728 0 0)), (2, .int x2), (3, .int x3), (4, .int y4), (5, .long y5), (7, .int 2), (8, .int 0)] [2, 3, 4, 5, 6, 7, 1, 0] rfl ?_
      exact w_X9_scanWord_47 hf hrm   FU y4 y5 2 0 _ _ hz  hr
    · have hr := bf q9 hr
      refine w_aload_n 1 dX9_scanWord_12 rfl rfl rfl ?_
      refine w_iload 4 dX9_scanWord_13 rfl rfl ?_
      obtain ⟨g10, hr⟩ := gd hr
      refine w_bald dX9_scanWord_15 rfl (hz.k704 rfl) (gin (hz.n704 rfl) g10) (hz.x704 rfl) ?_
      obtain ⟨v11, σ12, e13, hr⟩ := bq_some hr
      refine c_X9_74 (b := 0) (As := [.int (zI σ 1728 0 0 (Int32.toNatClampNeg y4))]) (rest := []) (fun l => s_X11_isWordByte  hz e13 l) hrm dX9_scanWord_16 rfl rfl (Nat.le_of_ble_eq_true rfl) (Nat.le_of_ble_eq_true rfl) (Nat.le_of_ble_eq_true rfl) rfl (Nat.le_of_ble_eq_true rfl) (fun vr h2 hq => ?_) (fun E9 h9 hq => hq.elim)
      obtain ⟨rfl, hz⟩ := hq
      show wp _ _ 19 [(0, .ref (A 9 0 0)), (1, .ref (A 1728 0 0)), (2, .int x2), (3, .int x3), (4, .int y4), (5, .long y5)] [.int v11] _ _ _
      refine w_if_eq 41 dX9_scanWord_19 rfl rfl (fun q19 => ?_) (fun q19 => ?_)
      · have hr := bt q19 hr
        refine w_iconst 2 dX9_scanWord_41 rfl rfl ?_
        refine w_istore [(7, .int 2), (0, .ref (A 9 0 0)), (1, .ref (A 1728 0 0)), (2, .int x2), (3, .int x3), (4, .int y4), (5, .long y5)] dX9_scanWord_42 rfl (by decide) rfl ?_
        refine w_iconst 0 dX9_scanWord_44 rfl rfl ?_
        refine w_istore [(8, .int 0), (7, .int 2), (0, .ref (A 9 0 0)), (1, .ref (A 1728 0 0)), (2, .int x2), (3, .int x3), (4, .int y4), (5, .long y5)] dX9_scanWord_45 rfl (by decide) rfl ?_
        refine w_lv [(0, .ref (A 9 0 0)), (1, .ref (A 1728 0 0)), (2, .int x2), (3, .int x3), (4, .int y4), (5, .long y5), (7, .int 2), (8, .int 0)] [2, 3, 4, 5, 6, 7, 1, 0] rfl ?_
        exact w_X9_scanWord_47 hf hrm   FU y4 y5 2 0 _ _ hz  hr
      · have hr := bf q19 hr
        refine w_lload 5 dX9_scanWord_22 rfl rfl ?_
        refine w_bipush 8 dX9_scanWord_24 rfl rfl ?_
        refine w_lshl dX9_scanWord_26 rfl ?_
        refine w_aload_n 1 dX9_scanWord_27 rfl rfl rfl ?_
        refine w_iload 4 dX9_scanWord_28 rfl rfl ?_
        obtain ⟨g15, hr⟩ := gd hr
        refine w_bald dX9_scanWord_30 rfl (hz.k704 rfl) (gin (hz.n704 rfl) g15) (hz.x704 rfl) ?_
        refine w_i2l dX9_scanWord_31 rfl ?_
        refine w_lor dX9_scanWord_32 rfl ?_
        refine w_lstore [(5, .long ((y5 <<< ((8 : Int32).toInt64 &&& 63)) ||| (((zI σ12 1728 0 0 (Int32.toNatClampNeg y4)) : Int32).toInt64))), (0, .ref (A 9 0 0)), (1, .ref (A 1728 0 0)), (2, .int x2), (3, .int x3), (4, .int y4)] dX9_scanWord_33 rfl (by decide) rfl ?_
        refine w_iinc 5 (y4 + 1) [(4, .int (y4 + 1)), (5, .long ((y5 <<< ((8 : Int32).toInt64 &&& 63)) ||| (((zI σ12 1728 0 0 (Int32.toNatClampNeg y4)) : Int32).toInt64))), (0, .ref (A 9 0 0)), (1, .ref (A 1728 0 0)), (2, .int x2), (3, .int x3)] dX9_scanWord_35 rfl rfl rfl (by decide) rfl ?_
        refine w_goto 6 dX9_scanWord_38 rfl ?_
        refine w_lv [(0, .ref (A 9 0 0)), (1, .ref (A 1728 0 0)), (2, .int x2), (3, .int x3), (4, .int (y4 + 1)), (5, .long ((y5 <<< ((8 : Int32).toInt64 &&& 63)) ||| (((zI σ12 1728 0 0 (Int32.toNatClampNeg y4)) : Int32).toInt64)))] [2, 3, 4, 5, 0, 1] rfl ?_
        exact w_X9_scanWord_6 hf hrm   n (y4 + 1) ((y5 <<< ((8 : Int32).toInt64 &&& 63)) ||| (((zI σ12 1728 0 0 (Int32.toNatClampNeg y4)) : Int32).toInt64)) _ _ hz  hr
set_option maxRecDepth 20000 in
set_option maxHeartbeats 4000000 in
theorem s_X9_scanWord {A : Nat → Nat → Nat → Nat} {h : Hp} {σ ρ σ' : Zs} {v : Int32} {x2 : Int32} {x3 : Int32}  (hz : Rp A h σ ρ) (hr : fX9_scanWord x2 x3 σ = some (v, σ')) : ∀ l : Launch, Sp l mX9_scanWord 2 0 0 [.ref (A 9 0 0), .ref (A 1728 0 0), .int x2, .int x3] h (QI A v σ' ρ) X0 := by
  intro l
  refine Sp.of rfl rfl (lv := [(0, .ref (A 9 0 0)), (1, .ref (A 1728 0 0)), (2, .int x2), (3, .int x3)]) (Nat.le_of_ble_eq_true rfl) rfl (fun x hf hrm => ?_)
  rw [fX9_scanWord.eq_1] at hr
  refine w_iload_n 3 dX9_scanWord_0 rfl rfl rfl ?_
  refine w_istore [(4, .int x3), (0, .ref (A 9 0 0)), (1, .ref (A 1728 0 0)), (2, .int x2), (3, .int x3)] dX9_scanWord_1 rfl (by decide) rfl ?_
  refine w_lconst 0 dX9_scanWord_3 rfl rfl ?_
  refine w_lstore [(5, .long 0), (4, .int x3), (0, .ref (A 9 0 0)), (1, .ref (A 1728 0 0)), (2, .int x2), (3, .int x3)] dX9_scanWord_4 rfl (by decide) rfl ?_
  refine w_lv [(0, .ref (A 9 0 0)), (1, .ref (A 1728 0 0)), (2, .int x2), (3, .int x3), (4, .int x3), (5, .long 0)] [2, 3, 4, 5, 1, 0] rfl ?_
  exact w_X9_scanWord_6 hf hrm   FU x3 0 _ _ hz  hr

set_option maxRecDepth 20000 in
set_option maxHeartbeats 4000000 in
theorem w_X9_scanNumber_45 {A : Nat → Nat → Nat → Nat} {ρ σ' : Zs} {v : Int32} {x : Cxt} {x2 : Int32} {x3 : Int32}  (hf : m_fin 0 0 (QI A v σ' ρ) X0 x) (hrm : m_rm 1 0 0 x)  : ∀ (y4 : Int32) (y5 : Int64) (σ : Zs) (h : Hp), Rp A h σ ρ → fX9_scanNumber_45 x2 x3  y4 y5 σ = some (v, σ') → wp x mX9_scanNumber 45 [(0, .ref (A 9 0 0)), (1, .ref (A 1728 0 0)), (2, .int x2), (3, .int x3), (4, .int y4), (5, .long y5)] [] h 0 0 := by
  intro y4 y5 σ h hz hr
  rw [fX9_scanNumber_45.eq_1] at hr
  refine w_aload_n 0 dX9_scanNumber_45 rfl rfl rfl ?_
  refine w_iload 4 dX9_scanNumber_46 rfl rfl ?_
  refine w_iload_n 3 dX9_scanNumber_48 rfl rfl rfl ?_
  refine w_isub dX9_scanNumber_49 rfl ?_
  refine w_bipush 9 dX9_scanNumber_50 rfl rfl ?_
  refine w_icmp_le 59 dX9_scanNumber_52 rfl rfl (fun q52 => ?_) (fun q52 => ?_)
  · have hr := bt q52 hr
    refine w_iconst 3 dX9_scanNumber_59 rfl rfl ?_
    refine w_iload_n 3 dX9_scanNumber_60 rfl rfl rfl ?_
    refine w_lload 5 dX9_scanNumber_61 rfl rfl ?_
    obtain ⟨v1, σ2, e3, hr⟩ := bq_some hr
    refine c_X9_51 (As := [.int 3, .int x3, .long y5]) (rest := []) (fun l => s_X9_addToken  hz e3 l) hrm dX9_scanNumber_63 rfl rfl (Nat.le_of_ble_eq_true rfl) (Nat.le_of_ble_eq_true rfl) (Nat.le_of_ble_eq_true rfl) (hz.o9 rfl) rfl (Nat.le_of_ble_eq_true rfl) (fun vr h2 hq => ?_) (fun E9 h9 hq => hq.elim)
    obtain ⟨rfl, hz⟩ := hq
    show wp _ _ 66 [(0, .ref (A 9 0 0)), (1, .ref (A 1728 0 0)), (2, .int x2), (3, .int x3), (4, .int y4), (5, .long y5)] [] _ _ _
    refine w_iload 4 dX9_scanNumber_66 rfl rfl ?_
    refine w_iret hf dX9_scanNumber_68 rfl (Nat.le_of_ble_eq_true rfl) (Nat.le_of_ble_eq_true rfl) ?_
    obtain ⟨rfl, rfl⟩ := ret_inj hr
    exact ⟨rfl, hz⟩
  · have hr := bf q52 hr
    refine w_iconst 1 dX9_scanNumber_55 rfl rfl ?_
    refine w_goto 60 dX9_scanNumber_56 rfl ?_
    refine w_iload_n 3 dX9_scanNumber_60 rfl rfl rfl ?_
    refine w_lload 5 dX9_scanNumber_61 rfl rfl ?_
    obtain ⟨v5, σ6, e7, hr⟩ := bq_some hr
    refine c_X9_51 (As := [.int 1, .int x3, .long y5]) (rest := []) (fun l => s_X9_addToken  hz e7 l) hrm dX9_scanNumber_63 rfl rfl (Nat.le_of_ble_eq_true rfl) (Nat.le_of_ble_eq_true rfl) (Nat.le_of_ble_eq_true rfl) (hz.o9 rfl) rfl (Nat.le_of_ble_eq_true rfl) (fun vr h2 hq => ?_) (fun E9 h9 hq => hq.elim)
    obtain ⟨rfl, hz⟩ := hq
    show wp _ _ 66 [(0, .ref (A 9 0 0)), (1, .ref (A 1728 0 0)), (2, .int x2), (3, .int x3), (4, .int y4), (5, .long y5)] [] _ _ _
    refine w_iload 4 dX9_scanNumber_66 rfl rfl ?_
    refine w_iret hf dX9_scanNumber_68 rfl (Nat.le_of_ble_eq_true rfl) (Nat.le_of_ble_eq_true rfl) ?_
    obtain ⟨rfl, rfl⟩ := ret_inj hr
    exact ⟨rfl, hz⟩
set_option maxRecDepth 20000 in
set_option maxHeartbeats 4000000 in
theorem w_X9_scanNumber_6 {A : Nat → Nat → Nat → Nat} {ρ σ' : Zs} {v : Int32} {x : Cxt} {x2 : Int32} {x3 : Int32}  (hf : m_fin 0 0 (QI A v σ' ρ) X0 x) (hrm : m_rm 1 0 0 x)  : ∀ (n : Nat) (y4 : Int32) (y5 : Int64) (σ : Zs) (h : Hp), Rp A h σ ρ → fX9_scanNumber_6 x2 x3  n y4 y5 σ = some (v, σ') → wp x mX9_scanNumber 6 [(0, .ref (A 9 0 0)), (1, .ref (A 1728 0 0)), (2, .int x2), (3, .int x3), (4, .int y4), (5, .long y5)] [] h 0 0
  | 0, _, _, σ, h => fun hz hr => by
    rw [fX9_scanNumber_6.eq_1] at hr
    exact nono hr
  | n + 1, y4, y5, σ, h => fun hz hr => by
    rw [fX9_scanNumber_6.eq_2] at hr
    refine w_iload 4 dX9_scanNumber_6 rfl rfl ?_
    refine w_iload_n 2 dX9_scanNumber_8 rfl rfl rfl ?_
    refine w_icmp_ge 45 dX9_scanNumber_9 rfl rfl (fun q9 => ?_) (fun q9 => ?_)
    · have hr := bt q9 hr
      refine w_lv [(0, .ref (A 9 0 0)), (1, .ref (A 1728 0 0)), (2, .int x2), (3, .int x3), (4, .int y4), (5, .long y5)] [0, 1, 2, 3, 4, 5] rfl ?_
      exact w_X9_scanNumber_45 hf hrm   y4 y5 _ _ hz  hr
    · have hr := bf q9 hr
      refine w_aload_n 1 dX9_scanNumber_12 rfl rfl rfl ?_
      refine w_iload 4 dX9_scanNumber_13 rfl rfl ?_
      obtain ⟨g9, hr⟩ := gd hr
      refine w_bald dX9_scanNumber_15 rfl (hz.k704 rfl) (gin (hz.n704 rfl) g9) (hz.x704 rfl) ?_
      obtain ⟨v10, σ11, e12, hr⟩ := bq_some hr
      refine c_X9_62 (b := 0) (As := [.int (zI σ 1728 0 0 (Int32.toNatClampNeg y4))]) (rest := []) (fun l => s_X11_isDigit  hz e12 l) hrm dX9_scanNumber_16 rfl rfl (Nat.le_of_ble_eq_true rfl) (Nat.le_of_ble_eq_true rfl) (Nat.le_of_ble_eq_true rfl) rfl (Nat.le_of_ble_eq_true rfl) (fun vr h2 hq => ?_) (fun E9 h9 hq => hq.elim)
      obtain ⟨rfl, hz⟩ := hq
      show wp _ _ 19 [(0, .ref (A 9 0 0)), (1, .ref (A 1728 0 0)), (2, .int x2), (3, .int x3), (4, .int y4), (5, .long y5)] [.int v10] _ _ _
      refine w_if_eq 45 dX9_scanNumber_19 rfl rfl (fun q19 => ?_) (fun q19 => ?_)
      · have hr := bt q19 hr
        refine w_lv [(0, .ref (A 9 0 0)), (1, .ref (A 1728 0 0)), (2, .int x2), (3, .int x3), (4, .int y4), (5, .long y5)] [0, 1, 2, 3, 4, 5] rfl ?_
        exact w_X9_scanNumber_45 hf hrm   y4 y5 _ _ hz  hr
      · have hr := bf q19 hr
        refine w_lload 5 dX9_scanNumber_22 rfl rfl ?_
        refine w_ldc2 dX9_scanNumber_24 rfl k_X9_77 ?_
        refine w_lmul dX9_scanNumber_27 rfl ?_
        refine w_aload_n 1 dX9_scanNumber_28 rfl rfl rfl ?_
        refine w_iload 4 dX9_scanNumber_29 rfl rfl ?_
        obtain ⟨g14, hr⟩ := gd hr
        refine w_bald dX9_scanNumber_31 rfl (hz.k704 rfl) (gin (hz.n704 rfl) g14) (hz.x704 rfl) ?_
        refine w_bipush 48 dX9_scanNumber_32 rfl rfl ?_
        refine w_isub dX9_scanNumber_34 rfl ?_
        refine w_i2l dX9_scanNumber_35 rfl ?_
        refine w_ladd dX9_scanNumber_36 rfl ?_
        refine w_lstore [(5, .long ((y5 * 10) + ((((zI σ11 1728 0 0 (Int32.toNatClampNeg y4)) - 48) : Int32).toInt64))), (0, .ref (A 9 0 0)), (1, .ref (A 1728 0 0)), (2, .int x2), (3, .int x3), (4, .int y4)] dX9_scanNumber_37 rfl (by decide) rfl ?_
        refine w_iinc 5 (y4 + 1) [(4, .int (y4 + 1)), (5, .long ((y5 * 10) + ((((zI σ11 1728 0 0 (Int32.toNatClampNeg y4)) - 48) : Int32).toInt64))), (0, .ref (A 9 0 0)), (1, .ref (A 1728 0 0)), (2, .int x2), (3, .int x3)] dX9_scanNumber_39 rfl rfl rfl (by decide) rfl ?_
        refine w_goto 6 dX9_scanNumber_42 rfl ?_
        refine w_lv [(0, .ref (A 9 0 0)), (1, .ref (A 1728 0 0)), (2, .int x2), (3, .int x3), (4, .int (y4 + 1)), (5, .long ((y5 * 10) + ((((zI σ11 1728 0 0 (Int32.toNatClampNeg y4)) - 48) : Int32).toInt64)))] [2, 3, 4, 5, 0, 1] rfl ?_
        exact w_X9_scanNumber_6 hf hrm   n (y4 + 1) ((y5 * 10) + ((((zI σ11 1728 0 0 (Int32.toNatClampNeg y4)) - 48) : Int32).toInt64)) _ _ hz  hr
set_option maxRecDepth 20000 in
set_option maxHeartbeats 4000000 in
theorem s_X9_scanNumber {A : Nat → Nat → Nat → Nat} {h : Hp} {σ ρ σ' : Zs} {v : Int32} {x2 : Int32} {x3 : Int32}  (hz : Rp A h σ ρ) (hr : fX9_scanNumber x2 x3 σ = some (v, σ')) : ∀ l : Launch, Sp l mX9_scanNumber 1 0 0 [.ref (A 9 0 0), .ref (A 1728 0 0), .int x2, .int x3] h (QI A v σ' ρ) X0 := by
  intro l
  refine Sp.of rfl rfl (lv := [(0, .ref (A 9 0 0)), (1, .ref (A 1728 0 0)), (2, .int x2), (3, .int x3)]) (Nat.le_of_ble_eq_true rfl) rfl (fun x hf hrm => ?_)
  rw [fX9_scanNumber.eq_1] at hr
  refine w_iload_n 3 dX9_scanNumber_0 rfl rfl rfl ?_
  refine w_istore [(4, .int x3), (0, .ref (A 9 0 0)), (1, .ref (A 1728 0 0)), (2, .int x2), (3, .int x3)] dX9_scanNumber_1 rfl (by decide) rfl ?_
  refine w_lconst 0 dX9_scanNumber_3 rfl rfl ?_
  refine w_lstore [(5, .long 0), (4, .int x3), (0, .ref (A 9 0 0)), (1, .ref (A 1728 0 0)), (2, .int x2), (3, .int x3)] dX9_scanNumber_4 rfl (by decide) rfl ?_
  refine w_lv [(0, .ref (A 9 0 0)), (1, .ref (A 1728 0 0)), (2, .int x2), (3, .int x3), (4, .int x3), (5, .long 0)] [2, 3, 4, 5, 1, 0] rfl ?_
  exact w_X9_scanNumber_6 hf hrm   FU x3 0 _ _ hz  hr

set_option maxRecDepth 20000 in
set_option maxHeartbeats 4000000 in
theorem w_X9_scanToken_63 {A : Nat → Nat → Nat → Nat} {ρ σ' : Zs} {v : Int32} {x : Cxt} {x2 : Int32} {x3 : Int32}  (hf : m_fin 0 0 (QI A v σ' ρ) X0 x) (hrm : m_rm 10 0 0 x)  : ∀ (y4 : Int32) (z0 : Int32) (σ : Zs) (h : Hp), Rp A h σ ρ → fX9_scanToken_63 x2 x3  y4 z0 σ = some (v, σ') → wp x mX9_scanToken 63 [(0, .ref (A 9 0 0)), (1, .ref (A 1728 0 0)), (2, .int x2), (3, .int x3), (4, .int y4)] [.int z0] h 0 0 := by
  intro y4 z0 σ h hz hr
  rw [fX9_scanToken_63.eq_1] at hr
  refine w_istore [(5, .int z0), (0, .ref (A 9 0 0)), (1, .ref (A 1728 0 0)), (2, .int x2), (3, .int x3), (4, .int y4)] dX9_scanToken_63 rfl (by decide) rfl ?_
  refine w_iload 5 dX9_scanToken_65 rfl rfl ?_
  refine w_sipush 256 dX9_scanToken_67 rfl rfl ?_
  refine w_imul dX9_scanToken_70 rfl ?_
  refine w_iload 0 dX9_scanToken_71 rfl rfl ?_
  refine w_iadd dX9_scanToken_73 rfl ?_
  refine w_istore [(6, .int ((y4 * 256) + z0)), (5, .int z0), (0, .ref (A 9 0 0)), (1, .ref (A 1728 0 0)), (2, .int x2), (3, .int x3), (4, .int y4)] dX9_scanToken_74 rfl (by decide) rfl ?_
  refine w_iload 0 dX9_scanToken_76 rfl rfl ?_
  refine w_sipush 15421 dX9_scanToken_78 rfl rfl ?_
  refine w_icmp_eq 100 dX9_scanToken_81 rfl rfl (fun q81 => ?_) (fun q81 => ?_)
  · have hr := bt q81 hr
    refine w_aload_n 2 dX9_scanToken_100 rfl rfl rfl ?_
    refine w_iload 0 dX9_scanToken_101 rfl rfl ?_
    refine w_iload_n 5 dX9_scanToken_103 rfl rfl rfl ?_
    refine w_lconst 0 dX9_scanToken_104 rfl rfl ?_
    obtain ⟨v12, σ13, e14, hr⟩ := bq_some hr
    refine c_X9_51 (As := [.int ((y4 * 256) + z0), .int x3, .long 0]) (rest := []) (fun l => s_X9_addToken  hz e14 l) hrm dX9_scanToken_105 rfl rfl (Nat.le_of_ble_eq_true rfl) (Nat.le_of_ble_eq_true rfl) (Nat.le_of_ble_eq_true rfl) (hz.o9 rfl) rfl (Nat.le_of_ble_eq_true rfl) (fun vr h2 hq => ?_) (fun E9 h9 hq => hq.elim)
    obtain ⟨rfl, hz⟩ := hq
    show wp _ _ 108 [(6, .int ((y4 * 256) + z0)), (5, .int z0), (0, .ref (A 9 0 0)), (1, .ref (A 1728 0 0)), (2, .int x2), (3, .int x3), (4, .int y4)] [] _ _ _
    refine w_iload_n 5 dX9_scanToken_108 rfl rfl rfl ?_
    refine w_iconst 2 dX9_scanToken_109 rfl rfl ?_
    refine w_iadd dX9_scanToken_110 rfl ?_
    refine w_iret hf dX9_scanToken_111 rfl (Nat.le_of_ble_eq_true rfl) (Nat.le_of_ble_eq_true rfl) ?_
    obtain ⟨rfl, rfl⟩ := ret_inj hr
    exact ⟨rfl, hz⟩
  · have hr := bf q81 hr
    refine w_iload 0 dX9_scanToken_84 rfl rfl ?_
    refine w_sipush 15933 dX9_scanToken_86 rfl rfl ?_
    refine w_icmp_eq 100 dX9_scanToken_89 rfl rfl (fun q89 => ?_) (fun q89 => ?_)
    · have hr := bt q89 hr
      refine w_aload_n 2 dX9_scanToken_100 rfl rfl rfl ?_
      refine w_iload 0 dX9_scanToken_101 rfl rfl ?_
      refine w_iload_n 5 dX9_scanToken_103 rfl rfl rfl ?_
      refine w_lconst 0 dX9_scanToken_104 rfl rfl ?_
      obtain ⟨v16, σ17, e18, hr⟩ := bq_some hr
      refine c_X9_51 (As := [.int ((y4 * 256) + z0), .int x3, .long 0]) (rest := []) (fun l => s_X9_addToken  hz e18 l) hrm dX9_scanToken_105 rfl rfl (Nat.le_of_ble_eq_true rfl) (Nat.le_of_ble_eq_true rfl) (Nat.le_of_ble_eq_true rfl) (hz.o9 rfl) rfl (Nat.le_of_ble_eq_true rfl) (fun vr h2 hq => ?_) (fun E9 h9 hq => hq.elim)
      obtain ⟨rfl, hz⟩ := hq
      show wp _ _ 108 [(6, .int ((y4 * 256) + z0)), (5, .int z0), (0, .ref (A 9 0 0)), (1, .ref (A 1728 0 0)), (2, .int x2), (3, .int x3), (4, .int y4)] [] _ _ _
      refine w_iload_n 5 dX9_scanToken_108 rfl rfl rfl ?_
      refine w_iconst 2 dX9_scanToken_109 rfl rfl ?_
      refine w_iadd dX9_scanToken_110 rfl ?_
      refine w_iret hf dX9_scanToken_111 rfl (Nat.le_of_ble_eq_true rfl) (Nat.le_of_ble_eq_true rfl) ?_
      obtain ⟨rfl, rfl⟩ := ret_inj hr
      exact ⟨rfl, hz⟩
    · have hr := bf q89 hr
      refine w_iload 0 dX9_scanToken_92 rfl rfl ?_
      refine w_sipush 15422 dX9_scanToken_94 rfl rfl ?_
      refine w_icmp_ne 112 dX9_scanToken_97 rfl rfl (fun q97 => ?_) (fun q97 => ?_)
      · have hr := bf q97 hr
        refine w_aload_n 2 dX9_scanToken_112 rfl rfl rfl ?_
        refine w_ldcS (i := 1) dX9_scanToken_113 rfl (fun ok => ok.2.1) ?_
        refine w_iload 6 dX9_scanToken_115 rfl rfl ?_
        refine w_i2c dX9_scanToken_117 rfl ?_
        refine w_tx_ix (i := 1) hrm (by decide) dX9_scanToken_118 rfl ml_X9_70 (by decide)  (Nat.le_of_ble_eq_true rfl) (Nat.le_of_ble_eq_true rfl) (Nat.le_of_ble_eq_true rfl) ?_
        refine w_if_lt 129 dX9_scanToken_121 rfl rfl (fun q121 => ?_) (fun q121 => ?_)
        · have hr := bt q121 hr
          refine w_iconst 1 dX9_scanToken_129 rfl rfl ?_
          refine w_iload_n 5 dX9_scanToken_130 rfl rfl rfl ?_
          refine w_lconst 0 dX9_scanToken_131 rfl rfl ?_
          obtain ⟨v20, σ21, e22, hr⟩ := bq_some hr
          refine c_X9_51 (As := [.int 1, .int x3, .long 0]) (rest := []) (fun l => s_X9_addToken  hz e22 l) hrm dX9_scanToken_132 rfl rfl (Nat.le_of_ble_eq_true rfl) (Nat.le_of_ble_eq_true rfl) (Nat.le_of_ble_eq_true rfl) (hz.o9 rfl) rfl (Nat.le_of_ble_eq_true rfl) (fun vr h2 hq => ?_) (fun E9 h9 hq => hq.elim)
          obtain ⟨rfl, hz⟩ := hq
          show wp _ _ 135 [(6, .int ((y4 * 256) + z0)), (5, .int z0), (0, .ref (A 9 0 0)), (1, .ref (A 1728 0 0)), (2, .int x2), (3, .int x3), (4, .int y4)] [] _ _ _
          refine w_iload_n 5 dX9_scanToken_135 rfl rfl rfl ?_
          refine w_iconst 1 dX9_scanToken_136 rfl rfl ?_
          refine w_iadd dX9_scanToken_137 rfl ?_
          refine w_iret hf dX9_scanToken_138 rfl (Nat.le_of_ble_eq_true rfl) (Nat.le_of_ble_eq_true rfl) ?_
          obtain ⟨rfl, rfl⟩ := ret_inj hr
          exact ⟨rfl, hz⟩
        · have hr := bf q121 hr
          refine w_iload 6 dX9_scanToken_124 rfl rfl ?_
          refine w_goto 130 dX9_scanToken_126 rfl ?_
          refine w_iload_n 5 dX9_scanToken_130 rfl rfl rfl ?_
          refine w_lconst 0 dX9_scanToken_131 rfl rfl ?_
          obtain ⟨v24, σ25, e26, hr⟩ := bq_some hr
          refine c_X9_51 (As := [.int y4, .int x3, .long 0]) (rest := []) (fun l => s_X9_addToken  hz e26 l) hrm dX9_scanToken_132 rfl rfl (Nat.le_of_ble_eq_true rfl) (Nat.le_of_ble_eq_true rfl) (Nat.le_of_ble_eq_true rfl) (hz.o9 rfl) rfl (Nat.le_of_ble_eq_true rfl) (fun vr h2 hq => ?_) (fun E9 h9 hq => hq.elim)
          obtain ⟨rfl, hz⟩ := hq
          show wp _ _ 135 [(6, .int ((y4 * 256) + z0)), (5, .int z0), (0, .ref (A 9 0 0)), (1, .ref (A 1728 0 0)), (2, .int x2), (3, .int x3), (4, .int y4)] [] _ _ _
          refine w_iload_n 5 dX9_scanToken_135 rfl rfl rfl ?_
          refine w_iconst 1 dX9_scanToken_136 rfl rfl ?_
          refine w_iadd dX9_scanToken_137 rfl ?_
          refine w_iret hf dX9_scanToken_138 rfl (Nat.le_of_ble_eq_true rfl) (Nat.le_of_ble_eq_true rfl) ?_
          obtain ⟨rfl, rfl⟩ := ret_inj hr
          exact ⟨rfl, hz⟩
      · have hr := bt q97 hr
        refine w_aload_n 2 dX9_scanToken_100 rfl rfl rfl ?_
        refine w_iload 0 dX9_scanToken_101 rfl rfl ?_
        refine w_iload_n 5 dX9_scanToken_103 rfl rfl rfl ?_
        refine w_lconst 0 dX9_scanToken_104 rfl rfl ?_
        obtain ⟨v28, σ29, e30, hr⟩ := bq_some hr
        refine c_X9_51 (As := [.int ((y4 * 256) + z0), .int x3, .long 0]) (rest := []) (fun l => s_X9_addToken  hz e30 l) hrm dX9_scanToken_105 rfl rfl (Nat.le_of_ble_eq_true rfl) (Nat.le_of_ble_eq_true rfl) (Nat.le_of_ble_eq_true rfl) (hz.o9 rfl) rfl (Nat.le_of_ble_eq_true rfl) (fun vr h2 hq => ?_) (fun E9 h9 hq => hq.elim)
        obtain ⟨rfl, hz⟩ := hq
        show wp _ _ 108 [(6, .int ((y4 * 256) + z0)), (5, .int z0), (0, .ref (A 9 0 0)), (1, .ref (A 1728 0 0)), (2, .int x2), (3, .int x3), (4, .int y4)] [] _ _ _
        refine w_iload_n 5 dX9_scanToken_108 rfl rfl rfl ?_
        refine w_iconst 2 dX9_scanToken_109 rfl rfl ?_
        refine w_iadd dX9_scanToken_110 rfl ?_
        refine w_iret hf dX9_scanToken_111 rfl (Nat.le_of_ble_eq_true rfl) (Nat.le_of_ble_eq_true rfl) ?_
        obtain ⟨rfl, rfl⟩ := ret_inj hr
        exact ⟨rfl, hz⟩
set_option maxRecDepth 20000 in
set_option maxHeartbeats 4000000 in
theorem s_X9_scanToken {A : Nat → Nat → Nat → Nat} {h : Hp} {σ ρ σ' : Zs} {v : Int32} {x2 : Int32} {x3 : Int32}  (hz : Rp A h σ ρ) (hr : fX9_scanToken x2 x3 σ = some (v, σ')) : ∀ l : Launch, Sp l mX9_scanToken 10 0 0 [.ref (A 9 0 0), .ref (A 1728 0 0), .int x2, .int x3] h (QI A v σ' ρ) X0 := by
  intro l
  refine Sp.of rfl rfl (lv := [(0, .ref (A 9 0 0)), (1, .ref (A 1728 0 0)), (2, .int x2), (3, .int x3)]) (Nat.le_of_ble_eq_true rfl) rfl (fun x hf hrm => ?_)
  rw [fX9_scanToken.eq_1] at hr
  refine w_aload_n 1 dX9_scanToken_0 rfl rfl rfl ?_
  refine w_iload_n 3 dX9_scanToken_1 rfl rfl rfl ?_
  obtain ⟨g1, hr⟩ := gd hr
  refine w_bald dX9_scanToken_2 rfl (hz.k704 rfl) (gin (hz.n704 rfl) g1) (hz.x704 rfl) ?_
  obtain ⟨v2, σ3, e4, hr⟩ := bq_some hr
  refine c_X9_55 (b := 0) (As := [.int (zI σ 1728 0 0 (Int32.toNatClampNeg x3))]) (rest := []) (fun l => s_X11_isLetter  hz e4 l) hrm dX9_scanToken_3 rfl rfl (Nat.le_of_ble_eq_true rfl) (Nat.le_of_ble_eq_true rfl) (Nat.le_of_ble_eq_true rfl) rfl (Nat.le_of_ble_eq_true rfl) (fun vr h2 hq => ?_) (fun E9 h9 hq => hq.elim)
  obtain ⟨rfl, hz⟩ := hq
  show wp _ _ 6 [(0, .ref (A 9 0 0)), (1, .ref (A 1728 0 0)), (2, .int x2), (3, .int x3)] [.int v2] _ _ _
  refine w_if_eq 17 dX9_scanToken_6 rfl rfl (fun q6 => ?_) (fun q6 => ?_)
  · have hr := bt q6 hr
    refine w_aload_n 1 dX9_scanToken_17 rfl rfl rfl ?_
    refine w_iload_n 3 dX9_scanToken_18 rfl rfl rfl ?_
    obtain ⟨g6, hr⟩ := gd hr
    refine w_bald dX9_scanToken_19 rfl (hz.k704 rfl) (gin (hz.n704 rfl) g6) (hz.x704 rfl) ?_
    obtain ⟨v7, σ8, e9, hr⟩ := bq_some hr
    refine c_X9_62 (b := 0) (As := [.int (zI σ3 1728 0 0 (Int32.toNatClampNeg x3))]) (rest := []) (fun l => s_X11_isDigit  hz e9 l) hrm dX9_scanToken_20 rfl rfl (Nat.le_of_ble_eq_true rfl) (Nat.le_of_ble_eq_true rfl) (Nat.le_of_ble_eq_true rfl) rfl (Nat.le_of_ble_eq_true rfl) (fun vr h2 hq => ?_) (fun E9 h9 hq => hq.elim)
    obtain ⟨rfl, hz⟩ := hq
    show wp _ _ 23 [(0, .ref (A 9 0 0)), (1, .ref (A 1728 0 0)), (2, .int x2), (3, .int x3)] [.int v7] _ _ _
    refine w_if_eq 34 dX9_scanToken_23 rfl rfl (fun q23 => ?_) (fun q23 => ?_)
    · have hr := bt q23 hr
      refine w_aload_n 1 dX9_scanToken_34 rfl rfl rfl ?_
      refine w_iload_n 3 dX9_scanToken_35 rfl rfl rfl ?_
      obtain ⟨g11, hr⟩ := gd hr
      refine w_bald dX9_scanToken_36 rfl (hz.k704 rfl) (gin (hz.n704 rfl) g11) (hz.x704 rfl) ?_
      refine w_sipush 255 dX9_scanToken_37 rfl rfl ?_
      refine w_iand dX9_scanToken_40 rfl ?_
      refine w_istore [(4, .int ((zI σ8 1728 0 0 (Int32.toNatClampNeg x3)) &&& 255)), (0, .ref (A 9 0 0)), (1, .ref (A 1728 0 0)), (2, .int x2), (3, .int x3)] dX9_scanToken_41 rfl (by decide) rfl ?_
      refine w_iload_n 4 dX9_scanToken_43 rfl rfl rfl ?_
      refine w_iconst 1 dX9_scanToken_44 rfl rfl ?_
      refine w_iadd dX9_scanToken_45 rfl ?_
      refine w_iload_n 3 dX9_scanToken_46 rfl rfl rfl ?_
      refine w_icmp_ge 62 dX9_scanToken_47 rfl rfl (fun q47 => ?_) (fun q47 => ?_)
      · have hr := bt q47 hr
        refine w_iconst 0 dX9_scanToken_62 rfl rfl ?_
        refine w_lv [(0, .ref (A 9 0 0)), (1, .ref (A 1728 0 0)), (2, .int x2), (3, .int x3), (4, .int ((zI σ8 1728 0 0 (Int32.toNatClampNeg x3)) &&& 255))] [1, 2, 3, 4, 0] rfl ?_
        exact w_X9_scanToken_63 hf hrm   ((zI σ8 1728 0 0 (Int32.toNatClampNeg x3)) &&& 255) 0 _ _ hz  hr
      · have hr := bf q47 hr
        refine w_aload_n 2 dX9_scanToken_50 rfl rfl rfl ?_
        refine w_iload_n 4 dX9_scanToken_51 rfl rfl rfl ?_
        refine w_iconst 1 dX9_scanToken_52 rfl rfl ?_
        refine w_iadd dX9_scanToken_53 rfl ?_
        obtain ⟨g32, hr⟩ := gd hr
        refine w_bald dX9_scanToken_54 rfl (hz.k704 rfl) (gin (hz.n704 rfl) g32) (hz.x704 rfl) ?_
        refine w_sipush 255 dX9_scanToken_55 rfl rfl ?_
        refine w_iand dX9_scanToken_58 rfl ?_
        refine w_goto 63 dX9_scanToken_59 rfl ?_
        refine w_lv [(0, .ref (A 9 0 0)), (1, .ref (A 1728 0 0)), (2, .int x2), (3, .int x3), (4, .int ((zI σ8 1728 0 0 (Int32.toNatClampNeg x3)) &&& 255))] [1, 2, 3, 4, 0] rfl ?_
        exact w_X9_scanToken_63 hf hrm   ((zI σ8 1728 0 0 (Int32.toNatClampNeg x3)) &&& 255) ((zI σ8 1728 0 0 (Int32.toNatClampNeg (x3 + 1))) &&& 255) _ _ hz  hr
    · have hr := bf q23 hr
      refine w_aload_n 0 dX9_scanToken_26 rfl rfl rfl ?_
      refine w_aload_n 1 dX9_scanToken_27 rfl rfl rfl ?_
      refine w_iload_n 2 dX9_scanToken_28 rfl rfl rfl ?_
      refine w_iload_n 3 dX9_scanToken_29 rfl rfl rfl ?_
      obtain ⟨v33, σ34, e35, hr⟩ := bq_some hr
      refine c_X9_65 (As := [.ref (A 1728 0 0), .int x2, .int x3]) (rest := []) (fun l => s_X9_scanNumber  hz e35 l) hrm dX9_scanToken_30 rfl rfl (Nat.le_of_ble_eq_true rfl) (Nat.le_of_ble_eq_true rfl) (Nat.le_of_ble_eq_true rfl) (hz.o9 rfl) rfl (Nat.le_of_ble_eq_true rfl) (fun vr h2 hq => ?_) (fun E9 h9 hq => hq.elim)
      obtain ⟨rfl, hz⟩ := hq
      show wp _ _ 33 [(0, .ref (A 9 0 0)), (1, .ref (A 1728 0 0)), (2, .int x2), (3, .int x3)] [.int v33] _ _ _
      refine w_iret hf dX9_scanToken_33 rfl (Nat.le_of_ble_eq_true rfl) (Nat.le_of_ble_eq_true rfl) ?_
      obtain ⟨rfl, rfl⟩ := ret_inj hr
      exact ⟨rfl, hz⟩
  · have hr := bf q6 hr
    refine w_aload_n 0 dX9_scanToken_9 rfl rfl rfl ?_
    refine w_aload_n 1 dX9_scanToken_10 rfl rfl rfl ?_
    refine w_iload_n 2 dX9_scanToken_11 rfl rfl rfl ?_
    refine w_iload_n 3 dX9_scanToken_12 rfl rfl rfl ?_
    obtain ⟨v37, σ38, e39, hr⟩ := bq_some hr
    refine c_X9_59 (As := [.ref (A 1728 0 0), .int x2, .int x3]) (rest := []) (fun l => s_X9_scanWord  hz e39 l) hrm dX9_scanToken_13 rfl rfl (Nat.le_of_ble_eq_true rfl) (Nat.le_of_ble_eq_true rfl) (Nat.le_of_ble_eq_true rfl) (hz.o9 rfl) rfl (Nat.le_of_ble_eq_true rfl) (fun vr h2 hq => ?_) (fun E9 h9 hq => hq.elim)
    obtain ⟨rfl, hz⟩ := hq
    show wp _ _ 16 [(0, .ref (A 9 0 0)), (1, .ref (A 1728 0 0)), (2, .int x2), (3, .int x3)] [.int v37] _ _ _
    refine w_iret hf dX9_scanToken_16 rfl (Nat.le_of_ble_eq_true rfl) (Nat.le_of_ble_eq_true rfl) ?_
    obtain ⟨rfl, rfl⟩ := ret_inj hr
    exact ⟨rfl, hz⟩

set_option maxRecDepth 20000 in
set_option maxHeartbeats 4000000 in
theorem w_X9_scan_18 {A : Nat → Nat → Nat → Nat} {ρ σ' : Zs} {v : Unit} {x : Cxt} {x2 : Int32}  (hf : m_fin 0 0 (QV A v σ' ρ) X0 x) (hrm : m_rm 11 0 0 x)  : ∀ (n : Nat) (y3 : Int32) (y4 : Int32) (y5 : Int32) (σ : Zs) (h : Hp), Rp A h σ ρ → fX9_scan_18 x2  n y3 y4 y5 σ = some (v, σ') → wp x mX9_scan 18 [(0, .ref (A 9 0 0)), (1, .ref (A 1728 0 0)), (2, .int x2), (3, .int y3), (4, .int y4), (5, .int y5)] [] h 0 0
  | 0, _, _, _, σ, h => fun hz hr => by
    rw [fX9_scan_18.eq_1] at hr
    exact nono hr
  | n + 1, y3, y4, y5, σ, h => fun hz hr => by
    rw [fX9_scan_18.eq_2] at hr
    refine w_iload 5 dX9_scan_18 rfl rfl ?_
    refine w_iload_n 3 dX9_scan_20 rfl rfl rfl ?_
    refine w_icmp_ge 65 dX9_scan_21 rfl rfl (fun q21 => ?_) (fun q21 => ?_)
    · have hr := bt q21 hr
      refine w_aload_n 0 dX9_scan_65 rfl rfl rfl ?_
      refine w_iconst 0 dX9_scan_66 rfl rfl ?_
      refine w_iload_n 3 dX9_scan_67 rfl rfl rfl ?_
      refine w_lconst 0 dX9_scan_68 rfl rfl ?_
      obtain ⟨v3, σ4, e5, hr⟩ := bq_some hr
      refine c_X9_51 (As := [.int 0, .int y3, .long 0]) (rest := []) (fun l => s_X9_addToken  hz e5 l) hrm dX9_scan_69 rfl rfl (Nat.le_of_ble_eq_true rfl) (Nat.le_of_ble_eq_true rfl) (Nat.le_of_ble_eq_true rfl) (hz.o9 rfl) rfl (Nat.le_of_ble_eq_true rfl) (fun vr h2 hq => ?_) (fun E9 h9 hq => hq.elim)
      obtain ⟨rfl, hz⟩ := hq
      show wp _ _ 72 [(0, .ref (A 9 0 0)), (1, .ref (A 1728 0 0)), (2, .int x2), (3, .int y3), (4, .int y4), (5, .int y5)] [] _ _ _
      refine w_vret hf dX9_scan_72 rfl (Nat.le_of_ble_eq_true rfl) (Nat.le_of_ble_eq_true rfl) ?_
      obtain ⟨rfl, rfl⟩ := ret_inj hr
      exact ⟨rfl, hz⟩
    · have hr := bf q21 hr
      refine w_iload 5 dX9_scan_24 rfl rfl ?_
      refine w_iload 4 dX9_scan_26 rfl rfl ?_
      refine w_icmp_lt 59 dX9_scan_28 rfl rfl (fun q28 => ?_) (fun q28 => ?_)
      · have hr := bt q28 hr
        refine w_iinc 5 (y5 + 1) [(5, .int (y5 + 1)), (0, .ref (A 9 0 0)), (1, .ref (A 1728 0 0)), (2, .int x2), (3, .int y3), (4, .int y4)] dX9_scan_59 rfl rfl rfl (by decide) rfl ?_
        refine w_goto 18 dX9_scan_62 rfl ?_
        refine w_lv [(0, .ref (A 9 0 0)), (1, .ref (A 1728 0 0)), (2, .int x2), (3, .int y3), (4, .int y4), (5, .int (y5 + 1))] [1, 2, 3, 4, 5, 0] rfl ?_
        exact w_X9_scan_18 hf hrm   n y3 y4 (y5 + 1) _ _ hz  hr
      · have hr := bf q28 hr
        refine w_aload_n 1 dX9_scan_31 rfl rfl rfl ?_
        refine w_iload 5 dX9_scan_32 rfl rfl ?_
        obtain ⟨g7, hr⟩ := gd hr
        refine w_bald dX9_scan_34 rfl (hz.k704 rfl) (gin (hz.n704 rfl) g7) (hz.x704 rfl) ?_
        refine w_bipush 32 dX9_scan_35 rfl rfl ?_
        refine w_icmp_eq 59 dX9_scan_37 rfl rfl (fun q37 => ?_) (fun q37 => ?_)
        · have hr := bt q37 hr
          refine w_iinc 5 (y5 + 1) [(5, .int (y5 + 1)), (0, .ref (A 9 0 0)), (1, .ref (A 1728 0 0)), (2, .int x2), (3, .int y3), (4, .int y4)] dX9_scan_59 rfl rfl rfl (by decide) rfl ?_
          refine w_goto 18 dX9_scan_62 rfl ?_
          refine w_lv [(0, .ref (A 9 0 0)), (1, .ref (A 1728 0 0)), (2, .int x2), (3, .int y3), (4, .int y4), (5, .int (y5 + 1))] [1, 2, 3, 4, 5, 0] rfl ?_
          exact w_X9_scan_18 hf hrm   n y3 y4 (y5 + 1) _ _ hz  hr
        · have hr := bf q37 hr
          refine w_aload_n 1 dX9_scan_40 rfl rfl rfl ?_
          refine w_iload 5 dX9_scan_41 rfl rfl ?_
          obtain ⟨g8, hr⟩ := gd hr
          refine w_bald dX9_scan_43 rfl (hz.k704 rfl) (gin (hz.n704 rfl) g8) (hz.x704 rfl) ?_
          refine w_bipush 10 dX9_scan_44 rfl rfl ?_
          refine w_icmp_eq 59 dX9_scan_46 rfl rfl (fun q46 => ?_) (fun q46 => ?_)
          · have hr := bt q46 hr
            refine w_iinc 5 (y5 + 1) [(5, .int (y5 + 1)), (0, .ref (A 9 0 0)), (1, .ref (A 1728 0 0)), (2, .int x2), (3, .int y3), (4, .int y4)] dX9_scan_59 rfl rfl rfl (by decide) rfl ?_
            refine w_goto 18 dX9_scan_62 rfl ?_
            refine w_lv [(0, .ref (A 9 0 0)), (1, .ref (A 1728 0 0)), (2, .int x2), (3, .int y3), (4, .int y4), (5, .int (y5 + 1))] [1, 2, 3, 4, 5, 0] rfl ?_
            exact w_X9_scan_18 hf hrm   n y3 y4 (y5 + 1) _ _ hz  hr
          · have hr := bf q46 hr
            refine w_aload_n 0 dX9_scan_49 rfl rfl rfl ?_
            refine w_aload_n 1 dX9_scan_50 rfl rfl rfl ?_
            refine w_iload_n 3 dX9_scan_51 rfl rfl rfl ?_
            refine w_iload 5 dX9_scan_52 rfl rfl ?_
            obtain ⟨v9, σ10, e11, hr⟩ := bq_some hr
            refine c_X9_47 (As := [.ref (A 1728 0 0), .int y3, .int y5]) (rest := []) (fun l => s_X9_scanToken  hz e11 l) hrm dX9_scan_54 rfl rfl (Nat.le_of_ble_eq_true rfl) (Nat.le_of_ble_eq_true rfl) (Nat.le_of_ble_eq_true rfl) (hz.o9 rfl) rfl (Nat.le_of_ble_eq_true rfl) (fun vr h2 hq => ?_) (fun E9 h9 hq => hq.elim)
            obtain ⟨rfl, hz⟩ := hq
            show wp _ _ 57 [(0, .ref (A 9 0 0)), (1, .ref (A 1728 0 0)), (2, .int x2), (3, .int y3), (4, .int y4), (5, .int y5)] [.int v9] _ _ _
            refine w_istore [(4, .int v9), (0, .ref (A 9 0 0)), (1, .ref (A 1728 0 0)), (2, .int x2), (3, .int y3), (5, .int y5)] dX9_scan_57 rfl (by decide) rfl ?_
            refine w_iinc 5 (y5 + 1) [(5, .int (y5 + 1)), (4, .int v9), (0, .ref (A 9 0 0)), (1, .ref (A 1728 0 0)), (2, .int x2), (3, .int y3)] dX9_scan_59 rfl rfl rfl (by decide) rfl ?_
            refine w_goto 18 dX9_scan_62 rfl ?_
            refine w_lv [(0, .ref (A 9 0 0)), (1, .ref (A 1728 0 0)), (2, .int x2), (3, .int y3), (4, .int v9), (5, .int (y5 + 1))] [2, 3, 4, 5, 1, 0] rfl ?_
            exact w_X9_scan_18 hf hrm   n y3 v9 (y5 + 1) _ _ hz  hr
set_option maxRecDepth 20000 in
set_option maxHeartbeats 4000000 in
theorem s_X9_scan {A : Nat → Nat → Nat → Nat} {h : Hp} {σ ρ σ' : Zs} {v : Unit} {x2 : Int32}  (hz : Rp A h σ ρ) (hr : fX9_scan x2 σ = some (v, σ')) : ∀ l : Launch, Sp l mX9_scan 11 0 0 [.ref (A 9 0 0), .ref (A 1728 0 0), .int x2] h (QV A v σ' ρ) X0 := by
  intro l
  refine Sp.of rfl rfl (lv := [(0, .ref (A 9 0 0)), (1, .ref (A 1728 0 0)), (2, .int x2)]) (Nat.le_of_ble_eq_true rfl) rfl (fun x hf hrm => ?_)
  rw [fX9_scan.eq_1] at hr
  refine w_aload_n 0 dX9_scan_0 rfl rfl rfl ?_
  refine w_iconst 0 dX9_scan_1 rfl rfl ?_
  refine p_X9_37 dX9_scan_2 rfl (hz.o9 rfl) ?_
  obtain ⟨σ1, e2, hr⟩ := lt_e hr
  have hz := (hz.s580 (v := 0) rfl).ts e2
  refine w_iload_n 2 dX9_scan_5 rfl rfl rfl ?_
  refine w_aload_n 1 dX9_scan_6 rfl rfl rfl ?_
  refine w_alen 2 dX9_scan_7 rfl (by decide) (by decide) (fun _ => rfl) (hz.k704 rfl) (v := 1500) (by rw [hz.n704 rfl]; rfl) ?_
  refine w_mmin hrm (by decide) dX9_scan_8 rfl ml_X9_41 (Nat.le_of_ble_eq_true rfl) (Nat.le_of_ble_eq_true rfl) (Nat.le_of_ble_eq_true rfl) ?_
  refine w_istore_n [(3, .int (p_min x2 1500)), (0, .ref (A 9 0 0)), (1, .ref (A 1728 0 0)), (2, .int x2)] dX9_scan_11 rfl rfl (by decide) rfl ?_
  refine w_iconst 0 dX9_scan_12 rfl rfl ?_
  refine w_istore [(4, .int 0), (3, .int (p_min x2 1500)), (0, .ref (A 9 0 0)), (1, .ref (A 1728 0 0)), (2, .int x2)] dX9_scan_13 rfl (by decide) rfl ?_
  refine w_iconst 0 dX9_scan_15 rfl rfl ?_
  refine w_istore [(5, .int 0), (4, .int 0), (3, .int (p_min x2 1500)), (0, .ref (A 9 0 0)), (1, .ref (A 1728 0 0)), (2, .int x2)] dX9_scan_16 rfl (by decide) rfl ?_
  refine w_lv [(0, .ref (A 9 0 0)), (1, .ref (A 1728 0 0)), (2, .int x2), (3, .int (p_min x2 1500)), (4, .int 0), (5, .int 0)] [3, 4, 5, 2, 1, 0] rfl ?_
  exact w_X9_scan_18 hf hrm   FU (p_min x2 1500) 0 0 _ _ hz  hr

