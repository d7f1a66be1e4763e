/-! LIFTED: 24.stream -/
noncomputable def fX7_clear (p : Nat) (s : Nat) (σ : Zs) : Option (Unit × Zs) :=
  lt (sI σ 449 p s 0 0) fun σ1 => if gi 0 2 then lt (sI σ1 1476 p s (Int32.toNatClampNeg 0) (-1)) fun σ4 => if gi 1 2 then lt (sI σ4 1476 p s (Int32.toNatClampNeg 1) (-1)) fun σ7 => lt (sI σ7 453 p s 0 0) fun σ9 => lt (sI σ9 454 p s 0 0) fun σ11 => lt (sI σ11 455 p s 0 0) fun σ13 => lt (sI σ13 456 p s 0 0) fun σ15 => some ((), σ15) else none else none

noncomputable def fX7_setColumns_2 (p : Nat) (s : Nat) (x2 : Int32)  : Nat → Int32 → Zs → Option (Unit × Zs)
  | 0, _, _ => none
  | n + 1, y3, σ =>
    if x2 ≤ y3 then (lt (sI σ 450 p s 0 x2) fun σ1 => some ((), σ1)) else (if 1500 ≤ y3 then (lt (sI σ 450 p s 0 x2) fun σ3 => some ((), σ3)) else (if 6 ≤ y3 then (lt (sI σ 450 p s 0 x2) fun σ5 => some ((), σ5)) else (if gi y3 1500 then if gi y3 6 then lt (sJ σ 1475 p s (Int32.toNatClampNeg y3) (zJ σ 1224 0 0 (Int32.toNatClampNeg y3))) fun σ9 => fX7_setColumns_2 p s x2  n (y3 + 1) σ9 else none else none)))
noncomputable def fX7_setColumns (p : Nat) (s : Nat) (x2 : Int32) (σ : Zs) : Option (Unit × Zs) :=
  fX7_setColumns_2 p s x2  FU 0 σ

noncomputable def fX7_copyColumns_2 (p : Nat) (s : Nat)  : Nat → Int32 → Zs → Option (Int32 × Zs)
  | 0, _, _ => none
  | n + 1, y2, σ =>
    if (zI σ 450 p s 0) ≤ y2 then (some ((zI σ 450 p s 0), σ)) else (if 1500 ≤ y2 then (some ((zI σ 450 p s 0), σ)) else (if 6 ≤ y2 then (some ((zI σ 450 p s 0), σ)) else (if gi y2 6 then if gi y2 1500 then lt (sJ σ 1224 0 0 (Int32.toNatClampNeg y2) (zJ σ 1475 p s (Int32.toNatClampNeg y2))) fun σ3 => fX7_copyColumns_2 p s  n (y2 + 1) σ3 else none else none)))
noncomputable def fX7_copyColumns (p : Nat) (s : Nat) (σ : Zs) : Option (Int32 × Zs) :=
  fX7_copyColumns_2 p s  FU 0 σ

noncomputable def fX7_columnNamed_2 (p : Nat) (s : Nat) (x1 : Int64)  : Nat → Int32 → Zs → Option (Int32 × Zs)
  | 0, _, _ => none
  | n + 1, y3, σ =>
    if (zI σ 450 p s 0) ≤ y3 then (some ((-1), σ)) else (if 6 ≤ y3 then (some ((-1), σ)) else (if gi y3 6 then if ((lg_cmp (zJ σ 1475 p s (Int32.toNatClampNeg y3)) x1) : Int32) = 0 then (some (y3, σ)) else (fX7_columnNamed_2 p s x1  n (y3 + 1) σ) else none))
noncomputable def fX7_columnNamed (p : Nat) (s : Nat) (x1 : Int64) (σ : Zs) : Option (Int32 × Zs) :=
  fX7_columnNamed_2 p s x1  FU 0 σ

noncomputable def fX7_columnAt (p : Nat) (s : Nat) (x1 : Int32) (σ : Zs) : Option (Int64 × Zs) :=
  if x1 < 0 then (some (0, σ)) else (if 6 ≤ x1 then (some (0, σ)) else (if gi x1 6 then some ((zJ σ 1475 p s (Int32.toNatClampNeg x1)), σ) else none))

noncomputable def fX7_hasColumnsOf_15 (p : Nat) (s : Nat) (p1 : Nat) (s1 : Nat)  : Nat → Int32 → Zs → Option (Int32 × Zs)
  | 0, _, _ => none
  | n + 1, y2, σ =>
    if (zI σ 450 p s 0) ≤ y2 then (some (1, σ)) else (if 6 ≤ y2 then (some (1, σ)) else (if gi y2 6 then if gi y2 6 then if ((lg_cmp (zJ σ 1475 p s (Int32.toNatClampNeg y2)) (zJ σ 1475 p1 s1 (Int32.toNatClampNeg y2))) : Int32) = 0 then (fX7_hasColumnsOf_15 p s p1 s1  n (y2 + 1) σ) else (some (0, σ)) else none else none))
noncomputable def fX7_hasColumnsOf (p : Nat) (s : Nat) (p1 : Nat) (s1 : Nat) (σ : Zs) : Option (Int32 × Zs) :=
  if (zI σ 450 p s 0) = (zI σ 450 p1 s1 0) then (fX7_hasColumnsOf_15 p s p1 s1  FU 0 σ) else (some (0, σ))

noncomputable def fX7_setPart (p : Nat) (s : Nat) (x1 : Int32) (x2 : Int32) (σ : Zs) : Option (Unit × Zs) :=
  if x1 < 0 then (some ((), σ)) else (if 6 ≤ x1 then (some ((), σ)) else (if gi x1 6 then lt (sI σ 1483 p s (Int32.toNatClampNeg x1) x2) fun σ2 => some ((), σ2) else none))

noncomputable def fX7_setCode (p : Nat) (s : Nat) (x1 : Int32) (x2 : Int32) (x3 : Int32) (σ : Zs) : Option (Unit × Zs) :=
  if x1 < 0 then (some ((), σ)) else (if 6 ≤ x1 then (some ((), σ)) else (if gi x1 6 then lt (sI σ 1481 p s (Int32.toNatClampNeg x1) x2) fun σ2 => if gi x1 6 then lt (sI σ2 1482 p s (Int32.toNatClampNeg x1) x3) fun σ5 => some ((), σ5) else none else none))

noncomputable def fX7_dropRows (p : Nat) (s : Nat) (σ : Zs) : Option (Unit × Zs) :=
  bq (fX8_clear p s (zI σ 450 p s 0) σ) fun v1 σ2 => lt (sI σ2 461 p s 0 (-1)) fun σ5 => if gi 0 2 then lt (sI σ5 1486 p s (Int32.toNatClampNeg 0) 0) fun σ8 => if gi 1 2 then lt (sI σ8 1486 p s (Int32.toNatClampNeg 1) 0) fun σ11 => bq (fX10_clear p s σ11) fun v13 σ14 => some ((), σ14) else none else none

set_option maxRecDepth 20000 in
set_option maxHeartbeats 4000000 in
theorem s_X7_clear {A : Nat → Nat → Nat → Nat} {h : Hp} {σ ρ σ' : Zs} {v : Unit} {p : Nat} {s : Nat} (hv : vdb (A 16 0 0) 7 p s = true) (hz : Rp A h σ ρ) (hr : fX7_clear p s σ = some (v, σ')) : ∀ l : Launch, Sp l mX7_clear 0 0 0 [.ref (A 7 p s)] h (QV A v σ' ρ) X0 := by
  intro l
  refine Sp.of rfl rfl (lv := [(0, .ref (A 7 p s))]) (Nat.le_of_ble_eq_true rfl) rfl (fun x hf hrm => ?_)
  rw [fX7_clear.eq_1] at hr
  refine w_aload_n 0 dX7_clear_0 rfl rfl rfl ?_
  refine w_iconst 0 dX7_clear_1 rfl rfl ?_
  refine p_X7_49 dX7_clear_2 rfl (hz.o7 hv) ?_
  obtain ⟨σ1, e2, hr⟩ := lt_e hr
  have hz := (hz.s449 (v := 0) hv).ts e2
  refine w_aload_n 0 dX7_clear_5 rfl rfl rfl ?_
  refine g_X7_15 dX7_clear_6 rfl (hz.o7 hv) (hz.r452 hv) ?_
  refine w_iconst 0 dX7_clear_9 rfl rfl ?_
  refine w_iconst (-1) dX7_clear_10 rfl rfl ?_
  obtain ⟨g3, hr⟩ := gd hr
  refine w_iast dX7_clear_11 rfl (hz.k452 hv) (gin (hz.n452 hv) g3) ?_
  obtain ⟨σ4, e5, hr⟩ := lt_e hr
  have hz := (hz.s452 (i := (Int32.toNatClampNeg 0)) (v := (-1)) hv).ts e5
  refine w_aload_n 0 dX7_clear_12 rfl rfl rfl ?_
  refine g_X7_15 dX7_clear_13 rfl (hz.o7 hv) (hz.r452 hv) ?_
  refine w_iconst 1 dX7_clear_16 rfl rfl ?_
  refine w_iconst (-1) dX7_clear_17 rfl rfl ?_
  obtain ⟨g6, hr⟩ := gd hr
  refine w_iast dX7_clear_18 rfl (hz.k452 hv) (gin (hz.n452 hv) g6) ?_
  obtain ⟨σ7, e8, hr⟩ := lt_e hr
  have hz := (hz.s452 (i := (Int32.toNatClampNeg 1)) (v := (-1)) hv).ts e8
  refine w_aload_n 0 dX7_clear_19 rfl rfl rfl ?_
  refine w_iconst 0 dX7_clear_20 rfl rfl ?_
  refine p_X7_53 dX7_clear_21 rfl (hz.o7 hv) ?_
  obtain ⟨σ9, e10, hr⟩ := lt_e hr
  have hz := (hz.s453 (v := 0) hv).ts e10
  refine w_aload_n 0 dX7_clear_24 rfl rfl rfl ?_
  refine w_iconst 0 dX7_clear_25 rfl rfl ?_
  refine p_X7_56 dX7_clear_26 rfl (hz.o7 hv) ?_
  obtain ⟨σ11, e12, hr⟩ := lt_e hr
  have hz := (hz.s454 (v := 0) hv).ts e12
  refine w_aload_n 0 dX7_clear_29 rfl rfl rfl ?_
  refine w_iconst 0 dX7_clear_30 rfl rfl ?_
  refine p_X7_59 dX7_clear_31 rfl (hz.o7 hv) ?_
  obtain ⟨σ13, e14, hr⟩ := lt_e hr
  have hz := (hz.s455 (v := 0) hv).ts e14
  refine w_aload_n 0 dX7_clear_34 rfl rfl rfl ?_
  refine w_iconst 0 dX7_clear_35 rfl rfl ?_
  refine p_X7_62 dX7_clear_36 rfl (hz.o7 hv) ?_
  obtain ⟨σ15, e16, hr⟩ := lt_e hr
  have hz := (hz.s456 (v := 0) hv).ts e16
  refine w_vret hf dX7_clear_39 rfl (Nat.le_of_ble_eq_true rfl) (Nat.le_of_ble_eq_true rfl) ?_
  obtain ⟨rfl, rfl⟩ := ret_inj hr
  exact ⟨rfl, hz⟩

set_option maxRecDepth 20000 in
set_option maxHeartbeats 4000000 in
theorem w_X7_setColumns_2 {A : Nat → Nat → Nat → Nat} {ρ σ' : Zs} {v : Unit} {x : Cxt} {p : Nat} {s : Nat} {x2 : Int32}  (hf : m_fin 0 0 (QV A v σ' ρ) X0 x) (hrm : m_rm 0 0 0 x) (hv : vdb (A 16 0 0) 7 p s = true) : ∀ (n : Nat) (y3 : Int32) (σ : Zs) (h : Hp), Rp A h σ ρ → fX7_setColumns_2 p s x2  n y3 σ = some (v, σ') → wp x mX7_setColumns 2 [(0, .ref (A 7 p s)), (1, .ref (A 1224 0 0)), (2, .int x2), (3, .int y3)] [] h 0 0
  | 0, _, σ, h => fun hz hr => by
    rw [fX7_setColumns_2.eq_1] at hr
    exact nono hr
  | n + 1, y3, σ, h => fun hz hr => by
    rw [fX7_setColumns_2.eq_2] at hr
    refine w_iload_n 3 dX7_setColumns_2 rfl rfl rfl ?_
    refine w_iload_n 2 dX7_setColumns_3 rfl rfl rfl ?_
    refine w_icmp_ge 37 dX7_setColumns_4 rfl rfl (fun q4 => ?_) (fun q4 => ?_)
    · have hr := bt q4 hr
      refine w_aload_n 0 dX7_setColumns_37 rfl rfl rfl ?_
      refine w_iload_n 2 dX7_setColumns_38 rfl rfl rfl ?_
      refine p_X7_65 dX7_setColumns_39 rfl (hz.o7 hv) ?_
      obtain ⟨σ1, e2, hr⟩ := lt_e hr
      have hz := (hz.s450 (v := x2) hv).ts e2
      refine w_vret hf dX7_setColumns_42 rfl (Nat.le_of_ble_eq_true rfl) (Nat.le_of_ble_eq_true rfl) ?_
      obtain ⟨rfl, rfl⟩ := ret_inj hr
      exact ⟨rfl, hz⟩
    · have hr := bf q4 hr
      refine w_iload_n 3 dX7_setColumns_7 rfl rfl rfl ?_
      refine w_aload_n 1 dX7_setColumns_8 rfl rfl rfl ?_
      refine w_alen 1 dX7_setColumns_9 rfl (by decide) (by decide) (fun _ => rfl) (hz.k200 rfl) (v := 1500) (by rw [hz.n200 rfl]; rfl) ?_
      refine w_icmp_ge 37 dX7_setColumns_10 rfl rfl (fun q10 => ?_) (fun q10 => ?_)
      · have hr := bt q10 hr
        refine w_aload_n 0 dX7_setColumns_37 rfl rfl rfl ?_
        refine w_iload_n 2 dX7_setColumns_38 rfl rfl rfl ?_
        refine p_X7_65 dX7_setColumns_39 rfl (hz.o7 hv) ?_
        obtain ⟨σ3, e4, hr⟩ := lt_e hr
        have hz := (hz.s450 (v := x2) hv).ts e4
        refine w_vret hf dX7_setColumns_42 rfl (Nat.le_of_ble_eq_true rfl) (Nat.le_of_ble_eq_true rfl) ?_
        obtain ⟨rfl, rfl⟩ := ret_inj hr
        exact ⟨rfl, hz⟩
      · have hr := bf q10 hr
        refine w_iload_n 3 dX7_setColumns_13 rfl rfl rfl ?_
        refine w_aload_n 0 dX7_setColumns_14 rfl rfl rfl ?_
        refine g_X7_9 dX7_setColumns_15 rfl (hz.o7 hv) (hz.r451 hv) ?_
        refine w_alen 1 dX7_setColumns_18 rfl (by decide) (by decide) (fun _ => rfl) (hz.k451 hv) (v := 6) (by rw [hz.n451 hv]; rfl) ?_
        refine w_icmp_ge 37 dX7_setColumns_19 rfl rfl (fun q19 => ?_) (fun q19 => ?_)
        · have hr := bt q19 hr
          refine w_aload_n 0 dX7_setColumns_37 rfl rfl rfl ?_
          refine w_iload_n 2 dX7_setColumns_38 rfl rfl rfl ?_
          refine p_X7_65 dX7_setColumns_39 rfl (hz.o7 hv) ?_
          obtain ⟨σ5, e6, hr⟩ := lt_e hr
          have hz := (hz.s450 (v := x2) hv).ts e6
          refine w_vret hf dX7_setColumns_42 rfl (Nat.le_of_ble_eq_true rfl) (Nat.le_of_ble_eq_true rfl) ?_
          obtain ⟨rfl, rfl⟩ := ret_inj hr
          exact ⟨rfl, hz⟩
        · have hr := bf q19 hr
          refine w_aload_n 0 dX7_setColumns_22 rfl rfl rfl ?_
          refine g_X7_9 dX7_setColumns_23 rfl (hz.o7 hv) (hz.r451 hv) ?_
          refine w_iload_n 3 dX7_setColumns_26 rfl rfl rfl ?_
          refine w_aload_n 1 dX7_setColumns_27 rfl rfl rfl ?_
          refine w_iload_n 3 dX7_setColumns_28 rfl rfl rfl ?_
          obtain ⟨g7, hr⟩ := gd hr
          refine w_lald dX7_setColumns_29 rfl (hz.k200 rfl) (gin (hz.n200 rfl) g7) (hz.x200 rfl) ?_
          obtain ⟨g8, hr⟩ := gd hr
          refine w_last dX7_setColumns_30 rfl (hz.k451 hv) (gin (hz.n451 hv) g8) ?_
          obtain ⟨σ9, e10, hr⟩ := lt_e hr
          have hz := (hz.s451 (i := (Int32.toNatClampNeg y3)) (v := (zJ σ 1224 0 0 (Int32.toNatClampNeg y3))) hv).ts e10
          refine w_iinc 3 (y3 + 1) [(3, .int (y3 + 1)), (0, .ref (A 7 p s)), (1, .ref (A 1224 0 0)), (2, .int x2)] dX7_setColumns_31 rfl rfl rfl (by decide) rfl ?_
          refine w_goto 2 dX7_setColumns_34 rfl ?_
          refine w_lv [(0, .ref (A 7 p s)), (1, .ref (A 1224 0 0)), (2, .int x2), (3, .int (y3 + 1))] [1, 2, 3, 0] rfl ?_
          exact w_X7_setColumns_2 hf hrm hv  n (y3 + 1) _ _ hz  hr
set_option maxRecDepth 20000 in
set_option maxHeartbeats 4000000 in
theorem s_X7_setColumns {A : Nat → Nat → Nat → Nat} {h : Hp} {σ ρ σ' : Zs} {v : Unit} {p : Nat} {s : Nat} {x2 : Int32} (hv : vdb (A 16 0 0) 7 p s = true) (hz : Rp A h σ ρ) (hr : fX7_setColumns p s x2 σ = some (v, σ')) : ∀ l : Launch, Sp l mX7_setColumns 0 0 0 [.ref (A 7 p s), .ref (A 1224 0 0), .int x2] h (QV A v σ' ρ) X0 := by
  intro l
  refine Sp.of rfl rfl (lv := [(0, .ref (A 7 p s)), (1, .ref (A 1224 0 0)), (2, .int x2)]) (Nat.le_of_ble_eq_true rfl) rfl (fun x hf hrm => ?_)
  rw [fX7_setColumns.eq_1] at hr
  refine w_iconst 0 dX7_setColumns_0 rfl rfl ?_
  refine w_istore_n [(3, .int 0), (0, .ref (A 7 p s)), (1, .ref (A 1224 0 0)), (2, .int x2)] dX7_setColumns_1 rfl rfl (by decide) rfl ?_
  refine w_lv [(0, .ref (A 7 p s)), (1, .ref (A 1224 0 0)), (2, .int x2), (3, .int 0)] [1, 2, 3, 0] rfl ?_
  exact w_X7_setColumns_2 hf hrm hv  FU 0 _ _ hz  hr

set_option maxRecDepth 20000 in
set_option maxHeartbeats 4000000 in
theorem w_X7_copyColumns_2 {A : Nat → Nat → Nat → Nat} {ρ σ' : Zs} {v : Int32} {x : Cxt} {p : Nat} {s : Nat}  (hf : m_fin 0 0 (QI A v σ' ρ) X0 x) (hrm : m_rm 0 0 0 x) (hv : vdb (A 16 0 0) 7 p s = true) : ∀ (n : Nat) (y2 : Int32) (σ : Zs) (h : Hp), Rp A h σ ρ → fX7_copyColumns_2 p s  n y2 σ = some (v, σ') → wp x mX7_copyColumns 2 [(0, .ref (A 7 p s)), (1, .ref (A 1224 0 0)), (2, .int y2)] [] h 0 0
  | 0, _, σ, h => fun hz hr => by
    rw [fX7_copyColumns_2.eq_1] at hr
    exact nono hr
  | n + 1, y2, σ, h => fun hz hr => by
    rw [fX7_copyColumns_2.eq_2] at hr
    refine w_iload_n 2 dX7_copyColumns_2 rfl rfl rfl ?_
    refine w_aload_n 0 dX7_copyColumns_3 rfl rfl rfl ?_
    refine g_X7_65 dX7_copyColumns_4 rfl (hz.o7 hv) (hz.i450 hv) ?_
    refine w_icmp_ge 40 dX7_copyColumns_7 rfl rfl (fun q7 => ?_) (fun q7 => ?_)
    · have hr := bt q7 hr
      refine w_aload_n 0 dX7_copyColumns_40 rfl rfl rfl ?_
      refine g_X7_65 dX7_copyColumns_41 rfl (hz.o7 hv) (hz.i450 hv) ?_
      refine w_iret hf dX7_copyColumns_44 rfl (Nat.le_of_ble_eq_true rfl) (Nat.le_of_ble_eq_true rfl) ?_
      obtain ⟨rfl, rfl⟩ := ret_inj hr
      exact ⟨rfl, hz⟩
    · have hr := bf q7 hr
      refine w_iload_n 2 dX7_copyColumns_10 rfl rfl rfl ?_
      refine w_aload_n 1 dX7_copyColumns_11 rfl rfl rfl ?_
      refine w_alen 1 dX7_copyColumns_12 rfl (by decide) (by decide) (fun _ => rfl) (hz.k200 rfl) (v := 1500) (by rw [hz.n200 rfl]; rfl) ?_
      refine w_icmp_ge 40 dX7_copyColumns_13 rfl rfl (fun q13 => ?_) (fun q13 => ?_)
      · have hr := bt q13 hr
        refine w_aload_n 0 dX7_copyColumns_40 rfl rfl rfl ?_
        refine g_X7_65 dX7_copyColumns_41 rfl (hz.o7 hv) (hz.i450 hv) ?_
        refine w_iret hf dX7_copyColumns_44 rfl (Nat.le_of_ble_eq_true rfl) (Nat.le_of_ble_eq_true rfl) ?_
        obtain ⟨rfl, rfl⟩ := ret_inj hr
        exact ⟨rfl, hz⟩
      · have hr := bf q13 hr
        refine w_iload_n 2 dX7_copyColumns_16 rfl rfl rfl ?_
        refine w_aload_n 0 dX7_copyColumns_17 rfl rfl rfl ?_
        refine g_X7_9 dX7_copyColumns_18 rfl (hz.o7 hv) (hz.r451 hv) ?_
        refine w_alen 1 dX7_copyColumns_21 rfl (by decide) (by decide) (fun _ => rfl) (hz.k451 hv) (v := 6) (by rw [hz.n451 hv]; rfl) ?_
        refine w_icmp_ge 40 dX7_copyColumns_22 rfl rfl (fun q22 => ?_) (fun q22 => ?_)
        · have hr := bt q22 hr
          refine w_aload_n 0 dX7_copyColumns_40 rfl rfl rfl ?_
          refine g_X7_65 dX7_copyColumns_41 rfl (hz.o7 hv) (hz.i450 hv) ?_
          refine w_iret hf dX7_copyColumns_44 rfl (Nat.le_of_ble_eq_true rfl) (Nat.le_of_ble_eq_true rfl) ?_
          obtain ⟨rfl, rfl⟩ := ret_inj hr
          exact ⟨rfl, hz⟩
        · have hr := bf q22 hr
          refine w_aload_n 1 dX7_copyColumns_25 rfl rfl rfl ?_
          refine w_iload_n 2 dX7_copyColumns_26 rfl rfl rfl ?_
          refine w_aload_n 0 dX7_copyColumns_27 rfl rfl rfl ?_
          refine g_X7_9 dX7_copyColumns_28 rfl (hz.o7 hv) (hz.r451 hv) ?_
          refine w_iload_n 2 dX7_copyColumns_31 rfl rfl rfl ?_
          obtain ⟨g1, hr⟩ := gd hr
          refine w_lald dX7_copyColumns_32 rfl (hz.k451 hv) (gin (hz.n451 hv) g1) (hz.x451 hv) ?_
          obtain ⟨g2, hr⟩ := gd hr
          refine w_last dX7_copyColumns_33 rfl (hz.k200 rfl) (gin (hz.n200 rfl) g2) ?_
          obtain ⟨σ3, e4, hr⟩ := lt_e hr
          have hz := (hz.s200 (i := (Int32.toNatClampNeg y2)) (v := (zJ σ 1475 p s (Int32.toNatClampNeg y2))) rfl).ts e4
          refine w_iinc 2 (y2 + 1) [(2, .int (y2 + 1)), (0, .ref (A 7 p s)), (1, .ref (A 1224 0 0))] dX7_copyColumns_34 rfl rfl rfl (by decide) rfl ?_
          refine w_goto 2 dX7_copyColumns_37 rfl ?_
          refine w_lv [(0, .ref (A 7 p s)), (1, .ref (A 1224 0 0)), (2, .int (y2 + 1))] [1, 2, 0] rfl ?_
          exact w_X7_copyColumns_2 hf hrm hv  n (y2 + 1) _ _ hz  hr
set_option maxRecDepth 20000 in
set_option maxHeartbeats 4000000 in
theorem s_X7_copyColumns {A : Nat → Nat → Nat → Nat} {h : Hp} {σ ρ σ' : Zs} {v : Int32} {p : Nat} {s : Nat} (hv : vdb (A 16 0 0) 7 p s = true) (hz : Rp A h σ ρ) (hr : fX7_copyColumns p s σ = some (v, σ')) : ∀ l : Launch, Sp l mX7_copyColumns 0 0 0 [.ref (A 7 p s), .ref (A 1224 0 0)] h (QI A v σ' ρ) X0 := by
  intro l
  refine Sp.of rfl rfl (lv := [(0, .ref (A 7 p s)), (1, .ref (A 1224 0 0))]) (Nat.le_of_ble_eq_true rfl) rfl (fun x hf hrm => ?_)
  rw [fX7_copyColumns.eq_1] at hr
  refine w_iconst 0 dX7_copyColumns_0 rfl rfl ?_
  refine w_istore_n [(2, .int 0), (0, .ref (A 7 p s)), (1, .ref (A 1224 0 0))] dX7_copyColumns_1 rfl rfl (by decide) rfl ?_
  refine w_lv [(0, .ref (A 7 p s)), (1, .ref (A 1224 0 0)), (2, .int 0)] [1, 2, 0] rfl ?_
  exact w_X7_copyColumns_2 hf hrm hv  FU 0 _ _ hz  hr

set_option maxRecDepth 20000 in
set_option maxHeartbeats 4000000 in
theorem w_X7_columnNamed_2 {A : Nat → Nat → Nat → Nat} {ρ σ' : Zs} {v : Int32} {x : Cxt} {p : Nat} {s : Nat} {x1 : Int64}  (hf : m_fin 0 0 (QI A v σ' ρ) X0 x) (hrm : m_rm 0 0 0 x) (hv : vdb (A 16 0 0) 7 p s = true) : ∀ (n : Nat) (y3 : Int32) (σ : Zs) (h : Hp), Rp A h σ ρ → fX7_columnNamed_2 p s x1  n y3 σ = some (v, σ') → wp x mX7_columnNamed 2 [(0, .ref (A 7 p s)), (1, .long x1), (3, .int y3)] [] h 0 0
  | 0, _, σ, h => fun hz hr => by
    rw [fX7_columnNamed_2.eq_1] at hr
    exact nono hr
  | n + 1, y3, σ, h => fun hz hr => by
    rw [fX7_columnNamed_2.eq_2] at hr
    refine w_iload_n 2 dX7_columnNamed_2 rfl rfl rfl ?_
    refine w_aload_n 0 dX7_columnNamed_3 rfl rfl rfl ?_
    refine g_X7_65 dX7_columnNamed_4 rfl (hz.o7 hv) (hz.i450 hv) ?_
    refine w_icmp_ge 38 dX7_columnNamed_7 rfl rfl (fun q7 => ?_) (fun q7 => ?_)
    · have hr := bt q7 hr
      refine w_iconst (-1) dX7_columnNamed_38 rfl rfl ?_
      refine w_iret hf dX7_columnNamed_39 rfl (Nat.le_of_ble_eq_true rfl) (Nat.le_of_ble_eq_true rfl) ?_
      obtain ⟨rfl, rfl⟩ := ret_inj hr
      exact ⟨rfl, hz⟩
    · have hr := bf q7 hr
      refine w_iload_n 2 dX7_columnNamed_10 rfl rfl rfl ?_
      refine w_aload_n 0 dX7_columnNamed_11 rfl rfl rfl ?_
      refine g_X7_9 dX7_columnNamed_12 rfl (hz.o7 hv) (hz.r451 hv) ?_
      refine w_alen 1 dX7_columnNamed_15 rfl (by decide) (by decide) (fun _ => rfl) (hz.k451 hv) (v := 6) (by rw [hz.n451 hv]; rfl) ?_
      refine w_icmp_ge 38 dX7_columnNamed_16 rfl rfl (fun q16 => ?_) (fun q16 => ?_)
      · have hr := bt q16 hr
        refine w_iconst (-1) dX7_columnNamed_38 rfl rfl ?_
        refine w_iret hf dX7_columnNamed_39 rfl (Nat.le_of_ble_eq_true rfl) (Nat.le_of_ble_eq_true rfl) ?_
        obtain ⟨rfl, rfl⟩ := ret_inj hr
        exact ⟨rfl, hz⟩
      · have hr := bf q16 hr
        refine w_aload_n 0 dX7_columnNamed_19 rfl rfl rfl ?_
        refine g_X7_9 dX7_columnNamed_20 rfl (hz.o7 hv) (hz.r451 hv) ?_
        refine w_iload_n 2 dX7_columnNamed_23 rfl rfl rfl ?_
        obtain ⟨g1, hr⟩ := gd hr
        refine w_lald dX7_columnNamed_24 rfl (hz.k451 hv) (gin (hz.n451 hv) g1) (hz.x451 hv) ?_
        refine w_lload_n 1 dX7_columnNamed_25 rfl rfl rfl ?_
        refine w_lcmp dX7_columnNamed_26 rfl ?_
        refine w_if_ne 32 dX7_columnNamed_27 rfl rfl (fun q27 => ?_) (fun q27 => ?_)
        · have hr := bf q27 hr
          refine w_iinc 2 (y3 + 1) [(3, .int (y3 + 1)), (0, .ref (A 7 p s)), (1, .long x1)] dX7_columnNamed_32 rfl rfl rfl (by decide) rfl ?_
          refine w_goto 2 dX7_columnNamed_35 rfl ?_
          refine w_lv [(0, .ref (A 7 p s)), (1, .long x1), (3, .int (y3 + 1))] [1, 2, 0] rfl ?_
          exact w_X7_columnNamed_2 hf hrm hv  n (y3 + 1) _ _ hz  hr
        · have hr := bt q27 hr
          refine w_iload_n 2 dX7_columnNamed_30 rfl rfl rfl ?_
          refine w_iret hf dX7_columnNamed_31 rfl (Nat.le_of_ble_eq_true rfl) (Nat.le_of_ble_eq_true rfl) ?_
          obtain ⟨rfl, rfl⟩ := ret_inj hr
          exact ⟨rfl, hz⟩
set_option maxRecDepth 20000 in
set_option maxHeartbeats 4000000 in
theorem s_X7_columnNamed {A : Nat → Nat → Nat → Nat} {h : Hp} {σ ρ σ' : Zs} {v : Int32} {p : Nat} {s : Nat} {x1 : Int64} (hv : vdb (A 16 0 0) 7 p s = true) (hz : Rp A h σ ρ) (hr : fX7_columnNamed p s x1 σ = some (v, σ')) : ∀ l : Launch, Sp l mX7_columnNamed 0 0 0 [.ref (A 7 p s), .long x1] h (QI A v σ' ρ) X0 := by
  intro l
  refine Sp.of rfl rfl (lv := [(0, .ref (A 7 p s)), (1, .long x1)]) (Nat.le_of_ble_eq_true rfl) rfl (fun x hf hrm => ?_)
  rw [fX7_columnNamed.eq_1] at hr
  refine w_iconst 0 dX7_columnNamed_0 rfl rfl ?_
  refine w_istore_n [(3, .int 0), (0, .ref (A 7 p s)), (1, .long x1)] dX7_columnNamed_1 rfl rfl (by decide) rfl ?_
  refine w_lv [(0, .ref (A 7 p s)), (1, .long x1), (3, .int 0)] [1, 2, 0] rfl ?_
  exact w_X7_columnNamed_2 hf hrm hv  FU 0 _ _ hz  hr

set_option maxRecDepth 20000 in
set_option maxHeartbeats 4000000 in
theorem s_X7_columnAt {A : Nat → Nat → Nat → Nat} {h : Hp} {σ ρ σ' : Zs} {v : Int64} {p : Nat} {s : Nat} {x1 : Int32} (hv : vdb (A 16 0 0) 7 p s = true) (hz : Rp A h σ ρ) (hr : fX7_columnAt p s x1 σ = some (v, σ')) : ∀ l : Launch, Sp l mX7_columnAt 0 0 0 [.ref (A 7 p s), .int x1] h (QJ A v σ' ρ) X0 := by
  intro l
  refine Sp.of rfl rfl (lv := [(0, .ref (A 7 p s)), (1, .int x1)]) (Nat.le_of_ble_eq_true rfl) rfl (fun x hf hrm => ?_)
  rw [fX7_columnAt.eq_1] at hr
  refine w_iload_n 1 dX7_columnAt_0 rfl rfl rfl ?_
  refine w_if_lt 22 dX7_columnAt_1 rfl rfl (fun q1 => ?_) (fun q1 => ?_)
  · have hr := bt q1 hr
    refine w_lconst 0 dX7_columnAt_22 rfl rfl ?_
    refine w_lret hf dX7_columnAt_23 rfl (Nat.le_of_ble_eq_true rfl) (Nat.le_of_ble_eq_true rfl) ?_
    obtain ⟨rfl, rfl⟩ := ret_inj hr
    exact ⟨rfl, hz⟩
  · have hr := bf q1 hr
    refine w_iload_n 1 dX7_columnAt_4 rfl rfl rfl ?_
    refine w_aload_n 0 dX7_columnAt_5 rfl rfl rfl ?_
    refine g_X7_9 dX7_columnAt_6 rfl (hz.o7 hv) (hz.r451 hv) ?_
    refine w_alen 1 dX7_columnAt_9 rfl (by decide) (by decide) (fun _ => rfl) (hz.k451 hv) (v := 6) (by rw [hz.n451 hv]; rfl) ?_
    refine w_icmp_ge 22 dX7_columnAt_10 rfl rfl (fun q10 => ?_) (fun q10 => ?_)
    · have hr := bt q10 hr
      refine w_lconst 0 dX7_columnAt_22 rfl rfl ?_
      refine w_lret hf dX7_columnAt_23 rfl (Nat.le_of_ble_eq_true rfl) (Nat.le_of_ble_eq_true rfl) ?_
      obtain ⟨rfl, rfl⟩ := ret_inj hr
      exact ⟨rfl, hz⟩
    · have hr := bf q10 hr
      refine w_aload_n 0 dX7_columnAt_13 rfl rfl rfl ?_
      refine g_X7_9 dX7_columnAt_14 rfl (hz.o7 hv) (hz.r451 hv) ?_
      refine w_iload_n 1 dX7_columnAt_17 rfl rfl rfl ?_
      obtain ⟨g1, hr⟩ := gd hr
      refine w_lald dX7_columnAt_18 rfl (hz.k451 hv) (gin (hz.n451 hv) g1) (hz.x451 hv) ?_
      refine w_goto 23 dX7_columnAt_19 rfl ?_
      refine w_lret hf dX7_columnAt_23 rfl (Nat.le_of_ble_eq_true rfl) (Nat.le_of_ble_eq_true rfl) ?_
      obtain ⟨rfl, rfl⟩ := ret_inj hr
      exact ⟨rfl, hz⟩

set_option maxRecDepth 20000 in
set_option maxHeartbeats 4000000 in
theorem w_X7_hasColumnsOf_15 {A : Nat → Nat → Nat → Nat} {ρ σ' : Zs} {v : Int32} {x : Cxt} {p : Nat} {s : Nat} {p1 : Nat} {s1 : Nat}  (hf : m_fin 0 0 (QI A v σ' ρ) X0 x) (hrm : m_rm 0 0 0 x) (hv : vdb (A 16 0 0) 7 p s = true) (hV1 : vdb (A 16 0 0) 7 p1 s1 = true) : ∀ (n : Nat) (y2 : Int32) (σ : Zs) (h : Hp), Rp A h σ ρ → fX7_hasColumnsOf_15 p s p1 s1  n y2 σ = some (v, σ') → wp x mX7_hasColumnsOf 15 [(0, .ref (A 7 p s)), (1, .ref (A 7 p1 s1)), (2, .int y2)] [] h 0 0
  | 0, _, σ, h => fun hz hr => by
    rw [fX7_hasColumnsOf_15.eq_1] at hr
    exact nono hr
  | n + 1, y2, σ, h => fun hz hr => by
    rw [fX7_hasColumnsOf_15.eq_2] at hr
    refine w_iload_n 2 dX7_hasColumnsOf_15 rfl rfl rfl ?_
    refine w_aload_n 0 dX7_hasColumnsOf_16 rfl rfl rfl ?_
    refine g_X7_65 dX7_hasColumnsOf_17 rfl (hz.o7 hv) (hz.i450 hv) ?_
    refine w_icmp_ge 56 dX7_hasColumnsOf_20 rfl rfl (fun q20 => ?_) (fun q20 => ?_)
    · have hr := bt q20 hr
      refine w_iconst 1 dX7_hasColumnsOf_56 rfl rfl ?_
      refine w_zret hf dX7_hasColumnsOf_57 rfl rfl (Nat.le_of_ble_eq_true rfl) (Nat.le_of_ble_eq_true rfl) ?_
      obtain ⟨rfl, rfl⟩ := ret_inj hr
      exact ⟨rfl, hz⟩
    · have hr := bf q20 hr
      refine w_iload_n 2 dX7_hasColumnsOf_23 rfl rfl rfl ?_
      refine w_aload_n 0 dX7_hasColumnsOf_24 rfl rfl rfl ?_
      refine g_X7_9 dX7_hasColumnsOf_25 rfl (hz.o7 hv) (hz.r451 hv) ?_
      refine w_alen 1 dX7_hasColumnsOf_28 rfl (by decide) (by decide) (fun _ => rfl) (hz.k451 hv) (v := 6) (by rw [hz.n451 hv]; rfl) ?_
      refine w_icmp_ge 56 dX7_hasColumnsOf_29 rfl rfl (fun q29 => ?_) (fun q29 => ?_)
      · have hr := bt q29 hr
        refine w_iconst 1 dX7_hasColumnsOf_56 rfl rfl ?_
        refine w_zret hf dX7_hasColumnsOf_57 rfl rfl (Nat.le_of_ble_eq_true rfl) (Nat.le_of_ble_eq_true rfl) ?_
        obtain ⟨rfl, rfl⟩ := ret_inj hr
        exact ⟨rfl, hz⟩
      · have hr := bf q29 hr
        refine w_aload_n 0 dX7_hasColumnsOf_32 rfl rfl rfl ?_
        refine g_X7_9 dX7_hasColumnsOf_33 rfl (hz.o7 hv) (hz.r451 hv) ?_
        refine w_iload_n 2 dX7_hasColumnsOf_36 rfl rfl rfl ?_
        obtain ⟨g1, hr⟩ := gd hr
        refine w_lald dX7_hasColumnsOf_37 rfl (hz.k451 hv) (gin (hz.n451 hv) g1) (hz.x451 hv) ?_
        refine w_aload_n 1 dX7_hasColumnsOf_38 rfl rfl rfl ?_
        refine g_X7_9 dX7_hasColumnsOf_39 rfl (hz.o7 hV1) (hz.r451 hV1) ?_
        refine w_iload_n 2 dX7_hasColumnsOf_42 rfl rfl rfl ?_
        obtain ⟨g2, hr⟩ := gd hr
        refine w_lald dX7_hasColumnsOf_43 rfl (hz.k451 hV1) (gin (hz.n451 hV1) g2) (hz.x451 hV1) ?_
        refine w_lcmp dX7_hasColumnsOf_44 rfl ?_
        refine w_if_eq 50 dX7_hasColumnsOf_45 rfl rfl (fun q45 => ?_) (fun q45 => ?_)
        · have hr := bt q45 hr
          refine w_iinc 2 (y2 + 1) [(2, .int (y2 + 1)), (0, .ref (A 7 p s)), (1, .ref (A 7 p1 s1))] dX7_hasColumnsOf_50 rfl rfl rfl (by decide) rfl ?_
          refine w_goto 15 dX7_hasColumnsOf_53 rfl ?_
          refine w_lv [(0, .ref (A 7 p s)), (1, .ref (A 7 p1 s1)), (2, .int (y2 + 1))] [1, 2, 0] rfl ?_
          exact w_X7_hasColumnsOf_15 hf hrm hv hV1  n (y2 + 1) _ _ hz  hr
        · have hr := bf q45 hr
          refine w_iconst 0 dX7_hasColumnsOf_48 rfl rfl ?_
          refine w_zret hf dX7_hasColumnsOf_49 rfl rfl (Nat.le_of_ble_eq_true rfl) (Nat.le_of_ble_eq_true rfl) ?_
          obtain ⟨rfl, rfl⟩ := ret_inj hr
          exact ⟨rfl, hz⟩
set_option maxRecDepth 20000 in
set_option maxHeartbeats 4000000 in
theorem s_X7_hasColumnsOf {A : Nat → Nat → Nat → Nat} {h : Hp} {σ ρ σ' : Zs} {v : Int32} {p : Nat} {s : Nat} {p1 : Nat} {s1 : Nat} (hv : vdb (A 16 0 0) 7 p s = true) (hV1 : vdb (A 16 0 0) 7 p1 s1 = true) (hz : Rp A h σ ρ) (hr : fX7_hasColumnsOf p s p1 s1 σ = some (v, σ')) : ∀ l : Launch, Sp l mX7_hasColumnsOf 0 0 0 [.ref (A 7 p s), .ref (A 7 p1 s1)] h (QI A v σ' ρ) X0 := by
  intro l
  refine Sp.of rfl rfl (lv := [(0, .ref (A 7 p s)), (1, .ref (A 7 p1 s1))]) (Nat.le_of_ble_eq_true rfl) rfl (fun x hf hrm => ?_)
  rw [fX7_hasColumnsOf.eq_1] at hr
  refine w_aload_n 0 dX7_hasColumnsOf_0 rfl rfl rfl ?_
  refine g_X7_65 dX7_hasColumnsOf_1 rfl (hz.o7 hv) (hz.i450 hv) ?_
  refine w_aload_n 1 dX7_hasColumnsOf_4 rfl rfl rfl ?_
  refine g_X7_65 dX7_hasColumnsOf_5 rfl (hz.o7 hV1) (hz.i450 hV1) ?_
  refine w_icmp_eq 13 dX7_hasColumnsOf_8 rfl rfl (fun q8 => ?_) (fun q8 => ?_)
  · have hr := bt q8 hr
    refine w_iconst 0 dX7_hasColumnsOf_13 rfl rfl ?_
    refine w_istore_n [(2, .int 0), (0, .ref (A 7 p s)), (1, .ref (A 7 p1 s1))] dX7_hasColumnsOf_14 rfl rfl (by decide) rfl ?_
    refine w_lv [(0, .ref (A 7 p s)), (1, .ref (A 7 p1 s1)), (2, .int 0)] [1, 2, 0] rfl ?_
    exact w_X7_hasColumnsOf_15 hf hrm hv hV1  FU 0 _ _ hz  hr
  · have hr := bf q8 hr
    refine w_iconst 0 dX7_hasColumnsOf_11 rfl rfl ?_
    refine w_zret hf dX7_hasColumnsOf_12 rfl rfl (Nat.le_of_ble_eq_true rfl) (Nat.le_of_ble_eq_true rfl) ?_
    obtain ⟨rfl, rfl⟩ := ret_inj hr
    exact ⟨rfl, hz⟩

set_option maxRecDepth 20000 in
set_option maxHeartbeats 4000000 in
theorem s_X7_setPart {A : Nat → Nat → Nat → Nat} {h : Hp} {σ ρ σ' : Zs} {v : Unit} {p : Nat} {s : Nat} {x1 : Int32} {x2 : Int32} (hv : vdb (A 16 0 0) 7 p s = true) (hz : Rp A h σ ρ) (hr : fX7_setPart p s x1 x2 σ = some (v, σ')) : ∀ l : Launch, Sp l mX7_setPart 0 0 0 [.ref (A 7 p s), .int x1, .int x2] h (QV A v σ' ρ) X0 := by
  intro l
  refine Sp.of rfl rfl (lv := [(0, .ref (A 7 p s)), (1, .int x1), (2, .int x2)]) (Nat.le_of_ble_eq_true rfl) rfl (fun x hf hrm => ?_)
  rw [fX7_setPart.eq_1] at hr
  refine w_iload_n 1 dX7_setPart_0 rfl rfl rfl ?_
  refine w_if_lt 20 dX7_setPart_1 rfl rfl (fun q1 => ?_) (fun q1 => ?_)
  · have hr := bt q1 hr
    refine w_vret hf dX7_setPart_20 rfl (Nat.le_of_ble_eq_true rfl) (Nat.le_of_ble_eq_true rfl) ?_
    obtain ⟨rfl, rfl⟩ := ret_inj hr
    exact ⟨rfl, hz⟩
  · have hr := bf q1 hr
    refine w_iload_n 1 dX7_setPart_4 rfl rfl rfl ?_
    refine w_aload_n 0 dX7_setPart_5 rfl rfl rfl ?_
    refine g_X7_25 dX7_setPart_6 rfl (hz.o7 hv) (hz.r459 hv) ?_
    refine w_alen 0 dX7_setPart_9 rfl (by decide) (by decide) (fun _ => rfl) (hz.k459 hv) (v := 6) (by rw [hz.n459 hv]; rfl) ?_
    refine w_icmp_ge 20 dX7_setPart_10 rfl rfl (fun q10 => ?_) (fun q10 => ?_)
    · have hr := bt q10 hr
      refine w_vret hf dX7_setPart_20 rfl (Nat.le_of_ble_eq_true rfl) (Nat.le_of_ble_eq_true rfl) ?_
      obtain ⟨rfl, rfl⟩ := ret_inj hr
      exact ⟨rfl, hz⟩
    · have hr := bf q10 hr
      refine w_aload_n 0 dX7_setPart_13 rfl rfl rfl ?_
      refine g_X7_25 dX7_setPart_14 rfl (hz.o7 hv) (hz.r459 hv) ?_
      refine w_iload_n 1 dX7_setPart_17 rfl rfl rfl ?_
      refine w_iload_n 2 dX7_setPart_18 rfl rfl rfl ?_
      obtain ⟨g1, hr⟩ := gd hr
      refine w_iast dX7_setPart_19 rfl (hz.k459 hv) (gin (hz.n459 hv) g1) ?_
      obtain ⟨σ2, e3, hr⟩ := lt_e hr
      have hz := (hz.s459 (i := (Int32.toNatClampNeg x1)) (v := x2) hv).ts e3
      refine w_vret hf dX7_setPart_20 rfl (Nat.le_of_ble_eq_true rfl) (Nat.le_of_ble_eq_true rfl) ?_
      obtain ⟨rfl, rfl⟩ := ret_inj hr
      exact ⟨rfl, hz⟩

set_option maxRecDepth 20000 in
set_option maxHeartbeats 4000000 in
theorem s_X7_setCode {A : Nat → Nat → Nat → Nat} {h : Hp} {σ ρ σ' : Zs} {v : Unit} {p : Nat} {s : Nat} {x1 : Int32} {x2 : Int32} {x3 : Int32} (hv : vdb (A 16 0 0) 7 p s = true) (hz : Rp A h σ ρ) (hr : fX7_setCode p s x1 x2 x3 σ = some (v, σ')) : ∀ l : Launch, Sp l mX7_setCode 0 0 0 [.ref (A 7 p s), .int x1, .int x2, .int x3] h (QV A v σ' ρ) X0 := by
  intro l
  refine Sp.of rfl rfl (lv := [(0, .ref (A 7 p s)), (1, .int x1), (2, .int x2), (3, .int x3)]) (Nat.le_of_ble_eq_true rfl) rfl (fun x hf hrm => ?_)
  rw [fX7_setCode.eq_1] at hr
  refine w_iload_n 1 dX7_setCode_0 rfl rfl rfl ?_
  refine w_if_lt 27 dX7_setCode_1 rfl rfl (fun q1 => ?_) (fun q1 => ?_)
  · have hr := bt q1 hr
    refine w_vret hf dX7_setCode_27 rfl (Nat.le_of_ble_eq_true rfl) (Nat.le_of_ble_eq_true rfl) ?_
    obtain ⟨rfl, rfl⟩ := ret_inj hr
    exact ⟨rfl, hz⟩
  · have hr := bf q1 hr
    refine w_iload_n 1 dX7_setCode_4 rfl rfl rfl ?_
    refine w_aload_n 0 dX7_setCode_5 rfl rfl rfl ?_
    refine g_X7_19 dX7_setCode_6 rfl (hz.o7 hv) (hz.r457 hv) ?_
    refine w_alen 0 dX7_setCode_9 rfl (by decide) (by decide) (fun _ => rfl) (hz.k457 hv) (v := 6) (by rw [hz.n457 hv]; rfl) ?_
    refine w_icmp_ge 27 dX7_setCode_10 rfl rfl (fun q10 => ?_) (fun q10 => ?_)
    · have hr := bt q10 hr
      refine w_vret hf dX7_setCode_27 rfl (Nat.le_of_ble_eq_true rfl) (Nat.le_of_ble_eq_true rfl) ?_
      obtain ⟨rfl, rfl⟩ := ret_inj hr
      exact ⟨rfl, hz⟩
    · have hr := bf q10 hr
      refine w_aload_n 0 dX7_setCode_13 rfl rfl rfl ?_
      refine g_X7_19 dX7_setCode_14 rfl (hz.o7 hv) (hz.r457 hv) ?_
      refine w_iload_n 1 dX7_setCode_17 rfl rfl rfl ?_
      refine w_iload_n 2 dX7_setCode_18 rfl rfl rfl ?_
      obtain ⟨g1, hr⟩ := gd hr
      refine w_iast dX7_setCode_19 rfl (hz.k457 hv) (gin (hz.n457 hv) g1) ?_
      obtain ⟨σ2, e3, hr⟩ := lt_e hr
      have hz := (hz.s457 (i := (Int32.toNatClampNeg x1)) (v := x2) hv).ts e3
      refine w_aload_n 0 dX7_setCode_20 rfl rfl rfl ?_
      refine g_X7_22 dX7_setCode_21 rfl (hz.o7 hv) (hz.r458 hv) ?_
      refine w_iload_n 1 dX7_setCode_24 rfl rfl rfl ?_
      refine w_iload_n 3 dX7_setCode_25 rfl rfl rfl ?_
      obtain ⟨g4, hr⟩ := gd hr
      refine w_iast dX7_setCode_26 rfl (hz.k458 hv) (gin (hz.n458 hv) g4) ?_
      obtain ⟨σ5, e6, hr⟩ := lt_e hr
      have hz := (hz.s458 (i := (Int32.toNatClampNeg x1)) (v := x3) hv).ts e6
      refine w_vret hf dX7_setCode_27 rfl (Nat.le_of_ble_eq_true rfl) (Nat.le_of_ble_eq_true rfl) ?_
      obtain ⟨rfl, rfl⟩ := ret_inj hr
      exact ⟨rfl, hz⟩

set_option maxRecDepth 20000 in
set_option maxHeartbeats 4000000 in
theorem s_X7_dropRows {A : Nat → Nat → Nat → Nat} {h : Hp} {σ ρ σ' : Zs} {v : Unit} {p : Nat} {s : Nat} (hv : vdb (A 16 0 0) 7 p s = true) (hz : Rp A h σ ρ) (hr : fX7_dropRows p s σ = some (v, σ')) : ∀ l : Launch, Sp l mX7_dropRows 1 0 0 [.ref (A 7 p s)] h (QV A v σ' ρ) X0 := by
  intro l
  refine Sp.of rfl rfl (lv := [(0, .ref (A 7 p s))]) (Nat.le_of_ble_eq_true rfl) rfl (fun x hf hrm => ?_)
  rw [fX7_dropRows.eq_1] at hr
  refine w_aload_n 0 dX7_dropRows_0 rfl rfl rfl ?_
  refine g_X7_31 dX7_dropRows_1 rfl (hz.o7 hv) (hz.r460 hv) ?_
  refine w_aload_n 0 dX7_dropRows_4 rfl rfl rfl ?_
  refine g_X7_65 dX7_dropRows_5 rfl (hz.o7 hv) (hz.i450 hv) ?_
  obtain ⟨v1, σ2, e3, hr⟩ := bq_some hr
  refine c_X7_68 (As := [.int (zI σ 450 p s 0)]) (rest := []) (fun l => s_X8_clear hv hz e3 l) hrm dX7_dropRows_8 rfl rfl (Nat.le_of_ble_eq_true rfl) (Nat.le_of_ble_eq_true rfl) (Nat.le_of_ble_eq_true rfl) (hz.o8 hv) rfl (Nat.le_of_ble_eq_true rfl) (fun vr h2 hq => ?_) (fun E9 h9 hq => hq.elim)
  obtain ⟨rfl, hz⟩ := hq
  show wp _ _ 11 [(0, .ref (A 7 p s))] [] _ _ _
  refine w_aload_n 0 dX7_dropRows_11 rfl rfl rfl ?_
  refine w_iconst (-1) dX7_dropRows_12 rfl rfl ?_
  refine p_X7_72 dX7_dropRows_13 rfl (hz.o7 hv) ?_
  obtain ⟨σ5, e6, hr⟩ := lt_e hr
  have hz := (hz.s461 (v := (-1)) hv).ts e6
  refine w_aload_n 0 dX7_dropRows_16 rfl rfl rfl ?_
  refine g_X7_35 dX7_dropRows_17 rfl (hz.o7 hv) (hz.r462 hv) ?_
  refine w_iconst 0 dX7_dropRows_20 rfl rfl ?_
  refine w_iconst 0 dX7_dropRows_21 rfl rfl ?_
  obtain ⟨g7, hr⟩ := gd hr
  refine w_iast dX7_dropRows_22 rfl (hz.k462 hv) (gin (hz.n462 hv) g7) ?_
  obtain ⟨σ8, e9, hr⟩ := lt_e hr
  have hz := (hz.s462 (i := (Int32.toNatClampNeg 0)) (v := 0) hv).ts e9
  refine w_aload_n 0 dX7_dropRows_23 rfl rfl rfl ?_
  refine g_X7_35 dX7_dropRows_24 rfl (hz.o7 hv) (hz.r462 hv) ?_
  refine w_iconst 1 dX7_dropRows_27 rfl rfl ?_
  refine w_iconst 0 dX7_dropRows_28 rfl rfl ?_
  obtain ⟨g10, hr⟩ := gd hr
  refine w_iast dX7_dropRows_29 rfl (hz.k462 hv) (gin (hz.n462 hv) g10) ?_
  obtain ⟨σ11, e12, hr⟩ := lt_e hr
  have hz := (hz.s462 (i := (Int32.toNatClampNeg 1)) (v := 0) hv).ts e12
  refine w_aload_n 0 dX7_dropRows_30 rfl rfl rfl ?_
  refine g_X7_45 dX7_dropRows_31 rfl (hz.o7 hv) (hz.r464 hv) ?_
  obtain ⟨v13, σ14, e15, hr⟩ := bq_some hr
  refine c_X7_75 (As := []) (rest := []) (fun l => s_X10_clear hv hz e15 l) hrm dX7_dropRows_34 rfl rfl (Nat.le_of_ble_eq_true rfl) (Nat.le_of_ble_eq_true rfl) (Nat.le_of_ble_eq_true rfl) (hz.o10 hv) rfl (Nat.le_of_ble_eq_true rfl) (fun vr h2 hq => ?_) (fun E9 h9 hq => hq.elim)
  obtain ⟨rfl, hz⟩ := hq
  show wp _ _ 37 [(0, .ref (A 7 p s))] [] _ _ _
  refine w_vret hf dX7_dropRows_37 rfl (Nat.le_of_ble_eq_true rfl) (Nat.le_of_ble_eq_true rfl) ?_
  obtain ⟨rfl, rfl⟩ := ret_inj hr
  exact ⟨rfl, hz⟩

