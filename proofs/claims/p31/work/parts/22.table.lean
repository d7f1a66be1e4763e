/-! LIFTED: 22.table -/
noncomputable def fX8_clear (p : Nat) (s : Nat) (x1 : Int32) (σ : Zs) : Option (Unit × Zs) :=
  lt (sI σ 512 p s 0 0) fun σ1 => lt (sI σ1 513 p s 0 x1) fun σ3 => some ((), σ3)

noncomputable def fX8_timeOf (p : Nat) (s : Nat) (x1 : Int32) (σ : Zs) : Option (Int32 × Zs) :=
  if x1 < 0 then (some (0, σ)) else (if (zI σ 512 p s 0) ≤ x1 then (some (0, σ)) else (if gi x1 200 then some ((zI σ 1538 p s (Int32.toNatClampNeg x1)), σ) else none))

noncomputable def fX8_numberOf (p : Nat) (s : Nat) (x1 : Int32) (x2 : Int32) (σ : Zs) : Option (Int64 × Zs) :=
  if x1 < 0 then (some (0, σ)) else (if (zI σ 512 p s 0) ≤ x1 then (some (0, σ)) else (if x2 < 0 then (some (0, σ)) else (if (zI σ 513 p s 0) ≤ x2 then (some (0, σ)) else (if x2 < 6 then (if gi ((x1 * 6) + x2) 1200 then some ((zJ σ 1539 p s (Int32.toNatClampNeg ((x1 * 6) + x2))), σ) else none) else (some (0, σ))))))

noncomputable def fX8_add_29 (p : Nat) (s : Nat) (p1 : Nat) (s1 : Nat)  : Nat → Int32 → Zs → Option (Int32 × Zs)
  | 0, _, _ => none
  | n + 1, y2, σ =>
    if 6 ≤ y2 then (lt (sI σ 512 p s 0 ((zI σ 512 p s 0) + 1)) fun σ4 => some (1, σ4)) else (if 6 ≤ y2 then (lt (sI σ 512 p s 0 ((zI σ 512 p s 0) + 1)) fun σ6 => some (1, σ6)) else (if gi y2 6 then if gi (((zI σ 512 p s 0) * 6) + y2) 1200 then lt (sJ σ 1539 p s (Int32.toNatClampNeg (((zI σ 512 p s 0) * 6) + y2)) (zJ σ 1410 p1 s1 (Int32.toNatClampNeg y2))) fun σ10 => fX8_add_29 p s p1 s1  n (y2 + 1) σ10 else none else none))
noncomputable def fX8_add (p : Nat) (s : Nat) (p1 : Nat) (s1 : Nat) (σ : Zs) : Option (Int32 × Zs) :=
  if (zI σ 512 p s 0) < 200 then (if gi (zI σ 512 p s 0) 200 then lt (sI σ 1538 p s (Int32.toNatClampNeg (zI σ 512 p s 0)) (zI σ 384 p1 s1 0)) fun σ2 => fX8_add_29 p s p1 s1  FU 0 σ2 else none) else (some (0, σ))

noncomputable def fX8_copyTo_11 (p : Nat) (s : Nat) (x1 : Int32) (p2 : Nat) (s2 : Nat)  : Nat → Int32 → Zs → Option (Unit × Zs)
  | 0, _, _ => none
  | n + 1, y3, σ =>
    if (zI σ 513 p s 0) ≤ y3 then (some ((), σ)) else (bq (fX8_numberOf p s x1 y3 σ) fun v9 σ10 => bq (fX6_append p2 s2 v9 σ10) fun v13 σ14 => fX8_copyTo_11 p s x1 p2 s2  n (y3 + 1) σ14)
noncomputable def fX8_copyTo (p : Nat) (s : Nat) (x1 : Int32) (p2 : Nat) (s2 : Nat) (σ : Zs) : Option (Unit × Zs) :=
  bq (fX8_timeOf p s x1 σ) fun v1 σ2 => bq (fX6_startAt p2 s2 v1 σ2) fun v5 σ6 => fX8_copyTo_11 p s x1 p2 s2  FU 0 σ6

noncomputable def fX8_mixedInto_41 (p : Nat) (s : Nat) (x1 : Int64) (k15 : Int64 → Int32 → Zs → Option (Int64 × Zs)) : Nat → Int64 → Int32 → Int32 → Zs → Option (Int64 × Zs)
  | 0, _, _, _, _ => none
  | n + 1, y3, y5, y6, σ =>
    if (zI σ 513 p s 0) ≤ y6 then (k15 y3 (y5 + 1) σ) else (bq (fX8_numberOf p s y5 y6 σ) fun v5 σ6 => fX8_mixedInto_41 p s x1 k15 n ((y3 * 31) + v5) y5 (y6 + 1) σ6)
noncomputable def fX8_mixedInto_15 (p : Nat) (s : Nat) (x1 : Int64)  : Nat → Int64 → Int32 → Zs → Option (Int64 × Zs)
  | 0, _, _, _ => none
  | n + 1, y3, y5, σ =>
    if (zI σ 512 p s 0) ≤ y5 then (some (y3, σ)) else (bq (fX8_timeOf p s y5 σ) fun v1 σ2 => fX8_mixedInto_41 p s x1 (fun by3 by5 σb => fX8_mixedInto_15 p s x1  n by3 by5 σb) FU ((y3 * 31) + ((v1 : Int32).toInt64)) y5 0 σ2)
noncomputable def fX8_mixedInto (p : Nat) (s : Nat) (x1 : Int64) (σ : Zs) : Option (Int64 × Zs) :=
  fX8_mixedInto_15 p s x1  FU ((x1 * 31) + (((zI σ 512 p s 0) : Int32).toInt64)) 0 σ

set_option maxRecDepth 20000 in
set_option maxHeartbeats 4000000 in
theorem s_X8_clear {A : Nat → Nat → Nat → Nat} {h : Hp} {σ ρ σ' : Zs} {v : Unit} {p : Nat} {s : Nat} {x1 : Int32} (hv : vdb (A 16 0 0) 8 p s = true) (hz : Rp A h σ ρ) (hr : fX8_clear p s x1 σ = some (v, σ')) : ∀ l : Launch, Sp l mX8_clear 0 0 0 [.ref (A 8 p s), .int x1] h (QV A v σ' ρ) X0 := by
  intro l
  refine Sp.of rfl rfl (lv := [(0, .ref (A 8 p s)), (1, .int x1)]) (Nat.le_of_ble_eq_true rfl) rfl (fun x hf hrm => ?_)
  rw [fX8_clear.eq_1] at hr
  refine w_aload_n 0 dX8_clear_0 rfl rfl rfl ?_
  refine w_iconst 0 dX8_clear_1 rfl rfl ?_
  refine p_X8_19 dX8_clear_2 rfl (hz.o8 hv) ?_
  obtain ⟨σ1, e2, hr⟩ := lt_e hr
  have hz := (hz.s512 (v := 0) hv).ts e2
  refine w_aload_n 0 dX8_clear_5 rfl rfl rfl ?_
  refine w_iload_n 1 dX8_clear_6 rfl rfl rfl ?_
  refine p_X8_23 dX8_clear_7 rfl (hz.o8 hv) ?_
  obtain ⟨σ3, e4, hr⟩ := lt_e hr
  have hz := (hz.s513 (v := x1) hv).ts e4
  refine w_vret hf dX8_clear_10 rfl (Nat.le_of_ble_eq_true rfl) (Nat.le_of_ble_eq_true rfl) ?_
  obtain ⟨rfl, rfl⟩ := ret_inj hr
  exact ⟨rfl, hz⟩

set_option maxRecDepth 20000 in
set_option maxHeartbeats 4000000 in
theorem s_X8_timeOf {A : Nat → Nat → Nat → Nat} {h : Hp} {σ ρ σ' : Zs} {v : Int32} {p : Nat} {s : Nat} {x1 : Int32} (hv : vdb (A 16 0 0) 8 p s = true) (hz : Rp A h σ ρ) (hr : fX8_timeOf p s x1 σ = some (v, σ')) : ∀ l : Launch, Sp l mX8_timeOf 0 0 0 [.ref (A 8 p s), .int x1] h (QI A v σ' ρ) X0 := by
  intro l
  refine Sp.of rfl rfl (lv := [(0, .ref (A 8 p s)), (1, .int x1)]) (Nat.le_of_ble_eq_true rfl) rfl (fun x hf hrm => ?_)
  rw [fX8_timeOf.eq_1] at hr
  refine w_iload_n 1 dX8_timeOf_0 rfl rfl rfl ?_
  refine w_if_lt 21 dX8_timeOf_1 rfl rfl (fun q1 => ?_) (fun q1 => ?_)
  · have hr := bt q1 hr
    refine w_iconst 0 dX8_timeOf_21 rfl rfl ?_
    refine w_iret hf dX8_timeOf_22 rfl (Nat.le_of_ble_eq_true rfl) (Nat.le_of_ble_eq_true rfl) ?_
    obtain ⟨rfl, rfl⟩ := ret_inj hr
    exact ⟨rfl, hz⟩
  · have hr := bf q1 hr
    refine w_iload_n 1 dX8_timeOf_4 rfl rfl rfl ?_
    refine w_aload_n 0 dX8_timeOf_5 rfl rfl rfl ?_
    refine g_X8_19 dX8_timeOf_6 rfl (hz.o8 hv) (hz.i512 hv) ?_
    refine w_icmp_ge 21 dX8_timeOf_9 rfl rfl (fun q9 => ?_) (fun q9 => ?_)
    · have hr := bt q9 hr
      refine w_iconst 0 dX8_timeOf_21 rfl rfl ?_
      refine w_iret hf dX8_timeOf_22 rfl (Nat.le_of_ble_eq_true rfl) (Nat.le_of_ble_eq_true rfl) ?_
      obtain ⟨rfl, rfl⟩ := ret_inj hr
      exact ⟨rfl, hz⟩
    · have hr := bf q9 hr
      refine w_aload_n 0 dX8_timeOf_12 rfl rfl rfl ?_
      refine g_X8_9 dX8_timeOf_13 rfl (hz.o8 hv) (hz.r514 hv) ?_
      refine w_iload_n 1 dX8_timeOf_16 rfl rfl rfl ?_
      obtain ⟨g1, hr⟩ := gd hr
      refine w_iald dX8_timeOf_17 rfl (hz.k514 hv) (gin (hz.n514 hv) g1) (hz.x514 hv) ?_
      refine w_goto 22 dX8_timeOf_18 rfl ?_
      refine w_iret hf dX8_timeOf_22 rfl (Nat.le_of_ble_eq_true rfl) (Nat.le_of_ble_eq_true rfl) ?_
      obtain ⟨rfl, rfl⟩ := ret_inj hr
      exact ⟨rfl, hz⟩

set_option maxRecDepth 20000 in
set_option maxHeartbeats 4000000 in
theorem s_X8_numberOf {A : Nat → Nat → Nat → Nat} {h : Hp} {σ ρ σ' : Zs} {v : Int64} {p : Nat} {s : Nat} {x1 : Int32} {x2 : Int32} (hv : vdb (A 16 0 0) 8 p s = true) (hz : Rp A h σ ρ) (hr : fX8_numberOf p s x1 x2 σ = some (v, σ')) : ∀ l : Launch, Sp l mX8_numberOf 0 0 0 [.ref (A 8 p s), .int x1, .int x2] h (QJ A v σ' ρ) X0 := by
  intro l
  refine Sp.of rfl rfl (lv := [(0, .ref (A 8 p s)), (1, .int x1), (2, .int x2)]) (Nat.le_of_ble_eq_true rfl) rfl (fun x hf hrm => ?_)
  rw [fX8_numberOf.eq_1] at hr
  refine w_iload_n 1 dX8_numberOf_0 rfl rfl rfl ?_
  refine w_if_lt 30 dX8_numberOf_1 rfl rfl (fun q1 => ?_) (fun q1 => ?_)
  · have hr := bt q1 hr
    refine w_lconst 0 dX8_numberOf_30 rfl rfl ?_
    refine w_lret hf dX8_numberOf_31 rfl (Nat.le_of_ble_eq_true rfl) (Nat.le_of_ble_eq_true rfl) ?_
    obtain ⟨rfl, rfl⟩ := ret_inj hr
    exact ⟨rfl, hz⟩
  · have hr := bf q1 hr
    refine w_iload_n 1 dX8_numberOf_4 rfl rfl rfl ?_
    refine w_aload_n 0 dX8_numberOf_5 rfl rfl rfl ?_
    refine g_X8_19 dX8_numberOf_6 rfl (hz.o8 hv) (hz.i512 hv) ?_
    refine w_icmp_ge 30 dX8_numberOf_9 rfl rfl (fun q9 => ?_) (fun q9 => ?_)
    · have hr := bt q9 hr
      refine w_lconst 0 dX8_numberOf_30 rfl rfl ?_
      refine w_lret hf dX8_numberOf_31 rfl (Nat.le_of_ble_eq_true rfl) (Nat.le_of_ble_eq_true rfl) ?_
      obtain ⟨rfl, rfl⟩ := ret_inj hr
      exact ⟨rfl, hz⟩
    · have hr := bf q9 hr
      refine w_iload_n 2 dX8_numberOf_12 rfl rfl rfl ?_
      refine w_if_lt 30 dX8_numberOf_13 rfl rfl (fun q13 => ?_) (fun q13 => ?_)
      · have hr := bt q13 hr
        refine w_lconst 0 dX8_numberOf_30 rfl rfl ?_
        refine w_lret hf dX8_numberOf_31 rfl (Nat.le_of_ble_eq_true rfl) (Nat.le_of_ble_eq_true rfl) ?_
        obtain ⟨rfl, rfl⟩ := ret_inj hr
        exact ⟨rfl, hz⟩
      · have hr := bf q13 hr
        refine w_iload_n 2 dX8_numberOf_16 rfl rfl rfl ?_
        refine w_aload_n 0 dX8_numberOf_17 rfl rfl rfl ?_
        refine g_X8_23 dX8_numberOf_18 rfl (hz.o8 hv) (hz.i513 hv) ?_
        refine w_icmp_ge 30 dX8_numberOf_21 rfl rfl (fun q21 => ?_) (fun q21 => ?_)
        · have hr := bt q21 hr
          refine w_lconst 0 dX8_numberOf_30 rfl rfl ?_
          refine w_lret hf dX8_numberOf_31 rfl (Nat.le_of_ble_eq_true rfl) (Nat.le_of_ble_eq_true rfl) ?_
          obtain ⟨rfl, rfl⟩ := ret_inj hr
          exact ⟨rfl, hz⟩
        · have hr := bf q21 hr
          refine w_iload_n 2 dX8_numberOf_24 rfl rfl rfl ?_
          refine w_bipush 6 dX8_numberOf_25 rfl rfl ?_
          refine w_icmp_lt 32 dX8_numberOf_27 rfl rfl (fun q27 => ?_) (fun q27 => ?_)
          · have hr := bt q27 hr
            refine w_aload_n 0 dX8_numberOf_32 rfl rfl rfl ?_
            refine g_X8_15 dX8_numberOf_33 rfl (hz.o8 hv) (hz.r515 hv) ?_
            refine w_iload_n 1 dX8_numberOf_36 rfl rfl rfl ?_
            refine w_bipush 6 dX8_numberOf_37 rfl rfl ?_
            refine w_imul dX8_numberOf_39 rfl ?_
            refine w_iload_n 2 dX8_numberOf_40 rfl rfl rfl ?_
            refine w_iadd dX8_numberOf_41 rfl ?_
            obtain ⟨g1, hr⟩ := gd hr
            refine w_lald dX8_numberOf_42 rfl (hz.k515 hv) (gin (hz.n515 hv) g1) (hz.x515 hv) ?_
            refine w_lret hf dX8_numberOf_43 rfl (Nat.le_of_ble_eq_true rfl) (Nat.le_of_ble_eq_true rfl) ?_
            obtain ⟨rfl, rfl⟩ := ret_inj hr
            exact ⟨rfl, hz⟩
          · have hr := bf q27 hr
            refine w_lconst 0 dX8_numberOf_30 rfl rfl ?_
            refine w_lret hf dX8_numberOf_31 rfl (Nat.le_of_ble_eq_true rfl) (Nat.le_of_ble_eq_true rfl) ?_
            obtain ⟨rfl, rfl⟩ := ret_inj hr
            exact ⟨rfl, hz⟩

set_option maxRecDepth 20000 in
set_option maxHeartbeats 4000000 in
theorem w_X8_add_29 {A : Nat → Nat → Nat → Nat} {ρ σ' : Zs} {v : Int32} {x : Cxt} {p : Nat} {s : Nat} {p1 : Nat} {s1 : Nat}  (hf : m_fin 0 0 (QI A v σ' ρ) X0 x) (hrm : m_rm 0 0 0 x) (hv : vdb (A 16 0 0) 8 p s = true) (hV1 : vdb (A 16 0 0) 6 p1 s1 = true) : ∀ (n : Nat) (y2 : Int32) (σ : Zs) (h : Hp), Rp A h σ ρ → fX8_add_29 p s p1 s1  n y2 σ = some (v, σ') → wp x mX8_add 29 [(0, .ref (A 8 p s)), (1, .ref (A 6 p1 s1)), (2, .int y2)] [] h 0 0
  | 0, _, σ, h => fun hz hr => by
    rw [fX8_add_29.eq_1] at hr
    exact nono hr
  | n + 1, y2, σ, h => fun hz hr => by
    rw [fX8_add_29.eq_2] at hr
    refine w_iload_n 2 dX8_add_29 rfl rfl rfl ?_
    refine w_aload_n 1 dX8_add_30 rfl rfl rfl ?_
    refine g_X8_31 dX8_add_31 rfl (hz.o6 hV1) (hz.r386 hV1) ?_
    refine w_alen 1 dX8_add_34 rfl (by decide) (by decide) (fun _ => rfl) (hz.k386 hV1) (v := 6) (by rw [hz.n386 hV1]; rfl) ?_
    refine w_icmp_ge 70 dX8_add_35 rfl rfl (fun q35 => ?_) (fun q35 => ?_)
    · have hr := bt q35 hr
      refine w_aload_n 0 dX8_add_70 rfl rfl rfl ?_
      refine w_dup dX8_add_71 rfl rfl ?_
      refine g_X8_19 dX8_add_72 rfl (hz.o8 hv) (hz.i512 hv) ?_
      refine w_iconst 1 dX8_add_75 rfl rfl ?_
      refine w_iadd dX8_add_76 rfl ?_
      refine p_X8_19 dX8_add_77 rfl (hz.o8 hv) ?_
      obtain ⟨σ4, e5, hr⟩ := lt_e hr
      have hz := (hz.s512 (v := ((zI σ 512 p s 0) + 1)) hv).ts e5
      refine w_iconst 1 dX8_add_80 rfl rfl ?_
      refine w_zret hf dX8_add_81 rfl rfl (Nat.le_of_ble_eq_true rfl) (Nat.le_of_ble_eq_true rfl) ?_
      obtain ⟨rfl, rfl⟩ := ret_inj hr
      exact ⟨rfl, hz⟩
    · have hr := bf q35 hr
      refine w_iload_n 2 dX8_add_38 rfl rfl rfl ?_
      refine w_bipush 6 dX8_add_39 rfl rfl ?_
      refine w_icmp_ge 70 dX8_add_41 rfl rfl (fun q41 => ?_) (fun q41 => ?_)
      · have hr := bt q41 hr
        refine w_aload_n 0 dX8_add_70 rfl rfl rfl ?_
        refine w_dup dX8_add_71 rfl rfl ?_
        refine g_X8_19 dX8_add_72 rfl (hz.o8 hv) (hz.i512 hv) ?_
        refine w_iconst 1 dX8_add_75 rfl rfl ?_
        refine w_iadd dX8_add_76 rfl ?_
        refine p_X8_19 dX8_add_77 rfl (hz.o8 hv) ?_
        obtain ⟨σ6, e7, hr⟩ := lt_e hr
        have hz := (hz.s512 (v := ((zI σ 512 p s 0) + 1)) hv).ts e7
        refine w_iconst 1 dX8_add_80 rfl rfl ?_
        refine w_zret hf dX8_add_81 rfl rfl (Nat.le_of_ble_eq_true rfl) (Nat.le_of_ble_eq_true rfl) ?_
        obtain ⟨rfl, rfl⟩ := ret_inj hr
        exact ⟨rfl, hz⟩
      · have hr := bf q41 hr
        refine w_aload_n 0 dX8_add_44 rfl rfl rfl ?_
        refine g_X8_15 dX8_add_45 rfl (hz.o8 hv) (hz.r515 hv) ?_
        refine w_aload_n 0 dX8_add_48 rfl rfl rfl ?_
        refine g_X8_19 dX8_add_49 rfl (hz.o8 hv) (hz.i512 hv) ?_
        refine w_bipush 6 dX8_add_52 rfl rfl ?_
        refine w_imul dX8_add_54 rfl ?_
        refine w_iload_n 2 dX8_add_55 rfl rfl rfl ?_
        refine w_iadd dX8_add_56 rfl ?_
        refine w_aload_n 1 dX8_add_57 rfl rfl rfl ?_
        refine g_X8_31 dX8_add_58 rfl (hz.o6 hV1) (hz.r386 hV1) ?_
        refine w_iload_n 2 dX8_add_61 rfl rfl rfl ?_
        obtain ⟨g8, hr⟩ := gd hr
        refine w_lald dX8_add_62 rfl (hz.k386 hV1) (gin (hz.n386 hV1) g8) (hz.x386 hV1) ?_
        obtain ⟨g9, hr⟩ := gd hr
        refine w_last dX8_add_63 rfl (hz.k515 hv) (gin (hz.n515 hv) g9) ?_
        obtain ⟨σ10, e11, hr⟩ := lt_e hr
        have hz := (hz.s515 (i := (Int32.toNatClampNeg (((zI σ 512 p s 0) * 6) + y2))) (v := (zJ σ 1410 p1 s1 (Int32.toNatClampNeg y2))) hv).ts e11
        refine w_iinc 2 (y2 + 1) [(2, .int (y2 + 1)), (0, .ref (A 8 p s)), (1, .ref (A 6 p1 s1))] dX8_add_64 rfl rfl rfl (by decide) rfl ?_
        refine w_goto 29 dX8_add_67 rfl ?_
        refine w_lv [(0, .ref (A 8 p s)), (1, .ref (A 6 p1 s1)), (2, .int (y2 + 1))] [1, 2, 0] rfl ?_
        exact w_X8_add_29 hf hrm hv hV1  n (y2 + 1) _ _ hz  hr
set_option maxRecDepth 20000 in
set_option maxHeartbeats 4000000 in
theorem s_X8_add {A : Nat → Nat → Nat → Nat} {h : Hp} {σ ρ σ' : Zs} {v : Int32} {p : Nat} {s : Nat} {p1 : Nat} {s1 : Nat} (hv : vdb (A 16 0 0) 8 p s = true) (hV1 : vdb (A 16 0 0) 6 p1 s1 = true) (hz : Rp A h σ ρ) (hr : fX8_add p s p1 s1 σ = some (v, σ')) : ∀ l : Launch, Sp l mX8_add 0 0 0 [.ref (A 8 p s), .ref (A 6 p1 s1)] h (QI A v σ' ρ) X0 := by
  intro l
  refine Sp.of rfl rfl (lv := [(0, .ref (A 8 p s)), (1, .ref (A 6 p1 s1))]) (Nat.le_of_ble_eq_true rfl) rfl (fun x hf hrm => ?_)
  rw [fX8_add.eq_1] at hr
  refine w_aload_n 0 dX8_add_0 rfl rfl rfl ?_
  refine g_X8_19 dX8_add_1 rfl (hz.o8 hv) (hz.i512 hv) ?_
  refine w_aload_n 0 dX8_add_4 rfl rfl rfl ?_
  refine g_X8_9 dX8_add_5 rfl (hz.o8 hv) (hz.r514 hv) ?_
  refine w_alen 0 dX8_add_8 rfl (by decide) (by decide) (fun _ => rfl) (hz.k514 hv) (v := 200) (by rw [hz.n514 hv]; rfl) ?_
  refine w_icmp_lt 14 dX8_add_9 rfl rfl (fun q9 => ?_) (fun q9 => ?_)
  · have hr := bt q9 hr
    refine w_aload_n 0 dX8_add_14 rfl rfl rfl ?_
    refine g_X8_9 dX8_add_15 rfl (hz.o8 hv) (hz.r514 hv) ?_
    refine w_aload_n 0 dX8_add_18 rfl rfl rfl ?_
    refine g_X8_19 dX8_add_19 rfl (hz.o8 hv) (hz.i512 hv) ?_
    refine w_aload_n 1 dX8_add_22 rfl rfl rfl ?_
    refine g_X8_26 dX8_add_23 rfl (hz.o6 hV1) (hz.i384 hV1) ?_
    obtain ⟨g1, hr⟩ := gd hr
    refine w_iast dX8_add_26 rfl (hz.k514 hv) (gin (hz.n514 hv) g1) ?_
    obtain ⟨σ2, e3, hr⟩ := lt_e hr
    have hz := (hz.s514 (i := (Int32.toNatClampNeg (zI σ 512 p s 0))) (v := (zI σ 384 p1 s1 0)) hv).ts e3
    refine w_iconst 0 dX8_add_27 rfl rfl ?_
    refine w_istore_n [(2, .int 0), (0, .ref (A 8 p s)), (1, .ref (A 6 p1 s1))] dX8_add_28 rfl rfl (by decide) rfl ?_
    refine w_lv [(0, .ref (A 8 p s)), (1, .ref (A 6 p1 s1)), (2, .int 0)] [1, 2, 0] rfl ?_
    exact w_X8_add_29 hf hrm hv hV1  FU 0 _ _ hz  hr
  · have hr := bf q9 hr
    refine w_iconst 0 dX8_add_12 rfl rfl ?_
    refine w_zret hf dX8_add_13 rfl rfl (Nat.le_of_ble_eq_true rfl) (Nat.le_of_ble_eq_true rfl) ?_
    obtain ⟨rfl, rfl⟩ := ret_inj hr
    exact ⟨rfl, hz⟩

set_option maxRecDepth 20000 in
set_option maxHeartbeats 4000000 in
theorem w_X8_copyTo_11 {A : Nat → Nat → Nat → Nat} {ρ σ' : Zs} {v : Unit} {x : Cxt} {p : Nat} {s : Nat} {x1 : Int32} {p2 : Nat} {s2 : Nat}  (hf : m_fin 0 0 (QV A v σ' ρ) X0 x) (hrm : m_rm 1 0 0 x) (hv : vdb (A 16 0 0) 8 p s = true) (hV2 : vdb (A 16 0 0) 6 p2 s2 = true) : ∀ (n : Nat) (y3 : Int32) (σ : Zs) (h : Hp), Rp A h σ ρ → fX8_copyTo_11 p s x1 p2 s2  n y3 σ = some (v, σ') → wp x mX8_copyTo 11 [(0, .ref (A 8 p s)), (1, .int x1), (2, .ref (A 6 p2 s2)), (3, .int y3)] [] h 0 0
  | 0, _, σ, h => fun hz hr => by
    rw [fX8_copyTo_11.eq_1] at hr
    exact nono hr
  | n + 1, y3, σ, h => fun hz hr => by
    rw [fX8_copyTo_11.eq_2] at hr
    refine w_iload_n 3 dX8_copyTo_11 rfl rfl rfl ?_
    refine w_aload_n 0 dX8_copyTo_12 rfl rfl rfl ?_
    refine g_X8_23 dX8_copyTo_13 rfl (hz.o8 hv) (hz.i513 hv) ?_
    refine w_icmp_ge 35 dX8_copyTo_16 rfl rfl (fun q16 => ?_) (fun q16 => ?_)
    · have hr := bt q16 hr
      refine w_vret hf dX8_copyTo_35 rfl (Nat.le_of_ble_eq_true rfl) (Nat.le_of_ble_eq_true rfl) ?_
      obtain ⟨rfl, rfl⟩ := ret_inj hr
      exact ⟨rfl, hz⟩
    · have hr := bf q16 hr
      refine w_aload_n 2 dX8_copyTo_19 rfl rfl rfl ?_
      refine w_aload_n 0 dX8_copyTo_20 rfl rfl rfl ?_
      refine w_iload_n 1 dX8_copyTo_21 rfl rfl rfl ?_
      refine w_iload_n 3 dX8_copyTo_22 rfl rfl rfl ?_
      obtain ⟨v9, σ10, e11, hr⟩ := bq_some hr
      refine c_X8_40 (As := [.int x1, .int y3]) (rest := [.ref (A 6 p2 s2)]) (fun l => s_X8_numberOf hv hz e11 l) hrm dX8_copyTo_23 rfl rfl (Nat.le_of_ble_eq_true rfl) (Nat.le_of_ble_eq_true rfl) (Nat.le_of_ble_eq_true rfl) (hz.o8 hv) rfl (Nat.le_of_ble_eq_true rfl) (fun vr h2 hq => ?_) (fun E9 h9 hq => hq.elim)
      obtain ⟨rfl, hz⟩ := hq
      show wp _ _ 26 [(0, .ref (A 8 p s)), (1, .int x1), (2, .ref (A 6 p2 s2)), (3, .int y3)] [.long v9, .ref (A 6 p2 s2)] _ _ _
      obtain ⟨v13, σ14, e15, hr⟩ := bq_some hr
      refine c_X8_44 (As := [.long v9]) (rest := []) (fun l => s_X6_append hV2 hz e15 l) hrm dX8_copyTo_26 rfl rfl (Nat.le_of_ble_eq_true rfl) (Nat.le_of_ble_eq_true rfl) (Nat.le_of_ble_eq_true rfl) (hz.o6 hV2) rfl (Nat.le_of_ble_eq_true rfl) (fun vr h2 hq => ?_) (fun E9 h9 hq => hq.elim)
      obtain ⟨rfl, hz⟩ := hq
      show wp _ _ 29 [(0, .ref (A 8 p s)), (1, .int x1), (2, .ref (A 6 p2 s2)), (3, .int y3)] [] _ _ _
      refine w_iinc 3 (y3 + 1) [(3, .int (y3 + 1)), (0, .ref (A 8 p s)), (1, .int x1), (2, .ref (A 6 p2 s2))] dX8_copyTo_29 rfl rfl rfl (by decide) rfl ?_
      refine w_goto 11 dX8_copyTo_32 rfl ?_
      refine w_lv [(0, .ref (A 8 p s)), (1, .int x1), (2, .ref (A 6 p2 s2)), (3, .int (y3 + 1))] [1, 2, 3, 0] rfl ?_
      exact w_X8_copyTo_11 hf hrm hv hV2  n (y3 + 1) _ _ hz  hr
set_option maxRecDepth 20000 in
set_option maxHeartbeats 4000000 in
theorem s_X8_copyTo {A : Nat → Nat → Nat → Nat} {h : Hp} {σ ρ σ' : Zs} {v : Unit} {p : Nat} {s : Nat} {x1 : Int32} {p2 : Nat} {s2 : Nat} (hv : vdb (A 16 0 0) 8 p s = true) (hV2 : vdb (A 16 0 0) 6 p2 s2 = true) (hz : Rp A h σ ρ) (hr : fX8_copyTo p s x1 p2 s2 σ = some (v, σ')) : ∀ l : Launch, Sp l mX8_copyTo 1 0 0 [.ref (A 8 p s), .int x1, .ref (A 6 p2 s2)] h (QV A v σ' ρ) X0 := by
  intro l
  refine Sp.of rfl rfl (lv := [(0, .ref (A 8 p s)), (1, .int x1), (2, .ref (A 6 p2 s2))]) (Nat.le_of_ble_eq_true rfl) rfl (fun x hf hrm => ?_)
  rw [fX8_copyTo.eq_1] at hr
  refine w_aload_n 2 dX8_copyTo_0 rfl rfl rfl ?_
  refine w_aload_n 0 dX8_copyTo_1 rfl rfl rfl ?_
  refine w_iload_n 1 dX8_copyTo_2 rfl rfl rfl ?_
  obtain ⟨v1, σ2, e3, hr⟩ := bq_some hr
  refine c_X8_32 (As := [.int x1]) (rest := [.ref (A 6 p2 s2)]) (fun l => s_X8_timeOf hv hz e3 l) hrm dX8_copyTo_3 rfl rfl (Nat.le_of_ble_eq_true rfl) (Nat.le_of_ble_eq_true rfl) (Nat.le_of_ble_eq_true rfl) (hz.o8 hv) rfl (Nat.le_of_ble_eq_true rfl) (fun vr h2 hq => ?_) (fun E9 h9 hq => hq.elim)
  obtain ⟨rfl, hz⟩ := hq
  show wp _ _ 6 [(0, .ref (A 8 p s)), (1, .int x1), (2, .ref (A 6 p2 s2))] [.int v1, .ref (A 6 p2 s2)] _ _ _
  obtain ⟨v5, σ6, e7, hr⟩ := bq_some hr
  refine c_X8_36 (As := [.int v1]) (rest := []) (fun l => s_X6_startAt hV2 hz e7 l) hrm dX8_copyTo_6 rfl rfl (Nat.le_of_ble_eq_true rfl) (Nat.le_of_ble_eq_true rfl) (Nat.le_of_ble_eq_true rfl) (hz.o6 hV2) rfl (Nat.le_of_ble_eq_true rfl) (fun vr h2 hq => ?_) (fun E9 h9 hq => hq.elim)
  obtain ⟨rfl, hz⟩ := hq
  show wp _ _ 9 [(0, .ref (A 8 p s)), (1, .int x1), (2, .ref (A 6 p2 s2))] [] _ _ _
  refine w_iconst 0 dX8_copyTo_9 rfl rfl ?_
  refine w_istore_n [(3, .int 0), (0, .ref (A 8 p s)), (1, .int x1), (2, .ref (A 6 p2 s2))] dX8_copyTo_10 rfl rfl (by decide) rfl ?_
  refine w_lv [(0, .ref (A 8 p s)), (1, .int x1), (2, .ref (A 6 p2 s2)), (3, .int 0)] [1, 2, 3, 0] rfl ?_
  exact w_X8_copyTo_11 hf hrm hv hV2  FU 0 _ _ hz  hr

set_option maxRecDepth 20000 in
set_option maxHeartbeats 4000000 in
theorem w_X8_mixedInto_41 {A : Nat → Nat → Nat → Nat} {ρ σ' : Zs} {v : Int64} {x : Cxt} {p : Nat} {s : Nat} {x1 : Int64} {k15 : Int64 → Int32 → Zs → Option (Int64 × Zs)}  (hf : m_fin 0 0 (QJ A v σ' ρ) X0 x) (hrm : m_rm 1 0 0 x) (hv : vdb (A 16 0 0) 8 p s = true) (hk15 : ∀ (y3 : Int64) (y5 : Int32) (σ : Zs) (h : Hp), Rp A h σ ρ → k15 y3 y5 σ = some (v, σ') → wp x mX8_mixedInto 15 [(0, .ref (A 8 p s)), (1, .long x1), (3, .long y3), (5, .int y5)] [] h 0 0) : ∀ (n : Nat) (y3 : Int64) (y5 : Int32) (y6 : Int32) (σ : Zs) (h : Hp), Rp A h σ ρ → fX8_mixedInto_41 p s x1 k15 n y3 y5 y6 σ = some (v, σ') → wp x mX8_mixedInto 41 [(0, .ref (A 8 p s)), (1, .long x1), (3, .long y3), (5, .int y5), (6, .int y6)] [] h 0 0
  | 0, _, _, _, σ, h => fun hz hr => by
    rw [fX8_mixedInto_41.eq_1] at hr
    exact nono hr
  | n + 1, y3, y5, y6, σ, h => fun hz hr => by
    rw [fX8_mixedInto_41.eq_2] at hr
    refine w_iload 4 dX8_mixedInto_41 rfl rfl ?_
    refine w_aload_n 0 dX8_mixedInto_43 rfl rfl rfl ?_
    refine g_X8_23 dX8_mixedInto_44 rfl (hz.o8 hv) (hz.i513 hv) ?_
    refine w_icmp_ge 71 dX8_mixedInto_47 rfl rfl (fun q47 => ?_) (fun q47 => ?_)
    · have hr := bt q47 hr
      refine w_iinc 3 (y5 + 1) [(5, .int (y5 + 1)), (0, .ref (A 8 p s)), (1, .long x1), (3, .long y3), (6, .int y6)] dX8_mixedInto_71 rfl rfl rfl (by decide) rfl ?_
      refine w_goto 15 dX8_mixedInto_74 rfl ?_
      refine w_lv [(0, .ref (A 8 p s)), (1, .long x1), (3, .long y3), (5, .int (y5 + 1))] [1, 2, 3, 0] rfl ?_
      exact hk15 y3 (y5 + 1) _ _ hz  hr
    · have hr := bf q47 hr
      refine w_lload_n 2 dX8_mixedInto_50 rfl rfl rfl ?_
      refine w_ldc2 dX8_mixedInto_51 rfl k_X8_61 ?_
      refine w_lmul dX8_mixedInto_54 rfl ?_
      refine w_aload_n 0 dX8_mixedInto_55 rfl rfl rfl ?_
      refine w_iload 3 dX8_mixedInto_56 rfl rfl ?_
      refine w_iload 4 dX8_mixedInto_58 rfl rfl ?_
      obtain ⟨v5, σ6, e7, hr⟩ := bq_some hr
      refine c_X8_40 (As := [.int y5, .int y6]) (rest := [.long (y3 * 31)]) (fun l => s_X8_numberOf hv hz e7 l) hrm dX8_mixedInto_60 rfl rfl (Nat.le_of_ble_eq_true rfl) (Nat.le_of_ble_eq_true rfl) (Nat.le_of_ble_eq_true rfl) (hz.o8 hv) rfl (Nat.le_of_ble_eq_true rfl) (fun vr h2 hq => ?_) (fun E9 h9 hq => hq.elim)
      obtain ⟨rfl, hz⟩ := hq
      show wp _ _ 63 [(0, .ref (A 8 p s)), (1, .long x1), (3, .long y3), (5, .int y5), (6, .int y6)] [.long v5, .long (y3 * 31)] _ _ _
      refine w_ladd dX8_mixedInto_63 rfl ?_
      refine w_lstore_n [(3, .long ((y3 * 31) + v5)), (0, .ref (A 8 p s)), (1, .long x1), (5, .int y5), (6, .int y6)] dX8_mixedInto_64 rfl rfl (by decide) rfl ?_
      refine w_iinc 4 (y6 + 1) [(6, .int (y6 + 1)), (3, .long ((y3 * 31) + v5)), (0, .ref (A 8 p s)), (1, .long x1), (5, .int y5)] dX8_mixedInto_65 rfl rfl rfl (by decide) rfl ?_
      refine w_goto 41 dX8_mixedInto_68 rfl ?_
      refine w_lv [(0, .ref (A 8 p s)), (1, .long x1), (3, .long ((y3 * 31) + v5)), (5, .int y5), (6, .int (y6 + 1))] [2, 3, 1, 4, 0] rfl ?_
      exact w_X8_mixedInto_41 hf hrm hv hk15 n ((y3 * 31) + v5) y5 (y6 + 1) _ _ hz  hr
set_option maxRecDepth 20000 in
set_option maxHeartbeats 4000000 in
theorem w_X8_mixedInto_15 {A : Nat → Nat → Nat → Nat} {ρ σ' : Zs} {v : Int64} {x : Cxt} {p : Nat} {s : Nat} {x1 : Int64}  (hf : m_fin 0 0 (QJ A v σ' ρ) X0 x) (hrm : m_rm 1 0 0 x) (hv : vdb (A 16 0 0) 8 p s = true) : ∀ (n : Nat) (y3 : Int64) (y5 : Int32) (σ : Zs) (h : Hp), Rp A h σ ρ → fX8_mixedInto_15 p s x1  n y3 y5 σ = some (v, σ') → wp x mX8_mixedInto 15 [(0, .ref (A 8 p s)), (1, .long x1), (3, .long y3), (5, .int y5)] [] h 0 0
  | 0, _, _, σ, h => fun hz hr => by
    rw [fX8_mixedInto_15.eq_1] at hr
    exact nono hr
  | n + 1, y3, y5, σ, h => fun hz hr => by
    rw [fX8_mixedInto_15.eq_2] at hr
    refine w_iload 3 dX8_mixedInto_15 rfl rfl ?_
    refine w_aload_n 0 dX8_mixedInto_17 rfl rfl rfl ?_
    refine g_X8_19 dX8_mixedInto_18 rfl (hz.o8 hv) (hz.i512 hv) ?_
    refine w_icmp_ge 77 dX8_mixedInto_21 rfl rfl (fun q21 => ?_) (fun q21 => ?_)
    · have hr := bt q21 hr
      refine w_lload_n 2 dX8_mixedInto_77 rfl rfl rfl ?_
      refine w_lret hf dX8_mixedInto_78 rfl (Nat.le_of_ble_eq_true rfl) (Nat.le_of_ble_eq_true rfl) ?_
      obtain ⟨rfl, rfl⟩ := ret_inj hr
      exact ⟨rfl, hz⟩
    · have hr := bf q21 hr
      refine w_lload_n 2 dX8_mixedInto_24 rfl rfl rfl ?_
      refine w_ldc2 dX8_mixedInto_25 rfl k_X8_61 ?_
      refine w_lmul dX8_mixedInto_28 rfl ?_
      refine w_aload_n 0 dX8_mixedInto_29 rfl rfl rfl ?_
      refine w_iload 3 dX8_mixedInto_30 rfl rfl ?_
      obtain ⟨v1, σ2, e3, hr⟩ := bq_some hr
      refine c_X8_32 (As := [.int y5]) (rest := [.long (y3 * 31)]) (fun l => s_X8_timeOf hv hz e3 l) hrm dX8_mixedInto_32 rfl rfl (Nat.le_of_ble_eq_true rfl) (Nat.le_of_ble_eq_true rfl) (Nat.le_of_ble_eq_true rfl) (hz.o8 hv) rfl (Nat.le_of_ble_eq_true rfl) (fun vr h2 hq => ?_) (fun E9 h9 hq => hq.elim)
      obtain ⟨rfl, hz⟩ := hq
      show wp _ _ 35 [(0, .ref (A 8 p s)), (1, .long x1), (3, .long y3), (5, .int y5)] [.int v1, .long (y3 * 31)] _ _ _
      refine w_i2l dX8_mixedInto_35 rfl ?_
      refine w_ladd dX8_mixedInto_36 rfl ?_
      refine w_lstore_n [(3, .long ((y3 * 31) + ((v1 : Int32).toInt64))), (0, .ref (A 8 p s)), (1, .long x1), (5, .int y5)] dX8_mixedInto_37 rfl rfl (by decide) rfl ?_
      refine w_iconst 0 dX8_mixedInto_38 rfl rfl ?_
      refine w_istore [(6, .int 0), (3, .long ((y3 * 31) + ((v1 : Int32).toInt64))), (0, .ref (A 8 p s)), (1, .long x1), (5, .int y5)] dX8_mixedInto_39 rfl (by decide) rfl ?_
      refine w_lv [(0, .ref (A 8 p s)), (1, .long x1), (3, .long ((y3 * 31) + ((v1 : Int32).toInt64))), (5, .int y5), (6, .int 0)] [2, 3, 1, 4, 0] rfl ?_
      exact w_X8_mixedInto_41 hf hrm hv (fun by3 by5 zb hb hzb  hrb => w_X8_mixedInto_15 hf hrm hv  n by3 by5 zb hb hzb  hrb) FU ((y3 * 31) + ((v1 : Int32).toInt64)) y5 0 _ _ hz  hr
set_option maxRecDepth 20000 in
set_option maxHeartbeats 4000000 in
theorem s_X8_mixedInto {A : Nat → Nat → Nat → Nat} {h : Hp} {σ ρ σ' : Zs} {v : Int64} {p : Nat} {s : Nat} {x1 : Int64} (hv : vdb (A 16 0 0) 8 p s = true) (hz : Rp A h σ ρ) (hr : fX8_mixedInto p s x1 σ = some (v, σ')) : ∀ l : Launch, Sp l mX8_mixedInto 1 0 0 [.ref (A 8 p s), .long x1] h (QJ A v σ' ρ) X0 := by
  intro l
  refine Sp.of rfl rfl (lv := [(0, .ref (A 8 p s)), (1, .long x1)]) (Nat.le_of_ble_eq_true rfl) rfl (fun x hf hrm => ?_)
  rw [fX8_mixedInto.eq_1] at hr
  refine w_lload_n 1 dX8_mixedInto_0 rfl rfl rfl ?_
  refine w_ldc2 dX8_mixedInto_1 rfl k_X8_61 ?_
  refine w_lmul dX8_mixedInto_4 rfl ?_
  refine w_aload_n 0 dX8_mixedInto_5 rfl rfl rfl ?_
  refine g_X8_19 dX8_mixedInto_6 rfl (hz.o8 hv) (hz.i512 hv) ?_
  refine w_i2l dX8_mixedInto_9 rfl ?_
  refine w_ladd dX8_mixedInto_10 rfl ?_
  refine w_lstore_n [(3, .long ((x1 * 31) + (((zI σ 512 p s 0) : Int32).toInt64))), (0, .ref (A 8 p s)), (1, .long x1)] dX8_mixedInto_11 rfl rfl (by decide) rfl ?_
  refine w_iconst 0 dX8_mixedInto_12 rfl rfl ?_
  refine w_istore [(5, .int 0), (3, .long ((x1 * 31) + (((zI σ 512 p s 0) : Int32).toInt64))), (0, .ref (A 8 p s)), (1, .long x1)] dX8_mixedInto_13 rfl (by decide) rfl ?_
  refine w_lv [(0, .ref (A 8 p s)), (1, .long x1), (3, .long ((x1 * 31) + (((zI σ 512 p s 0) : Int32).toInt64))), (5, .int 0)] [2, 3, 1, 0] rfl ?_
  exact w_X8_mixedInto_15 hf hrm hv  FU ((x1 * 31) + (((zI σ 512 p s 0) : Int32).toInt64)) 0 _ _ hz  hr

