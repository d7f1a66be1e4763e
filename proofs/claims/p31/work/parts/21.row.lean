/-! LIFTED: 21.row -/
noncomputable def fX6_startAt (p : Nat) (s : Nat) (x1 : Int32) (σ : Zs) : Option (Unit × Zs) :=
  lt (sI σ 384 p s 0 x1) fun σ1 => lt (sI σ1 385 p s 0 0) fun σ3 => some ((), σ3)

noncomputable def fX6_append (p : Nat) (s : Nat) (x1 : Int64) (σ : Zs) : Option (Unit × Zs) :=
  if (zI σ 385 p s 0) < 0 then (some ((), σ)) else (if 6 ≤ (zI σ 385 p s 0) then (some ((), σ)) else (if gi (zI σ 385 p s 0) 6 then lt (sJ σ 1410 p s (Int32.toNatClampNeg (zI σ 385 p s 0)) x1) fun σ2 => lt (sI σ2 385 p s 0 ((zI σ2 385 p s 0) + 1)) fun σ4 => some ((), σ4) else none))

noncomputable def fX6_numberAt (p : Nat) (s : Nat) (x1 : Int32) (σ : Zs) : Option (Int64 × Zs) :=
  if x1 < 0 then (some (0, σ)) else (if 6 ≤ x1 then (some (0, σ)) else (if gi x1 6 then some ((zJ σ 1410 p s (Int32.toNatClampNeg x1)), σ) else none))

noncomputable def fX6_copyFrom_18 (p : Nat) (s : Nat) (p1 : Nat) (s1 : Nat)  : Nat → Int32 → Zs → Option (Unit × Zs)
  | 0, _, _ => none
  | n + 1, y2, σ =>
    if 6 ≤ y2 then (some ((), σ)) else (if 6 ≤ y2 then (some ((), σ)) else (if gi y2 6 then if gi y2 6 then lt (sJ σ 1410 p s (Int32.toNatClampNeg y2) (zJ σ 1410 p1 s1 (Int32.toNatClampNeg y2))) fun σ7 => fX6_copyFrom_18 p s p1 s1  n (y2 + 1) σ7 else none else none))
noncomputable def fX6_copyFrom (p : Nat) (s : Nat) (p1 : Nat) (s1 : Nat) (σ : Zs) : Option (Unit × Zs) :=
  lt (sI σ 384 p s 0 (zI σ 384 p1 s1 0)) fun σ1 => lt (sI σ1 385 p s 0 (zI σ1 385 p1 s1 0)) fun σ3 => fX6_copyFrom_18 p s p1 s1  FU 0 σ3

noncomputable def fX6_mixedInto_37 (p : Nat) (s : Nat) (x1 : Int64)  : Nat → Int64 → Int32 → Zs → Option (Int64 × Zs)
  | 0, _, _, _ => none
  | n + 1, y3, y5, σ =>
    if (zI σ 385 p s 0) ≤ y5 then (some (y3, σ)) else (bq (fX6_numberAt p s y5 σ) fun v1 σ2 => fX6_mixedInto_37 p s x1  n ((y3 * 31) + v1) (y5 + 1) σ2)
noncomputable def fX6_mixedInto (p : Nat) (s : Nat) (x1 : Int64) (σ : Zs) : Option (Int64 × Zs) :=
  fX6_mixedInto_37 p s x1  FU ((((((x1 * 31) + (((zI σ 387 p s 0) : Int32).toInt64)) * 31) + (((zI σ 388 p s 0) : Int32).toInt64)) * 31) + (((zI σ 384 p s 0) : Int32).toInt64)) 0 σ

set_option maxRecDepth 20000 in
set_option maxHeartbeats 4000000 in
theorem s_X6_startAt {A : Nat → Nat → Nat → Nat} {h : Hp} {σ ρ σ' : Zs} {v : Unit} {p : Nat} {s : Nat} {x1 : Int32} (hv : vdb (A 16 0 0) 6 p s = true) (hz : Rp A h σ ρ) (hr : fX6_startAt p s x1 σ = some (v, σ')) : ∀ l : Launch, Sp l mX6_startAt 0 0 0 [.ref (A 6 p s), .int x1] h (QV A v σ' ρ) X0 := by
  intro l
  refine Sp.of rfl rfl (lv := [(0, .ref (A 6 p s)), (1, .int x1)]) (Nat.le_of_ble_eq_true rfl) rfl (fun x hf hrm => ?_)
  rw [fX6_startAt.eq_1] at hr
  refine w_aload_n 0 dX6_startAt_0 rfl rfl rfl ?_
  refine w_iload_n 1 dX6_startAt_1 rfl rfl rfl ?_
  refine p_X6_15 dX6_startAt_2 rfl (hz.o6 hv) ?_
  obtain ⟨σ1, e2, hr⟩ := lt_e hr
  have hz := (hz.s384 (v := x1) hv).ts e2
  refine w_aload_n 0 dX6_startAt_5 rfl rfl rfl ?_
  refine w_iconst 0 dX6_startAt_6 rfl rfl ?_
  refine p_X6_19 dX6_startAt_7 rfl (hz.o6 hv) ?_
  obtain ⟨σ3, e4, hr⟩ := lt_e hr
  have hz := (hz.s385 (v := 0) hv).ts e4
  refine w_vret hf dX6_startAt_10 rfl (Nat.le_of_ble_eq_true rfl) (Nat.le_of_ble_eq_true rfl) ?_
  obtain ⟨rfl, rfl⟩ := ret_inj hr
  exact ⟨rfl, hz⟩

set_option maxRecDepth 20000 in
set_option maxHeartbeats 4000000 in
theorem s_X6_append {A : Nat → Nat → Nat → Nat} {h : Hp} {σ ρ σ' : Zs} {v : Unit} {p : Nat} {s : Nat} {x1 : Int64} (hv : vdb (A 16 0 0) 6 p s = true) (hz : Rp A h σ ρ) (hr : fX6_append p s x1 σ = some (v, σ')) : ∀ l : Launch, Sp l mX6_append 0 0 0 [.ref (A 6 p s), .long x1] h (QV A v σ' ρ) X0 := by
  intro l
  refine Sp.of rfl rfl (lv := [(0, .ref (A 6 p s)), (1, .long x1)]) (Nat.le_of_ble_eq_true rfl) rfl (fun x hf hrm => ?_)
  rw [fX6_append.eq_1] at hr
  refine w_aload_n 0 dX6_append_0 rfl rfl rfl ?_
  refine g_X6_19 dX6_append_1 rfl (hz.o6 hv) (hz.i385 hv) ?_
  refine w_if_lt 39 dX6_append_4 rfl rfl (fun q4 => ?_) (fun q4 => ?_)
  · have hr := bt q4 hr
    refine w_vret hf dX6_append_39 rfl (Nat.le_of_ble_eq_true rfl) (Nat.le_of_ble_eq_true rfl) ?_
    obtain ⟨rfl, rfl⟩ := ret_inj hr
    exact ⟨rfl, hz⟩
  · have hr := bf q4 hr
    refine w_aload_n 0 dX6_append_7 rfl rfl rfl ?_
    refine g_X6_19 dX6_append_8 rfl (hz.o6 hv) (hz.i385 hv) ?_
    refine w_aload_n 0 dX6_append_11 rfl rfl rfl ?_
    refine g_X6_9 dX6_append_12 rfl (hz.o6 hv) (hz.r386 hv) ?_
    refine w_alen 1 dX6_append_15 rfl (by decide) (by decide) (fun _ => rfl) (hz.k386 hv) (v := 6) (by rw [hz.n386 hv]; rfl) ?_
    refine w_icmp_ge 39 dX6_append_16 rfl rfl (fun q16 => ?_) (fun q16 => ?_)
    · have hr := bt q16 hr
      refine w_vret hf dX6_append_39 rfl (Nat.le_of_ble_eq_true rfl) (Nat.le_of_ble_eq_true rfl) ?_
      obtain ⟨rfl, rfl⟩ := ret_inj hr
      exact ⟨rfl, hz⟩
    · have hr := bf q16 hr
      refine w_aload_n 0 dX6_append_19 rfl rfl rfl ?_
      refine g_X6_9 dX6_append_20 rfl (hz.o6 hv) (hz.r386 hv) ?_
      refine w_aload_n 0 dX6_append_23 rfl rfl rfl ?_
      refine g_X6_19 dX6_append_24 rfl (hz.o6 hv) (hz.i385 hv) ?_
      refine w_lload_n 1 dX6_append_27 rfl rfl rfl ?_
      obtain ⟨g1, hr⟩ := gd hr
      refine w_last dX6_append_28 rfl (hz.k386 hv) (gin (hz.n386 hv) g1) ?_
      obtain ⟨σ2, e3, hr⟩ := lt_e hr
      have hz := (hz.s386 (i := (Int32.toNatClampNeg (zI σ 385 p s 0))) (v := x1) hv).ts e3
      refine w_aload_n 0 dX6_append_29 rfl rfl rfl ?_
      refine w_dup dX6_append_30 rfl rfl ?_
      refine g_X6_19 dX6_append_31 rfl (hz.o6 hv) (hz.i385 hv) ?_
      refine w_iconst 1 dX6_append_34 rfl rfl ?_
      refine w_iadd dX6_append_35 rfl ?_
      refine p_X6_19 dX6_append_36 rfl (hz.o6 hv) ?_
      obtain ⟨σ4, e5, hr⟩ := lt_e hr
      have hz := (hz.s385 (v := ((zI σ2 385 p s 0) + 1)) hv).ts e5
      refine w_vret hf dX6_append_39 rfl (Nat.le_of_ble_eq_true rfl) (Nat.le_of_ble_eq_true rfl) ?_
      obtain ⟨rfl, rfl⟩ := ret_inj hr
      exact ⟨rfl, hz⟩

set_option maxRecDepth 20000 in
set_option maxHeartbeats 4000000 in
theorem s_X6_numberAt {A : Nat → Nat → Nat → Nat} {h : Hp} {σ ρ σ' : Zs} {v : Int64} {p : Nat} {s : Nat} {x1 : Int32} (hv : vdb (A 16 0 0) 6 p s = true) (hz : Rp A h σ ρ) (hr : fX6_numberAt p s x1 σ = some (v, σ')) : ∀ l : Launch, Sp l mX6_numberAt 0 0 0 [.ref (A 6 p s), .int x1] h (QJ A v σ' ρ) X0 := by
  intro l
  refine Sp.of rfl rfl (lv := [(0, .ref (A 6 p s)), (1, .int x1)]) (Nat.le_of_ble_eq_true rfl) rfl (fun x hf hrm => ?_)
  rw [fX6_numberAt.eq_1] at hr
  refine w_iload_n 1 dX6_numberAt_0 rfl rfl rfl ?_
  refine w_if_lt 22 dX6_numberAt_1 rfl rfl (fun q1 => ?_) (fun q1 => ?_)
  · have hr := bt q1 hr
    refine w_lconst 0 dX6_numberAt_22 rfl rfl ?_
    refine w_lret hf dX6_numberAt_23 rfl (Nat.le_of_ble_eq_true rfl) (Nat.le_of_ble_eq_true rfl) ?_
    obtain ⟨rfl, rfl⟩ := ret_inj hr
    exact ⟨rfl, hz⟩
  · have hr := bf q1 hr
    refine w_iload_n 1 dX6_numberAt_4 rfl rfl rfl ?_
    refine w_aload_n 0 dX6_numberAt_5 rfl rfl rfl ?_
    refine g_X6_9 dX6_numberAt_6 rfl (hz.o6 hv) (hz.r386 hv) ?_
    refine w_alen 1 dX6_numberAt_9 rfl (by decide) (by decide) (fun _ => rfl) (hz.k386 hv) (v := 6) (by rw [hz.n386 hv]; rfl) ?_
    refine w_icmp_ge 22 dX6_numberAt_10 rfl rfl (fun q10 => ?_) (fun q10 => ?_)
    · have hr := bt q10 hr
      refine w_lconst 0 dX6_numberAt_22 rfl rfl ?_
      refine w_lret hf dX6_numberAt_23 rfl (Nat.le_of_ble_eq_true rfl) (Nat.le_of_ble_eq_true rfl) ?_
      obtain ⟨rfl, rfl⟩ := ret_inj hr
      exact ⟨rfl, hz⟩
    · have hr := bf q10 hr
      refine w_aload_n 0 dX6_numberAt_13 rfl rfl rfl ?_
      refine g_X6_9 dX6_numberAt_14 rfl (hz.o6 hv) (hz.r386 hv) ?_
      refine w_iload_n 1 dX6_numberAt_17 rfl rfl rfl ?_
      obtain ⟨g1, hr⟩ := gd hr
      refine w_lald dX6_numberAt_18 rfl (hz.k386 hv) (gin (hz.n386 hv) g1) (hz.x386 hv) ?_
      refine w_goto 23 dX6_numberAt_19 rfl ?_
      refine w_lret hf dX6_numberAt_23 rfl (Nat.le_of_ble_eq_true rfl) (Nat.le_of_ble_eq_true rfl) ?_
      obtain ⟨rfl, rfl⟩ := ret_inj hr
      exact ⟨rfl, hz⟩

set_option maxRecDepth 20000 in
set_option maxHeartbeats 4000000 in
theorem w_X6_copyFrom_18 {A : Nat → Nat → Nat → Nat} {ρ σ' : Zs} {v : Unit} {x : Cxt} {p : Nat} {s : Nat} {p1 : Nat} {s1 : Nat}  (hf : m_fin 0 0 (QV A v σ' ρ) X0 x) (hrm : m_rm 0 0 0 x) (hv : vdb (A 16 0 0) 6 p s = true) (hV1 : vdb (A 16 0 0) 6 p1 s1 = true) : ∀ (n : Nat) (y2 : Int32) (σ : Zs) (h : Hp), Rp A h σ ρ → fX6_copyFrom_18 p s p1 s1  n y2 σ = some (v, σ') → wp x mX6_copyFrom 18 [(0, .ref (A 6 p s)), (1, .ref (A 6 p1 s1)), (2, .int y2)] [] h 0 0
  | 0, _, σ, h => fun hz hr => by
    rw [fX6_copyFrom_18.eq_1] at hr
    exact nono hr
  | n + 1, y2, σ, h => fun hz hr => by
    rw [fX6_copyFrom_18.eq_2] at hr
    refine w_iload_n 2 dX6_copyFrom_18 rfl rfl rfl ?_
    refine w_aload_n 0 dX6_copyFrom_19 rfl rfl rfl ?_
    refine g_X6_9 dX6_copyFrom_20 rfl (hz.o6 hv) (hz.r386 hv) ?_
    refine w_alen 1 dX6_copyFrom_23 rfl (by decide) (by decide) (fun _ => rfl) (hz.k386 hv) (v := 6) (by rw [hz.n386 hv]; rfl) ?_
    refine w_icmp_ge 54 dX6_copyFrom_24 rfl rfl (fun q24 => ?_) (fun q24 => ?_)
    · have hr := bt q24 hr
      refine w_vret hf dX6_copyFrom_54 rfl (Nat.le_of_ble_eq_true rfl) (Nat.le_of_ble_eq_true rfl) ?_
      obtain ⟨rfl, rfl⟩ := ret_inj hr
      exact ⟨rfl, hz⟩
    · have hr := bf q24 hr
      refine w_iload_n 2 dX6_copyFrom_27 rfl rfl rfl ?_
      refine w_aload_n 1 dX6_copyFrom_28 rfl rfl rfl ?_
      refine g_X6_9 dX6_copyFrom_29 rfl (hz.o6 hV1) (hz.r386 hV1) ?_
      refine w_alen 1 dX6_copyFrom_32 rfl (by decide) (by decide) (fun _ => rfl) (hz.k386 hV1) (v := 6) (by rw [hz.n386 hV1]; rfl) ?_
      refine w_icmp_ge 54 dX6_copyFrom_33 rfl rfl (fun q33 => ?_) (fun q33 => ?_)
      · have hr := bt q33 hr
        refine w_vret hf dX6_copyFrom_54 rfl (Nat.le_of_ble_eq_true rfl) (Nat.le_of_ble_eq_true rfl) ?_
        obtain ⟨rfl, rfl⟩ := ret_inj hr
        exact ⟨rfl, hz⟩
      · have hr := bf q33 hr
        refine w_aload_n 0 dX6_copyFrom_36 rfl rfl rfl ?_
        refine g_X6_9 dX6_copyFrom_37 rfl (hz.o6 hv) (hz.r386 hv) ?_
        refine w_iload_n 2 dX6_copyFrom_40 rfl rfl rfl ?_
        refine w_aload_n 1 dX6_copyFrom_41 rfl rfl rfl ?_
        refine g_X6_9 dX6_copyFrom_42 rfl (hz.o6 hV1) (hz.r386 hV1) ?_
        refine w_iload_n 2 dX6_copyFrom_45 rfl rfl rfl ?_
        obtain ⟨g5, hr⟩ := gd hr
        refine w_lald dX6_copyFrom_46 rfl (hz.k386 hV1) (gin (hz.n386 hV1) g5) (hz.x386 hV1) ?_
        obtain ⟨g6, hr⟩ := gd hr
        refine w_last dX6_copyFrom_47 rfl (hz.k386 hv) (gin (hz.n386 hv) g6) ?_
        obtain ⟨σ7, e8, hr⟩ := lt_e hr
        have hz := (hz.s386 (i := (Int32.toNatClampNeg y2)) (v := (zJ σ 1410 p1 s1 (Int32.toNatClampNeg y2))) hv).ts e8
        refine w_iinc 2 (y2 + 1) [(2, .int (y2 + 1)), (0, .ref (A 6 p s)), (1, .ref (A 6 p1 s1))] dX6_copyFrom_48 rfl rfl rfl (by decide) rfl ?_
        refine w_goto 18 dX6_copyFrom_51 rfl ?_
        refine w_lv [(0, .ref (A 6 p s)), (1, .ref (A 6 p1 s1)), (2, .int (y2 + 1))] [1, 2, 0] rfl ?_
        exact w_X6_copyFrom_18 hf hrm hv hV1  n (y2 + 1) _ _ hz  hr
set_option maxRecDepth 20000 in
set_option maxHeartbeats 4000000 in
theorem s_X6_copyFrom {A : Nat → Nat → Nat → Nat} {h : Hp} {σ ρ σ' : Zs} {v : Unit} {p : Nat} {s : Nat} {p1 : Nat} {s1 : Nat} (hv : vdb (A 16 0 0) 6 p s = true) (hV1 : vdb (A 16 0 0) 6 p1 s1 = true) (hz : Rp A h σ ρ) (hr : fX6_copyFrom p s p1 s1 σ = some (v, σ')) : ∀ l : Launch, Sp l mX6_copyFrom 0 0 0 [.ref (A 6 p s), .ref (A 6 p1 s1)] h (QV A v σ' ρ) X0 := by
  intro l
  refine Sp.of rfl rfl (lv := [(0, .ref (A 6 p s)), (1, .ref (A 6 p1 s1))]) (Nat.le_of_ble_eq_true rfl) rfl (fun x hf hrm => ?_)
  rw [fX6_copyFrom.eq_1] at hr
  refine w_aload_n 0 dX6_copyFrom_0 rfl rfl rfl ?_
  refine w_aload_n 1 dX6_copyFrom_1 rfl rfl rfl ?_
  refine g_X6_15 dX6_copyFrom_2 rfl (hz.o6 hV1) (hz.i384 hV1) ?_
  refine p_X6_15 dX6_copyFrom_5 rfl (hz.o6 hv) ?_
  obtain ⟨σ1, e2, hr⟩ := lt_e hr
  have hz := (hz.s384 (v := (zI σ 384 p1 s1 0)) hv).ts e2
  refine w_aload_n 0 dX6_copyFrom_8 rfl rfl rfl ?_
  refine w_aload_n 1 dX6_copyFrom_9 rfl rfl rfl ?_
  refine g_X6_19 dX6_copyFrom_10 rfl (hz.o6 hV1) (hz.i385 hV1) ?_
  refine p_X6_19 dX6_copyFrom_13 rfl (hz.o6 hv) ?_
  obtain ⟨σ3, e4, hr⟩ := lt_e hr
  have hz := (hz.s385 (v := (zI σ1 385 p1 s1 0)) hv).ts e4
  refine w_iconst 0 dX6_copyFrom_16 rfl rfl ?_
  refine w_istore_n [(2, .int 0), (0, .ref (A 6 p s)), (1, .ref (A 6 p1 s1))] dX6_copyFrom_17 rfl rfl (by decide) rfl ?_
  refine w_lv [(0, .ref (A 6 p s)), (1, .ref (A 6 p1 s1)), (2, .int 0)] [1, 2, 0] rfl ?_
  exact w_X6_copyFrom_18 hf hrm hv hV1  FU 0 _ _ hz  hr

set_option maxRecDepth 20000 in
set_option maxHeartbeats 4000000 in
theorem w_X6_mixedInto_37 {A : Nat → Nat → Nat → Nat} {ρ σ' : Zs} {v : Int64} {x : Cxt} {p : Nat} {s : Nat} {x1 : Int64}  (hf : m_fin 0 0 (QJ A v σ' ρ) X0 x) (hrm : m_rm 1 0 0 x) (hv : vdb (A 16 0 0) 6 p s = true) : ∀ (n : Nat) (y3 : Int64) (y5 : Int32) (σ : Zs) (h : Hp), Rp A h σ ρ → fX6_mixedInto_37 p s x1  n y3 y5 σ = some (v, σ') → wp x mX6_mixedInto 37 [(0, .ref (A 6 p s)), (1, .long x1), (3, .long y3), (5, .int y5)] [] h 0 0
  | 0, _, _, σ, h => fun hz hr => by
    rw [fX6_mixedInto_37.eq_1] at hr
    exact nono hr
  | n + 1, y3, y5, σ, h => fun hz hr => by
    rw [fX6_mixedInto_37.eq_2] at hr
    refine w_iload 3 dX6_mixedInto_37 rfl rfl ?_
    refine w_aload_n 0 dX6_mixedInto_39 rfl rfl rfl ?_
    refine g_X6_19 dX6_mixedInto_40 rfl (hz.o6 hv) (hz.i385 hv) ?_
    refine w_icmp_ge 65 dX6_mixedInto_43 rfl rfl (fun q43 => ?_) (fun q43 => ?_)
    · have hr := bt q43 hr
      refine w_lload_n 2 dX6_mixedInto_65 rfl rfl rfl ?_
      refine w_lret hf dX6_mixedInto_66 rfl (Nat.le_of_ble_eq_true rfl) (Nat.le_of_ble_eq_true rfl) ?_
      obtain ⟨rfl, rfl⟩ := ret_inj hr
      exact ⟨rfl, hz⟩
    · have hr := bf q43 hr
      refine w_lload_n 2 dX6_mixedInto_46 rfl rfl rfl ?_
      refine w_ldc2 dX6_mixedInto_47 rfl k_X6_22 ?_
      refine w_lmul dX6_mixedInto_50 rfl ?_
      refine w_aload_n 0 dX6_mixedInto_51 rfl rfl rfl ?_
      refine w_iload 3 dX6_mixedInto_52 rfl rfl ?_
      obtain ⟨v1, σ2, e3, hr⟩ := bq_some hr
      refine c_X6_30 (As := [.int y5]) (rest := [.long (y3 * 31)]) (fun l => s_X6_numberAt hv hz e3 l) hrm dX6_mixedInto_54 rfl rfl (Nat.le_of_ble_eq_true rfl) (Nat.le_of_ble_eq_true rfl) (Nat.le_of_ble_eq_true rfl) (hz.o6 hv) rfl (Nat.le_of_ble_eq_true rfl) (fun vr h2 hq => ?_) (fun E9 h9 hq => hq.elim)
      obtain ⟨rfl, hz⟩ := hq
      show wp _ _ 57 [(0, .ref (A 6 p s)), (1, .long x1), (3, .long y3), (5, .int y5)] [.long v1, .long (y3 * 31)] _ _ _
      refine w_ladd dX6_mixedInto_57 rfl ?_
      refine w_lstore_n [(3, .long ((y3 * 31) + v1)), (0, .ref (A 6 p s)), (1, .long x1), (5, .int y5)] dX6_mixedInto_58 rfl rfl (by decide) rfl ?_
      refine w_iinc 3 (y5 + 1) [(5, .int (y5 + 1)), (3, .long ((y3 * 31) + v1)), (0, .ref (A 6 p s)), (1, .long x1)] dX6_mixedInto_59 rfl rfl rfl (by decide) rfl ?_
      refine w_goto 37 dX6_mixedInto_62 rfl ?_
      refine w_lv [(0, .ref (A 6 p s)), (1, .long x1), (3, .long ((y3 * 31) + v1)), (5, .int (y5 + 1))] [2, 3, 1, 0] rfl ?_
      exact w_X6_mixedInto_37 hf hrm hv  n ((y3 * 31) + v1) (y5 + 1) _ _ hz  hr
set_option maxRecDepth 20000 in
set_option maxHeartbeats 4000000 in
theorem s_X6_mixedInto {A : Nat → Nat → Nat → Nat} {h : Hp} {σ ρ σ' : Zs} {v : Int64} {p : Nat} {s : Nat} {x1 : Int64} (hv : vdb (A 16 0 0) 6 p s = true) (hz : Rp A h σ ρ) (hr : fX6_mixedInto p s x1 σ = some (v, σ')) : ∀ l : Launch, Sp l mX6_mixedInto 1 0 0 [.ref (A 6 p s), .long x1] h (QJ A v σ' ρ) X0 := by
  intro l
  refine Sp.of rfl rfl (lv := [(0, .ref (A 6 p s)), (1, .long x1)]) (Nat.le_of_ble_eq_true rfl) rfl (fun x hf hrm => ?_)
  rw [fX6_mixedInto.eq_1] at hr
  refine w_lload_n 1 dX6_mixedInto_0 rfl rfl rfl ?_
  refine w_ldc2 dX6_mixedInto_1 rfl k_X6_22 ?_
  refine w_lmul dX6_mixedInto_4 rfl ?_
  refine w_aload_n 0 dX6_mixedInto_5 rfl rfl rfl ?_
  refine g_X6_24 dX6_mixedInto_6 rfl (hz.o6 hv) (hz.i387 hv) ?_
  refine w_i2l dX6_mixedInto_9 rfl ?_
  refine w_ladd dX6_mixedInto_10 rfl ?_
  refine w_ldc2 dX6_mixedInto_11 rfl k_X6_22 ?_
  refine w_lmul dX6_mixedInto_14 rfl ?_
  refine w_aload_n 0 dX6_mixedInto_15 rfl rfl rfl ?_
  refine g_X6_27 dX6_mixedInto_16 rfl (hz.o6 hv) (hz.i388 hv) ?_
  refine w_i2l dX6_mixedInto_19 rfl ?_
  refine w_ladd dX6_mixedInto_20 rfl ?_
  refine w_lstore_n [(3, .long ((((x1 * 31) + (((zI σ 387 p s 0) : Int32).toInt64)) * 31) + (((zI σ 388 p s 0) : Int32).toInt64))), (0, .ref (A 6 p s)), (1, .long x1)] dX6_mixedInto_21 rfl rfl (by decide) rfl ?_
  refine w_lload_n 0 dX6_mixedInto_22 rfl rfl rfl ?_
  refine w_ldc2 dX6_mixedInto_23 rfl k_X6_22 ?_
  refine w_lmul dX6_mixedInto_26 rfl ?_
  refine w_aload_n 1 dX6_mixedInto_27 rfl rfl rfl ?_
  refine g_X6_15 dX6_mixedInto_28 rfl (hz.o6 hv) (hz.i384 hv) ?_
  refine w_i2l dX6_mixedInto_31 rfl ?_
  refine w_ladd dX6_mixedInto_32 rfl ?_
  refine w_lstore_n [(3, .long ((((((x1 * 31) + (((zI σ 387 p s 0) : Int32).toInt64)) * 31) + (((zI σ 388 p s 0) : Int32).toInt64)) * 31) + (((zI σ 384 p s 0) : Int32).toInt64))), (0, .ref (A 6 p s)), (1, .long x1)] dX6_mixedInto_33 rfl rfl (by decide) rfl ?_
  refine w_iconst 0 dX6_mixedInto_34 rfl rfl ?_
  refine w_istore [(5, .int 0), (3, .long ((((((x1 * 31) + (((zI σ 387 p s 0) : Int32).toInt64)) * 31) + (((zI σ 388 p s 0) : Int32).toInt64)) * 31) + (((zI σ 384 p s 0) : Int32).toInt64))), (0, .ref (A 6 p s)), (1, .long x1)] dX6_mixedInto_35 rfl (by decide) rfl ?_
  refine w_lv [(0, .ref (A 6 p s)), (1, .long x1), (3, .long ((((((x1 * 31) + (((zI σ 387 p s 0) : Int32).toInt64)) * 31) + (((zI σ 388 p s 0) : Int32).toInt64)) * 31) + (((zI σ 384 p s 0) : Int32).toInt64))), (5, .int 0)] [2, 3, 1, 0] rfl ?_
  exact w_X6_mixedInto_37 hf hrm hv  FU ((((((x1 * 31) + (((zI σ 387 p s 0) : Int32).toInt64)) * 31) + (((zI σ 388 p s 0) : Int32).toInt64)) * 31) + (((zI σ 384 p s 0) : Int32).toInt64)) 0 _ _ hz  hr

