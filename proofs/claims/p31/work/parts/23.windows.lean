/-! LIFTED: 23.windows -/
noncomputable def fX10_clear (p : Nat) (s : Nat) (σ : Zs) : Option (Unit × Zs) :=
  lt (sI σ 640 p s 0 0) fun σ1 => some ((), σ1)

noncomputable def fX10_countThose_4 (p : Nat) (s : Nat) (x1 : Int32)  : Nat → Int32 → Int32 → Zs → Option (Int32 × Zs)
  | 0, _, _, _ => none
  | n + 1, y2, y3, σ =>
    if (zI σ 640 p s 0) ≤ y3 then (some (y2, σ)) else (if 60 ≤ y3 then (some (y2, σ)) else (if gi y3 60 then if (zI σ 1667 p s (Int32.toNatClampNeg y3)) = x1 then (fX10_countThose_4 p s x1  n (y2 + 1) (y3 + 1) σ) else (fX10_countThose_4 p s x1  n y2 (y3 + 1) σ) else none))
noncomputable def fX10_countThose (p : Nat) (s : Nat) (x1 : Int32) (σ : Zs) : Option (Int32 × Zs) :=
  fX10_countThose_4 p s x1  FU 0 0 σ

noncomputable def fX10_placeFor_54 (p : Nat) (s : Nat) (x1 : Int64) (x3 : Int32) (x4 : Int32)   (σ : Zs) : Option (Int32 × Zs) :=
  if (zI σ 640 p s 0) < 60 then (if gi (zI σ 640 p s 0) 60 then lt (sJ σ 1665 p s (Int32.toNatClampNeg (zI σ 640 p s 0)) x1) fun σ2 => if gi (zI σ2 640 p s 0) 60 then lt (sI σ2 1666 p s (Int32.toNatClampNeg (zI σ2 640 p s 0)) x3) fun σ5 => if gi (zI σ5 640 p s 0) 60 then if x4 = 0 ∨ x4 = 1 then lt (sI σ5 1667 p s (Int32.toNatClampNeg (zI σ5 640 p s 0)) x4) fun σ9 => if gi (zI σ9 640 p s 0) 60 then lt (sI σ9 1668 p s (Int32.toNatClampNeg (zI σ9 640 p s 0)) 0) fun σ12 => lt (sI σ12 640 p s 0 ((zI σ12 640 p s 0) + 1)) fun σ14 => some (((zI σ14 640 p s 0) - 1), σ14) else none else none else none else none else none) else (some ((-1), σ))
noncomputable def fX10_placeFor_3 (p : Nat) (s : Nat) (x1 : Int64) (x3 : Int32) (x4 : Int32)  : Nat → Int32 → Zs → Option (Int32 × Zs)
  | 0, _, _ => none
  | n + 1, y5, σ =>
    if (zI σ 640 p s 0) ≤ y5 then (fX10_placeFor_54 p s x1 x3 x4   σ) else (if 60 ≤ y5 then (fX10_placeFor_54 p s x1 x3 x4   σ) else (if gi y5 60 then if ((lg_cmp (zJ σ 1665 p s (Int32.toNatClampNeg y5)) x1) : Int32) = 0 then (if gi y5 60 then if (zI σ 1666 p s (Int32.toNatClampNeg y5)) = x3 then (some (y5, σ)) else (fX10_placeFor_3 p s x1 x3 x4  n (y5 + 1) σ) else none) else (fX10_placeFor_3 p s x1 x3 x4  n (y5 + 1) σ) else none))
noncomputable def fX10_placeFor (p : Nat) (s : Nat) (x1 : Int64) (x3 : Int32) (x4 : Int32) (σ : Zs) : Option (Int32 × Zs) :=
  fX10_placeFor_3 p s x1 x3 x4  FU 0 σ

noncomputable def fX10_countRow (p : Nat) (s : Nat) (x1 : Int32) (σ : Zs) : Option (Unit × Zs) :=
  if x1 < 0 then (some ((), σ)) else (if (zI σ 640 p s 0) ≤ x1 then (some ((), σ)) else (if gi x1 60 then if gi x1 60 then lt (sI σ 1668 p s (Int32.toNatClampNeg x1) ((zI σ 1668 p s (Int32.toNatClampNeg x1)) + 1)) fun σ3 => some ((), σ3) else none else none))

noncomputable def fX10_addTo_53 (p : Nat) (s : Nat) (x1 : Int32) (x2 : Int32) (x3 : Int32) (x4 : Int64)  (y6 : Int32) (y7 : Int64) (z0 : Int32) (σ : Zs) : Option (Unit × Zs) :=
  if (x3 : Int32) = 150 then (if z0 = 0 then (if gi y6 240 then lt (sJ σ 1669 p s (Int32.toNatClampNeg y6) (y7 + x4)) fun σ4 => some ((), σ4) else none) else (if gi y6 240 then lt (sJ σ 1669 p s (Int32.toNatClampNeg y6) x4) fun σ7 => some ((), σ7) else none)) else if (x3 : Int32) = 151 then (if gi x1 60 then if gi y6 240 then lt (sJ σ 1669 p s (Int32.toNatClampNeg y6) (((zI σ 1668 p s (Int32.toNatClampNeg x1)) : Int32).toInt64)) fun σ11 => some ((), σ11) else none else none) else if (x3 : Int32) = 152 then (if z0 = 0 then (if 0 ≤ ((lg_cmp x4 y7) : Int32) then (if gi y6 240 then lt (sJ σ 1669 p s (Int32.toNatClampNeg y6) y7) fun σ17 => some ((), σ17) else none) else (if gi y6 240 then lt (sJ σ 1669 p s (Int32.toNatClampNeg y6) x4) fun σ20 => some ((), σ20) else none)) else (if gi y6 240 then lt (sJ σ 1669 p s (Int32.toNatClampNeg y6) x4) fun σ14 => some ((), σ14) else none)) else if (x3 : Int32) = 153 then (if z0 = 0 then (if ((lg_cmp x4 y7) : Int32) ≤ 0 then (if gi y6 240 then lt (sJ σ 1669 p s (Int32.toNatClampNeg y6) y7) fun σ26 => some ((), σ26) else none) else (if gi y6 240 then lt (sJ σ 1669 p s (Int32.toNatClampNeg y6) x4) fun σ29 => some ((), σ29) else none)) else (if gi y6 240 then lt (sJ σ 1669 p s (Int32.toNatClampNeg y6) x4) fun σ23 => some ((), σ23) else none)) else (if gi y6 240 then lt (sJ σ 1669 p s (Int32.toNatClampNeg y6) x4) fun σ32 => some ((), σ32) else none)
noncomputable def fX10_addTo (p : Nat) (s : Nat) (x1 : Int32) (x2 : Int32) (x3 : Int32) (x4 : Int64) (σ : Zs) : Option (Unit × Zs) :=
  if x1 < 0 then (some ((), σ)) else (if (zI σ 640 p s 0) ≤ x1 then (some ((), σ)) else (if x2 < 0 then (some ((), σ)) else (if x2 < 4 then (if gi ((x1 * 4) + x2) 240 then if gi x1 60 then if (zI σ 1668 p s (Int32.toNatClampNeg x1)) = 1 then (fX10_addTo_53 p s x1 x2 x3 x4  ((x1 * 4) + x2) (zJ σ 1669 p s (Int32.toNatClampNeg ((x1 * 4) + x2))) 1 σ) else (fX10_addTo_53 p s x1 x2 x3 x4  ((x1 * 4) + x2) (zJ σ 1669 p s (Int32.toNatClampNeg ((x1 * 4) + x2))) 0 σ) else none else none) else (some ((), σ)))))

noncomputable def fX10_copyTo_52 (p : Nat) (s : Nat) (x1 : Int32) (x2 : Int32) (x3 : Int32) (p4 : Nat) (s4 : Nat)  : Nat → Int32 → Zs → Option (Unit × Zs)
  | 0, _, _ => none
  | n + 1, y5, σ =>
    if x3 ≤ y5 then (some ((), σ)) else (if 4 ≤ y5 then (some ((), σ)) else (if gi ((x1 * 4) + y5) 240 then bq (fX6_append p4 s4 (zJ σ 1669 p s (Int32.toNatClampNeg ((x1 * 4) + y5))) σ) fun v17 σ18 => fX10_copyTo_52 p s x1 x2 x3 p4 s4  n (y5 + 1) σ18 else none))
noncomputable def fX10_copyTo (p : Nat) (s : Nat) (x1 : Int32) (x2 : Int32) (x3 : Int32) (p4 : Nat) (s4 : Nat) (σ : Zs) : Option (Unit × Zs) :=
  if x1 < 0 then (some ((), σ)) else (if x1 < (zI σ 640 p s 0) then (if gi x1 60 then bq (fX6_startAt p4 s4 (zI σ 1666 p s (Int32.toNatClampNeg x1)) σ) fun v2 σ3 => if gi x1 60 then bq (fX6_append p4 s4 (zJ σ3 1665 p s (Int32.toNatClampNeg x1)) σ3) fun v7 σ8 => if gi x1 60 then bq (fX6_append p4 s4 ((((zI σ8 1666 p s (Int32.toNatClampNeg x1)) - x2) : Int32).toInt64) σ8) fun v12 σ13 => fX10_copyTo_52 p s x1 x2 x3 p4 s4  FU 0 σ13 else none else none else none) else (some ((), σ)))

noncomputable def fX10_isAhead (p : Nat) (s : Nat) (x1 : Int32) (x2 : Int32) (σ : Zs) : Option (Int32 × Zs) :=
  if gi x1 60 then if gi x2 60 then if (zI σ 1666 p s (Int32.toNatClampNeg x1)) < (zI σ 1666 p s (Int32.toNatClampNeg x2)) then (some (1, σ)) else (if gi x1 60 then if gi x2 60 then if (zI σ 1666 p s (Int32.toNatClampNeg x1)) = (zI σ 1666 p s (Int32.toNatClampNeg x2)) then (if gi x1 60 then if gi x2 60 then if 0 ≤ ((lg_cmp (zJ σ 1665 p s (Int32.toNatClampNeg x1)) (zJ σ 1665 p s (Int32.toNatClampNeg x2))) : Int32) then (some (0, σ)) else (some (1, σ)) else none else none) else (some (0, σ)) else none else none) else none else none

noncomputable def fX10_closeNext_4 (p : Nat) (s : Nat) (x1 : Int32)  : Nat → Int32 → Int32 → Zs → Option (Int32 × Zs)
  | 0, _, _, _ => none
  | n + 1, y2, y3, σ =>
    if (zI σ 640 p s 0) ≤ y3 then (if y2 < 0 then (some (y2, σ)) else (if gi y2 60 then lt (sI σ 1667 p s (Int32.toNatClampNeg y2) 1) fun σ2 => some (y2, σ2) else none)) else (if 60 ≤ y3 then (if y2 < 0 then (some (y2, σ)) else (if gi y2 60 then lt (sI σ 1667 p s (Int32.toNatClampNeg y2) 1) fun σ5 => some (y2, σ5) else none)) else (if gi y3 60 then if (zI σ 1667 p s (Int32.toNatClampNeg y3)) = 0 then (if gi y3 60 then if x1 < (zI σ 1666 p s (Int32.toNatClampNeg y3)) then (fX10_closeNext_4 p s x1  n y2 (y3 + 1) σ) else (if y2 < 0 then (fX10_closeNext_4 p s x1  n y3 (y3 + 1) σ) else (bq (fX10_isAhead p s y3 y2 σ) fun v9 σ10 => if v9 = 0 then (fX10_closeNext_4 p s x1  n y2 (y3 + 1) σ10) else (fX10_closeNext_4 p s x1  n y3 (y3 + 1) σ10))) else none) else (fX10_closeNext_4 p s x1  n y2 (y3 + 1) σ) else none))
noncomputable def fX10_closeNext (p : Nat) (s : Nat) (x1 : Int32) (σ : Zs) : Option (Int32 × Zs) :=
  fX10_closeNext_4 p s x1  FU (-1) 0 σ

noncomputable def fX10_move_50 (p : Nat) (s : Nat) (x1 : Int32) (x2 : Int32)  : Nat → Int32 → Zs → Option (Unit × Zs)
  | 0, _, _ => none
  | n + 1, y3, σ =>
    if 4 ≤ y3 then (some ((), σ)) else (if gi ((x1 * 4) + y3) 240 then if gi ((x2 * 4) + y3) 240 then lt (sJ σ 1669 p s (Int32.toNatClampNeg ((x2 * 4) + y3)) (zJ σ 1669 p s (Int32.toNatClampNeg ((x1 * 4) + y3)))) fun σ20 => fX10_move_50 p s x1 x2  n (y3 + 1) σ20 else none else none)
noncomputable def fX10_move (p : Nat) (s : Nat) (x1 : Int32) (x2 : Int32) (σ : Zs) : Option (Unit × Zs) :=
  if gi x1 60 then if gi x2 60 then lt (sJ σ 1665 p s (Int32.toNatClampNeg x2) (zJ σ 1665 p s (Int32.toNatClampNeg x1))) fun σ3 => if gi x1 60 then if gi x2 60 then lt (sI σ3 1666 p s (Int32.toNatClampNeg x2) (zI σ3 1666 p s (Int32.toNatClampNeg x1))) fun σ7 => if gi x1 60 then if gi x2 60 then if (zI σ7 1667 p s (Int32.toNatClampNeg x1)) = 0 ∨ (zI σ7 1667 p s (Int32.toNatClampNeg x1)) = 1 then lt (sI σ7 1667 p s (Int32.toNatClampNeg x2) (zI σ7 1667 p s (Int32.toNatClampNeg x1))) fun σ12 => if gi x1 60 then if gi x2 60 then lt (sI σ12 1668 p s (Int32.toNatClampNeg x2) (zI σ12 1668 p s (Int32.toNatClampNeg x1))) fun σ16 => fX10_move_50 p s x1 x2  FU 0 σ16 else none else none else none else none else none else none else none else none else none

noncomputable def fX10_removeGone_5 (p : Nat) (s : Nat) (x1 : Int32) (x2 : Int32)  : Nat → Int32 → Int32 → Zs → Option (Unit × Zs)
  | 0, _, _, _ => none
  | n + 1, y3, y4, σ =>
    if (zI σ 640 p s 0) ≤ y4 then (lt (sI σ 640 p s 0 y3) fun σ1 => some ((), σ1)) else (if 60 ≤ y4 then (lt (sI σ 640 p s 0 y3) fun σ3 => some ((), σ3)) else (if gi y4 60 then if (((zI σ 1666 p s (Int32.toNatClampNeg y4)) + x2) : Int32) ≤ x1 then (fX10_removeGone_5 p s x1 x2  n y3 (y4 + 1) σ) else (bq (fX10_move p s y4 y3 σ) fun v6 σ7 => fX10_removeGone_5 p s x1 x2  n (y3 + 1) (y4 + 1) σ7) else none))
noncomputable def fX10_removeGone (p : Nat) (s : Nat) (x1 : Int32) (x2 : Int32) (σ : Zs) : Option (Unit × Zs) :=
  fX10_removeGone_5 p s x1 x2  FU 0 0 σ

set_option maxRecDepth 20000 in
set_option maxHeartbeats 4000000 in
theorem s_X10_clear {A : Nat → Nat → Nat → Nat} {h : Hp} {σ ρ σ' : Zs} {v : Unit} {p : Nat} {s : Nat} (hv : vdb (A 16 0 0) 10 p s = true) (hz : Rp A h σ ρ) (hr : fX10_clear p s σ = some (v, σ')) : ∀ l : Launch, Sp l mX10_clear 0 0 0 [.ref (A 10 p s)] h (QV A v σ' ρ) X0 := by
  intro l
  refine Sp.of rfl rfl (lv := [(0, .ref (A 10 p s))]) (Nat.le_of_ble_eq_true rfl) rfl (fun x hf hrm => ?_)
  rw [fX10_clear.eq_1] at hr
  refine w_aload_n 0 dX10_clear_0 rfl rfl rfl ?_
  refine w_iconst 0 dX10_clear_1 rfl rfl ?_
  refine p_X10_29 dX10_clear_2 rfl (hz.o10 hv) ?_
  obtain ⟨σ1, e2, hr⟩ := lt_e hr
  have hz := (hz.s640 (v := 0) hv).ts e2
  refine w_vret hf dX10_clear_5 rfl (Nat.le_of_ble_eq_true rfl) (Nat.le_of_ble_eq_true rfl) ?_
  obtain ⟨rfl, rfl⟩ := ret_inj hr
  exact ⟨rfl, hz⟩

set_option maxRecDepth 20000 in
set_option maxHeartbeats 4000000 in
theorem w_X10_countThose_4 {A : Nat → Nat → Nat → Nat} {ρ σ' : Zs} {v : Int32} {x : Cxt} {p : Nat} {s : Nat} {x1 : Int32}  (hf : m_fin 0 0 (QI A v σ' ρ) X0 x) (hrm : m_rm 0 0 0 x) (hv : vdb (A 16 0 0) 10 p s = true) : ∀ (n : Nat) (y2 : Int32) (y3 : Int32) (σ : Zs) (h : Hp), Rp A h σ ρ → fX10_countThose_4 p s x1  n y2 y3 σ = some (v, σ') → wp x mX10_countThose 4 [(0, .ref (A 10 p s)), (1, .int x1), (2, .int y2), (3, .int y3)] [] h 0 0
  | 0, _, _, σ, h => fun hz hr => by
    rw [fX10_countThose_4.eq_1] at hr
    exact nono hr
  | n + 1, y2, y3, σ, h => fun hz hr => by
    rw [fX10_countThose_4.eq_2] at hr
    refine w_iload_n 3 dX10_countThose_4 rfl rfl rfl ?_
    refine w_aload_n 0 dX10_countThose_5 rfl rfl rfl ?_
    refine g_X10_29 dX10_countThose_6 rfl (hz.o10 hv) (hz.i640 hv) ?_
    refine w_icmp_ge 40 dX10_countThose_9 rfl rfl (fun q9 => ?_) (fun q9 => ?_)
    · have hr := bt q9 hr
      refine w_iload_n 2 dX10_countThose_40 rfl rfl rfl ?_
      refine w_iret hf dX10_countThose_41 rfl (Nat.le_of_ble_eq_true rfl) (Nat.le_of_ble_eq_true rfl) ?_
      obtain ⟨rfl, rfl⟩ := ret_inj hr
      exact ⟨rfl, hz⟩
    · have hr := bf q9 hr
      refine w_iload_n 3 dX10_countThose_12 rfl rfl rfl ?_
      refine w_aload_n 0 dX10_countThose_13 rfl rfl rfl ?_
      refine g_X10_19 dX10_countThose_14 rfl (hz.o10 hv) (hz.r643 hv) ?_
      refine w_alen 3 dX10_countThose_17 rfl (by decide) (by decide) (fun _ => rfl) (hz.k643 hv) (v := 60) (by rw [hz.n643 hv]; rfl) ?_
      refine w_icmp_ge 40 dX10_countThose_18 rfl rfl (fun q18 => ?_) (fun q18 => ?_)
      · have hr := bt q18 hr
        refine w_iload_n 2 dX10_countThose_40 rfl rfl rfl ?_
        refine w_iret hf dX10_countThose_41 rfl (Nat.le_of_ble_eq_true rfl) (Nat.le_of_ble_eq_true rfl) ?_
        obtain ⟨rfl, rfl⟩ := ret_inj hr
        exact ⟨rfl, hz⟩
      · have hr := bf q18 hr
        refine w_aload_n 0 dX10_countThose_21 rfl rfl rfl ?_
        refine g_X10_19 dX10_countThose_22 rfl (hz.o10 hv) (hz.r643 hv) ?_
        refine w_iload_n 3 dX10_countThose_25 rfl rfl rfl ?_
        obtain ⟨g1, hr⟩ := gd hr
        refine w_zald dX10_countThose_26 rfl (hz.k643 hv) (gin (hz.n643 hv) g1) (hz.x643 hv) ?_
        refine w_iload_n 1 dX10_countThose_27 rfl rfl rfl ?_
        refine w_icmp_ne 34 dX10_countThose_28 rfl rfl (fun q28 => ?_) (fun q28 => ?_)
        · have hr := bf q28 hr
          refine w_iinc 3 (y3 + 1) [(3, .int (y3 + 1)), (0, .ref (A 10 p s)), (1, .int x1), (2, .int y2)] dX10_countThose_34 rfl rfl rfl (by decide) rfl ?_
          refine w_goto 4 dX10_countThose_37 rfl ?_
          refine w_lv [(0, .ref (A 10 p s)), (1, .int x1), (2, .int y2), (3, .int (y3 + 1))] [1, 2, 3, 0] rfl ?_
          exact w_X10_countThose_4 hf hrm hv  n y2 (y3 + 1) _ _ hz  hr
        · have hr := bt q28 hr
          refine w_iinc 2 (y2 + 1) [(2, .int (y2 + 1)), (0, .ref (A 10 p s)), (1, .int x1), (3, .int y3)] dX10_countThose_31 rfl rfl rfl (by decide) rfl ?_
          refine w_iinc 3 (y3 + 1) [(3, .int (y3 + 1)), (2, .int (y2 + 1)), (0, .ref (A 10 p s)), (1, .int x1)] dX10_countThose_34 rfl rfl rfl (by decide) rfl ?_
          refine w_goto 4 dX10_countThose_37 rfl ?_
          refine w_lv [(0, .ref (A 10 p s)), (1, .int x1), (2, .int (y2 + 1)), (3, .int (y3 + 1))] [2, 3, 1, 0] rfl ?_
          exact w_X10_countThose_4 hf hrm hv  n (y2 + 1) (y3 + 1) _ _ hz  hr
set_option maxRecDepth 20000 in
set_option maxHeartbeats 4000000 in
theorem s_X10_countThose {A : Nat → Nat → Nat → Nat} {h : Hp} {σ ρ σ' : Zs} {v : Int32} {p : Nat} {s : Nat} {x1 : Int32} (hv : vdb (A 16 0 0) 10 p s = true) (hz : Rp A h σ ρ) (hr : fX10_countThose p s x1 σ = some (v, σ')) : ∀ l : Launch, Sp l mX10_countThose 0 0 0 [.ref (A 10 p s), .int x1] h (QI A v σ' ρ) X0 := by
  intro l
  refine Sp.of rfl rfl (lv := [(0, .ref (A 10 p s)), (1, .int x1)]) (Nat.le_of_ble_eq_true rfl) rfl (fun x hf hrm => ?_)
  rw [fX10_countThose.eq_1] at hr
  refine w_iconst 0 dX10_countThose_0 rfl rfl ?_
  refine w_istore_n [(2, .int 0), (0, .ref (A 10 p s)), (1, .int x1)] dX10_countThose_1 rfl rfl (by decide) rfl ?_
  refine w_iconst 0 dX10_countThose_2 rfl rfl ?_
  refine w_istore_n [(3, .int 0), (2, .int 0), (0, .ref (A 10 p s)), (1, .int x1)] dX10_countThose_3 rfl rfl (by decide) rfl ?_
  refine w_lv [(0, .ref (A 10 p s)), (1, .int x1), (2, .int 0), (3, .int 0)] [2, 3, 1, 0] rfl ?_
  exact w_X10_countThose_4 hf hrm hv  FU 0 0 _ _ hz  hr

set_option maxRecDepth 20000 in
set_option maxHeartbeats 4000000 in
theorem w_X10_placeFor_54 {A : Nat → Nat → Nat → Nat} {ρ σ' : Zs} {v : Int32} {x : Cxt} {p : Nat} {s : Nat} {x1 : Int64} {x3 : Int32} {x4 : Int32}  (hf : m_fin 0 0 (QI A v σ' ρ) X0 x) (hrm : m_rm 0 0 0 x) (hv : vdb (A 16 0 0) 10 p s = true) : ∀ (σ : Zs) (h : Hp), Rp A h σ ρ → fX10_placeFor_54 p s x1 x3 x4   σ = some (v, σ') → wp x mX10_placeFor 54 [(0, .ref (A 10 p s)), (1, .long x1), (3, .int x3), (4, .int x4)] [] h 0 0 := by
  intro σ h hz hr
  rw [fX10_placeFor_54.eq_1] at hr
  refine w_aload_n 0 dX10_placeFor_54 rfl rfl rfl ?_
  refine g_X10_29 dX10_placeFor_55 rfl (hz.o10 hv) (hz.i640 hv) ?_
  refine w_aload_n 0 dX10_placeFor_58 rfl rfl rfl ?_
  refine g_X10_9 dX10_placeFor_59 rfl (hz.o10 hv) (hz.r641 hv) ?_
  refine w_alen 1 dX10_placeFor_62 rfl (by decide) (by decide) (fun _ => rfl) (hz.k641 hv) (v := 60) (by rw [hz.n641 hv]; rfl) ?_
  refine w_icmp_lt 68 dX10_placeFor_63 rfl rfl (fun q63 => ?_) (fun q63 => ?_)
  · have hr := bt q63 hr
    refine w_aload_n 0 dX10_placeFor_68 rfl rfl rfl ?_
    refine g_X10_9 dX10_placeFor_69 rfl (hz.o10 hv) (hz.r641 hv) ?_
    refine w_aload_n 0 dX10_placeFor_72 rfl rfl rfl ?_
    refine g_X10_29 dX10_placeFor_73 rfl (hz.o10 hv) (hz.i640 hv) ?_
    refine w_lload_n 1 dX10_placeFor_76 rfl rfl rfl ?_
    obtain ⟨g1, hr⟩ := gd hr
    refine w_last dX10_placeFor_77 rfl (hz.k641 hv) (gin (hz.n641 hv) g1) ?_
    obtain ⟨σ2, e3, hr⟩ := lt_e hr
    have hz := (hz.s641 (i := (Int32.toNatClampNeg (zI σ 640 p s 0))) (v := x1) hv).ts e3
    refine w_aload_n 0 dX10_placeFor_78 rfl rfl rfl ?_
    refine g_X10_15 dX10_placeFor_79 rfl (hz.o10 hv) (hz.r642 hv) ?_
    refine w_aload_n 0 dX10_placeFor_82 rfl rfl rfl ?_
    refine g_X10_29 dX10_placeFor_83 rfl (hz.o10 hv) (hz.i640 hv) ?_
    refine w_iload_n 2 dX10_placeFor_86 rfl rfl rfl ?_
    obtain ⟨g4, hr⟩ := gd hr
    refine w_iast dX10_placeFor_87 rfl (hz.k642 hv) (gin (hz.n642 hv) g4) ?_
    obtain ⟨σ5, e6, hr⟩ := lt_e hr
    have hz := (hz.s642 (i := (Int32.toNatClampNeg (zI σ2 640 p s 0))) (v := x3) hv).ts e6
    refine w_aload_n 0 dX10_placeFor_88 rfl rfl rfl ?_
    refine g_X10_19 dX10_placeFor_89 rfl (hz.o10 hv) (hz.r643 hv) ?_
    refine w_aload_n 0 dX10_placeFor_92 rfl rfl rfl ?_
    refine g_X10_29 dX10_placeFor_93 rfl (hz.o10 hv) (hz.i640 hv) ?_
    refine w_iload 3 dX10_placeFor_96 rfl rfl ?_
    obtain ⟨g7, hr⟩ := gd hr
    obtain ⟨g8, hr⟩ := gd hr
    refine w_zast dX10_placeFor_98 rfl (hz.k643 hv) (gin (hz.n643 hv) g7) (zn g8) ?_
    obtain ⟨σ9, e10, hr⟩ := lt_e hr
    have hz := (hz.s643 (i := (Int32.toNatClampNeg (zI σ5 640 p s 0))) (v := x4) hv).ts e10
    refine w_aload_n 0 dX10_placeFor_99 rfl rfl rfl ?_
    refine g_X10_23 dX10_placeFor_100 rfl (hz.o10 hv) (hz.r644 hv) ?_
    refine w_aload_n 0 dX10_placeFor_103 rfl rfl rfl ?_
    refine g_X10_29 dX10_placeFor_104 rfl (hz.o10 hv) (hz.i640 hv) ?_
    refine w_iconst 0 dX10_placeFor_107 rfl rfl ?_
    obtain ⟨g11, hr⟩ := gd hr
    refine w_iast dX10_placeFor_108 rfl (hz.k644 hv) (gin (hz.n644 hv) g11) ?_
    obtain ⟨σ12, e13, hr⟩ := lt_e hr
    have hz := (hz.s644 (i := (Int32.toNatClampNeg (zI σ9 640 p s 0))) (v := 0) hv).ts e13
    refine w_aload_n 0 dX10_placeFor_109 rfl rfl rfl ?_
    refine w_dup dX10_placeFor_110 rfl rfl ?_
    refine g_X10_29 dX10_placeFor_111 rfl (hz.o10 hv) (hz.i640 hv) ?_
    refine w_iconst 1 dX10_placeFor_114 rfl rfl ?_
    refine w_iadd dX10_placeFor_115 rfl ?_
    refine p_X10_29 dX10_placeFor_116 rfl (hz.o10 hv) ?_
    obtain ⟨σ14, e15, hr⟩ := lt_e hr
    have hz := (hz.s640 (v := ((zI σ12 640 p s 0) + 1)) hv).ts e15
    refine w_aload_n 0 dX10_placeFor_119 rfl rfl rfl ?_
    refine g_X10_29 dX10_placeFor_120 rfl (hz.o10 hv) (hz.i640 hv) ?_
    refine w_iconst 1 dX10_placeFor_123 rfl rfl ?_
    refine w_isub dX10_placeFor_124 rfl ?_
    refine w_iret hf dX10_placeFor_125 rfl (Nat.le_of_ble_eq_true rfl) (Nat.le_of_ble_eq_true rfl) ?_
    obtain ⟨rfl, rfl⟩ := ret_inj hr
    exact ⟨rfl, hz⟩
  · have hr := bf q63 hr
    refine w_iconst (-1) dX10_placeFor_66 rfl rfl ?_
    refine w_iret hf dX10_placeFor_67 rfl (Nat.le_of_ble_eq_true rfl) (Nat.le_of_ble_eq_true rfl) ?_
    obtain ⟨rfl, rfl⟩ := ret_inj hr
    exact ⟨rfl, hz⟩
set_option maxRecDepth 20000 in
set_option maxHeartbeats 4000000 in
theorem w_X10_placeFor_3 {A : Nat → Nat → Nat → Nat} {ρ σ' : Zs} {v : Int32} {x : Cxt} {p : Nat} {s : Nat} {x1 : Int64} {x3 : Int32} {x4 : Int32}  (hf : m_fin 0 0 (QI A v σ' ρ) X0 x) (hrm : m_rm 0 0 0 x) (hv : vdb (A 16 0 0) 10 p s = true) : ∀ (n : Nat) (y5 : Int32) (σ : Zs) (h : Hp), Rp A h σ ρ → fX10_placeFor_3 p s x1 x3 x4  n y5 σ = some (v, σ') → wp x mX10_placeFor 3 [(0, .ref (A 10 p s)), (1, .long x1), (3, .int x3), (4, .int x4), (5, .int y5)] [] h 0 0
  | 0, _, σ, h => fun hz hr => by
    rw [fX10_placeFor_3.eq_1] at hr
    exact nono hr
  | n + 1, y5, σ, h => fun hz hr => by
    rw [fX10_placeFor_3.eq_2] at hr
    refine w_iload 4 dX10_placeFor_3 rfl rfl ?_
    refine w_aload_n 0 dX10_placeFor_5 rfl rfl rfl ?_
    refine g_X10_29 dX10_placeFor_6 rfl (hz.o10 hv) (hz.i640 hv) ?_
    refine w_icmp_ge 54 dX10_placeFor_9 rfl rfl (fun q9 => ?_) (fun q9 => ?_)
    · have hr := bt q9 hr
      refine w_lv [(0, .ref (A 10 p s)), (1, .long x1), (3, .int x3), (4, .int x4)] [0, 1, 2, 3] rfl ?_
      exact w_X10_placeFor_54 hf hrm hv   _ _ hz  hr
    · have hr := bf q9 hr
      refine w_iload 4 dX10_placeFor_12 rfl rfl ?_
      refine w_aload_n 0 dX10_placeFor_14 rfl rfl rfl ?_
      refine g_X10_9 dX10_placeFor_15 rfl (hz.o10 hv) (hz.r641 hv) ?_
      refine w_alen 1 dX10_placeFor_18 rfl (by decide) (by decide) (fun _ => rfl) (hz.k641 hv) (v := 60) (by rw [hz.n641 hv]; rfl) ?_
      refine w_icmp_ge 54 dX10_placeFor_19 rfl rfl (fun q19 => ?_) (fun q19 => ?_)
      · have hr := bt q19 hr
        refine w_lv [(0, .ref (A 10 p s)), (1, .long x1), (3, .int x3), (4, .int x4)] [0, 1, 2, 3] rfl ?_
        exact w_X10_placeFor_54 hf hrm hv   _ _ hz  hr
      · have hr := bf q19 hr
        refine w_aload_n 0 dX10_placeFor_22 rfl rfl rfl ?_
        refine g_X10_9 dX10_placeFor_23 rfl (hz.o10 hv) (hz.r641 hv) ?_
        refine w_iload 4 dX10_placeFor_26 rfl rfl ?_
        obtain ⟨g16, hr⟩ := gd hr
        refine w_lald dX10_placeFor_28 rfl (hz.k641 hv) (gin (hz.n641 hv) g16) (hz.x641 hv) ?_
        refine w_lload_n 1 dX10_placeFor_29 rfl rfl rfl ?_
        refine w_lcmp dX10_placeFor_30 rfl ?_
        refine w_if_ne 48 dX10_placeFor_31 rfl rfl (fun q31 => ?_) (fun q31 => ?_)
        · have hr := bf q31 hr
          refine w_iinc 4 (y5 + 1) [(5, .int (y5 + 1)), (0, .ref (A 10 p s)), (1, .long x1), (3, .int x3), (4, .int x4)] dX10_placeFor_48 rfl rfl rfl (by decide) rfl ?_
          refine w_goto 3 dX10_placeFor_51 rfl ?_
          refine w_lv [(0, .ref (A 10 p s)), (1, .long x1), (3, .int x3), (4, .int x4), (5, .int (y5 + 1))] [1, 2, 3, 4, 0] rfl ?_
          exact w_X10_placeFor_3 hf hrm hv  n (y5 + 1) _ _ hz  hr
        · have hr := bt q31 hr
          refine w_aload_n 0 dX10_placeFor_34 rfl rfl rfl ?_
          refine g_X10_15 dX10_placeFor_35 rfl (hz.o10 hv) (hz.r642 hv) ?_
          refine w_iload 4 dX10_placeFor_38 rfl rfl ?_
          obtain ⟨g17, hr⟩ := gd hr
          refine w_iald dX10_placeFor_40 rfl (hz.k642 hv) (gin (hz.n642 hv) g17) (hz.x642 hv) ?_
          refine w_iload_n 2 dX10_placeFor_41 rfl rfl rfl ?_
          refine w_icmp_ne 48 dX10_placeFor_42 rfl rfl (fun q42 => ?_) (fun q42 => ?_)
          · have hr := bf q42 hr
            refine w_iinc 4 (y5 + 1) [(5, .int (y5 + 1)), (0, .ref (A 10 p s)), (1, .long x1), (3, .int x3), (4, .int x4)] dX10_placeFor_48 rfl rfl rfl (by decide) rfl ?_
            refine w_goto 3 dX10_placeFor_51 rfl ?_
            refine w_lv [(0, .ref (A 10 p s)), (1, .long x1), (3, .int x3), (4, .int x4), (5, .int (y5 + 1))] [1, 2, 3, 4, 0] rfl ?_
            exact w_X10_placeFor_3 hf hrm hv  n (y5 + 1) _ _ hz  hr
          · have hr := bt q42 hr
            refine w_iload 4 dX10_placeFor_45 rfl rfl ?_
            refine w_iret hf dX10_placeFor_47 rfl (Nat.le_of_ble_eq_true rfl) (Nat.le_of_ble_eq_true rfl) ?_
            obtain ⟨rfl, rfl⟩ := ret_inj hr
            exact ⟨rfl, hz⟩
set_option maxRecDepth 20000 in
set_option maxHeartbeats 4000000 in
theorem s_X10_placeFor {A : Nat → Nat → Nat → Nat} {h : Hp} {σ ρ σ' : Zs} {v : Int32} {p : Nat} {s : Nat} {x1 : Int64} {x3 : Int32} {x4 : Int32} (hv : vdb (A 16 0 0) 10 p s = true) (hz : Rp A h σ ρ) (hr : fX10_placeFor p s x1 x3 x4 σ = some (v, σ')) : ∀ l : Launch, Sp l mX10_placeFor 0 0 0 [.ref (A 10 p s), .long x1, .int x3, .int x4] h (QI A v σ' ρ) X0 := by
  intro l
  refine Sp.of rfl rfl (lv := [(0, .ref (A 10 p s)), (1, .long x1), (3, .int x3), (4, .int x4)]) (Nat.le_of_ble_eq_true rfl) rfl (fun x hf hrm => ?_)
  rw [fX10_placeFor.eq_1] at hr
  refine w_iconst 0 dX10_placeFor_0 rfl rfl ?_
  refine w_istore [(5, .int 0), (0, .ref (A 10 p s)), (1, .long x1), (3, .int x3), (4, .int x4)] dX10_placeFor_1 rfl (by decide) rfl ?_
  refine w_lv [(0, .ref (A 10 p s)), (1, .long x1), (3, .int x3), (4, .int x4), (5, .int 0)] [1, 2, 3, 4, 0] rfl ?_
  exact w_X10_placeFor_3 hf hrm hv  FU 0 _ _ hz  hr

set_option maxRecDepth 20000 in
set_option maxHeartbeats 4000000 in
theorem s_X10_countRow {A : Nat → Nat → Nat → Nat} {h : Hp} {σ ρ σ' : Zs} {v : Unit} {p : Nat} {s : Nat} {x1 : Int32} (hv : vdb (A 16 0 0) 10 p s = true) (hz : Rp A h σ ρ) (hr : fX10_countRow p s x1 σ = some (v, σ')) : ∀ l : Launch, Sp l mX10_countRow 0 0 0 [.ref (A 10 p s), .int x1] h (QV A v σ' ρ) X0 := by
  intro l
  refine Sp.of rfl rfl (lv := [(0, .ref (A 10 p s)), (1, .int x1)]) (Nat.le_of_ble_eq_true rfl) rfl (fun x hf hrm => ?_)
  rw [fX10_countRow.eq_1] at hr
  refine w_iload_n 1 dX10_countRow_0 rfl rfl rfl ?_
  refine w_if_lt 22 dX10_countRow_1 rfl rfl (fun q1 => ?_) (fun q1 => ?_)
  · have hr := bt q1 hr
    refine w_vret hf dX10_countRow_22 rfl (Nat.le_of_ble_eq_true rfl) (Nat.le_of_ble_eq_true rfl) ?_
    obtain ⟨rfl, rfl⟩ := ret_inj hr
    exact ⟨rfl, hz⟩
  · have hr := bf q1 hr
    refine w_iload_n 1 dX10_countRow_4 rfl rfl rfl ?_
    refine w_aload_n 0 dX10_countRow_5 rfl rfl rfl ?_
    refine g_X10_29 dX10_countRow_6 rfl (hz.o10 hv) (hz.i640 hv) ?_
    refine w_icmp_ge 22 dX10_countRow_9 rfl rfl (fun q9 => ?_) (fun q9 => ?_)
    · have hr := bt q9 hr
      refine w_vret hf dX10_countRow_22 rfl (Nat.le_of_ble_eq_true rfl) (Nat.le_of_ble_eq_true rfl) ?_
      obtain ⟨rfl, rfl⟩ := ret_inj hr
      exact ⟨rfl, hz⟩
    · have hr := bf q9 hr
      refine w_aload_n 0 dX10_countRow_12 rfl rfl rfl ?_
      refine g_X10_23 dX10_countRow_13 rfl (hz.o10 hv) (hz.r644 hv) ?_
      refine w_iload_n 1 dX10_countRow_16 rfl rfl rfl ?_
      refine w_dup2 dX10_countRow_17 rfl rfl rfl ?_
      obtain ⟨g1, hr⟩ := gd hr
      refine w_iald dX10_countRow_18 rfl (hz.k644 hv) (gin (hz.n644 hv) g1) (hz.x644 hv) ?_
      refine w_iconst 1 dX10_countRow_19 rfl rfl ?_
      refine w_iadd dX10_countRow_20 rfl ?_
      obtain ⟨g2, hr⟩ := gd hr
      refine w_iast dX10_countRow_21 rfl (hz.k644 hv) (gin (hz.n644 hv) g2) ?_
      obtain ⟨σ3, e4, hr⟩ := lt_e hr
      have hz := (hz.s644 (i := (Int32.toNatClampNeg x1)) (v := ((zI σ 1668 p s (Int32.toNatClampNeg x1)) + 1)) hv).ts e4
      refine w_vret hf dX10_countRow_22 rfl (Nat.le_of_ble_eq_true rfl) (Nat.le_of_ble_eq_true rfl) ?_
      obtain ⟨rfl, rfl⟩ := ret_inj hr
      exact ⟨rfl, hz⟩

set_option maxRecDepth 20000 in
set_option maxHeartbeats 4000000 in
theorem w_X10_addTo_53 {A : Nat → Nat → Nat → Nat} {ρ σ' : Zs} {v : Unit} {x : Cxt} {p : Nat} {s : Nat} {x1 : Int32} {x2 : Int32} {x3 : Int32} {x4 : Int64}  (hf : m_fin 0 0 (QV A v σ' ρ) X0 x) (hrm : m_rm 0 0 0 x) (hv : vdb (A 16 0 0) 10 p s = true) : ∀ (y6 : Int32) (y7 : Int64) (z0 : Int32) (σ : Zs) (h : Hp), Rp A h σ ρ → fX10_addTo_53 p s x1 x2 x3 x4  y6 y7 z0 σ = some (v, σ') → wp x mX10_addTo 53 [(0, .ref (A 10 p s)), (1, .int x1), (2, .int x2), (3, .int x3), (4, .long x4), (6, .int y6), (7, .long y7)] [.int z0] h 0 0 := by
  intro y6 y7 z0 σ h hz hr
  rw [fX10_addTo_53.eq_1] at hr
  refine w_istore [(9, .int z0), (0, .ref (A 10 p s)), (1, .int x1), (2, .int x2), (3, .int x3), (4, .long x4), (6, .int y6), (7, .long y7)] dX10_addTo_53 rfl (by decide) rfl ?_
  refine w_iload_n 4 dX10_addTo_55 rfl rfl rfl ?_
  by_cases q56_0 : (x3 : Int32) = 150
  · have hr := bt q56_0 hr
    refine w_tableIn 105 dX10_addTo_56 (by rw [q56_0]; decide) (by rw [q56_0]; decide) (by rw [q56_0]; rfl) rfl ?_
    refine w_aload_n 1 dX10_addTo_105 rfl rfl rfl ?_
    refine g_X10_26 dX10_addTo_106 rfl (hz.o10 hv) (hz.r645 hv) ?_
    refine w_iload 6 dX10_addTo_109 rfl rfl ?_
    refine w_iload 0 dX10_addTo_111 rfl rfl ?_
    refine w_if_eq 121 dX10_addTo_113 rfl rfl (fun q113 => ?_) (fun q113 => ?_)
    · have hr := bt q113 hr
      refine w_lload 7 dX10_addTo_121 rfl rfl ?_
      refine w_lload 5 dX10_addTo_123 rfl rfl ?_
      refine w_ladd dX10_addTo_125 rfl ?_
      obtain ⟨g3, hr⟩ := gd hr
      refine w_last dX10_addTo_126 rfl (hz.k645 hv) (gin (hz.n645 hv) g3) ?_
      obtain ⟨σ4, e5, hr⟩ := lt_e hr
      have hz := (hz.s645 (i := (Int32.toNatClampNeg y6)) (v := (y7 + x4)) hv).ts e5
      refine w_goto 199 dX10_addTo_127 rfl ?_
      refine w_vret hf dX10_addTo_199 rfl (Nat.le_of_ble_eq_true rfl) (Nat.le_of_ble_eq_true rfl) ?_
      obtain ⟨rfl, rfl⟩ := ret_inj hr
      exact ⟨rfl, hz⟩
    · have hr := bf q113 hr
      refine w_lload 5 dX10_addTo_116 rfl rfl ?_
      refine w_goto 126 dX10_addTo_118 rfl ?_
      obtain ⟨g6, hr⟩ := gd hr
      refine w_last dX10_addTo_126 rfl (hz.k645 hv) (gin (hz.n645 hv) g6) ?_
      obtain ⟨σ7, e8, hr⟩ := lt_e hr
      have hz := (hz.s645 (i := (Int32.toNatClampNeg y6)) (v := x4) hv).ts e8
      refine w_goto 199 dX10_addTo_127 rfl ?_
      refine w_vret hf dX10_addTo_199 rfl (Nat.le_of_ble_eq_true rfl) (Nat.le_of_ble_eq_true rfl) ?_
      obtain ⟨rfl, rfl⟩ := ret_inj hr
      exact ⟨rfl, hz⟩
  have hr := bf q56_0 hr
  by_cases q56_1 : (x3 : Int32) = 151
  · have hr := bt q56_1 hr
    refine w_tableIn 88 dX10_addTo_56 (by rw [q56_1]; decide) (by rw [q56_1]; decide) (by rw [q56_1]; rfl) rfl ?_
    refine w_aload_n 1 dX10_addTo_88 rfl rfl rfl ?_
    refine g_X10_26 dX10_addTo_89 rfl (hz.o10 hv) (hz.r645 hv) ?_
    refine w_iload 6 dX10_addTo_92 rfl rfl ?_
    refine w_aload_n 1 dX10_addTo_94 rfl rfl rfl ?_
    refine g_X10_23 dX10_addTo_95 rfl (hz.o10 hv) (hz.r644 hv) ?_
    refine w_iload_n 2 dX10_addTo_98 rfl rfl rfl ?_
    obtain ⟨g9, hr⟩ := gd hr
    refine w_iald dX10_addTo_99 rfl (hz.k644 hv) (gin (hz.n644 hv) g9) (hz.x644 hv) ?_
    refine w_i2l dX10_addTo_100 rfl ?_
    obtain ⟨g10, hr⟩ := gd hr
    refine w_last dX10_addTo_101 rfl (hz.k645 hv) (gin (hz.n645 hv) g10) ?_
    obtain ⟨σ11, e12, hr⟩ := lt_e hr
    have hz := (hz.s645 (i := (Int32.toNatClampNeg y6)) (v := (((zI σ 1668 p s (Int32.toNatClampNeg x1)) : Int32).toInt64)) hv).ts e12
    refine w_goto 199 dX10_addTo_102 rfl ?_
    refine w_vret hf dX10_addTo_199 rfl (Nat.le_of_ble_eq_true rfl) (Nat.le_of_ble_eq_true rfl) ?_
    obtain ⟨rfl, rfl⟩ := ret_inj hr
    exact ⟨rfl, hz⟩
  have hr := bf q56_1 hr
  by_cases q56_2 : (x3 : Int32) = 152
  · have hr := bt q56_2 hr
    refine w_tableIn 130 dX10_addTo_56 (by rw [q56_2]; decide) (by rw [q56_2]; decide) (by rw [q56_2]; rfl) rfl ?_
    refine w_aload_n 1 dX10_addTo_130 rfl rfl rfl ?_
    refine g_X10_26 dX10_addTo_131 rfl (hz.o10 hv) (hz.r645 hv) ?_
    refine w_iload 6 dX10_addTo_134 rfl rfl ?_
    refine w_iload 0 dX10_addTo_136 rfl rfl ?_
    refine w_if_ne 149 dX10_addTo_138 rfl rfl (fun q138 => ?_) (fun q138 => ?_)
    · have hr := bf q138 hr
      refine w_lload 5 dX10_addTo_149 rfl rfl ?_
      refine w_goto 156 dX10_addTo_151 rfl ?_
      obtain ⟨g13, hr⟩ := gd hr
      refine w_last dX10_addTo_156 rfl (hz.k645 hv) (gin (hz.n645 hv) g13) ?_
      obtain ⟨σ14, e15, hr⟩ := lt_e hr
      have hz := (hz.s645 (i := (Int32.toNatClampNeg y6)) (v := x4) hv).ts e15
      refine w_goto 199 dX10_addTo_157 rfl ?_
      refine w_vret hf dX10_addTo_199 rfl (Nat.le_of_ble_eq_true rfl) (Nat.le_of_ble_eq_true rfl) ?_
      obtain ⟨rfl, rfl⟩ := ret_inj hr
      exact ⟨rfl, hz⟩
    · have hr := bt q138 hr
      refine w_lload 5 dX10_addTo_141 rfl rfl ?_
      refine w_lload 7 dX10_addTo_143 rfl rfl ?_
      refine w_lcmp dX10_addTo_145 rfl ?_
      refine w_if_ge 154 dX10_addTo_146 rfl rfl (fun q146 => ?_) (fun q146 => ?_)
      · have hr := bt q146 hr
        refine w_lload 7 dX10_addTo_154 rfl rfl ?_
        obtain ⟨g16, hr⟩ := gd hr
        refine w_last dX10_addTo_156 rfl (hz.k645 hv) (gin (hz.n645 hv) g16) ?_
        obtain ⟨σ17, e18, hr⟩ := lt_e hr
        have hz := (hz.s645 (i := (Int32.toNatClampNeg y6)) (v := y7) hv).ts e18
        refine w_goto 199 dX10_addTo_157 rfl ?_
        refine w_vret hf dX10_addTo_199 rfl (Nat.le_of_ble_eq_true rfl) (Nat.le_of_ble_eq_true rfl) ?_
        obtain ⟨rfl, rfl⟩ := ret_inj hr
        exact ⟨rfl, hz⟩
      · have hr := bf q146 hr
        refine w_lload 5 dX10_addTo_149 rfl rfl ?_
        refine w_goto 156 dX10_addTo_151 rfl ?_
        obtain ⟨g19, hr⟩ := gd hr
        refine w_last dX10_addTo_156 rfl (hz.k645 hv) (gin (hz.n645 hv) g19) ?_
        obtain ⟨σ20, e21, hr⟩ := lt_e hr
        have hz := (hz.s645 (i := (Int32.toNatClampNeg y6)) (v := x4) hv).ts e21
        refine w_goto 199 dX10_addTo_157 rfl ?_
        refine w_vret hf dX10_addTo_199 rfl (Nat.le_of_ble_eq_true rfl) (Nat.le_of_ble_eq_true rfl) ?_
        obtain ⟨rfl, rfl⟩ := ret_inj hr
        exact ⟨rfl, hz⟩
  have hr := bf q56_2 hr
  by_cases q56_3 : (x3 : Int32) = 153
  · have hr := bt q56_3 hr
    refine w_tableIn 160 dX10_addTo_56 (by rw [q56_3]; decide) (by rw [q56_3]; decide) (by rw [q56_3]; rfl) rfl ?_
    refine w_aload_n 1 dX10_addTo_160 rfl rfl rfl ?_
    refine g_X10_26 dX10_addTo_161 rfl (hz.o10 hv) (hz.r645 hv) ?_
    refine w_iload 6 dX10_addTo_164 rfl rfl ?_
    refine w_iload 0 dX10_addTo_166 rfl rfl ?_
    refine w_if_ne 179 dX10_addTo_168 rfl rfl (fun q168 => ?_) (fun q168 => ?_)
    · have hr := bf q168 hr
      refine w_lload 5 dX10_addTo_179 rfl rfl ?_
      refine w_goto 186 dX10_addTo_181 rfl ?_
      obtain ⟨g22, hr⟩ := gd hr
      refine w_last dX10_addTo_186 rfl (hz.k645 hv) (gin (hz.n645 hv) g22) ?_
      obtain ⟨σ23, e24, hr⟩ := lt_e hr
      have hz := (hz.s645 (i := (Int32.toNatClampNeg y6)) (v := x4) hv).ts e24
      refine w_goto 199 dX10_addTo_187 rfl ?_
      refine w_vret hf dX10_addTo_199 rfl (Nat.le_of_ble_eq_true rfl) (Nat.le_of_ble_eq_true rfl) ?_
      obtain ⟨rfl, rfl⟩ := ret_inj hr
      exact ⟨rfl, hz⟩
    · have hr := bt q168 hr
      refine w_lload 5 dX10_addTo_171 rfl rfl ?_
      refine w_lload 7 dX10_addTo_173 rfl rfl ?_
      refine w_lcmp dX10_addTo_175 rfl ?_
      refine w_if_le 184 dX10_addTo_176 rfl rfl (fun q176 => ?_) (fun q176 => ?_)
      · have hr := bt q176 hr
        refine w_lload 7 dX10_addTo_184 rfl rfl ?_
        obtain ⟨g25, hr⟩ := gd hr
        refine w_last dX10_addTo_186 rfl (hz.k645 hv) (gin (hz.n645 hv) g25) ?_
        obtain ⟨σ26, e27, hr⟩ := lt_e hr
        have hz := (hz.s645 (i := (Int32.toNatClampNeg y6)) (v := y7) hv).ts e27
        refine w_goto 199 dX10_addTo_187 rfl ?_
        refine w_vret hf dX10_addTo_199 rfl (Nat.le_of_ble_eq_true rfl) (Nat.le_of_ble_eq_true rfl) ?_
        obtain ⟨rfl, rfl⟩ := ret_inj hr
        exact ⟨rfl, hz⟩
      · have hr := bf q176 hr
        refine w_lload 5 dX10_addTo_179 rfl rfl ?_
        refine w_goto 186 dX10_addTo_181 rfl ?_
        obtain ⟨g28, hr⟩ := gd hr
        refine w_last dX10_addTo_186 rfl (hz.k645 hv) (gin (hz.n645 hv) g28) ?_
        obtain ⟨σ29, e30, hr⟩ := lt_e hr
        have hz := (hz.s645 (i := (Int32.toNatClampNeg y6)) (v := x4) hv).ts e30
        refine w_goto 199 dX10_addTo_187 rfl ?_
        refine w_vret hf dX10_addTo_199 rfl (Nat.le_of_ble_eq_true rfl) (Nat.le_of_ble_eq_true rfl) ?_
        obtain ⟨rfl, rfl⟩ := ret_inj hr
        exact ⟨rfl, hz⟩
  have hr := bf q56_3 hr
  refine w_tableOut 190 dX10_addTo_56 (tabout 150 153 (fun k h1 h2 => by
        intro e
        have h3 : k = 150 ∨ k = 151 ∨ k = 152 ∨ k = 153 := by omega
        rcases h3 with h3 | h3 | h3 | h3 <;> subst h3 <;> contradiction)) rfl ?_
  refine w_aload_n 1 dX10_addTo_190 rfl rfl rfl ?_
  refine g_X10_26 dX10_addTo_191 rfl (hz.o10 hv) (hz.r645 hv) ?_
  refine w_iload 6 dX10_addTo_194 rfl rfl ?_
  refine w_lload 5 dX10_addTo_196 rfl rfl ?_
  obtain ⟨g31, hr⟩ := gd hr
  refine w_last dX10_addTo_198 rfl (hz.k645 hv) (gin (hz.n645 hv) g31) ?_
  obtain ⟨σ32, e33, hr⟩ := lt_e hr
  have hz := (hz.s645 (i := (Int32.toNatClampNeg y6)) (v := x4) hv).ts e33
  refine w_vret hf dX10_addTo_199 rfl (Nat.le_of_ble_eq_true rfl) (Nat.le_of_ble_eq_true rfl) ?_
  obtain ⟨rfl, rfl⟩ := ret_inj hr
  exact ⟨rfl, hz⟩
set_option maxRecDepth 20000 in
set_option maxHeartbeats 4000000 in
theorem s_X10_addTo {A : Nat → Nat → Nat → Nat} {h : Hp} {σ ρ σ' : Zs} {v : Unit} {p : Nat} {s : Nat} {x1 : Int32} {x2 : Int32} {x3 : Int32} {x4 : Int64} (hv : vdb (A 16 0 0) 10 p s = true) (hz : Rp A h σ ρ) (hr : fX10_addTo p s x1 x2 x3 x4 σ = some (v, σ')) : ∀ l : Launch, Sp l mX10_addTo 0 0 0 [.ref (A 10 p s), .int x1, .int x2, .int x3, .long x4] h (QV A v σ' ρ) X0 := by
  intro l
  refine Sp.of rfl rfl (lv := [(0, .ref (A 10 p s)), (1, .int x1), (2, .int x2), (3, .int x3), (4, .long x4)]) (Nat.le_of_ble_eq_true rfl) rfl (fun x hf hrm => ?_)
  rw [fX10_addTo.eq_1] at hr
  refine w_iload_n 1 dX10_addTo_0 rfl rfl rfl ?_
  refine w_if_lt 21 dX10_addTo_1 rfl rfl (fun q1 => ?_) (fun q1 => ?_)
  · have hr := bt q1 hr
    refine w_vret hf dX10_addTo_21 rfl (Nat.le_of_ble_eq_true rfl) (Nat.le_of_ble_eq_true rfl) ?_
    obtain ⟨rfl, rfl⟩ := ret_inj hr
    exact ⟨rfl, hz⟩
  · have hr := bf q1 hr
    refine w_iload_n 1 dX10_addTo_4 rfl rfl rfl ?_
    refine w_aload_n 0 dX10_addTo_5 rfl rfl rfl ?_
    refine g_X10_29 dX10_addTo_6 rfl (hz.o10 hv) (hz.i640 hv) ?_
    refine w_icmp_ge 21 dX10_addTo_9 rfl rfl (fun q9 => ?_) (fun q9 => ?_)
    · have hr := bt q9 hr
      refine w_vret hf dX10_addTo_21 rfl (Nat.le_of_ble_eq_true rfl) (Nat.le_of_ble_eq_true rfl) ?_
      obtain ⟨rfl, rfl⟩ := ret_inj hr
      exact ⟨rfl, hz⟩
    · have hr := bf q9 hr
      refine w_iload_n 2 dX10_addTo_12 rfl rfl rfl ?_
      refine w_if_lt 21 dX10_addTo_13 rfl rfl (fun q13 => ?_) (fun q13 => ?_)
      · have hr := bt q13 hr
        refine w_vret hf dX10_addTo_21 rfl (Nat.le_of_ble_eq_true rfl) (Nat.le_of_ble_eq_true rfl) ?_
        obtain ⟨rfl, rfl⟩ := ret_inj hr
        exact ⟨rfl, hz⟩
      · have hr := bf q13 hr
        refine w_iload_n 2 dX10_addTo_16 rfl rfl rfl ?_
        refine w_iconst 4 dX10_addTo_17 rfl rfl ?_
        refine w_icmp_lt 22 dX10_addTo_18 rfl rfl (fun q18 => ?_) (fun q18 => ?_)
        · have hr := bt q18 hr
          refine w_iload_n 1 dX10_addTo_22 rfl rfl rfl ?_
          refine w_iconst 4 dX10_addTo_23 rfl rfl ?_
          refine w_imul dX10_addTo_24 rfl ?_
          refine w_iload_n 2 dX10_addTo_25 rfl rfl rfl ?_
          refine w_iadd dX10_addTo_26 rfl ?_
          refine w_istore [(6, .int ((x1 * 4) + x2)), (0, .ref (A 10 p s)), (1, .int x1), (2, .int x2), (3, .int x3), (4, .long x4)] dX10_addTo_27 rfl (by decide) rfl ?_
          refine w_aload_n 1 dX10_addTo_29 rfl rfl rfl ?_
          refine g_X10_26 dX10_addTo_30 rfl (hz.o10 hv) (hz.r645 hv) ?_
          refine w_iload 0 dX10_addTo_33 rfl rfl ?_
          obtain ⟨g1, hr⟩ := gd hr
          refine w_lald dX10_addTo_35 rfl (hz.k645 hv) (gin (hz.n645 hv) g1) (hz.x645 hv) ?_
          refine w_lstore [(7, .long (zJ σ 1669 p s (Int32.toNatClampNeg ((x1 * 4) + x2)))), (6, .int ((x1 * 4) + x2)), (0, .ref (A 10 p s)), (1, .int x1), (2, .int x2), (3, .int x3), (4, .long x4)] dX10_addTo_36 rfl (by decide) rfl ?_
          refine w_aload_n 2 dX10_addTo_38 rfl rfl rfl ?_
          refine g_X10_23 dX10_addTo_39 rfl (hz.o10 hv) (hz.r644 hv) ?_
          refine w_iload_n 3 dX10_addTo_42 rfl rfl rfl ?_
          obtain ⟨g2, hr⟩ := gd hr
          refine w_iald dX10_addTo_43 rfl (hz.k644 hv) (gin (hz.n644 hv) g2) (hz.x644 hv) ?_
          refine w_iconst 1 dX10_addTo_44 rfl rfl ?_
          refine w_icmp_ne 52 dX10_addTo_45 rfl rfl (fun q45 => ?_) (fun q45 => ?_)
          · have hr := bf q45 hr
            refine w_iconst 0 dX10_addTo_52 rfl rfl ?_
            refine w_lv [(0, .ref (A 10 p s)), (1, .int x1), (2, .int x2), (3, .int x3), (4, .long x4), (6, .int ((x1 * 4) + x2)), (7, .long (zJ σ 1669 p s (Int32.toNatClampNeg ((x1 * 4) + x2))))] [2, 3, 4, 5, 6, 1, 0] rfl ?_
            exact w_X10_addTo_53 hf hrm hv  ((x1 * 4) + x2) (zJ σ 1669 p s (Int32.toNatClampNeg ((x1 * 4) + x2))) 0 _ _ hz  hr
          · have hr := bt q45 hr
            refine w_iconst 1 dX10_addTo_48 rfl rfl ?_
            refine w_goto 53 dX10_addTo_49 rfl ?_
            refine w_lv [(0, .ref (A 10 p s)), (1, .int x1), (2, .int x2), (3, .int x3), (4, .long x4), (6, .int ((x1 * 4) + x2)), (7, .long (zJ σ 1669 p s (Int32.toNatClampNeg ((x1 * 4) + x2))))] [2, 3, 4, 5, 6, 1, 0] rfl ?_
            exact w_X10_addTo_53 hf hrm hv  ((x1 * 4) + x2) (zJ σ 1669 p s (Int32.toNatClampNeg ((x1 * 4) + x2))) 1 _ _ hz  hr
        · have hr := bf q18 hr
          refine w_vret hf dX10_addTo_21 rfl (Nat.le_of_ble_eq_true rfl) (Nat.le_of_ble_eq_true rfl) ?_
          obtain ⟨rfl, rfl⟩ := ret_inj hr
          exact ⟨rfl, hz⟩

set_option maxRecDepth 20000 in
set_option maxHeartbeats 4000000 in
theorem w_X10_copyTo_52 {A : Nat → Nat → Nat → Nat} {ρ σ' : Zs} {v : Unit} {x : Cxt} {p : Nat} {s : Nat} {x1 : Int32} {x2 : Int32} {x3 : Int32} {p4 : Nat} {s4 : Nat}  (hf : m_fin 0 0 (QV A v σ' ρ) X0 x) (hrm : m_rm 1 0 0 x) (hv : vdb (A 16 0 0) 10 p s = true) (hV4 : vdb (A 16 0 0) 6 p4 s4 = true) : ∀ (n : Nat) (y5 : Int32) (σ : Zs) (h : Hp), Rp A h σ ρ → fX10_copyTo_52 p s x1 x2 x3 p4 s4  n y5 σ = some (v, σ') → wp x mX10_copyTo 52 [(0, .ref (A 10 p s)), (1, .int x1), (2, .int x2), (3, .int x3), (4, .ref (A 6 p4 s4)), (5, .int y5)] [] h 0 0
  | 0, _, σ, h => fun hz hr => by
    rw [fX10_copyTo_52.eq_1] at hr
    exact nono hr
  | n + 1, y5, σ, h => fun hz hr => by
    rw [fX10_copyTo_52.eq_2] at hr
    refine w_iload 5 dX10_copyTo_52 rfl rfl ?_
    refine w_iload_n 3 dX10_copyTo_54 rfl rfl rfl ?_
    refine w_icmp_ge 86 dX10_copyTo_55 rfl rfl (fun q55 => ?_) (fun q55 => ?_)
    · have hr := bt q55 hr
      refine w_vret hf dX10_copyTo_86 rfl (Nat.le_of_ble_eq_true rfl) (Nat.le_of_ble_eq_true rfl) ?_
      obtain ⟨rfl, rfl⟩ := ret_inj hr
      exact ⟨rfl, hz⟩
    · have hr := bf q55 hr
      refine w_iload 5 dX10_copyTo_58 rfl rfl ?_
      refine w_iconst 4 dX10_copyTo_60 rfl rfl ?_
      refine w_icmp_ge 86 dX10_copyTo_61 rfl rfl (fun q61 => ?_) (fun q61 => ?_)
      · have hr := bt q61 hr
        refine w_vret hf dX10_copyTo_86 rfl (Nat.le_of_ble_eq_true rfl) (Nat.le_of_ble_eq_true rfl) ?_
        obtain ⟨rfl, rfl⟩ := ret_inj hr
        exact ⟨rfl, hz⟩
      · have hr := bf q61 hr
        refine w_aload 4 dX10_copyTo_64 rfl rfl ?_
        refine w_aload_n 0 dX10_copyTo_66 rfl rfl rfl ?_
        refine g_X10_26 dX10_copyTo_67 rfl (hz.o10 hv) (hz.r645 hv) ?_
        refine w_iload_n 1 dX10_copyTo_70 rfl rfl rfl ?_
        refine w_iconst 4 dX10_copyTo_71 rfl rfl ?_
        refine w_imul dX10_copyTo_72 rfl ?_
        refine w_iload 5 dX10_copyTo_73 rfl rfl ?_
        refine w_iadd dX10_copyTo_75 rfl ?_
        obtain ⟨g16, hr⟩ := gd hr
        refine w_lald dX10_copyTo_76 rfl (hz.k645 hv) (gin (hz.n645 hv) g16) (hz.x645 hv) ?_
        obtain ⟨v17, σ18, e19, hr⟩ := bq_some hr
        refine c_X10_39 (As := [.long (zJ σ 1669 p s (Int32.toNatClampNeg ((x1 * 4) + y5)))]) (rest := []) (fun l => s_X6_append hV4 hz e19 l) hrm dX10_copyTo_77 rfl rfl (Nat.le_of_ble_eq_true rfl) (Nat.le_of_ble_eq_true rfl) (Nat.le_of_ble_eq_true rfl) (hz.o6 hV4) rfl (Nat.le_of_ble_eq_true rfl) (fun vr h2 hq => ?_) (fun E9 h9 hq => hq.elim)
        obtain ⟨rfl, hz⟩ := hq
        show wp _ _ 80 [(0, .ref (A 10 p s)), (1, .int x1), (2, .int x2), (3, .int x3), (4, .ref (A 6 p4 s4)), (5, .int y5)] [] _ _ _
        refine w_iinc 5 (y5 + 1) [(5, .int (y5 + 1)), (0, .ref (A 10 p s)), (1, .int x1), (2, .int x2), (3, .int x3), (4, .ref (A 6 p4 s4))] dX10_copyTo_80 rfl rfl rfl (by decide) rfl ?_
        refine w_goto 52 dX10_copyTo_83 rfl ?_
        refine w_lv [(0, .ref (A 10 p s)), (1, .int x1), (2, .int x2), (3, .int x3), (4, .ref (A 6 p4 s4)), (5, .int (y5 + 1))] [1, 2, 3, 4, 5, 0] rfl ?_
        exact w_X10_copyTo_52 hf hrm hv hV4  n (y5 + 1) _ _ hz  hr
set_option maxRecDepth 20000 in
set_option maxHeartbeats 4000000 in
theorem s_X10_copyTo {A : Nat → Nat → Nat → Nat} {h : Hp} {σ ρ σ' : Zs} {v : Unit} {p : Nat} {s : Nat} {x1 : Int32} {x2 : Int32} {x3 : Int32} {p4 : Nat} {s4 : Nat} (hv : vdb (A 16 0 0) 10 p s = true) (hV4 : vdb (A 16 0 0) 6 p4 s4 = true) (hz : Rp A h σ ρ) (hr : fX10_copyTo p s x1 x2 x3 p4 s4 σ = some (v, σ')) : ∀ l : Launch, Sp l mX10_copyTo 1 0 0 [.ref (A 10 p s), .int x1, .int x2, .int x3, .ref (A 6 p4 s4)] h (QV A v σ' ρ) X0 := by
  intro l
  refine Sp.of rfl rfl (lv := [(0, .ref (A 10 p s)), (1, .int x1), (2, .int x2), (3, .int x3), (4, .ref (A 6 p4 s4))]) (Nat.le_of_ble_eq_true rfl) rfl (fun x hf hrm => ?_)
  rw [fX10_copyTo.eq_1] at hr
  refine w_iload_n 1 dX10_copyTo_0 rfl rfl rfl ?_
  refine w_if_lt 12 dX10_copyTo_1 rfl rfl (fun q1 => ?_) (fun q1 => ?_)
  · have hr := bt q1 hr
    refine w_vret hf dX10_copyTo_12 rfl (Nat.le_of_ble_eq_true rfl) (Nat.le_of_ble_eq_true rfl) ?_
    obtain ⟨rfl, rfl⟩ := ret_inj hr
    exact ⟨rfl, hz⟩
  · have hr := bf q1 hr
    refine w_iload_n 1 dX10_copyTo_4 rfl rfl rfl ?_
    refine w_aload_n 0 dX10_copyTo_5 rfl rfl rfl ?_
    refine g_X10_29 dX10_copyTo_6 rfl (hz.o10 hv) (hz.i640 hv) ?_
    refine w_icmp_lt 13 dX10_copyTo_9 rfl rfl (fun q9 => ?_) (fun q9 => ?_)
    · have hr := bt q9 hr
      refine w_aload 4 dX10_copyTo_13 rfl rfl ?_
      refine w_aload_n 0 dX10_copyTo_15 rfl rfl rfl ?_
      refine g_X10_15 dX10_copyTo_16 rfl (hz.o10 hv) (hz.r642 hv) ?_
      refine w_iload_n 1 dX10_copyTo_19 rfl rfl rfl ?_
      obtain ⟨g1, hr⟩ := gd hr
      refine w_iald dX10_copyTo_20 rfl (hz.k642 hv) (gin (hz.n642 hv) g1) (hz.x642 hv) ?_
      obtain ⟨v2, σ3, e4, hr⟩ := bq_some hr
      refine c_X10_33 (As := [.int (zI σ 1666 p s (Int32.toNatClampNeg x1))]) (rest := []) (fun l => s_X6_startAt hV4 hz e4 l) hrm dX10_copyTo_21 rfl rfl (Nat.le_of_ble_eq_true rfl) (Nat.le_of_ble_eq_true rfl) (Nat.le_of_ble_eq_true rfl) (hz.o6 hV4) rfl (Nat.le_of_ble_eq_true rfl) (fun vr h2 hq => ?_) (fun E9 h9 hq => hq.elim)
      obtain ⟨rfl, hz⟩ := hq
      show wp _ _ 24 [(0, .ref (A 10 p s)), (1, .int x1), (2, .int x2), (3, .int x3), (4, .ref (A 6 p4 s4))] [] _ _ _
      refine w_aload 4 dX10_copyTo_24 rfl rfl ?_
      refine w_aload_n 0 dX10_copyTo_26 rfl rfl rfl ?_
      refine g_X10_9 dX10_copyTo_27 rfl (hz.o10 hv) (hz.r641 hv) ?_
      refine w_iload_n 1 dX10_copyTo_30 rfl rfl rfl ?_
      obtain ⟨g6, hr⟩ := gd hr
      refine w_lald dX10_copyTo_31 rfl (hz.k641 hv) (gin (hz.n641 hv) g6) (hz.x641 hv) ?_
      obtain ⟨v7, σ8, e9, hr⟩ := bq_some hr
      refine c_X10_39 (As := [.long (zJ σ3 1665 p s (Int32.toNatClampNeg x1))]) (rest := []) (fun l => s_X6_append hV4 hz e9 l) hrm dX10_copyTo_32 rfl rfl (Nat.le_of_ble_eq_true rfl) (Nat.le_of_ble_eq_true rfl) (Nat.le_of_ble_eq_true rfl) (hz.o6 hV4) rfl (Nat.le_of_ble_eq_true rfl) (fun vr h2 hq => ?_) (fun E9 h9 hq => hq.elim)
      obtain ⟨rfl, hz⟩ := hq
      show wp _ _ 35 [(0, .ref (A 10 p s)), (1, .int x1), (2, .int x2), (3, .int x3), (4, .ref (A 6 p4 s4))] [] _ _ _
      refine w_aload 4 dX10_copyTo_35 rfl rfl ?_
      refine w_aload_n 0 dX10_copyTo_37 rfl rfl rfl ?_
      refine g_X10_15 dX10_copyTo_38 rfl (hz.o10 hv) (hz.r642 hv) ?_
      refine w_iload_n 1 dX10_copyTo_41 rfl rfl rfl ?_
      obtain ⟨g11, hr⟩ := gd hr
      refine w_iald dX10_copyTo_42 rfl (hz.k642 hv) (gin (hz.n642 hv) g11) (hz.x642 hv) ?_
      refine w_iload_n 2 dX10_copyTo_43 rfl rfl rfl ?_
      refine w_isub dX10_copyTo_44 rfl ?_
      refine w_i2l dX10_copyTo_45 rfl ?_
      obtain ⟨v12, σ13, e14, hr⟩ := bq_some hr
      refine c_X10_39 (As := [.long ((((zI σ8 1666 p s (Int32.toNatClampNeg x1)) - x2) : Int32).toInt64)]) (rest := []) (fun l => s_X6_append hV4 hz e14 l) hrm dX10_copyTo_46 rfl rfl (Nat.le_of_ble_eq_true rfl) (Nat.le_of_ble_eq_true rfl) (Nat.le_of_ble_eq_true rfl) (hz.o6 hV4) rfl (Nat.le_of_ble_eq_true rfl) (fun vr h2 hq => ?_) (fun E9 h9 hq => hq.elim)
      obtain ⟨rfl, hz⟩ := hq
      show wp _ _ 49 [(0, .ref (A 10 p s)), (1, .int x1), (2, .int x2), (3, .int x3), (4, .ref (A 6 p4 s4))] [] _ _ _
      refine w_iconst 0 dX10_copyTo_49 rfl rfl ?_
      refine w_istore [(5, .int 0), (0, .ref (A 10 p s)), (1, .int x1), (2, .int x2), (3, .int x3), (4, .ref (A 6 p4 s4))] dX10_copyTo_50 rfl (by decide) rfl ?_
      refine w_lv [(0, .ref (A 10 p s)), (1, .int x1), (2, .int x2), (3, .int x3), (4, .ref (A 6 p4 s4)), (5, .int 0)] [1, 2, 3, 4, 5, 0] rfl ?_
      exact w_X10_copyTo_52 hf hrm hv hV4  FU 0 _ _ hz  hr
    · have hr := bf q9 hr
      refine w_vret hf dX10_copyTo_12 rfl (Nat.le_of_ble_eq_true rfl) (Nat.le_of_ble_eq_true rfl) ?_
      obtain ⟨rfl, rfl⟩ := ret_inj hr
      exact ⟨rfl, hz⟩

set_option maxRecDepth 20000 in
set_option maxHeartbeats 4000000 in
theorem s_X10_isAhead {A : Nat → Nat → Nat → Nat} {h : Hp} {σ ρ σ' : Zs} {v : Int32} {p : Nat} {s : Nat} {x1 : Int32} {x2 : Int32} (hv : vdb (A 16 0 0) 10 p s = true) (hz : Rp A h σ ρ) (hr : fX10_isAhead p s x1 x2 σ = some (v, σ')) : ∀ l : Launch, Sp l mX10_isAhead 0 0 0 [.ref (A 10 p s), .int x1, .int x2] h (QI A v σ' ρ) X0 := by
  intro l
  refine Sp.of rfl rfl (lv := [(0, .ref (A 10 p s)), (1, .int x1), (2, .int x2)]) (Nat.le_of_ble_eq_true rfl) rfl (fun x hf hrm => ?_)
  rw [fX10_isAhead.eq_1] at hr
  refine w_aload_n 0 dX10_isAhead_0 rfl rfl rfl ?_
  refine g_X10_15 dX10_isAhead_1 rfl (hz.o10 hv) (hz.r642 hv) ?_
  refine w_iload_n 1 dX10_isAhead_4 rfl rfl rfl ?_
  obtain ⟨g1, hr⟩ := gd hr
  refine w_iald dX10_isAhead_5 rfl (hz.k642 hv) (gin (hz.n642 hv) g1) (hz.x642 hv) ?_
  refine w_aload_n 0 dX10_isAhead_6 rfl rfl rfl ?_
  refine g_X10_15 dX10_isAhead_7 rfl (hz.o10 hv) (hz.r642 hv) ?_
  refine w_iload_n 2 dX10_isAhead_10 rfl rfl rfl ?_
  obtain ⟨g2, hr⟩ := gd hr
  refine w_iald dX10_isAhead_11 rfl (hz.k642 hv) (gin (hz.n642 hv) g2) (hz.x642 hv) ?_
  refine w_icmp_lt 46 dX10_isAhead_12 rfl rfl (fun q12 => ?_) (fun q12 => ?_)
  · have hr := bt q12 hr
    refine w_iconst 1 dX10_isAhead_46 rfl rfl ?_
    refine w_goto 51 dX10_isAhead_47 rfl ?_
    refine w_zret hf dX10_isAhead_51 rfl rfl (Nat.le_of_ble_eq_true rfl) (Nat.le_of_ble_eq_true rfl) ?_
    obtain ⟨rfl, rfl⟩ := ret_inj hr
    exact ⟨rfl, hz⟩
  · have hr := bf q12 hr
    refine w_aload_n 0 dX10_isAhead_15 rfl rfl rfl ?_
    refine g_X10_15 dX10_isAhead_16 rfl (hz.o10 hv) (hz.r642 hv) ?_
    refine w_iload_n 1 dX10_isAhead_19 rfl rfl rfl ?_
    obtain ⟨g3, hr⟩ := gd hr
    refine w_iald dX10_isAhead_20 rfl (hz.k642 hv) (gin (hz.n642 hv) g3) (hz.x642 hv) ?_
    refine w_aload_n 0 dX10_isAhead_21 rfl rfl rfl ?_
    refine g_X10_15 dX10_isAhead_22 rfl (hz.o10 hv) (hz.r642 hv) ?_
    refine w_iload_n 2 dX10_isAhead_25 rfl rfl rfl ?_
    obtain ⟨g4, hr⟩ := gd hr
    refine w_iald dX10_isAhead_26 rfl (hz.k642 hv) (gin (hz.n642 hv) g4) (hz.x642 hv) ?_
    refine w_icmp_ne 50 dX10_isAhead_27 rfl rfl (fun q27 => ?_) (fun q27 => ?_)
    · have hr := bf q27 hr
      refine w_iconst 0 dX10_isAhead_50 rfl rfl ?_
      refine w_zret hf dX10_isAhead_51 rfl rfl (Nat.le_of_ble_eq_true rfl) (Nat.le_of_ble_eq_true rfl) ?_
      obtain ⟨rfl, rfl⟩ := ret_inj hr
      exact ⟨rfl, hz⟩
    · have hr := bt q27 hr
      refine w_aload_n 0 dX10_isAhead_30 rfl rfl rfl ?_
      refine g_X10_9 dX10_isAhead_31 rfl (hz.o10 hv) (hz.r641 hv) ?_
      refine w_iload_n 1 dX10_isAhead_34 rfl rfl rfl ?_
      obtain ⟨g5, hr⟩ := gd hr
      refine w_lald dX10_isAhead_35 rfl (hz.k641 hv) (gin (hz.n641 hv) g5) (hz.x641 hv) ?_
      refine w_aload_n 0 dX10_isAhead_36 rfl rfl rfl ?_
      refine g_X10_9 dX10_isAhead_37 rfl (hz.o10 hv) (hz.r641 hv) ?_
      refine w_iload_n 2 dX10_isAhead_40 rfl rfl rfl ?_
      obtain ⟨g6, hr⟩ := gd hr
      refine w_lald dX10_isAhead_41 rfl (hz.k641 hv) (gin (hz.n641 hv) g6) (hz.x641 hv) ?_
      refine w_lcmp dX10_isAhead_42 rfl ?_
      refine w_if_ge 50 dX10_isAhead_43 rfl rfl (fun q43 => ?_) (fun q43 => ?_)
      · have hr := bt q43 hr
        refine w_iconst 0 dX10_isAhead_50 rfl rfl ?_
        refine w_zret hf dX10_isAhead_51 rfl rfl (Nat.le_of_ble_eq_true rfl) (Nat.le_of_ble_eq_true rfl) ?_
        obtain ⟨rfl, rfl⟩ := ret_inj hr
        exact ⟨rfl, hz⟩
      · have hr := bf q43 hr
        refine w_iconst 1 dX10_isAhead_46 rfl rfl ?_
        refine w_goto 51 dX10_isAhead_47 rfl ?_
        refine w_zret hf dX10_isAhead_51 rfl rfl (Nat.le_of_ble_eq_true rfl) (Nat.le_of_ble_eq_true rfl) ?_
        obtain ⟨rfl, rfl⟩ := ret_inj hr
        exact ⟨rfl, hz⟩

set_option maxRecDepth 20000 in
set_option maxHeartbeats 4000000 in
theorem w_X10_closeNext_4 {A : Nat → Nat → Nat → Nat} {ρ σ' : Zs} {v : Int32} {x : Cxt} {p : Nat} {s : Nat} {x1 : Int32}  (hf : m_fin 0 0 (QI A v σ' ρ) X0 x) (hrm : m_rm 1 0 0 x) (hv : vdb (A 16 0 0) 10 p s = true) : ∀ (n : Nat) (y2 : Int32) (y3 : Int32) (σ : Zs) (h : Hp), Rp A h σ ρ → fX10_closeNext_4 p s x1  n y2 y3 σ = some (v, σ') → wp x mX10_closeNext 4 [(0, .ref (A 10 p s)), (1, .int x1), (2, .int y2), (3, .int y3)] [] h 0 0
  | 0, _, _, σ, h => fun hz hr => by
    rw [fX10_closeNext_4.eq_1] at hr
    exact nono hr
  | n + 1, y2, y3, σ, h => fun hz hr => by
    rw [fX10_closeNext_4.eq_2] at hr
    refine w_iload_n 3 dX10_closeNext_4 rfl rfl rfl ?_
    refine w_aload_n 0 dX10_closeNext_5 rfl rfl rfl ?_
    refine g_X10_29 dX10_closeNext_6 rfl (hz.o10 hv) (hz.i640 hv) ?_
    refine w_icmp_ge 61 dX10_closeNext_9 rfl rfl (fun q9 => ?_) (fun q9 => ?_)
    · have hr := bt q9 hr
      refine w_iload_n 2 dX10_closeNext_61 rfl rfl rfl ?_
      refine w_if_lt 72 dX10_closeNext_62 rfl rfl (fun q62 => ?_) (fun q62 => ?_)
      · have hr := bt q62 hr
        refine w_iload_n 2 dX10_closeNext_72 rfl rfl rfl ?_
        refine w_iret hf dX10_closeNext_73 rfl (Nat.le_of_ble_eq_true rfl) (Nat.le_of_ble_eq_true rfl) ?_
        obtain ⟨rfl, rfl⟩ := ret_inj hr
        exact ⟨rfl, hz⟩
      · have hr := bf q62 hr
        refine w_aload_n 0 dX10_closeNext_65 rfl rfl rfl ?_
        refine g_X10_19 dX10_closeNext_66 rfl (hz.o10 hv) (hz.r643 hv) ?_
        refine w_iload_n 2 dX10_closeNext_69 rfl rfl rfl ?_
        refine w_iconst 1 dX10_closeNext_70 rfl rfl ?_
        obtain ⟨g1, hr⟩ := gd hr
        refine w_zast dX10_closeNext_71 rfl (hz.k643 hv) (gin (hz.n643 hv) g1) (zn (Or.inr rfl)) ?_
        obtain ⟨σ2, e3, hr⟩ := lt_e hr
        have hz := (hz.s643 (i := (Int32.toNatClampNeg y2)) (v := 1) hv).ts e3
        refine w_iload_n 2 dX10_closeNext_72 rfl rfl rfl ?_
        refine w_iret hf dX10_closeNext_73 rfl (Nat.le_of_ble_eq_true rfl) (Nat.le_of_ble_eq_true rfl) ?_
        obtain ⟨rfl, rfl⟩ := ret_inj hr
        exact ⟨rfl, hz⟩
    · have hr := bf q9 hr
      refine w_iload_n 3 dX10_closeNext_12 rfl rfl rfl ?_
      refine w_aload_n 0 dX10_closeNext_13 rfl rfl rfl ?_
      refine g_X10_9 dX10_closeNext_14 rfl (hz.o10 hv) (hz.r641 hv) ?_
      refine w_alen 1 dX10_closeNext_17 rfl (by decide) (by decide) (fun _ => rfl) (hz.k641 hv) (v := 60) (by rw [hz.n641 hv]; rfl) ?_
      refine w_icmp_ge 61 dX10_closeNext_18 rfl rfl (fun q18 => ?_) (fun q18 => ?_)
      · have hr := bt q18 hr
        refine w_iload_n 2 dX10_closeNext_61 rfl rfl rfl ?_
        refine w_if_lt 72 dX10_closeNext_62 rfl rfl (fun q62 => ?_) (fun q62 => ?_)
        · have hr := bt q62 hr
          refine w_iload_n 2 dX10_closeNext_72 rfl rfl rfl ?_
          refine w_iret hf dX10_closeNext_73 rfl (Nat.le_of_ble_eq_true rfl) (Nat.le_of_ble_eq_true rfl) ?_
          obtain ⟨rfl, rfl⟩ := ret_inj hr
          exact ⟨rfl, hz⟩
        · have hr := bf q62 hr
          refine w_aload_n 0 dX10_closeNext_65 rfl rfl rfl ?_
          refine g_X10_19 dX10_closeNext_66 rfl (hz.o10 hv) (hz.r643 hv) ?_
          refine w_iload_n 2 dX10_closeNext_69 rfl rfl rfl ?_
          refine w_iconst 1 dX10_closeNext_70 rfl rfl ?_
          obtain ⟨g4, hr⟩ := gd hr
          refine w_zast dX10_closeNext_71 rfl (hz.k643 hv) (gin (hz.n643 hv) g4) (zn (Or.inr rfl)) ?_
          obtain ⟨σ5, e6, hr⟩ := lt_e hr
          have hz := (hz.s643 (i := (Int32.toNatClampNeg y2)) (v := 1) hv).ts e6
          refine w_iload_n 2 dX10_closeNext_72 rfl rfl rfl ?_
          refine w_iret hf dX10_closeNext_73 rfl (Nat.le_of_ble_eq_true rfl) (Nat.le_of_ble_eq_true rfl) ?_
          obtain ⟨rfl, rfl⟩ := ret_inj hr
          exact ⟨rfl, hz⟩
      · have hr := bf q18 hr
        refine w_aload_n 0 dX10_closeNext_21 rfl rfl rfl ?_
        refine g_X10_19 dX10_closeNext_22 rfl (hz.o10 hv) (hz.r643 hv) ?_
        refine w_iload_n 3 dX10_closeNext_25 rfl rfl rfl ?_
        obtain ⟨g7, hr⟩ := gd hr
        refine w_zald dX10_closeNext_26 rfl (hz.k643 hv) (gin (hz.n643 hv) g7) (hz.x643 hv) ?_
        refine w_if_ne 55 dX10_closeNext_27 rfl rfl (fun q27 => ?_) (fun q27 => ?_)
        · have hr := bf q27 hr
          refine w_iinc 3 (y3 + 1) [(3, .int (y3 + 1)), (0, .ref (A 10 p s)), (1, .int x1), (2, .int y2)] dX10_closeNext_55 rfl rfl rfl (by decide) rfl ?_
          refine w_goto 4 dX10_closeNext_58 rfl ?_
          refine w_lv [(0, .ref (A 10 p s)), (1, .int x1), (2, .int y2), (3, .int (y3 + 1))] [1, 2, 3, 0] rfl ?_
          exact w_X10_closeNext_4 hf hrm hv  n y2 (y3 + 1) _ _ hz  hr
        · have hr := bt q27 hr
          refine w_aload_n 0 dX10_closeNext_30 rfl rfl rfl ?_
          refine g_X10_15 dX10_closeNext_31 rfl (hz.o10 hv) (hz.r642 hv) ?_
          refine w_iload_n 3 dX10_closeNext_34 rfl rfl rfl ?_
          obtain ⟨g8, hr⟩ := gd hr
          refine w_iald dX10_closeNext_35 rfl (hz.k642 hv) (gin (hz.n642 hv) g8) (hz.x642 hv) ?_
          refine w_iload_n 1 dX10_closeNext_36 rfl rfl rfl ?_
          refine w_icmp_gt 55 dX10_closeNext_37 rfl rfl (fun q37 => ?_) (fun q37 => ?_)
          · have hr := bt q37 hr
            refine w_iinc 3 (y3 + 1) [(3, .int (y3 + 1)), (0, .ref (A 10 p s)), (1, .int x1), (2, .int y2)] dX10_closeNext_55 rfl rfl rfl (by decide) rfl ?_
            refine w_goto 4 dX10_closeNext_58 rfl ?_
            refine w_lv [(0, .ref (A 10 p s)), (1, .int x1), (2, .int y2), (3, .int (y3 + 1))] [1, 2, 3, 0] rfl ?_
            exact w_X10_closeNext_4 hf hrm hv  n y2 (y3 + 1) _ _ hz  hr
          · have hr := bf q37 hr
            refine w_iload_n 2 dX10_closeNext_40 rfl rfl rfl ?_
            refine w_if_lt 53 dX10_closeNext_41 rfl rfl (fun q41 => ?_) (fun q41 => ?_)
            · have hr := bt q41 hr
              refine w_iload_n 3 dX10_closeNext_53 rfl rfl rfl ?_
              refine w_istore_n [(2, .int y3), (0, .ref (A 10 p s)), (1, .int x1), (3, .int y3)] dX10_closeNext_54 rfl rfl (by decide) rfl ?_
              refine w_iinc 3 (y3 + 1) [(3, .int (y3 + 1)), (2, .int y3), (0, .ref (A 10 p s)), (1, .int x1)] dX10_closeNext_55 rfl rfl rfl (by decide) rfl ?_
              refine w_goto 4 dX10_closeNext_58 rfl ?_
              refine w_lv [(0, .ref (A 10 p s)), (1, .int x1), (2, .int y3), (3, .int (y3 + 1))] [2, 3, 1, 0] rfl ?_
              exact w_X10_closeNext_4 hf hrm hv  n y3 (y3 + 1) _ _ hz  hr
            · have hr := bf q41 hr
              refine w_aload_n 0 dX10_closeNext_44 rfl rfl rfl ?_
              refine w_iload_n 3 dX10_closeNext_45 rfl rfl rfl ?_
              refine w_iload_n 2 dX10_closeNext_46 rfl rfl rfl ?_
              obtain ⟨v9, σ10, e11, hr⟩ := bq_some hr
              refine c_X10_43 (As := [.int y3, .int y2]) (rest := []) (fun l => s_X10_isAhead hv hz e11 l) hrm dX10_closeNext_47 rfl rfl (Nat.le_of_ble_eq_true rfl) (Nat.le_of_ble_eq_true rfl) (Nat.le_of_ble_eq_true rfl) (hz.o10 hv) rfl (Nat.le_of_ble_eq_true rfl) (fun vr h2 hq => ?_) (fun E9 h9 hq => hq.elim)
              obtain ⟨rfl, hz⟩ := hq
              show wp _ _ 50 [(0, .ref (A 10 p s)), (1, .int x1), (2, .int y2), (3, .int y3)] [.int v9] _ _ _
              refine w_if_eq 55 dX10_closeNext_50 rfl rfl (fun q50 => ?_) (fun q50 => ?_)
              · have hr := bt q50 hr
                refine w_iinc 3 (y3 + 1) [(3, .int (y3 + 1)), (0, .ref (A 10 p s)), (1, .int x1), (2, .int y2)] dX10_closeNext_55 rfl rfl rfl (by decide) rfl ?_
                refine w_goto 4 dX10_closeNext_58 rfl ?_
                refine w_lv [(0, .ref (A 10 p s)), (1, .int x1), (2, .int y2), (3, .int (y3 + 1))] [1, 2, 3, 0] rfl ?_
                exact w_X10_closeNext_4 hf hrm hv  n y2 (y3 + 1) _ _ hz  hr
              · have hr := bf q50 hr
                refine w_iload_n 3 dX10_closeNext_53 rfl rfl rfl ?_
                refine w_istore_n [(2, .int y3), (0, .ref (A 10 p s)), (1, .int x1), (3, .int y3)] dX10_closeNext_54 rfl rfl (by decide) rfl ?_
                refine w_iinc 3 (y3 + 1) [(3, .int (y3 + 1)), (2, .int y3), (0, .ref (A 10 p s)), (1, .int x1)] dX10_closeNext_55 rfl rfl rfl (by decide) rfl ?_
                refine w_goto 4 dX10_closeNext_58 rfl ?_
                refine w_lv [(0, .ref (A 10 p s)), (1, .int x1), (2, .int y3), (3, .int (y3 + 1))] [2, 3, 1, 0] rfl ?_
                exact w_X10_closeNext_4 hf hrm hv  n y3 (y3 + 1) _ _ hz  hr
set_option maxRecDepth 20000 in
set_option maxHeartbeats 4000000 in
theorem s_X10_closeNext {A : Nat → Nat → Nat → Nat} {h : Hp} {σ ρ σ' : Zs} {v : Int32} {p : Nat} {s : Nat} {x1 : Int32} (hv : vdb (A 16 0 0) 10 p s = true) (hz : Rp A h σ ρ) (hr : fX10_closeNext p s x1 σ = some (v, σ')) : ∀ l : Launch, Sp l mX10_closeNext 1 0 0 [.ref (A 10 p s), .int x1] h (QI A v σ' ρ) X0 := by
  intro l
  refine Sp.of rfl rfl (lv := [(0, .ref (A 10 p s)), (1, .int x1)]) (Nat.le_of_ble_eq_true rfl) rfl (fun x hf hrm => ?_)
  rw [fX10_closeNext.eq_1] at hr
  refine w_iconst (-1) dX10_closeNext_0 rfl rfl ?_
  refine w_istore_n [(2, .int (-1)), (0, .ref (A 10 p s)), (1, .int x1)] dX10_closeNext_1 rfl rfl (by decide) rfl ?_
  refine w_iconst 0 dX10_closeNext_2 rfl rfl ?_
  refine w_istore_n [(3, .int 0), (2, .int (-1)), (0, .ref (A 10 p s)), (1, .int x1)] dX10_closeNext_3 rfl rfl (by decide) rfl ?_
  refine w_lv [(0, .ref (A 10 p s)), (1, .int x1), (2, .int (-1)), (3, .int 0)] [2, 3, 1, 0] rfl ?_
  exact w_X10_closeNext_4 hf hrm hv  FU (-1) 0 _ _ hz  hr

set_option maxRecDepth 20000 in
set_option maxHeartbeats 4000000 in
theorem w_X10_move_50 {A : Nat → Nat → Nat → Nat} {ρ σ' : Zs} {v : Unit} {x : Cxt} {p : Nat} {s : Nat} {x1 : Int32} {x2 : Int32}  (hf : m_fin 0 0 (QV A v σ' ρ) X0 x) (hrm : m_rm 0 0 0 x) (hv : vdb (A 16 0 0) 10 p s = true) : ∀ (n : Nat) (y3 : Int32) (σ : Zs) (h : Hp), Rp A h σ ρ → fX10_move_50 p s x1 x2  n y3 σ = some (v, σ') → wp x mX10_move 50 [(0, .ref (A 10 p s)), (1, .int x1), (2, .int x2), (3, .int y3)] [] h 0 0
  | 0, _, σ, h => fun hz hr => by
    rw [fX10_move_50.eq_1] at hr
    exact nono hr
  | n + 1, y3, σ, h => fun hz hr => by
    rw [fX10_move_50.eq_2] at hr
    refine w_iload_n 3 dX10_move_50 rfl rfl rfl ?_
    refine w_iconst 4 dX10_move_51 rfl rfl ?_
    refine w_icmp_ge 81 dX10_move_52 rfl rfl (fun q52 => ?_) (fun q52 => ?_)
    · have hr := bt q52 hr
      refine w_vret hf dX10_move_81 rfl (Nat.le_of_ble_eq_true rfl) (Nat.le_of_ble_eq_true rfl) ?_
      obtain ⟨rfl, rfl⟩ := ret_inj hr
      exact ⟨rfl, hz⟩
    · have hr := bf q52 hr
      refine w_aload_n 0 dX10_move_55 rfl rfl rfl ?_
      refine g_X10_26 dX10_move_56 rfl (hz.o10 hv) (hz.r645 hv) ?_
      refine w_iload_n 2 dX10_move_59 rfl rfl rfl ?_
      refine w_iconst 4 dX10_move_60 rfl rfl ?_
      refine w_imul dX10_move_61 rfl ?_
      refine w_iload_n 3 dX10_move_62 rfl rfl rfl ?_
      refine w_iadd dX10_move_63 rfl ?_
      refine w_aload_n 0 dX10_move_64 rfl rfl rfl ?_
      refine g_X10_26 dX10_move_65 rfl (hz.o10 hv) (hz.r645 hv) ?_
      refine w_iload_n 1 dX10_move_68 rfl rfl rfl ?_
      refine w_iconst 4 dX10_move_69 rfl rfl ?_
      refine w_imul dX10_move_70 rfl ?_
      refine w_iload_n 3 dX10_move_71 rfl rfl rfl ?_
      refine w_iadd dX10_move_72 rfl ?_
      obtain ⟨g18, hr⟩ := gd hr
      refine w_lald dX10_move_73 rfl (hz.k645 hv) (gin (hz.n645 hv) g18) (hz.x645 hv) ?_
      obtain ⟨g19, hr⟩ := gd hr
      refine w_last dX10_move_74 rfl (hz.k645 hv) (gin (hz.n645 hv) g19) ?_
      obtain ⟨σ20, e21, hr⟩ := lt_e hr
      have hz := (hz.s645 (i := (Int32.toNatClampNeg ((x2 * 4) + y3))) (v := (zJ σ 1669 p s (Int32.toNatClampNeg ((x1 * 4) + y3)))) hv).ts e21
      refine w_iinc 3 (y3 + 1) [(3, .int (y3 + 1)), (0, .ref (A 10 p s)), (1, .int x1), (2, .int x2)] dX10_move_75 rfl rfl rfl (by decide) rfl ?_
      refine w_goto 50 dX10_move_78 rfl ?_
      refine w_lv [(0, .ref (A 10 p s)), (1, .int x1), (2, .int x2), (3, .int (y3 + 1))] [1, 2, 3, 0] rfl ?_
      exact w_X10_move_50 hf hrm hv  n (y3 + 1) _ _ hz  hr
set_option maxRecDepth 20000 in
set_option maxHeartbeats 4000000 in
theorem s_X10_move {A : Nat → Nat → Nat → Nat} {h : Hp} {σ ρ σ' : Zs} {v : Unit} {p : Nat} {s : Nat} {x1 : Int32} {x2 : Int32} (hv : vdb (A 16 0 0) 10 p s = true) (hz : Rp A h σ ρ) (hr : fX10_move p s x1 x2 σ = some (v, σ')) : ∀ l : Launch, Sp l mX10_move 0 0 0 [.ref (A 10 p s), .int x1, .int x2] h (QV A v σ' ρ) X0 := by
  intro l
  refine Sp.of rfl rfl (lv := [(0, .ref (A 10 p s)), (1, .int x1), (2, .int x2)]) (Nat.le_of_ble_eq_true rfl) rfl (fun x hf hrm => ?_)
  rw [fX10_move.eq_1] at hr
  refine w_aload_n 0 dX10_move_0 rfl rfl rfl ?_
  refine g_X10_9 dX10_move_1 rfl (hz.o10 hv) (hz.r641 hv) ?_
  refine w_iload_n 2 dX10_move_4 rfl rfl rfl ?_
  refine w_aload_n 0 dX10_move_5 rfl rfl rfl ?_
  refine g_X10_9 dX10_move_6 rfl (hz.o10 hv) (hz.r641 hv) ?_
  refine w_iload_n 1 dX10_move_9 rfl rfl rfl ?_
  obtain ⟨g1, hr⟩ := gd hr
  refine w_lald dX10_move_10 rfl (hz.k641 hv) (gin (hz.n641 hv) g1) (hz.x641 hv) ?_
  obtain ⟨g2, hr⟩ := gd hr
  refine w_last dX10_move_11 rfl (hz.k641 hv) (gin (hz.n641 hv) g2) ?_
  obtain ⟨σ3, e4, hr⟩ := lt_e hr
  have hz := (hz.s641 (i := (Int32.toNatClampNeg x2)) (v := (zJ σ 1665 p s (Int32.toNatClampNeg x1))) hv).ts e4
  refine w_aload_n 0 dX10_move_12 rfl rfl rfl ?_
  refine g_X10_15 dX10_move_13 rfl (hz.o10 hv) (hz.r642 hv) ?_
  refine w_iload_n 2 dX10_move_16 rfl rfl rfl ?_
  refine w_aload_n 0 dX10_move_17 rfl rfl rfl ?_
  refine g_X10_15 dX10_move_18 rfl (hz.o10 hv) (hz.r642 hv) ?_
  refine w_iload_n 1 dX10_move_21 rfl rfl rfl ?_
  obtain ⟨g5, hr⟩ := gd hr
  refine w_iald dX10_move_22 rfl (hz.k642 hv) (gin (hz.n642 hv) g5) (hz.x642 hv) ?_
  obtain ⟨g6, hr⟩ := gd hr
  refine w_iast dX10_move_23 rfl (hz.k642 hv) (gin (hz.n642 hv) g6) ?_
  obtain ⟨σ7, e8, hr⟩ := lt_e hr
  have hz := (hz.s642 (i := (Int32.toNatClampNeg x2)) (v := (zI σ3 1666 p s (Int32.toNatClampNeg x1))) hv).ts e8
  refine w_aload_n 0 dX10_move_24 rfl rfl rfl ?_
  refine g_X10_19 dX10_move_25 rfl (hz.o10 hv) (hz.r643 hv) ?_
  refine w_iload_n 2 dX10_move_28 rfl rfl rfl ?_
  refine w_aload_n 0 dX10_move_29 rfl rfl rfl ?_
  refine g_X10_19 dX10_move_30 rfl (hz.o10 hv) (hz.r643 hv) ?_
  refine w_iload_n 1 dX10_move_33 rfl rfl rfl ?_
  obtain ⟨g9, hr⟩ := gd hr
  refine w_zald dX10_move_34 rfl (hz.k643 hv) (gin (hz.n643 hv) g9) (hz.x643 hv) ?_
  obtain ⟨g10, hr⟩ := gd hr
  obtain ⟨g11, hr⟩ := gd hr
  refine w_zast dX10_move_35 rfl (hz.k643 hv) (gin (hz.n643 hv) g10) (zn g11) ?_
  obtain ⟨σ12, e13, hr⟩ := lt_e hr
  have hz := (hz.s643 (i := (Int32.toNatClampNeg x2)) (v := (zI σ7 1667 p s (Int32.toNatClampNeg x1))) hv).ts e13
  refine w_aload_n 0 dX10_move_36 rfl rfl rfl ?_
  refine g_X10_23 dX10_move_37 rfl (hz.o10 hv) (hz.r644 hv) ?_
  refine w_iload_n 2 dX10_move_40 rfl rfl rfl ?_
  refine w_aload_n 0 dX10_move_41 rfl rfl rfl ?_
  refine g_X10_23 dX10_move_42 rfl (hz.o10 hv) (hz.r644 hv) ?_
  refine w_iload_n 1 dX10_move_45 rfl rfl rfl ?_
  obtain ⟨g14, hr⟩ := gd hr
  refine w_iald dX10_move_46 rfl (hz.k644 hv) (gin (hz.n644 hv) g14) (hz.x644 hv) ?_
  obtain ⟨g15, hr⟩ := gd hr
  refine w_iast dX10_move_47 rfl (hz.k644 hv) (gin (hz.n644 hv) g15) ?_
  obtain ⟨σ16, e17, hr⟩ := lt_e hr
  have hz := (hz.s644 (i := (Int32.toNatClampNeg x2)) (v := (zI σ12 1668 p s (Int32.toNatClampNeg x1))) hv).ts e17
  refine w_iconst 0 dX10_move_48 rfl rfl ?_
  refine w_istore_n [(3, .int 0), (0, .ref (A 10 p s)), (1, .int x1), (2, .int x2)] dX10_move_49 rfl rfl (by decide) rfl ?_
  refine w_lv [(0, .ref (A 10 p s)), (1, .int x1), (2, .int x2), (3, .int 0)] [1, 2, 3, 0] rfl ?_
  exact w_X10_move_50 hf hrm hv  FU 0 _ _ hz  hr

set_option maxRecDepth 20000 in
set_option maxHeartbeats 4000000 in
theorem w_X10_removeGone_5 {A : Nat → Nat → Nat → Nat} {ρ σ' : Zs} {v : Unit} {x : Cxt} {p : Nat} {s : Nat} {x1 : Int32} {x2 : Int32}  (hf : m_fin 0 0 (QV A v σ' ρ) X0 x) (hrm : m_rm 1 0 0 x) (hv : vdb (A 16 0 0) 10 p s = true) : ∀ (n : Nat) (y3 : Int32) (y4 : Int32) (σ : Zs) (h : Hp), Rp A h σ ρ → fX10_removeGone_5 p s x1 x2  n y3 y4 σ = some (v, σ') → wp x mX10_removeGone 5 [(0, .ref (A 10 p s)), (1, .int x1), (2, .int x2), (3, .int y3), (4, .int y4)] [] h 0 0
  | 0, _, _, σ, h => fun hz hr => by
    rw [fX10_removeGone_5.eq_1] at hr
    exact nono hr
  | n + 1, y3, y4, σ, h => fun hz hr => by
    rw [fX10_removeGone_5.eq_2] at hr
    refine w_iload 4 dX10_removeGone_5 rfl rfl ?_
    refine w_aload_n 0 dX10_removeGone_7 rfl rfl rfl ?_
    refine g_X10_29 dX10_removeGone_8 rfl (hz.o10 hv) (hz.i640 hv) ?_
    refine w_icmp_ge 53 dX10_removeGone_11 rfl rfl (fun q11 => ?_) (fun q11 => ?_)
    · have hr := bt q11 hr
      refine w_aload_n 0 dX10_removeGone_53 rfl rfl rfl ?_
      refine w_iload_n 3 dX10_removeGone_54 rfl rfl rfl ?_
      refine p_X10_29 dX10_removeGone_55 rfl (hz.o10 hv) ?_
      obtain ⟨σ1, e2, hr⟩ := lt_e hr
      have hz := (hz.s640 (v := y3) hv).ts e2
      refine w_vret hf dX10_removeGone_58 rfl (Nat.le_of_ble_eq_true rfl) (Nat.le_of_ble_eq_true rfl) ?_
      obtain ⟨rfl, rfl⟩ := ret_inj hr
      exact ⟨rfl, hz⟩
    · have hr := bf q11 hr
      refine w_iload 4 dX10_removeGone_14 rfl rfl ?_
      refine w_aload_n 0 dX10_removeGone_16 rfl rfl rfl ?_
      refine g_X10_9 dX10_removeGone_17 rfl (hz.o10 hv) (hz.r641 hv) ?_
      refine w_alen 1 dX10_removeGone_20 rfl (by decide) (by decide) (fun _ => rfl) (hz.k641 hv) (v := 60) (by rw [hz.n641 hv]; rfl) ?_
      refine w_icmp_ge 53 dX10_removeGone_21 rfl rfl (fun q21 => ?_) (fun q21 => ?_)
      · have hr := bt q21 hr
        refine w_aload_n 0 dX10_removeGone_53 rfl rfl rfl ?_
        refine w_iload_n 3 dX10_removeGone_54 rfl rfl rfl ?_
        refine p_X10_29 dX10_removeGone_55 rfl (hz.o10 hv) ?_
        obtain ⟨σ3, e4, hr⟩ := lt_e hr
        have hz := (hz.s640 (v := y3) hv).ts e4
        refine w_vret hf dX10_removeGone_58 rfl (Nat.le_of_ble_eq_true rfl) (Nat.le_of_ble_eq_true rfl) ?_
        obtain ⟨rfl, rfl⟩ := ret_inj hr
        exact ⟨rfl, hz⟩
      · have hr := bf q21 hr
        refine w_aload_n 0 dX10_removeGone_24 rfl rfl rfl ?_
        refine g_X10_15 dX10_removeGone_25 rfl (hz.o10 hv) (hz.r642 hv) ?_
        refine w_iload 4 dX10_removeGone_28 rfl rfl ?_
        obtain ⟨g5, hr⟩ := gd hr
        refine w_iald dX10_removeGone_30 rfl (hz.k642 hv) (gin (hz.n642 hv) g5) (hz.x642 hv) ?_
        refine w_iload_n 2 dX10_removeGone_31 rfl rfl rfl ?_
        refine w_iadd dX10_removeGone_32 rfl ?_
        refine w_iload_n 1 dX10_removeGone_33 rfl rfl rfl ?_
        refine w_icmp_le 47 dX10_removeGone_34 rfl rfl (fun q34 => ?_) (fun q34 => ?_)
        · have hr := bt q34 hr
          refine w_iinc 4 (y4 + 1) [(4, .int (y4 + 1)), (0, .ref (A 10 p s)), (1, .int x1), (2, .int x2), (3, .int y3)] dX10_removeGone_47 rfl rfl rfl (by decide) rfl ?_
          refine w_goto 5 dX10_removeGone_50 rfl ?_
          refine w_lv [(0, .ref (A 10 p s)), (1, .int x1), (2, .int x2), (3, .int y3), (4, .int (y4 + 1))] [1, 2, 3, 4, 0] rfl ?_
          exact w_X10_removeGone_5 hf hrm hv  n y3 (y4 + 1) _ _ hz  hr
        · have hr := bf q34 hr
          refine w_aload_n 0 dX10_removeGone_37 rfl rfl rfl ?_
          refine w_iload 4 dX10_removeGone_38 rfl rfl ?_
          refine w_iload_n 3 dX10_removeGone_40 rfl rfl rfl ?_
          obtain ⟨v6, σ7, e8, hr⟩ := bq_some hr
          refine c_X10_47 (As := [.int y4, .int y3]) (rest := []) (fun l => s_X10_move hv hz e8 l) hrm dX10_removeGone_41 rfl rfl (Nat.le_of_ble_eq_true rfl) (Nat.le_of_ble_eq_true rfl) (Nat.le_of_ble_eq_true rfl) (hz.o10 hv) rfl (Nat.le_of_ble_eq_true rfl) (fun vr h2 hq => ?_) (fun E9 h9 hq => hq.elim)
          obtain ⟨rfl, hz⟩ := hq
          show wp _ _ 44 [(0, .ref (A 10 p s)), (1, .int x1), (2, .int x2), (3, .int y3), (4, .int y4)] [] _ _ _
          refine w_iinc 3 (y3 + 1) [(3, .int (y3 + 1)), (0, .ref (A 10 p s)), (1, .int x1), (2, .int x2), (4, .int y4)] dX10_removeGone_44 rfl rfl rfl (by decide) rfl ?_
          refine w_iinc 4 (y4 + 1) [(4, .int (y4 + 1)), (3, .int (y3 + 1)), (0, .ref (A 10 p s)), (1, .int x1), (2, .int x2)] dX10_removeGone_47 rfl rfl rfl (by decide) rfl ?_
          refine w_goto 5 dX10_removeGone_50 rfl ?_
          refine w_lv [(0, .ref (A 10 p s)), (1, .int x1), (2, .int x2), (3, .int (y3 + 1)), (4, .int (y4 + 1))] [2, 3, 4, 1, 0] rfl ?_
          exact w_X10_removeGone_5 hf hrm hv  n (y3 + 1) (y4 + 1) _ _ hz  hr
set_option maxRecDepth 20000 in
set_option maxHeartbeats 4000000 in
theorem s_X10_removeGone {A : Nat → Nat → Nat → Nat} {h : Hp} {σ ρ σ' : Zs} {v : Unit} {p : Nat} {s : Nat} {x1 : Int32} {x2 : Int32} (hv : vdb (A 16 0 0) 10 p s = true) (hz : Rp A h σ ρ) (hr : fX10_removeGone p s x1 x2 σ = some (v, σ')) : ∀ l : Launch, Sp l mX10_removeGone 1 0 0 [.ref (A 10 p s), .int x1, .int x2] h (QV A v σ' ρ) X0 := by
  intro l
  refine Sp.of rfl rfl (lv := [(0, .ref (A 10 p s)), (1, .int x1), (2, .int x2)]) (Nat.le_of_ble_eq_true rfl) rfl (fun x hf hrm => ?_)
  rw [fX10_removeGone.eq_1] at hr
  refine w_iconst 0 dX10_removeGone_0 rfl rfl ?_
  refine w_istore_n [(3, .int 0), (0, .ref (A 10 p s)), (1, .int x1), (2, .int x2)] dX10_removeGone_1 rfl rfl (by decide) rfl ?_
  refine w_iconst 0 dX10_removeGone_2 rfl rfl ?_
  refine w_istore [(4, .int 0), (3, .int 0), (0, .ref (A 10 p s)), (1, .int x1), (2, .int x2)] dX10_removeGone_3 rfl (by decide) rfl ?_
  refine w_lv [(0, .ref (A 10 p s)), (1, .int x1), (2, .int x2), (3, .int 0), (4, .int 0)] [2, 3, 4, 1, 0] rfl ?_
  exact w_X10_removeGone_5 hf hrm hv  FU 0 0 _ _ hz  hr

