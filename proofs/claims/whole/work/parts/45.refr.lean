/-! LIFTED: 45.refr -/
noncomputable def fX14_doRelease (x1 : Int32) (ρ : Zs) : Option (Int32 × Zs) :=
  if gi x1 60 then if gi x1 60 then lt (sL ρ) fun ρ3 => if gcp (7 * x1) 0 7 420 7 then lt (sC ρ3 1950 0 0 1919 0 0 (Int32.toNatClampNeg (7 * x1)) (Int32.toNatClampNeg 0) (Int32.toNatClampNeg 7)) fun ρ6 => bq (fX14_takeOut x1 ρ6) fun v8 ρ9 => lt (sI ρ9 930 0 0 0 0) fun ρ12 => if (zI ρ 1949 0 0 (Int32.toNatClampNeg x1)) = (-1) then (if gi 0 7 then bq (fX14_beginOf (zI ρ 1948 0 0 (Int32.toNatClampNeg x1)) (zJ ρ12 1919 0 0 (Int32.toNatClampNeg 0)) ρ12) fun v15 ρ16 => bq (fX14_putIn (zI ρ 1948 0 0 (Int32.toNatClampNeg x1)) 1919 0 0 7 0 v15 1 ρ16) fun v19 ρ20 => if v19 = (-1) then (lt (sI ρ20 928 0 0 0 ((zI ρ20 928 0 0 0) + 1)) fun ρ31 => bq (fX14_doSteps  ρ31) fun v33 ρ34 => some ((zI ρ34 930 0 0 0), ρ34)) else (bq (fX14_offerWindow (zI ρ 1948 0 0 (Int32.toNatClampNeg x1)) v19 ρ20) fun v23 ρ24 => bq (fX14_doSteps  ρ24) fun v27 ρ28 => some ((zI ρ28 930 0 0 0), ρ28)) else none) else (bq (fX14_load 1919 0 0 7 0 ρ12) fun v37 ρ38 => bq (fX14_store (zI ρ 1948 0 0 (Int32.toNatClampNeg x1)) ρ38) fun v41 ρ42 => bq (fX14_doSteps  ρ42) fun v45 ρ46 => some ((zI ρ46 930 0 0 0), ρ46)) else none else none else none

noncomputable def fX14_release (x1 : Int32) (ρ : Zs) : Option (Int32 × Zs) :=
  lt (sI ρ 896 0 0 0 0) fun ρ1 => bq (fX14_isHeld x1 ρ1) fun v3 ρ4 => if v3 = 0 then (bq (fX14_fail 1 ρ4) fun v19 ρ20 => some (v19, ρ20)) else (if (zI ρ4 940 0 0 0) = 200 then (bq (fX14_fail 2 ρ4) fun v15 ρ16 => some (v15, ρ16)) else (bq (fX14_write 1 x1 ρ4) fun v7 ρ8 => bq (fX14_doRelease x1 ρ8) fun v11 ρ12 => some (v11, ρ12)))

noncomputable def fX14_again (x1 : Int32) (ρ : Zs) : Option (Int32 × Zs) :=
  if gi x1 200 then if gi x1 200 then if (zI ρ 1965 0 0 (Int32.toNatClampNeg x1)) = 0 then (if gi x1 200 then bq (fX14_indexOf 1793 ((zR ρ 898 0 0 0).1) 0 12 0 (zI ρ 768 ((zR ρ 898 0 0 0).1) 0 0) (zJ ρ 1968 0 0 (Int32.toNatClampNeg x1)) ρ) fun v24 ρ25 => if (zI ρ25 929 0 0 0) = 0 then (if v24 = (-1) then (some (1, ρ25)) else (if gi v24 12 then if (zI ρ25 1794 ((zR ρ25 898 0 0 0).1) 0 (Int32.toNatClampNeg v24)) = 0 then (if gi v24 12 then if gi x1 200 then if (zI ρ25 1795 ((zR ρ25 898 0 0 0).1) 0 (Int32.toNatClampNeg v24)) = (zI ρ25 1967 0 0 (Int32.toNatClampNeg x1)) then (bq (fX14_doPush v24 (zI ρ 1966 0 0 (Int32.toNatClampNeg x1)) (6 * x1) ρ25) fun v33 ρ34 => lt (sI ρ34 930 0 0 0 v33) fun ρ37 => some (0, ρ37)) else (some (1, ρ25)) else none else none) else (some (1, ρ25)) else none)) else (some (1, ρ25)) else none) else (if gi x1 200 then if (zI ρ 1965 0 0 (Int32.toNatClampNeg x1)) = 3 then (if (zI ρ 929 0 0 0) = 0 then (some (1, ρ)) else (lt (sI ρ 929 0 0 0 0) fun ρ19 => some (0, ρ19))) else (bq (fX14_isHeld (zI ρ 1966 0 0 (Int32.toNatClampNeg x1)) ρ) fun v4 ρ5 => if v4 = 0 then (some (1, ρ5)) else (if gi x1 200 then if (zI ρ5 1965 0 0 (Int32.toNatClampNeg x1)) = 1 then (bq (fX14_doRelease (zI ρ 1966 0 0 (Int32.toNatClampNeg x1)) ρ5) fun v13 ρ14 => lt (sI ρ14 930 0 0 0 v13) fun ρ17 => some (0, ρ17)) else (bq (fX14_takeOut (zI ρ 1966 0 0 (Int32.toNatClampNeg x1)) ρ5) fun v9 ρ10 => some (0, ρ10)) else none)) else none) else none else none

set_option maxRecDepth 20000 in
set_option maxHeartbeats 4000000 in
theorem s_X14_doRelease {A : Nat → Nat → Nat → Nat} {h : Hp} {σ ρ ρ' : Zs} {v : Int32} {x1 : Int32}  (hz : Rp A h σ ρ) (hr : fX14_doRelease x1 ρ = some (v, ρ')) : ∀ l : Launch, Sp l mX14_doRelease 17 1 7 [.ref (A 14 0 0), .int x1] h (QI A v σ ρ') X0 := by
  intro l
  refine Sp.of rfl rfl (lv := [(0, .ref (A 14 0 0)), (1, .int x1)]) (Nat.le_of_ble_eq_true rfl) rfl (fun x hf hrm => ?_)
  rw [fX14_doRelease.eq_1] at hr
  refine w_aload_n 0 dX14_doRelease_0 rfl rfl rfl ?_
  refine g_X14_67 dX14_doRelease_1 rfl (hz.o14 rfl) (hz.r924 rfl) ?_
  refine w_iload_n 1 dX14_doRelease_4 rfl rfl rfl ?_
  obtain ⟨g1, hr⟩ := gd hr
  refine w_iald dX14_doRelease_5 rfl (hz.k924 rfl) (gin (hz.n924 rfl) g1) (hz.x924 rfl) ?_
  refine w_istore_n [(2, .int (zI ρ 1948 0 0 (Int32.toNatClampNeg x1))), (0, .ref (A 14 0 0)), (1, .int x1)] dX14_doRelease_6 rfl rfl (by decide) rfl ?_
  refine w_aload_n 1 dX14_doRelease_7 rfl rfl rfl ?_
  refine g_X14_70 dX14_doRelease_8 rfl (hz.o14 rfl) (hz.r925 rfl) ?_
  refine w_iload_n 2 dX14_doRelease_11 rfl rfl rfl ?_
  obtain ⟨g2, hr⟩ := gd hr
  refine w_iald dX14_doRelease_12 rfl (hz.k925 rfl) (gin (hz.n925 rfl) g2) (hz.x925 rfl) ?_
  refine w_istore_n [(3, .int (zI ρ 1949 0 0 (Int32.toNatClampNeg x1))), (2, .int (zI ρ 1948 0 0 (Int32.toNatClampNeg x1))), (0, .ref (A 14 0 0)), (1, .int x1)] dX14_doRelease_13 rfl rfl (by decide) rfl ?_
  refine w_bipush 7 dX14_doRelease_14 rfl rfl ?_
  refine w_newJ (n := 7) hrm dX14_doRelease_16 rfl a_long (by decide) rfl (by decide) (Nat.le_of_ble_eq_true rfl) (Nat.le_of_ble_eq_true rfl) (fun q0 hq => ?_)
  obtain ⟨ρ3, e4, hr⟩ := lt_e hr
  have hz := (hz.newL hq).tr e4
  refine w_astore [(4, .ref q0), (3, .int (zI ρ 1949 0 0 (Int32.toNatClampNeg x1))), (2, .int (zI ρ 1948 0 0 (Int32.toNatClampNeg x1))), (0, .ref (A 14 0 0)), (1, .int x1)] dX14_doRelease_18 rfl (by decide) rfl ?_
  refine w_aload_n 3 dX14_doRelease_20 rfl rfl rfl ?_
  refine g_X14_73 dX14_doRelease_21 rfl (hz.o14 rfl) (hz.r926 rfl) ?_
  refine w_bipush 7 dX14_doRelease_24 rfl rfl ?_
  refine w_iload_n 4 dX14_doRelease_26 rfl rfl rfl ?_
  refine w_imul dX14_doRelease_27 rfl ?_
  refine w_aload 0 dX14_doRelease_28 rfl rfl ?_
  refine w_iconst 0 dX14_doRelease_30 rfl rfl ?_
  refine w_bipush 7 dX14_doRelease_31 rfl rfl ?_
  obtain ⟨g5, hr⟩ := gd hr
  refine w_copyl hrm (by decide) dX14_doRelease_33 rfl (hz.k926 rfl) hz.tk (hz.n926 rfl) hz.tn g5 (Nat.le_of_ble_eq_true rfl) ?_
  obtain ⟨ρ6, e7, hr⟩ := lt_e hr
  have hz := (hz.dC (sp := Int32.toNatClampNeg (7 * x1)) (dp := Int32.toNatClampNeg 0) (n := Int32.toNatClampNeg 7) (aok_926 rfl) rfl).tr e7
  refine w_aload_n 3 dX14_doRelease_36 rfl rfl rfl ?_
  refine w_iload_n 4 dX14_doRelease_37 rfl rfl rfl ?_
  obtain ⟨v8, ρ9, e10, hr⟩ := bq_some hr
  refine c_X14_577 (As := [.int x1]) (rest := []) (fun l => l_X14_takeOut  hz e10 l) hrm dX14_doRelease_38 rfl rfl (Nat.le_of_ble_eq_true rfl) (Nat.le_of_ble_eq_true rfl) (Nat.le_of_ble_eq_true rfl) (hz.o14 rfl) rfl (Nat.le_of_ble_eq_true rfl) (fun vr h2 hq => ?_) (fun E9 h9 hq => hq.elim)
  obtain ⟨rfl, hz⟩ := hq
  show wp _ _ 41 [(4, .ref q0), (3, .int (zI ρ 1949 0 0 (Int32.toNatClampNeg x1))), (2, .int (zI ρ 1948 0 0 (Int32.toNatClampNeg x1))), (0, .ref (A 14 0 0)), (1, .int x1)] [] _ _ _
  refine w_aload_n 3 dX14_doRelease_41 rfl rfl rfl ?_
  refine w_iconst 0 dX14_doRelease_42 rfl rfl ?_
  refine p_X14_478 dX14_doRelease_43 rfl (hz.o14 rfl) ?_
  obtain ⟨ρ12, e13, hr⟩ := lt_e hr
  have hz := (hz.s930 (v := 0) rfl).tr e13
  refine w_iload_n 1 dX14_doRelease_46 rfl rfl rfl ?_
  refine w_iconst (-1) dX14_doRelease_47 rfl rfl ?_
  refine w_icmp_eq 66 dX14_doRelease_48 rfl rfl (fun q48 => ?_) (fun q48 => ?_)
  · have hr := bt q48 hr
    refine w_aload_n 3 dX14_doRelease_66 rfl rfl rfl ?_
    refine w_iload_n 2 dX14_doRelease_67 rfl rfl rfl ?_
    refine w_aload 0 dX14_doRelease_68 rfl rfl ?_
    refine w_iconst 0 dX14_doRelease_70 rfl rfl ?_
    refine w_aload_n 3 dX14_doRelease_71 rfl rfl rfl ?_
    refine w_iload_n 2 dX14_doRelease_72 rfl rfl rfl ?_
    refine w_aload 0 dX14_doRelease_73 rfl rfl ?_
    refine w_iconst 0 dX14_doRelease_75 rfl rfl ?_
    obtain ⟨g14, hr⟩ := gd hr
    refine w_lald dX14_doRelease_76 rfl hz.tk (gin hz.tn g14) hz.ty ?_
    obtain ⟨v15, ρ16, e17, hr⟩ := bq_some hr
    refine c_X14_501 (As := [.int (zI ρ 1948 0 0 (Int32.toNatClampNeg x1)), .long (zJ ρ12 1919 0 0 (Int32.toNatClampNeg 0))]) (rest := [.int 0, .ref q0, .int (zI ρ 1948 0 0 (Int32.toNatClampNeg x1)), .ref (A 14 0 0)]) (fun l => l_X14_beginOf  hz e17 l) hrm dX14_doRelease_77 rfl rfl (Nat.le_of_ble_eq_true rfl) (Nat.le_of_ble_eq_true rfl) (Nat.le_of_ble_eq_true rfl) (hz.o14 rfl) rfl (Nat.le_of_ble_eq_true rfl) (fun vr h2 hq => ?_) (fun E9 h9 hq => hq.elim)
    obtain ⟨rfl, hz⟩ := hq
    show wp _ _ 80 [(4, .ref q0), (3, .int (zI ρ 1949 0 0 (Int32.toNatClampNeg x1))), (2, .int (zI ρ 1948 0 0 (Int32.toNatClampNeg x1))), (0, .ref (A 14 0 0)), (1, .int x1)] [.int v15, .int 0, .ref q0, .int (zI ρ 1948 0 0 (Int32.toNatClampNeg x1)), .ref (A 14 0 0)] _ _ _
    refine w_iconst 1 dX14_doRelease_80 rfl rfl ?_
    obtain ⟨v19, ρ20, e21, hr⟩ := bq_some hr
    refine c_X14_508 (As := [.int (zI ρ 1948 0 0 (Int32.toNatClampNeg x1)), .ref q0, .int 0, .int v15, .int 1]) (rest := []) (fun l => l_X14_putIn  hz e21 l) hrm dX14_doRelease_81 rfl rfl (Nat.le_of_ble_eq_true rfl) (Nat.le_of_ble_eq_true rfl) (Nat.le_of_ble_eq_true rfl) (hz.o14 rfl) rfl (Nat.le_of_ble_eq_true rfl) (fun vr h2 hq => ?_) (fun E9 h9 hq => hq.elim)
    obtain ⟨rfl, hz⟩ := hq
    show wp _ _ 84 [(4, .ref q0), (3, .int (zI ρ 1949 0 0 (Int32.toNatClampNeg x1))), (2, .int (zI ρ 1948 0 0 (Int32.toNatClampNeg x1))), (0, .ref (A 14 0 0)), (1, .int x1)] [.int v19] _ _ _
    refine w_istore [(5, .int v19), (4, .ref q0), (3, .int (zI ρ 1949 0 0 (Int32.toNatClampNeg x1))), (2, .int (zI ρ 1948 0 0 (Int32.toNatClampNeg x1))), (0, .ref (A 14 0 0)), (1, .int x1)] dX14_doRelease_84 rfl (by decide) rfl ?_
    refine w_iload 0 dX14_doRelease_86 rfl rfl ?_
    refine w_iconst (-1) dX14_doRelease_88 rfl rfl ?_
    refine w_icmp_ne 105 dX14_doRelease_89 rfl rfl (fun q89 => ?_) (fun q89 => ?_)
    · have hr := bf q89 hr
      refine w_aload_n 4 dX14_doRelease_105 rfl rfl rfl ?_
      refine w_iload_n 3 dX14_doRelease_106 rfl rfl rfl ?_
      refine w_iload 0 dX14_doRelease_107 rfl rfl ?_
      have hz := hz.1
      obtain ⟨v23, ρ24, e25, hr⟩ := bq_some hr
      refine c_X14_512 (As := [.int (zI ρ 1948 0 0 (Int32.toNatClampNeg x1)), .int v19]) (rest := []) (fun l => s_X14_offerWindow  hz e25 l) hrm dX14_doRelease_109 rfl rfl (Nat.le_of_ble_eq_true rfl) (Nat.le_of_ble_eq_true rfl) (Nat.le_of_ble_eq_true rfl) (hz.o14 rfl) rfl (Nat.le_of_ble_eq_true rfl) (fun vr h2 hq => ?_) (fun E9 h9 hq => hq.elim)
      obtain ⟨rfl, hz⟩ := hq
      show wp _ _ 112 [(5, .int v19), (4, .ref q0), (3, .int (zI ρ 1949 0 0 (Int32.toNatClampNeg x1))), (2, .int (zI ρ 1948 0 0 (Int32.toNatClampNeg x1))), (0, .ref (A 14 0 0)), (1, .int x1)] [] _ _ _
      refine w_aload_n 4 dX14_doRelease_112 rfl rfl rfl ?_
      obtain ⟨v27, ρ28, e29, hr⟩ := bq_some hr
      refine c_X14_552 (As := []) (rest := []) (fun l => s_X14_doSteps  hz e29 l) hrm dX14_doRelease_113 rfl rfl (Nat.le_of_ble_eq_true rfl) (Nat.le_of_ble_eq_true rfl) (Nat.le_of_ble_eq_true rfl) (hz.o14 rfl) rfl (Nat.le_of_ble_eq_true rfl) (fun vr h2 hq => ?_) (fun E9 h9 hq => hq.elim)
      obtain ⟨rfl, hz⟩ := hq
      show wp _ _ 116 [(5, .int v19), (4, .ref q0), (3, .int (zI ρ 1949 0 0 (Int32.toNatClampNeg x1))), (2, .int (zI ρ 1948 0 0 (Int32.toNatClampNeg x1))), (0, .ref (A 14 0 0)), (1, .int x1)] [] _ _ _
      refine w_aload_n 4 dX14_doRelease_116 rfl rfl rfl ?_
      refine g_X14_478 dX14_doRelease_117 rfl (hz.o14 rfl) (hz.i930 rfl) ?_
      refine w_iret hf dX14_doRelease_120 rfl (Nat.le_of_ble_eq_true rfl) (Nat.le_of_ble_eq_true rfl) ?_
      obtain ⟨rfl, rfl⟩ := ret_inj hr
      exact ⟨rfl, hz⟩
    · have hr := bt q89 hr
      refine w_aload_n 4 dX14_doRelease_92 rfl rfl rfl ?_
      refine w_dup dX14_doRelease_93 rfl rfl ?_
      refine g_X14_453 dX14_doRelease_94 rfl (hz.o14 rfl) (hz.i928 rfl) ?_
      refine w_iconst 1 dX14_doRelease_97 rfl rfl ?_
      refine w_iadd dX14_doRelease_98 rfl ?_
      refine p_X14_453 dX14_doRelease_99 rfl (hz.o14 rfl) ?_
      obtain ⟨ρ31, e32, hr⟩ := lt_e hr
      have hz := (hz.s928 (v := ((zI ρ20 928 0 0 0) + 1)) rfl).tr e32
      refine w_goto 112 dX14_doRelease_102 rfl ?_
      refine w_aload_n 4 dX14_doRelease_112 rfl rfl rfl ?_
      have hz := hz.1
      obtain ⟨v33, ρ34, e35, hr⟩ := bq_some hr
      refine c_X14_552 (As := []) (rest := []) (fun l => s_X14_doSteps  hz e35 l) hrm dX14_doRelease_113 rfl rfl (Nat.le_of_ble_eq_true rfl) (Nat.le_of_ble_eq_true rfl) (Nat.le_of_ble_eq_true rfl) (hz.o14 rfl) rfl (Nat.le_of_ble_eq_true rfl) (fun vr h2 hq => ?_) (fun E9 h9 hq => hq.elim)
      obtain ⟨rfl, hz⟩ := hq
      show wp _ _ 116 [(5, .int v19), (4, .ref q0), (3, .int (zI ρ 1949 0 0 (Int32.toNatClampNeg x1))), (2, .int (zI ρ 1948 0 0 (Int32.toNatClampNeg x1))), (0, .ref (A 14 0 0)), (1, .int x1)] [] _ _ _
      refine w_aload_n 4 dX14_doRelease_116 rfl rfl rfl ?_
      refine g_X14_478 dX14_doRelease_117 rfl (hz.o14 rfl) (hz.i930 rfl) ?_
      refine w_iret hf dX14_doRelease_120 rfl (Nat.le_of_ble_eq_true rfl) (Nat.le_of_ble_eq_true rfl) ?_
      obtain ⟨rfl, rfl⟩ := ret_inj hr
      exact ⟨rfl, hz⟩
  · have hr := bf q48 hr
    refine w_aload_n 3 dX14_doRelease_51 rfl rfl rfl ?_
    refine w_aload 0 dX14_doRelease_52 rfl rfl ?_
    refine w_iconst 0 dX14_doRelease_54 rfl rfl ?_
    obtain ⟨v37, ρ38, e39, hr⟩ := bq_some hr
    refine c_X14_504 (As := [.ref q0, .int 0]) (rest := []) (fun l => l_X14_load  hz e39 l) hrm dX14_doRelease_55 rfl rfl (Nat.le_of_ble_eq_true rfl) (Nat.le_of_ble_eq_true rfl) (Nat.le_of_ble_eq_true rfl) (hz.o14 rfl) rfl (Nat.le_of_ble_eq_true rfl) (fun vr h2 hq => ?_) (fun E9 h9 hq => hq.elim)
    obtain ⟨rfl, hz⟩ := hq
    show wp _ _ 58 [(4, .ref q0), (3, .int (zI ρ 1949 0 0 (Int32.toNatClampNeg x1))), (2, .int (zI ρ 1948 0 0 (Int32.toNatClampNeg x1))), (0, .ref (A 14 0 0)), (1, .int x1)] [] _ _ _
    refine w_aload_n 3 dX14_doRelease_58 rfl rfl rfl ?_
    refine w_iload_n 2 dX14_doRelease_59 rfl rfl rfl ?_
    have hz := hz.1
    obtain ⟨v41, ρ42, e43, hr⟩ := bq_some hr
    refine c_X14_488 (As := [.int (zI ρ 1948 0 0 (Int32.toNatClampNeg x1))]) (rest := []) (fun l => s_X14_store  hz e43 l) hrm dX14_doRelease_60 rfl rfl (Nat.le_of_ble_eq_true rfl) (Nat.le_of_ble_eq_true rfl) (Nat.le_of_ble_eq_true rfl) (hz.o14 rfl) rfl (Nat.le_of_ble_eq_true rfl) (fun vr h2 hq => ?_) (fun E9 h9 hq => hq.elim)
    obtain ⟨rfl, hz⟩ := hq
    show wp _ _ 63 [(4, .ref q0), (3, .int (zI ρ 1949 0 0 (Int32.toNatClampNeg x1))), (2, .int (zI ρ 1948 0 0 (Int32.toNatClampNeg x1))), (0, .ref (A 14 0 0)), (1, .int x1)] [] _ _ _
    refine w_goto 112 dX14_doRelease_63 rfl ?_
    refine w_aload_n 3 dX14_doRelease_112 rfl rfl rfl ?_
    obtain ⟨v45, ρ46, e47, hr⟩ := bq_some hr
    refine c_X14_552 (As := []) (rest := []) (fun l => s_X14_doSteps  hz e47 l) hrm dX14_doRelease_113 rfl rfl (Nat.le_of_ble_eq_true rfl) (Nat.le_of_ble_eq_true rfl) (Nat.le_of_ble_eq_true rfl) (hz.o14 rfl) rfl (Nat.le_of_ble_eq_true rfl) (fun vr h2 hq => ?_) (fun E9 h9 hq => hq.elim)
    obtain ⟨rfl, hz⟩ := hq
    show wp _ _ 116 [(4, .ref q0), (3, .int (zI ρ 1949 0 0 (Int32.toNatClampNeg x1))), (2, .int (zI ρ 1948 0 0 (Int32.toNatClampNeg x1))), (0, .ref (A 14 0 0)), (1, .int x1)] [] _ _ _
    refine w_aload_n 3 dX14_doRelease_116 rfl rfl rfl ?_
    refine g_X14_478 dX14_doRelease_117 rfl (hz.o14 rfl) (hz.i930 rfl) ?_
    refine w_iret hf dX14_doRelease_120 rfl (Nat.le_of_ble_eq_true rfl) (Nat.le_of_ble_eq_true rfl) ?_
    obtain ⟨rfl, rfl⟩ := ret_inj hr
    exact ⟨rfl, hz⟩

set_option maxRecDepth 20000 in
set_option maxHeartbeats 4000000 in
theorem s_X14_release {A : Nat → Nat → Nat → Nat} {h : Hp} {σ ρ ρ' : Zs} {v : Int32} {x1 : Int32}  (hz : Rp A h σ ρ) (hr : fX14_release x1 ρ = some (v, ρ')) : ∀ l : Launch, Sp l mX14_release 18 1 7 [.ref (A 14 0 0), .int x1] h (QI A v σ ρ') X0 := by
  intro l
  refine Sp.of rfl rfl (lv := [(0, .ref (A 14 0 0)), (1, .int x1)]) (Nat.le_of_ble_eq_true rfl) rfl (fun x hf hrm => ?_)
  rw [fX14_release.eq_1] at hr
  refine w_aload_n 0 dX14_release_0 rfl rfl rfl ?_
  refine w_iconst 0 dX14_release_1 rfl rfl ?_
  refine p_X14_149 dX14_release_2 rfl (hz.o14 rfl) ?_
  obtain ⟨ρ1, e2, hr⟩ := lt_e hr
  have hz := (hz.s896 (v := 0) rfl).tr e2
  refine w_aload_n 0 dX14_release_5 rfl rfl rfl ?_
  refine w_iload_n 1 dX14_release_6 rfl rfl rfl ?_
  obtain ⟨v3, ρ4, e5, hr⟩ := bq_some hr
  refine c_X14_566 (As := [.int x1]) (rest := []) (fun l => s_X14_isHeld  hz e5 l) hrm dX14_release_7 rfl rfl (Nat.le_of_ble_eq_true rfl) (Nat.le_of_ble_eq_true rfl) (Nat.le_of_ble_eq_true rfl) (hz.o14 rfl) rfl (Nat.le_of_ble_eq_true rfl) (fun vr h2 hq => ?_) (fun E9 h9 hq => hq.elim)
  obtain ⟨rfl, hz⟩ := hq
  show wp _ _ 10 [(0, .ref (A 14 0 0)), (1, .int x1)] [.int v3] _ _ _
  refine w_if_ne 19 dX14_release_10 rfl rfl (fun q10 => ?_) (fun q10 => ?_)
  · have hr := bf q10 hr
    refine w_aload_n 0 dX14_release_19 rfl rfl rfl ?_
    refine g_X14_437 dX14_release_20 rfl (hz.o14 rfl) (hz.i940 rfl) ?_
    refine w_sipush 200 dX14_release_23 rfl rfl ?_
    refine w_icmp_ne 35 dX14_release_26 rfl rfl (fun q26 => ?_) (fun q26 => ?_)
    · have hr := bf q26 hr
      refine w_aload_n 0 dX14_release_35 rfl rfl rfl ?_
      refine w_iconst 1 dX14_release_36 rfl rfl ?_
      refine w_iload_n 1 dX14_release_37 rfl rfl rfl ?_
      obtain ⟨v7, ρ8, e9, hr⟩ := bq_some hr
      refine c_X14_557 (As := [.int 1, .int x1]) (rest := []) (fun l => s_X14_write  hz e9 l) hrm dX14_release_38 rfl rfl (Nat.le_of_ble_eq_true rfl) (Nat.le_of_ble_eq_true rfl) (Nat.le_of_ble_eq_true rfl) (hz.o14 rfl) rfl (Nat.le_of_ble_eq_true rfl) (fun vr h2 hq => ?_) (fun E9 h9 hq => hq.elim)
      obtain ⟨rfl, hz⟩ := hq
      show wp _ _ 41 [(0, .ref (A 14 0 0)), (1, .int x1)] [] _ _ _
      refine w_aload_n 0 dX14_release_41 rfl rfl rfl ?_
      refine w_iload_n 1 dX14_release_42 rfl rfl rfl ?_
      obtain ⟨v11, ρ12, e13, hr⟩ := bq_some hr
      refine c_X14_580 (As := [.int x1]) (rest := []) (fun l => s_X14_doRelease  hz e13 l) hrm dX14_release_43 rfl rfl (Nat.le_of_ble_eq_true rfl) (Nat.le_of_ble_eq_true rfl) (Nat.le_of_ble_eq_true rfl) (hz.o14 rfl) rfl (Nat.le_of_ble_eq_true rfl) (fun vr h2 hq => ?_) (fun E9 h9 hq => hq.elim)
      obtain ⟨rfl, hz⟩ := hq
      show wp _ _ 46 [(0, .ref (A 14 0 0)), (1, .int x1)] [.int v11] _ _ _
      refine w_iret hf dX14_release_46 rfl (Nat.le_of_ble_eq_true rfl) (Nat.le_of_ble_eq_true rfl) ?_
      obtain ⟨rfl, rfl⟩ := ret_inj hr
      exact ⟨rfl, hz⟩
    · have hr := bt q26 hr
      refine w_aload_n 0 dX14_release_29 rfl rfl rfl ?_
      refine w_iconst 2 dX14_release_30 rfl rfl ?_
      obtain ⟨v15, ρ16, e17, hr⟩ := bq_some hr
      refine c_X14_155 (As := [.int 2]) (rest := []) (fun l => s_X14_fail  hz e17 l) hrm dX14_release_31 rfl rfl (Nat.le_of_ble_eq_true rfl) (Nat.le_of_ble_eq_true rfl) (Nat.le_of_ble_eq_true rfl) (hz.o14 rfl) rfl (Nat.le_of_ble_eq_true rfl) (fun vr h2 hq => ?_) (fun E9 h9 hq => hq.elim)
      obtain ⟨rfl, hz⟩ := hq
      show wp _ _ 34 [(0, .ref (A 14 0 0)), (1, .int x1)] [.int v15] _ _ _
      refine w_iret hf dX14_release_34 rfl (Nat.le_of_ble_eq_true rfl) (Nat.le_of_ble_eq_true rfl) ?_
      obtain ⟨rfl, rfl⟩ := ret_inj hr
      exact ⟨rfl, hz⟩
  · have hr := bt q10 hr
    refine w_aload_n 0 dX14_release_13 rfl rfl rfl ?_
    refine w_iconst 1 dX14_release_14 rfl rfl ?_
    obtain ⟨v19, ρ20, e21, hr⟩ := bq_some hr
    refine c_X14_155 (As := [.int 1]) (rest := []) (fun l => s_X14_fail  hz e21 l) hrm dX14_release_15 rfl rfl (Nat.le_of_ble_eq_true rfl) (Nat.le_of_ble_eq_true rfl) (Nat.le_of_ble_eq_true rfl) (hz.o14 rfl) rfl (Nat.le_of_ble_eq_true rfl) (fun vr h2 hq => ?_) (fun E9 h9 hq => hq.elim)
    obtain ⟨rfl, hz⟩ := hq
    show wp _ _ 18 [(0, .ref (A 14 0 0)), (1, .int x1)] [.int v19] _ _ _
    refine w_iret hf dX14_release_18 rfl (Nat.le_of_ble_eq_true rfl) (Nat.le_of_ble_eq_true rfl) ?_
    obtain ⟨rfl, rfl⟩ := ret_inj hr
    exact ⟨rfl, hz⟩

set_option maxRecDepth 20000 in
set_option maxHeartbeats 4000000 in
theorem s_X14_again {A : Nat → Nat → Nat → Nat} {h : Hp} {σ ρ ρ' : Zs} {v : Int32} {x1 : Int32}  (hz : Rp A h σ ρ) (hr : fX14_again x1 ρ = some (v, ρ')) : ∀ l : Launch, Sp l mX14_again 18 1 7 [.ref (A 14 0 0), .int x1] h (QI A v σ ρ') X0 := by
  intro l
  refine Sp.of rfl rfl (lv := [(0, .ref (A 14 0 0)), (1, .int x1)]) (Nat.le_of_ble_eq_true rfl) rfl (fun x hf hrm => ?_)
  rw [fX14_again.eq_1] at hr
  refine w_aload_n 0 dX14_again_0 rfl rfl rfl ?_
  refine g_X14_107 dX14_again_1 rfl (hz.o14 rfl) (hz.r942 rfl) ?_
  refine w_iload_n 1 dX14_again_4 rfl rfl rfl ?_
  obtain ⟨g1, hr⟩ := gd hr
  refine w_iald dX14_again_5 rfl (hz.k942 rfl) (gin (hz.n942 rfl) g1) (hz.x942 rfl) ?_
  refine w_istore_n [(2, .int (zI ρ 1966 0 0 (Int32.toNatClampNeg x1))), (0, .ref (A 14 0 0)), (1, .int x1)] dX14_again_6 rfl rfl (by decide) rfl ?_
  refine w_aload_n 1 dX14_again_7 rfl rfl rfl ?_
  refine g_X14_104 dX14_again_8 rfl (hz.o14 rfl) (hz.r941 rfl) ?_
  refine w_iload_n 2 dX14_again_11 rfl rfl rfl ?_
  obtain ⟨g2, hr⟩ := gd hr
  refine w_iald dX14_again_12 rfl (hz.k941 rfl) (gin (hz.n941 rfl) g2) (hz.x941 rfl) ?_
  refine w_if_ne 106 dX14_again_13 rfl rfl (fun q13 => ?_) (fun q13 => ?_)
  · have hr := bf q13 hr
    refine w_aload_n 1 dX14_again_106 rfl rfl rfl ?_
    refine g_X14_104 dX14_again_107 rfl (hz.o14 rfl) (hz.r941 rfl) ?_
    refine w_iload_n 2 dX14_again_110 rfl rfl rfl ?_
    obtain ⟨g3, hr⟩ := gd hr
    refine w_iald dX14_again_111 rfl (hz.k941 rfl) (gin (hz.n941 rfl) g3) (hz.x941 rfl) ?_
    refine w_iconst 3 dX14_again_112 rfl rfl ?_
    refine w_icmp_ne 133 dX14_again_113 rfl rfl (fun q113 => ?_) (fun q113 => ?_)
    · have hr := bf q113 hr
      refine w_aload_n 1 dX14_again_133 rfl rfl rfl ?_
      refine w_iload_n 0 dX14_again_134 rfl rfl rfl ?_
      obtain ⟨v4, ρ5, e6, hr⟩ := bq_some hr
      refine c_X14_566 (As := [.int (zI ρ 1966 0 0 (Int32.toNatClampNeg x1))]) (rest := []) (fun l => s_X14_isHeld  hz e6 l) hrm dX14_again_135 rfl rfl (Nat.le_of_ble_eq_true rfl) (Nat.le_of_ble_eq_true rfl) (Nat.le_of_ble_eq_true rfl) (hz.o14 rfl) rfl (Nat.le_of_ble_eq_true rfl) (fun vr h2 hq => ?_) (fun E9 h9 hq => hq.elim)
      obtain ⟨rfl, hz⟩ := hq
      show wp _ _ 138 [(2, .int (zI ρ 1966 0 0 (Int32.toNatClampNeg x1))), (0, .ref (A 14 0 0)), (1, .int x1)] [.int v4] _ _ _
      refine w_if_ne 143 dX14_again_138 rfl rfl (fun q138 => ?_) (fun q138 => ?_)
      · have hr := bf q138 hr
        refine w_aload_n 1 dX14_again_143 rfl rfl rfl ?_
        refine g_X14_104 dX14_again_144 rfl (hz.o14 rfl) (hz.r941 rfl) ?_
        refine w_iload_n 2 dX14_again_147 rfl rfl rfl ?_
        obtain ⟨g8, hr⟩ := gd hr
        refine w_iald dX14_again_148 rfl (hz.k941 rfl) (gin (hz.n941 rfl) g8) (hz.x941 rfl) ?_
        refine w_iconst 1 dX14_again_149 rfl rfl ?_
        refine w_icmp_ne 165 dX14_again_150 rfl rfl (fun q150 => ?_) (fun q150 => ?_)
        · have hr := bf q150 hr
          refine w_aload_n 1 dX14_again_165 rfl rfl rfl ?_
          refine w_iload_n 0 dX14_again_166 rfl rfl rfl ?_
          obtain ⟨v9, ρ10, e11, hr⟩ := bq_some hr
          refine c_X14_577 (As := [.int (zI ρ 1966 0 0 (Int32.toNatClampNeg x1))]) (rest := []) (fun l => s_X14_takeOut  hz e11 l) hrm dX14_again_167 rfl rfl (Nat.le_of_ble_eq_true rfl) (Nat.le_of_ble_eq_true rfl) (Nat.le_of_ble_eq_true rfl) (hz.o14 rfl) rfl (Nat.le_of_ble_eq_true rfl) (fun vr h2 hq => ?_) (fun E9 h9 hq => hq.elim)
          obtain ⟨rfl, hz⟩ := hq
          show wp _ _ 170 [(2, .int (zI ρ 1966 0 0 (Int32.toNatClampNeg x1))), (0, .ref (A 14 0 0)), (1, .int x1)] [] _ _ _
          refine w_iconst 0 dX14_again_170 rfl rfl ?_
          refine w_zret hf dX14_again_171 rfl rfl (Nat.le_of_ble_eq_true rfl) (Nat.le_of_ble_eq_true rfl) ?_
          obtain ⟨rfl, rfl⟩ := ret_inj hr
          exact ⟨rfl, hz⟩
        · have hr := bt q150 hr
          refine w_aload_n 1 dX14_again_153 rfl rfl rfl ?_
          refine w_aload_n 1 dX14_again_154 rfl rfl rfl ?_
          refine w_iload_n 0 dX14_again_155 rfl rfl rfl ?_
          obtain ⟨v13, ρ14, e15, hr⟩ := bq_some hr
          refine c_X14_580 (As := [.int (zI ρ 1966 0 0 (Int32.toNatClampNeg x1))]) (rest := [.ref (A 14 0 0)]) (fun l => s_X14_doRelease  hz e15 l) hrm dX14_again_156 rfl rfl (Nat.le_of_ble_eq_true rfl) (Nat.le_of_ble_eq_true rfl) (Nat.le_of_ble_eq_true rfl) (hz.o14 rfl) rfl (Nat.le_of_ble_eq_true rfl) (fun vr h2 hq => ?_) (fun E9 h9 hq => hq.elim)
          obtain ⟨rfl, hz⟩ := hq
          show wp _ _ 159 [(2, .int (zI ρ 1966 0 0 (Int32.toNatClampNeg x1))), (0, .ref (A 14 0 0)), (1, .int x1)] [.int v13, .ref (A 14 0 0)] _ _ _
          refine p_X14_478 dX14_again_159 rfl (hz.o14 rfl) ?_
          obtain ⟨ρ17, e18, hr⟩ := lt_e hr
          have hz := (hz.s930 (v := v13) rfl).tr e18
          refine w_goto 170 dX14_again_162 rfl ?_
          refine w_iconst 0 dX14_again_170 rfl rfl ?_
          refine w_zret hf dX14_again_171 rfl rfl (Nat.le_of_ble_eq_true rfl) (Nat.le_of_ble_eq_true rfl) ?_
          obtain ⟨rfl, rfl⟩ := ret_inj hr
          exact ⟨rfl, hz⟩
      · have hr := bt q138 hr
        refine w_iconst 1 dX14_again_141 rfl rfl ?_
        refine w_zret hf dX14_again_142 rfl rfl (Nat.le_of_ble_eq_true rfl) (Nat.le_of_ble_eq_true rfl) ?_
        obtain ⟨rfl, rfl⟩ := ret_inj hr
        exact ⟨rfl, hz⟩
    · have hr := bt q113 hr
      refine w_aload_n 1 dX14_again_116 rfl rfl rfl ?_
      refine g_X14_456 dX14_again_117 rfl (hz.o14 rfl) (hz.i929 rfl) ?_
      refine w_if_ne 125 dX14_again_120 rfl rfl (fun q120 => ?_) (fun q120 => ?_)
      · have hr := bf q120 hr
        refine w_aload_n 1 dX14_again_125 rfl rfl rfl ?_
        refine w_iconst 0 dX14_again_126 rfl rfl ?_
        refine p_X14_456 dX14_again_127 rfl (hz.o14 rfl) (Or.inl rfl) ?_
        obtain ⟨ρ19, e20, hr⟩ := lt_e hr
        have hz := (hz.s929 (v := 0) rfl).tr e20
        refine w_goto 170 dX14_again_130 rfl ?_
        refine w_iconst 0 dX14_again_170 rfl rfl ?_
        refine w_zret hf dX14_again_171 rfl rfl (Nat.le_of_ble_eq_true rfl) (Nat.le_of_ble_eq_true rfl) ?_
        obtain ⟨rfl, rfl⟩ := ret_inj hr
        exact ⟨rfl, hz⟩
      · have hr := bt q120 hr
        refine w_iconst 1 dX14_again_123 rfl rfl ?_
        refine w_zret hf dX14_again_124 rfl rfl (Nat.le_of_ble_eq_true rfl) (Nat.le_of_ble_eq_true rfl) ?_
        obtain ⟨rfl, rfl⟩ := ret_inj hr
        exact ⟨rfl, hz⟩
  · have hr := bt q13 hr
    refine w_aload_n 1 dX14_again_16 rfl rfl rfl ?_
    have hv21 := hz.ww898 (p := 0) (s := 0) rfl
    refine g_X14_16 dX14_again_17 rfl (hz.o14 rfl) (hz.rr898 rfl) ?_
    refine g_X14_295 dX14_again_20 rfl (hz.o12 hv21) (hz.r769 hv21) ?_
    refine w_iconst 0 dX14_again_23 rfl rfl ?_
    refine w_aload_n 1 dX14_again_24 rfl rfl rfl ?_
    have hv22 := hz.ww898 (p := 0) (s := 0) rfl
    refine g_X14_16 dX14_again_25 rfl (hz.o14 rfl) (hz.rr898 rfl) ?_
    refine g_X14_298 dX14_again_28 rfl (hz.o12 hv22) (hz.i768 hv22) ?_
    refine w_aload_n 1 dX14_again_31 rfl rfl rfl ?_
    refine g_X14_113 dX14_again_32 rfl (hz.o14 rfl) (hz.r944 rfl) ?_
    refine w_iload_n 2 dX14_again_35 rfl rfl rfl ?_
    obtain ⟨g23, hr⟩ := gd hr
    refine w_lald dX14_again_36 rfl (hz.k944 rfl) (gin (hz.n944 rfl) g23) (hz.x944 rfl) ?_
    obtain ⟨v24, ρ25, e26, hr⟩ := bq_some hr
    refine c_X14_192 (b := 0) (As := [.ref (A 1793 (zR ρ 898 0 0 0).1 0), .int 0, .int (zI ρ 768 ((zR ρ 898 0 0 0).1) 0 0), .long (zJ ρ 1968 0 0 (Int32.toNatClampNeg x1))]) (rest := []) (fun l => s_X14_indexOf (aok_769 hv21) rfl hz e26 l) hrm dX14_again_37 rfl rfl (Nat.le_of_ble_eq_true rfl) (Nat.le_of_ble_eq_true rfl) (Nat.le_of_ble_eq_true rfl) rfl (Nat.le_of_ble_eq_true rfl) (fun vr h2 hq => ?_) (fun E9 h9 hq => hq.elim)
    obtain ⟨rfl, hz⟩ := hq
    show wp _ _ 40 [(2, .int (zI ρ 1966 0 0 (Int32.toNatClampNeg x1))), (0, .ref (A 14 0 0)), (1, .int x1)] [.int v24] _ _ _
    refine w_istore_n [(3, .int v24), (2, .int (zI ρ 1966 0 0 (Int32.toNatClampNeg x1))), (0, .ref (A 14 0 0)), (1, .int x1)] dX14_again_40 rfl rfl (by decide) rfl ?_
    refine w_aload_n 2 dX14_again_41 rfl rfl rfl ?_
    refine g_X14_456 dX14_again_42 rfl (hz.o14 rfl) (hz.i929 rfl) ?_
    refine w_if_ne 83 dX14_again_45 rfl rfl (fun q45 => ?_) (fun q45 => ?_)
    · have hr := bf q45 hr
      refine w_iconst 1 dX14_again_83 rfl rfl ?_
      refine w_zret hf dX14_again_84 rfl rfl (Nat.le_of_ble_eq_true rfl) (Nat.le_of_ble_eq_true rfl) ?_
      obtain ⟨rfl, rfl⟩ := ret_inj hr
      exact ⟨rfl, hz⟩
    · have hr := bt q45 hr
      refine w_iload_n 0 dX14_again_48 rfl rfl rfl ?_
      refine w_iconst (-1) dX14_again_49 rfl rfl ?_
      refine w_icmp_eq 83 dX14_again_50 rfl rfl (fun q50 => ?_) (fun q50 => ?_)
      · have hr := bt q50 hr
        refine w_iconst 1 dX14_again_83 rfl rfl ?_
        refine w_zret hf dX14_again_84 rfl rfl (Nat.le_of_ble_eq_true rfl) (Nat.le_of_ble_eq_true rfl) ?_
        obtain ⟨rfl, rfl⟩ := ret_inj hr
        exact ⟨rfl, hz⟩
      · have hr := bf q50 hr
        refine w_aload_n 2 dX14_again_53 rfl rfl rfl ?_
        have hv28 := hz.ww898 (p := 0) (s := 0) rfl
        refine g_X14_16 dX14_again_54 rfl (hz.o14 rfl) (hz.rr898 rfl) ?_
        refine g_X14_368 dX14_again_57 rfl (hz.o12 hv28) (hz.r770 hv28) ?_
        refine w_iload_n 0 dX14_again_60 rfl rfl rfl ?_
        obtain ⟨g29, hr⟩ := gd hr
        refine w_iald dX14_again_61 rfl (hz.k770 hv28) (gin (hz.n770 hv28) g29) (hz.x770 hv28) ?_
        refine w_if_ne 83 dX14_again_62 rfl rfl (fun q62 => ?_) (fun q62 => ?_)
        · have hr := bf q62 hr
          refine w_iconst 1 dX14_again_83 rfl rfl ?_
          refine w_zret hf dX14_again_84 rfl rfl (Nat.le_of_ble_eq_true rfl) (Nat.le_of_ble_eq_true rfl) ?_
          obtain ⟨rfl, rfl⟩ := ret_inj hr
          exact ⟨rfl, hz⟩
        · have hr := bt q62 hr
          refine w_aload_n 2 dX14_again_65 rfl rfl rfl ?_
          have hv30 := hz.ww898 (p := 0) (s := 0) rfl
          refine g_X14_16 dX14_again_66 rfl (hz.o14 rfl) (hz.rr898 rfl) ?_
          refine g_X14_292 dX14_again_69 rfl (hz.o12 hv30) (hz.r771 hv30) ?_
          refine w_iload_n 0 dX14_again_72 rfl rfl rfl ?_
          obtain ⟨g31, hr⟩ := gd hr
          refine w_iald dX14_again_73 rfl (hz.k771 hv30) (gin (hz.n771 hv30) g31) (hz.x771 hv30) ?_
          refine w_aload_n 2 dX14_again_74 rfl rfl rfl ?_
          refine g_X14_110 dX14_again_75 rfl (hz.o14 rfl) (hz.r943 rfl) ?_
          refine w_iload_n 3 dX14_again_78 rfl rfl rfl ?_
          obtain ⟨g32, hr⟩ := gd hr
          refine w_iald dX14_again_79 rfl (hz.k943 rfl) (gin (hz.n943 rfl) g32) (hz.x943 rfl) ?_
          refine w_icmp_eq 85 dX14_again_80 rfl rfl (fun q80 => ?_) (fun q80 => ?_)
          · have hr := bt q80 hr
            refine w_aload_n 2 dX14_again_85 rfl rfl rfl ?_
            refine w_aload_n 2 dX14_again_86 rfl rfl rfl ?_
            refine w_iload_n 0 dX14_again_87 rfl rfl rfl ?_
            refine w_iload_n 1 dX14_again_88 rfl rfl rfl ?_
            refine w_aload_n 2 dX14_again_89 rfl rfl rfl ?_
            refine g_X14_116 dX14_again_90 rfl (hz.o14 rfl) (hz.r945 rfl) ?_
            refine w_bipush 6 dX14_again_93 rfl rfl ?_
            refine w_iload_n 3 dX14_again_95 rfl rfl rfl ?_
            refine w_imul dX14_again_96 rfl ?_
            obtain ⟨v33, ρ34, e35, hr⟩ := bq_some hr
            refine c_X14_560 (As := [.int v24, .int (zI ρ 1966 0 0 (Int32.toNatClampNeg x1)), .ref (A 1969 0 0), .int (6 * x1)]) (rest := [.ref (A 14 0 0)]) (fun l => s_X14_doPush  hz e35 l) hrm dX14_again_97 rfl rfl (Nat.le_of_ble_eq_true rfl) (Nat.le_of_ble_eq_true rfl) (Nat.le_of_ble_eq_true rfl) (hz.o14 rfl) rfl (Nat.le_of_ble_eq_true rfl) (fun vr h2 hq => ?_) (fun E9 h9 hq => hq.elim)
            obtain ⟨rfl, hz⟩ := hq
            show wp _ _ 100 [(3, .int v24), (2, .int (zI ρ 1966 0 0 (Int32.toNatClampNeg x1))), (0, .ref (A 14 0 0)), (1, .int x1)] [.int v33, .ref (A 14 0 0)] _ _ _
            refine p_X14_478 dX14_again_100 rfl (hz.o14 rfl) ?_
            obtain ⟨ρ37, e38, hr⟩ := lt_e hr
            have hz := (hz.s930 (v := v33) rfl).tr e38
            refine w_goto 170 dX14_again_103 rfl ?_
            refine w_iconst 0 dX14_again_170 rfl rfl ?_
            refine w_zret hf dX14_again_171 rfl rfl (Nat.le_of_ble_eq_true rfl) (Nat.le_of_ble_eq_true rfl) ?_
            obtain ⟨rfl, rfl⟩ := ret_inj hr
            exact ⟨rfl, hz⟩
          · have hr := bf q80 hr
            refine w_iconst 1 dX14_again_83 rfl rfl ?_
            refine w_zret hf dX14_again_84 rfl rfl (Nat.le_of_ble_eq_true rfl) (Nat.le_of_ble_eq_true rfl) ?_
            obtain ⟨rfl, rfl⟩ := ret_inj hr
            exact ⟨rfl, hz⟩

